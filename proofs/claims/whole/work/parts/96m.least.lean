/-! ===== least ===== -/
def pcN (x : Nat) : Nat → Nat
  | 0 => 0
  | k + 1 => pcN x k + ((x >>> k) &&& 1)
def pc (x : Nat) : Nat := pcN x 10
theorem pc_low : ∀ x, x < 1024 → ¬ x = 0 → pc (x &&& (x - 1)) + 1 = pc x ∧ (x &&& (x - 1)) < 1024 := by decide +kernel
theorem pc_le : ∀ x, x < 1024 → pc x ≤ 10 := by decide +kernel
theorem pc_le4 : ∀ x, x < 16 → pc x ≤ 4 := by decide +kernel
theorem bitC : ∀ x, x < 1024 → m_J6_bitCount_0f7a4 (nI x) = some (nI (pc x)) := by decide +kernel
theorem r_bits_loop {p0 : Int32} : ∀ (n c x : Nat), x < 1024 → pc x ≤ n → m_X12_bits_w4 p0 (n + 1) (nI c) (nI x) = some (nI (c + pc x)) := by
  intro n
  induction n with
  | zero =>
    intro c x hx hp
    by_cases h : x = 0
    · subst h; rw [m_X12_bits_w4, if_pos (show nI 0 = 0 from rfl)]; rfl
    · have := pc_low x hx h; omega
  | succ n ih =>
    intro c x hx hp
    by_cases h : x = 0
    · subst h; rw [m_X12_bits_w4, if_pos (show nI 0 = 0 from rfl)]; rfl
    · have q := pc_low x hx h
      rw [m_X12_bits_w4, if_neg (nI_ne0 (by omega) (by omega)), nm, nm, nI_1, show (1 : Int32) = nI 1 from rfl, nI_subE (by omega), nI_and, ih (c + 1) _ q.2 (by omega)]
      rw [show c + 1 + pc (x &&& (x - 1)) = c + pc x by omega]
theorem r_bits {x : Nat} (hx : x < 1024) : m_X12_bits (nI x) = some (nI (pc x)) := by
  have := r_bits_loop (p0 := nI x) 99999 0 x hx (by have := pc_le x hx; omega)
  rw [Nat.zero_add] at this
  exact this
def sF (o x : Nat) : Nat := o / 16 * 16 + (15 - x)
theorem sF_is : ∀ o, o < 128 → ∀ x, x < 16 → ((nI o &&& (-16)) ||| (15 &&& (nI x ^^^ (-1)))) = nI (sF o x) ∧ sF o x < 128 := by decide +kernel
def bstA (snd : Nat → Bool) : Nat → Option Nat
  | 0 => none
  | k + 1 => match bstA snd k with
    | none => if snd k = true then some k else none
    | some b => if pc k < pc b ∧ snd k = true then some k else some b
def bstP (snd : Nat → Bool) (n : Nat) (o : Option Nat) : Prop := match o with
  | none => ∀ y, y < n → snd y = false
  | some x => x < n ∧ snd x = true ∧ ∀ y, y < n → snd y = true → pc x < pc y ∨ (pc x = pc y ∧ x ≤ y)
theorem bstA_P {snd : Nat → Bool} : ∀ n, bstP snd n (bstA snd n) := by
  intro n
  induction n with
  | zero => exact fun y hy => absurd hy (Nat.not_lt_zero _)
  | succ n ih =>
    rw [bstA]
    cases e : bstA snd n with
    | none =>
      rw [e] at ih
      have ih : ∀ y, y < n → snd y = false := ih
      dsimp only
      by_cases c : snd n = true
      · rw [if_pos c]
        refine ⟨Nat.lt_succ_self _, c, fun y hy hs => ?_⟩
        by_cases d : y < n
        · rw [ih y d] at hs; cases hs
        · have : y = n := by omega
          subst this; exact Or.inr ⟨rfl, Nat.le_refl _⟩
      · rw [if_neg c]
        intro y hy
        by_cases d : y < n
        · exact ih y d
        · have : y = n := by omega
          subst this; exact Bool.eq_false_iff.mpr c
    | some b =>
      rw [e] at ih
      obtain ⟨i1, i2, i3⟩ : b < n ∧ snd b = true ∧ ∀ y, y < n → snd y = true → pc b < pc y ∨ (pc b = pc y ∧ b ≤ y) := ih
      dsimp only
      by_cases c : pc n < pc b ∧ snd n = true
      · rw [if_pos c]
        refine ⟨Nat.lt_succ_self _, c.2, fun y hy hs => ?_⟩
        by_cases d : y < n
        · have := i3 y d hs; omega
        · have : y = n := by omega
          subst this; exact Or.inr ⟨rfl, Nat.le_refl _⟩
      · rw [if_neg c]
        refine ⟨by omega, i2, fun y hy hs => ?_⟩
        by_cases d : y < n
        · exact i3 y d hs
        · have : y = n := by omega
          subst this
          have : ¬ pc y < pc b := fun e => c ⟨e, hs⟩
          omega
theorem bst_none {snd : Nat → Bool} {n : Nat} (h : ∀ y, y < n → snd y = false) : bstA snd n = none := by
  have := bstA_P (snd := snd) n
  cases e : bstA snd n with
  | none => rfl
  | some x =>
    rw [e] at this
    have h1 : x < n ∧ snd x = true := ⟨this.1, this.2.1⟩
    rw [h x h1.1] at h1
    cases h1.2
theorem bst_some {snd : Nat → Bool} {n x : Nat} (h : x < n) (hs : snd x = true) (hq : ∀ y, y < n → snd y = true → pc x < pc y ∨ (pc x = pc y ∧ x ≤ y)) : bstA snd n = some x := by
  have := bstA_P (snd := snd) n
  cases e : bstA snd n with
  | none =>
    rw [e] at this
    have this : ∀ y, y < n → snd y = false := this
    rw [this x h] at hs; cases hs
  | some z =>
    rw [e] at this
    obtain ⟨i1, i2, i3⟩ : z < n ∧ snd z = true ∧ ∀ y, y < n → snd y = true → pc z < pc y ∨ (pc z = pc y ∧ z ≤ y) := this
    have a := i3 x h hs
    have b := hq z i1 i2
    have : z = x := by omega
    rw [this]
def lsA (mode : Nat) (A : MA) (x : Nat) : Bool := sndA mode A (sF (gO A) x)
def ansL (p : Nat) (o : Option Nat) : Int32 := match o with
  | none => -1
  | some x => if p = 0 then nI x else nI (pc x)
theorem c_least_inner {F0 mdm stm hdm akm mim bem afm wam tam : Nat → Int32} {mode p many : Nat} {A : MA} (hm2 : mode < 2) (hC : CM F0 mdm stm hdm akm mim bem afm wam tam mode A) (hV : VM mode A) (hp : p ≤ 1) (hmany : many ≤ 4) {K : Int32 → Int32 → (Nat → Int32) → (Nat → Int32) → (Nat → Int32) → (Nat → Int32) → (Nat → Int32) → (Nat → Int32) → (Nat → Int32) → (Nat → Int32) → (Nat → Int32) → (Nat → Int32) → (Nat → Int32) → (Nat → Int32) → (Nat → Int32) → (Nat → Int32) → (Nat → Int32) → (Nat → Int32) → (Nat → Int32) → (Nat → Int32) → (Nat → Int32) → (Nat → Int32) → (Nat → Int32) → (Nat → Int32) → (Nat → Int32) → (Nat → Int32) → (Nat → Int32) → (Nat → Int32) → Option (Int32 × Int32 × (Nat → Int32) × (Nat → Int32) × (Nat → Int32) × (Nat → Int32) × (Nat → Int32) × (Nat → Int32) × (Nat → Int32) × (Nat → Int32) × (Nat → Int32) × (Nat → Int32) × (Nat → Int32) × (Nat → Int32) × (Nat → Int32) × (Nat → Int32) × (Nat → Int32) × (Nat → Int32) × (Nat → Int32) × (Nat → Int32) × (Nat → Int32) × (Nat → Int32) × (Nat → Int32) × (Nat → Int32) × (Nat → Int32) × (Nat → Int32) × (Nat → Int32) × (Nat → Int32))}
    (hK : (∀ y, y < 16 → lsA mode A y = true → many < pc y) → ∀ Pq shq F T P sh wq adq nuq olq md st hd ak mi be af wa ta w ad nu ol row pic se : Nat → Int32, ∃ U : (Nat → Int32) × (Nat → Int32) × (Nat → Int32) × (Nat → Int32) × (Nat → Int32) × (Nat → Int32) × (Nat → Int32) × (Nat → Int32) × (Nat → Int32) × (Nat → Int32) × (Nat → Int32) × (Nat → Int32) × (Nat → Int32) × (Nat → Int32) × (Nat → Int32) × (Nat → Int32) × (Nat → Int32) × (Nat → Int32) × (Nat → Int32) × (Nat → Int32) × (Nat → Int32) × (Nat → Int32) × (Nat → Int32) × (Nat → Int32) × (Nat → Int32) × (Nat → Int32), K (nI (gO A) &&& (-16)) (nI many) Pq shq F T P sh wq adq nuq olq md st hd ak mi be af wa ta w ad nu ol row pic se = some (0, ansL p (bstA (lsA mode A) 16), U)) :
    ∀ (d x fuel : Nat) (Pq shq F T P sh wq adq nuq olq md st hd ak mi be af wa ta w ad nu ol row pic se : Nat → Int32), x + d = 16 → d < fuel → (∀ y, y < 16 → lsA mode A y = true → many < pc y ∨ (many = pc y ∧ x ≤ y)) →
      ∃ U : (Nat → Int32) × (Nat → Int32) × (Nat → Int32) × (Nat → Int32) × (Nat → Int32) × (Nat → Int32) × (Nat → Int32) × (Nat → Int32) × (Nat → Int32) × (Nat → Int32) × (Nat → Int32) × (Nat → Int32) × (Nat → Int32) × (Nat → Int32) × (Nat → Int32) × (Nat → Int32) × (Nat → Int32) × (Nat → Int32) × (Nat → Int32) × (Nat → Int32) × (Nat → Int32) × (Nat → Int32) × (Nat → Int32) × (Nat → Int32) × (Nat → Int32) × (Nat → Int32), m_X11_least_w65 F0 mdm stm hdm akm mim bem afm wam tam (nI p) (m_X11_least_j110 F0 mdm stm hdm akm mim bem afm wam tam (nI p)) K fuel (nI (gO A) &&& (-16)) (nI many) (nI x) Pq shq F T P sh wq adq nuq olq md st hd ak mi be af wa ta w ad nu ol row pic se = some (0, ansL p (bstA (lsA mode A) 16), U) := by
  intro d
  induction d with
  | zero =>
    intro x fuel Pq shq F T P sh wq adq nuq olq md st hd ak mi be af wa ta w ad nu ol row pic se hk hf hq
    obtain ⟨fuel, rfl⟩ : ∃ d, fuel = d + 1 := ⟨fuel - 1, by omega⟩
    rw [m_X11_least_w65, if_pos (show (15 : Int32) < nI x from nI_lt (a := 15) (by omega) (by omega))]
    exact hK (fun y hy hs => by have := hq y hy hs; omega) _ _ _ _ _ _ _ _ _ _ _ _ _ _ _ _ _ _ _ _ _ _ _ _ _ _
  | succ d ih =>
    intro x fuel Pq shq F T P sh wq adq nuq olq md st hd ak mi be af wa ta w ad nu ol row pic se hk hf hq
    obtain ⟨fuel, rfl⟩ : ∃ d, fuel = d + 1 := ⟨fuel - 1, by omega⟩
    have hO := hV.2.2.2.2.1
    have hs := sF_is (gO A) hO x (by omega)
    have h4 := pc_le4 x (by omega)
    rw [m_X11_least_w65, if_neg (show ¬ (15 : Int32) < nI x from nI_nlt (a := 15) (by omega) (by decide)), bd_ok (bitC x (by omega))]
    by_cases c : pc x = many
    · rw [if_pos (show nI (pc x) = nI many by rw [c]), hs.1]
      obtain ⟨U, q1, q2⟩ := c_run (h := true) (o := sF (gO A) x) (F := F) (T := T) (P := P) (sh := sh) (md := md) (st := st) (hd := hd) (ak := ak) (mi := mi) (be := be) (af := af) (wa := wa) (ta := ta) (w := w) (ad := ad) (nu := nu) (ol := ol) (row := row) (pic := pic) (se := se) hm2 hC hV hs.2
      rw [show nI (bN true) = 1 from rfl] at q1
      rw [bd_ok q1, bd_ok (c_isSound q2)]
      cases e : sndA mode A (sF (gO A) x) with
      | false =>
        have e : lsA mode A x = false := e
        rw [if_pos (show nI (bN false) = 0 from rfl), m_X11_least_j122, nm, show nI x + 1 = nI (x + 1) from nI_1 _]
        exact ih (x + 1) fuel _ _ _ _ _ _ _ _ _ _ _ _ _ _ _ _ _ _ _ _ _ _ _ _ _ _ (by omega) (by omega) (fun y hy ht => by
          by_cases z : y = x
          · rw [z, e] at ht; cases ht
          · have := hq y hy ht; omega)
      | true =>
        have e : lsA mode A x = true := e
        have hb : bstA (lsA mode A) 16 = some x := bst_some (by omega) e (fun y hy hs => by have := hq y hy hs; omega)
        rw [if_neg (show ¬ nI (bN true) = 0 by decide), m_X11_least_j110, hb]
        by_cases z : p = 0
        · rw [if_pos (show nI p = 0 by rw [z]; rfl), ansL, if_pos z]; exact ⟨_, rfl⟩
        · rw [if_neg (show ¬ nI p = 0 from nI_ne0 (by omega) (by omega)), ansL, if_neg z, c]; exact ⟨_, rfl⟩
    · rw [if_neg (show ¬ nI (pc x) = nI many from fun e => c (nI_inj (by omega) (by omega) e)), m_X11_least_j122, nm, show nI x + 1 = nI (x + 1) from nI_1 _]
      exact ih (x + 1) fuel _ _ _ _ _ _ _ _ _ _ _ _ _ _ _ _ _ _ _ _ _ _ _ _ _ _ (by omega) (by omega) (fun y hy ht => by
        by_cases z : y = x
        · have := hq y hy ht; rw [z] at this ⊢; omega
        · have := hq y hy ht; omega)
theorem c_least_outer {F0 mdm stm hdm akm mim bem afm wam tam : Nat → Int32} {mode p : Nat} {A : MA} (hm2 : mode < 2) (hC : CM F0 mdm stm hdm akm mim bem afm wam tam mode A) (hV : VM mode A) (hp : p ≤ 1) :
    ∀ (d many fuel : Nat) (Pq shq F T P sh wq adq nuq olq md st hd ak mi be af wa ta w ad nu ol row pic se : Nat → Int32), many + d = 5 → d < fuel → (∀ y, y < 16 → lsA mode A y = true → many ≤ pc y) →
      ∃ U : (Nat → Int32) × (Nat → Int32) × (Nat → Int32) × (Nat → Int32) × (Nat → Int32) × (Nat → Int32) × (Nat → Int32) × (Nat → Int32) × (Nat → Int32) × (Nat → Int32) × (Nat → Int32) × (Nat → Int32) × (Nat → Int32) × (Nat → Int32) × (Nat → Int32) × (Nat → Int32) × (Nat → Int32) × (Nat → Int32) × (Nat → Int32) × (Nat → Int32) × (Nat → Int32) × (Nat → Int32) × (Nat → Int32) × (Nat → Int32) × (Nat → Int32) × (Nat → Int32), m_X11_least_w52 F0 mdm stm hdm akm mim bem afm wam tam (nI p) (m_X11_least_j110 F0 mdm stm hdm akm mim bem afm wam tam (nI p)) fuel (nI (gO A) &&& (-16)) (nI many) Pq shq F T P sh wq adq nuq olq md st hd ak mi be af wa ta w ad nu ol row pic se = some (0, ansL p (bstA (lsA mode A) 16), U) := by
  intro d
  have h15 : m_J6_bitCount_0f7a4 15 = some (nI 4) := bitC 15 (by decide)
  induction d with
  | zero =>
    intro many fuel Pq shq F T P sh wq adq nuq olq md st hd ak mi be af wa ta w ad nu ol row pic se hk hf hq
    obtain ⟨fuel, rfl⟩ : ∃ d, fuel = d + 1 := ⟨fuel - 1, by omega⟩
    have hb : bstA (lsA mode A) 16 = none := bst_none (fun y hy => Bool.eq_false_iff.mpr (fun e => by have := hq y hy e; have := pc_le4 y hy; omega))
    rw [m_X11_least_w52, bd_ok h15, if_pos (show nI 4 < nI many from nI_lt (by omega) (by omega)), hb]
    exact ⟨_, rfl⟩
  | succ d ih =>
    intro many fuel Pq shq F T P sh wq adq nuq olq md st hd ak mi be af wa ta w ad nu ol row pic se hk hf hq
    obtain ⟨fuel, rfl⟩ : ∃ d, fuel = d + 1 := ⟨fuel - 1, by omega⟩
    rw [m_X11_least_w52, bd_ok h15, if_neg (show ¬ nI 4 < nI many from nI_nlt (by omega) (by decide))]
    exact c_least_inner (many := many) hm2 hC hV hp (by omega) (fun hq2 Pq shq F T P sh wq adq nuq olq md st hd ak mi be af wa ta w ad nu ol row pic se => by
      rw [m_X11_least_j128, nm, show nI many + 1 = nI (many + 1) from nI_1 _]
      exact ih (many + 1) fuel _ _ _ _ _ _ _ _ _ _ _ _ _ _ _ _ _ _ _ _ _ _ _ _ _ _ (by omega) (by omega) (fun y hy hs => hq2 y hy hs)) 16 0 fuelN _ _ _ _ _ _ _ _ _ _ _ _ _ _ _ _ _ _ _ _ _ _ _ _ _ _ (by omega) (by rw [fuel_is]; omega) (fun y hy hs => by have := hq y hy hs; omega)
theorem nI_m1 {j : Nat} (h : j < 2 ^ 31) : ¬ nI j = -1 := nI_ne1 h
def encL (o : Option Nat) : Int32 := match o with
  | none => -1
  | some x => nI x
theorem r_least_loop {mode p : Nat} {A : MA} (hm2 : mode < 2) (hV : VM mode A) (hp : p ≤ 1) :
    ∀ (d x fuel : Nat) (F rows w ad nu me ord im we : Nat → Int32), x + d = 16 → d < fuel → RM rows 0 A → F 12 = nI mode →
      ∃ (F' r : Nat → Int32) (V : (Nat → Int32) × (Nat → Int32) × (Nat → Int32) × (Nat → Int32) × (Nat → Int32) × (Nat → Int32) × (Nat → Int32)), m_X12_least_w34 (nI p) (m_X12_least_j92 (nI p)) fuel (encL (bstA (lsA mode A) x)) (nI x) F rows w ad nu me ord im we = some (ansL p (bstA (lsA mode A) 16), F', r, V) ∧ frK F' F ∧ fr2 r rows := by
  intro d
  induction d with
  | zero =>
    intro x fuel F rows w ad nu me ord im we hk hf hR h12
    obtain ⟨fuel, rfl⟩ : ∃ d, fuel = d + 1 := ⟨fuel - 1, by omega⟩
    have hx : x = 16 := by omega
    subst hx
    rw [m_X12_least_w34, if_pos (show (16 : Int32) ≤ nI 16 by decide), m_X12_least_j92]
    have hP := bstA_P (snd := lsA mode A) 16
    cases e : bstA (lsA mode A) 16 with
    | none =>
      rw [show encL none = -1 from rfl, if_pos (rfl : (-1 : Int32) = -1)]
      refine ⟨F, rows, (w, ad, nu, me, ord, im, we), ?_, fun _ _ _ => rfl, fun _ _ => rfl⟩
      by_cases z : nI p = 0
      · rw [if_pos z]; rfl
      · rw [if_neg z]; rfl
    | some b =>
      rw [e] at hP
      have hb : b < 16 := hP.1
      rw [show encL (some b) = nI b from rfl, if_neg (nI_m1 (by omega)), bd_ok (r_bits (by omega))]
      refine ⟨F, rows, (w, ad, nu, me, ord, im, we), ?_, fun _ _ _ => rfl, fun _ _ => rfl⟩
      by_cases z : p = 0
      · rw [if_pos (show nI p = 0 by rw [z]; rfl), ansL, if_pos z]
      · rw [if_neg (show ¬ nI p = 0 from nI_ne0 (by omega) (by omega)), ansL, if_neg z]
  | succ d ih =>
    intro x fuel F rows w ad nu me ord im we hk hf hR h12
    obtain ⟨fuel, rfl⟩ : ∃ d, fuel = d + 1 := ⟨fuel - 1, by omega⟩
    have hO := hV.2.2.2.2.1
    have hs := sF_is (gO A) hO x (by omega)
    have e5 : rows 773 = nI (gO A) := by have := hR.2.2.2.2.1; rw [Nat.zero_add] at this; exact this
    have hP := bstA_P (snd := lsA mode A) x
    have go : ∀ cur : Int32, (lsA mode A x = true → bstA (lsA mode A) (x + 1) = some x) → (lsA mode A x = false → encL (bstA (lsA mode A) (x + 1)) = cur) → ∃ (F' r : Nat → Int32) (V : (Nat → Int32) × (Nat → Int32) × (Nat → Int32) × (Nat → Int32) × (Nat → Int32) × (Nat → Int32) × (Nat → Int32)), m_X12_least_j59 (nI p) (m_X12_least_w34 (nI p) (m_X12_least_j92 (nI p)) fuel) cur (nI x) F rows w ad nu me ord im we = some (ansL p (bstA (lsA mode A) 16), F', r, V) ∧ frK F' F ∧ fr2 r rows := by
      intro cur g1 g2
      obtain ⟨F', r, w', ad', nu', me', ord', im', we', z1, z4, z5⟩ := r_isWell (w := w) (ad := ad) (nu := nu) (me := me) (ord := ord) (im := im) (we := we) hm2 hR hV h12 hs.2
      have hR' : RM r 0 A := RM_fr hV (fun j p q => z5 j (by omega)) hR
      have h12' : F' 12 = nI mode := (z4 12 (by decide) (by decide)).trans h12
      rw [m_X12_least_j59, show (773 : Int32) = nI 773 from rfl, rd_nI (by decide) (by decide), e5, hs.1, bd_ok z1]
      obtain ⟨F2, r2, V2, y1, y2, y3⟩ := ih (x + 1) fuel F' r w' ad' nu' me' ord' im' we' (by omega) (by omega) hR' h12'
      refine ⟨F2, r2, V2, ?_, frK_tr y2 z4, fr2_tr y3 z5⟩
      dsimp only
      cases e : sndA mode A (sF (gO A) x) with
      | false =>
        have e : lsA mode A x = false := e
        rw [if_pos (show nI (bN false) = 0 from rfl), m_X12_least_j86, nm, show nI x + 1 = nI (x + 1) from nI_1 _, ← g2 e]
        exact y1
      | true =>
        have e : lsA mode A x = true := e
        rw [g1 e] at y1
        rw [if_neg (show ¬ nI (bN true) = 0 by decide), m_X12_least_j86, nm, show nI x + 1 = nI (x + 1) from nI_1 _]
        exact y1
    rw [m_X12_least_w34, if_neg (show ¬ (16 : Int32) ≤ nI x from nI_ge (b := 16) (by omega) (by decide))]
    cases e : bstA (lsA mode A) x with
    | none =>
      rw [show encL none = -1 from rfl, if_pos (rfl : (-1 : Int32) = -1)]
      refine go _ (fun t => ?_) (fun t => ?_)
      · rw [bstA, e]; dsimp only; rw [if_pos t]
      · rw [bstA, e]; dsimp only; rw [if_neg (by rw [t]; decide)]; rfl
    | some b =>
      rw [e] at hP
      have hb : b < x := hP.1
      rw [show encL (some b) = nI b from rfl, if_neg (nI_m1 (by omega)), bd_ok (r_bits (by omega)), bd_ok (r_bits (by omega))]
      have p1 := pc_le x (by omega)
      have p2 := pc_le b (by omega)
      by_cases c : pc x < pc b
      · rw [if_pos (nI_lt c (by omega))]
        refine go _ (fun t => ?_) (fun t => ?_)
        · rw [bstA, e]; dsimp only; rw [if_pos ⟨c, t⟩]
        · rw [bstA, e]; dsimp only; rw [if_neg (fun q => by rw [t] at q; cases q.2)]; rfl
      · rw [if_neg (nI_nlt (by omega) (by omega)), m_X12_least_j86, nm, show nI x + 1 = nI (x + 1) from nI_1 _]
        have e1 : bstA (lsA mode A) (x + 1) = some b := by rw [bstA, e]; dsimp only; rw [if_neg (fun q => c q.1)]
        have := ih (x + 1) fuel F rows w ad nu me ord im we (by omega) (by omega) hR h12
        rw [e1] at this
        exact this

theorem lr_least {n : Nat} {S : LwS} (h : LR n S) (a1 a2 a3 a4 a5 : Int32) : ∃ T, sL_least S a1 a2 a3 a4 a5 = some T ∧ LR (n + 1) T := by
  obtain ⟨mode, G, I, b1, b2, b3, b4⟩ := id h
  have hC := LX_cm b1
  have hV := b1.2.1.1
  have hR : RM (S.2.1 1) 0 G.1 := b1.2.2.2.1.1
  have hm2 := b1.1
  have hF : S.2.1 0 12 = nI mode := b1.2.2.2.2
  have h4 : upd (S.2.1 0) 4 0 4 = 0 := upd_eq
  have h41 : upd (upd (S.2.1 0) 4 0) 4 1 4 = 1 := upd_eq
  have hF1 : upd (S.2.1 0) 4 0 12 = nI mode := (upd_ne (by decide)).trans hF
  have e10 : S.1.1 3 10 = nI (gO G.1) := hC.2.2.2.2.2.1
  rcases r_withinX (x := a1) (lo := 0) (hi := 1) (by decide) (by decide) with ⟨wa, p, rfl, w1, w2⟩ | ⟨wa, wb⟩
  · have wa : m_X12_within (nI p) 0 1 = some 1 := wa
    obtain ⟨P', sh', w', ad', nu', ol', k1⟩ := c_isReady (P := S.1.1 18) (sh := S.1.1 23) (w := S.1.1 19) (ad := S.1.1 20) (nu := S.1.1 21) (ol := S.1.1 22) hC hV
    obtain ⟨F1, r1, w1', ad1, nu1, i1, i2, i3⟩ := r_isReady (w := S.2.1 6) (ad := S.2.1 7) (nu := S.2.1 8) hm2 hR hV hF1
    have n0 : ¬ nI p < 0 := nI_nlt (b := 0) (by omega) (by omega)
    have n1 : nI p ≤ 1 := nI_le (b := 1) w2 (by decide)
    cases hr : rdyA mode G.1 with
    | false =>
      rw [hr] at k1 i1
      obtain ⟨c', d1, d2, d3⟩ := pc_least (C := S.1) (a := nI p) (k := 0) (x := -1) (U := (P', sh', S.1.1 32, S.1.1 33, S.1.1 44, S.1.1 49, w', ad', nu', ol', S.1.1 35, S.1.1 36, S.1.1 37, S.1.1 38, S.1.1 39, S.1.1 40, S.1.1 41, S.1.1 42, S.1.1 43, S.1.1 45, S.1.1 46, S.1.1 47, S.1.1 48, S.1.1 51, S.1.1 52, S.1.1 53)) (by
        rw [m_X11_least, if_neg n0, if_pos n1, bd_ok k1, if_pos (show nI (bN false) = 0 from rfl)])
      obtain ⟨M', f1, f2⟩ := pm_least (M := S.2.1) (a := nI p) (x := -1) (F := F1) (r := r1) (V := (w1', ad1, nu1, S.2.1 9, S.2.1 10, S.2.1 11, S.2.1 12)) (by
        rw [m_X12_least, nm, bd_ok wa, bd_ok (r_right1 h4)]
        dsimp only
        rw [if_neg (show ¬ (1 : Int32) = 0 by decide), bd_ok i1, if_pos (show nI (bN false) = 0 from rfl)])
      obtain ⟨o, ho⟩ := sh_0 (S := S) (a := 1) (b := 6) (K := 1) d1 f1 (by rw [f2.1, i2 4 (by decide) (by decide)]; exact h4)
      exact ⟨_, ho, lq_end h d2 d3 f2 (frK_q i2) i3 (by omega) (by omega)⟩
    | true =>
      rw [hr] at k1 i1
      obtain ⟨U, u1⟩ := c_least_outer (p := p) hm2 hC hV w2 5 0 fuelN P' sh' (S.1.1 32) (S.1.1 33) (S.1.1 44) (S.1.1 49) w' ad' nu' ol' (S.1.1 35) (S.1.1 36) (S.1.1 37) (S.1.1 38) (S.1.1 39) (S.1.1 40) (S.1.1 41) (S.1.1 42) (S.1.1 43) (S.1.1 45) (S.1.1 46) (S.1.1 47) (S.1.1 48) (S.1.1 51) (S.1.1 52) (S.1.1 53) (by omega) (by rw [fuel_is]; omega) (fun y _ _ => Nat.zero_le _)
      obtain ⟨F2, r2, V2, y1, y2, y3⟩ := r_least_loop (p := p) hm2 hV w2 16 0 fuelN F1 r1 w1' ad1 nu1 (S.2.1 9) (S.2.1 10) (S.2.1 11) (S.2.1 12) (by omega) (by rw [fuel_is]; omega) (RM_fr hV (fun j p q => i3 j (by omega)) hR) ((i2 12 (by decide) (by decide)).trans hF1)
      obtain ⟨c', d1, d2, d3⟩ := pc_least (C := S.1) (a := nI p) (k := 0) (x := ansL p (bstA (lsA mode G.1) 16)) (U := U) (by
        rw [m_X11_least, if_neg n0, if_pos n1, bd_ok k1, if_neg (show ¬ nI (bN true) = 0 by decide), nm, e10]
        exact u1)
      obtain ⟨M', f1, f2⟩ := pm_least (M := S.2.1) (a := nI p) (x := ansL p (bstA (lsA mode G.1) 16)) (F := F2) (r := r2) (V := V2) (by
        rw [m_X12_least, nm, bd_ok wa, bd_ok (r_right1 h4)]
        dsimp only
        rw [if_neg (show ¬ (1 : Int32) = 0 by decide), bd_ok i1, if_neg (show ¬ nI (bN true) = 0 by decide)]
        exact y1)
      obtain ⟨o, ho⟩ := sh_0 (S := S) (a := 1) (b := 6) (K := 1) d1 f1 (by rw [f2.1, y2 4 (by decide) (by decide), i2 4 (by decide) (by decide)]; exact h4)
      exact ⟨_, ho, lq_end h d2 d3 f2 (frK_q (frK_tr y2 i2)) (fr2_tr y3 i3) (by omega) (by omega)⟩
  · have wa : m_X12_within a1 0 1 = some 0 := wa
    obtain ⟨U, hx⟩ : ∃ U : (Nat → Int32) × (Nat → Int32) × (Nat → Int32) × (Nat → Int32) × (Nat → Int32) × (Nat → Int32) × (Nat → Int32) × (Nat → Int32) × (Nat → Int32) × (Nat → Int32) × (Nat → Int32) × (Nat → Int32) × (Nat → Int32) × (Nat → Int32) × (Nat → Int32) × (Nat → Int32) × (Nat → Int32) × (Nat → Int32) × (Nat → Int32) × (Nat → Int32) × (Nat → Int32) × (Nat → Int32) × (Nat → Int32) × (Nat → Int32) × (Nat → Int32) × (Nat → Int32), m_X11_least (S.1.1 3) (S.1.1 18) (S.1.1 23) (S.1.1 32) (S.1.1 33) (S.1.1 44) (S.1.1 49) (S.1.1 5) (S.1.1 6) (S.1.1 7) (S.1.1 8) (S.1.1 9) (S.1.1 10) (S.1.1 11) (S.1.1 12) (S.1.1 13) (S.1.1 19) (S.1.1 20) (S.1.1 21) (S.1.1 22) (S.1.1 35) (S.1.1 36) (S.1.1 37) (S.1.1 38) (S.1.1 39) (S.1.1 40) (S.1.1 41) (S.1.1 42) (S.1.1 43) (S.1.1 45) (S.1.1 46) (S.1.1 47) (S.1.1 48) (S.1.1 51) (S.1.1 52) (S.1.1 53) a1 = some (1, 0, U) := by
      rw [m_X11_least]
      by_cases c : a1 < 0
      · rw [if_pos c]
        exact ⟨_, rfl⟩
      · obtain ⟨j, hj, rfl⟩ := nI_of c
        have := wb j hj rfl
        rw [if_neg c, if_neg (show ¬ nI j ≤ 1 from nI_ge (a := 1) (by omega) hj)]
        exact ⟨_, rfl⟩
    obtain ⟨c', d1, d2, d3⟩ := pc_least (C := S.1) hx
    obtain ⟨M', f1, f2⟩ := pm_least (M := S.2.1) (x := 0) (F := upd (upd (S.2.1 0) 4 0) 4 1) (r := S.2.1 1) (V := (S.2.1 6, S.2.1 7, S.2.1 8, S.2.1 9, S.2.1 10, S.2.1 11, S.2.1 12)) (by
      rw [m_X12_least, nm, bd_ok wa, bd_ok (r_right0 h4 (by decide))]
      dsimp only
      rw [if_pos rfl])
    obtain ⟨o, ho⟩ := sh_1 (S := S) (a := 1) (b := 6) (K := 1) (by decide) d1 f1 (by rw [f2.1]; exact h41)
    exact ⟨_, ho, lq_end h d2 d3 f2 fq1 (fun _ _ => rfl) (by omega) (by omega)⟩
