/-! ===== the tokens of a text ===== -/
def kd (b : Nat) : Nat := if 97 ≤ b ∧ b ≤ 122 then 1 else if 48 ≤ b ∧ b ≤ 57 then 2 else if b = 32 ∨ b = 10 then 4 else 3
theorem kd_le (b : Nat) : kd b ≤ 4 ∧ 1 ≤ kd b := by
  unfold kd
  split
  · omega
  · split
    · omega
    · split <;> omega
theorem kd_1 {b : Nat} : kd b = 1 ↔ 97 ≤ b ∧ b ≤ 122 := by
  unfold kd
  by_cases c : 97 ≤ b ∧ b ≤ 122
  · rw [if_pos c]; exact ⟨fun _ => c, fun _ => rfl⟩
  · rw [if_neg c]
    refine ⟨fun e => ?_, fun e => absurd e c⟩
    split at e
    · omega
    · split at e <;> omega
theorem kd_2 {b : Nat} : kd b = 2 ↔ 48 ≤ b ∧ b ≤ 57 := by
  unfold kd
  by_cases c : 97 ≤ b ∧ b ≤ 122
  · rw [if_pos c]; exact ⟨fun e => (by omega), fun e => (by omega)⟩
  · rw [if_neg c]
    by_cases d : 48 ≤ b ∧ b ≤ 57
    · rw [if_pos d]; exact ⟨fun _ => d, fun _ => rfl⟩
    · rw [if_neg d]
      refine ⟨fun e => ?_, fun e => absurd e d⟩
      split at e <;> omega
theorem kd_4 {b : Nat} : kd b = 4 ↔ b = 32 ∨ b = 10 := by
  unfold kd
  by_cases c : 97 ≤ b ∧ b ≤ 122
  · rw [if_pos c]; exact ⟨fun e => (by omega), fun e => (by omega)⟩
  · rw [if_neg c]
    by_cases d : 48 ≤ b ∧ b ≤ 57
    · rw [if_pos d]; exact ⟨fun e => (by omega), fun e => (by omega)⟩
    · rw [if_neg d]
      by_cases g : b = 32 ∨ b = 10
      · rw [if_pos g]; exact ⟨fun _ => g, fun _ => rfl⟩
      · rw [if_neg g]; exact ⟨fun e => (by omega), fun e => absurd e g⟩
theorem c_kind : ∀ b, b < 256 → m_X6_kindOf (nI b) = some (nI (kd b)) := by decide +kernel
theorem and_255 : ∀ b, b < 256 → nI b &&& 255 = nI b := by decide +kernel
def skA (t : Nat → Nat) : Nat → Nat → Nat
  | 0, p => p
  | d + 1, p => if kd (t p) = 4 then skA t d (p + 1) else p
def rwA (t : Nat → Nat) (k : Nat) : Nat → Nat → Nat
  | 0, p => p
  | d + 1, p => if kd (t p) = k then rwA t k d (p + 1) else p
theorem skA_in {t : Nat → Nat} : ∀ d p, p ≤ skA t d p ∧ skA t d p ≤ p + d ∧ (skA t d p < p + d → ¬ kd (t (skA t d p)) = 4) := by
  intro d
  induction d with
  | zero => intro p; exact ⟨Nat.le_refl _, Nat.le_refl _, fun h => absurd h (Nat.lt_irrefl _)⟩
  | succ d ih =>
    intro p
    rw [skA]
    by_cases c : kd (t p) = 4
    · rw [if_pos c]
      obtain ⟨a, b, e⟩ := ih (p + 1)
      exact ⟨by omega, by omega, fun h => e (by omega)⟩
    · rw [if_neg c]; exact ⟨Nat.le_refl _, by omega, fun _ => c⟩
theorem rwA_in {t : Nat → Nat} {k : Nat} : ∀ d p, p ≤ rwA t k d p ∧ rwA t k d p ≤ p + d ∧ ∀ i, p ≤ i → i < rwA t k d p → kd (t i) = k := by
  intro d
  induction d with
  | zero => intro p; exact ⟨Nat.le_refl _, Nat.le_refl _, fun i a b => absurd b (by show ¬ i < p; omega)⟩
  | succ d ih =>
    intro p
    rw [rwA]
    by_cases c : kd (t p) = k
    · rw [if_pos c]
      obtain ⟨a, b, e⟩ := ih (p + 1)
      refine ⟨by omega, by omega, fun i h1 h2 => ?_⟩
      by_cases z : i = p
      · rw [z]; exact c
      · exact e i (by omega) h2
    · rw [if_neg c]; exact ⟨Nat.le_refl _, by omega, fun i a b => absurd b (by omega)⟩
abbrev TK : Type := Nat × Nat × Nat
def tkA (t : Nat → Nat) (N p : Nat) : TK := if skA t (N - p) p < N then (kd (t (skA t (N - p) p)), skA t (N - p) p, if kd (t (skA t (N - p) p)) = 1 ∨ kd (t (skA t (N - p) p)) = 2 then rwA t (kd (t (skA t (N - p) p))) (N - (skA t (N - p) p + 1)) (skA t (N - p) p + 1) else skA t (N - p) p + 1) else (0, skA t (N - p) p, skA t (N - p) p)
/-- what holds of a token -/
def okT (t : Nat → Nat) (N : Nat) (k : TK) : Prop := k.2.1 ≤ k.2.2 ∧ k.2.2 ≤ N ∧ k.1 ≤ 3 ∧ (k.1 = 0 ∨ (k.2.1 < k.2.2 ∧ k.1 = kd (t k.2.1))) ∧ (k.1 = 2 → ∀ i, k.2.1 ≤ i → i < k.2.2 → 48 ≤ t i ∧ t i ≤ 57)
theorem tk_ok {t : Nat → Nat} {N p : Nat} (hp : p ≤ N) : okT t N (tkA t N p) ∧ p ≤ (tkA t N p).2.1 := by
  obtain ⟨a, b, c⟩ := skA_in (t := t) (N - p) p
  unfold tkA
  by_cases h : skA t (N - p) p < N
  · rw [if_pos h]
    have c := c (by omega)
    have hk := kd_le (t (skA t (N - p) p))
    generalize hs : skA t (N - p) p = s at *
    by_cases r : kd (t s) = 1 ∨ kd (t s) = 2
    · rw [if_pos r]
      obtain ⟨x, y, z⟩ := rwA_in (t := t) (k := kd (t s)) (N - (s + 1)) (s + 1)
      refine ⟨⟨?_, ?_, ?_, Or.inr ⟨?_, rfl⟩, fun e i h1 h2 => ?_⟩, a⟩
      · show s ≤ rwA t (kd (t s)) (N - (s + 1)) (s + 1); omega
      · show rwA t (kd (t s)) (N - (s + 1)) (s + 1) ≤ N; omega
      · show kd (t s) ≤ 3; omega
      · show s < rwA t (kd (t s)) (N - (s + 1)) (s + 1); omega
      · have e : kd (t s) = 2 := e
        have h1 : s ≤ i := h1
        have h2 : i < rwA t (kd (t s)) (N - (s + 1)) (s + 1) := h2
        refine kd_2.mp ?_
        by_cases q : i = s
        · rw [q]; exact e
        · rw [z i (by omega) h2]; exact e
    · rw [if_neg r]
      refine ⟨⟨?_, ?_, ?_, Or.inr ⟨?_, rfl⟩, fun e => absurd (Or.inr e) r⟩, a⟩
      · show s ≤ s + 1; omega
      · show s + 1 ≤ N; omega
      · show kd (t s) ≤ 3; omega
      · show s < s + 1; omega
  · rw [if_neg h]
    refine ⟨⟨Nat.le_refl _, ?_, Nat.zero_le _, Or.inl rfl, fun e => by cases e⟩, a⟩
    show skA t (N - p) p ≤ N
    omega
def TX (t : Nat → Nat) (N : Nat) (a : Nat → Int32) : Prop := N ≤ 700 ∧ (∀ k, k < N → a k = nI (t k)) ∧ ∀ k, t k < 256
def CT (F : Nat → Int32) (k : TK) : Prop := F 4 = nI k.2.2 ∧ F 5 = nI k.1 ∧ F 6 = nI k.2.1
/-! the class goes on -/
theorem c_skip {t : Nat → Nat} {N : Nat} {a : Nat → Int32} (hX : TX t N a) {K : (Nat → Int32) → Option (Nat → Int32)} : ∀ (d p fuel : Nat) (F : Nat → Int32), p + d = N → d < fuel → F 3 = nI N → F 4 = nI p → ∃ F', m_X6_goOn_w0 a 700 K fuel F = K F' ∧ F' 4 = nI (skA t d p) ∧ ∀ j, ¬ j = 4 → F' j = F j := by
  obtain ⟨x1, x2, x3⟩ := hX
  intro d
  induction d with
  | zero =>
    intro p fuel F hp hf h3 h4
    obtain ⟨fuel, rfl⟩ : ∃ d, fuel = d + 1 := ⟨fuel - 1, by omega⟩
    rw [m_X6_goOn_w0, h3, h4, if_pos (nI_le (by omega) (by omega))]
    exact ⟨F, rfl, h4, fun _ _ => rfl⟩
  | succ d ih =>
    intro p fuel F hp hf h3 h4
    obtain ⟨fuel, rfl⟩ : ∃ d, fuel = d + 1 := ⟨fuel - 1, by omega⟩
    have hk := kd_le (t p)
    rw [m_X6_goOn_w0, h3, h4, if_neg (nI_ge (by omega) (by omega)), rd_nI (by omega) (by decide), x2 p (by omega), bd_ok (c_kind _ (x3 p)), skA]
    by_cases c : kd (t p) = 4
    · rw [if_pos c, if_pos (show nI (kd (t p)) = 4 by rw [c]; rfl), nm, show nI p + 1 = nI (p + 1) from nI_1 _]
      obtain ⟨F', z1, z2, z3⟩ := ih (p + 1) fuel (upd F 4 (nI (p + 1))) (by omega) (by omega) ((upd_ne (by decide)).trans h3) upd_eq
      exact ⟨F', z1, z2, fun j hj => (z3 j hj).trans (upd_ne hj)⟩
    · rw [if_neg c, if_neg (show ¬ nI (kd (t p)) = 4 from fun e => c (nI_inj (b := 4) (by omega) (by decide) e))]
      exact ⟨F, rfl, h4, fun _ _ => rfl⟩
theorem c_row {t : Nat → Nat} {N s k : Nat} {a : Nat → Int32} (hX : TX t N a) (hk : k ≤ 4) : ∀ (d p fuel : Nat) (F : Nat → Int32), p + d = N → d < fuel → s < p → F 3 = nI N → F 4 = nI p → F 5 = nI k → F 6 = nI s → ∃ F', m_X6_goOn_w101 a 700 fuel 1 F = some F' ∧ F' 4 = nI (rwA t k d p) ∧ ∀ j, ¬ j = 4 → F' j = F j := by
  obtain ⟨x1, x2, x3⟩ := hX
  intro d
  induction d with
  | zero =>
    intro p fuel F hp hf hs h3 h4 h5 h6
    obtain ⟨fuel, rfl⟩ : ∃ d, fuel = d + 1 := ⟨fuel - 1, by omega⟩
    rw [m_X6_goOn_w101, h3, h4, if_pos (nI_le (by omega) (by omega))]
    exact ⟨F, rfl, h4, fun _ _ => rfl⟩
  | succ d ih =>
    intro p fuel F hp hf hs h3 h4 h5 h6
    obtain ⟨fuel, rfl⟩ : ∃ d, fuel = d + 1 := ⟨fuel - 1, by omega⟩
    have hk2 := kd_le (t p)
    rw [m_X6_goOn_w101, h3, h4, if_neg (nI_ge (by omega) (by omega)), h6, if_neg (fun e => by have := nI_inj (by omega) (by omega) e; omega), if_neg (show ¬ (1 : Int32) = 0 by decide), rd_nI (by omega) (by decide), x2 p (by omega), bd_ok (c_kind _ (x3 p)), h5, rwA]
    by_cases c : kd (t p) = k
    · rw [if_pos c, if_pos (by rw [c]), m_X6_goOn_j146, nm, h4, show nI p + 1 = nI (p + 1) from nI_1 _]
      obtain ⟨F', z1, z2, z3⟩ := ih (p + 1) fuel (upd F 4 (nI (p + 1))) (by omega) (by omega) (by omega) ((upd_ne (by decide)).trans h3) upd_eq ((upd_ne (by decide)).trans h5) ((upd_ne (by decide)).trans h6)
      exact ⟨F', z1, z2, fun j hj => (z3 j hj).trans (upd_ne hj)⟩
    · rw [if_neg c, if_neg (fun e => c (nI_inj (by omega) (by omega) e))]
      exact ⟨F, rfl, h4, fun _ _ => rfl⟩
def frC (F' F : Nat → Int32) : Prop := ∀ j, ¬ j = 4 → ¬ j = 5 → ¬ j = 6 → F' j = F j
theorem c_goOn6 {t : Nat → Nat} {N p : Nat} {a F : Nat → Int32} (hX : TX t N a) (hp : p ≤ N) (h3 : F 3 = nI N) (h4 : F 4 = nI p) : ∃ F', m_X6_goOn F a 700 = some F' ∧ CT F' (tkA t N p) ∧ frC F' F := by
  obtain ⟨F1, a1, a2, a3⟩ := c_skip hX (K := m_X6_goOn_j40 a 700) (N - p) p fuelN F (by omega) (by have := hX.1; rw [fuel_is]; omega) h3 h4
  obtain ⟨s1, s2, s3⟩ := skA_in (t := t) (N - p) p
  obtain ⟨x1, x2, x3⟩ := id hX
  rw [m_X6_goOn, a1, m_X6_goOn_j40, nm, a2]
  unfold tkA
  generalize hs : skA t (N - p) p = s at *
  have e3 : upd F1 6 (nI s) 3 = nI N := (upd_ne (by decide)).trans ((a3 3 (by decide)).trans h3)
  have e4 : upd F1 6 (nI s) 4 = nI s := (upd_ne (by decide)).trans a2
  have e6 : upd F1 6 (nI s) 6 = nI s := upd_eq
  have fr : ∀ j, ¬ j = 4 → ¬ j = 5 → ¬ j = 6 → upd F1 6 (nI s) j = F j := fun j b _ d => (upd_ne d).trans (a3 j b)
  generalize upd F1 6 (nI s) = F2 at *
  rw [e3, e4]
  by_cases c : s < N
  · have hk := kd_le (t s)
    have s3 := s3 (by omega)
    rw [if_pos c, if_neg (nI_ge c (by omega)), rd_nI (by omega) (by decide), x2 s c, bd_ok (c_kind _ (x3 s)), m_X6_goOn_j76, nm, upd_eq]
    have w1 : ∀ (x1 : Int32) (fuel : Nat), m_X6_goOn_w101 a 700 (fuel + 1) x1 (upd F2 5 (nI (kd (t s)))) = m_X6_goOn_w101 a 700 fuel x1 (upd (upd F2 5 (nI (kd (t s)))) 4 (nI (s + 1))) := by
      intro x1 fuel
      rw [m_X6_goOn_w101, upd_ne (i := 3) (by decide), upd_ne (i := 4) (by decide), upd_ne (i := 6) (by decide), e3, e4, e6, if_neg (nI_ge c (by omega)), if_pos rfl, m_X6_goOn_j146, nm, upd_ne (i := 4) (by decide), e4, show nI s + 1 = nI (s + 1) from nI_1 _]
    by_cases r : kd (t s) = 1 ∨ kd (t s) = 2
    · rw [if_pos r]
      obtain ⟨F', z1, z2, z3⟩ := c_row (s := s) (k := kd (t s)) hX hk.1 (N - (s + 1)) (s + 1) 99999 (upd (upd F2 5 (nI (kd (t s)))) 4 (nI (s + 1))) (by omega) (by omega) (by omega) (by rw [upd_ne (by decide), upd_ne (by decide)]; exact e3) upd_eq (by rw [upd_ne (by decide), upd_eq]) (by rw [upd_ne (by decide), upd_ne (by decide)]; exact e6)
      have fin : m_X6_goOn_j95 a 700 (upd F2 5 (nI (kd (t s)))) = some F' := by
        rw [m_X6_goOn_j95, m_X6_goOn_j100, show fuelN = 99999 + 1 from rfl, w1]; exact z1
      refine ⟨F', ?_, ⟨z2, by rw [z3 5 (by decide), upd_ne (by decide), upd_eq], by rw [z3 6 (by decide), upd_ne (by decide), upd_ne (by decide)]; exact e6⟩, fun j p q r => by rw [z3 j p, upd_ne p, upd_ne q]; exact fr j p q r⟩
      rcases r with r | r
      · rw [if_pos (show nI (kd (t s)) = 1 by rw [r]; rfl), fin]
      · rw [if_neg (show ¬ nI (kd (t s)) = 1 by rw [r]; decide), if_pos (show nI (kd (t s)) = 2 by rw [r]; rfl), fin]
    · rw [if_neg r, if_neg (show ¬ nI (kd (t s)) = 1 from fun e => r (Or.inl (nI_inj (b := 1) (by omega) (by decide) e))), if_neg (show ¬ nI (kd (t s)) = 2 from fun e => r (Or.inr (nI_inj (b := 2) (by omega) (by decide) e))), m_X6_goOn_j100, show fuelN = 99999 + 1 from rfl, w1, show 99999 = 99998 + 1 from rfl, m_X6_goOn_w101]
      have g3 : upd (upd F2 5 (nI (kd (t s)))) 4 (nI (s + 1)) 3 = nI N := by rw [upd_ne (by decide), upd_ne (by decide)]; exact e3
      have g6 : upd (upd F2 5 (nI (kd (t s)))) 4 (nI (s + 1)) 6 = nI s := by rw [upd_ne (by decide), upd_ne (by decide)]; exact e6
      have res : CT (upd (upd F2 5 (nI (kd (t s)))) 4 (nI (s + 1))) (kd (t s), s, s + 1) ∧ frC (upd (upd F2 5 (nI (kd (t s)))) 4 (nI (s + 1))) F := ⟨⟨upd_eq, by rw [upd_ne (by decide), upd_eq], g6⟩, fun j p q r => by rw [upd_ne p, upd_ne q]; exact fr j p q r⟩
      rw [g3, g6, upd_eq]
      by_cases z : nI N ≤ nI (s + 1)
      · rw [if_pos z]; exact ⟨_, rfl, res⟩
      · rw [if_neg z, if_neg (fun e => by have := nI_inj (by omega) (by omega) e; omega), if_pos rfl]; exact ⟨_, rfl, res⟩
  · rw [if_neg c, if_pos (nI_le (by omega) (by omega)), m_X6_goOn_j76, nm, upd_eq, if_neg (show ¬ (0 : Int32) = 1 by decide), if_neg (show ¬ (0 : Int32) = 2 by decide), m_X6_goOn_j100, show fuelN = 99999 + 1 from rfl, m_X6_goOn_w101, upd_ne (i := 3) (by decide), upd_ne (i := 4) (by decide), e3, e4, if_pos (nI_le (by omega) (by omega))]
    exact ⟨_, rfl, ⟨(upd_ne (by decide)).trans e4, upd_eq, (upd_ne (by decide)).trans e6⟩, fun j p q r => (upd_ne q).trans (fr j p q r)⟩
/-! words -/
def WD : List (List Nat) := [[117, 110, 100, 111], [114, 101, 100, 111], [119, 105, 116, 104, 111, 117, 116], [99, 104, 97, 105, 110], [108, 101, 97, 107], [100, 97, 116, 97], [100, 111], [110, 101, 119], [100, 114, 111, 112], [109, 111, 118, 101], [115, 101, 116], [115, 119, 101, 101, 112], [97], [98], [99], [100], [101], [102], [103]]
def allEq (t : Nat → Nat) : Nat → List Nat → Bool
  | _, [] => true
  | s, b :: r => decide (t s = b) && allEq t (s + 1) r
def mtA (t : Nat → Nat) (s e : Nat) (W : List Nat) : Bool := decide (e = s + W.length) && allEq t s W
def fidx (t : Nat → Nat) (s e : Nat) : Nat → List (List Nat) → Option Nat
  | _, [] => none
  | k, W :: Ws => if mtA t s e W = true then some k else fidx t s e (k + 1) Ws
def flg (t : Nat → Nat) (e : Nat) : Nat → Bool → List Nat → Bool
  | _, f, [] => f
  | q, f, b :: r => flg t e (q + 1) (f && (decide (q < e) && decide (t q = b))) r
theorem flg_false {t : Nat → Nat} {e : Nat} : ∀ (W : List Nat) (q : Nat), flg t e q false W = false := by
  intro W
  induction W with
  | nil => intro q; rfl
  | cons b r ih => intro q; rw [flg, Bool.false_and]; exact ih _
theorem flg_is {t : Nat → Nat} {e : Nat} : ∀ (W : List Nat) (q : Nat), e = q + W.length → flg t e q true W = allEq t q W := by
  intro W
  induction W with
  | nil => intro q _; rfl
  | cons b r ih =>
    intro q he
    rw [List.length_cons] at he
    rw [flg, allEq, Bool.true_and, decide_eq_true (show q < e by omega), Bool.true_and]
    by_cases c : t q = b
    · rw [decide_eq_true c, Bool.true_and]; exact ih _ (by omega)
    · rw [decide_eq_false c, Bool.false_and]; exact flg_false _ _
def KnA : Nat → List (List Nat) → Bool
  | off, [] => decide (off = 75)
  | off, W :: Ws => (decide (off + W.length < 75) && decide (K_KNOWN (off + W.length) = 32)) && ((List.range W.length).all (fun i => decide (K_KNOWN (off + i) = nI (W.getD i 0)) && (decide (¬ W.getD i 0 = 32) && decide (W.getD i 0 < 256))) && KnA (off + W.length + 1) Ws)
theorem KnA_0 : KnA 0 WD = true := by decide +kernel
theorem r_byte {t : Nat → Nat} {N p : Nat} {tp F : Nat → Int32} (hX : TX t N tp) (h : F 34 = nI N) (hp : p < N) : m_X12_byteAt F tp (nI p) = some (nI (t p)) := by
  obtain ⟨x1, x2, x3⟩ := hX
  rw [m_X12_byteAt, h, if_neg (nI_ge hp (by omega)), rd_nI (by omega) (by decide), x2 p hp, and_255 _ (x3 p)]
theorem r_byteN {t : Nat → Nat} {N p : Nat} {tp F : Nat → Int32} (hX : TX t N tp) (h : F 34 = nI N) (hp : N ≤ p) (hp2 : p < 1000) : m_X12_byteAt F tp (nI p) = some 0 := by
  rw [m_X12_byteAt, h, if_pos (nI_le hp (by omega))]
theorem r_word1 {t : Nat → Nat} {N s e k : Nat} {tp F : Nat → Int32} (hX : TX t N tp) (h34 : F 34 = nI N) (he : e ≤ N) (hs : s ≤ N) :
    ∀ (W : List Nat) (q off fuel : Nat) (f : Bool), off + W.length < 75 → q + W.length ≤ 900 → (∀ i, i < W.length → K_KNOWN (off + i) = nI (W.getD i 0) ∧ ¬ W.getD i 0 = 32 ∧ W.getD i 0 < 256) → W.length < fuel →
      m_X12_wordFrom_w11 F tp (nI s) (nI e) fuel (nI k) (nI q) (nI (bN f)) (nI off) = m_X12_wordFrom_w11 F tp (nI s) (nI e) (fuel - W.length) (nI k) (nI (q + W.length)) (nI (bN (flg t e q f W))) (nI (off + W.length)) := by
  have hN := hX.1
  have x3 := hX.2.2
  intro W
  induction W with
  | nil => intro q off fuel f _ _ _ _; rfl
  | cons b r ih =>
    intro q off fuel f hoff hq hK hf
    rw [List.length_cons] at hoff hf hq
    obtain ⟨fuel, rfl⟩ : ∃ d, fuel = d + 1 := ⟨fuel - 1, by omega⟩
    obtain ⟨k1, k2, k3⟩ := hK 0 (by rw [List.length_cons]; omega)
    have k1 : K_KNOWN off = nI b := k1
    have k2 : ¬ b = 32 := k2
    have k3 : b < 256 := k3
    have nxt : ∀ g : Bool, g = (f && (decide (q < e) && decide (t q = b))) → m_X12_wordFrom_w11 F tp (nI s) (nI e) fuel (nI k) (nI (q + 1)) (nI (bN g)) (nI (off + 1)) = m_X12_wordFrom_w11 F tp (nI s) (nI e) (fuel + 1 - (b :: r).length) (nI k) (nI (q + (b :: r).length)) (nI (bN (flg t e q f (b :: r)))) (nI (off + (b :: r).length)) := by
      intro g hg
      rw [ih (q + 1) (off + 1) fuel g (by omega) (by omega) (fun i hi => by
        have := hK (i + 1) (by rw [List.length_cons]; omega)
        rw [show off + (i + 1) = off + 1 + i by omega] at this
        exact this) (by omega), flg, hg, List.length_cons, show fuel + 1 - (r.length + 1) = fuel - r.length by omega, show q + 1 + r.length = q + (r.length + 1) by omega, show off + 1 + r.length = off + (r.length + 1) by omega]
    have st : ∀ v : Int32, (∀ g : Bool, v = nI (bN g) → g = (f && (decide (q < e) && decide (t q = b))) → m_X12_wordFrom_j87 F tp (nI s) (nI e) (m_X12_wordFrom_w11 F tp (nI s) (nI e) fuel) (nI k) (nI q) (nI off) v = m_X12_wordFrom_w11 F tp (nI s) (nI e) (fuel + 1 - (b :: r).length) (nI k) (nI (q + (b :: r).length)) (nI (bN (flg t e q f (b :: r)))) (nI (off + (b :: r).length))) := by
      intro v g hv hg
      rw [m_X12_wordFrom_j87, nm, m_X12_wordFrom_j92, nm, show nI q + 1 = nI (q + 1) from nI_1 _, show nI off + 1 = nI (off + 1) from nI_1 _, hv]
      exact nxt g hg
    rw [m_X12_wordFrom_w11, if_neg (show ¬ (75 : Int32) ≤ nI off from nI_ge (b := 75) (by omega) (by decide)), rd_nI (by omega) (by decide), k1, if_neg (show ¬ nI b = 32 from fun e => k2 (nI_inj (b := 32) (by omega) (by decide) e))]
    cases f with
    | false => rw [if_pos (show nI (bN false) = 0 from rfl), m_X12_wordFrom_j86]; exact st 0 false rfl (Bool.false_and _).symm
    | true =>
      rw [if_neg (show ¬ nI (bN true) = 0 by decide)]
      by_cases c : q < e
      · rw [if_neg (nI_ge c (by omega)), bd_ok (r_byte hX h34 (by omega)), rd_nI (by omega) (by decide), k1]
        have hb := x3 q
        by_cases d : t q = b
        · rw [if_pos (by rw [d])]; exact st 1 true rfl (by rw [decide_eq_true c, decide_eq_true d]; rfl)
        · rw [if_neg (fun z => d (nI_inj (by omega) (by omega) z)), m_X12_wordFrom_j86]; exact st 0 false rfl (by rw [decide_eq_true c, decide_eq_false d]; rfl)
      · rw [if_pos (nI_le (by omega) (by omega)), m_X12_wordFrom_j86]; exact st 0 false rfl (by rw [decide_eq_false c]; rfl)
theorem r_wordF {t : Nat → Nat} {N s e : Nat} {tp F : Nat → Int32} (hX : TX t N tp) (h34 : F 34 = nI N) (he : e ≤ N) (hs : s ≤ N) :
    ∀ (Ws : List (List Nat)) (k off fuel : Nat), KnA off Ws = true → off ≤ 75 → 75 < off + fuel → m_X12_wordFrom_w11 F tp (nI s) (nI e) fuel (nI k) (nI s) 1 (nI off) = some (encL (fidx t s e k Ws)) := by
  have hN := hX.1
  intro Ws
  induction Ws with
  | nil =>
    intro k off fuel hK ho hf
    obtain ⟨fuel, rfl⟩ : ∃ d, fuel = d + 1 := ⟨fuel - 1, by omega⟩
    have : off = 75 := by rw [KnA, decide_eq_true_eq] at hK; exact hK
    rw [m_X12_wordFrom_w11, if_pos (show (75 : Int32) ≤ nI off by rw [this]; decide)]; rfl
  | cons W Ws ih =>
    intro k off fuel hK ho hf
    rw [KnA, Bool.and_eq_true, Bool.and_eq_true, Bool.and_eq_true, decide_eq_true_eq, decide_eq_true_eq, List.all_eq_true] at hK
    obtain ⟨⟨h1, h2⟩, h3, h4⟩ := hK
    have hb : ∀ i, i < W.length → K_KNOWN (off + i) = nI (W.getD i 0) ∧ ¬ W.getD i 0 = 32 ∧ W.getD i 0 < 256 := fun i hi => by
      have := h3 i (List.mem_range.mpr hi)
      rw [Bool.and_eq_true, Bool.and_eq_true, decide_eq_true_eq, decide_eq_true_eq, decide_eq_true_eq] at this
      exact this
    have e1 := r_word1 (k := k) hX h34 he hs W s off fuel true h1 (by omega) hb (by omega)
    have e1 : m_X12_wordFrom_w11 F tp (nI s) (nI e) fuel (nI k) (nI s) 1 (nI off) = _ := e1
    obtain ⟨f2, hf2⟩ : ∃ d, fuel - W.length = d + 1 := ⟨fuel - W.length - 1, by omega⟩
    rw [e1, hf2, m_X12_wordFrom_w11, if_neg (show ¬ (75 : Int32) ≤ nI (off + W.length) from nI_ge (b := 75) (by omega) (by decide)), rd_nI (by omega) (by decide), h2, if_pos rfl, fidx]
    have go : m_X12_wordFrom_j44 F tp (nI s) (nI e) (m_X12_wordFrom_w11 F tp (nI s) (nI e) f2) (nI k) (nI (off + W.length)) = some (encL (fidx t s e (k + 1) Ws)) := by
      rw [m_X12_wordFrom_j44, nm, m_X12_wordFrom_j92, nm, show nI k + 1 = nI (k + 1) from nI_1 _, show nI (off + W.length) + 1 = nI (off + W.length + 1) from nI_1 _]
      exact ih (k + 1) (off + W.length + 1) f2 h4 (by omega) (by omega)
    by_cases c : e = s + W.length
    · rw [flg_is W s c]
      unfold mtA
      rw [decide_eq_true c, Bool.true_and]
      cases q : allEq t s W with
      | false => rw [if_pos (show nI (bN false) = 0 from rfl), if_neg (by decide)]; exact go
      | true => rw [if_neg (show ¬ nI (bN true) = 0 by decide), if_pos rfl, if_pos (by rw [c])]; rfl
    · have hm : mtA t s e W = false := by unfold mtA; rw [decide_eq_false c]; rfl
      rw [hm, if_neg (show ¬ (false = true) by decide)]
      by_cases z : nI (bN (flg t e s true W)) = 0
      · rw [if_pos z]; exact go
      · have hle : s + W.length < 2 ^ 31 := by omega
        rw [if_neg z, if_neg (fun y => c (nI_inj hle (by omega) y).symm)]; exact go
def wdA (t : Nat → Nat) (k : TK) : Option Nat := if k.1 = 1 then fidx t k.2.1 k.2.2 0 WD else none
/-! the reference goes on -/
def dvA (t : Nat → Nat) (s : Nat) : Nat → Nat
  | 0 => 0
  | j + 1 => 10 * dvA t s j + (t (s + j) - 48)
def vdA (t : Nat → Nat) (s j : Nat) : Nat := if j ≤ 3 then dvA t s j else 9999
def vlA (t : Nat → Nat) (k : TK) : Nat := if k.1 = 2 then vdA t k.2.1 (k.2.2 - k.2.1) else if k.1 = 3 then t k.2.1 else 0
def srA (t : Nat → Nat) (k : TK) : Nat := if k.1 = 3 then (if t k.2.1 = 59 ∨ t k.2.1 = 44 then 3 else 4) else k.1
def RT (F : Nat → Int32) (t : Nat → Nat) (k : TK) : Prop := F 32 = nI k.2.2 ∧ F 33 = nI k.2.1 ∧ F 35 = nI (srA t k) ∧ F 36 = nI (vlA t k) ∧ F 37 = encL (wdA t k)
def frG (F' F : Nat → Int32) : Prop := ∀ j, ¬ (j = 32 ∨ j = 33 ∨ j = 35 ∨ j = 36 ∨ j = 37) → F' j = F j
theorem r_skip {t : Nat → Nat} {N : Nat} {tp : Nat → Int32} (hX : TX t N tp) {K : (Nat → Int32) → Option (Nat → Int32)} : ∀ (d p fuel : Nat) (F : Nat → Int32), p + d = N → d < fuel → F 34 = nI N → F 32 = nI p → ∃ F', m_X12_go_w0 tp K fuel F = K F' ∧ F' 32 = nI (skA t d p) ∧ ∀ j, ¬ j = 32 → F' j = F j := by
  have hN := hX.1
  intro d
  induction d with
  | zero =>
    intro p fuel F hp hf h3 h4
    obtain ⟨fuel, rfl⟩ : ∃ d, fuel = d + 1 := ⟨fuel - 1, by omega⟩
    rw [m_X12_go_w0, h3, h4, if_pos (nI_le (by omega) (by omega))]
    exact ⟨F, rfl, h4, fun _ _ => rfl⟩
  | succ d ih =>
    intro p fuel F hp hf h3 h4
    obtain ⟨fuel, rfl⟩ : ∃ d, fuel = d + 1 := ⟨fuel - 1, by omega⟩
    have hb := hX.2.2 p
    have go : m_X12_go_j37 tp (m_X12_go_w0 tp K fuel) F = m_X12_go_w0 tp K fuel (upd F 32 (nI (p + 1))) := by
      rw [m_X12_go_j37, nm, h4, show nI p + 1 = nI (p + 1) from nI_1 _]
    rw [m_X12_go_w0, h3, h4, if_neg (nI_ge (by omega) (by omega)), bd_ok (r_byte hX h3 (by omega)), skA]
    by_cases c : kd (t p) = 4
    · rw [if_pos c]
      obtain ⟨F', z1, z2, z3⟩ := ih (p + 1) fuel (upd F 32 (nI (p + 1))) (by omega) (by omega) ((upd_ne (by decide)).trans h3) upd_eq
      refine ⟨F', ?_, z2, fun j hj => (z3 j hj).trans (upd_ne hj)⟩
      rcases kd_4.mp c with e | e
      · rw [if_pos (show nI (t p) = 32 by rw [e]; rfl), go]; exact z1
      · rw [if_neg (show ¬ nI (t p) = 32 by rw [e]; decide), bd_ok (r_byte hX h3 (by omega)), if_pos (show nI (t p) = 10 by rw [e]; rfl), go]; exact z1
    · have c' := fun h => c (kd_4.mpr h)
      rw [if_neg c, if_neg (show ¬ nI (t p) = 32 from fun e => c' (Or.inl (nI_inj (b := 32) (by omega) (by decide) e))), bd_ok (r_byte hX h3 (by omega)), if_neg (show ¬ nI (t p) = 10 from fun e => c' (Or.inr (nI_inj (b := 10) (by omega) (by decide) e)))]
      exact ⟨F, rfl, h4, fun _ _ => rfl⟩
theorem r_isLetter : ∀ b, b < 256 → m_X12_isLetter (nI b) = some (nI (if kd b = 1 then 1 else 0)) := by decide +kernel
theorem r_letters {t : Nat → Nat} {N : Nat} {tp : Nat → Int32} (hX : TX t N tp) {K : (Nat → Int32) → Option (Nat → Int32)} : ∀ (d p fuel : Nat) (F : Nat → Int32), p + d = N → d < fuel → F 34 = nI N → F 32 = nI p → ∃ F', m_X12_go_w103 tp K fuel F = K F' ∧ F' 32 = nI (rwA t 1 d p) ∧ ∀ j, ¬ j = 32 → F' j = F j := by
  have hN := hX.1
  intro d
  induction d with
  | zero =>
    intro p fuel F hp hf h3 h4
    obtain ⟨fuel, rfl⟩ : ∃ d, fuel = d + 1 := ⟨fuel - 1, by omega⟩
    rw [m_X12_go_w103, h4, bd_ok (r_byteN hX h3 (by omega) (by omega)), bd_ok (show m_X12_isLetter 0 = some 0 from rfl), if_pos rfl]
    exact ⟨F, rfl, h4, fun _ _ => rfl⟩
  | succ d ih =>
    intro p fuel F hp hf h3 h4
    obtain ⟨fuel, rfl⟩ : ∃ d, fuel = d + 1 := ⟨fuel - 1, by omega⟩
    have hb := hX.2.2 p
    rw [m_X12_go_w103, h4, bd_ok (r_byte hX h3 (by omega)), bd_ok (r_isLetter _ hb), rwA]
    by_cases c : kd (t p) = 1
    · rw [if_pos c, if_pos c, if_neg (show ¬ nI 1 = 0 by decide), nm, show nI p + 1 = nI (p + 1) from nI_1 _]
      obtain ⟨F', z1, z2, z3⟩ := ih (p + 1) fuel (upd F 32 (nI (p + 1))) (by omega) (by omega) ((upd_ne (by decide)).trans h3) upd_eq
      exact ⟨F', z1, z2, fun j hj => (z3 j hj).trans (upd_ne hj)⟩
    · rw [if_neg c, if_neg c, if_pos (show nI 0 = 0 from rfl)]
      exact ⟨F, rfl, h4, fun _ _ => rfl⟩
theorem r_digits {t : Nat → Nat} {N s : Nat} {tp : Nat → Int32} (hX : TX t N tp) {K : (Nat → Int32) → Option (Nat → Int32)} : ∀ (d p fuel : Nat) (F : Nat → Int32), p + d = N → s ≤ p → d < fuel → F 34 = nI N → F 32 = nI p → F 33 = nI s → F 36 = nI (vdA t s (p - s)) → ∃ F', m_X12_go_w166 tp K fuel F = K F' ∧ F' 32 = nI (rwA t 2 d p) ∧ F' 36 = nI (vdA t s (rwA t 2 d p - s)) ∧ ∀ j, ¬ j = 32 → ¬ j = 36 → F' j = F j := by
  have hN := hX.1
  intro d
  induction d with
  | zero =>
    intro p fuel F hp hs hf h3 h4 h33 h36
    obtain ⟨fuel, rfl⟩ : ∃ d, fuel = d + 1 := ⟨fuel - 1, by omega⟩
    rw [m_X12_go_w166, h4, bd_ok (r_byteN hX h3 (by omega) (by omega)), if_pos (show (0 : Int32) < 48 by decide)]
    exact ⟨F, rfl, h4, h36, fun _ _ _ => rfl⟩
  | succ d ih =>
    intro p fuel F hp hs hf h3 h4 h33 h36
    obtain ⟨fuel, rfl⟩ : ∃ d, fuel = d + 1 := ⟨fuel - 1, by omega⟩
    have hb := hX.2.2 p
    rw [m_X12_go_w166, h4, bd_ok (r_byte hX h3 (by omega)), rwA]
    by_cases c : kd (t p) = 2
    · obtain ⟨c1, c2⟩ := kd_2.mp c
      rw [if_pos c, if_neg (show ¬ nI (t p) < 48 from nI_nlt (b := 48) c1 (by omega)), bd_ok (r_byte hX h3 (by omega)), if_neg (show ¬ (57 : Int32) < nI (t p) from nI_nlt (a := 57) c2 (by decide)), h33, nI_subE hs]
      have go : ∀ v : Int32, v = nI (vdA t s (p + 1 - s)) → ∃ F', m_X12_go_j231 tp (m_X12_go_w166 tp K fuel) v F = K F' ∧ F' 32 = nI (rwA t 2 d (p + 1)) ∧ F' 36 = nI (vdA t s (rwA t 2 d (p + 1) - s)) ∧ ∀ j, ¬ j = 32 → ¬ j = 36 → F' j = F j := by
        intro v hv
        rw [m_X12_go_j231, nm, nm, upd_ne (i := 32) (by decide), h4, show nI p + 1 = nI (p + 1) from nI_1 _]
        obtain ⟨F', z1, z2, z3, z4⟩ := ih (p + 1) fuel (upd (upd F 36 v) 32 (nI (p + 1))) (by omega) (by omega) (by omega) (by rw [upd_ne (by decide), upd_ne (by decide)]; exact h3) upd_eq (by rw [upd_ne (by decide), upd_ne (by decide)]; exact h33) (by rw [upd_ne (by decide), upd_eq, hv])
        exact ⟨F', z1, z2, z3, fun j a b => by rw [z4 j a b, upd_ne a, upd_ne b]⟩
      by_cases q : 3 ≤ p - s
      · rw [if_pos (show (3 : Int32) ≤ nI (p - s) from nI_le (a := 3) q (by omega))]
        exact go _ (by unfold vdA; rw [if_neg (by omega)]; rfl)
      · rw [if_neg (show ¬ (3 : Int32) ≤ nI (p - s) from nI_ge (b := 3) (by omega) (by decide)), bd_ok (r_byte hX h3 (by omega)), h36]
        refine go _ ?_
        unfold vdA
        rw [if_pos (by omega), if_pos (by omega), show p + 1 - s = (p - s) + 1 by omega, dvA, show s + (p - s) = p by omega, show (10 : Int32) = nI 10 from rfl, show (48 : Int32) = nI 48 from rfl, nI_mulE, nI_add, nI_subE (by omega)]
        congr 1; omega
    · rw [if_neg c]
      have nd : ¬ (48 ≤ t p ∧ t p ≤ 57) := fun e => c (kd_2.mpr e)
      by_cases z : t p < 48
      · rw [if_pos (show nI (t p) < 48 from nI_lt (b := 48) z (by decide))]
        exact ⟨F, rfl, h4, h36, fun _ _ _ => rfl⟩
      · rw [if_neg (show ¬ nI (t p) < 48 from nI_nlt (b := 48) (by omega) (by omega)), bd_ok (r_byte hX h3 (by omega)), if_pos (show (57 : Int32) < nI (t p) from nI_lt (a := 57) (by omega) (by omega))]
        exact ⟨F, rfl, h4, h36, fun _ _ _ => rfl⟩
theorem r_go {t : Nat → Nat} {N p : Nat} {tp F : Nat → Int32} (hX : TX t N tp) (hp : p ≤ N) (h3 : F 34 = nI N) (h4 : F 32 = nI p) : ∃ F', m_X12_go F tp = some F' ∧ RT F' t (tkA t N p) ∧ frG F' F := by
  have hN := hX.1
  obtain ⟨F1, a1, a2, a3⟩ := r_skip hX (K := m_X12_go_j50 tp) (N - p) p fuelN F (by omega) (by rw [fuel_is]; omega) h3 h4
  obtain ⟨s1, s2, s3⟩ := skA_in (t := t) (N - p) p
  rw [m_X12_go, a1, m_X12_go_j50, nm, a2]
  unfold tkA
  generalize hs : skA t (N - p) p = s at *
  have e34 : F1 34 = nI N := (a3 34 (by decide)).trans h3
  have g34 : upd F1 33 (nI s) 34 = nI N := (upd_ne (by decide)).trans e34
  have g32 : upd F1 33 (nI s) 32 = nI s := (upd_ne (by decide)).trans a2
  have hbyte : ∃ b, m_X12_byteAt (upd F1 33 (nI s)) tp (nI s) = some b ∧ (s < N → b = nI (t s)) := by
    by_cases c : s < N
    · exact ⟨_, r_byte hX g34 c, fun _ => rfl⟩
    · exact ⟨_, r_byteN hX g34 (by omega) (by omega), fun h => absurd h c⟩
  obtain ⟨b, hb1, hb2⟩ := hbyte
  rw [g32, bd_ok hb1, nm, nm]
  have f32 : upd (upd (upd F1 33 (nI s)) 37 (-1)) 36 0 32 = nI s := by rw [upd_ne (by decide), upd_ne (by decide)]; exact g32
  have f33 : upd (upd (upd F1 33 (nI s)) 37 (-1)) 36 0 33 = nI s := by rw [upd_ne (by decide), upd_ne (by decide), upd_eq]
  have f34 : upd (upd (upd F1 33 (nI s)) 37 (-1)) 36 0 34 = nI N := by rw [upd_ne (by decide), upd_ne (by decide)]; exact g34
  have f36 : upd (upd (upd F1 33 (nI s)) 37 (-1)) 36 0 36 = 0 := upd_eq
  have f37 : upd (upd (upd F1 33 (nI s)) 37 (-1)) 36 0 37 = -1 := by rw [upd_ne (by decide), upd_eq]
  have ff : frG (upd (upd (upd F1 33 (nI s)) 37 (-1)) 36 0) F := fun j hj => by rw [upd_ne (by omega), upd_ne (by omega), upd_ne (by omega), a3 j (by omega)]
  generalize upd (upd (upd F1 33 (nI s)) 37 (-1)) 36 0 = F4 at *
  rw [f32, f34]
  by_cases c : s < N
  · have s3 := s3 (by omega)
    have hk := kd_le (t s)
    have hts := hX.2.2 s
    rw [if_pos c, if_pos (nI_lt c (by omega)), hb2 c, bd_ok (r_isLetter _ hts)]
    by_cases k1 : kd (t s) = 1
    · rw [if_pos k1, if_neg (show ¬ nI 1 = 0 by decide), if_pos (Or.inl k1), k1]
      obtain ⟨F5, z1, z2, z3⟩ := r_letters hX (K := m_X12_go_j130 tp) (N - s) s fuelN F4 (by omega) (by rw [fuel_is]; omega) f34 f32
      have er : rwA t 1 (N - s) s = rwA t 1 (N - (s + 1)) (s + 1) := by
        rw [show N - s = (N - (s + 1)) + 1 by omega, rwA, if_pos k1]
      obtain ⟨y1, y2, _⟩ := rwA_in (t := t) (k := 1) (N - (s + 1)) (s + 1)
      rw [er] at z2
      generalize rwA t 1 (N - (s + 1)) (s + 1) = e at *
      have h33 : upd F5 35 1 33 = nI s := by rw [upd_ne (by decide), z3 33 (by decide)]; exact f33
      have h32 : upd F5 35 1 32 = nI e := by rw [upd_ne (by decide)]; exact z2
      have h34 : upd F5 35 1 34 = nI N := by rw [upd_ne (by decide), z3 34 (by decide)]; exact f34
      have hw : m_X12_wordFrom (upd F5 35 1) tp (nI s) (nI e) = some (encL (fidx t s e 0 WD)) := r_wordF hX h34 (by omega) (by omega) WD 0 0 fuelN KnA_0 (by omega) (by rw [fuel_is]; omega)
      rw [z1, m_X12_go_j130, nm, h33, h32, bd_ok hw, nm]
      refine ⟨_, rfl, ⟨?_, ?_, ?_, ?_, ?_⟩, fun j hj => ?_⟩
      · rw [upd_ne (by decide)]; exact h32
      · rw [upd_ne (by decide)]; exact h33
      · rw [upd_ne (by decide), upd_eq]; rfl
      · rw [upd_ne (by decide), upd_ne (by decide), z3 36 (by decide), f36]; rfl
      · rw [upd_eq]; rfl
      · rw [upd_ne (by omega), upd_ne (by omega), z3 j (by omega)]; exact ff j hj
    · rw [if_neg k1, if_pos (show nI 0 = 0 from rfl)]
      by_cases k2 : kd (t s) = 2
      · obtain ⟨d1, d2⟩ := kd_2.mp k2
        rw [if_neg (show ¬ nI (t s) < 48 from nI_nlt (b := 48) d1 (by omega)), if_neg (show ¬ (57 : Int32) < nI (t s) from nI_nlt (a := 57) d2 (by decide)), if_pos (Or.inr k2), k2]
        obtain ⟨F5, z1, z2, z3, z4⟩ := r_digits (s := s) hX (K := m_X12_go_j247 tp) (N - s) s fuelN F4 (by omega) (Nat.le_refl _) (by rw [fuel_is]; omega) f34 f32 f33 (by rw [f36, Nat.sub_self]; rfl)
        have er : rwA t 2 (N - s) s = rwA t 2 (N - (s + 1)) (s + 1) := by
          rw [show N - s = (N - (s + 1)) + 1 by omega, rwA, if_pos k2]
        rw [er] at z2 z3
        generalize rwA t 2 (N - (s + 1)) (s + 1) = e at *
        rw [z1, m_X12_go_j247, nm]
        refine ⟨_, rfl, ⟨?_, ?_, ?_, ?_, ?_⟩, fun j hj => ?_⟩
        · rw [upd_ne (by decide)]; exact z2
        · rw [upd_ne (by decide), z4 33 (by decide) (by decide)]; exact f33
        · rw [upd_eq]; rfl
        · rw [upd_ne (by decide)]; exact z3
        · rw [upd_ne (by decide), z4 37 (by decide) (by decide), f37]; rfl
        · rw [upd_ne (by omega), z4 j (by omega) (by omega)]; exact ff j hj
      · have k3 : kd (t s) = 3 := by omega
        have nd : ¬ (48 ≤ t s ∧ t s ≤ 57) := fun e => k2 (kd_2.mpr e)
        rw [if_neg (show ¬ (kd (t s) = 1 ∨ kd (t s) = 2) from fun e => e.elim k1 k2), k3]
        have go : ∃ F', m_X12_go_j255 tp (nI (t s)) F4 = some F' ∧ RT F' t (3, s, s + 1) ∧ frG F' F := by
          rw [m_X12_go_j255, nm, f32, show nI s + 1 = nI (s + 1) from nI_1 _]
          have fin : ∀ v : Int32, v = nI (srA t (3, s, s + 1)) → ∃ F', m_X12_go_j283 tp (nI (t s)) v (upd F4 32 (nI (s + 1))) = some F' ∧ RT F' t (3, s, s + 1) ∧ frG F' F := by
            intro v hv
            rw [m_X12_go_j283, nm, nm]
            refine ⟨_, rfl, ⟨?_, ?_, ?_, upd_eq, ?_⟩, fun j hj => ?_⟩
            · rw [upd_ne (by decide), upd_ne (by decide), upd_eq]
            · rw [upd_ne (by decide), upd_ne (by decide), upd_ne (by decide)]; exact f33
            · rw [upd_ne (by decide), upd_eq, hv]
            · rw [upd_ne (by decide), upd_ne (by decide), upd_ne (by decide), f37]; rfl
            · rw [upd_ne (by omega), upd_ne (by omega), upd_ne (by omega)]; exact ff j hj
          have es : srA t (3, s, s + 1) = if t s = 59 ∨ t s = 44 then 3 else 4 := rfl
          by_cases q1 : t s = 59
          · rw [if_pos (show nI (t s) = 59 by rw [q1]; rfl), m_X12_go_j278]
            exact fin _ (by rw [es, if_pos (Or.inl q1)]; rfl)
          · rw [if_neg (show ¬ nI (t s) = 59 from fun e => q1 (nI_inj (b := 59) (by omega) (by decide) e))]
            by_cases q2 : t s = 44
            · rw [if_pos (show nI (t s) = 44 by rw [q2]; rfl), m_X12_go_j278]
              exact fin _ (by rw [es, if_pos (Or.inr q2)]; rfl)
            · rw [if_neg (show ¬ nI (t s) = 44 from fun e => q2 (nI_inj (b := 44) (by omega) (by decide) e))]
              exact fin _ (by rw [es, if_neg (fun e => e.elim q1 q2)]; rfl)
        by_cases z : t s < 48
        · rw [if_pos (show nI (t s) < 48 from nI_lt (b := 48) z (by decide))]; exact go
        · rw [if_neg (show ¬ nI (t s) < 48 from nI_nlt (b := 48) (by omega) (by omega)), if_pos (show (57 : Int32) < nI (t s) from nI_lt (a := 57) (by omega) (by omega))]; exact go
  · rw [if_neg c, if_neg (nI_nlt (by omega) (by omega)), nm]
    exact ⟨_, rfl, ⟨(upd_ne (by decide)).trans f32, (upd_ne (by decide)).trans f33, upd_eq, by rw [upd_ne (by decide), f36]; rfl, by rw [upd_ne (by decide), f37]; rfl⟩, fun j hj => by rw [upd_ne (by omega)]; exact ff j hj⟩
