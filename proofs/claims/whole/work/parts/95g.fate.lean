/-! ===== fates ===== -/
def eqB (f g : Nat → Nat) : Nat → Bool
  | 0 => true
  | k + 1 => eqB f g k && decide (f (20 + k) = g k)
def fateN (f be af : Nat → Nat) : Nat := if eqB f be 44 = true then (if eqB f af 44 = true then 2 else 0) else (if eqB f af 44 = true then 1 else 3)
def bN (b : Bool) : Nat := if b = true then 1 else 0
theorem eqB_false {f g : Nat → Nat} {k : Nat} (h : eqB f g k = false) : ∀ n, k ≤ n → eqB f g n = false := by
  intro n
  induction n with
  | zero => intro hk; rw [show k = 0 by omega] at h; exact h
  | succ n ih =>
    intro hk
    by_cases e : k = n + 1
    · rw [← e]; exact h
    · rw [eqB, ih (by omega)]; rfl
theorem eqB_congr {f g h : Nat → Nat} : ∀ n, (∀ k, k < n → g k = h k) → eqB f g n = eqB f h n := by
  intro n
  induction n with
  | zero => intro _; rfl
  | succ n ih => intro e; rw [eqB, eqB, ih (fun k hk => e k (by omega)), e n (by omega)]
theorem bN_0 {b : Bool} : nI (bN b) = 0 ↔ b = false := by
  cases b
  · exact ⟨fun _ => rfl, fun _ => rfl⟩
  · exact ⟨fun h => absurd h (by decide), fun h => by cases h⟩
theorem c_fate_step {F pic be af se : Nat → Int32} {f b a : Nat → Nat} {k : Nat} (hk : k < 44) (hs : se (20 + k) = nI (f (20 + k))) (hb : be k = nI (b k)) (ha : af k = nI (a k)) (hf9 : f (20 + k) ≤ 99) (hb9 : b k ≤ 99) (ha9 : a k ≤ 99) {G : Int32 → Int32 → Int32 → (Nat → Int32) → Option (Int32 × (Nat → Int32))} :
    m_X9_fateBy_j30 F pic be af G (nI (bN (eqB f b k))) (nI (bN (eqB f a k))) (nI k) se = G (nI (bN (eqB f b (k + 1)))) (nI (bN (eqB f a (k + 1)))) (nI (k + 1)) se := by
  have hA : ∀ x : Bool, m_X9_fateBy_j63 F pic be af G (nI (bN (eqB f a k))) (nI k) (nI (f (20 + k))) (nI (bN x)) se = G (nI (bN x)) (nI (bN (eqB f a (k + 1)))) (nI (k + 1)) se := by
    intro x
    rw [m_X9_fateBy_j63, eqB]
    cases hc : eqB f a k with
    | false => rw [if_pos (show nI (bN false) = 0 from rfl), m_X9_fateBy_j84, m_X9_fateBy_j85, nm, show nI k + 1 = nI (k + 1) from nI_1 _, Bool.false_and]; rfl
    | true =>
      rw [if_neg (by decide), rd_nI hk (by decide), ha, Bool.true_and]
      by_cases e : f (20 + k) = a k
      · rw [if_pos (show nI (f (20 + k)) = nI (a k) by rw [e]), m_X9_fateBy_j85, nm, show nI k + 1 = nI (k + 1) from nI_1 _, decide_eq_true e]; rfl
      · rw [if_neg (fun h => e (nI_inj (by omega) (by omega) h)), m_X9_fateBy_j84, m_X9_fateBy_j85, nm, show nI k + 1 = nI (k + 1) from nI_1 _, decide_eq_false e]; rfl
  rw [m_X9_fateBy_j30, show (20 : Int32) = nI 20 from rfl, nI_add, rd_nI (by omega) (by decide), hs, eqB]
  cases hc : eqB f b k with
  | false => rw [if_pos (show nI (bN false) = 0 from rfl), m_X9_fateBy_j62, Bool.false_and]; exact hA false
  | true =>
    rw [if_neg (by decide), rd_nI hk (by decide), hb, Bool.true_and]
    by_cases e : f (20 + k) = b k
    · rw [if_pos (show nI (f (20 + k)) = nI (b k) by rw [e]), decide_eq_true e]; exact hA true
    · rw [if_neg (fun h => e (nI_inj (by omega) (by omega) h)), m_X9_fateBy_j62, decide_eq_false e]; exact hA false
theorem c_fate_loop {F pic be af se : Nat → Int32} {f b a : Nat → Nat} (hs : ∀ w, w < 64 → se w = nI (f w)) (hf : ∀ w, w < 64 → f w ≤ 99) (hb : ∀ k, k < 44 → be k = nI (b k)) (ha : ∀ k, k < 44 → af k = nI (a k)) (h9 : ∀ k, k < 44 → a k ≤ 99 ∧ b k ≤ 99) :
    ∀ (n k fuel : Nat), k + n = 44 → n < fuel → m_X9_fateBy_w15 F pic be af (m_X9_fateBy_j92 F pic be af) fuel (nI (bN (eqB f b k))) (nI (bN (eqB f a k))) (nI k) se = some (nI (fateN f b a), se) := by
  have fin : m_X9_fateBy_j92 F pic be af (nI (bN (eqB f b 44))) (nI (bN (eqB f a 44))) se = some (nI (fateN f b a), se) := by
    rw [m_X9_fateBy_j92]
    unfold fateN
    cases hc : eqB f b 44 with
    | false =>
      cases hd : eqB f a 44 with
      | false => rfl
      | true => rfl
    | true =>
      cases hd : eqB f a 44 with
      | false => rfl
      | true => rfl
  intro n
  induction n with
  | zero =>
    intro k fuel hk hfu
    obtain ⟨fuel, rfl⟩ : ∃ d, fuel = d + 1 := ⟨fuel - 1, by omega⟩
    rw [show k = 44 by omega, m_X9_fateBy_w15, if_pos (show (44 : Int32) ≤ nI 44 from nI_le (a := 44) (Nat.le_refl _) (by decide))]
    exact fin
  | succ n ih =>
    intro k fuel hk hfu
    obtain ⟨fuel, rfl⟩ : ∃ d, fuel = d + 1 := ⟨fuel - 1, by omega⟩
    rw [m_X9_fateBy_w15, if_neg (show ¬ (44 : Int32) ≤ nI k from nI_ge (b := 44) (by omega) (by decide))]
    have hst := c_fate_step (F := F) (pic := pic) (be := be) (af := af) (se := se) (f := f) (b := b) (a := a) (show k < 44 by omega) (hs _ (by omega)) (hb k (by omega)) (ha k (by omega)) (hf _ (by omega)) (h9 k (by omega)).2 (h9 k (by omega)).1 (G := m_X9_fateBy_w15 F pic be af (m_X9_fateBy_j92 F pic be af) fuel)
    by_cases c : eqB f b k = false
    · rw [if_pos (bN_0.mpr c)]
      by_cases d : eqB f a k = false
      · rw [if_pos (bN_0.mpr d), c, d]
        rw [eqB_false c 44 (by omega), eqB_false d 44 (by omega)] at fin
        exact fin
      · rw [if_neg (fun e => d (bN_0.mp e)), hst]
        exact ih (k + 1) fuel (by omega) (by omega)
    · rw [if_neg (fun e => c (bN_0.mp e)), hst]
      exact ih (k + 1) fuel (by omega) (by omega)
theorem c_recPic {pic se : Nat → Int32} {f : Nat → Nat} {mode : Nat} (hp : ∀ w, w < 64 → pic w = nI (f w)) (hf : ∀ w, w < 64 → f w ≤ 99) (hm : mode < 2) : ∃ r, m_X9_recoverPicture pic se (nI mode) = some r ∧ ∀ w, w < 64 → r w = nI (recA mode f w) := by
  have hc : ∀ w, w < 64 → va_cpy pic se 0 0 64 w = nI (f w) := by
    intro w hw
    unfold va_cpy
    rw [if_pos (by omega), show 0 + (w - 0) = w by omega]; exact hp w hw
  obtain ⟨r, h1, h2⟩ := c_recoverWords hc hf hm
  refine ⟨r, ?_, h2⟩
  rw [m_X9_recoverPicture, show (0 : Int32) = nI 0 from rfl, show (64 : Int32) = nI 64 from rfl, cp_nI (by decide) (by decide) (by decide) (by decide), bd_ok h1]
def fateA (mode : Nat) (A : MA) (ro : Nat → Nat) : Nat := fateN (recA mode (imgA (gX A) ro)) (gB A) (gA A)
theorem c_fateBy {F pic se be af : Nat → Int32} {mode : Nat} {A : MA} {ro : Nat → Nat} (hm : mode < 2) (hV : VM mode A) (hF : F 9 = nI mode) (hp : ∀ w, w < 64 → pic w = nI (imgA (gX A) ro w)) (hb : ∀ k, k < 44 → be k = nI (gB A k)) (ha : ∀ k, k < 44 → af k = nI (gA A k)) :
    ∃ se', m_X9_fateBy F pic se be af = some (nI (fateA mode A ro), se') ∧ ∀ w, w < 64 → se' w = nI (recA mode (imgA (gX A) ro) w) := by
  obtain ⟨r, h1, h2⟩ := c_recPic (se := se) hp (imgA_le hV.1) hm
  refine ⟨r, ?_, h2⟩
  rw [m_X9_fateBy, hF, bd_ok h1]
  exact c_fate_loop h2 (recA_le (imgA_le hV.1)) hb ha hV.2.2.2.2.2.2.2.2.2.2 44 0 fuelN rfl (by rw [fuel_is]; decide)
/-! the reference -/
theorem r_fate_loop {F rows ord we im : Nat → Int32} {p1 : Int32} {f b a : Nat → Nat} {pr : Bool} (hs : ∀ w, w < 64 → im w = nI (f w)) (hf : ∀ w, w < 64 → f w ≤ 99) (hb : ∀ k, k < 44 → we k = nI (b k)) (ha : pr = true → ∀ k, k < 44 → we (44 + k) = nI (a k)) (h9 : ∀ k, k < 44 → a k ≤ 99 ∧ b k ≤ 99) (hF : F 27 = nI (bN pr)) (hn : pr = false → ∀ k, k < 44 → b k = a k) :
    ∀ (n k fuel : Nat), k + n = 44 → n < fuel → m_X12_fateHere_w23 F rows ord we p1 (m_X12_fateHere_j99 F rows ord we p1) fuel (nI (bN (eqB f b k))) (nI (bN (pr && eqB f a k))) (nI k) im = some (nI (fateN f b a), im) := by
  intro n
  induction n with
  | zero =>
    intro k fuel hk hfu
    obtain ⟨fuel, rfl⟩ : ∃ d, fuel = d + 1 := ⟨fuel - 1, by omega⟩
    rw [show k = 44 by omega, m_X12_fateHere_w23, if_pos (show (44 : Int32) ≤ nI 44 from nI_le (a := 44) (Nat.le_refl _) (by decide)), m_X12_fateHere_j99, hF]
    unfold fateN
    cases pr with
    | false =>
      have e := eqB_congr (f := f) 44 (hn rfl)
      rw [← e]
      cases hc : eqB f b 44 with
      | false => rfl
      | true => rfl
    | true =>
      rw [Bool.true_and, if_neg (by decide)]
      cases hc : eqB f b 44 with
      | false =>
        cases hd : eqB f a 44 with
        | false => rfl
        | true => rfl
      | true =>
        cases hd : eqB f a 44 with
        | false => rfl
        | true => rfl
  | succ n ih =>
    intro k fuel hk hfu
    obtain ⟨fuel, rfl⟩ : ∃ d, fuel = d + 1 := ⟨fuel - 1, by omega⟩
    have l1 := hf (20 + k) (by omega)
    have l2 := h9 k (by omega)
    have hA : ∀ x : Bool, m_X12_fateHere_j59 F rows ord we p1 (m_X12_fateHere_w23 F rows ord we p1 (m_X12_fateHere_j99 F rows ord we p1) fuel) (nI (bN (pr && eqB f a k))) (nI k) (nI (bN x)) im = m_X12_fateHere_w23 F rows ord we p1 (m_X12_fateHere_j99 F rows ord we p1) fuel (nI (bN x)) (nI (bN (pr && eqB f a (k + 1)))) (nI (k + 1)) im := by
      intro x
      rw [m_X12_fateHere_j59, eqB]
      cases hp : pr with
      | false => rw [Bool.false_and, Bool.false_and, if_pos (show nI (bN false) = 0 from rfl), m_X12_fateHere_j91, m_X12_fateHere_j92, nm, show nI k + 1 = nI (k + 1) from nI_1 _]; rfl
      | true =>
        rw [Bool.true_and, Bool.true_and]
        cases hc : eqB f a k with
        | false => rw [if_pos (show nI (bN false) = 0 from rfl), m_X12_fateHere_j91, m_X12_fateHere_j92, nm, show nI k + 1 = nI (k + 1) from nI_1 _, Bool.false_and]; rfl
        | true =>
          rw [if_neg (by decide), show (20 : Int32) = nI 20 from rfl, show (44 : Int32) = nI 44 from rfl, nI_add, nI_add, rd_nI (by omega) (by decide), rd_nI (by omega) (by decide), hs _ (by omega), ha hp k (by omega), Bool.true_and]
          by_cases e : f (20 + k) = a k
          · rw [if_pos (show nI (f (20 + k)) = nI (a k) by rw [e]), m_X12_fateHere_j92, nm, show nI k + 1 = nI (k + 1) from nI_1 _, decide_eq_true e]; rfl
          · rw [if_neg (fun h => e (nI_inj (by omega) (by omega) h)), m_X12_fateHere_j91, m_X12_fateHere_j92, nm, show nI k + 1 = nI (k + 1) from nI_1 _, decide_eq_false e]; rfl
    have goal : ∀ x : Bool, x = eqB f b (k + 1) → m_X12_fateHere_w23 F rows ord we p1 (m_X12_fateHere_j99 F rows ord we p1) fuel (nI (bN x)) (nI (bN (pr && eqB f a (k + 1)))) (nI (k + 1)) im = some (nI (fateN f b a), im) := by
      intro x hx
      rw [hx]; exact ih (k + 1) fuel (by omega) (by omega)
    rw [m_X12_fateHere_w23, if_neg (show ¬ (44 : Int32) ≤ nI k from nI_ge (b := 44) (by omega) (by decide))]
    cases hc : eqB f b k with
    | false =>
      rw [if_pos (show nI (bN false) = 0 from rfl), m_X12_fateHere_j58]
      exact (hA false).trans (goal false (by rw [eqB, hc, Bool.false_and]))
    | true =>
      rw [if_neg (by decide), show (20 : Int32) = nI 20 from rfl, nI_add, rd_nI (by omega) (by decide), rd_nI (by omega) (by decide), hs _ (by omega), hb k (by omega)]
      by_cases e : f (20 + k) = b k
      · rw [if_pos (show nI (f (20 + k)) = nI (b k) by rw [e])]
        exact (hA true).trans (goal true (by rw [eqB, hc, Bool.true_and, decide_eq_true e]))
      · rw [if_neg (fun h => e (nI_inj (by omega) (by omega) h)), m_X12_fateHere_j58]
        exact (hA false).trans (goal false (by rw [eqB, hc, Bool.true_and, decide_eq_false e]))
/-- what is well, as the reference lays it -/
def WL (F we : Nat → Int32) (A : MA) : Prop := F 27 = nI (bN (decide (flA A = 1))) ∧ (∀ k, k < 44 → we k = nI (gB A k)) ∧ (decide (flA A = 1) = true → ∀ k, k < 44 → we (44 + k) = nI (gA A k))
theorem flA_1 {A : MA} (h : flA A = 1) : ¬ gM A = [] ∧ ¬ gS A = 2 := by
  unfold flA at h
  by_cases c : (gM A).length = 0
  · rw [if_pos c] at h; cases h
  · rw [if_neg c] at h
    by_cases d : gS A = 2
    · rw [if_pos d] at h; cases h
    · exact ⟨fun e => c (by rw [e]; rfl), d⟩
theorem r_laysWell {F rows me we : Nat → Int32} {b mode : Nat} {A : MA} (hm : mode < 2) (hb : b + 786 ≤ 66100) (hR : RM rows b A) (hV : VM mode A) (hF : F 12 = nI mode) :
    ∃ F' me' we', m_X12_laysWell F rows me we (nI b) = some (F', me', we') ∧ WL F' we' A ∧ ∀ j, ¬ j = 27 → F' j = F j := by
  obtain ⟨k1, k2, k3, k4, k5, k6, k7, k8, k9⟩ := id hR
  obtain ⟨v1, v2, v3, v4, v5, v6, v7, v8, v9, v10, v11⟩ := id hV
  have hfl2 : flA A ≤ 2 := by
    unfold flA
    by_cases c : (gM A).length = 0
    · rw [if_pos c]; omega
    · rw [if_neg c]
      by_cases d : gS A = 2
      · rw [if_pos d]; omega
      · rw [if_neg d]; omega
  -- the loop
  have loop : ∀ (F' me' : Nat → Int32), (gS A = 1 → ∀ w, w < 64 → me' w = nI (recA mode (gX A).1 w)) → ∃ we', m_X12_laysWell_j50 rows (nI b) F' me' we = some (F', me', we') ∧ (∀ k, k < 44 → we' k = nI (gB A k)) ∧ (decide (flA A = 1) = true → ∀ k, k < 44 → we' (44 + k) = nI (gA A k)) := by
    intro F' me' hme
    obtain ⟨r, ⟨h1, h2⟩, h3⟩ := loop_up (fun n i r => m_X12_laysWell_w52 rows (nI b) n i F' me' r) (fun r => some (F', me', r)) 44 (fun k r => (∀ j, j < k → r j = nI (gB A j)) ∧ (decide (flA A = 1) = true → ∀ j, j < k → r (44 + j) = nI (gA A j))) (by
      intro n k r hk hI
      refine ⟨upd (upd r k (nI (gB A k))) (44 + k) (rows (b + 572 + k)), ⟨fun j hj => ?_, fun hp j hj => ?_⟩, ?_⟩
      · rw [upd_ne (by omega)]
        by_cases e : j = k
        · rw [e, upd_eq]
        · rw [upd_ne e]; exact hI.1 j (by omega)
      · by_cases e : j = k
        · rw [e, upd_eq]
          have hp1 : flA A = 1 := by simpa using hp
          obtain ⟨p1, p2⟩ := flA_1 hp1
          have hs1 : ¬ gS A = 1 := fun e => p1 (v6 e).1
          exact k9 p1 (by omega) k hk
        · rw [upd_ne (by omega), upd_ne (by omega)]; exact hI.2 hp j (by omega)
      · show m_X12_laysWell_w52 rows (nI b) (n + 1) (nI k) F' me' r = m_X12_laysWell_w52 rows (nI b) n (nI (k + 1)) F' me' _
        have tail : ∀ x : Int32, x = nI (gB A k) → m_X12_laysWell_j126 rows (nI b) (m_X12_laysWell_w52 rows (nI b) n) (nI k) (nI k) x F' me' r = m_X12_laysWell_w52 rows (nI b) n (nI (k + 1)) F' me' (upd (upd r k (nI (gB A k))) (44 + k) (rows (b + 572 + k))) := by
          intro x hx
          rw [hx, m_X12_laysWell_j126, wr_nI (by omega) (by decide), show (572 : Int32) = nI 572 from rfl, show (44 : Int32) = nI 44 from rfl, nI_add, nI_add, nI_add, rd_nI (by omega) (by decide), wr_nI (by omega) (by decide), nm, show nI k + 1 = nI (k + 1) from nI_1 _]
        rw [m_X12_laysWell_w52, if_neg (show ¬ (44 : Int32) ≤ nI k from nI_ge (b := 44) hk (by decide)), show (772 : Int32) = nI 772 from rfl, show (20 : Int32) = nI 20 from rfl, show (776 : Int32) = nI 776 from rfl, show (528 : Int32) = nI 528 from rfl, nI_add, nI_add, nI_add, nI_add, nI_add, rd_nI (by omega) (by decide), k4]
        by_cases c1 : gS A = 1
        · rw [if_pos (show nI (gS A) = 1 by rw [c1]; rfl), rd_nI (by omega) (by decide)]
          refine tail _ ?_
          rw [hme c1 _ (by omega), v9 c1 k hk, v10 (Or.inl (by omega)) k hk]
        · rw [if_neg (show ¬ nI (gS A) = 1 from fun e => c1 (nI_inj (b := 1) (by omega) (by decide) e)), rd_nI (by omega) (by decide), k6]
          by_cases c2 : (gM A).length = 0
          · have hm0 : gM A = [] := List.length_eq_zero_iff.mp c2
            rw [if_pos (show nI (flA A) = 0 by unfold flA; rw [if_pos c2]; rfl), bd_ok (r_wordOf k1 v1 (by omega) hb)]
            refine tail _ ?_
            have e1 := v8 c1 k hk
            rw [hm0] at e1
            have e1 : wordA (gX A) (20 + k) = gA A k := e1
            rw [e1, v10 (Or.inr hm0) k hk]
          · rw [if_neg (show ¬ nI (flA A) = 0 by
              intro e
              have := nI_inj (b := 0) (by omega) (by decide) e
              unfold flA at this
              rw [if_neg c2] at this
              by_cases d : gS A = 2
              · rw [if_pos d] at this; cases this
              · rw [if_neg d] at this; cases this), rd_nI (by omega) (by decide)]
            exact tail _ (k8 (fun e => c2 (by rw [e]; rfl)) k hk)) (by
      intro n r _
      show m_X12_laysWell_w52 rows (nI b) (n + 1) (nI 44) F' me' r = _
      rw [m_X12_laysWell_w52, if_pos (show (44 : Int32) ≤ nI 44 from nI_le (a := 44) (Nat.le_refl _) (by decide))]) fuelN 0 we (Nat.zero_le _) (by rw [fuel_is]; omega) ⟨fun j hj => absurd hj (Nat.not_lt_zero j), fun _ j hj => absurd hj (Nat.not_lt_zero j)⟩
    refine ⟨r, ?_, h1, h2⟩
    rw [m_X12_laysWell_j50]; exact h3
  have mid : ∀ x : Nat, x = bN (decide (flA A = 1)) → ∃ F' me' we', m_X12_laysWell_j20 rows (nI b) (nI x) F me we = some (F', me', we') ∧ WL F' we' A ∧ ∀ j, ¬ j = 27 → F' j = F j := by
    intro x hx
    have hcb : ∀ (k : Option ((Nat → Int32) × (Nat → Int32) × (Nat → Int32))), cb (nI x) k = k := by
      intro k
      rw [hx]
      cases decide (flA A = 1)
      · exact cb_0
      · exact cb_1
    have h12 : upd F 27 (nI x) 12 = nI mode := by rw [upd_ne (by decide)]; exact hF
    rw [m_X12_laysWell_j20, hcb, nm, show (772 : Int32) = nI 772 from rfl, nI_add, rd_nI (by omega) (by decide), k4]
    by_cases c1 : gS A = 1
    · obtain ⟨me1, e1, e2⟩ := r_laysMemory (mem := me) k1 hb
      obtain ⟨me2, e3, e4⟩ := r_recovers h12 e2 v1.1 hm
      rw [if_pos (show nI (gS A) = 1 by rw [c1]; rfl), bd_ok e1, bd_ok e3]
      obtain ⟨we', w1, w2, w3⟩ := loop (upd F 27 (nI x)) me2 (fun _ => e4)
      exact ⟨_, _, _, w1, ⟨by rw [upd_eq, hx], w2, w3⟩, fun j hj => upd_ne hj⟩
    · rw [if_neg (show ¬ nI (gS A) = 1 from fun e => c1 (nI_inj (b := 1) (by omega) (by decide) e))]
      obtain ⟨we', w1, w2, w3⟩ := loop (upd F 27 (nI x)) me (fun e => absurd e c1)
      exact ⟨_, _, _, w1, ⟨by rw [upd_eq, hx], w2, w3⟩, fun j hj => upd_ne hj⟩
  rw [m_X12_laysWell, show (776 : Int32) = nI 776 from rfl, nI_add, rd_nI (by omega) (by decide), k6]
  by_cases c : flA A = 1
  · rw [if_pos (show nI (flA A) = 1 by rw [c]; rfl)]
    exact mid 1 (by rw [decide_eq_true c]; rfl)
  · rw [if_neg (show ¬ nI (flA A) = 1 from fun e => c (nI_inj (b := 1) (by omega) (by decide) e))]
    exact mid 0 (by rw [decide_eq_false c]; rfl)
theorem r_fateHere {F rows ord im we : Nat → Int32} {b mode : Nat} {A : MA} {ro : Nat → Nat} (hm : mode < 2) (hb : b + 786 ≤ 66100) (hR : RM rows b A) (hV : VM mode A) (hF : F 12 = nI mode) (hW : WL F we A) (hok : okRo (gX A) ro) (ho : ∀ l, l < 16 → ord l = nI (ro l)) :
    ∃ im', m_X12_fateHere F rows ord im we (nI b) = some (nI (fateA mode A ro), im') := by
  obtain ⟨i1, e1, e2⟩ := r_laysImage (im := im) hR.1 hV.1 hb hok ho
  obtain ⟨i2, e3, e4⟩ := r_recovers hF e2 (imgA_le hV.1) hm
  refine ⟨i2, ?_⟩
  rw [m_X12_fateHere, bd_ok e1, bd_ok e3, nm, hW.1]
  have h := r_fate_loop (F := F) (rows := rows) (ord := ord) (p1 := nI b) e4 (recA_le (imgA_le hV.1)) hW.2.1 hW.2.2 hV.2.2.2.2.2.2.2.2.2.2 hW.1 (fun hp => hV.2.2.2.2.2.2.2.2.2.1 (by
    have hp : ¬ flA A = 1 := by simpa using hp
    unfold flA at hp
    by_cases c : (gM A).length = 0
    · exact Or.inr (List.length_eq_zero_iff.mp c)
    · rw [if_neg c] at hp
      by_cases d : gS A = 2
      · exact Or.inl (by omega)
      · rw [if_neg d] at hp; exact absurd rfl hp)) 44 0 fuelN rfl (by rw [fuel_is]; decide)
  rw [show (decide (flA A = 1) && eqB (recA mode (imgA (gX A) ro)) (gA A) 0) = decide (flA A = 1) by rw [eqB, Bool.and_true]] at h
  exact h
