/-! ===== the class's shape ===== -/
theorem c_isBlk {a : Nat} (ha : a < 2 ^ 31) : m_X11_isBlockAddress (nI a) = some (if 24 ≤ a ∧ a < 64 ∧ a % 4 = 0 then 1 else 0) := by
  rw [m_X11_isBlockAddress]
  have h0 : nI 0 = 0 := rfl
  simp (disch := omega) only [lit32, nI_ltI, nI_leI, nI_modE, nI_eq]
  by_cases h1 : a < 24
  · rw [if_pos h1, if_neg (by omega)]
  · rw [if_neg h1]
    by_cases h2 : 64 ≤ a
    · rw [if_pos h2, if_neg (by omega)]
    · rw [if_neg h2]
      by_cases h3 : a % 4 = 0
      · rw [if_pos h3, if_pos (by omega)]
      · rw [if_neg h3, if_neg (by omega)]
def folK {ρ : Type} (k58 k80 k114 : Int32 → (Nat → Int32) → Option ρ) (q : Nat × Bool × Bool) (F : Nat → Int32) : Option ρ := if q.2.1 = true then k58 (nI q.1) F else if q.2.2 = true then k80 (nI q.1) F else k114 (nI q.1) F
theorem c_follow_loop {a : Nat → Int32} {f : Nat → Nat} (ha : ∀ w, w < 64 → a w = nI (f w)) (hf : ∀ w, w < 64 → f w ≤ 99) {p2 : Int32} {k58 k80 k114 : Int32 → (Nat → Int32) → Option (Nat → Int32)} {F : Nat → Int32} (hF : F 2 = nI (usedN f 10)) :
    ∀ (c n mine ad : Nat), c ≤ 11 → c < n → mine < 1024 → ad ≤ 99 → m_X7_follow_w13 a 64 p2 k58 k80 k114 n (nI mine) (nI ad) (nI (11 - c)) F = folK k58 k80 k114 (folA f c mine ad) F := by
  intro c
  induction c with
  | zero =>
    intro n mine ad hc hn hm had
    obtain ⟨n, rfl⟩ : ∃ d, n = d + 1 := ⟨n - 1, by omega⟩
    rw [m_X7_follow_w13]
    simp (disch := omega) only [lit32, nI_ltI, if_pos]
    rfl
  | succ c ih =>
    intro n mine ad hc hn hm had
    obtain ⟨n, rfl⟩ : ∃ d, n = d + 1 := ⟨n - 1, by omega⟩
    rw [m_X7_follow_w13, folA]
    simp (disch := omega) only [lit32, nI_ltI, if_neg, Nat.not_lt, nI_eq, c_isBlk, bd, Option.bind_some]
    by_cases h0 : ad = 0
    · rw [if_pos h0, if_pos h0]; rfl
    · rw [if_neg h0, if_neg h0]
      by_cases hb : 24 ≤ ad ∧ ad < 64 ∧ ad % 4 = 0
      · have hk : (ad - 24) / 4 < 10 := by omega
        have hkk : 24 + 4 * ((ad - 24) / 4) = ad := by omega
        have hu := usedN_lt f 10 (Nat.le_refl _)
        simp (disch := omega) only [if_pos hb, nI_eq, if_neg, nI_subE, nI_divE, nI_and, and31, nI_shl]
        rw [m_X7_follow_j46]
        simp (disch := omega) only [hF, lit32, nI_and, nI_or, nI_add, nm]
        have hz : ∀ s, s < 1024 → ((nI (s &&& 1 <<< ((ad - 24) / 4)) = nI 0) ↔ s.testBit ((ad - 24) / 4) = false) := by
          intro s hs
          rw [nI_eq (Nat.lt_of_le_of_lt Nat.and_le_left (by omega)) (by decide)]
          exact tb_and s hs _ hk
        have hub := usedN_bit f 10 (Nat.le_refl _) _ hk
        rw [hkk] at hub
        by_cases hw : f ad = 1
        · have e1 : blkOf f ad = some ((ad - 24) / 4) := if_pos ⟨hb, hw⟩
          rw [e1, if_neg (fun q => by
            have := (hz _ hu).mp q
            rw [hub.mpr ⟨hk, hw⟩] at this; cases this)]
          show _ = folK k58 k80 k114 (if mine.testBit ((ad - 24) / 4) then (mine, false, true) else folA f c (mine ||| 1 <<< ((ad - 24) / 4)) (f (ad + 1))) F
          by_cases ht : mine.testBit ((ad - 24) / 4) = true
          · rw [if_pos ht, if_neg (fun q => by rw [(hz _ hm).mp q] at ht; cases ht)]; rfl
          · have ht' : mine.testBit ((ad - 24) / 4) = false := by simpa using ht
            rw [if_neg ht, if_pos ((hz _ hm).mpr ht')]
            simp (disch := omega) only [rd_nI, ha, nI_add]
            rw [show 11 - (c + 1) + 1 = 11 - c by omega]
            exact ih n _ _ (by omega) (by omega) (or_lt (n := 10) hm (shl_lt _ hk)) (hf _ (by omega))
        · have e1 : blkOf f ad = none := if_neg (fun q => hw q.2)
          rw [e1, if_pos ((hz _ hu).mpr (by
            cases hcs : (usedN f 10).testBit ((ad - 24) / 4) with
            | false => rfl
            | true => exact absurd (hub.mp hcs).2 hw))]
          rfl
      · have e1 : blkOf f ad = none := if_neg (fun q => hb q.1)
        rw [e1]
        simp (disch := omega) only [if_neg hb, if_pos]
        rw [m_X7_follow_j46]
        simp (disch := omega) only [hF, lit32, nI_and, Nat.and_zero, if_pos]
        rfl
theorem fol_x (f : Nat → Nat) : ∀ n mine a, (folA f n mine a).2.1 = true → (folA f n mine a).2.2 = false := by
  intro n
  induction n with
  | zero => intro mine a h; cases h
  | succ n ih =>
    intro mine a
    rw [folA]
    by_cases h0 : a = 0
    · rw [if_pos h0]; intro h; cases h
    · rw [if_neg h0]
      cases blkOf f a with
      | none => intro _; rfl
      | some k =>
        show (if mine.testBit k then (mine, false, true) else folA f n (mine ||| 1 <<< k) (f (a + 1))).2.1 = true → (if mine.testBit k then (mine, false, true) else folA f n (mine ||| 1 <<< k) (f (a + 1))).2.2 = false
        by_cases ht : mine.testBit k = true
        · rw [if_pos ht]; intro h; cases h
        · rw [if_neg ht]; exact ih _ _
theorem c_follow {a : Nat → Int32} {f : Nat → Nat} (ha : ∀ w, w < 64 → a w = nI (f w)) (hf : ∀ w, w < 64 → f w ≤ 99) {F : Nat → Int32} (hF : F 2 = nI (usedN f 10)) {r : Nat} (hr : r < 4) : ∃ F', m_X7_follow F a 64 (nI r) = some F' ∧ F' 2 = F 2 ∧ F' 0 = F 0 ||| nI (folA f 11 0 (f (20 + r))).1 ∧ F' 3 = (if (folA f 11 0 (f (20 + r))).2.1 = true then F 3 ||| nI (1 <<< r) else F 3) ∧ F' 4 = (if (folA f 11 0 (f (20 + r))).2.2 = true then F 4 ||| nI (1 <<< r) else F 4) := by
  rw [m_X7_follow]
  simp (disch := omega) only [lit32, nI_add, rd_nI, ha]
  have h := c_follow_loop ha hf (p2 := nI r) (k58 := m_X7_follow_j58 a 64 (nI r)) (k80 := m_X7_follow_j80 a 64 (nI r)) (k114 := m_X7_follow_j114 a 64 (nI r)) hF 11 fuelN 0 (f (20 + r)) (Nat.le_refl _) (by rw [fuel_is]; omega) (by decide) (hf _ (by omega))
  rw [show nI 0 = nI (11 - 11) from rfl] at h ⊢
  rw [show (11 - 11 : Nat) = 0 from rfl] at h ⊢
  rw [h]
  have hx := fol_x f 11 0 (f (20 + r))
  generalize folA f 11 0 (f (20 + r)) = q at hx ⊢
  unfold folK
  have es : nI 1 <<< (nI r &&& nI 31) = nI (1 <<< r) := by rw [nI_and, and31 (by omega), nI_shl r (by omega)]
  cases h1 : q.2.1 with
  | true =>
    rw [hx h1, if_pos rfl]
    simp only [m_X7_follow_j58, m_X7_follow_j114, lit32, nm, es]
    exact ⟨_, rfl, rfl, rfl, rfl, rfl⟩
  | false =>
    rw [if_neg (by decide)]
    cases h2 : q.2.2 with
    | true =>
      rw [if_pos rfl]
      simp only [m_X7_follow_j80, m_X7_follow_j114, lit32, nm, es]
      exact ⟨_, rfl, rfl, rfl, rfl, rfl⟩
    | false =>
      rw [if_neg (by decide), m_X7_follow_j114]
      simp only [nm]
      exact ⟨_, rfl, rfl, rfl, rfl, rfl⟩
theorem ite_or {c : Bool} {a b : Nat} : (if c = true then nI a ||| nI b else nI a) = nI (if c = true then a ||| b else a) := by
  cases c
  · rfl
  · exact nI_or a b
theorem c_survey {a : Nat → Int32} {f : Nat → Nat} (ha : ∀ w, w < 64 → a w = nI (f w)) (hf : ∀ w, w < 64 → f w ≤ 99) (F : Nat → Int32) : ∃ F', m_X7_survey F a 64 = some F' ∧ F' 0 = nI (survN f 4).1 ∧ F' 1 = leakA f ∧ F' 2 = nI (usedN f 10) ∧ F' 3 = nI (survN f 4).2.1 ∧ F' 4 = nI (survN f 4).2.2 := by
  obtain ⟨F1, a1, a2⟩ := loop_up (fun n i F => m_X7_survey_w7 a 64 (m_X7_survey_j45 a 64) n i F) (fun F => m_X7_survey_j45 a 64 F) 10 (fun k F => F 2 = nI (usedN f k)) (by
    intro n k F hk hI
    show ∃ s', _ ∧ m_X7_survey_w7 _ _ _ _ _ _ = m_X7_survey_w7 _ _ _ _ _ _
    rw [m_X7_survey_w7]
    have eb : m_X11_blockAddress (nI k) = some (nI (24 + k * 4)) := by
      rw [m_X11_blockAddress]; simp only [lit32, nI_mulE, nI_add]
    have hfa := hf (24 + k * 4) (by omega)
    simp (disch := omega) only [lit32, nI_leI, if_neg, Nat.not_le, eb, bd, Option.bind_some, rd_nI, ha, nI_eq, nI_and, and31, nI_shl]
    rw [usedN, show 24 + 4 * k = 24 + k * 4 by omega]
    by_cases h : f (24 + k * 4) = 1
    · refine ⟨upd F 2 (nI (usedN f k ||| 1 <<< k)), by rw [if_pos h]; exact upd_eq, ?_⟩
      rw [if_pos h, m_X7_survey_j35]
      simp only [nm, lit32, nI_add, hI, nI_or]
    · refine ⟨upd F 2 (nI (usedN f k)), by rw [if_neg h]; exact upd_eq, ?_⟩
      rw [if_neg h, m_X7_survey_j35]
      simp only [nm, lit32, nI_add, hI, nI_or, Nat.or_zero]) (by
    intro n F _
    show m_X7_survey_w7 _ _ _ _ _ _ = _
    rw [m_X7_survey_w7]
    simp (disch := omega) only [lit32, nI_leI, if_pos]) fuelN 0 (upd F 2 0) (Nat.zero_le _) (by rw [fuel_is]; omega) upd_eq
  obtain ⟨F2, ⟨b1, b2, b3, b4⟩, b5⟩ := loop_up (fun n i F => m_X7_survey_w62 a 64 (m_X7_survey_j79 a 64) n i F) (fun F => m_X7_survey_j79 a 64 F) 4 (fun k F => F 2 = nI (usedN f 10) ∧ F 0 = nI (survN f k).1 ∧ F 3 = nI (survN f k).2.1 ∧ F 4 = nI (survN f k).2.2) (by
    intro n k F hk hI
    obtain ⟨F', g1, g2, g3, g4, g5⟩ := c_follow ha hf hI.1 hk
    refine ⟨F', ⟨g2.trans hI.1, ?_, ?_, ?_⟩, ?_⟩
    · rw [g3, hI.2.1, nI_or]; rfl
    · rw [g4, hI.2.2.1, ite_or]; rfl
    · rw [g5, hI.2.2.2, ite_or]; rfl
    · show m_X7_survey_w62 _ _ _ _ _ _ = _
      rw [m_X7_survey_w62]
      simp (disch := omega) only [nm, lit32, nI_leI, if_neg, Nat.not_le, g1, bd, Option.bind_some, nI_add]) (by
    intro n F _
    show m_X7_survey_w62 _ _ _ _ _ _ = _
    rw [m_X7_survey_w62]
    simp (disch := omega) only [lit32, nI_leI, if_pos]) fuelN 0 (upd (upd (upd F1 0 0) 3 0) 4 0) (Nat.zero_le _) (by rw [fuel_is]; omega) ⟨by rw [upd_ne (by decide), upd_ne (by decide), upd_ne (by decide)]; exact a1, rfl, rfl, rfl⟩
  refine ⟨upd F2 1 (F2 2 &&& (F2 0 ^^^ (-1))), ?_, ?_, ?_, ?_, ?_, ?_⟩
  · rw [m_X7_survey]
    refine a2.trans ?_
    rw [m_X7_survey_j45]
    exact b5
  · rw [upd_ne (by decide)]; exact b2
  · rw [upd_eq, b1, b2]; rfl
  · rw [upd_ne (by decide)]; exact b1
  · rw [upd_ne (by decide)]; exact b3
  · rw [upd_ne (by decide)]; exact b4
