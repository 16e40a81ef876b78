/-! ===== the reference's shape (its fields 20 reached, 21 torn, 22 round) ===== -/
theorem r_usedAt {a : Nat → Int32} {f : Nat → Nat} (ha : ∀ w, w < 64 → a w = nI (f w)) (hf : ∀ w, w < 64 → f w ≤ 99) {ad : Nat} (had : ad ≤ 99) : m_X12_usedAt a 64 (nI ad) = some (match blkOf f ad with | some k => nI k | none => -1) := by
  rw [m_X12_usedAt, m_X12_blockAt]
  simp (disch := omega) only [lit32, nI_ltI, nI_leI, nI_modE, nI_eq]
  have hm : ∀ j : Nat, j < 10 → ¬ nI j = -nI 1 := by decide
  by_cases hb : 24 ≤ ad ∧ ad < 64 ∧ ad % 4 = 0
  · have hk : (ad - 24) / 4 < 10 := by omega
    have hkk : 24 + 4 * ((ad - 24) / 4) = ad := by omega
    have hfa := hf ad (by omega)
    simp (disch := omega) only [if_neg, Nat.not_lt, Nat.not_le, if_pos, nI_subE, nI_divE, bd, Option.bind_some, if_neg (hm _ hk), m_X12_isUsed, m_X12_block, lit32, nI_mulE, nI_add, rd_nI, hkk, ha, nI_eq]
    by_cases hw : f ad = 1
    · rw [if_pos hw, show blkOf f ad = some ((ad - 24) / 4) from if_pos ⟨hb, hw⟩]; rfl
    · rw [if_neg hw, show blkOf f ad = none from if_neg (fun q => hw q.2)]; rfl
  · rw [show blkOf f ad = none from if_neg (fun q => hb q.1)]
    by_cases h1 : ad < 24
    · rw [if_pos h1]; rfl
    · rw [if_neg h1]
      by_cases h2 : 64 ≤ ad
      · rw [if_pos h2]; rfl
      · rw [if_neg h2, if_neg (by omega)]; rfl
def shK {ρ : Type} (K : Int32 → Int32 → (Nat → Int32) → Option ρ) (r : Nat) (q : Nat × Bool × Bool) (F : Nat → Int32) : Option ρ := K (nI r) (nI q.1) (if q.2.1 = true then upd F 21 (F 21 ||| nI (1 <<< r)) else if q.2.2 = true then upd F 22 (F 22 ||| nI (1 <<< r)) else F)
theorem r_shape_loop {a : Nat → Int32} {f : Nat → Nat} (ha : ∀ w, w < 64 → a w = nI (f w)) (hf : ∀ w, w < 64 → f w ≤ 99) {K : Int32 → Int32 → (Nat → Int32) → Option (Nat → Int32)} {F : Nat → Int32} {r : Nat} (hr : r < 4) :
    ∀ (n mine ad : Nat), mine < 1024 → ad ≤ 99 → free10 mine + 1 < n → ∀ x4 : Int32, x4 = nI ad → m_X12_shapes_w44 a 64 K (n + 1) (nI r) (nI mine) x4 (if ad = 0 then 0 else 1) F = shK K r (folA f n mine ad) F := by
  have es : nI 1 <<< (nI r &&& nI 31) = nI (1 <<< r) := by rw [nI_and, and31 (by omega), nI_shl r (by omega)]
  have h01 : nI 0 = 0 := rfl
  have h11 : nI 1 = 1 := rfl
  intro n
  induction n with
  | zero => intro mine ad _ _ h; omega
  | succ n ih =>
    intro mine ad hm had hn x4 hx4
    subst hx4
    rw [m_X12_shapes_w44, folA]
    by_cases h0 : ad = 0
    · rw [if_pos h0, if_pos rfl, if_pos h0]; rfl
    · rw [if_neg h0, if_neg (by decide), if_neg h0]
      cases hb : blkOf f ad with
      | none =>
        rw [bd_ok (show m_X12_usedAt a 64 (nI ad) = some (-1) by rw [r_usedAt ha hf had, hb]), if_pos rfl]
        simp only [nm, lit32, es]
        rw [m_X12_shapes_j100, if_pos (show -nI 1 = -1 from rfl), m_X12_shapes_j119, m_X12_shapes_j120, if_pos rfl]
        obtain ⟨n', rfl⟩ : ∃ d, n = d + 1 := ⟨n - 1, by omega⟩
        rw [m_X12_shapes_w44, if_pos rfl]; rfl
      | some k =>
        obtain ⟨hbb, hw, hke, hk⟩ := blkOf_some hb
        have hm1 : ∀ j : Nat, j < 10 → ¬ nI j = -1 := by decide
        rw [bd_ok (show m_X12_usedAt a 64 (nI ad) = some (nI k) by rw [r_usedAt ha hf had, hb]), if_neg (hm1 k hk)]
        have eb : (nI mine >>> (nI k &&& nI 31)) &&& nI 1 = nI (if mine.testBit k then 1 else 0) := by
          rw [nI_and, and31 (by omega), nI_shr (by omega) (by omega), nI_and, tb_shr]
        have eb2 : (nI mine >>> (nI k &&& 31)) &&& 1 = nI (if mine.testBit k then 1 else 0) := eb
        rw [eb2]
        by_cases ht : mine.testBit k = true
        · rw [if_pos ht, if_pos (show nI 1 = 1 from rfl)]
          simp only [ht, if_true]
          simp only [nm, lit32, es]
          rw [m_X12_shapes_j100, if_neg (hm1 k hk), if_neg (by rw [show ((nI mine >>> (nI k &&& 31)) &&& 1) = nI 1 from eb.trans (by rw [if_pos ht])]; decide), m_X12_shapes_j119, m_X12_shapes_j120, if_pos rfl]
          obtain ⟨n', rfl⟩ : ∃ d, n = d + 1 := ⟨n - 1, by omega⟩
          rw [m_X12_shapes_w44, if_pos rfl]; rfl
        · have ht' : mine.testBit k = false := by simpa using ht
          rw [if_neg ht, if_neg (by decide)]
          simp only [ht', Bool.false_eq_true, if_false]
          rw [m_X12_shapes_j100, if_neg (hm1 k hk), if_pos (show ((nI mine >>> (nI k &&& 31)) &&& 1) = 0 from eb.trans (by rw [if_neg ht]; rfl)), m_X12_shapes_j120, if_neg (by decide)]
          have hfr := free10_set mine hm k hk ht'
          have hkk : 24 + 4 * k + 1 = ad + 1 := by omega
          simp (disch := omega) only [nm, lit32, nI_and, and31, nI_shl, nI_or, m_X12_block, nI_mulE, nI_add, bd, Option.bind_some, rd_nI, hkk, ha]
          have hfa := hf (ad + 1) (by omega)
          have h := ih (mine ||| 1 <<< k) (f (ad + 1)) (or_lt (n := 10) hm (shl_lt k hk)) hfa (by omega) (nI (f (ad + 1))) rfl
          by_cases hz : f (ad + 1) = 0
          · rw [if_pos (show nI (f (ad + 1)) = nI 0 by rw [hz]), m_X12_shapes_j158]
            rw [if_pos hz] at h; exact h
          · rw [if_neg (fun q => hz (nI_inj (by omega) (by decide) q)), m_X12_shapes_j158]
            rw [if_neg hz] at h; exact h
theorem r_shapes {a : Nat → Int32} {f : Nat → Nat} (ha : ∀ w, w < 64 → a w = nI (f w)) (hf : ∀ w, w < 64 → f w ≤ 99) (F : Nat → Int32) : ∃ F', m_X12_shapes F a 64 = some F' ∧ F' 20 = nI (survN f 4).1 ∧ F' 21 = nI (survN f 4).2.1 ∧ F' 22 = nI (survN f 4).2.2 ∧ ∀ j, j < 20 ∨ 22 < j → F' j = F j := by
  obtain ⟨F2, ⟨b2, b3, b4, b6⟩, b5⟩ := loop_up (fun n i F => m_X12_shapes_w17 a 64 n i F) some 4 (fun k G => G 20 = nI (survN f k).1 ∧ G 21 = nI (survN f k).2.1 ∧ G 22 = nI (survN f k).2.2 ∧ ∀ j, j < 20 ∨ 22 < j → G j = F j) (by
    intro n k G hk hI
    have hfa := hf (20 + k) (by omega)
    have hl := r_shape_loop ha hf (K := m_X12_shapes_j163 a 64 (m_X12_shapes_w17 a 64 n)) (F := G) hk (fuelN - 1) 0 (f (20 + k)) (by decide) hfa (by rw [fuel_is]; decide) (nI (f (20 + k))) rfl
    rw [show fuelN - 1 + 1 = fuelN from rfl, folA_any f (fuelN - 1) (by rw [fuel_is]; decide)] at hl
    obtain ⟨i1, i2, i3, i4⟩ := hI
    refine ⟨upd (if (folA f 11 0 (f (20 + k))).2.1 = true then upd G 21 (G 21 ||| nI (1 <<< k)) else if (folA f 11 0 (f (20 + k))).2.2 = true then upd G 22 (G 22 ||| nI (1 <<< k)) else G) 20 (nI (survN f (k + 1)).1), ⟨upd_eq, ?_, ?_, ?_⟩, ?_⟩
    · rw [upd_ne (by decide)]
      show _ = nI (if (folA f 11 0 (f (20 + k))).2.1 then (survN f k).2.1 ||| 1 <<< k else (survN f k).2.1)
      generalize folA f 11 0 (f (20 + k)) = q
      cases q.2.1 with
      | true => rw [if_pos rfl, upd_eq, i2, nI_or]; rfl
      | false =>
        rw [if_neg (by decide)]
        cases q.2.2 with
        | true => rw [if_pos rfl, upd_ne (by decide)]; exact i2
        | false => rw [if_neg (by decide)]; exact i2
    · rw [upd_ne (by decide)]
      show _ = nI (if (folA f 11 0 (f (20 + k))).2.2 then (survN f k).2.2 ||| 1 <<< k else (survN f k).2.2)
      have hx := fol_x f 11 0 (f (20 + k))
      generalize folA f 11 0 (f (20 + k)) = q at hx
      cases h1 : q.2.1 with
      | true =>
        rw [hx h1]
        rw [if_pos rfl, upd_ne (by decide)]; exact i3
      | false =>
        rw [if_neg (by decide)]
        cases q.2.2 with
        | true => rw [if_pos rfl, upd_eq, i3, nI_or]; rfl
        | false => rw [if_neg (by decide)]; exact i3
    · intro j hj
      rw [upd_ne (by omega)]
      generalize folA f 11 0 (f (20 + k)) = q
      cases q.2.1 with
      | true => rw [if_pos rfl, upd_ne (by omega)]; exact i4 j hj
      | false =>
        rw [if_neg (by decide)]
        cases q.2.2 with
        | true => rw [if_pos rfl, upd_ne (by omega)]; exact i4 j hj
        | false => rw [if_neg (by decide)]; exact i4 j hj
    · show m_X12_shapes_w17 _ _ _ _ _ = _
      rw [m_X12_shapes_w17]
      simp (disch := omega) only [lit32, nI_leI, if_neg, Nat.not_le, nI_add, rd_nI, ha]
      have hfin : shK (m_X12_shapes_j163 a 64 (m_X12_shapes_w17 a 64 n)) k (folA f 11 0 (f (20 + k))) G = m_X12_shapes_w17 a 64 n (nI (k + 1)) (upd (if (folA f 11 0 (f (20 + k))).2.1 = true then upd G 21 (G 21 ||| nI (1 <<< k)) else if (folA f 11 0 (f (20 + k))).2.2 = true then upd G 22 (G 22 ||| nI (1 <<< k)) else G) 20 (nI (survN f (k + 1)).1)) := by
        unfold shK
        rw [m_X12_shapes_j163]
        have e20 : (if (folA f 11 0 (f (20 + k))).2.1 = true then upd G 21 (G 21 ||| nI (1 <<< k)) else if (folA f 11 0 (f (20 + k))).2.2 = true then upd G 22 (G 22 ||| nI (1 <<< k)) else G) 20 = nI (survN f k).1 := by
          generalize folA f 11 0 (f (20 + k)) = q
          cases q.2.1 with
          | true => rw [if_pos rfl, upd_ne (by decide)]; exact i1
          | false =>
            rw [if_neg (by decide)]
            cases q.2.2 with
            | true => rw [if_pos rfl, upd_ne (by decide)]; exact i1
            | false => rw [if_neg (by decide)]; exact i1
        simp only [nm, lit32, nI_add, e20, nI_or]
        rfl
      by_cases hz : f (20 + k) = 0
      · rw [if_pos (show nI (f (20 + k)) = nI 0 by rw [hz]), m_X12_shapes_j42]
        rw [if_pos hz] at hl
        exact hl.trans hfin
      · rw [if_neg (fun q => hz (nI_inj (by omega) (by decide) q)), m_X12_shapes_j42]
        rw [if_neg hz] at hl
        exact hl.trans hfin) (by
    intro n F _
    show m_X12_shapes_w17 _ _ _ _ _ = _
    rw [m_X12_shapes_w17]
    simp (disch := omega) only [lit32, nI_leI, if_pos]) fuelN 0 (upd (upd (upd F 22 0) 21 0) 20 0) (Nat.zero_le _) (by rw [fuel_is]; omega) ⟨rfl, rfl, rfl, fun j hj => by rw [upd_ne (by omega), upd_ne (by omega), upd_ne (by omega)]⟩
  exact ⟨F2, b5, b2, b3, b4, b6⟩
theorem r_usedBlocks {a : Nat → Int32} {f : Nat → Nat} (ha : ∀ w, w < 64 → a w = nI (f w)) (hf : ∀ w, w < 64 → f w ≤ 99) : m_X12_usedBlocks a 64 = some (nI (usedN f 10)) := by
  obtain ⟨s, h1, h2⟩ := loop_up (fun n i (s : Nat) => m_X12_usedBlocks_w4 a 64 n (nI s) i) (fun s => some (nI s)) 10 (fun k s => s = usedN f k) (by
    intro n k s hk hI
    subst hI
    refine ⟨usedN f (k + 1), rfl, ?_⟩
    show m_X12_usedBlocks_w4 _ _ _ _ _ = _
    rw [m_X12_usedBlocks_w4, usedN]
    have hfa := hf (24 + 4 * k) (by omega)
    simp (disch := omega) only [lit32, nI_leI, if_neg, Nat.not_le, m_X12_isUsed, m_X12_block, bd, Option.bind_some, nI_mulE, nI_add, rd_nI, ha, nI_eq]
    by_cases h : f (24 + 4 * k) = 1
    · simp (disch := omega) only [if_pos h, Option.bind_some, nI_eq, if_neg, nm, lit32, nI_and, and31, nI_shl, nI_or, m_X12_usedBlocks_j24, nI_add]
    · simp (disch := omega) only [if_neg h, Option.bind_some, nI_eq, if_pos, if_true, nm, lit32, m_X12_usedBlocks_j24, nI_add]) (by
    intro n s _
    show m_X12_usedBlocks_w4 _ _ _ _ _ = _
    rw [m_X12_usedBlocks_w4]
    simp (disch := omega) only [lit32, nI_leI, if_pos]) fuelN 0 0 (Nat.zero_le _) (by rw [fuel_is]; omega) rfl
  rw [m_X12_usedBlocks]
  exact h2.trans (by rw [h1])
