/-! ===== the reference's cache ===== -/
theorem r_word_loop {rows : Nat → Int32} {b l w : Nat} {X : AC} (hR : RC rows b X) (hV : VC X) (hl : l < 16) (hw : w < 64) (hb : b + 786 ≤ 66100) : ∀ (n k v : Nat), k ≤ (X.2.1 l).length → (X.2.1 l).length - k < n →
    m_X12_wordOf_w17 rows (nI b) (nI w) n (nI l) (nI v) (nI k) = some (nI (lastS w v ((X.2.1 l).drop k))) := by
  have h6 := (hV.2 l hl).1
  intro n
  induction n with
  | zero => intro k v h1 h2; omega
  | succ n ih =>
    intro k v h1 h2
    rw [m_X12_wordOf_w17]
    simp (disch := omega) only [lit32, nI_add, nI_mulE, rd_nI, hR.2.1 l hl, nI_leI]
    by_cases hk : (X.2.1 l).length ≤ k
    · rw [if_pos hk, List.drop_eq_nil_of_le hk]; rfl
    · rw [if_neg hk]
      have hk' : k < (X.2.1 l).length := by omega
      obtain ⟨q, hq⟩ : ∃ q, (X.2.1 l)[k]? = some q := ⟨_, List.getElem?_eq_getElem hk'⟩
      have hm : q ∈ X.2.1 l := List.mem_of_getElem? hq
      have hv := (hV.2 l hl).2.2 q hm
      have hq1 : q.1 < 64 := by omega
      obtain ⟨e1, e2⟩ := hR.2.2.2 l hl k q hq
      have hd : (X.2.1 l).drop k = q :: (X.2.1 l).drop (k + 1) := by
        rw [List.drop_eq_getElem_cons hk']
        congr 1
        rw [List.getElem?_eq_getElem hk'] at hq
        exact Option.some.inj hq
      simp (disch := omega) only [lit32, nI_add, nI_mulE, rd_nI, e1, e2, nI_eq]
      rw [hd]
      by_cases hw1 : q.1 = w
      · rw [if_pos hw1]
        show m_X12_wordOf_w17 rows (nI b) (nI w) n (nI l) (nI q.2) (nI k + 1) = _
        rw [show nI k + 1 = nI (k + 1) from nI_1 k, ih (k + 1) q.2 (by omega) (by omega)]
        show _ = some (nI (lastS w (if q.1 = w then q.2 else v) _))
        rw [if_pos hw1]
      · rw [if_neg hw1]
        show m_X12_wordOf_w17 rows (nI b) (nI w) n (nI l) (nI v) (nI k + 1) = _
        rw [show nI k + 1 = nI (k + 1) from nI_1 k, ih (k + 1) v (by omega) (by omega)]
        show _ = some (nI (lastS w (if q.1 = w then q.2 else v) _))
        rw [if_neg hw1]
theorem r_wordOf {rows : Nat → Int32} {b w : Nat} {X : AC} (hR : RC rows b X) (hV : VC X) (hw : w < 64) (hb : b + 786 ≤ 66100) : m_X12_wordOf rows (nI b) (nI w) = some (nI (wordA X w)) := by
  have h6 := (hV.2 (w / 4) (by omega)).1
  rw [m_X12_wordOf]
  simp (disch := omega) only [nm, lit32, nI_add, nI_divE, rd_nI, hR.1 w hw]
  rw [r_word_loop hR hV (by omega) hw hb _ 0 (X.1 w) (by omega) (by rw [fuel_is]; omega)]
  rfl
