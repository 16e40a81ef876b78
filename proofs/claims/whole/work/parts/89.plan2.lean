/-! ===== the class's planner: all words; a transaction ===== -/
theorem lastS_take {w v : Nat} {L : List (Nat × Nat)} {k : Nat} {q : Nat × Nat} (h : L[k]? = some q) : lastS w v (L.take (k + 1)) = if q.1 = w then q.2 else lastS w v (L.take k) := by
  rw [List.take_succ, h, Option.toList_some, lastS_app]; rfl
theorem c_fillWords {md st hd ak w : Nat → Int32} {X : AC} (hC : CC md st hd ak X) (hV : VC X) : ∃ r, m_X1_fillWords md st hd w 64 = some r ∧ ∀ j, j < 64 → r j = nI (wordA X j) := by
  obtain ⟨r, h1, h2⟩ := loop_up (fun n i r => m_X1_fillWords_w14 md st hd 64 n i r) some 16 (fun k r => ∀ j, j < 64 → r j = nI (if j / 4 < k then wordA X j else X.1 j)) (by
    intro n l r hl hI
    obtain ⟨h6, hak, hst⟩ := hV.2 l hl
    have e0 := hC.2.1 l hl
    obtain ⟨r', g1, g2⟩ := loop_up (fun n i r => m_X1_fillWords_w22 md st hd 64 (m_X1_fillWords_j63 md st hd 64 (m_X1_fillWords_w14 md st hd 64 n)) n (nI l) i r) (fun r => m_X1_fillWords_j63 md st hd 64 (m_X1_fillWords_w14 md st hd 64 0) (nI l) r) 0 (fun _ _ => True) (by intro n k s hk; omega) (by
      intro n s _
      sorry) 1 0 r (Nat.le_refl _) (by omega) trivial
    sorry) (by
    intro n r _
    show m_X1_fillWords_w14 _ _ _ _ _ _ _ = _
    rw [m_X1_fillWords_w14]
    simp (disch := omega) only [lit32, nI_leI, if_pos]) fuelN 0 (va_cpy md w 0 0 64) (Nat.zero_le _) (by rw [fuel_is]; omega) (fun j hj => by
      unfold va_cpy
      rw [if_pos (by omega), if_neg (by omega), show 0 + (j - 0) = j by omega]
      exact hC.1 j hj)
  refine ⟨r, ?_, fun j hj => ?_⟩
  · rw [m_X1_fillWords]
    simp (disch := omega) only [lit32, cp_nI]
    exact h2
  · rw [h1 j hj, if_pos (by omega)]
