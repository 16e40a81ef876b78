/-! ===== what holds of caches, kept; words now ===== -/
theorem lastS_le {w v : Nat} (L : List (Nat × Nat)) : ∀ v, v ≤ 99 → (∀ st ∈ L, st.2 ≤ 99) → lastS w v L ≤ 99 := by
  induction L with
  | nil => intro v h _; exact h
  | cons a t ih =>
    intro v h1 h2
    show lastS w (if a.1 = w then a.2 else v) t ≤ 99
    refine ih _ ?_ (fun st hs => h2 st (List.mem_cons_of_mem _ hs))
    by_cases h : a.1 = w
    · rw [if_pos h]; exact h2 a List.mem_cons_self
    · rw [if_neg h]; exact h1
theorem lastS_no {w : Nat} (L : List (Nat × Nat)) : ∀ v, (∀ st ∈ L, ¬ st.1 = w) → lastS w v L = v := by
  induction L with
  | nil => intro v _; rfl
  | cons a t ih =>
    intro v h
    show lastS w (if a.1 = w then a.2 else v) t = v
    rw [if_neg (h a List.mem_cons_self)]
    exact ih v (fun st hs => h st (List.mem_cons_of_mem _ hs))
theorem lastS_app {w v : Nat} {L M : List (Nat × Nat)} : lastS w v (L ++ M) = lastS w (lastS w v L) M := by
  unfold lastS; rw [List.foldl_append]
theorem VC_reach {X : AC} {l n : Nat} (hV : VC X) (hl : l < 16) (hn : n ≤ (X.2.1 l).length) : VC (reachA X l n) := by
  refine ⟨fun w hw => ?_, fun j hj => ?_⟩
  · show apL X.1 ((X.2.1 l).take n) w ≤ 99
    rw [apL_at]
    exact lastS_le (v := 0) _ _ (hV.1 w hw) (fun st hs => ((hV.2 l hl).2.2 st (List.mem_of_mem_take hs)).2)
  · show (if j = l then (X.2.1 l).drop n else X.2.1 j).length ≤ 6 ∧ (if j = l then X.2.2 l - n else X.2.2 j) ≤ (if j = l then (X.2.1 l).drop n else X.2.1 j).length ∧ ∀ st ∈ (if j = l then (X.2.1 l).drop n else X.2.1 j), st.1 / 4 = j ∧ st.2 ≤ 99
    by_cases h : j = l
    · subst h
      simp only [if_true, List.length_drop]
      obtain ⟨h1, h2, h3⟩ := hV.2 j hj
      exact ⟨by omega, by omega, fun st hs => h3 st (List.mem_of_mem_drop hs)⟩
    · simp only [if_neg h]; exact hV.2 j hj
theorem word_reach {X : AC} {l n w : Nat} (hV : VC X) (hl : l < 16) : wordA (reachA X l n) w = wordA X w := by
  show lastS w (apL X.1 ((X.2.1 l).take n) w) (if w / 4 = l then (X.2.1 l).drop n else X.2.1 (w / 4)) = lastS w (X.1 w) (X.2.1 (w / 4))
  rw [apL_at]
  by_cases h : w / 4 = l
  · rw [if_pos h, ← lastS_app, List.take_append_drop, h]
  · rw [if_neg h, lastS_no ((X.2.1 l).take n) _ (fun st hs q => h (by rw [← q]; exact ((hV.2 l hl).2.2 st (List.mem_of_mem_take hs)).1))]
theorem VC_put {X : AC} {a v : Nat} (hV : VC X) (ha : a < 64) (hv : v ≤ 99) : VC (putA X a v) := by
  have hl : a / 4 < 16 := by omega
  obtain ⟨h6, -, -⟩ := hV.2 (a / 4) hl
  have hY : VC (if (X.2.1 (a / 4)).length = 6 then reachA X (a / 4) 1 else X) ∧ ((if (X.2.1 (a / 4)).length = 6 then reachA X (a / 4) 1 else X).2.1 (a / 4)).length ≤ 5 := by
    by_cases h : (X.2.1 (a / 4)).length = 6
    · rw [if_pos h]
      refine ⟨VC_reach hV hl (by omega), ?_⟩
      show (if a / 4 = a / 4 then (X.2.1 (a / 4)).drop 1 else X.2.1 (a / 4)).length ≤ 5
      rw [if_pos rfl, List.length_drop]; omega
    · rw [if_neg h]; exact ⟨hV, by omega⟩
  unfold putA
  generalize (if (X.2.1 (a / 4)).length = 6 then reachA X (a / 4) 1 else X) = Y at hY
  obtain ⟨hY, h5⟩ := hY
  refine ⟨hY.1, fun j hj => ?_⟩
  show (if j = a / 4 then Y.2.1 j ++ [(a, v)] else Y.2.1 j).length ≤ 6 ∧ Y.2.2 j ≤ (if j = a / 4 then Y.2.1 j ++ [(a, v)] else Y.2.1 j).length ∧ ∀ st ∈ (if j = a / 4 then Y.2.1 j ++ [(a, v)] else Y.2.1 j), st.1 / 4 = j ∧ st.2 ≤ 99
  obtain ⟨g1, g2, g3⟩ := hY.2 j hj
  by_cases h : j = a / 4
  · rw [if_pos h, List.length_append, List.length_singleton]
    have : (Y.2.1 j).length ≤ 5 := by rw [h]; exact h5
    refine ⟨by omega, by omega, fun st hs => ?_⟩
    rcases List.mem_append.mp hs with hs | hs
    · exact g3 st hs
    · rw [List.mem_singleton.mp hs]; exact ⟨h.symm, hv⟩
  · rw [if_neg h]; exact ⟨g1, g2, g3⟩
theorem word_put {X : AC} {a v w : Nat} (hV : VC X) (ha : a < 64) : wordA (putA X a v) w = if w = a then v else wordA X w := by
  have hl : a / 4 < 16 := by omega
  unfold putA
  have hY : ∀ w, wordA (if (X.2.1 (a / 4)).length = 6 then reachA X (a / 4) 1 else X) w = wordA X w := by
    intro w
    by_cases h : (X.2.1 (a / 4)).length = 6
    · rw [if_pos h]; exact word_reach hV hl
    · rw [if_neg h]
  generalize (if (X.2.1 (a / 4)).length = 6 then reachA X (a / 4) 1 else X) = Y at hY
  show lastS w (Y.1 w) (if w / 4 = a / 4 then Y.2.1 (w / 4) ++ [(a, v)] else Y.2.1 (w / 4)) = _
  by_cases h : w = a
  · subst h
    rw [if_pos rfl, if_pos rfl, lastS_app]
    show (if w = w then v else _) = v
    rw [if_pos rfl]
  · rw [if_neg h, ← hY w]
    by_cases h2 : w / 4 = a / 4
    · rw [if_pos h2, lastS_app]
      show (if a = w then v else _) = _
      rw [if_neg (fun q => h q.symm)]; rfl
    · rw [if_neg h2]; rfl
theorem VC_ask {X : AC} {l : Nat} (hV : VC X) : VC (askA X l) := by
  refine ⟨hV.1, fun j hj => ?_⟩
  obtain ⟨g1, g2, g3⟩ := hV.2 j hj
  refine ⟨g1, ?_, g3⟩
  show (if j = l then (X.2.1 l).length else X.2.2 j) ≤ (X.2.1 j).length
  by_cases h : j = l
  · rw [if_pos h, h]
    exact Nat.le_refl _
  · rw [if_neg h]; exact g2
theorem word_ask {X : AC} {l w : Nat} : wordA (askA X l) w = wordA X w := rfl
def awaitN (X : AC) (k : Nat) : AC := (List.range k).foldl (fun Y l => reachA Y l (Y.2.2 l)) X
theorem awaitN_succ {X : AC} {k : Nat} : awaitN X (k + 1) = reachA (awaitN X k) k ((awaitN X k).2.2 k) := by
  unfold awaitN
  rw [List.range_succ, List.foldl_append]; rfl
theorem VC_awaitN {X : AC} (hV : VC X) : ∀ k, k ≤ 16 → VC (awaitN X k) := by
  intro k
  induction k with
  | zero => intro _; exact hV
  | succ k ih =>
    intro hk
    rw [awaitN_succ]
    have h := ih (by omega)
    exact VC_reach h (by omega) (h.2 k (by omega)).2.1
theorem word_awaitN {X : AC} {w : Nat} (hV : VC X) : ∀ k, k ≤ 16 → wordA (awaitN X k) w = wordA X w := by
  intro k
  induction k with
  | zero => intro _; rfl
  | succ k ih =>
    intro hk
    rw [awaitN_succ, word_reach (VC_awaitN hV k (by omega)) (by omega)]
    exact ih (by omega)
theorem word_le {X : AC} {w : Nat} (hV : VC X) (hw : w < 64) : wordA X w ≤ 99 := lastS_le (v := 0) _ _ (hV.1 w hw) (fun st hs => ((hV.2 (w / 4) (by omega)).2.2 st hs).2)
/-! ===== the reference: a store ===== -/
theorem r_stores {rows : Nat → Int32} {b a v : Nat} {X : AC} (hR : RC rows b X) (hV : VC X) (ha : a < 64) (hb : b + 786 ≤ 66100) : ∃ r, m_X12_stores rows (nI b) (nI a) (nI v) = some r ∧ RC r b (putA X a v) ∧ ∀ j, (j < b ∨ b + 288 ≤ j) → r j = rows j := by
  have hl : a / 4 < 16 := by omega
  have h6 := (hV.2 (a / 4) hl).1
  -- behind the making of room
  have key : ∀ (r : Nat → Int32) (Y : AC), RC r b Y → VC Y → (Y.2.1 (a / 4)).length ≤ 5 → (∀ j, (j < b ∨ b + 288 ≤ j) → r j = rows j) →
      ∃ r', m_X12_stores_j30 (nI b) (nI a) (nI v) (nI (a / 4)) r = some r' ∧ RC r' b (Y.1, fun j => if j = a / 4 then Y.2.1 j ++ [(a, v)] else Y.2.1 j, Y.2.2) ∧ ∀ j, (j < b ∨ b + 288 ≤ j) → r' j = rows j := by
    intro r Y hY hVY h5 hfr
    have e1 := hY.2.1 (a / 4) hl
    refine ⟨upd (upd (upd r (b + 96 + 12 * (a / 4) + 2 * (Y.2.1 (a / 4)).length) (nI a)) (b + 96 + 12 * (a / 4) + 2 * (Y.2.1 (a / 4)).length + 1) (nI v)) (b + 64 + a / 4) (nI ((Y.2.1 (a / 4)).length + 1)), ?_, ⟨fun w hw => ?_, fun j hj => ?_, fun j hj => ?_, fun j hj k q hk => ?_⟩, fun j hj => ?_⟩
    · rw [m_X12_stores_j30]
      have e2 : upd (upd r (b + 96 + 12 * (a / 4) + 2 * (Y.2.1 (a / 4)).length) (nI a)) (b + 96 + 12 * (a / 4) + 2 * (Y.2.1 (a / 4)).length + 1) (nI v) (b + 64 + a / 4) = nI (Y.2.1 (a / 4)).length := by
        rw [upd_ne (by omega), upd_ne (by omega)]; exact e1
      simp (disch := omega) only [nm, lit32, nI_add, nI_mulE, rd_nI, wr_nI, e1, e2]
    · rw [upd_ne (by omega), upd_ne (by omega), upd_ne (by omega)]; exact hY.1 w hw
    · show _ = nI (if j = a / 4 then Y.2.1 j ++ [(a, v)] else Y.2.1 j).length
      by_cases h : j = a / 4
      · rw [if_pos h, h, upd_eq, List.length_append, List.length_singleton]
      · rw [if_neg h, upd_ne (by omega), upd_ne (by omega), upd_ne (by omega)]; exact hY.2.1 j hj
    · rw [upd_ne (by omega), upd_ne (by omega), upd_ne (by omega)]; exact hY.2.2.1 j hj
    · have hk : (if j = a / 4 then Y.2.1 j ++ [(a, v)] else Y.2.1 j)[k]? = some q := hk
      by_cases h : j = a / 4
      · subst h
        rw [if_pos rfl] at hk
        by_cases hkl : k < (Y.2.1 (a / 4)).length
        · rw [List.getElem?_append_left hkl] at hk
          obtain ⟨f1, f2⟩ := hY.2.2.2 _ hj k q hk
          rw [upd_ne (by omega), upd_ne (by omega), upd_ne (by omega), upd_ne (by omega), upd_ne (by omega), upd_ne (by omega)]
          exact ⟨f1, f2⟩
        · rw [List.getElem?_append_right (by omega)] at hk
          have hz := (List.getElem?_eq_some_iff.mp hk).1
          rw [List.length_singleton] at hz
          have hke : k = (Y.2.1 (a / 4)).length := by omega
          rw [hke, Nat.sub_self] at hk
          cases hk
          subst hke
          constructor
          · rw [upd_ne (by omega), upd_ne (by omega), upd_eq]
          · rw [upd_ne (by omega), upd_eq]
      · rw [if_neg h] at hk
        have hlt := (List.getElem?_eq_some_iff.mp hk).1
        have := (hVY.2 j hj).1
        obtain ⟨f1, f2⟩ := hY.2.2.2 _ hj k q hk
        rw [upd_ne (by omega), upd_ne (by omega), upd_ne (by omega), upd_ne (by omega), upd_ne (by omega), upd_ne (by omega)]
        exact ⟨f1, f2⟩
    · rw [upd_ne (by omega), upd_ne (by omega), upd_ne (by omega)]; exact hfr j hj
  rw [m_X12_stores]
  have e0 := hR.2.1 (a / 4) hl
  simp (disch := omega) only [nm, lit32, nI_add, nI_divE, rd_nI, e0, nI_eq]
  unfold putA
  by_cases h : (X.2.1 (a / 4)).length = 6
  · rw [if_pos h, if_pos h]
    obtain ⟨r1, g1, g2, g3⟩ := r_reaches (n := 1) hR hV hl (by omega) hb
    rw [g1]
    refine key r1 _ g2 (VC_reach hV hl (by omega)) ?_ g3
    show (if a / 4 = a / 4 then (X.2.1 (a / 4)).drop 1 else X.2.1 (a / 4)).length ≤ 5
    rw [if_pos rfl, List.length_drop]; omega
  · rw [if_neg h, if_neg h]
    exact key rows X hR hV (by omega) (fun _ _ => rfl)
theorem r_ask {rows : Nat → Int32} {b l : Nat} {X : AC} (hR : RC rows b X) (hl : l < 16) : RC (upd rows (b + 80 + l) (nI (X.2.1 l).length)) b (askA X l) := by
  refine ⟨fun w hw => ?_, fun j hj => ?_, fun j hj => ?_, fun j hj k q hk => ?_⟩
  · rw [upd_ne (by omega)]; exact hR.1 w hw
  · rw [upd_ne (by omega)]; exact hR.2.1 j hj
  · show _ = nI (if j = l then (X.2.1 l).length else X.2.2 j)
    by_cases h : j = l
    · rw [if_pos h, h, upd_eq]
    · rw [if_neg h, upd_ne (by omega)]; exact hR.2.2.1 j hj
  · rw [upd_ne (by omega), upd_ne (by omega)]; exact hR.2.2.2 j hj k q hk
