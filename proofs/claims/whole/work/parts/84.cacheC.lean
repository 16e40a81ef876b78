/-! ===== the class's cache ===== -/
theorem max0 {a n : Nat} (ha : a < 2 ^ 30) (hn : n < 2 ^ 30) : (if nI 0 < nI a - nI n then nI a - nI n else nI 0) = nI (a - n) := by
  have e := pk_sub_toInt ha hn
  by_cases h : n < a
  · rw [if_pos, nI_subE (by omega)]
    refine Int32.lt_iff_toInt_lt.mpr ?_
    rw [e, nI_toInt (by decide)]; omega
  · rw [if_neg, show a - n = 0 by omega]
    intro h2
    have h3 := Int32.lt_iff_toInt_lt.mp h2
    rw [e, nI_toInt (by decide)] at h3
    omega
theorem CC_store {md st hd ak : Nat → Int32} {X : AC} (h : CC md st hd ak X) {l k : Nat} {q : Nat × Nat} (hl : l < 16) (hk : (X.2.1 l)[k]? = some q) : st (6 * l + k) = nI (100 * q.1 + q.2) := h.2.2.2 l hl k q hk
theorem c_reach {md st hd ak : Nat → Int32} {l n : Nat} {X : AC} (hC : CC md st hd ak X) (hV : VC X) (hl : l < 16) (hn : n ≤ (X.2.1 l).length) : ∃ r, m_X1_reach md st hd ak (nI l) (nI n) = some r ∧ CC r.1 r.2.1 r.2.2.1 r.2.2.2 (reachA X l n) := by
  obtain ⟨h6, hak, hst⟩ := hV.2 l hl
  have hq : ∀ k, k < (X.2.1 l).length → ∃ q, (X.2.1 l)[k]? = some q ∧ q.1 < 64 ∧ q.2 ≤ 99 := fun k hk => ⟨_, List.getElem?_eq_getElem hk, by have := hst _ (List.getElem_mem hk); omega, (hst _ (List.getElem_mem hk)).2⟩
  obtain ⟨m1, a1, a3⟩ := loop_up (fun f i (m : Nat → Int32) => m_X1_reach_w8 (nI l) (nI n) (m_X1_reach_j47 (nI l) (nI n)) f (nI (l * 6)) i m st hd ak) (fun m => m_X1_reach_j47 (nI l) (nI n) (nI (l * 6)) m st hd ak) (l * 6 + n) (fun k m => ∀ w, w < 64 → m w = nI (apL X.1 ((X.2.1 l).take (k - l * 6)) w) ∧ l * 6 ≤ k) (by
    intro f k m hk hI
    have hk6 : l * 6 ≤ k := (hI 0 (by decide)).2
    obtain ⟨q, hq1, hq2, hq3⟩ := hq (k - l * 6) (by omega)
    have e1 : st k = nI (100 * q.1 + q.2) := by
      have := hC.2.2.2 l hl (k - l * 6) q hq1
      rw [← this]; congr 1; omega
    have d1 : (100 * q.1 + q.2) / 100 = q.1 := by omega
    have d3 : 100 * q.1 + q.2 - q.1 * 100 = q.2 := by omega
    refine ⟨upd m q.1 (nI q.2), fun w hw => ⟨?_, by omega⟩, ?_⟩
    · rw [show k + 1 - l * 6 = (k - l * 6) + 1 by omega, apL_take hq1]
      unfold apS
      by_cases h : w = q.1
      · subst h; rw [upd_eq, if_pos rfl]
      · rw [upd_ne h, if_neg h]; exact (hI w hw).1
    · show m_X1_reach_w8 _ _ _ _ _ _ _ _ _ _ = _
      rw [m_X1_reach_w8]
      simp (disch := omega) only [nm, lit32, nI_add, nI_mulE, rd_nI, wr_nI, nI_leI, if_neg, Nat.not_le, e1, nI_divE, d1, nI_subE, d3]) (by
    intro f m _
    show m_X1_reach_w8 _ _ _ _ _ _ _ _ _ _ = _
    rw [m_X1_reach_w8]
    simp (disch := omega) only [nI_add, nI_leI, if_pos]) fuelN (l * 6) md (by omega) (by rw [fuel_is]; omega) (fun w hw => ⟨by rw [Nat.sub_self]; exact hC.1 w hw, Nat.le_refl _⟩)
  have e2 := hC.2.1 l hl
  have e3 := hC.2.2.1 l hl
  refine ⟨(m1, va_cpy st st (l * 6 + n) (l * 6) ((X.2.1 l).length - n), upd hd l (nI ((X.2.1 l).length - n)), upd ak l (nI (X.2.2 l - n))), ?_, ⟨fun w hw => ?_, fun j hj => ?_, fun j hj => ?_, fun j hj k q hk => ?_⟩⟩
  · rw [m_X1_reach]
    simp (disch := omega) only [nm, lit32, nI_mulE]
    refine a3.trans ?_
    rw [m_X1_reach_j47]
    have e4 : upd hd l (nI ((X.2.1 l).length - n)) l = nI ((X.2.1 l).length - n) := upd_eq
    simp (disch := omega) only [nm, lit32, nI_add, nI_mulE, rd_nI, wr_nI, e2, e3, nI_subE, e4, cp_nI, max0]
  · have := (a1 w hw).1
    rw [show l * 6 + n - l * 6 = n by omega] at this
    exact this
  · show upd hd l _ j = nI (if j = l then (X.2.1 l).drop n else X.2.1 j).length
    by_cases h : j = l
    · rw [if_pos h, h, upd_eq, List.length_drop]
    · rw [if_neg h, upd_ne h]; exact hC.2.1 j hj
  · show upd ak l _ j = nI (if j = l then X.2.2 l - n else X.2.2 j)
    by_cases h : j = l
    · rw [if_pos h, h, upd_eq]
    · rw [if_neg h, upd_ne h]; exact hC.2.2.1 j hj
  · show va_cpy st st (l * 6 + n) (l * 6) ((X.2.1 l).length - n) (6 * j + k) = _
    have hk : (if j = l then (X.2.1 l).drop n else X.2.1 j)[k]? = some q := hk
    unfold va_cpy
    by_cases h : j = l
    · subst h
      rw [if_pos rfl, List.getElem?_drop] at hk
      have hlt := (List.getElem?_eq_some_iff.mp hk).1
      rw [if_pos (by omega), ← hC.2.2.2 j hj (n + k) q hk]
      congr 1; omega
    · rw [if_neg h] at hk
      have hlt := (List.getElem?_eq_some_iff.mp hk).1
      have := (hV.2 j hj).1
      rw [if_neg (by omega)]
      exact hC.2.2.2 j hj k q hk
theorem c_put {md st hd ak : Nat → Int32} {a v : Nat} {X : AC} (hC : CC md st hd ak X) (hV : VC X) (ha : a < 64) : ∃ r, m_X1_put md st hd ak (nI a) (nI v) = some r ∧ CC r.1 r.2.1 r.2.2.1 r.2.2.2 (putA X a v) := by
  have hl : a / 4 < 16 := by omega
  have h6 := (hV.2 (a / 4) hl).1
  have key : ∀ (md st hd ak : Nat → Int32) (Y : AC), CC md st hd ak Y → VC Y → (Y.2.1 (a / 4)).length ≤ 5 →
      ∃ r, m_X1_put_j21 (nI a) (nI v) (nI (a / 4)) md st hd ak = some r ∧ CC r.1 r.2.1 r.2.2.1 r.2.2.2 (Y.1, fun j => if j = a / 4 then Y.2.1 j ++ [(a, v)] else Y.2.1 j, Y.2.2) := by
    intro md st hd ak Y hY hVY h5
    have e1 := hY.2.1 (a / 4) hl
    refine ⟨(md, upd st (a / 4 * 6 + (Y.2.1 (a / 4)).length) (nI (a * 100 + v)), upd hd (a / 4) (nI ((Y.2.1 (a / 4)).length + 1)), ak), ?_, ⟨hY.1, fun j hj => ?_, hY.2.2.1, fun j hj k q hk => ?_⟩⟩
    · rw [m_X1_put_j21]
      simp (disch := omega) only [nm, lit32, nI_add, nI_mulE, rd_nI, wr_nI, e1]
    · show upd hd _ _ j = nI (if j = a / 4 then Y.2.1 j ++ [(a, v)] else Y.2.1 j).length
      by_cases h : j = a / 4
      · rw [if_pos h, h, upd_eq, List.length_append, List.length_singleton]
      · rw [if_neg h, upd_ne h]; exact hY.2.1 j hj
    · show upd st _ _ (6 * j + k) = _
      have hk : (if j = a / 4 then Y.2.1 j ++ [(a, v)] else Y.2.1 j)[k]? = some q := hk
      by_cases h : j = a / 4
      · subst h
        rw [if_pos rfl] at hk
        by_cases hkl : k < (Y.2.1 (a / 4)).length
        · rw [List.getElem?_append_left hkl] at hk
          rw [upd_ne (by omega)]
          exact hY.2.2.2 _ hj k q hk
        · rw [List.getElem?_append_right (by omega)] at hk
          have hz := (List.getElem?_eq_some_iff.mp hk).1
          rw [List.length_singleton] at hz
          have hke : k = (Y.2.1 (a / 4)).length := by omega
          rw [hke, Nat.sub_self] at hk
          cases hk
          subst hke
          rw [show 6 * (a / 4) + (Y.2.1 (a / 4)).length = a / 4 * 6 + (Y.2.1 (a / 4)).length by omega, upd_eq]
          congr 1; show a * 100 + v = 100 * a + v; omega
      · rw [if_neg h] at hk
        have hlt := (List.getElem?_eq_some_iff.mp hk).1
        have := (hVY.2 j hj).1
        rw [upd_ne (by omega)]
        exact hY.2.2.2 _ hj k q hk
  rw [m_X1_put]
  have e0 := hC.2.1 (a / 4) hl
  simp (disch := omega) only [nm, lit32, nI_add, nI_divE, rd_nI, e0, nI_eq]
  unfold putA
  by_cases h : (X.2.1 (a / 4)).length = 6
  · rw [if_pos h, if_pos h]
    obtain ⟨r1, g1, g2⟩ := c_reach (n := 1) hC hV hl (by omega)
    rw [g1]
    refine key _ _ _ _ _ g2 (VC_reach hV hl (by omega)) ?_
    show (if a / 4 = a / 4 then (X.2.1 (a / 4)).drop 1 else X.2.1 (a / 4)).length ≤ 5
    rw [if_pos rfl, List.length_drop]; omega
  · rw [if_neg h, if_neg h]
    exact key _ _ _ _ X hC hV (by omega)
theorem c_ask {md st hd ak : Nat → Int32} {l : Nat} {X : AC} (hC : CC md st hd ak X) (hl : l < 16) : ∃ r, m_X1_ask hd ak (nI l) = some r ∧ CC md st hd r (askA X l) := by
  have e1 := hC.2.1 l hl
  refine ⟨upd ak l (nI (X.2.1 l).length), ?_, hC.1, hC.2.1, fun j hj => ?_, hC.2.2.2⟩
  · rw [m_X1_ask]
    simp (disch := omega) only [rd_nI, wr_nI, e1]
  · show _ = nI (if j = l then (X.2.1 l).length else X.2.2 j)
    by_cases h : j = l
    · rw [if_pos h, h, upd_eq]
    · rw [if_neg h, upd_ne h]; exact hC.2.2.1 j hj
theorem c_await {md st hd ak : Nat → Int32} {X : AC} (hC : CC md st hd ak X) (hV : VC X) : ∃ r, m_X1_await md st hd ak = some r ∧ CC r.1 r.2.1 r.2.2.1 r.2.2.2 (awaitN X 16) := by
  obtain ⟨r, h1, h2⟩ := loop_up (fun f i (r : (Nat → Int32) × (Nat → Int32) × (Nat → Int32) × (Nat → Int32)) => m_X1_await_w2 f i r.1 r.2.1 r.2.2.1 r.2.2.2) (fun r => some (r.1, r.2.1, r.2.2.1, r.2.2.2)) 16 (fun k r => CC r.1 r.2.1 r.2.2.1 r.2.2.2 (awaitN X k)) (by
    intro f k r hk hI
    have hVk := VC_awaitN hV k (by omega)
    obtain ⟨r', g1, g2⟩ := c_reach hI hVk hk (hVk.2 k hk).2.1
    refine ⟨r', by rw [awaitN_succ]; exact g2, ?_⟩
    show m_X1_await_w2 _ _ _ _ _ _ = _
    rw [m_X1_await_w2]
    have e1 := hI.2.2.1 k hk
    simp (disch := omega) only [nm, lit32, nI_add, rd_nI, nI_leI, if_neg, Nat.not_le, e1, g1, bd, Option.bind_some]) (by
    intro f r _
    show m_X1_await_w2 _ _ _ _ _ _ = _
    rw [m_X1_await_w2]
    simp (disch := omega) only [lit32, nI_leI, if_pos]) fuelN 0 (md, st, hd, ak) (Nat.zero_le _) (by rw [fuel_is]; omega) hC
  exact ⟨_, h2, h1⟩
theorem r_await {rows : Nat → Int32} {b : Nat} {X : AC} (hR : RC rows b X) (hV : VC X) (hb : b + 786 ≤ 66100) (p2 p3 p4 : Int32) (K : (Nat → Int32) → Option (Nat → Int32)) : ∃ r, m_X12_does_w76 (nI b) p2 p3 p4 K fuelN 0 rows = K r ∧ RC r b (awaitN X 16) ∧ ∀ j, (j < b ∨ b + 288 ≤ j) → r j = rows j := by
  obtain ⟨r, ⟨h1, h3⟩, h2⟩ := loop_up (fun f i r => m_X12_does_w76 (nI b) p2 p3 p4 K f i r) K 16 (fun k r => RC r b (awaitN X k) ∧ ∀ j, (j < b ∨ b + 288 ≤ j) → r j = rows j) (by
    intro f k r hk hI
    have hVk := VC_awaitN hV k (by omega)
    obtain ⟨r', g1, g2, g3⟩ := r_reaches hI.1 hVk hk (hVk.2 k hk).2.1 hb
    refine ⟨r', ⟨by rw [awaitN_succ]; exact g2, fun j hj => (g3 j hj).trans (hI.2 j hj)⟩, ?_⟩
    show m_X12_does_w76 _ _ _ _ _ _ _ _ = _
    rw [m_X12_does_w76]
    have e1 := hI.1.2.2.1 k hk
    simp (disch := omega) only [nm, lit32, nI_add, rd_nI, nI_leI, if_neg, Nat.not_le, e1, g1, bd, Option.bind_some]) (by
    intro f r _
    show m_X12_does_w76 _ _ _ _ _ _ _ _ = _
    rw [m_X12_does_w76]
    simp (disch := omega) only [lit32, nI_leI, if_pos]) fuelN 0 rows (Nat.zero_le _) (by rw [fuel_is]; omega) ⟨hR, fun _ _ => rfl⟩
  exact ⟨r, h2, h1, h3⟩
