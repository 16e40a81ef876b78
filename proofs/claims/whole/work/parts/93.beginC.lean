/-! ===== the class: a transaction's micros ===== -/
def WP3 (P ad nu ol : Nat → Int32) (ws : List (Nat × Nat × Nat)) : Prop := P 4 = nI ws.length ∧ ws.length ≤ 8 ∧ ∀ k q, ws[k]? = some q → ad k = nI q.1 ∧ nu k = nI q.2.1 ∧ ol k = nI q.2.2
theorem PC_WP3 {F w ad nu ol : Nat → Int32} {S : PS × Bool} (h : PC F w ad nu ol S) : WP3 F ad nu ol S.1.2 := ⟨h.1, h.2.1, h.2.2.2.2.2⟩
def ws2 (ws : List (Nat × Nat × Nat)) : List (Nat × Nat) := ws.map (fun q => (q.1, q.2.1))
theorem WP3_WP {P ad nu ol : Nat → Int32} {ws : List (Nat × Nat × Nat)} (h : WP3 P ad nu ol ws) : WP P ad nu (ws2 ws) := by
  refine ⟨by unfold ws2; rw [List.length_map]; exact h.1, by unfold ws2; rw [List.length_map]; exact h.2.1, fun k q hk => ?_⟩
  unfold ws2 at hk
  rw [List.getElem?_map] at hk
  cases hq : ws[k]? with
  | none => rw [hq] at hk; cases hk
  | some z =>
    rw [hq] at hk
    cases hk
    exact ⟨(h.2.2 k z hq).1, (h.2.2 k z hq).2.1⟩
theorem undoA_snoc {s : Nat} {q : Nat × Nat × Nat} : ∀ (ws : List (Nat × Nat × Nat)) (i : Nat), undoA s i (ws ++ [q]) = undoA s i ws ++ (entryA s (i + ws.length) q.1 q.2.2 ++ (countA s (i + ws.length + 1) 0 1 ++ [(0, q.1, q.2.1)])) := by
  intro ws
  induction ws with
  | nil => intro i; show (_ ++ _) ++ undoA s (i + 1) [] = _; rw [undoA, List.append_nil]; rfl
  | cons a t ih =>
    intro i
    show _ ++ undoA s (i + 1) (t ++ [q]) = (_ ++ undoA s (i + 1) t) ++ _
    rw [ih (i + 1), List.length_cons, show i + 1 + t.length = i + (t.length + 1) by omega]
    simp only [List.append_assoc]
theorem redoE_snoc {s : Nat} {q : Nat × Nat × Nat} : ∀ (ws : List (Nat × Nat × Nat)) (i : Nat), redoE s i (ws ++ [q]) = redoE s i ws ++ entryA s (i + ws.length) q.1 q.2.1 := by
  intro ws
  induction ws with
  | nil => intro i; show _ ++ redoE s (i + 1) [] = _; rw [redoE, List.append_nil]; rfl
  | cons a t ih =>
    intro i
    show _ ++ redoE s (i + 1) (t ++ [q]) = (_ ++ redoE s (i + 1) t) ++ _
    rw [ih (i + 1), List.length_cons, show i + 1 + t.length = i + (t.length + 1) by omega]
    simp only [List.append_assoc]
theorem c_addUndoing {F m P ad nu ol : Nat → Int32} {s : Nat} {ws : List (Nat × Nat × Nat)} (h : BM F m []) (hs : F 10 = nI s) (h7 : s < 128) (hw : WP3 P ad nu ol ws) : ∃ R, m_X4_addUndoing F P m ad nu ol = some R ∧ BM R.1 R.2 (undoA s 0 ws) ∧ fr3 R.1 F := by
  obtain ⟨w1, w2, w3⟩ := hw
  obtain ⟨R, ⟨h1, h3⟩, h2⟩ := loop_up (fun n i (t : (Nat → Int32) × (Nat → Int32)) => m_X4_addUndoing_w2 P ad nu ol n i t.1 t.2) some ws.length (fun k t => BM t.1 t.2 (undoA s 0 (ws.take k)) ∧ fr3 t.1 F) (by
    intro n k t hk hI
    obtain ⟨hI, hfr⟩ := hI
    have hq : ws[k]? = some ws[k] := List.getElem?_eq_getElem hk
    generalize ws[k] = q at hq
    obtain ⟨e1, e2, e3⟩ := w3 k q hq
    have hlt : (ws.take k).length = k := by rw [List.length_take]; omega
    have hul := undo_len (s := s) (ws.take k) 0
    rw [hlt] at hul
    have hst : t.1 10 = nI s := (hfr 10 (by decide)).trans hs
    obtain ⟨R1, a1, b1, c1⟩ := c_addEntry (i := k) (a := q.1) (v := q.2.2) hI hst h7 (by omega) (by omega)
    have hel := entry_len (s := s) (i := k) (a := q.1) (v := q.2.2)
    obtain ⟨R2, a2, b2, c2⟩ := c_addCount (n := k + 1) (x := 0) (y := 1) b1 ((c1 10 (by decide)).trans hst) h7 (by decide) (by decide) (by rw [List.length_append]; omega)
    have hcl := count_len (s := s) (n := k + 1) (x := 0) (y := 1)
    obtain ⟨R3, a3, b3, c3⟩ := c_addMicro (k := 0) (p := q.1) (v := q.2.1) b2 (by rw [List.length_append, List.length_append]; omega)
    refine ⟨R3, ⟨?_, fun j hj => (c3 j hj).trans ((c2 j hj).trans ((c1 j hj).trans (hfr j hj)))⟩, ?_⟩
    · rw [List.take_succ, hq, Option.toList_some, undoA_snoc, hlt]
      rw [show undoA s 0 (ws.take k) ++ (entryA s (0 + k) q.1 q.2.2 ++ (countA s (0 + k + 1) 0 1 ++ [(0, q.1, q.2.1)])) = undoA s 0 (ws.take k) ++ entryA s k q.1 q.2.2 ++ countA s (k + 1) 0 1 ++ [(0, q.1, q.2.1)] by simp only [List.append_assoc, Nat.zero_add]]
      exact b3
    · show m_X4_addUndoing_w2 P ad nu ol (n + 1) (nI k) t.1 t.2 = m_X4_addUndoing_w2 P ad nu ol n (nI (k + 1)) R3.1 R3.2
      have a2 : m_X4_addCount R1.1 R1.2 (nI k + 1) 0 1 = some R2 := by rw [show nI k + 1 = nI (k + 1) from nI_1 k]; exact a2
      have a3 : m_X4_addMicro R2.1 R2.2 0 (nI q.1) (nI q.2.1) = some R3 := a3
      rw [m_X4_addUndoing_w2, w1, if_neg (nI_ge hk (by omega)), rd_nI (by omega) (by decide), rd_nI (by omega) (by decide), e1, e3, bd_ok a1, bd_ok a2, rd_nI (by omega) (by decide), rd_nI (by omega) (by decide), e1, e2, bd_ok a3, nm, show nI k + 1 = nI (k + 1) from nI_1 k]) (by
    intro n t _
    show m_X4_addUndoing_w2 P ad nu ol (n + 1) (nI ws.length) t.1 t.2 = some t
    rw [m_X4_addUndoing_w2, w1, if_pos (nI_le (Nat.le_refl _) (by omega))]) fuelN 0 (F, m) (Nat.zero_le _) (by rw [fuel_is]; omega) ⟨by rw [List.take_zero]; exact h, fun _ _ => rfl⟩
  rw [List.take_length] at h1
  exact ⟨R, h2, h1, h3⟩
theorem c_addRedoing {F m P ad nu ol : Nat → Int32} {s : Nat} {ws : List (Nat × Nat × Nat)} (h : BM F m []) (hs : F 10 = nI s) (h7 : s < 128) (hw : WP3 P ad nu ol ws) : ∃ R, m_X4_addRedoing F P m ad nu = some R ∧ BM R.1 R.2 (redoE s 0 ws ++ (countA s ws.length 0 1 ++ storesA (ws2 ws))) ∧ fr3 R.1 F := by
  have hwp := WP3_WP hw
  obtain ⟨w1, w2, w3⟩ := hw
  obtain ⟨R, ⟨h1, h3⟩, h2⟩ := loop_up (fun n i (t : (Nat → Int32) × (Nat → Int32)) => m_X4_addRedoing_w2 P ad nu (m_X4_addRedoing_j33 P ad nu) n i t.1 t.2) (fun t => m_X4_addRedoing_j33 P ad nu t.1 t.2) ws.length (fun k t => BM t.1 t.2 (redoE s 0 (ws.take k)) ∧ fr3 t.1 F) (by
    intro n k t hk hI
    obtain ⟨hI, hfr⟩ := hI
    have hq : ws[k]? = some ws[k] := List.getElem?_eq_getElem hk
    generalize ws[k] = q at hq
    obtain ⟨e1, e2, e3⟩ := w3 k q hq
    have hlt : (ws.take k).length = k := by rw [List.length_take]; omega
    have hul := redo_len (s := s) (ws.take k) 0
    rw [hlt] at hul
    obtain ⟨R1, a1, b1, c1⟩ := c_addEntry (i := k) (a := q.1) (v := q.2.1) hI ((hfr 10 (by decide)).trans hs) h7 (by omega) (by omega)
    refine ⟨R1, ⟨?_, fun j hj => (c1 j hj).trans (hfr j hj)⟩, ?_⟩
    · rw [List.take_succ, hq, Option.toList_some, redoE_snoc, hlt, Nat.zero_add]
      exact b1
    · show m_X4_addRedoing_w2 P ad nu (m_X4_addRedoing_j33 P ad nu) (n + 1) (nI k) t.1 t.2 = m_X4_addRedoing_w2 P ad nu (m_X4_addRedoing_j33 P ad nu) n (nI (k + 1)) R1.1 R1.2
      rw [m_X4_addRedoing_w2, w1, if_neg (nI_ge hk (by omega)), rd_nI (by omega) (by decide), rd_nI (by omega) (by decide), e1, e2, bd_ok a1, nm, show nI k + 1 = nI (k + 1) from nI_1 k]) (by
    intro n t _
    show m_X4_addRedoing_w2 P ad nu (m_X4_addRedoing_j33 P ad nu) (n + 1) (nI ws.length) t.1 t.2 = m_X4_addRedoing_j33 P ad nu t.1 t.2
    rw [m_X4_addRedoing_w2, w1, if_pos (nI_le (Nat.le_refl _) (by omega))]) fuelN 0 (F, m) (Nat.zero_le _) (by rw [fuel_is]; omega) ⟨by rw [List.take_zero]; exact h, fun _ _ => rfl⟩
  rw [List.take_length] at h1
  have hrl := redo_len (s := s) ws 0
  have hsR : R.1 10 = nI s := (h3 10 (by decide)).trans hs
  obtain ⟨R2, a2, b2, c2⟩ := c_addCount (n := ws.length) (x := 0) (y := 1) h1 hsR h7 (by decide) (by decide) (by omega)
  have a2 : m_X4_addCount R.1 R.2 (nI ws.length) 0 1 = some R2 := a2
  have hcl := count_len (s := s) (n := ws.length) (x := 0) (y := 1)
  obtain ⟨R3, a3, b3, c3⟩ := c_addWrites b2 hwp (by rw [List.length_append]; omega)
  refine ⟨(R3.1, R3.2), ?_, by rw [← List.append_assoc]; exact b3, fun j hj => (c3 j hj).trans ((c2 j hj).trans (h3 j hj))⟩
  refine (show m_X4_addRedoing F P m ad nu = m_X4_addRedoing_j33 P ad nu R.1 R.2 from h2).trans ?_
  rw [m_X4_addRedoing_j33, w1, bd_ok a2, bd_ok a3]
/-- the micros of a transaction -/
def microsT (mode s : Nat) (S : PS) : MM := (if mode = 0 then undoA s 0 S.2 else redoE s 0 S.2 ++ (countA s S.2.length 0 1 ++ storesA (ws2 S.2))) ++ endA s ((ws2 S.2).map (fun q => q.1 / 4))
theorem c_begin {F m P w ad nu ol af : Nat → Int32} {s mode : Nat} {S : PS} (hs : F 10 = nI s) (h7 : s < 128) (hm : F 9 = nI mode) (hm2 : mode < 2) (hP : PC P w ad nu ol (S, true)) (ha : ∀ q ∈ S.2, q.1 < 64) :
    ∃ R, m_X4_begin F P m af w ad nu ol = some R ∧ R.1 2 = nI 0 ∧ BM R.1 R.2.1 (microsT mode s S) ∧ (∀ j, ¬ j = 2 → ¬ j = 3 → R.1 j = F j) ∧ ∀ k, k < 44 → R.2.2 k = nI (S.1 (20 + k)) := by
  have hW : WP3 P ad nu ol S.2 := PC_WP3 hP
  have hwp := WP3_WP hW
  have hl8 : S.2.length ≤ 8 := hP.2.1
  have ha2 : ∀ q ∈ ws2 S.2, q.1 < 64 := by
    intro q hq
    unfold ws2 at hq
    obtain ⟨z, hz, rfl⟩ := List.mem_map.mp hq
    exact ha z hz
  have hB0 : BM (upd (upd F 2 0) 3 0) m [] := ⟨upd_eq, Nat.zero_le _, fun k q hk => by cases hk⟩
  have hs0 : upd (upd F 2 0) 3 0 10 = nI s := by rw [upd_ne (by decide), upd_ne (by decide)]; exact hs
  have key : ∀ (F' m' : Nat → Int32) (L : MM), BM F' m' L → fr3 F' (upd (upd F 2 0) 3 0) → L.length + 12 ≤ 80 → L ++ endA s ((ws2 S.2).map (fun q => q.1 / 4)) = microsT mode s S →
      ∃ R, m_X4_begin_j40 P w ad nu ol F' m' (va_cpy w af 20 0 44) = some R ∧ R.1 2 = nI 0 ∧ BM R.1 R.2.1 (microsT mode s S) ∧ (∀ j, ¬ j = 2 → ¬ j = 3 → R.1 j = F j) ∧ ∀ k, k < 44 → R.2.2 k = nI (S.1 (20 + k)) := by
    intro F' m' L hB hfr hlen hL
    obtain ⟨R, r1, r2, r3⟩ := c_addEnding hB ((hfr 10 (by decide)).trans hs0) h7 hwp ha2 hlen
    rw [m_X4_begin_j40, bd_ok r1]
    refine ⟨_, rfl, ?_, by rw [hL] at r2; exact r2, fun j h2 h3 => ?_, fun k hk => ?_⟩
    · show R.1 2 = nI 0
      rw [r3 2 (by decide), hfr 2 (by decide), upd_ne (by decide), upd_eq]; rfl
    · show R.1 j = F j
      rw [r3 j h3, hfr j h3, upd_ne h3, upd_ne h2]
    · show va_cpy w af 20 0 44 k = _
      unfold va_cpy
      rw [if_pos (by omega), show 20 + (k - 0) = 20 + k by omega]
      exact hP.2.2.2.1 (20 + k) (by omega)
  rw [m_X4_begin, show (20 : Int32) = nI 20 from rfl, show (0 : Int32) = nI 0 from rfl, show (44 : Int32) = nI 44 from rfl, cp_nI (by decide) (by decide) (by decide) (by decide), m_X4_dropMicros]
  simp only [nm]
  rw [bd_ok rfl]
  have hmd : upd (upd F 2 0) 3 0 9 = nI mode := by rw [upd_ne (by decide), upd_ne (by decide)]; exact hm
  rw [hmd]
  rcases (show mode = 0 ∨ mode = 1 by omega) with rfl | rfl
  · rw [if_pos rfl]
    obtain ⟨R, r1, r2, r3⟩ := c_addUndoing hB0 hs0 h7 hW
    rw [bd_ok r1]
    have hul := undo_len (s := s) S.2 0
    exact key R.1 R.2 _ r2 r3 (by omega) rfl
  · rw [if_neg (by decide)]
    obtain ⟨R, r1, r2, r3⟩ := c_addRedoing hB0 hs0 h7 hW
    rw [bd_ok r1]
    have hrl := redo_len (s := s) S.2 0
    have hcl := count_len (s := s) (n := S.2.length) (x := 0) (y := 1)
    have hsl : (storesA (ws2 S.2)).length = S.2.length := by unfold storesA ws2; rw [List.length_map, List.length_map]
    exact key R.1 R.2 _ r2 r3 (by rw [List.length_append, List.length_append, hsl]; omega) rfl
