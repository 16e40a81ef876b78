/-! ===== micros ===== -/
abbrev MM : Type := List (Nat × Nat × Nat)
def flushA (s site l : Nat) : MM := if s.testBit site = true then [] else [(1, l, 0)]
def fenceA (s site : Nat) : MM := if s.testBit site = true then [] else [(2, 0, 0)]
def entryA (s i a v : Nat) : MM := [(0, 4 + 2 * i, a), (0, 4 + 2 * i + 1, v)] ++ flushA s 4 ((4 + 2 * i) / 4)
def countA (s n x y : Nat) : MM := fenceA s x ++ ([(0, 0, n)] ++ (flushA s 5 0 ++ fenceA s y))
def storesA (ws : List (Nat × Nat)) : MM := ws.map (fun q => (0, q.1, q.2))
def undoA (s : Nat) : Nat → List (Nat × Nat × Nat) → MM
  | _, [] => []
  | i, q :: t => (entryA s i q.1 q.2.2 ++ (countA s (i + 1) 0 1 ++ [(0, q.1, q.2.1)])) ++ undoA s (i + 1) t
def redoE (s : Nat) : Nat → List (Nat × Nat × Nat) → MM
  | _, [] => []
  | i, q :: t => entryA s i q.1 q.2.1 ++ redoE s (i + 1) t
def endF : List Nat → Nat → MM
  | [], _ => []
  | l :: t, set => if set.testBit l = true then endF t set else (1, l, 0) :: endF t (set ||| 1 <<< l)
def endA (s : Nat) (ls : List Nat) : MM := (if s.testBit 6 = true then [] else endF ls 0) ++ countA s 0 2 3
theorem flush_len {s x l : Nat} : (flushA s x l).length ≤ 1 := by
  unfold flushA
  by_cases c : s.testBit x = true
  · rw [if_pos c]; show 0 ≤ 1; omega
  · rw [if_neg c]; show 1 ≤ 1; omega
theorem fence_len {s x : Nat} : (fenceA s x).length ≤ 1 := by
  unfold fenceA
  by_cases c : s.testBit x = true
  · rw [if_pos c]; show 0 ≤ 1; omega
  · rw [if_neg c]; show 1 ≤ 1; omega
theorem entry_len {s i a v : Nat} : (entryA s i a v).length ≤ 3 := by
  unfold entryA
  rw [List.length_append]
  have := flush_len (s := s) (x := 4) (l := (4 + 2 * i) / 4)
  have h2 : [(0, 4 + 2 * i, a), (0, 4 + 2 * i + 1, v)].length = 2 := rfl
  omega
theorem count_len {s n x y : Nat} : (countA s n x y).length ≤ 4 := by
  unfold countA
  rw [List.length_append, List.length_append, List.length_append]
  have h1 := fence_len (s := s) (x := x)
  have h2 := fence_len (s := s) (x := y)
  have h3 := flush_len (s := s) (x := 5) (l := 0)
  have h4 : ([(0, 0, n)] : MM).length = 1 := rfl
  omega
theorem undo_len {s : Nat} : ∀ (ws : List (Nat × Nat × Nat)) (i : Nat), (undoA s i ws).length ≤ 8 * ws.length := by
  intro ws
  induction ws with
  | nil => intro i; exact Nat.le_refl _
  | cons q t ih =>
    intro i
    simp only [undoA, List.length_append, List.length_cons, List.length_nil]
    have h1 := entry_len (s := s) (i := i) (a := q.1) (v := q.2.2)
    have h2 := count_len (s := s) (n := i + 1) (x := 0) (y := 1)
    have h3 := ih (i + 1)
    omega
theorem redo_len {s : Nat} : ∀ (ws : List (Nat × Nat × Nat)) (i : Nat), (redoE s i ws).length ≤ 3 * ws.length := by
  intro ws
  induction ws with
  | nil => intro i; exact Nat.le_refl _
  | cons q t ih =>
    intro i
    rw [redoE, List.length_append, List.length_cons]
    have h1 := entry_len (s := s) (i := i) (a := q.1) (v := q.2.1)
    have h3 := ih (i + 1)
    omega
theorem endF_len : ∀ (ls : List Nat) (set : Nat), (endF ls set).length ≤ ls.length := by
  intro ls
  induction ls with
  | nil => intro set; exact Nat.le_refl _
  | cons l t ih =>
    intro set
    rw [endF, List.length_cons]
    by_cases c : set.testBit l = true
    · rw [if_pos c]; have := ih set; omega
    · rw [if_neg c, List.length_cons]; have := ih (set ||| 1 <<< l); omega
theorem end_len {s : Nat} {ls : List Nat} : (endA s ls).length ≤ ls.length + 4 := by
  unfold endA
  rw [List.length_append]
  have h1 := count_len (s := s) (n := 0) (x := 2) (y := 3)
  have h2 : (if s.testBit 6 = true then [] else endF ls 0).length ≤ ls.length := by
    by_cases c : s.testBit 6 = true
    · rw [if_pos c]; exact Nat.zero_le _
    · rw [if_neg c]; exact endF_len ls 0
  omega
def mcN (q : Nat × Nat × Nat) : Nat := q.1 * 10000 + q.2.1 * 100 + q.2.2
/-- the class's micros while they are made: L, from place 0 on -/
def BM (F m : Nat → Int32) (L : MM) : Prop := F 3 = nI L.length ∧ L.length ≤ 80 ∧ ∀ k q, L[k]? = some q → m k = nI (mcN q)
def fr3 (F G : Nat → Int32) : Prop := ∀ j, ¬ j = 3 → F j = G j
theorem c_addMicro {F m : Nat → Int32} {L : MM} {k p v : Nat} (h : BM F m L) (hl : L.length < 80) : ∃ R, m_X4_addMicro F m (nI k) (nI p) (nI v) = some R ∧ BM R.1 R.2 (L ++ [(k, p, v)]) ∧ fr3 R.1 F := by
  obtain ⟨h1, h2, h3⟩ := h
  rw [m_X4_addMicro]
  simp (disch := omega) only [lit32, h1, nI_leI, if_neg, Nat.not_le, wr_nI, nI_mulE, nI_add, nm]
  refine ⟨_, rfl, ⟨?_, by rw [List.length_append, List.length_singleton]; omega, fun j q hj => ?_⟩, fun j hj => upd_ne hj⟩
  · show upd F 3 (nI (L.length + 1)) 3 = _
    rw [upd_eq, List.length_append, List.length_singleton]
  · show upd m L.length (nI (k * 10000 + p * 100 + v)) j = _
    by_cases e : j < L.length
    · rw [List.getElem?_append_left e] at hj
      rw [upd_ne (by omega)]; exact h3 j q hj
    · rw [List.getElem?_append_right (by omega)] at hj
      have hz := (List.getElem?_eq_some_iff.mp hj).1
      rw [List.length_singleton] at hz
      have hke : j = L.length := by omega
      rw [hke, Nat.sub_self] at hj
      cases hj
      rw [hke, upd_eq]; rfl
theorem c_leftOut {F : Nat → Int32} {s k : Nat} (hs : F 10 = nI s) (h7 : s < 128) (hk : k < 7) : m_X4_isLeftOut F (nI k) = some (nI (if s.testBit k = true then 1 else 0)) := by
  rw [m_X4_isLeftOut, hs]
  have eb : (nI s >>> (nI k &&& 31)) &&& 1 = nI (if s.testBit k = true then 1 else 0) := by
    show (nI s >>> (nI k &&& nI 31)) &&& nI 1 = _
    rw [nI_and, and31 (by omega), nI_shr (by omega) (by omega), nI_and, tb_shr]
  rw [eb]
  by_cases c : s.testBit k = true
  · rw [if_pos c, if_neg (by decide)]; rfl
  · rw [if_neg c, if_pos (show nI 0 = 0 from rfl)]; rfl
theorem c_flush {F m : Nat → Int32} {L : MM} {s x l : Nat} (h : BM F m L) (hs : F 10 = nI s) (h7 : s < 128) (hx : x < 7) (hl : L.length < 80) {ρ : Type} {K : (Nat → Int32) → (Nat → Int32) → Option ρ} :
    ∃ F' m', (bd (m_X4_isLeftOut F (nI x)) fun u => if u = 0 then (bd (m_X4_addMicro F m 1 (nI l) 0) fun v => K v.1 v.2) else K F m) = K F' m' ∧ BM F' m' (L ++ flushA s x l) ∧ fr3 F' F := by
  rw [bd_ok (c_leftOut hs h7 hx)]
  unfold flushA
  by_cases c : s.testBit x = true
  · rw [if_pos c, if_pos c, if_neg (by decide), List.append_nil]
    exact ⟨F, m, rfl, h, fun _ _ => rfl⟩
  · rw [if_neg c, if_neg c, if_pos (show nI 0 = 0 from rfl)]
    obtain ⟨R, r1, r2, r3⟩ := c_addMicro (k := 1) (p := l) (v := 0) h hl
    have r1 : m_X4_addMicro F m 1 (nI l) 0 = some R := r1
    rw [bd_ok r1]
    exact ⟨R.1, R.2, rfl, r2, r3⟩
theorem c_fence {F m : Nat → Int32} {L : MM} {s x : Nat} (h : BM F m L) (hs : F 10 = nI s) (h7 : s < 128) (hx : x < 7) (hl : L.length < 80) {ρ : Type} {K : (Nat → Int32) → (Nat → Int32) → Option ρ} :
    ∃ F' m', (bd (m_X4_isLeftOut F (nI x)) fun u => if u = 0 then (bd (m_X4_addMicro F m 2 0 0) fun v => K v.1 v.2) else K F m) = K F' m' ∧ BM F' m' (L ++ fenceA s x) ∧ fr3 F' F := by
  rw [bd_ok (c_leftOut hs h7 hx)]
  unfold fenceA
  by_cases c : s.testBit x = true
  · rw [if_pos c, if_pos c, if_neg (by decide), List.append_nil]
    exact ⟨F, m, rfl, h, fun _ _ => rfl⟩
  · rw [if_neg c, if_neg c, if_pos (show nI 0 = 0 from rfl)]
    obtain ⟨R, r1, r2, r3⟩ := c_addMicro (k := 2) (p := 0) (v := 0) h hl
    have r1 : m_X4_addMicro F m 2 0 0 = some R := r1
    rw [bd_ok r1]
    exact ⟨R.1, R.2, rfl, r2, r3⟩
theorem c_addEntry {F m : Nat → Int32} {L : MM} {s i a v : Nat} (h : BM F m L) (hs : F 10 = nI s) (h7 : s < 128) (hi : i < 8) (hl : L.length + 3 ≤ 80) : ∃ R, m_X4_addEntry F m (nI i) (nI a) (nI v) = some R ∧ BM R.1 R.2 (L ++ entryA s i a v) ∧ fr3 R.1 F := by
  rw [m_X4_addEntry]
  obtain ⟨R1, a1, b1, c1⟩ := c_addMicro (k := 0) (p := 4 + 2 * i) (v := a) h (by omega)
  obtain ⟨R2, a2, b2, c2⟩ := c_addMicro (k := 0) (p := 4 + 2 * i + 1) (v := v) b1 (by rw [List.length_append, List.length_singleton]; omega)
  have hs2 : R2.1 10 = nI s := (c2 10 (by decide)).trans ((c1 10 (by decide)).trans hs)
  obtain ⟨F', m', g1, g2, g3⟩ := c_flush (x := 4) (l := (4 + 2 * i) / 4) b2 hs2 h7 (by decide) (by rw [List.length_append, List.length_append, List.length_singleton, List.length_singleton]; omega) (K := fun F m => some (F, m))
  simp (disch := omega) only [nm, lit32, nI_mulE, nI_add, nI_divE]
  rw [bd_ok a1, bd_ok a2]
  refine ⟨(F', m'), g1, ?_, fun j hj => (g3 j hj).trans ((c2 j hj).trans (c1 j hj))⟩
  unfold entryA
  rw [show L ++ ([(0, 4 + 2 * i, a), (0, 4 + 2 * i + 1, v)] ++ flushA s 4 ((4 + 2 * i) / 4)) = L ++ [(0, 4 + 2 * i, a)] ++ [(0, 4 + 2 * i + 1, v)] ++ flushA s 4 ((4 + 2 * i) / 4) by simp only [List.append_assoc, List.cons_append, List.nil_append]]
  exact g2
theorem c_addCount {F m : Nat → Int32} {L : MM} {s n x y : Nat} (h : BM F m L) (hs : F 10 = nI s) (h7 : s < 128) (hx : x < 7) (hy : y < 7) (hl : L.length + 4 ≤ 80) : ∃ R, m_X4_addCount F m (nI n) (nI x) (nI y) = some R ∧ BM R.1 R.2 (L ++ countA s n x y) ∧ fr3 R.1 F := by
  rw [m_X4_addCount]
  obtain ⟨F1, m1, a1, b1, c1⟩ := c_fence (x := x) h hs h7 hx (by omega) (K := fun F m => m_X4_addCount_j15 (nI n) (nI x) (nI y) F m)
  have hf1 := fence_len (s := s) (x := x)
  have hl1 : (L ++ fenceA s x).length ≤ L.length + 1 := by rw [List.length_append]; omega
  obtain ⟨R2, a2, b2, c2⟩ := c_addMicro (k := 0) (p := 0) (v := n) b1 (by omega)
  have a2 : m_X4_addMicro F1 m1 0 0 (nI n) = some R2 := a2
  have hs2 : R2.1 10 = nI s := (c2 10 (by decide)).trans ((c1 10 (by decide)).trans hs)
  have hl2 : (L ++ fenceA s x ++ [(0, 0, n)]).length ≤ L.length + 2 := by rw [List.length_append, List.length_singleton]; omega
  obtain ⟨F3, m3, a3, b3, c3⟩ := c_flush (x := 5) (l := 0) b2 hs2 h7 (by decide) (by omega) (K := fun F m => m_X4_addCount_j37 (nI n) (nI x) (nI y) F m)
  have hs3 : F3 10 = nI s := (c3 10 (by decide)).trans hs2
  have hf3 := flush_len (s := s) (x := 5) (l := 0)
  obtain ⟨F4, m4, a4, b4, c4⟩ := c_fence (x := y) b3 hs3 h7 hy (by rw [List.length_append]; omega) (K := fun F m => some (F, m))
  refine ⟨(F4, m4), ?_, ?_, fun j hj => (c4 j hj).trans ((c3 j hj).trans ((c2 j hj).trans (c1 j hj)))⟩
  · refine a1.trans ?_
    show m_X4_addCount_j15 (nI n) (nI x) (nI y) F1 m1 = _
    rw [m_X4_addCount_j15, bd_ok a2]
    refine a3.trans ?_
    show m_X4_addCount_j37 (nI n) (nI x) (nI y) F3 m3 = _
    rw [m_X4_addCount_j37]
    exact a4
  · unfold countA
    rw [show L ++ (fenceA s x ++ ([(0, 0, n)] ++ (flushA s 5 0 ++ fenceA s y))) = L ++ fenceA s x ++ [(0, 0, n)] ++ flushA s 5 0 ++ fenceA s y by simp only [List.append_assoc]]
    exact b4
/-- a list of writes in the class's planner -/
def WP (F ad nu : Nat → Int32) (ws : List (Nat × Nat)) : Prop := F 4 = nI ws.length ∧ ws.length ≤ 8 ∧ ∀ k q, ws[k]? = some q → ad k = nI q.1 ∧ nu k = nI q.2
theorem c_addWrites {F m P ad nu : Nat → Int32} {L : MM} {ws : List (Nat × Nat)} (h : BM F m L) (hw : WP P ad nu ws) (hl : L.length + 8 ≤ 80) : ∃ R, m_X4_addWrites F P m ad nu = some R ∧ BM R.1 R.2 (L ++ storesA ws) ∧ fr3 R.1 F := by
  obtain ⟨w1, w2, w3⟩ := hw
  obtain ⟨R, ⟨h1, h3⟩, h2⟩ := loop_up (fun n i (s : (Nat → Int32) × (Nat → Int32)) => m_X4_addWrites_w2 P ad nu n i s.1 s.2) some ws.length (fun k s => BM s.1 s.2 (L ++ storesA (ws.take k)) ∧ fr3 s.1 F) (by
    intro n k s hk hI
    have hq : ws[k]? = some ws[k] := List.getElem?_eq_getElem hk
    generalize ws[k] = q at hq
    obtain ⟨e1, e2⟩ := w3 k q hq
    have hlen : (L ++ storesA (ws.take k)).length ≤ L.length + k := by
      rw [List.length_append]; unfold storesA; rw [List.length_map, List.length_take]; omega
    obtain ⟨R, r1, r2, r3⟩ := c_addMicro (k := 0) (p := q.1) (v := q.2) hI.1 (by omega)
    have r1 : m_X4_addMicro s.1 s.2 (nI 0) (nI q.1) (nI q.2) = some R := r1
    refine ⟨R, ⟨?_, fun j hj => (r3 j hj).trans (hI.2 j hj)⟩, ?_⟩
    · rw [List.take_succ, hq, Option.toList_some]
      unfold storesA
      rw [List.map_append, ← List.append_assoc]
      exact r2
    · show m_X4_addWrites_w2 _ _ _ _ _ _ _ = _
      rw [m_X4_addWrites_w2]
      simp (disch := omega) only [lit32, w1, nI_leI, if_neg, Nat.not_le, rd_nI, e1, e2, r1, bd, Option.bind_some, nm, nI_add]) (by
    intro n s _
    show m_X4_addWrites_w2 _ _ _ _ _ _ _ = _
    rw [m_X4_addWrites_w2]
    simp (disch := omega) only [w1, nI_leI, if_pos]) fuelN 0 (F, m) (Nat.zero_le _) (by rw [fuel_is]; omega) ⟨by rw [List.take_zero]; unfold storesA; rw [List.map_nil, List.append_nil]; exact h, fun _ _ => rfl⟩
  rw [List.take_length] at h1
  exact ⟨R, h2, h1, h3⟩
theorem neg1_bit : ∀ l : Nat, l < 16 → ((-1 : Int32) >>> (nI l &&& 31)) &&& 1 = 1 := by decide
theorem c_end_skip {F m P ad nu : Nat → Int32} {L : MM} {ws : List (Nat × Nat)} (h : BM F m L) (hw : WP P ad nu ws) (ha : ∀ q ∈ ws, q.1 < 64) (K : (Nat → Int32) → (Nat → Int32) → Option ((Nat → Int32) × (Nat → Int32))) : m_X4_addEnding_w17 P ad K fuelN (-1) (nI 0) F m = K F m := by
  obtain ⟨w1, w2, w3⟩ := hw
  obtain ⟨R, h1, h2⟩ := loop_up (fun n i (t : Unit) => m_X4_addEnding_w17 P ad K n (-1) i F m) (fun _ => K F m) ws.length (fun _ _ => True) (by
    intro n k t hk _
    have hq : ws[k]? = some ws[k] := List.getElem?_eq_getElem hk
    have hm := ha _ (List.getElem_mem hk)
    generalize ws[k] = q at hq hm
    obtain ⟨e1, -⟩ := w3 k q hq
    refine ⟨(), trivial, ?_⟩
    show m_X4_addEnding_w17 P ad K (n + 1) (-1) (nI k) F m = m_X4_addEnding_w17 P ad K n (-1) (nI (k + 1)) F m
    rw [m_X4_addEnding_w17, w1, if_neg (nI_ge hk (by omega)), rd_nI (by omega) (by decide), e1, nm, show (nI q.1 / 4 : Int32) = nI (q.1 / 4) from nI_divE (b := 4) (by omega) (by decide), if_neg (by rw [neg1_bit _ (by omega)]; decide), m_X4_addEnding_j59, nm, show nI k + 1 = nI (k + 1) from nI_1 k]) (by
    intro n t _
    show m_X4_addEnding_w17 P ad K (n + 1) (-1) (nI ws.length) F m = K F m
    rw [m_X4_addEnding_w17, w1, if_pos (nI_le (Nat.le_refl _) (by omega))]) fuelN 0 () (Nat.zero_le _) (by rw [fuel_is]; omega) trivial
  exact h2
theorem c_end_go {F m P ad nu : Nat → Int32} {L : MM} {ws : List (Nat × Nat)} (h : BM F m L) (hw : WP P ad nu ws) (ha : ∀ q ∈ ws, q.1 < 64) (hl : L.length + 12 ≤ 80) (K : (Nat → Int32) → (Nat → Int32) → Option ((Nat → Int32) × (Nat → Int32))) : ∃ F' m', m_X4_addEnding_w17 P ad K fuelN (nI 0) (nI 0) F m = K F' m' ∧ BM F' m' (L ++ endF (ws.map (fun q => q.1 / 4)) 0) ∧ fr3 F' F := by
  obtain ⟨w1, w2, w3⟩ := hw
  obtain ⟨R, ⟨h1, h3, M, h5, h6, h7⟩, h2⟩ := loop_up (fun n i (t : Nat × (Nat → Int32) × (Nat → Int32)) => m_X4_addEnding_w17 P ad K n (nI t.1) i t.2.1 t.2.2) (fun t => K t.2.1 t.2.2) ws.length (fun k t => t.1 < 65536 ∧ fr3 t.2.1 F ∧ ∃ M, BM t.2.1 t.2.2 (L ++ M) ∧ M.length ≤ k ∧ M ++ endF ((ws.drop k).map (fun q => q.1 / 4)) t.1 = endF (ws.map (fun q => q.1 / 4)) 0) (by
    intro n k t hk hI
    obtain ⟨i1, i2, M, i3, i4, i5⟩ := hI
    have hq : ws[k]? = some ws[k] := List.getElem?_eq_getElem hk
    have hm := ha _ (List.getElem_mem hk)
    rw [List.drop_eq_getElem_cons hk, List.map_cons, endF] at i5
    generalize ws[k] = q at hq hm i5
    obtain ⟨e1, -⟩ := w3 k q hq
    have hl4 : q.1 / 4 < 16 := by omega
    show ∃ s' : Nat × (Nat → Int32) × (Nat → Int32), _ ∧ m_X4_addEnding_w17 P ad K (n + 1) (nI t.1) (nI k) t.2.1 t.2.2 = m_X4_addEnding_w17 P ad K n (nI s'.1) (nI (k + 1)) s'.2.1 s'.2.2
    have eb : (nI t.1 >>> (nI (q.1 / 4) &&& 31)) &&& 1 = nI (if t.1.testBit (q.1 / 4) = true then 1 else 0) := by
      show (nI t.1 >>> (nI (q.1 / 4) &&& nI 31)) &&& nI 1 = _
      rw [nI_and, and31 (by omega), nI_shr (by omega) (by omega), nI_and, tb_shr]
    rw [m_X4_addEnding_w17, w1, if_neg (nI_ge hk (by omega)), rd_nI (by omega) (by decide), e1, nm, show (nI q.1 / 4 : Int32) = nI (q.1 / 4) from nI_divE (b := 4) (by omega) (by decide), eb]
    by_cases cb9 : t.1.testBit (q.1 / 4) = true
    · rw [if_pos cb9] at i5
      rw [if_pos cb9, if_neg (by decide), m_X4_addEnding_j59, nm, show nI k + 1 = nI (k + 1) from nI_1 k]
      exact ⟨t, ⟨i1, i2, M, i3, by omega, i5⟩, rfl⟩
    · rw [if_neg cb9] at i5
      rw [if_neg cb9, if_pos (show nI 0 = 0 from rfl)]
      obtain ⟨R, r1, r2, r3⟩ := c_addMicro (k := 1) (p := q.1 / 4) (v := 0) i3 (by rw [List.length_append]; omega)
      have r1 : m_X4_addMicro t.2.1 t.2.2 1 (nI (q.1 / 4)) 0 = some R := r1
      have es : nI t.1 ||| (1 : Int32) <<< (nI (q.1 / 4) &&& 31) = nI (t.1 ||| 1 <<< (q.1 / 4)) := by
        show nI t.1 ||| nI 1 <<< (nI (q.1 / 4) &&& nI 31) = _
        rw [nI_and, and31 (by omega), nI_shl _ (by omega), nI_or]
      rw [bd_ok r1, nm, es, m_X4_addEnding_j59, nm, show nI k + 1 = nI (k + 1) from nI_1 k]
      have hb16 : 1 <<< (q.1 / 4) < 65536 := by
        have : ∀ l, l < 16 → 1 <<< l < 65536 := by decide
        exact this _ hl4
      refine ⟨(t.1 ||| 1 <<< (q.1 / 4), R.1, R.2), ⟨or_lt (n := 16) i1 hb16, fun j hj => (r3 j hj).trans (i2 j hj), M ++ [(1, q.1 / 4, 0)], by rw [← List.append_assoc]; exact r2, by rw [List.length_append, List.length_singleton]; omega, ?_⟩, rfl⟩
      rw [List.append_assoc]; exact i5) (by
    intro n t _
    show m_X4_addEnding_w17 P ad K (n + 1) (nI t.1) (nI ws.length) t.2.1 t.2.2 = K t.2.1 t.2.2
    rw [m_X4_addEnding_w17, w1, if_pos (nI_le (Nat.le_refl _) (by omega))]) fuelN 0 (0, F, m) (Nat.zero_le _) (by rw [fuel_is]; omega) ⟨Nat.zero_lt_succ 65535, fun _ _ => rfl, [], by rw [List.append_nil]; exact h, Nat.le_refl _, by rw [List.nil_append, List.drop_zero]⟩
  rw [List.drop_length, List.map_nil, endF, List.append_nil] at h7
  exact ⟨R.2.1, R.2.2, h2, by rw [← h7]; exact h5, h3⟩
theorem c_addEnding {F m P ad nu : Nat → Int32} {L : MM} {s : Nat} {ws : List (Nat × Nat)} (h : BM F m L) (hs : F 10 = nI s) (h7 : s < 128) (hw : WP P ad nu ws) (ha : ∀ q ∈ ws, q.1 < 64) (hl : L.length + 12 ≤ 80) : ∃ R, m_X4_addEnding F P m ad = some R ∧ BM R.1 R.2 (L ++ endA s (ws.map (fun q => q.1 / 4))) ∧ fr3 R.1 F := by
  have fin : ∀ (F' m' : Nat → Int32) (L' : MM), BM F' m' L' → fr3 F' F → L'.length + 4 ≤ 80 → ∃ R, m_X4_addEnding_j65 P ad F' m' = some R ∧ BM R.1 R.2 (L' ++ countA s 0 2 3) ∧ fr3 R.1 F := by
    intro F' m' L' hB hfr hl'
    obtain ⟨R, r1, r2, r3⟩ := c_addCount (n := 0) (x := 2) (y := 3) hB ((hfr 10 (by decide)).trans hs) h7 (by decide) (by decide) hl'
    have r1 : m_X4_addCount F' m' 0 2 3 = some R := r1
    rw [m_X4_addEnding_j65, bd_ok r1]
    exact ⟨(R.1, R.2), rfl, r2, fun j hj => (r3 j hj).trans (hfr j hj)⟩
  have hlw := hw.2.1
  rw [m_X4_addEnding, show (6 : Int32) = nI 6 from rfl, bd_ok (c_leftOut hs h7 (by decide))]
  unfold endA
  by_cases c : s.testBit 6 = true
  · rw [if_pos c, if_pos c, if_neg (by decide), m_X4_addEnding_j14, List.nil_append, show (0 : Int32) = nI 0 from rfl, c_end_skip h hw ha]
    exact fin F m L h (fun _ _ => rfl) (by omega)
  · rw [if_neg c, if_neg c, if_pos (show nI 0 = 0 from rfl), m_X4_addEnding_j14]
    obtain ⟨F', m', g1, g2, g3⟩ := c_end_go h hw ha hl (m_X4_addEnding_j65 P ad)
    have hle := endF_len (ws.map (fun q => q.1 / 4)) 0
    rw [List.length_map] at hle
    obtain ⟨R', r1, r2, r3⟩ := fin F' m' _ g2 g3 (by rw [List.length_append]; omega)
    rw [show (0 : Int32) = nI 0 from rfl, g1]
    refine ⟨R', r1, ?_, r3⟩
    rw [← List.append_assoc]
    exact r2
