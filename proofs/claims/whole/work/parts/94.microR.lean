/-! ===== the reference's micros ===== -/
def mcw (q : Nat × Nat × Nat) : Int32 := if q.1 = 2 then -1 else nI q.2.1
def mcv (q : Nat × Nat × Nat) : Int32 := if q.1 = 0 then nI q.2.2 else -1
def RMi (rows : Nat → Int32) (b : Nat) (L : MM) : Prop := rows (b + 774) = nI L.length ∧ L.length ≤ 80 ∧ ∀ k q, L[k]? = some q → rows (b + 288 + 3 * k) = nI q.1 ∧ rows (b + 288 + 3 * k + 1) = mcw q ∧ rows (b + 288 + 3 * k + 2) = mcv q
def frM (r rows : Nat → Int32) (b : Nat) : Prop := ∀ j, (j < b + 288 ∨ b + 528 ≤ j) → ¬ j = b + 774 → r j = rows j
theorem frM_refl {r : Nat → Int32} {b : Nat} : frM r r b := fun _ _ _ => rfl
theorem frM_tr {r s t : Nat → Int32} {b : Nat} (h1 : frM r s b) (h2 : frM s t b) : frM r t b := fun j a c => (h1 j a c).trans (h2 j a c)
theorem r_lays {rows : Nat → Int32} {b : Nat} {L : MM} {p2 p3 p4 : Int32} {q : Nat × Nat × Nat} (h : RMi rows b L) (hl : L.length < 80) (hb : b + 786 ≤ 66100) (h2 : p2 = nI q.1) (h3 : p3 = mcw q) (h4 : p4 = mcv q) : ∃ r, m_X12_lays rows (nI b) p2 p3 p4 = some r ∧ RMi r b (L ++ [q]) ∧ frM r rows b := by
  subst h2 h3 h4
  obtain ⟨a1, a2, a3⟩ := h
  refine ⟨upd (upd (upd (upd rows (b + 288 + 3 * L.length) (nI q.1)) (b + 288 + 3 * L.length + 1) (mcw q)) (b + 288 + 3 * L.length + 2) (mcv q)) (b + 774) (nI (L.length + 1)), ?_, ⟨?_, by rw [List.length_append, List.length_singleton]; omega, fun k z hk => ?_⟩, fun j hj hj2 => ?_⟩
  · rw [m_X12_lays]
    have e1 : upd (upd (upd rows (b + 288 + 3 * L.length) (nI q.1)) (b + 288 + 3 * L.length + 1) (mcw q)) (b + 288 + 3 * L.length + 2) (mcv q) (b + 774) = nI L.length := by
      rw [upd_ne (by omega), upd_ne (by omega), upd_ne (by omega)]; exact a1
    simp (disch := omega) only [nm, lit32, nI_add, nI_mulE, rd_nI, wr_nI, a1, e1]
  · rw [upd_eq, List.length_append, List.length_singleton]
  · by_cases e : k < L.length
    · rw [List.getElem?_append_left e] at hk
      obtain ⟨f1, f2, f3⟩ := a3 k z hk
      refine ⟨?_, ?_, ?_⟩
      · rw [upd_ne (by omega), upd_ne (by omega), upd_ne (by omega), upd_ne (by omega)]; exact f1
      · rw [upd_ne (by omega), upd_ne (by omega), upd_ne (by omega), upd_ne (by omega)]; exact f2
      · rw [upd_ne (by omega), upd_ne (by omega), upd_ne (by omega), upd_ne (by omega)]; exact f3
    · rw [List.getElem?_append_right (by omega)] at hk
      have hz := (List.getElem?_eq_some_iff.mp hk).1
      rw [List.length_singleton] at hz
      have hke : k = L.length := by omega
      rw [hke, Nat.sub_self] at hk
      cases hk
      subst hke
      refine ⟨?_, ?_, ?_⟩
      · rw [upd_ne (by omega), upd_ne (by omega), upd_ne (by omega), upd_eq]
      · rw [upd_ne (by omega), upd_ne (by omega), upd_eq]
      · rw [upd_ne (by omega), upd_eq]
  · rw [upd_ne hj2, upd_ne (by omega), upd_ne (by omega), upd_ne (by omega)]
theorem r_isIn {rows : Nat → Int32} {b s x : Nat} {p : Int32} (hs : rows (b + 773) = nI s) (h7 : s < 128) (hx : x < 7) (hb : b + 786 ≤ 66100) (hp : p = nI (1 <<< x)) : m_X12_isIn rows (nI b) p = some (nI (if s.testBit x = true then 0 else 1)) := by
  subst hp
  rw [m_X12_isIn]
  simp (disch := omega) only [lit32, nI_add, rd_nI, hs, nI_and]
  have h1 := tb_and s (by omega) x (by omega)
  have h2 : s &&& 1 <<< x < 2 ^ 31 := Nat.lt_of_le_of_lt Nat.and_le_left (by omega)
  by_cases c : s.testBit x = true
  · rw [if_pos c, if_neg (fun q => by rw [h1.mp (nI_inj h2 (by decide) q)] at c; cases c)]
  · have c' : s.testBit x = false := by simpa using c
    rw [if_neg c, if_pos (show nI (s &&& 1 <<< x) = nI 0 by rw [h1.mpr c'])]
theorem r_flushes {rows : Nat → Int32} {b s x l : Nat} {L : MM} {p : Int32} (h : RMi rows b L) (hl : L.length < 80) (hs : rows (b + 773) = nI s) (h7 : s < 128) (hx : x < 7) (hb : b + 786 ≤ 66100) (hp : p = nI (1 <<< x)) : ∃ r, m_X12_flushes rows (nI b) p (nI l) = some r ∧ RMi r b (L ++ flushA s x l) ∧ frM r rows b := by
  rw [m_X12_flushes, bd_ok (r_isIn hs h7 hx hb hp)]
  unfold flushA
  by_cases c : s.testBit x = true
  · rw [if_pos c, if_pos c, if_pos (show nI 0 = 0 from rfl), List.append_nil]
    exact ⟨rows, rfl, h, frM_refl⟩
  · rw [if_neg c, if_neg c, if_neg (by decide)]
    obtain ⟨r, r1, r2, r3⟩ := r_lays (p2 := 1) (p3 := nI l) (p4 := -1) (q := (1, l, 0)) h hl hb rfl rfl rfl
    rw [bd_ok r1]
    exact ⟨r, rfl, r2, r3⟩
theorem r_fences {rows : Nat → Int32} {b s x : Nat} {L : MM} {p : Int32} (h : RMi rows b L) (hl : L.length < 80) (hs : rows (b + 773) = nI s) (h7 : s < 128) (hx : x < 7) (hb : b + 786 ≤ 66100) (hp : p = nI (1 <<< x)) : ∃ r, m_X12_fences rows (nI b) p = some r ∧ RMi r b (L ++ fenceA s x) ∧ frM r rows b := by
  rw [m_X12_fences, bd_ok (r_isIn hs h7 hx hb hp)]
  unfold fenceA
  by_cases c : s.testBit x = true
  · rw [if_pos c, if_pos c, if_pos (show nI 0 = 0 from rfl), List.append_nil]
    exact ⟨rows, rfl, h, frM_refl⟩
  · rw [if_neg c, if_neg c, if_neg (by decide)]
    obtain ⟨r, r1, r2, r3⟩ := r_lays (p2 := 2) (p3 := -1) (p4 := -1) (q := (2, 0, 0)) h hl hb rfl rfl rfl
    rw [bd_ok r1]
    exact ⟨r, rfl, r2, r3⟩
theorem r_counts {rows : Nat → Int32} {b s n : Nat} {L : MM} (h : RMi rows b L) (hl : L.length + 2 ≤ 80) (hs : rows (b + 773) = nI s) (h7 : s < 128) (hb : b + 786 ≤ 66100) : ∃ r, m_X12_counts rows (nI b) (nI n) = some r ∧ RMi r b (L ++ ([(0, 0, n)] ++ flushA s 5 0)) ∧ frM r rows b := by
  rw [m_X12_counts]
  obtain ⟨r, r1, r2, r3⟩ := r_lays (p2 := 0) (p3 := 0) (p4 := nI n) (q := (0, 0, n)) h (by omega) hb rfl rfl rfl
  have hs2 : r (b + 773) = nI s := (r3 (b + 773) (by omega) (by omega)).trans hs
  obtain ⟨t, t1, t2, t3⟩ := r_flushes (x := 5) (l := 0) (p := 32) r2 (by rw [List.length_append, List.length_singleton]; omega) hs2 h7 (by decide) hb rfl
  have t1 : m_X12_flushes r (nI b) 32 0 = some t := t1
  rw [bd_ok r1, bd_ok t1]
  exact ⟨t, rfl, by rw [← List.append_assoc]; exact t2, frM_tr t3 r3⟩
theorem frM_s {r rows : Nat → Int32} {b s : Nat} (h : frM r rows b) (hs : rows (b + 773) = nI s) : r (b + 773) = nI s := (h (b + 773) (by omega) (by omega)).trans hs
/-- fence, count, flush, fence -/
theorem r_fcf {rows : Nat → Int32} {b s n x y : Nat} {L : MM} {p1 p2 : Int32} (h : RMi rows b L) (hl : L.length + 4 ≤ 80) (hs : rows (b + 773) = nI s) (h7 : s < 128) (hb : b + 786 ≤ 66100) (hx : x < 7) (hy : y < 7) (hp1 : p1 = nI (1 <<< x)) (hp2 : p2 = nI (1 <<< y)) {ρ : Type} {K : (Nat → Int32) → Option ρ} :
    ∃ r, (bd (m_X12_fences rows (nI b) p1) fun u1 => bd (m_X12_counts u1 (nI b) (nI n)) fun u2 => bd (m_X12_fences u2 (nI b) p2) fun u3 => K u3) = K r ∧ RMi r b (L ++ countA s n x y) ∧ frM r rows b := by
  obtain ⟨r1, a1, b1, c1⟩ := r_fences h (by omega) hs h7 hx hb hp1
  have hf := fence_len (s := s) (x := x)
  have hf2 := flush_len (s := s) (x := 5) (l := 0)
  have hl1 : (L ++ fenceA s x).length ≤ L.length + 1 := by rw [List.length_append]; omega
  obtain ⟨r2, a2, b2, c2⟩ := r_counts (n := n) b1 (by omega) (frM_s c1 hs) h7 hb
  have hl2 : (L ++ fenceA s x ++ ([(0, 0, n)] ++ flushA s 5 0)).length ≤ L.length + 3 := by
    simp only [List.length_append, List.length_cons, List.length_nil]; omega
  obtain ⟨r3, a3, b3, c3⟩ := r_fences b2 (by omega) (frM_s c2 (frM_s c1 hs)) h7 hy hb hp2
  rw [bd_ok a1, bd_ok a2, bd_ok a3]
  refine ⟨r3, rfl, ?_, frM_tr c3 (frM_tr c2 c1)⟩
  unfold countA
  rw [show L ++ (fenceA s x ++ ([(0, 0, n)] ++ (flushA s 5 0 ++ fenceA s y))) = L ++ fenceA s x ++ ([(0, 0, n)] ++ flushA s 5 0) ++ fenceA s y by simp only [List.append_assoc]]
  exact b3
/-! the end -/
def endM : List Nat → List Nat → MM
  | [], _ => []
  | l :: t, seen => if l ∈ seen then endM t (seen ++ [l]) else (1, l, 0) :: endM t (seen ++ [l])
theorem tb_set16 : ∀ i, i < 16 → ∀ k, k < 16 → (1 <<< i).testBit k = decide (i = k) := by decide
theorem endF_is : ∀ (ls : List Nat) (set : Nat) (seen : List Nat), (∀ l ∈ ls, l < 16) → (∀ l, l < 16 → (set.testBit l = true ↔ l ∈ seen)) → endF ls set = endM ls seen := by
  intro ls
  induction ls with
  | nil => intro _ _ _ _; rfl
  | cons l t ih =>
    intro set seen hl hs
    have hl16 := hl l List.mem_cons_self
    have ht : ∀ z ∈ t, z < 16 := fun z hz => hl z (List.mem_cons_of_mem _ hz)
    rw [endF, endM]
    by_cases c : l ∈ seen
    · rw [if_pos c, if_pos ((hs l hl16).mpr c)]
      refine ih set _ ht (fun z hz => ?_)
      rw [hs z hz, List.mem_append, List.mem_singleton]
      constructor
      · exact fun q => Or.inl q
      · rintro (q | q)
        · exact q
        · rw [q]; exact c
    · rw [if_neg c, if_neg (fun q => c ((hs l hl16).mp q))]
      refine congrArg _ (ih _ _ ht (fun z hz => ?_))
      rw [Nat.testBit_or, Bool.or_eq_true, hs z hz, tb_set16 l hl16 z hz, decide_eq_true_eq, List.mem_append, List.mem_singleton]
      constructor
      · rintro (q | q)
        · exact Or.inl q
        · exact Or.inr q.symm
      · rintro (q | q)
        · exact Or.inl q
        · exact Or.inr q.symm
theorem endM_len : ∀ (ls seen : List Nat), (endM ls seen).length ≤ ls.length := by
  intro ls
  induction ls with
  | nil => intro _; exact Nat.le_refl _
  | cons l t ih =>
    intro seen
    rw [endM, List.length_cons]
    have := ih (seen ++ [l])
    by_cases c : l ∈ seen
    · rw [if_pos c]; omega
    · rw [if_neg c, List.length_cons]; omega
theorem r_end_inner {F ad rows : Nat → Int32} {p1 : Int32} {K : Int32 → Int32 → (Nat → Int32) → Option (Nat → Int32)} {ws : List Nat} (hw : ∀ k q, ws[k]? = some q → ad k = nI q) (ha : ∀ q ∈ ws, q < 64) (h8 : ws.length ≤ 64) {i : Nat} (hi : i < ws.length) :
    m_X12_laysEnd_w15 F ad p1 K fuelN (nI i) 1 0 rows = K (nI i) (nI (if ws[i] / 4 ∈ (ws.take i).map (fun q => q / 4) then 0 else 1)) rows := by
  have hqi : ws[i]? = some ws[i] := List.getElem?_eq_getElem hi
  have hmi := ha _ (List.getElem_mem hi)
  generalize ws[i] = z at hqi hmi
  obtain ⟨t, h1, h2⟩ := loop_up (fun n k (t : Nat) => m_X12_laysEnd_w15 F ad p1 K n (nI i) (nI t) k rows) (fun t => K (nI i) (nI t) rows) i (fun k t => t = if z / 4 ∈ (ws.take k).map (fun q => q / 4) then 0 else 1) (by
    intro n k t hk hI
    have hqk : ws[k]? = some ws[k] := List.getElem?_eq_getElem (by omega)
    have hmk := ha _ (List.getElem_mem (show k < ws.length by omega))
    generalize ws[k] = y at hqk hmk
    have ei := hw i z hqi
    have ek := hw k y hqk
    refine ⟨_, rfl, ?_⟩
    show m_X12_laysEnd_w15 F ad p1 K (n + 1) (nI i) (nI t) (nI k) rows = m_X12_laysEnd_w15 F ad p1 K n (nI i) _ (nI (k + 1)) rows
    rw [m_X12_laysEnd_w15, if_neg (nI_ge hk (by omega)), List.take_succ, hqk, Option.toList_some, List.map_append]
    simp only [List.mem_append, List.map_cons, List.map_nil, List.mem_singleton]
    subst hI
    by_cases c : z / 4 ∈ (ws.take k).map (fun q => q / 4)
    · rw [if_pos c, if_pos (Or.inl c), if_pos (show nI 0 = 0 from rfl), m_X12_laysEnd_j49, m_X12_laysEnd_j50, nm, show nI k + 1 = nI (k + 1) from nI_1 k]; rfl
    · rw [if_neg c, if_neg (show ¬ nI 1 = 0 by decide), rd_nI (by omega) (by decide), rd_nI (by omega) (by decide), ei, ek, show (nI y / 4 : Int32) = nI (y / 4) from nI_divE (b := 4) (by omega) (by decide), show (nI z / 4 : Int32) = nI (z / 4) from nI_divE (b := 4) (by omega) (by decide)]
      by_cases e : z / 4 = y / 4
      · rw [if_pos (show nI (y / 4) = nI (z / 4) by rw [e]), if_pos (Or.inr e), m_X12_laysEnd_j49, m_X12_laysEnd_j50, nm, show nI k + 1 = nI (k + 1) from nI_1 k]; rfl
      · rw [if_neg (fun q => e (nI_inj (by omega) (by omega) q).symm), if_neg (fun q => q.elim c e), m_X12_laysEnd_j50, nm, show nI k + 1 = nI (k + 1) from nI_1 k]; rfl) (by
    intro n t _
    show m_X12_laysEnd_w15 F ad p1 K (n + 1) (nI i) (nI t) (nI i) rows = K (nI i) (nI t) rows
    rw [m_X12_laysEnd_w15, if_pos (nI_le (Nat.le_refl _) (by omega))]) fuelN 0 1 (Nat.zero_le _) (by rw [fuel_is]; omega) (by rw [List.take_zero, List.map_nil, if_neg (List.not_mem_nil)])
  rw [h1] at h2
  exact h2
theorem r_laysEnd {F ad rows : Nat → Int32} {b s : Nat} {L : MM} {ws : List Nat} (h : RMi rows b L) (hF : F 19 = nI ws.length) (hs : rows (b + 773) = nI s) (h7 : s < 128) (hb : b + 786 ≤ 66100) (hw : ∀ k q, ws[k]? = some q → ad k = nI q) (ha : ∀ q ∈ ws, q < 64) (h8 : ws.length ≤ 8) (hl : L.length + 12 ≤ 80) :
    ∃ r, m_X12_laysEnd F rows ad (nI b) = some r ∧ RMi r b (L ++ endA s (ws.map (fun q => q / 4))) ∧ frM r rows b := by
  obtain ⟨r, ⟨h1, M, h2, h3, h4⟩, h5⟩ := loop_up (fun n i r => m_X12_laysEnd_w2 F ad (nI b) (m_X12_laysEnd_j82 F ad (nI b)) n i r) (fun r => m_X12_laysEnd_j82 F ad (nI b) r) ws.length (fun i r => frM r rows b ∧ ∃ M, RMi r b (L ++ M) ∧ M.length ≤ i ∧ (if s.testBit 6 = true then M = [] else M ++ endM ((ws.drop i).map (fun q => q / 4)) ((ws.take i).map (fun q => q / 4)) = endM (ws.map (fun q => q / 4)) [])) (by
    intro n i r hi hI
    obtain ⟨i1, M, i2, i3, i4⟩ := hI
    have hqi : ws[i]? = some ws[i] := List.getElem?_eq_getElem hi
    have ein := r_end_inner (F := F) (rows := r) (p1 := nI b) (K := m_X12_laysEnd_j57 F ad (nI b) (m_X12_laysEnd_w2 F ad (nI b) (m_X12_laysEnd_j82 F ad (nI b)) n)) hw ha (by omega) hi
    have hmi := ha _ (List.getElem_mem hi)
    rw [List.drop_eq_getElem_cons hi, List.map_cons, endM] at i4
    rw [List.take_succ, hqi, Option.toList_some, List.map_append]
    generalize ws[i] = z at hqi hmi ein i4
    have ei := hw i z hqi
    have hlM : (L ++ M).length ≤ L.length + i := by rw [List.length_append]; omega
    have hdiv : (nI z / 4 : Int32) = nI (z / 4) := nI_divE (b := 4) (by omega) (by decide)
    show ∃ s', _ ∧ m_X12_laysEnd_w2 F ad (nI b) (m_X12_laysEnd_j82 F ad (nI b)) (n + 1) (nI i) r = m_X12_laysEnd_w2 F ad (nI b) (m_X12_laysEnd_j82 F ad (nI b)) n (nI (i + 1)) s'
    rw [m_X12_laysEnd_w2, hF, if_neg (nI_ge hi (by omega)), ein, m_X12_laysEnd_j57]
    simp only [List.map_cons, List.map_nil]
    by_cases c : z / 4 ∈ (ws.take i).map (fun q => q / 4)
    · rw [if_pos c] at i4
      rw [if_pos c, if_pos (show nI 0 = 0 from rfl), m_X12_laysEnd_j76, nm, show nI i + 1 = nI (i + 1) from nI_1 i]
      exact ⟨r, ⟨i1, M, i2, by omega, i4⟩, rfl⟩
    · rw [if_neg c] at i4
      rw [if_neg c, if_neg (by decide), rd_nI (by omega) (by decide), ei, hdiv]
      obtain ⟨r2, g1, g2, g3⟩ := r_flushes (x := 6) (l := z / 4) (p := 64) i2 (by omega) (frM_s i1 hs) h7 (by decide) hb rfl
      rw [bd_ok g1, m_X12_laysEnd_j76, nm, show nI i + 1 = nI (i + 1) from nI_1 i]
      refine ⟨r2, ⟨frM_tr g3 i1, M ++ flushA s 6 (z / 4), by rw [← List.append_assoc]; exact g2, ?_, ?_⟩, rfl⟩
      · rw [List.length_append]
        have := flush_len (s := s) (x := 6) (l := z / 4)
        omega
      · unfold flushA
        by_cases c6 : s.testBit 6 = true
        · rw [if_pos c6] at i4
          rw [if_pos c6, if_pos c6, i4]; rfl
        · rw [if_neg c6] at i4
          rw [if_neg c6, if_neg c6, List.append_assoc]
          exact i4) (by
    intro n r _
    show m_X12_laysEnd_w2 F ad (nI b) (m_X12_laysEnd_j82 F ad (nI b)) (n + 1) (nI ws.length) r = _
    rw [m_X12_laysEnd_w2, hF, if_pos (nI_le (Nat.le_refl _) (by omega))]) fuelN 0 rows (Nat.zero_le _) (by rw [fuel_is]; omega) ⟨frM_refl, [], by rw [List.append_nil]; exact h, Nat.le_refl _, by
      by_cases c6 : s.testBit 6 = true
      · rw [if_pos c6]
      · rw [if_neg c6, List.nil_append]; rfl⟩
  have h5 : m_X12_laysEnd F rows ad (nI b) = m_X12_laysEnd_j82 F ad (nI b) r := h5
  obtain ⟨t, t1, t2, t3⟩ := r_fcf (n := 0) (x := 2) (y := 3) (p1 := 4) (p2 := 8) (K := some) h2 (by rw [List.length_append]; omega) (frM_s h1 hs) h7 hb (by decide) (by decide) rfl rfl
  refine ⟨t, ?_, ?_, frM_tr t3 h1⟩
  · rw [h5, m_X12_laysEnd_j82]; exact t1
  · unfold endA
    rw [← List.append_assoc]
    have hM : M = if s.testBit 6 = true then [] else endF (ws.map (fun q => q / 4)) 0 := by
      by_cases c6 : s.testBit 6 = true
      · rw [if_pos c6] at h4 ⊢; exact h4
      · rw [if_neg c6] at h4 ⊢
        rw [List.drop_length, List.map_nil, endM, List.append_nil] at h4
        rw [h4]
        refine (endF_is _ 0 [] (fun l hl => ?_) (fun l _ => ?_)).symm
        · obtain ⟨q, hq, rfl⟩ := List.mem_map.mp hl
          have := ha q hq
          omega
        · rw [Nat.zero_testBit]; simp
    rw [← hM]
    exact t2
