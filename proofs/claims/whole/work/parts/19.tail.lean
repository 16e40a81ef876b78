/-! ===== worlds by their members: any order, a part that nobody opens ===== -/
theorem va_P_iff {D : va_G} {cl : List vw_C} {ws : va_W} {H : Heap} : va_P D cl ws H ↔ ∀ q ∈ ws, va_at D cl q H := by
  constructor
  · intro h q hq
    obtain ⟨k, hk⟩ := List.mem_iff_getElem?.mp hq
    exact h k q hk
  · intro h k q hk
    exact h q (List.mem_of_getElem? hk)
theorem va_D_iff {A : Nat → Prop} {ws : va_W} : va_D A ws ↔ (ws.map Prod.fst).Nodup ∧ ∀ q ∈ ws, A q.1 := by
  constructor
  · intro h
    refine ⟨?_, fun q hq => ?_⟩
    · rw [List.Nodup, List.pairwise_iff_getElem]
      intro i j hi hj hij he
      rw [List.length_map] at hi hj
      rw [List.getElem_map, List.getElem_map] at he
      have := h.1 i j ws[i] ws[j] (List.getElem?_eq_getElem hi) (List.getElem?_eq_getElem hj) he
      omega
    · obtain ⟨k, hk⟩ := List.mem_iff_getElem?.mp hq
      exact h.2 k q hk
  · intro h
    refine ⟨fun i j p q hi hj he => ?_, fun k q hk => h.2 q (List.mem_of_getElem? hk)⟩
    obtain ⟨hi1, hi2⟩ := List.getElem?_eq_some_iff.mp hi
    obtain ⟨hj1, hj2⟩ := List.getElem?_eq_some_iff.mp hj
    have hn := List.pairwise_iff_getElem.mp h.1
    rcases Nat.lt_trichotomy i j with c | c | c
    · exact absurd (by rw [List.getElem_map, List.getElem_map, hi2, hj2]; exact he) (hn i j (by rw [List.length_map]; exact hi1) (by rw [List.length_map]; exact hj1) c)
    · exact c
    · exact absurd (by rw [List.getElem_map, List.getElem_map, hi2, hj2]; exact he.symm) (hn j i (by rw [List.length_map]; exact hj1) (by rw [List.length_map]; exact hi1) c)
theorem va_P_perm {D : va_G} {cl : List vw_C} {ws ws1 : va_W} {H : Heap} (hp : ws.Perm ws1) (h : va_P D cl ws H) : va_P D cl ws1 H := va_P_iff.mpr (fun q hq => va_P_iff.mp h q (hp.mem_iff.mpr hq))
theorem va_D_perm {A : Nat → Prop} {ws ws1 : va_W} (hp : ws.Perm ws1) (h : va_D A ws) : va_D A ws1 := by
  obtain ⟨h1, h2⟩ := va_D_iff.mp h
  exact va_D_iff.mpr ⟨(hp.map Prod.fst).nodup_iff.mp h1, fun q hq => h2 q (hp.mem_iff.mpr hq)⟩
/-- the frame rule: what a callee had is changed, the rest stays -/
theorem z_fr {D : va_G} {A : Nat → Prop} {ws wc fr w1 ws1 : va_W} {H H1 : Heap} (hP : va_P D vwCl ws H) (hD : va_D A ws) (hp : ws.Perm (wc ++ fr)) (hk : ∀ q : Nat, q < H.size → ¬ va_A wc H.size q → H1[q]? = H[q]?) (hF : ∀ q, va_A wc H.size q → A q) (hB : va_P D vwCl w1 H1 ∧ va_D (va_A wc H.size) w1) (hp1 : ws1.Perm (w1 ++ fr)) : va_P D vwCl ws1 H1 ∧ va_D A ws1 := by
  have hP' := va_P_perm hp hP
  have hD' := va_D_perm hp hD
  obtain ⟨n1, m1⟩ := va_D_iff.mp hD'
  obtain ⟨n2, m2⟩ := va_D_iff.mp hB.2
  have hfr : ∀ q ∈ fr, ¬ va_A wc H.size q.1 := by
    intro q hq h
    rcases h with ⟨k, e, h⟩ | h
    · rw [List.map_append, List.nodup_append] at n1
      exact n1.2.2 q.1 (List.mem_map.mpr ⟨(q.1, e), List.mem_of_getElem? h, rfl⟩) q.1 (List.mem_map.mpr ⟨q, hq, rfl⟩) rfl
    · have := (va_P_iff.mp hP' q (List.mem_append_right _ hq)).lt
      omega
  have hlt : ∀ q ∈ fr, q.1 < H.size := fun q hq => (va_P_iff.mp hP' q (List.mem_append_right _ hq)).lt
  have a1 : va_P D vwCl (w1 ++ fr) H1 := by
    refine va_P_iff.mpr (fun q hq => ?_)
    rcases List.mem_append.mp hq with h | h
    · exact va_P_iff.mp hB.1 q h
    · exact (va_P_iff.mp hP' q (List.mem_append_right _ h)).kept (hk q.1 (hlt q h) (hfr q h))
  have a2 : va_D A (w1 ++ fr) := by
    refine va_D_iff.mpr ⟨?_, fun q hq => ?_⟩
    · rw [List.map_append, List.nodup_append] at n1 ⊢
      refine ⟨n2, n1.2.1, fun a ha b hb e => ?_⟩
      obtain ⟨qa, hqa, rfl⟩ := List.mem_map.mp ha
      obtain ⟨qb, hqb, rfl⟩ := List.mem_map.mp hb
      exact hfr qb hqb (by rw [← e]; exact m2 qa hqa)
    · rcases List.mem_append.mp hq with h | h
      · exact hF _ (m2 q h)
      · exact m1 q (List.mem_append_right _ h)
  exact ⟨va_P_perm hp1.symm a1, va_D_perm hp1.symm a2⟩
theorem z_frA {A : Nat → Prop} {ws wc fr : va_W} {H0 H : Heap} {locs : List Loc} (hD : va_D A ws) (hS : va_S A H0 H locs) (hA : ∀ q, H0.size ≤ q → A q) (hp : ws.Perm (wc ++ fr)) : ∀ q, va_A wc H.size q → A q := by
  intro q h
  rcases h with ⟨k, e, h⟩ | h
  · exact (va_D_iff.mp hD).2 (q, e) (hp.mem_iff.mpr (List.mem_append_left _ (List.mem_of_getElem? h)))
  · exact hA q (Nat.le_trans hS.1 h)
theorem perm_idx {α : Type} {ws ws1 : List α} (idx : List Nat) (h : idx.isPerm (List.range ws.length) = true) (hm : idx.map (fun i => ws[i]?) = ws1.map some) : ws.Perm ws1 := by
  have h1 : idx.Perm (List.range ws.length) := List.isPerm_iff.mp h
  have h2 : (idx.map (fun i => ws[i]?)).Perm ((List.range ws.length).map (fun i => ws[i]?)) := h1.map _
  have h3 : (List.range ws.length).map (fun i => ws[i]?) = ws.map some := by
    apply List.ext_getElem?
    intro i
    by_cases hi : i < ws.length
    · simp [hi]
    · simp [hi]
  rw [hm, h3] at h2
  have h4 := h2.filterMap id
  rw [List.filterMap_map, List.filterMap_map] at h4
  simpa [Function.comp_def] using h4.symm
