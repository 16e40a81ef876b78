/-! ===== plans: an op as a list of writes ===== -/
def upN (f : Nat → Nat) (a v : Nat) : Nat → Nat := fun j => if j = a then v else f j
abbrev PS : Type := (Nat → Nat) × List (Nat × Nat × Nat)
def wR (S : PS) (q : Nat × Nat) : PS := (upN S.1 q.1 q.2, S.2 ++ [(q.1, q.2, S.1 q.1)])
def wC (S : PS × Bool) (q : Nat × Nat) : PS × Bool := if S.1.2.length = 8 then (S.1, false) else (wR S.1 q, S.2)
/-- the first free block at k or behind it -/
def freeB (f : Nat → Nat) : Nat → Nat → Option Nat
  | 0, _ => none
  | n + 1, k => if f (24 + 4 * k) = 0 then some k else freeB f n (k + 1)
def leakL (f : Nat → Nat) : List (Nat × Nat) := ((List.range 10).filter (fun k => decide (¬ (leakA f >>> (nI k &&& 31)) &&& 1 = 0))).map (fun k => (24 + 4 * k, 0))
def opW (f : Nat → Nat) (o : Nat × Nat × Nat) : Option (List (Nat × Nat)) :=
  if o.1 = 0 then (match freeB f 10 0 with
    | none => none
    | some k => some [(24 + 4 * k, 1), (24 + 4 * k + 1, f (20 + o.2.1)), (24 + 4 * k + 2, o.2.2), (20 + o.2.1, 24 + 4 * k)])
  else if o.1 = 1 then (match blkOf f (f (20 + o.2.1)) with
    | none => none
    | some k => some [(20 + o.2.1, f (24 + 4 * k + 1)), (24 + 4 * k, 0)])
  else if o.1 = 2 then (match blkOf f (f (20 + o.2.1)) with
    | none => none
    | some k => some [(20 + o.2.1, f (24 + 4 * k + 1)), (24 + 4 * k + 1, upN f (20 + o.2.1) (f (24 + 4 * k + 1)) (20 + o.2.2)), (20 + o.2.2, 24 + 4 * k)])
  else if o.1 = 3 then some [(o.2.1, o.2.2)]
  else (if leakA f = 0 then none else some (leakL f))
/-- an op as it may be told -/
def opOK (o : Nat × Nat × Nat) : Prop := o.1 ≤ 4 ∧ (o.1 ≤ 2 → o.2.1 ≤ 3) ∧ (o.1 = 2 → o.2.2 ≤ 3) ∧ (o.1 = 3 → 20 ≤ o.2.1 ∧ o.2.1 < 64) ∧ o.2.1 ≤ 99 ∧ o.2.2 ≤ 99
theorem freeB_lt {f : Nat → Nat} : ∀ n k j, freeB f n k = some j → k ≤ j ∧ j < k + n := by
  intro n
  induction n with
  | zero => intro k j h; cases h
  | succ n ih =>
    intro k j h
    rw [freeB] at h
    by_cases c : f (24 + 4 * k) = 0
    · rw [if_pos c] at h; cases h; omega
    · rw [if_neg c] at h
      have := ih (k + 1) j h
      omega
theorem upN_le {f : Nat → Nat} {a v : Nat} (hf : ∀ w, w < 64 → f w ≤ 99) (hv : v ≤ 99) : ∀ w, w < 64 → upN f a v w ≤ 99 := by
  intro w hw
  unfold upN
  by_cases h : w = a
  · rw [if_pos h]; exact hv
  · rw [if_neg h]; exact hf w hw
/-- writes of an op lie in the heap, their numbers are small -/
theorem opW_ok {f : Nat → Nat} {o : Nat × Nat × Nat} {L : List (Nat × Nat)} (hf : ∀ w, w < 64 → f w ≤ 99) (ho : opOK o) (h : opW f o = some L) : ∀ q ∈ L, 20 ≤ q.1 ∧ q.1 < 64 ∧ q.2 ≤ 99 := by
  obtain ⟨h4, h2, h22, h3, hb1, hb2⟩ := ho
  unfold opW at h
  by_cases c0 : o.1 = 0
  · rw [if_pos c0] at h
    cases hk : freeB f 10 0 with
    | none => rw [hk] at h; cases h
    | some k =>
      rw [hk] at h
      cases h
      have hk2 := freeB_lt _ _ _ hk
      have := h2 (by omega)
      have hfv := hf (20 + o.2.1) (by omega)
      intro q hq
      simp only [List.mem_cons, List.not_mem_nil, or_false] at hq
      rcases hq with rfl | rfl | rfl | rfl
      · exact ⟨by show 20 ≤ 24 + 4 * k; omega, by show 24 + 4 * k < 64; omega, by show 1 ≤ 99; omega⟩
      · exact ⟨by show 20 ≤ 24 + 4 * k + 1; omega, by show 24 + 4 * k + 1 < 64; omega, hfv⟩
      · exact ⟨by show 20 ≤ 24 + 4 * k + 2; omega, by show 24 + 4 * k + 2 < 64; omega, hb2⟩
      · exact ⟨by show 20 ≤ 20 + o.2.1; omega, by show 20 + o.2.1 < 64; omega, by show 24 + 4 * k ≤ 99; omega⟩
  rw [if_neg c0] at h
  by_cases c1 : o.1 = 1
  · rw [if_pos c1] at h
    cases hk : blkOf f (f (20 + o.2.1)) with
    | none => rw [hk] at h; cases h
    | some k =>
      rw [hk] at h
      cases h
      obtain ⟨-, -, -, hk2⟩ := blkOf_some hk
      have := h2 (by omega)
      have hfv := hf (24 + 4 * k + 1) (by omega)
      intro q hq
      simp only [List.mem_cons, List.not_mem_nil, or_false] at hq
      rcases hq with rfl | rfl
      · exact ⟨by show 20 ≤ 20 + o.2.1; omega, by show 20 + o.2.1 < 64; omega, hfv⟩
      · exact ⟨by show 20 ≤ 24 + 4 * k; omega, by show 24 + 4 * k < 64; omega, by show 0 ≤ 99; omega⟩
  rw [if_neg c1] at h
  by_cases c2 : o.1 = 2
  · rw [if_pos c2] at h
    cases hk : blkOf f (f (20 + o.2.1)) with
    | none => rw [hk] at h; cases h
    | some k =>
      rw [hk] at h
      cases h
      obtain ⟨-, -, -, hk2⟩ := blkOf_some hk
      have := h2 (by omega)
      have h22 := h22 c2
      have hfv := hf (24 + 4 * k + 1) (by omega)
      have hfu := upN_le (a := 20 + o.2.1) hf hfv (20 + o.2.2) (by omega)
      intro q hq
      simp only [List.mem_cons, List.not_mem_nil, or_false] at hq
      rcases hq with rfl | rfl | rfl
      · exact ⟨by show 20 ≤ 20 + o.2.1; omega, by show 20 + o.2.1 < 64; omega, hfv⟩
      · exact ⟨by show 20 ≤ 24 + 4 * k + 1; omega, by show 24 + 4 * k + 1 < 64; omega, hfu⟩
      · exact ⟨by show 20 ≤ 20 + o.2.2; omega, by show 20 + o.2.2 < 64; omega, by show 24 + 4 * k ≤ 99; omega⟩
  rw [if_neg c2] at h
  by_cases c3 : o.1 = 3
  · rw [if_pos c3] at h
    cases h
    have := h3 c3
    intro q hq
    rw [List.mem_singleton.mp hq]
    exact ⟨this.1, this.2, hb2⟩
  rw [if_neg c3] at h
  by_cases c4 : leakA f = 0
  · rw [if_pos c4] at h; cases h
  · rw [if_neg c4] at h
    cases h
    intro q hq
    unfold leakL at hq
    obtain ⟨k, hk, rfl⟩ := List.mem_map.mp hq
    have := List.mem_range.mp (List.mem_filter.mp hk).1
    exact ⟨by show 20 ≤ 24 + 4 * k; omega, by show 24 + 4 * k < 64; omega, by show 0 ≤ 99; omega⟩
/-! ===== the class's planner ===== -/
def PC (F w ad nu ol : Nat → Int32) (S : PS × Bool) : Prop := F 4 = nI S.1.2.length ∧ S.1.2.length ≤ 8 ∧ F 5 = nI (if S.2 = true then 1 else 0) ∧ (∀ j, j < 64 → w j = nI (S.1.1 j)) ∧ (∀ j, j < 64 → S.1.1 j ≤ 99) ∧ ∀ k q, S.1.2[k]? = some q → ad k = nI q.1 ∧ nu k = nI q.2.1 ∧ ol k = nI q.2.2
theorem c_write {F w ad nu ol : Nat → Int32} {S : PS × Bool} {a v : Nat} (h : PC F w ad nu ol S) (ha : a < 64) (hv : v ≤ 99) : ∃ R, m_X5_write F w ad nu ol (nI a) (nI v) = some R ∧ PC R.1 R.2.1 R.2.2.1 R.2.2.2.1 R.2.2.2.2 (wC S (a, v)) := by
  obtain ⟨h1, h2, h3, h4, h5, h6⟩ := h
  rw [m_X5_write]
  unfold wC
  simp (disch := omega) only [lit32, h1, nI_eq]
  by_cases c : S.1.2.length = 8
  · rw [if_pos c, if_pos c]
    refine ⟨_, cb_0.trans rfl, ?_, h2, ?_, h4, h5, h6⟩
    · show upd F 5 (nI 0) 4 = _
      rw [upd_ne (by decide)]; exact h1
    · show upd F 5 (nI 0) 5 = _
      exact upd_eq
  · rw [if_neg c, if_neg c]
    simp (disch := omega) only [wr_nI, rd_nI, h4, nm, nI_add]
    refine ⟨_, rfl, ?_, ?_, ?_, fun j hj => ?_, upN_le h5 hv, fun k q hk => ?_⟩
    · show upd F 4 (nI (S.1.2.length + 1)) 4 = nI (S.1.2 ++ [(a, v, S.1.1 a)]).length
      rw [upd_eq, List.length_append, List.length_singleton]
    · show (S.1.2 ++ [(a, v, S.1.1 a)]).length ≤ 8
      rw [List.length_append, List.length_singleton]; omega
    · show upd F 4 (nI (S.1.2.length + 1)) 5 = _
      rw [upd_ne (by decide)]; exact h3
    · show upd w a (nI v) j = nI (upN S.1.1 a v j)
      unfold upN
      by_cases e : j = a
      · rw [e, upd_eq, if_pos rfl]
      · rw [upd_ne e, if_neg e]; exact h4 j hj
    · have hk : (S.1.2 ++ [(a, v, S.1.1 a)])[k]? = some q := hk
      show upd ad S.1.2.length (nI a) k = nI q.1 ∧ upd nu S.1.2.length (nI v) k = nI q.2.1 ∧ upd ol S.1.2.length (nI (S.1.1 a)) k = nI q.2.2
      by_cases e : k < S.1.2.length
      · rw [List.getElem?_append_left e] at hk
        rw [upd_ne (by omega), upd_ne (by omega), upd_ne (by omega)]
        exact h6 k q hk
      · rw [List.getElem?_append_right (by omega)] at hk
        have hz := (List.getElem?_eq_some_iff.mp hk).1
        rw [List.length_singleton] at hz
        have hke : k = S.1.2.length := by omega
        rw [hke, Nat.sub_self] at hk
        cases hk
        rw [hke, upd_eq, upd_eq, upd_eq]
        exact ⟨rfl, rfl, rfl⟩
theorem wC_words {S : PS × Bool} {q : Nat × Nat} : ∀ j, ¬ j = q.1 → (wC S q).1.1 j = S.1.1 j := by
  intro j hj
  unfold wC
  by_cases c : S.1.2.length = 8
  · rw [if_pos c]
  · rw [if_neg c]; exact if_neg hj
def failC (S : PS × Bool) : PS × Bool := (S.1, false)
def opC (S : PS × Bool) (o : Nat × Nat × Nat) : PS × Bool := match opW S.1.1 o with
  | none => (S.1, false)
  | some L => L.foldl wC S
theorem PC_fail {F w ad nu ol : Nat → Int32} {S : PS × Bool} (h : PC F w ad nu ol S) : PC (upd F 5 0) w ad nu ol (S.1, false) := by
  obtain ⟨h1, h2, h3, h4, h5, h6⟩ := h
  exact ⟨by rw [upd_ne (by decide)]; exact h1, h2, upd_eq, h4, h5, h6⟩
theorem wC_le {S : PS × Bool} {q : Nat × Nat} (h : ∀ j, j < 64 → S.1.1 j ≤ 99) (hq : q.2 ≤ 99) : ∀ j, j < 64 → (wC S q).1.1 j ≤ 99 := by
  unfold wC
  by_cases c : S.1.2.length = 8
  · rw [if_pos c]; exact h
  · rw [if_neg c]; exact upN_le h hq
theorem c_planNew_loop {F w ad nu ol : Nat → Int32} {S : PS × Bool} (h : PC F w ad nu ol S) {p1 p2 : Int32} {K : Int32 → (Nat → Int32) → (Nat → Int32) → (Nat → Int32) → (Nat → Int32) → (Nat → Int32) → Option ((Nat → Int32) × (Nat → Int32) × (Nat → Int32) × (Nat → Int32) × (Nat → Int32))} :
    ∀ (n k fuel : Nat), k + n = 10 → n < fuel → m_X5_planNew_w2 p1 p2 K fuel (nI k) F w ad nu ol = K (nI (match freeB S.1.1 n k with | some j => j | none => 10)) F w ad nu ol := by
  intro n
  induction n with
  | zero =>
    intro k fuel hk hf
    obtain ⟨fuel, rfl⟩ : ∃ d, fuel = d + 1 := ⟨fuel - 1, by omega⟩
    rw [m_X5_planNew_w2]
    simp (disch := omega) only [lit32, nI_leI, if_pos]
    rw [show k = 10 by omega]; rfl
  | succ n ih =>
    intro k fuel hk hf
    obtain ⟨fuel, rfl⟩ : ∃ d, fuel = d + 1 := ⟨fuel - 1, by omega⟩
    rw [m_X5_planNew_w2, freeB]
    have eb : m_X11_blockAddress (nI k) = some (nI (24 + 4 * k)) := by
      rw [m_X11_blockAddress]; simp only [lit32, nI_mulE, nI_add]; rw [Nat.mul_comm]
    have hw := h.2.2.2.1 (24 + 4 * k) (by omega)
    have hle := h.2.2.2.2.1 (24 + 4 * k) (by omega)
    simp (disch := omega) only [lit32, nI_leI, if_neg, Nat.not_le, eb, bd, Option.bind_some, rd_nI, hw, nI_eq]
    by_cases c : S.1.1 (24 + 4 * k) = 0
    · rw [if_pos c, if_pos c]
    · rw [if_neg c, if_neg c]
      simp only [nm, nI_add]
      exact ih (k + 1) fuel (by omega) (by omega)
theorem opC_of {S : PS × Bool} {o : Nat × Nat × Nat} {L : List (Nat × Nat)} (h : opW S.1.1 o = some L) : opC S o = L.foldl wC S := by
  unfold opC; rw [h]
theorem opC_no {S : PS × Bool} {o : Nat × Nat × Nat} (h : opW S.1.1 o = none) : opC S o = (S.1, false) := by
  unfold opC; rw [h]
theorem opW_0n {f : Nat → Nat} {one other : Nat} (h : freeB f 10 0 = none) : opW f (0, one, other) = none := by
  unfold opW; rw [if_pos rfl, h]
theorem opW_0 {f : Nat → Nat} {one other k : Nat} (h : freeB f 10 0 = some k) : opW f (0, one, other) = some [(24 + 4 * k, 1), (24 + 4 * k + 1, f (20 + one)), (24 + 4 * k + 2, other), (20 + one, 24 + 4 * k)] := by
  unfold opW; rw [if_pos rfl, h]
theorem opW_1n {f : Nat → Nat} {one other : Nat} (h : blkOf f (f (20 + one)) = none) : opW f (1, one, other) = none := by
  unfold opW; rw [if_neg (Nat.succ_ne_zero 0), if_pos rfl, h]
theorem opW_1 {f : Nat → Nat} {one other k : Nat} (h : blkOf f (f (20 + one)) = some k) : opW f (1, one, other) = some [(20 + one, f (24 + 4 * k + 1)), (24 + 4 * k, 0)] := by
  unfold opW; rw [if_neg (Nat.succ_ne_zero 0), if_pos rfl, h]
theorem opW_2n {f : Nat → Nat} {one other : Nat} (h : blkOf f (f (20 + one)) = none) : opW f (2, one, other) = none := by
  unfold opW; rw [if_neg (Nat.succ_ne_zero 1), if_neg (show ¬ 2 = 1 by decide), if_pos rfl, h]
theorem opW_2 {f : Nat → Nat} {one other k : Nat} (h : blkOf f (f (20 + one)) = some k) : opW f (2, one, other) = some [(20 + one, f (24 + 4 * k + 1)), (24 + 4 * k + 1, upN f (20 + one) (f (24 + 4 * k + 1)) (20 + other)), (20 + other, 24 + 4 * k)] := by
  unfold opW; rw [if_neg (Nat.succ_ne_zero 1), if_neg (show ¬ 2 = 1 by decide), if_pos rfl, h]
theorem opW_3 {f : Nat → Nat} {one other : Nat} : opW f (3, one, other) = some [(one, other)] := rfl
theorem opW_4n {f : Nat → Nat} {one other : Nat} (h : leakA f = 0) : opW f (4, one, other) = none := if_pos h
theorem opW_4 {f : Nat → Nat} {one other : Nat} (h : ¬ leakA f = 0) : opW f (4, one, other) = some (leakL f) := if_neg h
theorem wC_full {S : PS × Bool} {q : Nat × Nat} (h : S.1.2.length = 8) : wC S q = (S.1, false) := if_pos h
theorem c_planNew {F w ad nu ol : Nat → Int32} {S : PS × Bool} {one other : Nat} (h : PC F w ad nu ol S) (h1 : one ≤ 3) (h2 : other ≤ 99) : ∃ R, m_X5_planNew F w ad nu ol (nI one) (nI other) = some R ∧ PC R.1 R.2.1 R.2.2.1 R.2.2.2.1 R.2.2.2.2 (opC S (0, one, other)) := by
  rw [m_X5_planNew, show (0 : Int32) = nI 0 from rfl, c_planNew_loop h 10 0 fuelN rfl (by rw [fuel_is]; decide), m_X5_planNew_j26]
  cases hk : freeB S.1.1 10 0 with
  | none =>
    rw [opC_no (opW_0n hk)]
    simp only [lit32, if_true]
    exact ⟨_, cb_0.trans rfl, PC_fail h⟩
  | some k =>
    rw [opC_of (opW_0 hk)]
    have hk2 := freeB_lt _ _ _ hk
    have eb : m_X11_blockAddress (nI k) = some (nI (24 + 4 * k)) := by
      rw [m_X11_blockAddress]; simp only [lit32, nI_mulE, nI_add]; rw [Nat.mul_comm]
    obtain ⟨R1, a1, b1⟩ := c_write (a := 24 + 4 * k) (v := 1) h (by omega) (by omega)
    have e1 : R1.2.1 (20 + one) = nI (S.1.1 (20 + one)) := by
      rw [b1.2.2.2.1 (20 + one) (by omega), wC_words _ (by show ¬ 20 + one = 24 + 4 * k; omega)]
    have hl1 := h.2.2.2.2.1 (20 + one) (by omega)
    obtain ⟨R2, a2, b2⟩ := c_write (a := 24 + 4 * k + 1) (v := S.1.1 (20 + one)) b1 (by omega) hl1
    obtain ⟨R3, a3, b3⟩ := c_write (a := 24 + 4 * k + 2) (v := other) b2 (by omega) h2
    obtain ⟨R4, a4, b4⟩ := c_write (a := 20 + one) (v := 24 + 4 * k) b3 (by omega) (by omega)
    simp (disch := omega) only [lit32, nI_eq, if_neg, eb, bd, Option.bind_some, a1, nI_add, rd_nI, e1, a2, a3, a4]
    exact ⟨_, rfl, b4⟩
theorem c_planDrop {F w ad nu ol : Nat → Int32} {S : PS × Bool} {one other : Nat} (h : PC F w ad nu ol S) (h1 : one ≤ 3) : ∃ R, m_X5_planDrop F w ad nu ol (nI one) = some R ∧ PC R.1 R.2.1 R.2.2.1 R.2.2.2.1 R.2.2.2.2 (opC S (1, one, other)) := by
  rw [m_X5_planDrop]
  have e0 := h.2.2.2.1 (20 + one) (by omega)
  have l0 := h.2.2.2.2.1 (20 + one) (by omega)
  simp (disch := omega) only [lit32, nI_add, rd_nI, e0, c_isBlk, bd, Option.bind_some]
  by_cases hb : 24 ≤ S.1.1 (20 + one) ∧ S.1.1 (20 + one) < 64 ∧ S.1.1 (20 + one) % 4 = 0
  · have e1 := h.2.2.2.1 (S.1.1 (20 + one)) (by omega)
    have l1 := h.2.2.2.2.1 (S.1.1 (20 + one)) (by omega)
    simp (disch := omega) only [if_pos hb, nI_eq, if_neg, rd_nI, e1]
    by_cases hw : S.1.1 (S.1.1 (20 + one)) = 1
    · have ek : blkOf S.1.1 (S.1.1 (20 + one)) = some ((S.1.1 (20 + one) - 24) / 4) := if_pos ⟨hb, hw⟩
      have hkk : 24 + 4 * ((S.1.1 (20 + one) - 24) / 4) = S.1.1 (20 + one) := by omega
      have e2 := h.2.2.2.1 (S.1.1 (20 + one) + 1) (by omega)
      have l2 := h.2.2.2.2.1 (S.1.1 (20 + one) + 1) (by omega)
      obtain ⟨R1, a1, b1⟩ := c_write (a := 20 + one) (v := S.1.1 (S.1.1 (20 + one) + 1)) h (by omega) l2
      obtain ⟨R2, a2, b2⟩ := c_write (a := S.1.1 (20 + one)) (v := 0) b1 (by omega) (by omega)
      rw [opC_of (opW_1 ek), hkk]
      simp (disch := omega) only [if_pos hw, nI_add, rd_nI, e2, a1, a2, bd, Option.bind_some]
      exact ⟨_, rfl, b2⟩
    · rw [if_neg hw, opC_no (opW_1n (show blkOf S.1.1 (S.1.1 (20 + one)) = none from if_neg (fun q => hw q.2)))]
      exact ⟨_, cb_0.trans rfl, PC_fail h⟩
  · rw [opC_no (opW_1n (show blkOf S.1.1 (S.1.1 (20 + one)) = none from if_neg (fun q => hb q.1)))]
    simp (disch := omega) only [if_neg hb, if_true]
    exact ⟨_, cb_0.trans rfl, PC_fail h⟩
theorem c_planMove {F w ad nu ol : Nat → Int32} {S : PS × Bool} {one other : Nat} (h : PC F w ad nu ol S) (h1 : one ≤ 3) (h2 : other ≤ 3) : ∃ R, m_X5_planMove F w ad nu ol (nI one) (nI other) = some R ∧ PC R.1 R.2.1 R.2.2.1 R.2.2.2.1 R.2.2.2.2 (opC S (2, one, other)) := by
  rw [m_X5_planMove]
  have e0 := h.2.2.2.1 (20 + one) (by omega)
  have l0 := h.2.2.2.2.1 (20 + one) (by omega)
  simp (disch := omega) only [lit32, nI_add, rd_nI, e0, c_isBlk, bd, Option.bind_some]
  by_cases hb : 24 ≤ S.1.1 (20 + one) ∧ S.1.1 (20 + one) < 64 ∧ S.1.1 (20 + one) % 4 = 0
  · have e1 := h.2.2.2.1 (S.1.1 (20 + one)) (by omega)
    have l1 := h.2.2.2.2.1 (S.1.1 (20 + one)) (by omega)
    simp (disch := omega) only [if_pos hb, nI_eq, if_neg, rd_nI, e1]
    by_cases hw : S.1.1 (S.1.1 (20 + one)) = 1
    · have ek : blkOf S.1.1 (S.1.1 (20 + one)) = some ((S.1.1 (20 + one) - 24) / 4) := if_pos ⟨hb, hw⟩
      have hkk : 24 + 4 * ((S.1.1 (20 + one) - 24) / 4) = S.1.1 (20 + one) := by omega
      have e2 := h.2.2.2.1 (S.1.1 (20 + one) + 1) (by omega)
      have l2 := h.2.2.2.2.1 (S.1.1 (20 + one) + 1) (by omega)
      obtain ⟨R1, a1, b1⟩ := c_write (a := 20 + one) (v := S.1.1 (S.1.1 (20 + one) + 1)) h (by omega) l2
      have e3 := b1.2.2.2.1 (20 + other) (by omega)
      have l3 := b1.2.2.2.2.1 (20 + other) (by omega)
      obtain ⟨R2, a2, b2⟩ := c_write (a := S.1.1 (20 + one) + 1) (v := (wC S (20 + one, S.1.1 (S.1.1 (20 + one) + 1))).1.1 (20 + other)) b1 (by omega) l3
      obtain ⟨R3, a3, b3⟩ := c_write (a := 20 + other) (v := S.1.1 (20 + one)) b2 (by omega) l0
      rw [opC_of (opW_2 ek), hkk]
      simp (disch := omega) only [if_pos hw, nI_add, rd_nI, e2, a1, e3, a2, a3, bd, Option.bind_some]
      refine ⟨_, rfl, ?_⟩
      have es : wC (wC (wC S (20 + one, S.1.1 (S.1.1 (20 + one) + 1))) (S.1.1 (20 + one) + 1, (wC S (20 + one, S.1.1 (S.1.1 (20 + one) + 1))).1.1 (20 + other))) (20 + other, S.1.1 (20 + one)) = [(20 + one, S.1.1 (S.1.1 (20 + one) + 1)), (S.1.1 (20 + one) + 1, upN S.1.1 (20 + one) (S.1.1 (S.1.1 (20 + one) + 1)) (20 + other)), (20 + other, S.1.1 (20 + one))].foldl wC S := by
        show _ = wC (wC (wC S (20 + one, S.1.1 (S.1.1 (20 + one) + 1))) (S.1.1 (20 + one) + 1, upN S.1.1 (20 + one) (S.1.1 (S.1.1 (20 + one) + 1)) (20 + other))) (20 + other, S.1.1 (20 + one))
        by_cases c : S.1.2.length = 8
        · simp only [wC_full c, wC_full (S := (S.1, false)) c]
        · have : wC S (20 + one, S.1.1 (S.1.1 (20 + one) + 1)) = (wR S.1 (20 + one, S.1.1 (S.1.1 (20 + one) + 1)), S.2) := if_neg c
          rw [this]; rfl
      rw [← es]
      exact b3
    · rw [if_neg hw, opC_no (opW_2n (show blkOf S.1.1 (S.1.1 (20 + one)) = none from if_neg (fun q => hw q.2)))]
      exact ⟨_, cb_0.trans rfl, PC_fail h⟩
  · rw [opC_no (opW_2n (show blkOf S.1.1 (S.1.1 (20 + one)) = none from if_neg (fun q => hb q.1)))]
    simp (disch := omega) only [if_neg hb, if_true]
    exact ⟨_, cb_0.trans rfl, PC_fail h⟩
theorem wC_keeps {q : List (Nat × Nat)} : ∀ S : PS × Bool, (∀ p ∈ q, p.1 < 64 ∧ p.2 ≤ 99) → (∀ j, j < 64 → S.1.1 j ≤ 99) → ∀ j, j < 64 → (q.foldl wC S).1.1 j ≤ 99 := by
  induction q with
  | nil => intro S _ h; exact h
  | cons a t ih => intro S h1 h2; exact ih (wC S a) (fun p hp => h1 p (List.mem_cons_of_mem _ hp)) (wC_le h2 (h1 a List.mem_cons_self).2)
/-- the leaked blocks from k on -/
def leakF (g : Int32) (n k : Nat) : List (Nat × Nat) := match n with
  | 0 => []
  | n + 1 => if (g >>> (nI k &&& 31)) &&& 1 = 0 then leakF g n (k + 1) else (24 + 4 * k, 0) :: leakF g n (k + 1)
theorem c_sweep_loop {sh : Nat → Int32} : ∀ (n k fuel : Nat) (F w ad nu ol : Nat → Int32) (S : PS × Bool), k + n = 10 → n < fuel → PC F w ad nu ol S → ∃ R, m_X5_planSweep_w29 fuel (nI k) F sh w ad nu ol = some R ∧ R.2.1 = sh ∧ PC R.1 R.2.2.1 R.2.2.2.1 R.2.2.2.2.1 R.2.2.2.2.2 ((leakF (sh 1) n k).foldl wC S) := by
  intro n
  induction n with
  | zero =>
    intro k fuel F w ad nu ol S hk hf h
    obtain ⟨fuel, rfl⟩ : ∃ d, fuel = d + 1 := ⟨fuel - 1, by omega⟩
    rw [m_X5_planSweep_w29]
    simp (disch := omega) only [lit32, nI_leI, if_pos]
    exact ⟨_, rfl, rfl, h⟩
  | succ n ih =>
    intro k fuel F w ad nu ol S hk hf h
    obtain ⟨fuel, rfl⟩ : ∃ d, fuel = d + 1 := ⟨fuel - 1, by omega⟩
    rw [m_X5_planSweep_w29, leakF]
    have eb : m_X11_blockAddress (nI k) = some (nI (24 + 4 * k)) := by
      rw [m_X11_blockAddress]; simp only [lit32, nI_mulE, nI_add]; rw [Nat.mul_comm]
    rw [if_neg (show ¬ (10 : Int32) ≤ nI k from nI_ge (a := k) (b := 10) (by omega) (by decide))]
    by_cases c : ((sh 1) >>> (nI k &&& 31)) &&& 1 = 0
    · rw [if_pos c, if_pos c, m_X5_planSweep_j58]
      simp only [nm, lit32, nI_add]
      exact ih (k + 1) fuel F w ad nu ol S (by omega) (by omega) h
    · rw [if_neg c, if_neg c]
      obtain ⟨R1, a1, b1⟩ := c_write (a := 24 + 4 * k) (v := 0) h (by omega) (by omega)
      have a1 : m_X5_write F w ad nu ol (nI (24 + 4 * k)) 0 = some R1 := a1
      rw [eb, bd_ok rfl, bd_ok a1, m_X5_planSweep_j58]
      simp only [nm, lit32, nI_add]
      exact ih (k + 1) fuel _ _ _ _ _ _ (by omega) (by omega) b1
theorem leakF_is (g : Int32) : leakF g 10 0 = ((List.range 10).filter (fun k => decide (¬ (g >>> (nI k &&& 31)) &&& 1 = 0))).map (fun k => (24 + 4 * k, 0)) := by
  have h : ∀ n k, leakF g n k = ((List.range' k n).filter (fun k => decide (¬ (g >>> (nI k &&& 31)) &&& 1 = 0))).map (fun k => (24 + 4 * k, 0)) := by
    intro n
    induction n with
    | zero => intro k; rfl
    | succ n ih =>
      intro k
      rw [leakF, List.range'_succ, List.filter_cons, ih (k + 1)]
      by_cases c : (g >>> (nI k &&& 31)) &&& 1 = 0
      · rw [if_pos c, if_neg (by simp only [decide_eq_true_eq]; exact fun q => q c)]
      · rw [if_neg c, if_pos (by simp only [decide_eq_true_eq]; exact c)]; rfl
  rw [h 10 0, List.range_eq_range']
theorem c_planSweep {F sh w ad nu ol : Nat → Int32} {S : PS × Bool} {one other : Nat} (h : PC F w ad nu ol S) : ∃ R, m_X5_planSweep F sh w ad nu ol = some R ∧ PC R.1 R.2.2.1 R.2.2.2.1 R.2.2.2.2.1 R.2.2.2.2.2 (opC S (4, one, other)) := by
  obtain ⟨F', a1, -, a3, -⟩ := c_survey h.2.2.2.1 h.2.2.2.2.1 sh
  rw [m_X5_planSweep, bd_ok a1, a3]
  by_cases c : leakA S.1.1 = 0
  · rw [if_pos c, opC_no (opW_4n c)]
    exact ⟨_, cb_0.trans rfl, PC_fail h⟩
  · rw [if_neg c, opC_of (opW_4 c)]
    obtain ⟨R, r1, -, r3⟩ := c_sweep_loop (sh := F') 10 0 fuelN F w ad nu ol S rfl (by rw [fuel_is]; decide) h
    refine ⟨R, r1, ?_⟩
    rw [a3, leakF_is] at r3
    exact r3
