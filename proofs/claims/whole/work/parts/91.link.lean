/-! ===== a transaction: both planners agree ===== -/
def runR : List (Nat × Nat × Nat) → PS → Option PS
  | [], S => some S
  | o :: t, S => match opW S.1 o with
    | none => none
    | some L => runR t (L.foldl wR S)
theorem wC_fold_ok : ∀ (L : List (Nat × Nat)) (S : PS) (b : Bool), S.2.length + L.length ≤ 8 → L.foldl wC (S, b) = (L.foldl wR S, b) := by
  intro L
  induction L with
  | nil => intro S b _; rfl
  | cons a t ih =>
    intro S b h
    rw [List.length_cons] at h
    show t.foldl wC (wC (S, b) a) = (t.foldl wR (wR S a), b)
    rw [show wC (S, b) a = (wR S a, b) from if_neg (by show ¬ S.2.length = 8; omega)]
    exact ih (wR S a) b (by rw [wR_len]; omega)
theorem wC_fold_false : ∀ (L : List (Nat × Nat)) (C : PS × Bool), C.2 = false → (L.foldl wC C).2 = false := by
  intro L
  induction L with
  | nil => intro C h; exact h
  | cons a t ih =>
    intro C h
    refine ih (wC C a) ?_
    unfold wC
    by_cases c : C.1.2.length = 8
    · rw [if_pos c]
    · rw [if_neg c]; exact h
theorem wC_fold_over : ∀ (L : List (Nat × Nat)) (S : PS) (b : Bool), S.2.length ≤ 8 → 8 < S.2.length + L.length → (L.foldl wC (S, b)).2 = false := by
  intro L
  induction L with
  | nil => intro S b h1 h2; rw [List.length_nil] at h2; omega
  | cons a t ih =>
    intro S b h1 h2
    rw [List.length_cons] at h2
    show (t.foldl wC (wC (S, b) a)).2 = false
    by_cases c : S.2.length = 8
    · rw [show wC (S, b) a = (S, false) from if_pos c]
      exact wC_fold_false t _ rfl
    · rw [show wC (S, b) a = (wR S a, b) from if_neg c]
      exact ih (wR S a) b (by rw [wR_len]; omega) (by rw [wR_len]; omega)
theorem opC_false {C : PS × Bool} {o : Nat × Nat × Nat} (h : C.2 = false) : (opC C o).2 = false := by
  unfold opC
  cases opW C.1.1 o with
  | none => rfl
  | some L => exact wC_fold_false L C h
theorem fold_false : ∀ (ops : List (Nat × Nat × Nat)) (C : PS × Bool), C.2 = false → (ops.foldl opC C).2 = false := by
  intro ops
  induction ops with
  | nil => intro C h; exact h
  | cons o t ih => intro C h; exact ih (opC C o) (opC_false h)
theorem runR_grows : ∀ (ops : List (Nat × Nat × Nat)) (S S' : PS), runR ops S = some S' → S.2.length ≤ S'.2.length := by
  intro ops
  induction ops with
  | nil => intro S S' h; cases h; exact Nat.le_refl _
  | cons o t ih =>
    intro S S' h
    rw [runR] at h
    cases hw : opW S.1 o with
    | none => rw [hw] at h; cases h
    | some L =>
      rw [hw] at h
      have := ih _ _ h
      rw [wR_fold_len] at this
      omega
/-- sound by the class: the reference's writes, at most eight -/
theorem plan_link : ∀ (ops : List (Nat × Nat × Nat)) (S : PS), S.2.length ≤ 8 → (∀ S', runR ops S = some S' → S'.2.length ≤ 8 → ops.foldl opC (S, true) = (S', true)) ∧ ((runR ops S = none ∨ ∃ S', runR ops S = some S' ∧ 8 < S'.2.length) → (ops.foldl opC (S, true)).2 = false) := by
  intro ops
  induction ops with
  | nil =>
    intro S h
    refine ⟨fun S' h1 _ => by cases h1; rfl, fun h1 => ?_⟩
    rcases h1 with h1 | ⟨S', h1, h2⟩
    · cases h1
    · cases h1; omega
  | cons o t ih =>
    intro S h
    have ho : ∀ L, opW S.1 o = some L → opC (S, true) o = L.foldl wC (S, true) := fun L hw => opC_of (S := (S, true)) hw
    have hn : opW S.1 o = none → opC (S, true) o = (S, false) := fun hw => opC_no (S := (S, true)) hw
    show (∀ S', runR (o :: t) S = some S' → S'.2.length ≤ 8 → t.foldl opC (opC (S, true) o) = (S', true)) ∧ ((runR (o :: t) S = none ∨ ∃ S', runR (o :: t) S = some S' ∧ 8 < S'.2.length) → (t.foldl opC (opC (S, true) o)).2 = false)
    rw [runR]
    cases hw : opW S.1 o with
    | none =>
      rw [hn hw]
      exact ⟨fun S' h1 => (by cases h1), fun _ => fold_false t _ rfl⟩
    | some L =>
      rw [ho L hw]
      by_cases c : S.2.length + L.length ≤ 8
      · rw [wC_fold_ok L S true c]
        exact ih (L.foldl wR S) (by rw [wR_fold_len]; exact c)
      · refine ⟨fun S' h1 h2 => ?_, fun _ => fold_false t _ (wC_fold_over L S true h (by omega))⟩
        have := runR_grows _ _ _ h1
        rw [wR_fold_len] at this
        omega
theorem opW_len {f : Nat → Nat} {o : Nat × Nat × Nat} {L : List (Nat × Nat)} (h : opW f o = some L) : L.length ≤ 10 := by
  unfold opW at h
  by_cases c0 : o.1 = 0
  · rw [if_pos c0] at h
    cases hk : freeB f 10 0 with
    | none => rw [hk] at h; cases h
    | some k => rw [hk] at h; cases h; show 4 ≤ 10; omega
  rw [if_neg c0] at h
  by_cases c1 : o.1 = 1
  · rw [if_pos c1] at h
    cases hk : blkOf f (f (20 + o.2.1)) with
    | none => rw [hk] at h; cases h
    | some k => rw [hk] at h; cases h; show 2 ≤ 10; omega
  rw [if_neg c1] at h
  by_cases c2 : o.1 = 2
  · rw [if_pos c2] at h
    cases hk : blkOf f (f (20 + o.2.1)) with
    | none => rw [hk] at h; cases h
    | some k => rw [hk] at h; cases h; show 3 ≤ 10; omega
  rw [if_neg c2] at h
  by_cases c3 : o.1 = 3
  · rw [if_pos c3] at h; cases h; show 1 ≤ 10; omega
  rw [if_neg c3] at h
  by_cases c4 : leakA f = 0
  · rw [if_pos c4] at h; cases h
  · rw [if_neg c4] at h
    cases h
    unfold leakL
    rw [List.length_map]
    exact Nat.le_trans (List.length_filter_le _ _) (by rw [List.length_range]; exact Nat.le_refl _)
/-- a transaction that waits, as the reference has it from the place p on -/
def rOps (rows : Nat → Int32) (p : Nat) (ops : List (Nat × Nat × Nat)) : Prop := ops.length ≤ 4 ∧ (∀ o ∈ ops, opOK o) ∧ rows p = nI ops.length ∧ ∀ j o, ops[j]? = some o → rows (p + 3 * j + 1) = nI o.1 ∧ (o.1 ≤ 3 → rows (p + 3 * j + 2) = nI o.2.1) ∧ (o.1 = 0 ∨ o.1 = 2 ∨ o.1 = 3 → rows (p + 3 * j + 3) = nI o.2.2)
theorem wR_le {S : PS} {q : List (Nat × Nat)} : ∀ S : PS, (∀ p ∈ q, p.1 < 64 ∧ p.2 ≤ 99) → (∀ j, j < 64 → S.1 j ≤ 99) → ∀ j, j < 64 → (q.foldl wR S).1 j ≤ 99 := by
  induction q with
  | nil => intro S _ h; exact h
  | cons a t ih => intro S h1 h2; exact ih (wR S a) (fun p hp => h1 p (List.mem_cons_of_mem _ hp)) (upN_le h2 (h1 a List.mem_cons_self).2)
theorem r_written_loop {rows : Nat → Int32} {p : Nat} {ops : List (Nat × Nat × Nat)} (hR : rOps rows p ops) (hp : p + 13 ≤ 66100) {p1 : Int32} {K : Int32 → (Nat → Int32) → (Nat → Int32) → (Nat → Int32) → (Nat → Int32) → Option (Int32 × (Nat → Int32) × (Nat → Int32) × (Nat → Int32) × (Nat → Int32))} :
    ∀ (n k : Nat) (F w ad nu : Nat → Int32) (S : PS), k ≤ ops.length → ops.length - k < n → S.2.length ≤ 10 * k → PR F w ad nu S →
      ∃ x F' w' ad' nu', m_X12_isWritten_w21 rows p1 K n (nI p) 1 (nI k) F w ad nu = K x F' w' ad' nu' ∧ frF F' F ∧ (match runR (ops.drop k) S with | none => x = 0 | some S' => x = 1 ∧ PR F' w' ad' nu' S') := by
  obtain ⟨h4, hok, hlen, hrow⟩ := hR
  intro n
  induction n with
  | zero => intro k F w ad nu S h1 h2; omega
  | succ n ih =>
    intro k F w ad nu S h1 h2 h3 hPR
    rw [m_X12_isWritten_w21, rd_nI (by omega) (by decide), hlen]
    by_cases c : ops.length ≤ k
    · rw [if_pos (nI_le c (by omega)), List.drop_eq_nil_of_le c]
      exact ⟨1, F, w, ad, nu, rfl, fun _ _ => rfl, rfl, hPR⟩
    · have hk : k < ops.length := by omega
      have hq : ops[k]? = some ops[k] := List.getElem?_eq_getElem hk
      have hoo := hok _ (List.getElem_mem hk)
      rw [List.drop_eq_getElem_cons hk]
      generalize ops[k] = o at hq hoo
      obtain ⟨e1, e2, e3⟩ := hrow k o hq
      rw [if_neg (nI_ge (by omega) (by omega)), if_neg (by decide)]
      obtain ⟨op, one, other⟩ := o
      obtain ⟨R, r1, r2, r3⟩ := r_isOp (op := op) (one := one) (other := other) (p2 := rows (p + 3 * k + 2)) (p3 := rows (p + 3 * k + 3)) hPR hoo e2 e3 (by omega)
      have e1 : rows (p + 3 * k + 1) = nI op := e1
      simp (disch := omega) only [lit32, nI_add, nI_mulE, rd_nI, e1, r1, bd, Option.bind_some, nm]
      show ∃ x F' w' ad' nu', m_X12_isWritten_w21 rows p1 K n (nI p) R.1 (nI (k + 1)) R.2.1 R.2.2.1 R.2.2.2.1 R.2.2.2.2 = K x F' w' ad' nu' ∧ frF F' F ∧ (match runR ((op, one, other) :: ops.drop (k + 1)) S with | none => x = nI 0 | some S' => x = nI 1 ∧ PR F' w' ad' nu' S')
      rw [runR]
      cases hw : opW S.1 (op, one, other) with
      | none =>
        rw [hw] at r3
        have r3 : R.1 = 0 := r3
        rw [r3]
        obtain ⟨n, rfl⟩ : ∃ d, n = d + 1 := ⟨n - 1, by omega⟩
        rw [m_X12_isWritten_w21, rd_nI (by omega) (by decide), hlen, if_pos rfl]
        by_cases c2 : ops.length ≤ k + 1
        · rw [if_pos (nI_le c2 (by omega))]
          exact ⟨0, _, _, _, _, rfl, r2, rfl⟩
        · rw [if_neg (nI_ge (by omega) (by omega))]
          exact ⟨0, _, _, _, _, rfl, r2, rfl⟩
      | some L =>
        rw [hw] at r3
        obtain ⟨r3, r4⟩ := r3
        rw [r3]
        have hL := opW_len hw
        obtain ⟨x, F', w', ad', nu', g1, g2, g3⟩ := ih (k + 1) _ _ _ _ _ (by omega) (by omega) (by rw [wR_fold_len]; omega) r4
        exact ⟨x, F', w', ad', nu', g1, fun j hj => (g2 j hj).trans (r2 j hj), g3⟩
theorem r_laysWords {rows w : Nat → Int32} {b : Nat} {X : AC} (hR : RC rows b X) (hV : VC X) (hb : b + 786 ≤ 66100) : ∃ r, m_X12_laysWords rows w (nI b) = some r ∧ ∀ j, j < 64 → r j = nI (wordA X j) := by
  obtain ⟨r, h1, h2⟩ := loop_up (fun n i r => m_X12_laysWords_w2 rows (nI b) n i r) some 64 (fun k r => ∀ j, j < k → r j = nI (wordA X j)) (by
    intro n k r hk hI
    refine ⟨upd r k (nI (wordA X k)), fun j hj => ?_, ?_⟩
    · by_cases c : j = k
      · rw [c, upd_eq]
      · rw [upd_ne c]; exact hI j (by omega)
    · show m_X12_laysWords_w2 _ _ _ _ _ = _
      rw [m_X12_laysWords_w2]
      simp (disch := omega) only [lit32, nI_leI, if_neg, Nat.not_le, r_wordOf hR hV hk hb, bd, Option.bind_some, wr_nI, nm, nI_add]) (by
    intro n r _
    show m_X12_laysWords_w2 _ _ _ _ _ = _
    rw [m_X12_laysWords_w2]
    simp (disch := omega) only [lit32, nI_leI, if_pos]) fuelN 0 w (Nat.zero_le _) (by rw [fuel_is]; omega) (fun j hj => absurd hj (Nat.not_lt_zero j))
  exact ⟨r, h2, h1⟩
/-- what a transaction writes, if it isn't void -/
def planT (X : AC) (ops : List (Nat × Nat × Nat)) : Option PS := match runR ops (wordA X, []) with
  | none => none
  | some S => if S.2.length ≤ 8 then some S else none
theorem r_isWritten {F rows w ad nu : Nat → Int32} {b : Nat} {X : AC} {ops : List (Nat × Nat × Nat)} (hR : RC rows b X) (hV : VC X) (hb : b + 786 ≤ 66100) (hO : rOps rows (b + 616) ops) :
    ∃ R, m_X12_isWritten F rows w ad nu (nI b) = some R ∧ frF R.2.1 F ∧ (match planT X ops with | none => R.1 = 0 | some S => R.1 = 1 ∧ PR R.2.1 R.2.2.1 R.2.2.2.1 R.2.2.2.2 S) := by
  obtain ⟨w0, f1, f2⟩ := r_laysWords (w := w) hR hV hb
  have h4 := hO.1
  have hPR : PR (upd F 19 0) w0 ad nu (wordA X, []) := ⟨rfl, f2, fun j hj => word_le hV hj, fun k q hk => by cases hk⟩
  obtain ⟨x, F', w', ad', nu', g1, g2, g3⟩ := r_written_loop hO (by omega) (p1 := nI b) (K := m_X12_isWritten_j86 rows (nI b)) fuelN 0 (upd F 19 0) w0 ad nu (wordA X, []) (Nat.zero_le _) (by rw [fuel_is]; omega) (Nat.le_refl _) hPR
  have hfr : frF F' F := fun j hj => (g2 j hj).trans (upd_ne (by omega))
  have e0 : m_X12_isWritten F rows w ad nu (nI b) = m_X12_isWritten_j86 rows (nI b) x F' w' ad' nu' := by
    rw [m_X12_isWritten, bd_ok f1]
    simp only [nm, lit32, nI_add]
    exact g1
  rw [e0, m_X12_isWritten_j86]
  unfold planT
  rw [List.drop_zero] at g3
  cases hr : runR ops (wordA X, []) with
  | none =>
    rw [hr] at g3
    rw [if_pos g3]
    exact ⟨_, rfl, hfr, rfl⟩
  | some S =>
    rw [hr] at g3
    obtain ⟨g3, g4⟩ := g3
    rw [if_neg (by rw [g3]; decide), g4.1]
    have hl : S.2.length < 2 ^ 30 := by
      have : ∀ (ops : List (Nat × Nat × Nat)) (T S : PS), runR ops T = some S → S.2.length ≤ T.2.length + 10 * ops.length := by
        intro ops
        induction ops with
        | nil => intro T S h; cases h; omega
        | cons o t ih =>
          intro T S h
          rw [runR] at h
          cases hw : opW T.1 o with
          | none => rw [hw] at h; cases h
          | some L =>
            rw [hw] at h
            have h1 := ih _ _ h
            have h2 := opW_len hw
            rw [wR_fold_len] at h1
            rw [List.length_cons]
            omega
      have := this ops _ _ hr
      have h0 : (wordA X, ([] : List (Nat × Nat × Nat))).2.length = 0 := rfl
      omega
    show ∃ R : Int32 × (Nat → Int32) × (Nat → Int32) × (Nat → Int32) × (Nat → Int32), _ ∧ frF R.2.1 F ∧ (match (if S.2.length ≤ 8 then some S else none) with | none => R.1 = 0 | some S => R.1 = 1 ∧ PR R.2.1 R.2.2.1 R.2.2.2.1 R.2.2.2.2 S)
    by_cases c : S.2.length ≤ 8
    · rw [if_neg (show ¬ (8 : Int32) < nI S.2.length from nI_nlt (a := 8) c (by decide)), if_pos c]
      exact ⟨_, rfl, hfr, rfl, g4⟩
    · rw [if_pos (show (8 : Int32) < nI S.2.length from nI_lt (a := 8) (by omega) (by omega)), if_neg c]
      exact ⟨_, rfl, hfr, rfl⟩
/-- the class says the same -/
theorem plan_same {X : AC} {ops : List (Nat × Nat × Nat)} : (match planT X ops with | none => (ops.foldl opC ((wordA X, []), true)).2 = false | some S => ops.foldl opC ((wordA X, []), true) = (S, true)) := by
  have h := plan_link ops (wordA X, []) (Nat.zero_le 8)
  unfold planT
  cases hr : runR ops (wordA X, []) with
  | none => exact h.2 (Or.inl hr)
  | some S =>
    show (match (if S.2.length ≤ 8 then some S else none) with | none => (ops.foldl opC ((wordA X, []), true)).2 = false | some S => ops.foldl opC ((wordA X, []), true) = (S, true))
    by_cases c : S.2.length ≤ 8
    · rw [if_pos c]; exact h.1 S hr c
    · rw [if_neg c]; exact h.2 (Or.inr ⟨S, hr, by omega⟩)
