/-! ===== the class's planner: all words; a transaction ===== -/
theorem lastS_take {w v : Nat} {L : List (Nat × Nat)} {k : Nat} {q : Nat × Nat} (h : L[k]? = some q) : lastS w v (L.take (k + 1)) = if q.1 = w then q.2 else lastS w v (L.take k) := by
  rw [List.take_succ, h, Option.toList_some, lastS_app]; rfl
theorem c_fill_inner {md st hd ak : Nat → Int32} {X : AC} (hC : CC md st hd ak X) (hV : VC X) {l : Nat} (hl : l < 16) (K : Int32 → (Nat → Int32) → Option (Nat → Int32)) {g : Nat → Nat} (r : Nat → Int32) (hr : ∀ j, j < 64 → r j = nI (g j)) : ∃ r', m_X1_fillWords_w22 md st hd 64 K fuelN (nI l) (nI 0) r = K (nI l) r' ∧ ∀ j, j < 64 → r' j = nI (lastS j (g j) (X.2.1 l)) := by
  obtain ⟨h6, hak, hst⟩ := hV.2 l hl
  have e0 := hC.2.1 l hl
  obtain ⟨r', h1, h2⟩ := loop_up (fun n i r => m_X1_fillWords_w22 md st hd 64 K n (nI l) i r) (fun r => K (nI l) r) (X.2.1 l).length (fun k r => ∀ j, j < 64 → r j = nI (lastS j (g j) ((X.2.1 l).take k))) (by
    intro n k r hk hI
    have hq1 : (X.2.1 l)[k]? = some (X.2.1 l)[k] := List.getElem?_eq_getElem hk
    have hq2 := hst _ (List.getElem_mem hk)
    generalize (X.2.1 l)[k] = q at hq1 hq2
    have hq64 : q.1 < 64 := by omega
    have e1 : st (l * 6 + k) = nI (100 * q.1 + q.2) := by rw [← hC.2.2.2 l hl k q hq1]; congr 1; omega
    have d1 : (100 * q.1 + q.2) / 100 = q.1 := by omega
    have d3 : 100 * q.1 + q.2 - q.1 * 100 = q.2 := by omega
    refine ⟨upd r q.1 (nI q.2), fun j hj => ?_, ?_⟩
    · rw [lastS_take hq1]
      by_cases c : q.1 = j
      · rw [if_pos c, c, upd_eq]
      · rw [if_neg c, upd_ne (fun e => c e.symm)]; exact hI j hj
    · show m_X1_fillWords_w22 _ _ _ _ _ _ _ _ _ = _
      rw [m_X1_fillWords_w22]
      simp (disch := omega) only [nm, lit32, nI_add, nI_mulE, rd_nI, wr_nI, nI_leI, if_neg, Nat.not_le, e0, e1, nI_divE, d1, nI_subE, d3]) (by
    intro n r _
    show m_X1_fillWords_w22 _ _ _ _ _ _ _ _ _ = _
    rw [m_X1_fillWords_w22]
    simp (disch := omega) only [rd_nI, e0, nI_leI, if_pos]) fuelN 0 r (Nat.zero_le _) (by rw [fuel_is]; omega) (fun j hj => by rw [List.take_zero]; exact hr j hj)
  exact ⟨r', h2, fun j hj => by rw [h1 j hj, List.take_length]⟩
theorem c_fillWords {md st hd ak w : Nat → Int32} {X : AC} (hC : CC md st hd ak X) (hV : VC X) : ∃ r, m_X1_fillWords md st hd w 64 = some r ∧ ∀ j, j < 64 → r j = nI (wordA X j) := by
  obtain ⟨r, h1, h2⟩ := loop_up (fun n i r => m_X1_fillWords_w14 md st hd 64 n i r) some 16 (fun k r => ∀ j, j < 64 → r j = nI (if j / 4 < k then wordA X j else X.1 j)) (by
    intro n l r hl hI
    obtain ⟨r', g1, g2⟩ := c_fill_inner hC hV hl (m_X1_fillWords_j63 md st hd 64 (m_X1_fillWords_w14 md st hd 64 n)) r hI
    refine ⟨r', fun j hj => ?_, ?_⟩
    · rw [g2 j hj]
      by_cases c : j / 4 = l
      · rw [if_neg (by omega), if_pos (by omega)]
        unfold wordA; rw [c]
      · rw [lastS_no _ _ (fun q hq e => c (by rw [← e]; exact ((hV.2 l hl).2.2 q hq).1))]
        by_cases c2 : j / 4 < l
        · rw [if_pos c2, if_pos (by omega)]
        · rw [if_neg c2, if_neg (by omega)]
    · show m_X1_fillWords_w14 _ _ _ _ _ _ _ = _
      rw [m_X1_fillWords_w14]
      simp (disch := omega) only [lit32, nI_leI, if_neg, Nat.not_le]
      rw [g1, m_X1_fillWords_j63]
      simp only [nm, lit32, nI_add]) (by
    intro n r _
    show m_X1_fillWords_w14 _ _ _ _ _ _ _ = _
    rw [m_X1_fillWords_w14]
    simp (disch := omega) only [lit32, nI_leI, if_pos]) fuelN 0 (va_cpy md w 0 0 64) (Nat.zero_le _) (by rw [fuel_is]; omega) (fun j hj => by
      unfold va_cpy
      rw [if_pos (by omega), if_neg (by omega), show 0 + (j - 0) = j by omega]
      exact hC.1 j hj)
  refine ⟨r, ?_, fun j hj => ?_⟩
  · rw [m_X1_fillWords]
    simp (disch := omega) only [lit32, cp_nI]
    exact h2
  · rw [h1 j hj, if_pos (by omega)]
def packN (o : Nat × Nat × Nat) : Nat := (o.1 + 1) * 10000 + o.2.1 * 100 + o.2.2
/-- a transaction that waits, as the class has it from the place b on -/
def wOps (wa : Nat → Int32) (b : Nat) (ops : List (Nat × Nat × Nat)) : Prop := ops.length ≤ 4 ∧ (∀ o ∈ ops, opOK o) ∧ ∀ j, j < 4 → wa (b + j) = nI (match ops[j]? with | some o => packN o | none => 0)
theorem opC_le {S : PS × Bool} {o : Nat × Nat × Nat} (ho : opOK o) (h : ∀ j, j < 64 → S.1.1 j ≤ 99) : ∀ j, j < 64 → (opC S o).1.1 j ≤ 99 := by
  unfold opC
  cases hw : opW S.1.1 o with
  | none => exact h
  | some L => exact wC_keeps S (fun p hp => by have := opW_ok h ho hw p hp; exact ⟨this.2.1, this.2.2⟩) h
theorem c_plan {F sh w ad nu ol md st hd ak wa : Nat → Int32} {X : AC} {i : Nat} {ops : List (Nat × Nat × Nat)} (hC : CC md st hd ak X) (hV : VC X) (hi : i < 12) (hw : wOps wa (4 * i) ops) :
    ∃ R, m_X5_plan F sh w ad nu ol md st hd wa 48 (nI i) = some R ∧ R.1 = nI (if (ops.foldl opC ((wordA X, []), true)).2 = true then 1 else 0) ∧ PC R.2.1 R.2.2.2.1 R.2.2.2.2.1 R.2.2.2.2.2.1 R.2.2.2.2.2.2 (ops.foldl opC ((wordA X, []), true)) := by
  obtain ⟨w0, f1, f2⟩ := c_fillWords (w := w) hC hV
  obtain ⟨hlen, hok, hwa⟩ := hw
  obtain ⟨R, h1, h2⟩ := loop_up (fun n i9 (s : (Nat → Int32) × (Nat → Int32) × (Nat → Int32) × (Nat → Int32) × (Nat → Int32) × (Nat → Int32)) => m_X5_plan_w23 md st hd wa 48 (nI i) n i9 s.1 s.2.1 s.2.2.1 s.2.2.2.1 s.2.2.2.2.1 s.2.2.2.2.2) (fun s => cb (s.1 5) (some (s.1 5, s.1, s.2.1, s.2.2.1, s.2.2.2.1, s.2.2.2.2.1, s.2.2.2.2.2))) (4 * i + 4) (fun k s => 4 * i ≤ k ∧ PC s.1 s.2.2.1 s.2.2.2.1 s.2.2.2.2.1 s.2.2.2.2.2 ((ops.take (k - 4 * i)).foldl opC ((wordA X, []), true))) (by
    intro n k s hk hI
    obtain ⟨hk0, hI⟩ := hI
    obtain ⟨F, sh, w, ad, nu, ol⟩ := s
    have ew := hwa (k - 4 * i) (by omega)
    rw [show 4 * i + (k - 4 * i) = k by omega] at ew
    rw [show k + 1 - 4 * i = (k - 4 * i) + 1 by omega, List.take_succ]
    show ∃ s' : (Nat → Int32) × (Nat → Int32) × (Nat → Int32) × (Nat → Int32) × (Nat → Int32) × (Nat → Int32), _ ∧ m_X5_plan_w23 md st hd wa 48 (nI i) (n + 1) (nI k) F sh w ad nu ol = _
    rw [m_X5_plan_w23]
    cases ho : ops[k - 4 * i]? with
    | none =>
      rw [ho] at ew
      have ew : wa k = nI 0 := ew
      refine ⟨(F, sh, w, ad, nu, ol), ⟨by omega, by rw [Option.toList_none, List.append_nil]; exact hI⟩, ?_⟩
      have hz : nI 0 / nI 10000 - nI 1 = -nI 1 := by decide
      have h0 : ¬ -nI 1 = nI 0 := by decide
      have h1 : ¬ -nI 1 = nI 1 := by decide
      have h2 : ¬ -nI 1 = nI 2 := by decide
      have h3 : ¬ -nI 1 = nI 3 := by decide
      have h4 : ¬ -nI 1 = nI 4 := by decide
      simp (disch := omega) only [lit32, nI_add, nI_mulE, nI_leI, if_neg, Nat.not_le, rd_nI, ew, nm, hz, if_neg h0, if_neg h1, if_neg h2, if_neg h3, if_neg h4, m_X5_plan_j149]
    | some o =>
      rw [ho] at ew
      have ew : wa k = nI (packN o) := ew
      have hoo := hok o (List.mem_of_getElem? ho)
      obtain ⟨k4, k2, k22, k3, kb1, kb2⟩ := id hoo
      obtain ⟨op, one, other⟩ := o
      have k4 : op ≤ 4 := k4
      have kb1 : one ≤ 99 := kb1
      have kb2 : other ≤ 99 := kb2
      have hp : packN (op, one, other) = (op + 1) * 10000 + one * 100 + other := rfl
      have hpl : packN (op, one, other) < 60000 := by rw [hp]; omega
      have v3 : nI (packN (op, one, other)) / nI 10000 - nI 1 = nI op := by
        rw [nI_divE (by omega) (by decide), show packN (op, one, other) / 10000 = op + 1 by rw [hp]; omega, nI_subE (by omega)]; rfl
      have v1 : (nI (packN (op, one, other)) - nI (packN (op, one, other)) / nI 10000 * nI 10000) / nI 100 = nI one := by
        rw [nI_modE (by omega) (by decide), nI_divE (Nat.lt_trans (Nat.mod_lt _ (by decide)) (by decide)) (by decide), show packN (op, one, other) % 10000 / 100 = one by rw [hp]; omega]
      have v2 : nI (packN (op, one, other)) - nI (packN (op, one, other)) / nI 100 * nI 100 = nI other := by
        rw [nI_modE (by omega) (by decide), show packN (op, one, other) % 100 = other by rw [hp]; omega]
      have hI : PC F w ad nu ol ((ops.take (k - 4 * i)).foldl opC ((wordA X, []), true)) := hI
      rw [Option.toList_some, List.foldl_append]
      show ∃ s' : (Nat → Int32) × (Nat → Int32) × (Nat → Int32) × (Nat → Int32) × (Nat → Int32) × (Nat → Int32), (4 * i ≤ k + 1 ∧ PC s'.1 s'.2.2.1 s'.2.2.2.1 s'.2.2.2.2.1 s'.2.2.2.2.2 (opC ((ops.take (k - 4 * i)).foldl opC ((wordA X, []), true)) (op, one, other))) ∧ _
      simp (disch := omega) only [lit32, nI_add, nI_mulE, nI_leI, if_neg, Nat.not_le, rd_nI, ew, nm, v1, v2, v3, nI_eq]
      rcases (show op = 0 ∨ op = 1 ∨ op = 2 ∨ op = 3 ∨ op = 4 by omega) with rfl | rfl | rfl | rfl | rfl
      · obtain ⟨R, r1, r2⟩ := c_planNew (one := one) (other := other) hI (k2 (show 0 ≤ 2 by decide)) kb2
        refine ⟨(R.1, sh, R.2.1, R.2.2.1, R.2.2.2.1, R.2.2.2.2), ⟨by omega, r2⟩, ?_⟩
        rw [if_pos rfl, bd_ok r1, m_X5_plan_j149]
        simp only [nm, lit32, nI_add]
      · obtain ⟨R, r1, r2⟩ := c_planDrop (one := one) (other := other) hI (k2 (show 1 ≤ 2 by decide))
        refine ⟨(R.1, sh, R.2.1, R.2.2.1, R.2.2.2.1, R.2.2.2.2), ⟨by omega, r2⟩, ?_⟩
        rw [if_neg (by decide), if_pos rfl, bd_ok r1, m_X5_plan_j149]
        simp only [nm, lit32, nI_add]
      · obtain ⟨R, r1, r2⟩ := c_planMove (one := one) (other := other) hI (k2 (show 2 ≤ 2 by decide)) (k22 rfl)
        refine ⟨(R.1, sh, R.2.1, R.2.2.1, R.2.2.2.1, R.2.2.2.2), ⟨by omega, r2⟩, ?_⟩
        rw [if_neg (by decide), if_neg (by decide), if_pos rfl, bd_ok r1, m_X5_plan_j149]
        simp only [nm, lit32, nI_add]
      · obtain ⟨R, r1, r2⟩ := c_write (a := one) (v := other) hI (k3 rfl).2 kb2
        refine ⟨(R.1, sh, R.2.1, R.2.2.1, R.2.2.2.1, R.2.2.2.2), ⟨by omega, r2⟩, ?_⟩
        rw [if_neg (by decide), if_neg (by decide), if_neg (by decide), if_pos rfl, bd_ok r1, m_X5_plan_j149]
        simp only [nm, lit32, nI_add]
      · obtain ⟨R, r1, r2⟩ := c_planSweep (sh := sh) (one := one) (other := other) hI
        refine ⟨(R.1, R.2.1, R.2.2.1, R.2.2.2.1, R.2.2.2.2.1, R.2.2.2.2.2), ⟨by omega, r2⟩, ?_⟩
        rw [if_neg (by decide), if_neg (by decide), if_neg (by decide), if_neg (by decide), if_pos rfl, bd_ok r1, m_X5_plan_j149]
        simp only [nm, lit32, nI_add]) (by
    intro n s _
    show m_X5_plan_w23 _ _ _ _ _ _ _ _ _ _ _ _ _ _ = _
    rw [m_X5_plan_w23]
    simp (disch := omega) only [lit32, nI_add, nI_mulE, nI_leI]
    rw [if_pos (by omega)]) fuelN (4 * i) (upd (upd F 4 0) 5 1, sh, w0, ad, nu, ol) (by omega) (by rw [fuel_is]; omega) ⟨Nat.le_refl _, by
      rw [Nat.sub_self, List.take_zero]
      exact ⟨rfl, Nat.zero_le 8, rfl, f2, fun j hj => word_le hV hj, fun k q hk => by cases hk⟩⟩
  obtain ⟨-, h1⟩ := h1
  rw [show 4 * i + 4 - 4 * i = 4 by omega, List.take_of_length_le hlen] at h1
  refine ⟨(R.1 5, R), ?_, h1.2.2.1, h1⟩
  rw [m_X5_plan, bd_ok f1]
  simp only [nm]
  rw [cb_1]
  simp (disch := omega) only [lit32, nI_mulE]
  rw [show i * 4 = 4 * i from Nat.mul_comm _ _]
  refine h2.trans ?_
  show cb (R.1 5) (some (R.1 5, R)) = some (R.1 5, R)
  rw [h1.2.2.1]
  by_cases c : (ops.foldl opC ((wordA X, []), true)).2 = true
  · rw [if_pos c]; exact cb_1
  · rw [if_neg c]; exact cb_0
