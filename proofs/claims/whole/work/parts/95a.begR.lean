/-! ===== what a plan's writes come to ===== -/
def endW (w : Nat → Nat) (ws : List (Nat × Nat × Nat)) : Nat → Nat := ws.foldl (fun f q => upN f q.1 q.2.1) w
def okS (w : Nat → Nat) (S : PS) : Prop := S.1 = endW w S.2 ∧ (∀ k q, S.2[k]? = some q → q.2.2 = endW w (S.2.take k) q.1) ∧ (∀ q ∈ S.2, 20 ≤ q.1 ∧ q.1 < 64 ∧ q.2.1 ≤ 99 ∧ q.2.2 ≤ 99) ∧ ∀ j, j < 64 → S.1 j ≤ 99
theorem endW_snoc {w : Nat → Nat} {ws : List (Nat × Nat × Nat)} {q : Nat × Nat × Nat} : endW w (ws ++ [q]) = upN (endW w ws) q.1 q.2.1 := by
  unfold endW; rw [List.foldl_append]; rfl
theorem okS_wR {w : Nat → Nat} {S : PS} {q : Nat × Nat} (h : okS w S) (hq : 20 ≤ q.1 ∧ q.1 < 64 ∧ q.2 ≤ 99) : okS w (wR S q) := by
  obtain ⟨h1, h2, h3, h4⟩ := h
  refine ⟨?_, fun k z hk => ?_, fun z hz => ?_, upN_le h4 hq.2.2⟩
  · show upN S.1 q.1 q.2 = endW w (S.2 ++ [(q.1, q.2, S.1 q.1)])
    rw [endW_snoc, ← h1]
  · have hk : (S.2 ++ [(q.1, q.2, S.1 q.1)])[k]? = some z := hk
    show z.2.2 = endW w ((S.2 ++ [(q.1, q.2, S.1 q.1)]).take k) z.1
    by_cases e : k < S.2.length
    · rw [List.getElem?_append_left e] at hk
      rw [List.take_append_of_le_length (by omega)]
      exact h2 k z hk
    · rw [List.getElem?_append_right (by omega)] at hk
      have hz := (List.getElem?_eq_some_iff.mp hk).1
      rw [List.length_singleton] at hz
      have hke : k = S.2.length := by omega
      rw [hke, Nat.sub_self] at hk
      cases hk
      rw [hke, List.take_append_of_le_length (Nat.le_refl _), List.take_length, ← h1]
  · have hz : z ∈ S.2 ++ [(q.1, q.2, S.1 q.1)] := hz
    rcases List.mem_append.mp hz with hz | hz
    · exact h3 z hz
    · rw [List.mem_singleton.mp hz]
      exact ⟨hq.1, hq.2.1, hq.2.2, h4 q.1 hq.2.1⟩
theorem okS_fold {w : Nat → Nat} : ∀ (L : List (Nat × Nat)) (S : PS), okS w S → (∀ q ∈ L, 20 ≤ q.1 ∧ q.1 < 64 ∧ q.2 ≤ 99) → okS w (L.foldl wR S) := by
  intro L
  induction L with
  | nil => intro S h _; exact h
  | cons a t ih => intro S h hq; exact ih (wR S a) (okS_wR h (hq a List.mem_cons_self)) (fun q hq' => hq q (List.mem_cons_of_mem _ hq'))
theorem okS_run {w : Nat → Nat} : ∀ (ops : List (Nat × Nat × Nat)) (S S' : PS), okS w S → (∀ o ∈ ops, opOK o) → runR ops S = some S' → okS w S' := by
  intro ops
  induction ops with
  | nil => intro S S' h _ hr; cases hr; exact h
  | cons o t ih =>
    intro S S' h ho hr
    rw [runR] at hr
    cases hw : opW S.1 o with
    | none => rw [hw] at hr; cases hr
    | some L =>
      rw [hw] at hr
      exact ih _ S' (okS_fold L S h (opW_ok h.2.2.2 (ho o List.mem_cons_self) hw)) (fun o' ho' => ho o' (List.mem_cons_of_mem _ ho')) hr
theorem planT_ok {X : AC} {ops : List (Nat × Nat × Nat)} {S : PS} (hV : VC X) (ho : ∀ o ∈ ops, opOK o) (h : planT X ops = some S) : okS (wordA X) S ∧ S.2.length ≤ 8 := by
  unfold planT at h
  cases hr : runR ops (wordA X, []) with
  | none => rw [hr] at h; cases h
  | some S' =>
    rw [hr] at h
    have h : (if S'.2.length ≤ 8 then some S' else none) = some S := h
    by_cases c : S'.2.length ≤ 8
    · rw [if_pos c] at h
      cases h
      exact ⟨okS_run ops _ _ ⟨rfl, fun k q hk => (by cases hk), fun q hq => (by cases hq), fun j hj => word_le hV hj⟩ ho hr, c⟩
    · rw [if_neg c] at h; cases h
theorem endW_le {w : Nat → Nat} (hw : ∀ j, j < 64 → w j ≤ 99) : ∀ ws : List (Nat × Nat × Nat), (∀ q ∈ ws, q.2.1 ≤ 99) → ∀ j, j < 64 → endW w ws j ≤ 99 := by
  intro ws
  induction ws generalizing w with
  | nil => intro _; exact hw
  | cons a t ih => intro h; exact ih (w := upN w a.1 a.2.1) (upN_le hw (h a List.mem_cons_self)) (fun q hq => h q (List.mem_cons_of_mem _ hq))
/-! ===== the reference: a transaction's micros ===== -/
theorem r_entry {rows : Nat → Int32} {b s i a : Nat} {v : Nat} {L : MM} (h : RMi rows b L) (hl : L.length + 3 ≤ 80) (hs : rows (b + 773) = nI s) (h7 : s < 128) (hb : b + 786 ≤ 66100) (hi : i < 8) {ρ : Type} {K : (Nat → Int32) → Option ρ} :
    ∃ r, (bd (m_X12_lays rows (nI b) 0 (nI (4 + 2 * i)) (nI a)) fun u => bd (m_X12_lays u (nI b) 0 (nI (4 + 2 * i) + 1) (nI v)) fun u1 => bd (m_X12_flushes u1 (nI b) 16 (nI (4 + 2 * i) / 4)) fun u2 => K u2) = K r ∧ RMi r b (L ++ entryA s i a v) ∧ frM r rows b := by
  obtain ⟨r1, a1, b1, c1⟩ := r_lays (p2 := 0) (p3 := nI (4 + 2 * i)) (p4 := nI a) (q := (0, 4 + 2 * i, a)) h (by omega) hb rfl rfl rfl
  obtain ⟨r2, a2, b2, c2⟩ := r_lays (p2 := 0) (p3 := nI (4 + 2 * i + 1)) (p4 := nI v) (q := (0, 4 + 2 * i + 1, v)) b1 (by rw [List.length_append, List.length_singleton]; omega) hb rfl rfl rfl
  obtain ⟨r3, a3, b3, c3⟩ := r_flushes (x := 4) (l := (4 + 2 * i) / 4) (p := 16) b2 (by rw [List.length_append, List.length_append, List.length_singleton, List.length_singleton]; omega) (frM_s c2 (frM_s c1 hs)) h7 (by decide) hb rfl
  rw [show nI (4 + 2 * i) + 1 = nI (4 + 2 * i + 1) from nI_1 _, show (nI (4 + 2 * i) / 4 : Int32) = nI ((4 + 2 * i) / 4) from nI_divE (b := 4) (by omega) (by decide), bd_ok a1, bd_ok a2, bd_ok a3]
  refine ⟨r3, rfl, ?_, frM_tr c3 (frM_tr c2 c1)⟩
  unfold entryA
  rw [show L ++ ([(0, 4 + 2 * i, a), (0, 4 + 2 * i + 1, v)] ++ flushA s 4 ((4 + 2 * i) / 4)) = L ++ [(0, 4 + 2 * i, a)] ++ [(0, 4 + 2 * i + 1, v)] ++ flushA s 4 ((4 + 2 * i) / 4) by simp only [List.append_assoc, List.cons_append, List.nil_append]]
  exact b3
def RWs (F ad nu : Nat → Int32) (ws : List (Nat × Nat × Nat)) : Prop := F 19 = nI ws.length ∧ ws.length ≤ 8 ∧ ∀ k q, ws[k]? = some q → ad k = nI q.1 ∧ nu k = nI q.2.1
theorem r_undo {F ad nu rows w : Nat → Int32} {b s : Nat} {w0 : Nat → Nat} {ws : List (Nat × Nat × Nat)} {K : (Nat → Int32) → (Nat → Int32) → Option ((Nat → Int32) × (Nat → Int32))} (hF : F 12 = nI 0) (hw : RWs F ad nu ws) (h : RMi rows b []) (hs : rows (b + 773) = nI s) (h7 : s < 128) (hb : b + 786 ≤ 66100) (hww : ∀ j, j < 64 → w j = nI (w0 j)) (hold : ∀ k q, ws[k]? = some q → q.2.2 = endW w0 (ws.take k) q.1) (ha : ∀ q ∈ ws, q.1 < 64) :
    ∃ r w', m_X12_laysMicros_w29 F ad nu (nI b) K fuelN 0 rows w = K r w' ∧ RMi r b (undoA s 0 ws) ∧ frM r rows b := by
  obtain ⟨w1, w2, w3⟩ := hw
  obtain ⟨t, ⟨h1, h2, h3⟩, h4⟩ := loop_up (fun n i (t : (Nat → Int32) × (Nat → Int32)) => m_X12_laysMicros_w29 F ad nu (nI b) K n i t.1 t.2) (fun t => K t.1 t.2) ws.length (fun k t => RMi t.1 b (undoA s 0 (ws.take k)) ∧ frM t.1 rows b ∧ ∀ j, j < 64 → t.2 j = nI (endW w0 (ws.take k) j)) (by
    intro n k t hk hI
    obtain ⟨i1, i2, i3⟩ := hI
    have hq : ws[k]? = some ws[k] := List.getElem?_eq_getElem hk
    have hm := ha _ (List.getElem_mem hk)
    generalize ws[k] = q at hq hm
    obtain ⟨e1, e2⟩ := w3 k q hq
    have e3 := hold k q hq
    have hlt : (ws.take k).length = k := by rw [List.length_take]; omega
    have hul := undo_len (s := s) (ws.take k) 0
    rw [hlt] at hul
    have hst := frM_s i2 hs
    have ew : t.2 q.1 = nI q.2.2 := by rw [i3 q.1 hm, ← e3]
    obtain ⟨r1, a1, b1, c1⟩ := r_entry (i := k) (a := q.1) (v := q.2.2) i1 (by omega) hst h7 hb (by omega) (K := fun u18 => bd (m_X12_fences u18 (nI b) 1) fun u19 => bd (m_X12_counts u19 (nI b) (nI (k + 1))) fun u20 => bd (m_X12_fences u20 (nI b) 2) fun u21 => bd (m_X12_lays u21 (nI b) 0 (nI q.1) (nI q.2.1)) fun u24 => m_X12_laysMicros_w29 F ad nu (nI b) K n (nI (k + 1)) u24 (upd t.2 q.1 (nI q.2.1)))
    have hel := entry_len (s := s) (i := k) (a := q.1) (v := q.2.2)
    obtain ⟨r2, a2, b2, c2⟩ := r_fcf (n := k + 1) (x := 0) (y := 1) (p1 := 1) (p2 := 2) b1 (by rw [List.length_append]; omega) (frM_s c1 hst) h7 hb (by decide) (by decide) rfl rfl (K := fun u21 => bd (m_X12_lays u21 (nI b) 0 (nI q.1) (nI q.2.1)) fun u24 => m_X12_laysMicros_w29 F ad nu (nI b) K n (nI (k + 1)) u24 (upd t.2 q.1 (nI q.2.1)))
    have hcl := count_len (s := s) (n := k + 1) (x := 0) (y := 1)
    obtain ⟨r3, a3, b3, c3⟩ := r_lays (p2 := 0) (p3 := nI q.1) (p4 := nI q.2.1) (q := (0, q.1, q.2.1)) b2 (by rw [List.length_append, List.length_append]; omega) hb rfl rfl rfl
    refine ⟨(r3, upd t.2 q.1 (nI q.2.1)), ⟨?_, frM_tr c3 (frM_tr c2 (frM_tr c1 i2)), fun j hj => ?_⟩, ?_⟩
    · rw [List.take_succ, hq, Option.toList_some, undoA_snoc, hlt]
      rw [show undoA s 0 (ws.take k) ++ (entryA s (0 + k) q.1 q.2.2 ++ (countA s (0 + k + 1) 0 1 ++ [(0, q.1, q.2.1)])) = undoA s 0 (ws.take k) ++ entryA s k q.1 q.2.2 ++ countA s (k + 1) 0 1 ++ [(0, q.1, q.2.1)] by simp only [List.append_assoc, Nat.zero_add]]
      exact b3
    · rw [List.take_succ, hq, Option.toList_some, endW_snoc]
      show upd t.2 q.1 (nI q.2.1) j = nI (upN _ q.1 q.2.1 j)
      unfold upN
      by_cases e : j = q.1
      · rw [e, upd_eq, if_pos rfl]
      · rw [upd_ne e, if_neg e]; exact i3 j hj
    · show m_X12_laysMicros_w29 F ad nu (nI b) K (n + 1) (nI k) t.1 t.2 = m_X12_laysMicros_w29 F ad nu (nI b) K n (nI (k + 1)) r3 (upd t.2 q.1 (nI q.2.1))
      rw [m_X12_laysMicros_w29, w1, if_neg (nI_ge hk (by omega)), nm, show (4 + 2 * nI k : Int32) = nI (4 + 2 * k) by rw [show (4 : Int32) = nI 4 from rfl, show (2 : Int32) = nI 2 from rfl, nI_mulE, nI_add], rd_nI (by omega) (by decide), e1]
      simp only [hF, if_neg (show ¬ nI 0 = 1 by decide), m_X12_laysMicros_j90, m_X12_laysMicros_j169, nm]
      simp (disch := omega) only [rd_nI, e1, e2, ew, wr_nI, show nI k + 1 = nI (k + 1) from nI_1 k]
      refine a1.trans ?_
      refine a2.trans ?_
      rw [bd_ok a3]) (by
    intro n t _
    show m_X12_laysMicros_w29 F ad nu (nI b) K (n + 1) (nI ws.length) t.1 t.2 = _
    rw [m_X12_laysMicros_w29, w1, if_pos (nI_le (Nat.le_refl _) (by omega))]) fuelN 0 (rows, w) (Nat.zero_le _) (by rw [fuel_is]; omega) ⟨by rw [List.take_zero]; exact h, frM_refl, by rw [List.take_zero]; exact hww⟩
  rw [List.take_length] at h1
  exact ⟨t.1, t.2, h4, h1, h2⟩
theorem r_redo {F ad nu rows w : Nat → Int32} {b s : Nat} {ws : List (Nat × Nat × Nat)} {K : (Nat → Int32) → (Nat → Int32) → Option ((Nat → Int32) × (Nat → Int32))} (hF : F 12 = nI 1) (hw : RWs F ad nu ws) (h : RMi rows b []) (hs : rows (b + 773) = nI s) (h7 : s < 128) (hb : b + 786 ≤ 66100) :
    ∃ r, m_X12_laysMicros_w29 F ad nu (nI b) K fuelN 0 rows w = K r w ∧ RMi r b (redoE s 0 ws) ∧ frM r rows b := by
  obtain ⟨w1, w2, w3⟩ := hw
  obtain ⟨t, ⟨h1, h2⟩, h4⟩ := loop_up (fun n i (t : (Nat → Int32)) => m_X12_laysMicros_w29 F ad nu (nI b) K n i t w) (fun t => K t w) ws.length (fun k t => RMi t b (redoE s 0 (ws.take k)) ∧ frM t rows b) (by
    intro n k t hk hI
    obtain ⟨i1, i2⟩ := hI
    have hq : ws[k]? = some ws[k] := List.getElem?_eq_getElem hk
    generalize ws[k] = q at hq
    obtain ⟨e1, e2⟩ := w3 k q hq
    have hlt : (ws.take k).length = k := by rw [List.length_take]; omega
    have hul := redo_len (s := s) (ws.take k) 0
    rw [hlt] at hul
    have hst := frM_s i2 hs
    obtain ⟨r1, a1, b1, c1⟩ := r_entry (i := k) (a := q.1) (v := q.2.1) i1 (by omega) hst h7 hb (by omega) (K := fun u18 => m_X12_laysMicros_w29 F ad nu (nI b) K n (nI (k + 1)) u18 w)
    refine ⟨r1, ⟨?_, frM_tr c1 i2⟩, ?_⟩
    · rw [List.take_succ, hq, Option.toList_some, redoE_snoc, hlt, Nat.zero_add]
      exact b1
    · show m_X12_laysMicros_w29 F ad nu (nI b) K (n + 1) (nI k) t w = m_X12_laysMicros_w29 F ad nu (nI b) K n (nI (k + 1)) r1 w
      rw [m_X12_laysMicros_w29, w1, if_neg (nI_ge hk (by omega)), nm, show (4 + 2 * nI k : Int32) = nI (4 + 2 * k) by rw [show (4 : Int32) = nI 4 from rfl, show (2 : Int32) = nI 2 from rfl, nI_mulE, nI_add], rd_nI (by omega) (by decide), e1]
      simp only [hF, if_pos (show nI 1 = 1 from rfl), m_X12_laysMicros_j90, m_X12_laysMicros_j169, nm]
      simp (disch := omega) only [rd_nI, e1, e2, show nI k + 1 = nI (k + 1) from nI_1 k]
      exact a1) (by
    intro n t _
    show m_X12_laysMicros_w29 F ad nu (nI b) K (n + 1) (nI ws.length) t w = _
    rw [m_X12_laysMicros_w29, w1, if_pos (nI_le (Nat.le_refl _) (by omega))]) fuelN 0 rows (Nat.zero_le _) (by rw [fuel_is]; omega) ⟨by rw [List.take_zero]; exact h, frM_refl⟩
  rw [List.take_length] at h1
  exact ⟨t, h4, h1, h2⟩
/-- stores of writes, by the loops of laysMicros and recovery -/
theorem r_storesL {F ad nu rows : Nat → Int32} {b : Nat} {L : MM} {ws : List (Nat × Nat)} {ρ : Type} (G : Nat → Int32 → (Nat → Int32) → Option ρ) {K : (Nat → Int32) → Option ρ} (hG : ∀ n i r, G (n + 1) i r = if F 19 ≤ i then K r else rd ad 64 i fun y8 => rd nu 64 i fun y9 => bd (m_X12_lays r (nI b) 0 y8 y9) fun u10 => nm (i + 1) fun v11 => G n v11 u10) (hF : F 19 = nI ws.length) (h8 : ws.length ≤ 8) (hw : ∀ k q, ws[k]? = some q → ad k = nI q.1 ∧ nu k = nI q.2) (h : RMi rows b L) (hl : L.length + 8 ≤ 80) (hb : b + 786 ≤ 66100) :
    ∃ r, G fuelN 0 rows = K r ∧ RMi r b (L ++ storesA ws) ∧ frM r rows b := by
  obtain ⟨t, ⟨h1, h2⟩, h4⟩ := loop_up G K ws.length (fun k t => RMi t b (L ++ storesA (ws.take k)) ∧ frM t rows b) (by
    intro n k t hk hI
    obtain ⟨i1, i2⟩ := hI
    have hq : ws[k]? = some ws[k] := List.getElem?_eq_getElem hk
    generalize ws[k] = q at hq
    obtain ⟨e1, e2⟩ := hw k q hq
    have hlen : (L ++ storesA (ws.take k)).length ≤ L.length + k := by
      rw [List.length_append]; unfold storesA; rw [List.length_map, List.length_take]; omega
    obtain ⟨r1, a1, b1, c1⟩ := r_lays (p2 := 0) (p3 := nI q.1) (p4 := nI q.2) (q := (0, q.1, q.2)) i1 (by omega) hb rfl rfl rfl
    refine ⟨r1, ⟨?_, frM_tr c1 i2⟩, ?_⟩
    · rw [List.take_succ, hq, Option.toList_some]
      unfold storesA
      rw [List.map_append, ← List.append_assoc]
      exact b1
    · rw [hG, hF, if_neg (nI_ge hk (by omega)), rd_nI (by omega) (by decide), rd_nI (by omega) (by decide), e1, e2, bd_ok a1, nm, show nI k + 1 = nI (k + 1) from nI_1 k]) (by
    intro n t _
    rw [hG, hF, if_pos (nI_le (Nat.le_refl _) (by omega))]) fuelN 0 rows (Nat.zero_le _) (by rw [fuel_is]; omega) ⟨by rw [List.take_zero]; unfold storesA; rw [List.map_nil, List.append_nil]; exact h, frM_refl⟩
  rw [List.take_length] at h1
  exact ⟨t, h4, h1, h2⟩
theorem r_laysMicros {F ad nu rows w : Nat → Int32} {b s mode : Nat} {X : AC} {S : PS} (hR : RC rows b X) (hV : VC X) (hb : b + 786 ≤ 66100) (hs : rows (b + 773) = nI s) (h7 : s < 128) (hm : F 12 = nI mode) (hm2 : mode < 2) (hw : RWs F ad nu S.2) (hS : okS (wordA X) S) :
    ∃ R, m_X12_laysMicros F rows w ad nu (nI b) = some R ∧ RMi R.1 b (microsT mode s S) ∧ R.1 (b + 775) = nI 0 ∧ ∀ j, (j < b + 288 ∨ b + 528 ≤ j) → ¬ j = b + 774 → ¬ j = b + 775 → R.1 j = rows j := by
  obtain ⟨s1, s2, s3, s4⟩ := hS
  have hw8 := hw.2.1
  have ha : ∀ q ∈ S.2, q.1 < 64 := fun q hq => (s3 q hq).2.1
  have hR2 : RC (upd (upd rows (b + 774) (nI 0)) (b + 775) (nI 0)) b X := by
    obtain ⟨q1, q2, q3, q4⟩ := hR
    refine ⟨fun w hw => ?_, fun l hl => ?_, fun l hl => ?_, fun l hl k q hk => ?_⟩
    · rw [upd_ne (by omega), upd_ne (by omega)]; exact q1 w hw
    · rw [upd_ne (by omega), upd_ne (by omega)]; exact q2 l hl
    · rw [upd_ne (by omega), upd_ne (by omega)]; exact q3 l hl
    · have hlt := (List.getElem?_eq_some_iff.mp hk).1
      have := (hV.2 l hl).1
      rw [upd_ne (by omega), upd_ne (by omega), upd_ne (by omega), upd_ne (by omega)]; exact q4 l hl k q hk
  obtain ⟨w1, f1, f2⟩ := r_laysWords (w := w) hR2 hV hb
  have hB0 : RMi (upd (upd rows (b + 774) (nI 0)) (b + 775) (nI 0)) b [] := ⟨by rw [upd_ne (by omega), upd_eq]; rfl, Nat.zero_le _, fun k q hk => by cases hk⟩
  have hs0 : upd (upd rows (b + 774) (nI 0)) (b + 775) (nI 0) (b + 773) = nI s := by rw [upd_ne (by omega), upd_ne (by omega)]; exact hs
  have e0 : m_X12_laysMicros F rows w ad nu (nI b) = m_X12_laysMicros_w29 F ad nu (nI b) (m_X12_laysMicros_j175 F ad nu (nI b)) fuelN 0 (upd (upd rows (b + 774) (nI 0)) (b + 775) (nI 0)) w1 := by
    rw [m_X12_laysMicros]
    simp (disch := omega) only [lit32, nI_add, wr_nI]
    rw [bd_ok f1]
  have hwl : ∀ k q, (S.2.map (fun q => q.1))[k]? = some q → ad k = nI q := by
    intro k q hk
    rw [List.getElem?_map] at hk
    cases hq : S.2[k]? with
    | none => rw [hq] at hk; cases hk
    | some z => rw [hq] at hk; cases hk; exact (hw.2.2 k z hq).1
  have fin : ∀ (r w' : Nat → Int32) (L : MM), RMi r b L → frM r (upd (upd rows (b + 774) (nI 0)) (b + 775) (nI 0)) b → L.length + 12 ≤ 80 → L ++ endA s ((ws2 S.2).map (fun q => q.1 / 4)) = microsT mode s S →
      ∃ R, m_X12_laysMicros_j238 F ad nu (nI b) r w' = some R ∧ RMi R.1 b (microsT mode s S) ∧ R.1 (b + 775) = nI 0 ∧ ∀ j, (j < b + 288 ∨ b + 528 ≤ j) → ¬ j = b + 774 → ¬ j = b + 775 → R.1 j = rows j := by
    intro r w' L hL hfr hlen hEq
    obtain ⟨t, t1, t2, t3⟩ := r_laysEnd (F := F) (ad := ad) (ws := S.2.map (fun q => q.1)) hL (by rw [List.length_map]; exact hw.1) (frM_s hfr hs0) h7 hb hwl (fun q hq => by obtain ⟨z, hz, rfl⟩ := List.mem_map.mp hq; exact ha z hz) (by rw [List.length_map]; exact hw8) hlen
    rw [m_X12_laysMicros_j238, bd_ok t1]
    refine ⟨_, rfl, ?_, ?_, fun j hj h1 h2 => ?_⟩
    · rw [← hEq, show (ws2 S.2).map (fun q => q.1 / 4) = (S.2.map (fun q => q.1)).map (fun q => q / 4) by unfold ws2; rw [List.map_map, List.map_map]; rfl]
      exact t2
    · show t (b + 775) = nI 0
      rw [t3 (b + 775) (by omega) (by omega), hfr (b + 775) (by omega) (by omega), upd_eq]
    · show t j = rows j
      rw [t3 j hj h1, hfr j hj h1, upd_ne h2, upd_ne h1]
  rw [e0]
  rcases (show mode = 0 ∨ mode = 1 by omega) with rfl | rfl
  · obtain ⟨r, w', g1, g2, g3⟩ := r_undo (K := m_X12_laysMicros_j175 F ad nu (nI b)) hm hw hB0 hs0 h7 hb f2 s2 ha
    rw [g1, m_X12_laysMicros_j175, hm, if_neg (by decide)]
    have hul := undo_len (s := s) S.2 0
    exact fin r w' _ g2 g3 (by omega) rfl
  · obtain ⟨r, g1, g2, g3⟩ := r_redo (w := w1) (K := m_X12_laysMicros_j175 F ad nu (nI b)) hm hw hB0 hs0 h7 hb
    rw [g1, m_X12_laysMicros_j175, hm, if_pos (show nI 1 = 1 from rfl), hw.1]
    have hrl := redo_len (s := s) S.2 0
    obtain ⟨r2, k1, k2, k3⟩ := r_fcf (n := S.2.length) (x := 0) (y := 1) (p1 := 1) (p2 := 2) g2 (by omega) (frM_s g3 hs0) h7 hb (by decide) (by decide) rfl rfl (K := fun u7 => m_X12_laysMicros_w206 F ad nu (nI b) (m_X12_laysMicros_j238 F ad nu (nI b)) fuelN 0 u7 w1)
    have hcl := count_len (s := s) (n := S.2.length) (x := 0) (y := 1)
    have hws2 : ∀ k q, (ws2 S.2)[k]? = some q → ad k = nI q.1 ∧ nu k = nI q.2 := by
      intro k q hk
      unfold ws2 at hk
      rw [List.getElem?_map] at hk
      cases hq : S.2[k]? with
      | none => rw [hq] at hk; cases hk
      | some z => rw [hq] at hk; cases hk; exact hw.2.2 k z hq
    have hl2 : (ws2 S.2).length = S.2.length := by unfold ws2; rw [List.length_map]
    obtain ⟨r3, p1, p2, p3⟩ := r_storesL (F := F) (ad := ad) (nu := nu) (ws := ws2 S.2) (fun n i r => m_X12_laysMicros_w206 F ad nu (nI b) (m_X12_laysMicros_j238 F ad nu (nI b)) n i r w1) (K := fun r => m_X12_laysMicros_j238 F ad nu (nI b) r w1) (fun n i r => by rw [m_X12_laysMicros_w206]) (by rw [hl2]; exact hw.1) (by omega) hws2 k2 (by rw [List.length_append]; omega) hb
    refine (show ∃ R, _ = some R ∧ _ from ?_)
    rw [k1, p1]
    have hsl : (storesA (ws2 S.2)).length = S.2.length := by unfold storesA; rw [List.length_map, hl2]
    refine fin r3 w1 _ p2 (frM_tr p3 (frM_tr k3 g3)) (by rw [List.length_append, List.length_append, hsl]; omega) ?_
    show _ = (redoE s 0 S.2 ++ (countA s S.2.length 0 1 ++ storesA (ws2 S.2))) ++ _
    simp only [List.append_assoc]
