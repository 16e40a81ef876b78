/-! ===== to recover ===== -/
theorem entP_in {mode n i : Nat} (hn : n ≤ 8) (hi : i < n) : 4 ≤ entP mode n i ∧ entP mode n i ≤ 18 := by
  unfold entP
  by_cases c : mode = 0
  · rw [if_pos c]; omega
  · rw [if_neg c]; omega
theorem cntA_le {m : Nat → Nat} : cntA m ≤ 8 := by
  unfold cntA
  by_cases c : 8 < m 0
  · rw [if_pos c]; exact Nat.le_refl _
  · rw [if_neg c]; omega
theorem recL_ok {mode n : Nat} {m : Nat → Nat} (hm : ∀ w, w < 64 → m w ≤ 99) (hn : n ≤ 8) : ∀ i, i ≤ n → (∀ q ∈ recL mode m n i, 20 ≤ q.1 ∧ q.1 < 64 ∧ q.2 ≤ 99) ∧ (recL mode m n i).length ≤ i := by
  intro i
  induction i with
  | zero => intro _; exact ⟨fun q hq => (by cases hq), Nat.le_refl _⟩
  | succ i ih =>
    intro hi
    obtain ⟨h1, h2⟩ := ih (by omega)
    have he := entP_in (mode := mode) hn (show i < n by omega)
    rw [recL]
    by_cases c : 20 ≤ m (entP mode n i) ∧ m (entP mode n i) < 64
    · rw [if_pos c, List.length_append, List.length_singleton]
      refine ⟨fun q hq => ?_, by omega⟩
      rcases List.mem_append.mp hq with hq | hq
      · exact h1 q hq
      · rw [List.mem_singleton.mp hq]; exact ⟨c.1, c.2, hm _ (by omega)⟩
    · rw [if_neg c, List.append_nil]; exact ⟨h1, by omega⟩
theorem upL_low : ∀ (ws : List (Nat × Nat)) (f : Nat → Nat), (∀ q ∈ ws, 20 ≤ q.1) → ∀ w, w < 20 → upL f ws w = f w := by
  intro ws
  induction ws with
  | nil => intro f _ w _; rfl
  | cons q t ih =>
    intro f h w hw
    show upL (upN f q.1 q.2) t w = f w
    rw [ih _ (fun z hz => h z (List.mem_cons_of_mem _ hz)) w hw]
    have := h q List.mem_cons_self
    unfold upN; rw [if_neg (by omega)]
theorem upL_snoc {f : Nat → Nat} {ws : List (Nat × Nat)} {q : Nat × Nat} : upL f (ws ++ [q]) = upN (upL f ws) q.1 q.2 := by
  unfold upL; rw [List.foldl_append]; rfl
theorem upL_le : ∀ (ws : List (Nat × Nat)) (f : Nat → Nat), (∀ j, j < 64 → f j ≤ 99) → (∀ q ∈ ws, q.2 ≤ 99) → ∀ j, j < 64 → upL f ws j ≤ 99 := by
  intro ws
  induction ws with
  | nil => intro f h _; exact h
  | cons q t ih => intro f h hq; exact ih (upN f q.1 q.2) (upN_le h (hq q List.mem_cons_self)) (fun z hz => hq z (List.mem_cons_of_mem _ hz))
theorem recA_le {mode : Nat} {m : Nat → Nat} (hm : ∀ w, w < 64 → m w ≤ 99) : ∀ w, w < 64 → recA mode m w ≤ 99 := upN_le (upL_le _ _ hm (fun q hq => ((recL_ok hm cntA_le _ (Nat.le_refl _)).1 q hq).2.2)) (Nat.zero_le _)
theorem nI_cnt {m : Nat → Nat} (h : m 0 ≤ 99) : (if (8 : Int32) < nI (m 0) then (8 : Int32) else nI (m 0)) = nI (cntA m) := by
  unfold cntA
  by_cases c : 8 < m 0
  · rw [if_pos c, if_pos (show (8 : Int32) < nI (m 0) from nI_lt (a := 8) c (by omega))]; rfl
  · rw [if_neg c, if_neg (show ¬ (8 : Int32) < nI (m 0) from nI_nlt (a := 8) (by omega) (by omega))]
theorem c_entry {mode n i : Nat} (hm : mode < 2) (hn : n ≤ 8) (hi : i < n) : m_X11_entryPlace (nI i) (nI n) (nI mode) = some (nI (entP mode n i)) := by
  rw [m_X11_entryPlace]
  unfold entP
  by_cases c : mode = 0
  · rw [if_pos c, if_pos (show nI mode = 0 by rw [c]; rfl), show (4 : Int32) = nI 4 from rfl, show (2 : Int32) = nI 2 from rfl, show (1 : Int32) = nI 1 from rfl, nI_subE (by omega), nI_subE (by omega), nI_mulE, nI_add]
  · rw [if_neg c, if_neg (show ¬ nI mode = 0 from fun e => c (nI_inj (b := 0) (by omega) (by decide) e)), show (4 : Int32) = nI 4 from rfl, show (2 : Int32) = nI 2 from rfl, nI_mulE, nI_add]
theorem r_entryAt {F : Nat → Int32} {mode n i : Nat} (hF : F 12 = nI mode) (hm : mode < 2) (hn : n ≤ 8) (hi : i < n) : m_X12_entryAt F (nI n) (nI i) = some (nI (entP mode n i)) := by
  rw [m_X12_entryAt, hF]
  unfold entP
  by_cases c : mode = 0
  · rw [if_pos c, if_neg (show ¬ nI mode = 1 by rw [c]; decide), show (4 : Int32) = nI 4 from rfl, show (2 : Int32) = nI 2 from rfl, show (1 : Int32) = nI 1 from rfl, nI_subE (by omega), nI_subE (by omega), nI_mulE, nI_add]
  · rw [if_neg c, if_pos (show nI mode = 1 by rw [show mode = 1 by omega]; rfl), show (4 : Int32) = nI 4 from rfl, show (2 : Int32) = nI 2 from rfl, nI_mulE, nI_add]
theorem c_isHeap {a : Nat} (ha : a < 2 ^ 31) : m_X11_isHeapAddress (nI a) = some (nI (if 20 ≤ a ∧ a < 64 then 1 else 0)) := by
  rw [m_X11_isHeapAddress]
  simp (disch := omega) only [lit32, nI_ltI, nI_leI]
  by_cases h1 : a < 20
  · rw [if_pos h1, if_neg (by omega)]
  · rw [if_neg h1]
    by_cases h2 : 64 ≤ a
    · rw [if_pos h2, if_neg (by omega)]
    · rw [if_neg h2, if_pos (by omega)]
theorem r_within {a lo hi : Nat} (ha : a < 2 ^ 31) (hl : lo < 2 ^ 31) (hh : hi < 2 ^ 31) : m_X12_within (nI a) (nI lo) (nI hi) = some (nI (if lo ≤ a ∧ a ≤ hi then 1 else 0)) := by
  rw [m_X12_within]
  simp (disch := omega) only [lit32, nI_ltI]
  by_cases h1 : a < lo
  · rw [if_pos h1, if_neg (by omega)]
  · rw [if_neg h1]
    by_cases h2 : hi < a
    · rw [if_pos h2, if_neg (by omega)]
    · rw [if_neg h2, if_pos (by omega)]
theorem c_recoverWords {a : Nat → Int32} {f : Nat → Nat} {mode : Nat} (ha : ∀ w, w < 64 → a w = nI (f w)) (hf : ∀ w, w < 64 → f w ≤ 99) (hm : mode < 2) : ∃ r, m_X11_recoverWords a 64 (nI mode) = some r ∧ ∀ w, w < 64 → r w = nI (recA mode f w) := by
  have hc := cntA_le (m := f)
  obtain ⟨r, h1, h2⟩ := loop_up (fun n i r => m_X11_recoverWords_w11 64 (nI mode) (m_X11_recoverWords_j52 64 (nI mode)) n (nI (cntA f)) i r) (fun r => m_X11_recoverWords_j52 64 (nI mode) r) (cntA f) (fun i r => ∀ w, w < 64 → r w = nI (upL f (recL mode f (cntA f) i) w)) (by
    intro n i r hi hI
    have he := entP_in (mode := mode) hc hi
    obtain ⟨o1, o2⟩ := recL_ok (mode := mode) hf hc i (by omega)
    have e1 : r (entP mode (cntA f) i) = nI (f (entP mode (cntA f) i)) := by rw [hI _ (by omega), upL_low _ _ (fun q hq => (o1 q hq).1) _ (by omega)]
    have e2 : r (entP mode (cntA f) i + 1) = nI (f (entP mode (cntA f) i + 1)) := by rw [hI _ (by omega), upL_low _ _ (fun q hq => (o1 q hq).1) _ (by omega)]
    have l1 := hf (entP mode (cntA f) i) (by omega)
    show ∃ s', _ ∧ m_X11_recoverWords_w11 64 (nI mode) (m_X11_recoverWords_j52 64 (nI mode)) (n + 1) (nI (cntA f)) (nI i) r = m_X11_recoverWords_w11 64 (nI mode) (m_X11_recoverWords_j52 64 (nI mode)) n (nI (cntA f)) (nI (i + 1)) s'
    rw [m_X11_recoverWords_w11, if_neg (nI_ge hi (by omega)), bd_ok (c_entry hm hc hi), rd_nI (by omega) (by decide), e1, bd_ok (c_isHeap (by omega)), recL]
    by_cases c : 20 ≤ f (entP mode (cntA f) i) ∧ f (entP mode (cntA f) i) < 64
    · rw [if_pos c, if_pos c, if_neg (by decide), rd_nI (by omega) (by decide), show nI (entP mode (cntA f) i) + 1 = nI (entP mode (cntA f) i + 1) from nI_1 _, rd_nI (by omega) (by decide), e1, e2, wr_nI c.2 (by decide), m_X11_recoverWords_j46, nm, show nI i + 1 = nI (i + 1) from nI_1 _]
      refine ⟨_, fun w hw => ?_, rfl⟩
      rw [upL_snoc]
      unfold upN
      by_cases e : w = f (entP mode (cntA f) i)
      · rw [e, upd_eq, if_pos rfl]
      · rw [upd_ne e, if_neg e]; exact hI w hw
    · rw [if_neg c, if_neg c, if_pos (show nI 0 = 0 from rfl), m_X11_recoverWords_j46, nm, show nI i + 1 = nI (i + 1) from nI_1 _, List.append_nil]
      exact ⟨r, hI, rfl⟩) (by
    intro n r _
    show m_X11_recoverWords_w11 64 (nI mode) (m_X11_recoverWords_j52 64 (nI mode)) (n + 1) (nI (cntA f)) (nI (cntA f)) r = _
    rw [m_X11_recoverWords_w11, if_pos (nI_le (Nat.le_refl _) (by omega))]) fuelN 0 a (Nat.zero_le _) (by rw [fuel_is]; omega) (fun w hw => ha w hw)
  refine ⟨upd r 0 (nI 0), ?_, fun w hw => ?_⟩
  · rw [m_X11_recoverWords, show (0 : Int32) = nI 0 from rfl, rd_nI (by decide) (by decide), ha 0 (by decide), nm, nI_cnt (hf 0 (by decide))]
    refine h2.trans ?_
    rw [m_X11_recoverWords_j52, show (0 : Int32) = nI 0 from rfl, wr_nI (by decide) (by decide)]
  · unfold recA upN
    by_cases e : w = 0
    · rw [e, upd_eq, if_pos rfl]
    · rw [upd_ne e, if_neg e]; exact h1 w hw
theorem r_counted {a : Nat → Int32} {f : Nat → Nat} (ha : ∀ w, w < 64 → a w = nI (f w)) (hf : ∀ w, w < 64 → f w ≤ 99) : m_X12_counted a 64 = some (nI (cntA f)) := by
  have h0 := hf 0 (by decide)
  rw [m_X12_counted, show (0 : Int32) = nI 0 from rfl, rd_nI (by decide) (by decide), rd_nI (by decide) (by decide), ha 0 (by decide)]
  unfold cntA
  by_cases c : 8 < f 0
  · rw [if_pos c, if_neg (show ¬ nI (f 0) ≤ 8 from nI_ge (b := f 0) (a := 8) c (by omega))]; rfl
  · rw [if_neg c, if_pos (show nI (f 0) ≤ 8 from nI_le (b := 8) (by omega) (by decide))]
theorem r_recovers {F a : Nat → Int32} {f : Nat → Nat} {mode : Nat} (hF : F 12 = nI mode) (ha : ∀ w, w < 64 → a w = nI (f w)) (hf : ∀ w, w < 64 → f w ≤ 99) (hm : mode < 2) : ∃ r, m_X12_recovers F a 64 = some r ∧ ∀ w, w < 64 → r w = nI (recA mode f w) := by
  have hc := cntA_le (m := f)
  obtain ⟨r, h1, h2⟩ := loop_up (fun n i r => m_X12_recovers_w7 F 64 (m_X12_recovers_j52 F 64) n (nI (cntA f)) i r) (fun r => m_X12_recovers_j52 F 64 r) (cntA f) (fun i r => ∀ w, w < 64 → r w = nI (upL f (recL mode f (cntA f) i) w)) (by
    intro n i r hi hI
    have he := entP_in (mode := mode) hc hi
    obtain ⟨o1, o2⟩ := recL_ok (mode := mode) hf hc i (by omega)
    have e1 : r (entP mode (cntA f) i) = nI (f (entP mode (cntA f) i)) := by rw [hI _ (by omega), upL_low _ _ (fun q hq => (o1 q hq).1) _ (by omega)]
    have e2 : r (entP mode (cntA f) i + 1) = nI (f (entP mode (cntA f) i + 1)) := by rw [hI _ (by omega), upL_low _ _ (fun q hq => (o1 q hq).1) _ (by omega)]
    have l1 := hf (entP mode (cntA f) i) (by omega)
    have hwi : m_X12_within (nI (f (entP mode (cntA f) i))) 20 63 = _ := r_within (lo := 20) (hi := 63) (show f (entP mode (cntA f) i) < 2 ^ 31 by omega) (by decide) (by decide)
    show ∃ s', _ ∧ m_X12_recovers_w7 F 64 (m_X12_recovers_j52 F 64) (n + 1) (nI (cntA f)) (nI i) r = m_X12_recovers_w7 F 64 (m_X12_recovers_j52 F 64) n (nI (cntA f)) (nI (i + 1)) s'
    rw [m_X12_recovers_w7, if_neg (nI_ge hi (by omega)), bd_ok (r_entryAt hF hm hc hi), rd_nI (by omega) (by decide), e1, bd_ok hwi, recL]
    by_cases c : 20 ≤ f (entP mode (cntA f) i) ∧ f (entP mode (cntA f) i) < 64
    · rw [if_pos c, if_pos (show 20 ≤ f (entP mode (cntA f) i) ∧ f (entP mode (cntA f) i) ≤ 63 by omega), if_neg (by decide), rd_nI (by omega) (by decide), show nI (entP mode (cntA f) i) + 1 = nI (entP mode (cntA f) i + 1) from nI_1 _, rd_nI (by omega) (by decide), e1, e2, wr_nI c.2 (by decide), m_X12_recovers_j46, nm, show nI i + 1 = nI (i + 1) from nI_1 _]
      refine ⟨_, fun w hw => ?_, rfl⟩
      rw [upL_snoc]
      unfold upN
      by_cases e : w = f (entP mode (cntA f) i)
      · rw [e, upd_eq, if_pos rfl]
      · rw [upd_ne e, if_neg e]; exact hI w hw
    · rw [if_neg c, if_neg (show ¬ (20 ≤ f (entP mode (cntA f) i) ∧ f (entP mode (cntA f) i) ≤ 63) by omega), if_pos (show nI 0 = 0 from rfl), m_X12_recovers_j46, nm, show nI i + 1 = nI (i + 1) from nI_1 _, List.append_nil]
      exact ⟨r, hI, rfl⟩) (by
    intro n r _
    show m_X12_recovers_w7 F 64 (m_X12_recovers_j52 F 64) (n + 1) (nI (cntA f)) (nI (cntA f)) r = _
    rw [m_X12_recovers_w7, if_pos (nI_le (Nat.le_refl _) (by omega))]) fuelN 0 a (Nat.zero_le _) (by rw [fuel_is]; omega) (fun w hw => ha w hw)
  refine ⟨upd r 0 (nI 0), ?_, fun w hw => ?_⟩
  · rw [m_X12_recovers, bd_ok (r_counted ha hf)]
    refine (show _ = m_X12_recovers_j52 F 64 r from h2).trans ?_
    rw [m_X12_recovers_j52, show (0 : Int32) = nI 0 from rfl, wr_nI (by decide) (by decide)]
  · unfold recA upN
    by_cases e : w = 0
    · rw [e, upd_eq, if_pos rfl]
    · rw [upd_ne e, if_neg e]; exact h1 w hw
theorem WP_snoc {F ad nu : Nat → Int32} {ws : List (Nat × Nat)} {q : Nat × Nat} (h : WP F ad nu ws) (hl : ws.length < 8) : WP (upd F 4 (nI (ws.length + 1))) (upd ad ws.length (nI q.1)) (upd nu ws.length (nI q.2)) (ws ++ [q]) := by
  obtain ⟨h1, h2, h3⟩ := h
  refine ⟨by rw [upd_eq, List.length_append, List.length_singleton], by rw [List.length_append, List.length_singleton]; omega, fun k z hk => ?_⟩
  by_cases e : k < ws.length
  · rw [List.getElem?_append_left e] at hk
    rw [upd_ne (by omega), upd_ne (by omega)]; exact h3 k z hk
  · rw [List.getElem?_append_right (by omega)] at hk
    have hz := (List.getElem?_eq_some_iff.mp hk).1
    rw [List.length_singleton] at hz
    have hke : k = ws.length := by omega
    rw [hke, Nat.sub_self] at hk
    cases hk
    rw [hke, upd_eq, upd_eq]; exact ⟨rfl, rfl⟩
theorem c_planRecovery {F ad nu a : Nat → Int32} {f : Nat → Nat} {mode : Nat} (ha : ∀ w, w < 64 → a w = nI (f w)) (hf : ∀ w, w < 64 → f w ≤ 99) (hm : mode < 2) : ∃ R, m_X5_planRecovery F ad nu a 64 (nI mode) = some R ∧ WP R.1 R.2.1 R.2.2 (recWs mode f) := by
  have hc := cntA_le (m := f)
  obtain ⟨R, h1, h2⟩ := loop_up (fun n i (s : (Nat → Int32) × (Nat → Int32) × (Nat → Int32)) => m_X5_planRecovery_w17 a 64 (nI mode) n (nI (cntA f)) i s.1 s.2.1 s.2.2) some (cntA f) (fun i s => WP s.1 s.2.1 s.2.2 (recL mode f (cntA f) i)) (by
    intro n i s hi hI
    have he := entP_in (mode := mode) hc hi
    obtain ⟨o1, o2⟩ := recL_ok (mode := mode) hf hc i (by omega)
    have e1 := ha (entP mode (cntA f) i) (by omega)
    have e2 := ha (entP mode (cntA f) i + 1) (by omega)
    have l1 := hf (entP mode (cntA f) i) (by omega)
    show ∃ s' : (Nat → Int32) × (Nat → Int32) × (Nat → Int32), _ ∧ m_X5_planRecovery_w17 a 64 (nI mode) (n + 1) (nI (cntA f)) (nI i) s.1 s.2.1 s.2.2 = m_X5_planRecovery_w17 a 64 (nI mode) n (nI (cntA f)) (nI (i + 1)) s'.1 s'.2.1 s'.2.2
    rw [m_X5_planRecovery_w17, if_neg (nI_ge hi (by omega)), bd_ok (c_entry hm hc hi), rd_nI (by omega) (by decide), e1, bd_ok (c_isHeap (by omega)), recL]
    by_cases c : 20 ≤ f (entP mode (cntA f) i) ∧ f (entP mode (cntA f) i) < 64
    · rw [if_pos c, if_pos c, if_neg (by decide), rd_nI (by omega) (by decide), hI.1, wr_nI (by omega) (by decide), show nI (entP mode (cntA f) i) + 1 = nI (entP mode (cntA f) i + 1) from nI_1 _, rd_nI (by omega) (by decide), e1, e2, wr_nI (by omega) (by decide), nm, show nI (recL mode f (cntA f) i).length + 1 = nI ((recL mode f (cntA f) i).length + 1) from nI_1 _, m_X5_planRecovery_j80, nm, show nI i + 1 = nI (i + 1) from nI_1 _]
      exact ⟨(_, _, _), WP_snoc (q := (f (entP mode (cntA f) i), f (entP mode (cntA f) i + 1))) hI (by omega), rfl⟩
    · rw [if_neg c, if_neg c, if_pos (show nI 0 = 0 from rfl), m_X5_planRecovery_j80, nm, show nI i + 1 = nI (i + 1) from nI_1 _, List.append_nil]
      exact ⟨s, hI, rfl⟩) (by
    intro n s _
    show m_X5_planRecovery_w17 a 64 (nI mode) (n + 1) (nI (cntA f)) (nI (cntA f)) s.1 s.2.1 s.2.2 = _
    rw [m_X5_planRecovery_w17, if_pos (nI_le (Nat.le_refl _) (by omega))]) fuelN 0 (upd F 4 (nI 0), ad, nu) (Nat.zero_le _) (by rw [fuel_is]; omega) ⟨show upd F 4 (nI 0) 4 = nI 0 from upd_eq, Nat.zero_le _, fun k q hk => by cases hk⟩
  refine ⟨R, ?_, h1⟩
  rw [m_X5_planRecovery, show (0 : Int32) = nI 0 from rfl, rd_nI (by decide) (by decide), ha 0 (by decide), nm, nm, nI_cnt (hf 0 (by decide))]
  exact h2
def recovA (mode : Nat) (A : MA) : MA := if (gX A).1 0 = 0 then (gX A, gM A, gW A, 0, gO A, tal (gT A) 3, gB A, gA A) else (gX A, storesA (recWs mode (gX A).1) ++ endA (gO A) ((recWs mode (gX A).1).map (fun q => q.1 / 4)), gW A, 2, gO A, tal (gT A) 3, gB A, gA A)
theorem recWs_ok {mode : Nat} {m : Nat → Nat} (hm : ∀ w, w < 64 → m w ≤ 99) : (∀ q ∈ recWs mode m, 20 ≤ q.1 ∧ q.1 < 64 ∧ q.2 ≤ 99) ∧ (recWs mode m).length ≤ 8 := by
  have h := recL_ok (mode := mode) hm (cntA_le (m := m)) _ (Nat.le_refl _)
  exact ⟨h.1, Nat.le_trans h.2 cntA_le⟩
theorem end_ne {s : Nat} {L : MM} {ls : List Nat} : ¬ L ++ endA s ls = [] := by
  intro h
  have := (List.append_eq_nil_iff.mp h).2
  unfold endA countA at this
  have := (List.append_eq_nil_iff.mp (List.append_eq_nil_iff.mp (List.append_eq_nil_iff.mp this).2).2).1
  cases this
theorem word_empty {X : AC} {w : Nat} (h : ∀ l, l < 16 → X.2.1 l = []) (hw : w < 64) : wordA X w = X.1 w := by
  unfold wordA; rw [h (w / 4) (by omega)]; rfl
theorem VM_recov {mode : Nat} {A : MA} (hV : VM mode A) (h1 : gS A = 1) : VM mode (recovA mode A) := by
  obtain ⟨v1, v2, v3, v4, v5, v6, v7, v8, v9, v10, v11⟩ := hV
  obtain ⟨m0, p0⟩ := v6 h1
  have hb := v10 (Or.inl (by omega))
  have h9 := v9 h1
  unfold recovA
  by_cases c : (gX A).1 0 = 0
  · rw [if_pos c]
    refine ⟨v1, v2, v3, Nat.zero_le _, v5, fun e => (by cases e), fun e => (by cases e), fun _ k hk => ?_, fun e => (by cases e), fun _ => hb, v11⟩
    show finW (gM A) (wordA (gX A)) (20 + k) = gA A k
    rw [m0]
    show wordA (gX A) (20 + k) = gA A k
    rw [word_empty p0 (by omega), ← h9 k hk]
    unfold recA recWs cntA
    rw [c, if_neg (by omega)]
    show _ = upN (gX A).1 0 0 (20 + k)
    unfold upN; rw [if_neg (by omega)]
  · rw [if_neg c]
    obtain ⟨o1, o2⟩ := recWs_ok (mode := mode) v1.1
    have hls : ∀ l ∈ (recWs mode (gX A).1).map (fun q => q.1 / 4), l < 16 := by
      intro l hl
      obtain ⟨q, hq, rfl⟩ := List.mem_map.mp hl
      have := (o1 q hq).2.1
      omega
    obtain ⟨s1, s2⟩ := stores_fin (recWs mode (gX A).1) (wordA (gX A)) (wordA (gX A)) (fun q hq => ⟨(o1 q hq).2.1, (o1 q hq).2.2⟩) (fun _ _ => rfl)
    refine ⟨v1, okAll_app s1 (low_ok (low_end hls)), v3, Nat.le_refl _, v5, fun e => (by cases e), fun _ => end_ne, fun _ k hk => ?_, fun e => (by cases e), fun _ => hb, v11⟩
    show finW (storesA (recWs mode (gX A).1) ++ endA (gO A) _) (wordA (gX A)) (20 + k) = gA A k
    rw [finW_app, low_fin _ _ (low_end hls) _ (by omega), s2 _ (by omega), ← h9 k hk]
    unfold recA
    show _ = upN _ 0 0 (20 + k)
    unfold upN; rw [if_neg (by omega)]
    have : ∀ (ws : List (Nat × Nat)) (f g : Nat → Nat), (∀ w, w < 64 → f w = g w) → ∀ w, w < 64 → upL f ws w = upL g ws w := by
      intro ws
      induction ws with
      | nil => intro f g h w hw; exact h w hw
      | cons q t ih => intro f g h w hw; exact ih (upN f q.1 q.2) (upN g q.1 q.2) (fun z hz => by unfold upN; rw [h z hz]) w hw
    exact this _ _ _ (fun w hw => word_empty p0 hw) _ (by omega)
theorem c_beginRecovery {F P md st hd ak mi be af wa ta ad nu : Nat → Int32} {mode : Nat} {A : MA} (hm2 : mode < 2) (h : CM F md st hd ak mi be af wa ta mode A) (hV : VM mode A) (h1 : gS A = 1) :
    ∃ R, m_X4_beginRecovery F P md mi ta ad nu = some R ∧ CM R.1 md st hd ak R.2.2.1 be af wa R.2.2.2.1 mode (recovA mode A) := by
  obtain ⟨k1, ⟨a, k2, k3, k4, k5, k6⟩, ⟨k7, k7', k8⟩, k9, k10, k11, k12, k13, k14⟩ := h
  have m0 := (hV.2.2.2.2.2.1 h1).1
  have a0 := k5 h1
  subst a0
  have hl0 := hV.1.1 0 (by decide)
  rw [m_X4_beginRecovery, show (3 : Int32) = nI 3 from rfl, rd_nI (by decide) (by decide), wr_nI (by decide) (by decide), nm, show (0 : Int32) = nI 0 from rfl, rd_nI (by decide) (by decide), k1.1 0 (by decide)]
  unfold recovA
  by_cases c : (gX A).1 0 = 0
  · rw [if_pos c, if_pos (show nI ((gX A).1 0) = nI 0 by rw [c])]
    refine ⟨_, rfl, k1, ⟨0, ?_, ?_, k4, fun _ => rfl, k6⟩, ⟨?_, k7', k8⟩, show upd F 8 (nI 0) 8 = nI 0 from upd_eq, ?_, ?_, tal_eq k12 (by decide), k13, k14⟩
    · show upd F 8 (nI 0) 2 = _
      rw [upd_ne (by decide)]; exact k2
    · show upd F 8 (nI 0) 3 = _
      rw [upd_ne (by decide)]; exact k3
    · show upd F 8 (nI 0) 7 = _
      rw [upd_ne (by decide)]; exact k7
    · show upd F 8 (nI 0) 9 = _
      rw [upd_ne (by decide)]; exact k10
    · show upd F 8 (nI 0) 10 = _
      rw [upd_ne (by decide)]; exact k11
  · rw [if_neg c, if_neg (fun e => c (nI_inj (by omega) (by decide) e)), nm]
    have f9 : upd (upd F 8 (nI 0)) 8 2 9 = nI mode := by rw [upd_ne (by decide), upd_ne (by decide)]; exact k10
    have f10 : upd (upd F 8 (nI 0)) 8 2 10 = nI (gO A) := by rw [upd_ne (by decide), upd_ne (by decide)]; exact k11
    obtain ⟨R, r1, r2⟩ := c_planRecovery (F := P) (ad := ad) (nu := nu) k1.1 hV.1.1 hm2
    have hB0 : BM (upd (upd F 8 (nI 0)) 8 2) mi [] := ⟨by rw [upd_ne (by decide), upd_ne (by decide), k3, m0]; rfl, Nat.zero_le _, fun k q hk => by cases hk⟩
    obtain ⟨R2, q1, q2, q3⟩ := c_addWrites hB0 r2 (by decide)
    obtain ⟨o1, o2⟩ := recWs_ok (mode := mode) hV.1.1
    rw [List.nil_append] at q2
    have hsl : (storesA (recWs mode (gX A).1)).length ≤ 8 := by unfold storesA; rw [List.length_map]; exact o2
    obtain ⟨R3, t1, t2, t3⟩ := c_addEnding q2 ((q3 10 (by decide)).trans f10) hV.2.2.2.2.1 r2 (fun q hq => (o1 q hq).2.1) (by omega)
    rw [f9, bd_ok r1, bd_ok q1, bd_ok t1]
    refine ⟨_, rfl, k1, ⟨0, ?_, ?_, ?_, fun _ => rfl, fun k q hk => ?_⟩, ⟨?_, k7', k8⟩, ?_, ?_, ?_, tal_eq k12 (by decide), k13, k14⟩
    · show R3.1 2 = _
      rw [t3 2 (by decide), q3 2 (by decide), upd_ne (by decide), upd_ne (by decide)]; exact k2
    · rw [Nat.zero_add]; exact t2.1
    · rw [Nat.zero_add]; exact t2.2.1
    · rw [Nat.zero_add]; exact t2.2.2 k q hk
    · show R3.1 7 = _
      rw [t3 7 (by decide), q3 7 (by decide), upd_ne (by decide), upd_ne (by decide)]; exact k7
    · show R3.1 8 = _
      rw [t3 8 (by decide), q3 8 (by decide), upd_eq]; rfl
    · show R3.1 9 = _
      rw [t3 9 (by decide), q3 9 (by decide)]; exact f9
    · show R3.1 10 = _
      rw [t3 10 (by decide), q3 10 (by decide)]; exact f10
theorem r_laysMemory {rows mem : Nat → Int32} {b : Nat} {X : AC} (hR : RC rows b X) (hb : b + 786 ≤ 66100) : ∃ r, m_X12_laysMemory rows mem (nI b) = some r ∧ ∀ w, w < 64 → r w = nI (X.1 w) := by
  obtain ⟨r, h1, h2⟩ := loop_up (fun n i r => m_X12_laysMemory_w2 rows (nI b) n i r) some 64 (fun k r => ∀ w, w < k → r w = nI (X.1 w)) (by
    intro n k r hk hI
    have e := hR.1 k hk
    refine ⟨upd r k (nI (X.1 k)), fun j hj => ?_, ?_⟩
    · by_cases c : j = k
      · rw [c, upd_eq]
      · rw [upd_ne c]; exact hI j (by omega)
    · show m_X12_laysMemory_w2 _ _ _ _ _ = _
      rw [m_X12_laysMemory_w2]
      simp (disch := omega) only [lit32, nI_leI, if_neg, Nat.not_le, nI_add, rd_nI, e, wr_nI, nm]) (by
    intro n r _
    show m_X12_laysMemory_w2 _ _ _ _ _ = _
    rw [m_X12_laysMemory_w2]
    simp (disch := omega) only [lit32, nI_leI, if_pos]) fuelN 0 mem (Nat.zero_le _) (by rw [fuel_is]; omega) (fun j hj => absurd hj (Nat.not_lt_zero j))
  exact ⟨r, h2, h1⟩
theorem r_recovery {F rows ad nu mem : Nat → Int32} {b mode : Nat} {A : MA} (hm2 : mode < 2) (hb : b + 786 ≤ 66100) (hR : RM rows b A) (hV : VM mode A) (h1 : gS A = 1) (hF : F 12 = nI mode) :
    ∃ F' r ad' nu' mem', m_X12_recovery F rows ad nu mem (nI b) = some (F', r, ad', nu', mem') ∧ RM r b (recovA mode A) ∧ frF F' F ∧ frR r rows b ∧ r (b + 774) = nI (gM (recovA mode A)).length := by
  obtain ⟨k1, ⟨a, k2, k3, k4, k5, k6⟩, k7, k8, k9, k10, k11, k12, k13⟩ := id hR
  have m0 := (hV.2.2.2.2.2.1 h1).1
  have a0 := k5 m0
  subst a0
  have hl0 := hV.1.1 0 (by decide)
  have hf := hV.1.1
  have hc := cntA_le (m := (gX A).1)
  have hT : RTal (upd (upd rows (b + 781) (rows (b + 781) + 1)) (b + 772) 0) b (tal (gT A) 3) := rt_fr (fun j g1 g2 => upd_ne (by omega)) (rt_tal (j := 3) k11 (by decide) rfl)
  have hfr0 : ∀ j, ¬ j = b + 781 → ¬ j = b + 772 → upd (upd rows (b + 781) (rows (b + 781) + 1)) (b + 772) 0 j = rows j := fun j g1 g2 => by rw [upd_ne g2, upd_ne g1]
  have hRC : RC (upd (upd rows (b + 781) (rows (b + 781) + 1)) (b + 772) 0) b (gX A) := RC_fr hV.1 (fun j g1 g2 => hfr0 j (by omega) (by omega)) k1
  obtain ⟨me, e1, e2⟩ := r_laysMemory (mem := mem) hRC hb
  have hcz : cntA (gX A).1 = 0 ↔ (gX A).1 0 = 0 := by
    unfold cntA
    by_cases c : 8 < (gX A).1 0
    · rw [if_pos c]; omega
    · rw [if_neg c]
  rw [m_X12_recovery, show (781 : Int32) = nI 781 from rfl, show (772 : Int32) = nI 772 from rfl, nI_add, nI_add, rd_nI (by omega) (by decide), wr_nI (by omega) (by decide), wr_nI (by omega) (by decide), bd_ok e1, bd_ok (r_counted e2 hf)]
  unfold recovA
  by_cases c : (gX A).1 0 = 0
  · rw [if_pos c, if_pos (show nI (cntA (gX A).1) = 0 by rw [hcz.mpr c]; rfl)]
    refine ⟨_, _, _, _, _, rfl, ⟨hRC, RMm_fr (fun j g1 g2 => hfr0 j (by omega) (by omega)) (hfr0 _ (by omega) (by omega)) (hfr0 _ (by omega) (by omega)) ⟨0, k2, k3, k4, k5, k6⟩, RMw_fr (fun j g1 g2 => hfr0 j (by omega) (by omega)) (hfr0 _ (by omega) (by omega)) k7, upd_eq, (hfr0 _ (by omega) (by omega)).trans k9, ?_, hT, ⟨fun e => absurd m0 e, fun e => absurd m0 e⟩⟩, fun _ _ => rfl, fun j hj => hfr0 j (by omega) (by omega), ?_⟩
    rotate_left
    · rw [hfr0 _ (by omega) (by omega), k3, Nat.zero_add]
    rw [hfr0 _ (by omega) (by omega), k10]
    unfold flA
    rw [if_pos (by rw [m0]; rfl)]
    show nI 0 = nI (if (gM A).length = 0 then 0 else _)
    rw [if_pos (by rw [m0]; rfl)]
  · rw [if_neg c, if_neg (show ¬ nI (cntA (gX A).1) = 0 from fun e => c (hcz.mp (nI_inj (b := 0) (by omega) (by decide) e))), nm]
    -- the writes
    obtain ⟨s, ⟨w1, w2, w3⟩, w4⟩ := loop_up (fun n i (s : (Nat → Int32) × (Nat → Int32) × (Nat → Int32)) => m_X12_recovery_w50 (nI b) (m_X12_recovery_j133 (nI b)) n (nI (cntA (gX A).1)) i s.1 (upd (upd rows (b + 781) (rows (b + 781) + 1)) (b + 772) 0) s.2.1 s.2.2 me) (fun s => m_X12_recovery_j133 (nI b) s.1 (upd (upd rows (b + 781) (rows (b + 781) + 1)) (b + 772) 0) s.2.1 s.2.2 me) (cntA (gX A).1) (fun i s => s.1 19 = nI (recL mode (gX A).1 (cntA (gX A).1) i).length ∧ (∀ j, ¬ j = 19 → s.1 j = F j) ∧ ∀ k q, (recL mode (gX A).1 (cntA (gX A).1) i)[k]? = some q → s.2.1 k = nI q.1 ∧ s.2.2 k = nI q.2) (by
      intro n i s hi hI
      obtain ⟨i1, i2, i3⟩ := hI
      have he := entP_in (mode := mode) hc hi
      obtain ⟨o1, o2⟩ := recL_ok (mode := mode) hf hc i (by omega)
      have e3 := e2 (entP mode (cntA (gX A).1) i) (by omega)
      have e4 := e2 (entP mode (cntA (gX A).1) i + 1) (by omega)
      have l1 := hf (entP mode (cntA (gX A).1) i) (by omega)
      have hwi : m_X12_within (nI ((gX A).1 (entP mode (cntA (gX A).1) i))) 20 63 = _ := r_within (lo := 20) (hi := 63) (show (gX A).1 (entP mode (cntA (gX A).1) i) < 2 ^ 31 by omega) (by decide) (by decide)
      show ∃ s' : (Nat → Int32) × (Nat → Int32) × (Nat → Int32), _ ∧ m_X12_recovery_w50 (nI b) (m_X12_recovery_j133 (nI b)) (n + 1) (nI (cntA (gX A).1)) (nI i) s.1 _ s.2.1 s.2.2 me = m_X12_recovery_w50 (nI b) (m_X12_recovery_j133 (nI b)) n (nI (cntA (gX A).1)) (nI (i + 1)) s'.1 _ s'.2.1 s'.2.2 me
      rw [m_X12_recovery_w50, if_neg (nI_ge hi (by omega)), bd_ok (r_entryAt ((i2 12 (by decide)).trans hF) hm2 hc hi), rd_nI (by omega) (by decide), e3, bd_ok hwi, recL]
      by_cases c : 20 ≤ (gX A).1 (entP mode (cntA (gX A).1) i) ∧ (gX A).1 (entP mode (cntA (gX A).1) i) < 64
      · rw [if_pos c, if_pos (show 20 ≤ (gX A).1 (entP mode (cntA (gX A).1) i) ∧ (gX A).1 (entP mode (cntA (gX A).1) i) ≤ 63 by omega), if_neg (by decide), rd_nI (by omega) (by decide), i1, wr_nI (by omega) (by decide), show nI (entP mode (cntA (gX A).1) i) + 1 = nI (entP mode (cntA (gX A).1) i + 1) from nI_1 _, rd_nI (by omega) (by decide), e3, e4, wr_nI (by omega) (by decide), nm, m_X12_recovery_j127, nm, show nI i + 1 = nI (i + 1) from nI_1 _, show nI (recL mode (gX A).1 (cntA (gX A).1) i).length + 1 = nI ((recL mode (gX A).1 (cntA (gX A).1) i).length + 1) from nI_1 _]
        refine ⟨(upd s.1 19 (nI ((recL mode (gX A).1 (cntA (gX A).1) i).length + 1)), upd s.2.1 (recL mode (gX A).1 (cntA (gX A).1) i).length (nI ((gX A).1 (entP mode (cntA (gX A).1) i))), upd s.2.2 (recL mode (gX A).1 (cntA (gX A).1) i).length (nI ((gX A).1 (entP mode (cntA (gX A).1) i + 1)))), ⟨?_, fun j hj => ?_, fun k z hk => ?_⟩, rfl⟩
        · show upd s.1 19 (nI ((recL mode (gX A).1 (cntA (gX A).1) i).length + 1)) 19 = _
          rw [upd_eq, List.length_append, List.length_singleton]
        · show upd s.1 19 (nI ((recL mode (gX A).1 (cntA (gX A).1) i).length + 1)) j = _
          rw [upd_ne hj]; exact i2 j hj
        · show upd s.2.1 (recL mode (gX A).1 (cntA (gX A).1) i).length (nI ((gX A).1 (entP mode (cntA (gX A).1) i))) k = _ ∧ upd s.2.2 (recL mode (gX A).1 (cntA (gX A).1) i).length (nI ((gX A).1 (entP mode (cntA (gX A).1) i + 1))) k = _
          by_cases e : k < (recL mode (gX A).1 (cntA (gX A).1) i).length
          · rw [List.getElem?_append_left e] at hk
            rw [upd_ne (by omega), upd_ne (by omega)]; exact i3 k z hk
          · rw [List.getElem?_append_right (by omega)] at hk
            have hz := (List.getElem?_eq_some_iff.mp hk).1
            rw [List.length_singleton] at hz
            have hke : k = (recL mode (gX A).1 (cntA (gX A).1) i).length := by omega
            rw [hke, Nat.sub_self] at hk
            cases hk
            rw [hke, upd_eq, upd_eq]; exact ⟨rfl, rfl⟩
      · rw [if_neg c, if_neg (show ¬ (20 ≤ (gX A).1 (entP mode (cntA (gX A).1) i) ∧ (gX A).1 (entP mode (cntA (gX A).1) i) ≤ 63) by omega), if_pos (show nI 0 = 0 from rfl), m_X12_recovery_j127, nm, show nI i + 1 = nI (i + 1) from nI_1 _, List.append_nil]
        exact ⟨s, ⟨i1, i2, i3⟩, rfl⟩) (by
      intro n s _
      show m_X12_recovery_w50 (nI b) (m_X12_recovery_j133 (nI b)) (n + 1) (nI (cntA (gX A).1)) (nI (cntA (gX A).1)) s.1 _ s.2.1 s.2.2 me = _
      rw [m_X12_recovery_w50, if_pos (nI_le (Nat.le_refl _) (by omega))]) fuelN 0 (upd F 19 0, ad, nu) (Nat.zero_le _) (by rw [fuel_is]; omega) ⟨show upd F 19 0 19 = nI 0 from upd_eq, fun j hj => upd_ne hj, fun k q hk => by cases hk⟩
    refine (show ∃ F' r ad' nu' mem', _ = some (F', r, ad', nu', mem') ∧ _ from ?_)
    have w4 : m_X12_recovery_w50 (nI b) (m_X12_recovery_j133 (nI b)) fuelN (nI (cntA (gX A).1)) 0 (upd F 19 0) (upd (upd rows (b + 781) (rows (b + 781) + 1)) (b + 772) 0) ad nu me = m_X12_recovery_j133 (nI b) s.1 (upd (upd rows (b + 781) (rows (b + 781) + 1)) (b + 772) 0) s.2.1 s.2.2 me := w4
    rw [w4]
    generalize hG : upd (upd rows (b + 781) (rows (b + 781) + 1)) (b + 772) 0 = G at hT hfr0 hRC ⊢
    rw [m_X12_recovery_j133]
    simp (disch := omega) only [lit32, nI_add, wr_nI]
    have hB0 : RMi (upd (upd G (b + 774) (nI 0)) (b + 775) (nI 0)) b [] := ⟨by rw [upd_ne (by omega), upd_eq]; rfl, Nat.zero_le _, fun k q hk => by cases hk⟩
    have hs0 : upd (upd G (b + 774) (nI 0)) (b + 775) (nI 0) (b + 773) = nI (gO A) := by rw [upd_ne (by omega), upd_ne (by omega), hfr0 _ (by omega) (by omega)]; exact k9
    obtain ⟨o1, o2⟩ := recWs_ok (mode := mode) hf
    have w3 : ∀ k q, (recWs mode (gX A).1)[k]? = some q → s.2.1 k = nI q.1 ∧ s.2.2 k = nI q.2 := w3
    have w1 : s.1 19 = nI (recWs mode (gX A).1).length := w1
    obtain ⟨r3, p1, p2, p3⟩ := r_storesL (F := s.1) (ad := s.2.1) (nu := s.2.2) (b := b) (ws := recWs mode (gX A).1) (fun n i r => m_X12_recovery_w157 (nI b) (m_X12_recovery_j189 (nI b)) n i s.1 r s.2.1 s.2.2 me) (K := fun r => m_X12_recovery_j189 (nI b) s.1 r s.2.1 s.2.2 me) (fun n i r => by rw [m_X12_recovery_w157]) w1 o2 w3 hB0 (by decide) hb
    rw [List.nil_append] at p2
    have p1 : m_X12_recovery_w157 (nI b) (m_X12_recovery_j189 (nI b)) fuelN (nI 0) s.1 (upd (upd G (b + 774) (nI 0)) (b + 775) (nI 0)) s.2.1 s.2.2 me = m_X12_recovery_j189 (nI b) s.1 r3 s.2.1 s.2.2 me := p1
    rw [p1, m_X12_recovery_j189]
    have hwl : ∀ k q, ((recWs mode (gX A).1).map (fun q => q.1))[k]? = some q → s.2.1 k = nI q := by
      intro k q hk
      rw [List.getElem?_map] at hk
      cases hq : (recWs mode (gX A).1)[k]? with
      | none => rw [hq] at hk; cases hk
      | some z => rw [hq] at hk; cases hk; exact (w3 k z hq).1
    have hsl : (storesA (recWs mode (gX A).1)).length ≤ 8 := by unfold storesA; rw [List.length_map]; exact o2
    obtain ⟨t, t1, t2, t3⟩ := r_laysEnd (F := s.1) (ad := s.2.1) (ws := (recWs mode (gX A).1).map (fun q => q.1)) p2 (by rw [List.length_map]; exact w1) (frM_s p3 hs0) hV.2.2.2.2.1 hb hwl (fun q hq => by obtain ⟨z, hz, rfl⟩ := List.mem_map.mp hq; exact (o1 z hz).2.1) (by rw [List.length_map]; exact o2) (by omega)
    obtain ⟨me2, u1, u2⟩ := r_recovers ((w2 12 (by decide)).trans hF) e2 hf hm2
    rw [bd_ok t1, bd_ok u1]
    -- before
    obtain ⟨r4, ⟨x1, x2⟩, x3⟩ := loop_up (fun n i r => m_X12_recovery_w204 (nI b) (m_X12_recovery_j237 (nI b)) n i s.1 r s.2.1 s.2.2 me2) (fun r => m_X12_recovery_j237 (nI b) s.1 r s.2.1 s.2.2 me2) 44 (fun k r => (∀ j, j < k → r (b + 528 + j) = nI (recA mode (gX A).1 (20 + j))) ∧ ∀ j, (j < b + 528 ∨ b + 572 ≤ j) → r j = t j) (by
      intro n k r hk hI
      have e := u2 (20 + k) (by omega)
      refine ⟨upd r (b + 528 + k) (nI (recA mode (gX A).1 (20 + k))), ⟨fun j hj => ?_, fun j hj => ?_⟩, ?_⟩
      · by_cases c : j = k
        · rw [c, upd_eq]
        · rw [upd_ne (by omega)]; exact hI.1 j (by omega)
      · rw [upd_ne (by omega)]; exact hI.2 j hj
      · show m_X12_recovery_w204 _ _ _ _ _ _ _ _ _ = _
        rw [m_X12_recovery_w204]
        simp (disch := omega) only [lit32, nI_leI, if_neg, Nat.not_le, nI_add, rd_nI, e, wr_nI, nm]) (by
      intro n r _
      show m_X12_recovery_w204 _ _ _ _ _ _ _ _ _ = _
      rw [m_X12_recovery_w204]
      simp (disch := omega) only [lit32, nI_leI, if_pos]) fuelN 0 t (Nat.zero_le _) (by rw [fuel_is]; omega) ⟨fun j hj => absurd hj (Nat.not_lt_zero j), fun _ _ => rfl⟩
    have x3 : m_X12_recovery_w204 (nI b) (m_X12_recovery_j237 (nI b)) fuelN 0 s.1 t s.2.1 s.2.2 me2 = _ := x3
    rw [x3, m_X12_recovery_j237]
    simp (disch := omega) only [lit32, nI_add, wr_nI]
    have hfin : ∀ j, (j < b + 288 ∨ b + 572 ≤ j) → ¬ j = b + 772 → ¬ j = b + 774 → ¬ j = b + 775 → ¬ j = b + 776 → upd (upd r4 (b + 776) (nI 2)) (b + 772) (nI 2) j = G j := by
      intro j hj g1 g2 g3 g4
      rw [upd_ne g1, upd_ne g4, x2 j (by omega), t3 j (by omega) g2, p3 j (by omega) g2, upd_ne g3, upd_ne g2]
    have hmid : ∀ j, b + 288 ≤ j → j < b + 528 → upd (upd r4 (b + 776) (nI 2)) (b + 772) (nI 2) j = t j := by
      intro j g1 g2
      rw [upd_ne (by omega), upd_ne (by omega), x2 j (by omega)]
    have hb9 := hV.2.2.2.2.2.2.2.2.1 h1
    have hb10 := hV.2.2.2.2.2.2.2.2.2.1 (Or.inl (by omega))
    refine ⟨_, _, _, _, _, rfl, ⟨RC_fr hV.1 (fun j g1 g2 => hfin j (by omega) (by omega) (by omega) (by omega) (by omega)) hRC, ⟨0, ?_, ?_, ?_, fun e => absurd e end_ne, fun k q hk => ?_⟩, RMw_fr (fun j g1 g2 => (hfin j (by omega) (by omega) (by omega) (by omega) (by omega)).trans (hfr0 j (by omega) (by omega))) ((hfin _ (by omega) (by omega) (by omega) (by omega) (by omega)).trans (hfr0 _ (by omega) (by omega))) k7, upd_eq, ?_, ?_, rt_fr (fun j g1 g2 => hfin j (by omega) (by omega) (by omega) (by omega) (by omega)) hT, ⟨fun _ k hk => ?_, fun _ e => by cases e⟩⟩, fun j hj => ?_, fun j hj => ?_, ?_⟩
    · rw [upd_ne (by omega), upd_ne (by omega), x2 _ (by omega), t3 _ (by omega) (by omega), p3 _ (by omega) (by omega), upd_eq]
    · rw [Nat.zero_add, upd_ne (by omega), upd_ne (by omega), x2 _ (by omega), t2.1, List.map_map]; rfl
    · rw [Nat.zero_add]
      have := t2.2.1
      rw [List.map_map] at this; exact this
    · have hk2 : (storesA (recWs mode (gX A).1) ++ endA (gO A) (((recWs mode (gX A).1).map (fun q => q.1)).map (fun q => q / 4)))[k]? = some q := by rw [List.map_map]; exact hk
      have hlt := (List.getElem?_eq_some_iff.mp hk2).1
      have := t2.2.1
      obtain ⟨z1, z2, z3⟩ := t2.2.2 k q hk2
      rw [Nat.zero_add, hmid _ (by omega) (by omega), hmid _ (by omega) (by omega), hmid _ (by omega) (by omega)]
      exact ⟨z1, z2, z3⟩
    · rw [hfin _ (by omega) (by omega) (by omega) (by omega) (by omega), hfr0 _ (by omega) (by omega)]; exact k9
    · rw [upd_ne (by omega), upd_eq]
      unfold flA
      rw [if_neg (fun e => end_ne (List.length_eq_zero_iff.mp e)), if_pos rfl]
    · rw [upd_ne (by omega), upd_ne (by omega), x1 k hk, hb9 k hk]
      show nI (gA A k) = nI (gB A k)
      rw [hb10 k hk]
    · exact w2 j (by omega)
    · rw [hfin j (by omega) (by omega) (by omega) (by omega) (by omega)]; exact hfr0 j (by omega) (by omega)
    · rw [upd_ne (by omega), upd_ne (by omega), x2 _ (by omega), t2.1, List.map_map]; rfl
