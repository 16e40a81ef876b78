/-! ===== the class: a step ===== -/
theorem tal_eq {ta tb : Nat → Int32} (h : ∀ k, k < 8 → ta k = tb k) {j : Nat} (hj : j < 8) : ∀ k, k < 8 → tal ta j k = tal tb j k := by
  intro k hk
  unfold tal
  by_cases e : k = j
  · rw [e, upd_eq, upd_eq, h j hj]
  · rw [upd_ne e, upd_ne e]; exact h k hk
theorem mcN_div {q : Nat × Nat × Nat} (hq : okMi q) : mcN q / 10000 = q.1 ∧ mcN q % 10000 / 100 = q.2.1 ∧ mcN q % 100 = q.2.2 ∧ mcN q < 30000 ∧ q.1 ≤ 2 := by
  unfold mcN
  rcases hq with ⟨h1, h2, h3⟩ | ⟨h1, h2, h3⟩ | ⟨h1, h2, h3⟩
  · rw [h1]; omega
  · rw [h1, h3]; omega
  · rw [h1, h2, h3]; omega
theorem c_tally {p1 x2 : Int32} {md st hd ak ta : Nat → Int32} {k : Nat} (hk : k ≤ 2) (hx : x2 = nI k) : m_X4_doMicro_j57 p1 x2 md st hd ak ta = some (md, st, hd, ak, tal ta (5 + k)) := by
  subst hx
  rw [m_X4_doMicro_j57, show (5 + nI k : Int32) = nI (5 + k) by rw [show (5 : Int32) = nI 5 from rfl, nI_add], rd_nI (by omega) (by decide), wr_nI (by omega) (by decide)]
  rfl
theorem c_doMicro {md st hd ak ta : Nat → Int32} {X : AC} {q : Nat × Nat × Nat} (hC : CC md st hd ak X) (hV : VC X) (hq : okMi q) : ∃ R, m_X4_doMicro md st hd ak ta (nI (mcN q)) = some R ∧ CC R.1 R.2.1 R.2.2.1 R.2.2.2.1 (micX X q) ∧ R.2.2.2.2 = tal ta (5 + q.1) := by
  obtain ⟨d1, d2, d3, d4, d5⟩ := mcN_div hq
  have e1 : (nI (mcN q) / 10000 : Int32) = nI q.1 := by rw [show (10000 : Int32) = nI 10000 from rfl, nI_divE (by omega) (by decide), d1]
  have e2 : ((nI (mcN q) - nI (mcN q) / 10000 * 10000) / 100 : Int32) = nI q.2.1 := by
    rw [show (10000 : Int32) = nI 10000 from rfl, show (100 : Int32) = nI 100 from rfl, nI_modE (by omega) (by decide), nI_divE (Nat.lt_trans (Nat.mod_lt _ (by decide)) (by decide)) (by decide), d2]
  have e3 : (nI (mcN q) - nI (mcN q) / 100 * 100 : Int32) = nI q.2.2 := by
    rw [show (100 : Int32) = nI 100 from rfl, nI_modE (by omega) (by decide), d3]
  rw [m_X4_doMicro, nm, nm, e2, e1, e3]
  unfold micX
  rcases hq with ⟨h1, h2, h3⟩ | ⟨h1, h2, h3⟩ | ⟨h1, h2, h3⟩
  · obtain ⟨R, r1, r2⟩ := c_put (a := q.2.1) (v := q.2.2) hC hV h2
    rw [if_pos h1, if_pos (show nI q.1 = 0 by rw [h1]; rfl), bd_ok r1, c_tally (k := q.1) d5 rfl]
    exact ⟨_, rfl, r2, rfl⟩
  · obtain ⟨R, r1, r2⟩ := c_ask (l := q.2.1) hC h2
    rw [if_neg (show ¬ q.1 = 0 by omega), if_pos h1, if_neg (show ¬ nI q.1 = 0 by rw [h1]; decide), if_pos (show nI q.1 = 1 by rw [h1]; rfl), bd_ok r1, c_tally (k := q.1) d5 rfl]
    exact ⟨_, rfl, r2, rfl⟩
  · obtain ⟨R, r1, r2⟩ := c_await hC hV
    rw [if_neg (show ¬ q.1 = 0 by omega), if_neg (show ¬ q.1 = 1 by omega), if_neg (show ¬ nI q.1 = 0 by rw [h1]; decide), if_neg (show ¬ nI q.1 = 1 by rw [h1]; decide), bd_ok r1, c_tally (k := q.1) d5 rfl]
    exact ⟨_, rfl, r2, rfl⟩
theorem c_idle {F : Nat → Int32} {a n : Nat} (h2 : F 2 = nI a) (h3 : F 3 = nI (a + n)) (hb : a + n ≤ 80) : m_X4_isIdle F = some (nI (if n = 0 then 1 else 0)) := by
  rw [m_X4_isIdle, h2, h3]
  by_cases c : n = 0
  · rw [if_pos c, if_pos (by rw [c]; rfl)]; rfl
  · rw [if_neg c, if_neg (fun e => c (by have := nI_inj (by omega) (by omega) e; omega))]; rfl
theorem c_idleA {F mi : Nat → Int32} {M : MM} {z : Prop} (h : CMm F mi M z) : m_X4_isIdle F = some (nI (if M.length = 0 then 1 else 0)) := by
  obtain ⟨a, a1, a2, a3, -, -⟩ := h
  exact c_idle a1 a2 a3
theorem c_do {F P sh md st hd ak mi be af wa ta w ad nu ol : Nat → Int32} {mode : Nat} {A : MA} {q : Nat × Nat × Nat} {t : MM} (h : CM F md st hd ak mi be af wa ta mode A) (hV : VM mode A) (hm : gM A = q :: t) :
    ∃ F' md' st' hd' ak' be' ta', m_X4_step_j75 F P sh md st hd ak mi be af wa ta w ad nu ol = some (1, F', P, sh, md', st', hd', ak', mi, be', af, wa, ta', w, ad, nu, ol) ∧ CM F' md' st' hd' ak' mi be' af wa ta' mode (popA q t A) := by
  obtain ⟨k1, ⟨a, k2, k3, k4, k5, k6⟩, ⟨k7, k7', k8⟩, k9, k10, k11, k12, k13, k14⟩ := h
  have hq : okMi q := hV.2.1 q (by rw [hm]; exact List.mem_cons_self)
  have hs1 : ¬ gS A = 1 := fun e => by rw [(hV.2.2.2.2.2.1 e).1] at hm; cases hm
  rw [hm, List.length_cons] at k3 k4
  have hq5 : 5 + q.1 < 8 := by have := (mcN_div hq).2.2.2.2; omega
  have em : mi a = nI (mcN q) := k6 0 q (by rw [hm]; rfl)
  obtain ⟨R, r1, r2, r3⟩ := c_doMicro (ta := ta) k1 hV.1 hq
  have hT : ∀ k, k < 8 → tal (tal ta (5 + q.1)) 4 k = tal (tal (gT A) (5 + q.1)) 4 k := tal_eq (tal_eq k12 hq5) (by decide)
  have hM : ∀ (F' : Nat → Int32) (z : Prop), F' 2 = nI (a + 1) → F' 3 = F 3 → ¬ z → CMm F' mi t z := by
    intro F' z e1 e2 hz
    refine ⟨a + 1, e1, ?_, by omega, fun e => absurd e hz, fun k z hk => ?_⟩
    · rw [e2, k3]; congr 1; omega
    · rw [show a + 1 + k = a + (k + 1) by omega]
      exact k6 (k + 1) z (by rw [hm]; exact hk)
  rw [m_X4_step_j75, bd_ok (c_idle k2 k3 k4), if_neg (show ¬ t.length + 1 = 0 by omega), if_pos (show nI 0 = 0 from rfl), k2, rd_nI (by omega) (by decide), em, bd_ok r1, nm, r3, show (4 : Int32) = nI 4 from rfl, rd_nI (by decide) (by decide), wr_nI (by decide) (by decide), show nI a + 1 = nI (a + 1) from nI_1 a]
  have e2 : upd F 2 (nI (a + 1)) 2 = nI (a + 1) := upd_eq
  have e3 : upd F 2 (nI (a + 1)) 3 = nI (a + 1 + t.length) := by rw [upd_ne (by decide), k3]; congr 1; omega
  rw [bd_ok (c_idle e2 e3 (by omega))]
  unfold popA
  by_cases c : t.length = 0
  · rw [if_pos c, if_neg (by decide), m_X4_finish]
    have e8 : upd F 2 (nI (a + 1)) 8 = nI (gS A) := by rw [upd_ne (by decide)]; exact k9
    rw [e8]
    simp only [c, true_and, if_true]
    by_cases c0 : gS A = 0
    · rw [if_pos c0, if_pos c0]
      simp only [c0, if_pos (show nI 0 = 0 from rfl), m_X4_finish_j32, nm]
      rw [show (0 : Int32) = nI 0 from rfl, show (44 : Int32) = nI 44 from rfl, rd_nI (by decide) (by decide), wr_nI (by decide) (by decide), cp_nI (by decide) (by decide) (by decide) (by decide), bd_ok rfl]
      dsimp only
      refine ⟨_, _, _, _, _, _, _, rfl, r2, hM _ _ ?_ ?_ (by show ¬ 0 = 1; decide), ⟨?_, k7', k8⟩, upd_eq, ?_, ?_, tal_eq hT (by decide), fun k hk => ?_, k14⟩
      · rw [upd_ne (by decide)]; exact upd_eq
      · rw [upd_ne (by decide), upd_ne (by decide)]
      · rw [upd_ne (by decide), upd_ne (by decide)]; exact k7
      · rw [upd_ne (by decide), upd_ne (by decide)]; exact k10
      · rw [upd_ne (by decide), upd_ne (by decide)]; exact k11
      · unfold va_cpy
        rw [if_pos (by omega), show 0 + (k - 0) = k by omega]; exact k14 k hk
    · rw [if_neg c0, if_neg c0, if_neg (show ¬ nI (gS A) = 0 from fun e => c0 (nI_inj (b := 0) (by have := hV.2.2.2.1; omega) (by decide) e)), m_X4_finish_j32, nm, bd_ok rfl]
      dsimp only
      refine ⟨_, _, _, _, _, _, _, rfl, r2, hM _ _ ?_ ?_ (by show ¬ 0 = 1; decide), ⟨?_, k7', k8⟩, upd_eq, ?_, ?_, hT, k13, k14⟩
      · rw [upd_ne (by decide)]; exact upd_eq
      · rw [upd_ne (by decide), upd_ne (by decide)]
      · rw [upd_ne (by decide), upd_ne (by decide)]; exact k7
      · rw [upd_ne (by decide), upd_ne (by decide)]; exact k10
      · rw [upd_ne (by decide), upd_ne (by decide)]; exact k11
  · rw [if_neg c, if_pos (show nI 0 = 0 from rfl)]
    simp only [c, false_and, if_false]
    refine ⟨_, _, _, _, _, _, _, rfl, r2, hM _ _ upd_eq ?_ hs1, ⟨?_, k7', k8⟩, ?_, ?_, ?_, hT, k13, k14⟩
    · rw [upd_ne (by decide)]
    · rw [upd_ne (by decide)]; exact k7
    · rw [upd_ne (by decide)]; exact k9
    · rw [upd_ne (by decide)]; exact k10
    · rw [upd_ne (by decide)]; exact k11
theorem upd_upd {f : Nat → Int32} {a : Nat} {x y : Int32} : upd (upd f a x) a y = upd f a y := by
  funext j
  by_cases e : j = a
  · rw [e, upd_eq, upd_eq]
  · rw [upd_ne e, upd_ne e, upd_ne e]
theorem begA_void {mode : Nat} {A : MA} {o : OPS} {t : List OPS} (hW : gW A = o :: t) (hp : planT (gX A) o = none) : begA mode A = begA mode (gX A, gM A, t, gS A, gO A, tal (gT A) 1, gB A, gA A) := by
  have e1 : begL (gX A) (gW A) = ((begL (gX A) t).1 + 1, (begL (gX A) t).2.1, (begL (gX A) t).2.2) := by rw [hW, begL, hp]
  have e2 : upd (gT A) 1 (gT A 1 + nI ((begL (gX A) t).1 + 1)) = upd (tal (gT A) 1) 1 (tal (gT A) 1 1 + nI (begL (gX A) t).1) := by
    unfold tal
    rw [upd_upd, upd_eq]
    congr 1
    rw [← nI_1, Int32.add_assoc]
    congr 1
    exact Int32.add_comm _ _
  unfold begA
  rw [e1]
  show _ = (match (begL (gX A) t).2.1 with
    | none => ((gX A, gM A, (begL (gX A) t).2.2, gS A, gO A, upd (tal (gT A) 1) 1 (tal (gT A) 1 1 + nI (begL (gX A) t).1), gB A, gA A), false)
    | some S => ((gX A, microsT mode (gO A) S, (begL (gX A) t).2.2, gS A, gO A, upd (tal (gT A) 1) 1 (tal (gT A) 1 1 + nI (begL (gX A) t).1), gB A, fun k => S.1 (20 + k)), true))
  rw [← e2]
  rfl
theorem begA_go {mode : Nat} {A : MA} {o : OPS} {t : List OPS} {S : PS} (hW : gW A = o :: t) (hp : planT (gX A) o = some S) : begA mode A = ((gX A, microsT mode (gO A) S, t, gS A, gO A, upd (gT A) 1 (gT A 1 + nI 0), gB A, fun k => S.1 (20 + k)), true) := by
  have e1 : begL (gX A) (gW A) = (0, some S, t) := by rw [hW, begL, hp]
  unfold begA
  rw [e1]
theorem begA_nil {mode : Nat} {A : MA} (hW : gW A = []) : begA mode A = ((gX A, gM A, [], gS A, gO A, upd (gT A) 1 (gT A 1 + nI 0), gB A, gA A), false) := by
  have e1 : begL (gX A) (gW A) = (0, none, []) := by rw [hW, begL]
  unfold begA
  rw [e1]
theorem tal_0 {ta tb : Nat → Int32} (h : ∀ k, k < 8 → ta k = tb k) : ∀ k, k < 8 → ta k = upd tb 1 (tb 1 + nI 0) k := by
  intro k hk
  by_cases e : k = 1
  · rw [e, upd_eq, h 1 (by decide)]
    exact (Int32.add_zero _).symm
  · rw [upd_ne e]; exact h k hk
theorem wOps_sh {wa wb : Nat → Int32} {p p' : Nat} {ops : OPS} (h : ∀ j, j < 4 → wb (p' + j) = wa (p + j)) (hw : wOps wa p ops) : wOps wb p' ops := ⟨hw.1, hw.2.1, fun j hj => (h j hj).trans (hw.2.2 j hj)⟩
theorem c_take {F wa : Nat → Int32} {o : OPS} {t : List OPS} (h : CMw F wa (o :: t)) : ∃ wa', m_X4_takeWaiting F wa = some (upd F 7 (nI t.length), wa') ∧ CMw (upd F 7 (nI t.length)) wa' t := by
  obtain ⟨h1, h2, h3⟩ := h
  rw [List.length_cons] at h1 h2
  refine ⟨va_cpy wa wa 4 0 (t.length * 4), ?_, upd_eq, by omega, fun i ops hi => ?_⟩
  · rw [m_X4_takeWaiting, nm, h1, show nI (t.length + 1) - 1 = nI t.length by rw [show (1 : Int32) = nI 1 from rfl, nI_subE (by omega)]; congr 1, upd_eq, show (4 : Int32) = nI 4 from rfl, show (0 : Int32) = nI 0 from rfl, nI_mulE, cp_nI (by omega) (by omega) (by decide) (by decide)]
  · have hlt := (List.getElem?_eq_some_iff.mp hi).1
    refine wOps_sh (p := 4 * (i + 1)) (fun j hj => ?_) (h3 (i + 1) ops hi)
    unfold va_cpy
    rw [if_pos (by omega)]
    congr 1; omega
theorem c_step_loop {K : (Nat → Int32) → (Nat → Int32) → (Nat → Int32) → (Nat → Int32) → (Nat → Int32) → (Nat → Int32) → (Nat → Int32) → (Nat → Int32) → (Nat → Int32) → (Nat → Int32) → (Nat → Int32) → (Nat → Int32) → (Nat → Int32) → (Nat → Int32) → (Nat → Int32) → (Nat → Int32) → Option (Int32 × (Nat → Int32) × (Nat → Int32) × (Nat → Int32) × (Nat → Int32) × (Nat → Int32) × (Nat → Int32) × (Nat → Int32) × (Nat → Int32) × (Nat → Int32) × (Nat → Int32) × (Nat → Int32) × (Nat → Int32) × (Nat → Int32) × (Nat → Int32) × (Nat → Int32) × (Nat → Int32))} {md st hd ak mi be : Nat → Int32} {mode : Nat} (hm2 : mode < 2) : ∀ (W : List OPS) (A : MA) (i fuel : Nat) (F P sh af wa ta w ad nu ol : Nat → Int32), gW A = W → CM F md st hd ak mi be af wa ta mode A → VM mode A → gS A = 0 → gM A = [] → W.length + i ≤ 12 → W.length < fuel →
    ∃ F' P' sh' mi' af' wa' ta' w' ad' nu' ol', m_X4_step_w2 K fuel (nI i) F P sh md st hd ak mi be af wa ta w ad nu ol = K F' P' sh' md st hd ak mi' be af' wa' ta' w' ad' nu' ol' ∧ CM F' md st hd ak mi' be af' wa' ta' mode (begA mode A).1 := by
  intro W
  induction W with
  | nil =>
    intro A i fuel F P sh af wa ta w ad nu ol hW h hV h0 hm hi hf
    obtain ⟨fuel, rfl⟩ : ∃ d, fuel = d + 1 := ⟨fuel - 1, by omega⟩
    have hfin : CM F md st hd ak mi be af wa ta mode (begA mode A).1 := by
      rw [begA_nil hW]
      obtain ⟨k1, k2, k3, k9, k10, k11, k12, k13, k14⟩ := h
      exact ⟨k1, k2, by rw [hW] at k3; exact k3, k9, k10, k11, tal_0 k12, k13, k14⟩
    rw [m_X4_step_w2]
    by_cases c : 12 ≤ i
    · rw [if_pos (show (12 : Int32) ≤ nI i from nI_le (a := 12) c (by rw [List.length_nil] at hi; omega))]
      exact ⟨F, P, sh, mi, af, wa, ta, w, ad, nu, ol, rfl, hfin⟩
    · rw [if_neg (show ¬ (12 : Int32) ≤ nI i from nI_ge (a := i) (b := 12) (by omega) (by decide)), if_pos (show F 8 = 0 by rw [h.2.2.2.1, h0]; rfl), bd_ok (c_idleA h.2.1), hm, if_pos (show ([] : MM).length = 0 from rfl), if_neg (by decide), if_pos (by rw [h.2.2.1.1, hW]; exact nI_le (a := 0) (b := 0) (Nat.le_refl _) (by decide))]
      exact ⟨F, P, sh, mi, af, wa, ta, w, ad, nu, ol, rfl, hfin⟩
  | cons o t ih =>
    intro A i fuel F P sh af wa ta w ad nu ol hW h hV h0 hm hi hf
    rw [List.length_cons] at hi hf
    obtain ⟨fuel, rfl⟩ : ∃ d, fuel = d + 2 := ⟨fuel - 2, by omega⟩
    obtain ⟨k1, k2, k3, k9, k10, k11, k12, k13, k14⟩ := id h
    rw [hW] at k3
    have hwo := k3.2.2 0 o rfl
    obtain ⟨R, p1, p2, p3⟩ := c_plan (F := P) (sh := sh) (w := w) (ad := ad) (nu := nu) (ol := ol) (i := 0) k1 hV.1 (by decide) hwo
    have p1 : m_X5_plan P sh w ad nu ol md st hd wa 48 0 = some R := p1
    obtain ⟨wa', t1, t2⟩ := c_take k3
    rw [m_X4_step_w2, if_neg (show ¬ (12 : Int32) ≤ nI i from nI_ge (a := i) (b := 12) (by omega) (by decide)), if_pos (show F 8 = 0 by rw [k9, h0]; rfl), bd_ok (c_idleA k2), hm, if_pos (show ([] : MM).length = 0 from rfl), if_neg (by decide), if_neg (by rw [k3.1]; exact nI_ge (a := 0) (b := (o :: t).length) (by rw [List.length_cons]; omega) (by rw [List.length_cons]; omega)), bd_ok p1, bd_ok t1]
    have hps := plan_same (X := gX A) (ops := o)
    cases hp : planT (gX A) o with
    | none =>
      rw [hp] at hps
      have hps : (o.foldl opC ((wordA (gX A), []), true)).2 = false := hps
      rw [hps, if_neg (by decide)] at p2
      rw [p2, if_pos (show nI 0 = 0 from rfl), show (1 : Int32) = nI 1 from rfl, rd_nI (by decide) (by decide), wr_nI (by decide) (by decide), m_X4_step_j69, nm, show nI i + 1 = nI (i + 1) from nI_1 i, begA_void hW hp]
      dsimp only
      refine ih (gX A, gM A, t, gS A, gO A, tal (gT A) 1, gB A, gA A) (i + 1) (fuel + 1) _ _ _ _ _ _ _ _ _ _ rfl ⟨k1, ?_, t2, ?_, ?_, ?_, tal_eq k12 (by decide), k13, k14⟩ ?_ h0 hm (by omega) (by omega)
      · obtain ⟨a, a1, a2, a3⟩ := k2
        exact ⟨a, by rw [upd_ne (by decide)]; exact a1, by rw [upd_ne (by decide)]; exact a2, a3⟩
      · rw [upd_ne (by decide)]; exact k9
      · rw [upd_ne (by decide)]; exact k10
      · rw [upd_ne (by decide)]; exact k11
      · obtain ⟨v1, v2, ⟨v3, v3'⟩, v4⟩ := hV
        exact ⟨v1, v2, ⟨by show t.length ≤ 12; omega, fun o' ho' => v3' o' (by rw [hW]; exact List.mem_cons_of_mem _ ho')⟩, v4⟩
    | some S =>
      rw [hp] at hps
      have hps : o.foldl opC ((wordA (gX A), []), true) = (S, true) := hps
      rw [hps, if_pos rfl] at p2
      rw [hps] at p3
      have hok := planT_ok hV.1 (hV.2.2.1.2 o (by rw [hW]; exact List.mem_cons_self)).2 hp
      have e10 : upd F 7 (nI t.length) 10 = nI (gO A) := by rw [upd_ne (by decide)]; exact k11
      have e9 : upd F 7 (nI t.length) 9 = nI mode := by rw [upd_ne (by decide)]; exact k10
      obtain ⟨B, b1, b2, b3, b4, b5⟩ := c_begin (m := mi) (af := af) e10 hV.2.2.2.2.1 e9 hm2 p3 (fun q hq => (hok.1.2.2.1 q hq).2.1)
      rw [p2, if_neg (by decide), bd_ok b1, m_X4_step_j69, nm, show nI i + 1 = nI (i + 1) from nI_1 i]
      have f8 : B.1 8 = nI 0 := by rw [b4 8 (by decide) (by decide), upd_ne (by decide), k9, h0]
      have hMm : CMm B.1 B.2.1 (microsT mode (gO A) S) (gS A = 1) := ⟨0, b2, by rw [Nat.zero_add]; exact b3.1, by rw [Nat.zero_add]; exact b3.2.1, fun _ => rfl, fun k q hk => by rw [Nat.zero_add]; exact b3.2.2 k q hk⟩
      have hfin : CM B.1 md st hd ak B.2.1 be B.2.2 wa' ta mode (begA mode A).1 := by
        rw [begA_go hW hp]
        refine ⟨k1, hMm, ⟨?_, t2.2⟩, ?_, ?_, ?_, tal_0 k12, k13, b5⟩
        · rw [b4 7 (by decide) (by decide)]; exact upd_eq
        · rw [f8]; show nI 0 = nI (gS A); rw [h0]
        · rw [b4 9 (by decide) (by decide)]; exact e9
        · rw [b4 10 (by decide) (by decide)]; exact e10
      rw [m_X4_step_w2]
      by_cases c : 12 ≤ i + 1
      · rw [if_pos (show (12 : Int32) ≤ nI (i + 1) from nI_le (a := 12) c (by omega))]
        exact ⟨_, _, _, _, _, _, _, _, _, _, _, rfl, hfin⟩
      · have hne : ¬ (microsT mode (gO A) S).length = 0 := fun e => (micros_fin (mode := mode) (s := gO A) hok.1 hok.2).2.1 (List.length_eq_zero_iff.mp e)
        rw [if_neg (show ¬ (12 : Int32) ≤ nI (i + 1) from nI_ge (a := i + 1) (b := 12) (by omega) (by decide)), if_pos (show B.1 8 = 0 from f8), bd_ok (c_idleA hMm), if_neg hne, if_pos (show nI 0 = 0 from rfl)]
        exact ⟨_, _, _, _, _, _, _, _, _, _, _, rfl, hfin⟩
theorem c_step {F P sh md st hd ak mi be af wa ta w ad nu ol : Nat → Int32} {mode : Nat} {A : MA} (hm2 : mode < 2) (h : CM F md st hd ak mi be af wa ta mode A) (hV : VM mode A) :
    ∃ F' P' sh' md' st' hd' ak' mi' be' af' wa' ta' w' ad' nu' ol', m_X4_step F P sh md st hd ak mi be af wa ta w ad nu ol = some (nI (if (stepA mode A).2 = true then 1 else 0), F', P', sh', md', st', hd', ak', mi', be', af', wa', ta', w', ad', nu', ol') ∧ CM F' md' st' hd' ak' mi' be' af' wa' ta' mode (stepA mode A).1 := by
  have h4 := hV.2.2.2.1
  have stop : ∀ (F P sh mi af wa ta w ad nu ol : Nat → Int32) (B : MA), CM F md st hd ak mi be af wa ta mode B → (gM B).length = 0 → m_X4_step_j75 F P sh md st hd ak mi be af wa ta w ad nu ol = some (nI 0, F, P, sh, md, st, hd, ak, mi, be, af, wa, ta, w, ad, nu, ol) := by
    intro F P sh mi af wa ta w ad nu ol B hB hm
    rw [m_X4_step_j75, bd_ok (c_idleA hB.2.1), if_pos hm, if_neg (by decide)]; rfl
  have pass : ∀ n, ¬ gS A = 0 ∨ ¬ (gM A).length = 0 → m_X4_step_w2 m_X4_step_j75 (n + 1) 0 F P sh md st hd ak mi be af wa ta w ad nu ol = m_X4_step_j75 F P sh md st hd ak mi be af wa ta w ad nu ol := by
    intro n hx
    rw [m_X4_step_w2, if_neg (show ¬ (12 : Int32) ≤ 0 by decide)]
    by_cases c : gS A = 0
    · rcases hx with hx | hx
      · exact absurd c hx
      · rw [if_pos (show F 8 = 0 by rw [h.2.2.2.1, c]; rfl), bd_ok (c_idleA h.2.1), if_neg hx, if_pos (show nI 0 = 0 from rfl)]
    · rw [if_neg (show ¬ F 8 = 0 by rw [h.2.2.2.1]; exact fun e => c (nI_inj (b := 0) (by omega) (by decide) e))]
  rw [m_X4_step]
  unfold stepA
  by_cases c1 : gS A = 1
  · rw [if_pos c1, show fuelN = 99999 + 1 from rfl, pass 99999 (Or.inl (by omega)), stop _ _ _ _ _ _ _ _ _ _ _ A h (by rw [(hV.2.2.2.2.2.1 c1).1]; rfl)]
    exact ⟨_, _, _, _, _, _, _, _, _, _, _, _, _, _, _, _, rfl, h⟩
  · rw [if_neg c1]
    by_cases c2 : (gM A).length = 0
    · rw [if_pos c2]
      have hm : gM A = [] := List.length_eq_zero_iff.mp c2
      have h0 : gS A = 0 := by
        by_cases e : gS A = 2
        · exact absurd hm (hV.2.2.2.2.2.2.1 e)
        · omega
      obtain ⟨F', P', sh', mi', af', wa', ta', w', ad', nu', ol', g1, g2⟩ := c_step_loop (K := m_X4_step_j75) hm2 (gW A) A 0 fuelN F P sh af wa ta w ad nu ol rfl h hV h0 hm (by have := hV.2.2.1.1; omega) (by have := hV.2.2.1.1; rw [fuel_is]; omega)
      obtain ⟨b1, b2, b3⟩ := VM_beg hV h0 hm
      have g1 : m_X4_step_w2 m_X4_step_j75 fuelN 0 F P sh md st hd ak mi be af wa ta w ad nu ol = _ := g1
      rw [g1]
      by_cases c3 : (begA mode A).2 = true
      · rw [if_pos c3]
        cases hq : gM (begA mode A).1 with
        | nil => exact absurd hq (b3 c3)
        | cons q t =>
          obtain ⟨F2, md2, st2, hd2, ak2, be2, ta2, d1, d2⟩ := c_do (P := P') (sh := sh') (w := w') (ad := ad') (nu := nu') (ol := ol') g2 b1 hq
          rw [d1]
          refine ⟨_, _, _, _, _, _, _, _, _, _, _, _, _, _, _, _, rfl, ?_⟩
          show CM _ _ _ _ _ _ _ _ _ _ mode (doA (begA mode A).1)
          unfold doA
          rw [hq]; exact d2
      · have hnil : gM (begA mode A).1 = [] := by
          have : (begA mode A).2 = false := by simpa using c3
          unfold begA at this ⊢
          cases hb : (begL (gX A) (gW A)).2.1 with
          | none => exact hm
          | some S => rw [hb] at this; cases this
        rw [if_neg c3, stop _ _ _ _ _ _ _ _ _ _ _ _ g2 (by rw [hnil]; rfl)]
        exact ⟨_, _, _, _, _, _, _, _, _, _, _, _, _, _, _, _, rfl, g2⟩
    · rw [if_neg c2, show fuelN = 99999 + 1 from rfl, pass 99999 (Or.inr c2)]
      cases hq : gM A with
      | nil => rw [hq] at c2; exact absurd rfl c2
      | cons q t =>
        obtain ⟨F2, md2, st2, hd2, ak2, be2, ta2, d1, d2⟩ := c_do (P := P) (sh := sh) (w := w) (ad := ad) (nu := nu) (ol := ol) h hV hq
        rw [d1]
        refine ⟨_, _, _, _, _, _, _, _, _, _, _, _, _, _, _, _, rfl, ?_⟩
        show CM _ _ _ _ _ _ _ _ _ _ mode (doA A)
        unfold doA
        rw [hq]; exact d2
