/-! ===== the check ===== -/
def setO (o : Nat) (A : MA) : MA := (gX A, gM A, gW A, gS A, o, gT A, gB A, gA A)
theorem VM_setO {mode o : Nat} {A : MA} (hV : VM mode A) (ho : o < 128) : VM mode (setO o A) := by
  obtain ⟨v1, v2, v3, v4, v5, v6⟩ := hV
  exact ⟨v1, v2, v3, v4, ho, v6⟩
def ckA (mode : Nat) : Nat → MA → Nat → BS → BS × Bool
  | 0, _, _, s => (s, false)
  | n + 1, A, step, s => if 2000 < totN (gX A) 16 then (s, true) else if (gM A).length = 0 then (bdA mode A step (totN (gX A) 16) s, false) else ckA mode n (stepA mode A).1 (step + 1) (bdA mode A step (totN (gX A) 16) s)
def goesA (mode : Nat) (d : Bool) (A : MA) : Bool := if (gM A).length = 0 then (!d && (begA mode A).2) else true
def chk0 (mode : Nat) (g : Bool) (A : MA) : BS × Bool := if 2000 < totN (gX A) 16 then ((0, none), true) else if g = true then ckA mode 100 (stepA mode A).1 1 (bdA mode A 0 (totN (gX A) 16) (0, none)) else (bdA mode A 0 (totN (gX A) 16) (0, none), false)
def chk1 (mode : Nat) (d : Bool) (A : MA) : BS × Bool := chk0 mode (goesA mode d A) A
def chkA (mode : Nat) (A : MA) : BS × Bool := if gS A = 1 then chk1 mode true (recovA mode A) else chk1 mode false A
theorem recov_s {mode : Nat} {A : MA} : ¬ gS (recovA mode A) = 1 := by
  unfold recovA
  by_cases c : (gX A).1 0 = 0
  · rw [if_pos c]; exact Nat.zero_ne_one
  · rw [if_neg c]; exact (show ¬ (2 : Nat) = 1 by decide)
theorem step_dn {mode k : Nat} {A : MA} (h1 : ¬ gS A = 1) (hk : (gM A).length = k + 1) : (stepA mode A).2 = true ∧ (gM (stepA mode A).1).length = k ∧ ¬ gS (stepA mode A).1 = 1 := by
  unfold stepA
  rw [if_neg h1, if_neg (show ¬ (gM A).length = 0 by omega)]
  cases hm : gM A with
  | nil => rw [hm] at hk; cases hk
  | cons q t =>
    have e : doA A = popA q t A := by unfold doA; rw [hm]
    rw [hm] at hk
    rw [e]
    refine ⟨rfl, Nat.succ.inj hk, ?_⟩
    show ¬ (if t.length = 0 then 0 else gS A) = 1
    by_cases c : t.length = 0
    · rw [if_pos c]; decide
    · rw [if_neg c]; exact h1
theorem beg_len {mode : Nat} {A : MA} (hV : VM mode A) (h : (begA mode A).2 = true) : (gM (begA mode A).1).length ≤ 80 := by
  obtain ⟨b1, b2, b3⟩ := begL_sub (gX A) (gW A)
  rw [begA_2] at h
  unfold begA
  cases hb : (begL (gX A) (gW A)).2.1 with
  | none => rw [hb] at h; cases h
  | some S =>
    obtain ⟨o, o1, o2⟩ := b3 S hb
    obtain ⟨p1, p2⟩ := planT_ok hV.1 (hV.2.2.1.2 o o1).2 o2
    exact (micros_fin (mode := mode) (s := gO A) p1 p2).2.2.1
theorem idle_s {mode : Nat} {A : MA} (hV : VM mode A) (h1 : ¬ gS A = 1) (c : (gM A).length = 0) : gS A = 0 ∧ gM A = [] := by
  have hm : gM A = [] := List.length_eq_zero_iff.mp c
  have h4 := hV.2.2.2.1
  have h7 := hV.2.2.2.2.2.2.1
  refine ⟨?_, hm⟩
  by_cases d : gS A = 2
  · exact absurd hm (h7 d)
  · omega
theorem step_len {mode : Nat} {A : MA} (hV : VM mode A) (hl : (gM A).length ≤ 80) (h1 : ¬ gS A = 1) (h : (stepA mode A).2 = true) : (gM (stepA mode A).1).length + 1 ≤ 80 ∧ ¬ gS (stepA mode A).1 = 1 := by
  by_cases c : (gM A).length = 0
  · obtain ⟨h0, hm⟩ := idle_s hV h1 c
    obtain ⟨w1, w2, w3⟩ := VM_beg hV h0 hm
    unfold stepA at h ⊢
    rw [if_neg h1, if_pos c] at h ⊢
    by_cases d : (begA mode A).2 = true
    · rw [if_pos d]
      have hlen := beg_len hV d
      cases hb : gM (begA mode A).1 with
      | nil => exact absurd hb (w3 d)
      | cons q t =>
        have e : doA (begA mode A).1 = popA q t (begA mode A).1 := by unfold doA; rw [hb]
        rw [e]
        rw [hb] at hlen
        refine ⟨hlen, ?_⟩
        show ¬ (if t.length = 0 then 0 else gS (begA mode A).1) = 1
        rw [w2]
        by_cases z : t.length = 0
        · rw [if_pos z]; decide
        · rw [if_neg z]; decide
    · rw [if_neg d] at h; cases h
  · obtain ⟨k, hk⟩ : ∃ k, (gM A).length = k + 1 := ⟨(gM A).length - 1, by omega⟩
    obtain ⟨_, b, c⟩ := step_dn (mode := mode) h1 hk
    exact ⟨by omega, c⟩
theorem goes_eq {mode : Nat} {d : Bool} {A : MA} (h1 : ¬ gS A = 1) (h : ¬ (d && decide ((gM A).length = 0)) = true) : goesA mode d A = (stepA mode A).2 := by
  unfold goesA stepA
  rw [if_neg h1]
  by_cases c : (gM A).length = 0
  · rw [if_pos c, if_pos c]
    rw [decide_eq_true c, Bool.and_true] at h
    cases d with
    | true => exact absurd rfl h
    | false =>
      by_cases e : (begA mode A).2 = true
      · rw [if_pos e]; exact e
      · rw [if_neg e]
        cases he : (begA mode A).2 with
        | true => exact absurd he e
        | false => rfl
  · rw [if_neg c, if_neg c]
theorem ck_mono {mode : Nat} : ∀ (n : Nat) (A : MA) (step : Nat) (s : BS), s.1 ≤ (ckA mode n A step s).1.1 := by
  intro n
  induction n with
  | zero => intro A step s; exact Nat.le_refl _
  | succ n ih =>
    intro A step s
    rw [ckA]
    by_cases c : 2000 < totN (gX A) 16
    · rw [if_pos c]; exact Nat.le_refl _
    · rw [if_neg c]
      by_cases d : (gM A).length = 0
      · rw [if_pos d]; exact bdA_mono _
      · rw [if_neg d]; exact Nat.le_trans (bdA_mono _) (ih _ _ _)
def EncH (h : Bool) (F : Nat → Int32) (s : BS) : Prop := match h with
  | true => F 3 = nI (bN (decide (¬ s.1 = 0)))
  | false => EncC F s
def EncF (h : Bool) (F : Nat → Int32) (R : BS × Bool) : Prop := match h with
  | true => (F 3 = 0 ∧ F 6 = 0 ↔ R.1.1 = 0 ∧ R.2 = false)
  | false => EncC F R.1 ∧ F 6 = nI (bN R.2)
theorem encH_3 {F : Nat → Int32} {s : BS} (h : EncH true F s) : F 3 = 0 ↔ s.1 = 0 := by
  have h : F 3 = nI (bN (decide (¬ s.1 = 0))) := h
  rw [h]
  by_cases c : s.1 = 0
  · rw [decide_eq_false (fun e => e c)]; exact ⟨fun _ => c, fun _ => rfl⟩
  · rw [decide_eq_true c]; exact ⟨fun e => absurd e (by decide), fun e => absurd e c⟩
theorem encF_fin {h : Bool} {F : Nat → Int32} {s : BS} (hE : EncH h F s) (h6 : F 6 = 0) : EncF h F (s, false) := by
  cases h with
  | true => exact ⟨fun e => ⟨(encH_3 hE).mp e.1, rfl⟩, fun e => ⟨(encH_3 hE).mpr e.1, h6⟩⟩
  | false => exact ⟨hE, h6⟩
theorem encF_cap {h : Bool} {F : Nat → Int32} {s : BS} (hE : EncH h F s) : EncF h (upd F 6 1) (s, true) := by
  cases h with
  | true => exact ⟨fun e => absurd (upd_eq.symm.trans e.2) (show ¬ (1 : Int32) = 0 by decide), fun e => by cases e.2⟩
  | false => exact ⟨⟨(upd_ne (by decide)).trans hE.1, (upd_ne (by decide)).trans hE.2.1, (upd_ne (by decide)).trans hE.2.2⟩, upd_eq⟩
theorem okB_le {n m : Nat} {s : BS} (h : okB n s) (hn : n ≤ m) : okB m s := ⟨Nat.le_trans h.1 hn, h.2⟩
theorem c_countH {h : Bool} {F Ft md st hd ak be af row pic se : Nat → Int32} {mode step n : Nat} {A : MA} {s : BS} (hm : mode < 2) (hV : VM mode A) (hC : CC md st hd ak (gX A)) (h9 : Ft 9 = nI mode) (hb : ∀ k, k < 44 → be k = nI (gB A k)) (ha : ∀ k, k < 44 → af k = nI (gA A k)) (hs : okB n s) (hst : step ≤ 100) (hn : n ≤ 1000000) (hT : totN (gX A) 16 ≤ 2000) (h0 : h = true → s.1 = 0) (hE : EncH h F s) :
    ∃ F' row' pic' se', m_X2_countBad F Ft md st hd be af row pic se (nI step) (nI (bN h)) = some (F', row', pic', se') ∧ EncH h F' (bdA mode A step (totN (gX A) 16) s) ∧ F' 6 = F 6 := by
  cases h with
  | false => exact c_countBad hm hV hC h9 hb ha hs hst hn hT hE
  | true =>
    have z := h0 rfl
    have hE : F 3 = nI (bN (decide (¬ s.1 = 0))) := hE
    rw [decide_eq_false (fun e => e z)] at hE
    exact c_countHasty hm hV hC h9 hb ha hT hE z
theorem c_run_157 {Fp md0 st0 hd0 ak0 mi0 be0 af0 wa0 ta0 : Nat → Int32} {p2 x5 : Int32} {h : Bool} {mode step : Nat} {A : MA} {s : BS} {R : BS × Bool} {K : Int32 → Int32 → (Nat → Int32) → (Nat → Int32) → (Nat → Int32) → (Nat → Int32) → (Nat → Int32) → (Nat → Int32) → (Nat → Int32) → (Nat → Int32) → (Nat → Int32) → (Nat → Int32) → (Nat → Int32) → (Nat → Int32) → (Nat → Int32) → (Nat → Int32) → (Nat → Int32) → (Nat → Int32) → (Nat → Int32) → (Nat → Int32) → (Nat → Int32) → (Nat → Int32) → Option ((Nat → Int32) × (Nat → Int32) × (Nat → Int32) × (Nat → Int32) × (Nat → Int32) × (Nat → Int32) × (Nat → Int32) × (Nat → Int32) × (Nat → Int32) × (Nat → Int32) × (Nat → Int32) × (Nat → Int32) × (Nat → Int32) × (Nat → Int32) × (Nat → Int32) × (Nat → Int32) × (Nat → Int32) × (Nat → Int32) × (Nat → Int32) × (Nat → Int32))} {F T P sh md st hd ak mi be af wa ta w ad nu ol row pic se : Nat → Int32} (hm2 : mode < 2) (hC : CM T md st hd ak mi be af wa ta mode A) (hV : VM mode A) (hE : EncH h F s) (h6 : F 6 = 0) (hR1 : h = true → ¬ s.1 = 0 → ¬ R.1.1 = 0) (hR0 : (stepA mode A).2 = false → R = (s, false))
    (hK : (stepA mode A).2 = true → (h = true → s.1 = 0) → ∀ T P sh md st hd ak mi be af wa ta w ad nu ol : Nat → Int32, CM T md st hd ak mi be af wa ta mode (stepA mode A).1 → ∃ U, K x5 (nI (step + 1)) F T P sh md st hd ak mi be af wa ta w ad nu ol row pic se = some U ∧ EncF h U.1 R) :
    ∃ U, m_X2_run_j157 Fp md0 st0 hd0 ak0 mi0 be0 af0 wa0 ta0 p2 (nI (bN h)) K x5 (nI step) 0 F T P sh md st hd ak mi be af wa ta w ad nu ol row pic se = some U ∧ EncF h U.1 R := by
  have j175 : (h = true → s.1 = 0) → ∃ U, m_X2_run_j175 Fp md0 st0 hd0 ak0 mi0 be0 af0 wa0 ta0 p2 (nI (bN h)) K x5 (nI step) F T P sh md st hd ak mi be af wa ta w ad nu ol row pic se = some U ∧ EncF h U.1 R := by
    intro hz
    obtain ⟨T', P', sh', md', st', hd', ak', mi', be', af', wa', ta', w', ad', nu', ol', f1, f2⟩ := c_step (P := P) (sh := sh) (w := w) (ad := ad) (nu := nu) (ol := ol) hm2 hC hV
    rw [m_X2_run_j175, bd_ok f1]
    dsimp only
    by_cases c : (stepA mode A).2 = true
    · rw [if_neg (show ¬ nI (if (stepA mode A).2 = true then 1 else 0) = 0 by rw [if_pos c]; decide), nm, show nI step + 1 = nI (step + 1) from nI_1 _]
      exact hK c hz _ _ _ _ _ _ _ _ _ _ _ _ _ _ _ _ f2
    · rw [if_pos (show nI (if (stepA mode A).2 = true then 1 else 0) = 0 by rw [if_neg c]; rfl)]
      refine ⟨_, rfl, ?_⟩
      rw [hR0 (Bool.eq_false_iff.mpr c)]
      exact encF_fin hE h6
  rw [m_X2_run_j157, if_pos rfl]
  cases h with
  | false =>
    rw [if_pos (show nI (bN false) = 0 from rfl)]
    exact j175 (fun e => by cases e)
  | true =>
    rw [if_neg (show ¬ nI (bN true) = 0 by decide)]
    by_cases z : s.1 = 0
    · rw [if_neg (show ¬ 0 < F 3 by rw [(encH_3 hE).mpr z]; decide)]
      exact j175 (fun _ => z)
    · have e3 : F 3 = nI (bN (decide (¬ s.1 = 0))) := hE
      rw [decide_eq_true z] at e3
      rw [if_pos (show 0 < F 3 by rw [e3]; decide)]
      exact ⟨_, rfl, fun e => absurd ((encH_3 hE).mp e.1) z, fun e => absurd e.1 (hR1 rfl z)⟩
theorem tot_le {t : Nat} (ht : t < 2 ^ 63) : (lg_cmp (lN t) 2000 ≤ 0 ↔ t ≤ 2000) := by
  show (lg_cmp (lN t) (lN 2000) ≤ 0 ↔ _)
  rw [lg_cmp_le]
  exact pk_lLE ht (by decide)
theorem c_run_loop {Fp md0 st0 hd0 ak0 mi0 be0 af0 wa0 ta0 : Nat → Int32} {p2 : Int32} {h : Bool} {mode : Nat} (hm2 : mode < 2) : ∀ (n : Nat) (A : MA) (step fuel : Nat) (s : BS) (F T P sh md st hd ak mi be af wa ta w ad nu ol row pic se : Nat → Int32), (gM A).length + 1 ≤ n → n < fuel → 1 ≤ step → (gM A).length + step ≤ 80 → CM T md st hd ak mi be af wa ta mode A → VM mode A → ¬ gS A = 1 → okB (2000 * step) s → (h = true → s.1 = 0) → EncH h F s → F 6 = 0 →
    ∃ U, m_X2_run_w95 Fp md0 st0 hd0 ak0 mi0 be0 af0 wa0 ta0 p2 (nI (bN h)) (m_X2_run_j119 Fp md0 st0 hd0 ak0 mi0 be0 af0 wa0 ta0 p2 (nI (bN h))) fuel 0 (nI step) F T P sh md st hd ak mi be af wa ta w ad nu ol row pic se = some U ∧ EncF h U.1 (ckA mode n A step s) := by
  intro n
  induction n with
  | zero => intro A step fuel s F T P sh md st hd ak mi be af wa ta w ad nu ol row pic se hl; exact absurd hl (by omega)
  | succ n ih =>
    intro A step fuel s F T P sh md st hd ak mi be af wa ta w ad nu ol row pic se hl hf h1 h80 hC hV hS hs h0 hE h6
    obtain ⟨fuel, rfl⟩ : ∃ d, fuel = d + 1 := ⟨fuel - 1, by omega⟩
    have ht := tot_lt hV.1
    rw [m_X2_run_w95, if_neg (show ¬ (80 : Int32) < nI step from nI_nlt (a := 80) (b := step) (by omega) (by decide)), bd_ok (c_total hC.1 hV.1)]
    by_cases c : 2000 < totN (gX A) 16
    · rw [if_neg (fun e => by
        have := (tot_le ht).mp e
        omega), m_X2_run_j119, cb_1, nm, ckA, if_pos c]
      exact ⟨_, rfl, encF_cap hE⟩
    · obtain ⟨F', row', pic', se', q1, q2, q3⟩ := c_countH (row := row) (pic := pic) (se := se) (step := step) hm2 hV hC.1 hC.2.2.2.2.1 hC.2.2.2.2.2.2.2.1 hC.2.2.2.2.2.2.2.2 hs (by omega) (by omega) (by omega) h0 hE
      rw [if_pos ((tot_le ht).mpr (by omega)), bd_ok q1]
      dsimp only
      rw [if_pos rfl, if_neg (show ¬ nI step ≤ 0 from nI_ge (a := 0) (b := step) (by omega) (by omega)), bd_ok (c_idleA hC.2.1)]
      by_cases d : (gM A).length = 0
      · have e1 : ckA mode (n + 1) A step s = (bdA mode A step (totN (gX A) 16) s, false) := by rw [ckA, if_neg c, if_pos d]
        rw [e1, if_neg (show ¬ nI (if (gM A).length = 0 then 1 else 0) = 0 by rw [if_pos d]; decide), m_X2_run_j152, m_X2_run_j157, if_neg (show ¬ (1 : Int32) = 0 by decide)]
        exact ⟨_, rfl, encF_fin q2 (q3.trans h6)⟩
      · have e1 : ckA mode (n + 1) A step s = ckA mode n (stepA mode A).1 (step + 1) (bdA mode A step (totN (gX A) 16) s) := by rw [ckA, if_neg c, if_neg d]
        obtain ⟨k, hk⟩ : ∃ k, (gM A).length = k + 1 := ⟨(gM A).length - 1, by omega⟩
        obtain ⟨d1, d2, d3⟩ := step_dn (mode := mode) hS hk
        rw [e1, if_pos (show nI (if (gM A).length = 0 then 1 else 0) = 0 by rw [if_neg d]; rfl), m_X2_run_j156]
        refine c_run_157 hm2 hC hV q2 (q3.trans h6) (fun _ z e => ?_) (fun e => ?_) (fun _ hz T' P' sh' md' st' hd' ak' mi' be' af' wa' ta' w' ad' nu' ol' hC' => ?_)
        · have := ck_mono (mode := mode) n (stepA mode A).1 (step + 1) (bdA mode A step (totN (gX A) 16) s)
          omega
        · rw [d1] at e; cases e
        · exact ih (stepA mode A).1 (step + 1) fuel _ _ _ _ _ _ _ _ _ _ _ _ _ _ _ _ _ _ _ _ _ (by omega) (by omega) (by omega) (by omega) hC' (VM_step hV) d3 (okB_le (okB_bd hs (by omega) _ (by omega)) (by omega)) hz q2 (q3.trans h6)
theorem okB_0 : okB 0 ((0, none) : BS) := ⟨Nat.le_refl _, ⟨fun _ => rfl, fun _ => rfl⟩, fun q e => by cases e⟩
theorem c_run_first {Fp md0 st0 hd0 ak0 mi0 be0 af0 wa0 ta0 : Nat → Int32} {p2 : Int32} {h d : Bool} {mode : Nat} {A : MA} {F T P sh md st hd ak mi be af wa ta w ad nu ol row pic se : Nat → Int32} (hm2 : mode < 2) (hC : CM T md st hd ak mi be af wa ta mode A) (hV : VM mode A) (hS : ¬ gS A = 1) (hE : EncH h F (0, none)) (h6 : F 6 = 0) {x5 : Int32} (hx : x5 = nI (bN (d && decide ((gM A).length = 0)))) :
    ∃ U, m_X2_run_j90 Fp md0 st0 hd0 ak0 mi0 be0 af0 wa0 ta0 p2 (nI (bN h)) x5 F T P sh md st hd ak mi be af wa ta w ad nu ol row pic se = some U ∧ EncF h U.1 (chk1 mode d A) := by
  have ht := tot_lt hV.1
  have hl80 : (gM A).length ≤ 80 := by
    obtain ⟨a, _, _, a3, _⟩ := hC.2.1
    omega
  rw [m_X2_run_j90, show fuelN = 99999 + 1 from rfl, m_X2_run_w95, if_neg (show ¬ (80 : Int32) < 0 by decide), bd_ok (c_total hC.1 hV.1)]
  unfold chk1 chk0
  by_cases c : 2000 < totN (gX A) 16
  · rw [if_neg (fun e => by
      have := (tot_le ht).mp e
      omega), m_X2_run_j119, cb_1, nm, if_pos c]
    exact ⟨_, rfl, encF_cap hE⟩
  · obtain ⟨F', row', pic', se', q1, q2, q3⟩ := c_countH (row := row) (pic := pic) (se := se) (step := 0) (s := (0, none)) hm2 hV hC.1 hC.2.2.2.2.1 hC.2.2.2.2.2.2.2.1 hC.2.2.2.2.2.2.2.2 okB_0 (by omega) (by omega) (by omega) (fun _ => rfl) hE
    have q1 : m_X2_countBad F T md st hd be af row pic se 0 (nI (bN h)) = some (F', row', pic', se') := q1
    rw [if_pos ((tot_le ht).mpr (by omega)), bd_ok q1, if_neg c]
    dsimp only
    by_cases e : (d && decide ((gM A).length = 0)) = true
    · rw [e] at hx
      have hg : ¬ goesA mode d A = true := by
        rw [Bool.and_eq_true, decide_eq_true_eq] at e
        unfold goesA
        rw [if_pos e.2, e.1]
        exact fun z => by cases z
      rw [if_neg (show ¬ x5 = 0 by rw [hx]; decide), if_neg hg, m_X2_run_j152, m_X2_run_j157, if_neg (show ¬ (1 : Int32) = 0 by decide)]
      exact ⟨_, rfl, encF_fin q2 (q3.trans h6)⟩
    · have hg := goes_eq (mode := mode) hS e
      rw [Bool.eq_false_iff.mpr e] at hx
      have hx : x5 = 0 := hx
      rw [if_pos hx, if_pos (show (0 : Int32) ≤ 0 by decide), m_X2_run_j156, hg]
      have z0 : (0 : Int32) = nI 0 := rfl
      rw [hx]
      refine c_run_157 (step := 0) hm2 hC hV q2 (q3.trans h6) (fun _ z e => ?_) (fun e => ?_) (fun e hz T' P' sh' md' st' hd' ak' mi' be' af' wa' ta' w' ad' nu' ol' hC' => ?_)
      · by_cases g : (stepA mode A).2 = true
        · rw [if_pos g] at e
          have := ck_mono (mode := mode) 100 (stepA mode A).1 1 (bdA mode A 0 (totN (gX A) 16) (0, none))
          omega
        · rw [if_neg g] at e
          exact z e
      · rw [if_neg (by rw [e]; decide)]
      · rw [if_pos e]
        obtain ⟨s1, s2⟩ := step_len hV hl80 hS e
        exact c_run_loop hm2 100 (stepA mode A).1 1 99999 _ _ _ _ _ _ _ _ _ _ _ _ _ _ _ _ _ _ _ _ _ (by omega) (by omega) (by omega) (by omega) hC' (VM_step hV) s2 (okB_le (okB_bd okB_0 (by omega) _ (by omega)) (by omega)) hz q2 (q3.trans h6)
theorem c_run {Fp md0 st0 hd0 ak0 mi0 be0 af0 wa0 ta0 : Nat → Int32} {h : Bool} {mode o : Nat} {A : MA} {F T P sh md st hd ak mi be af wa ta w ad nu ol row pic se : Nat → Int32} (hm2 : mode < 2) (hC0 : CM Fp md0 st0 hd0 ak0 mi0 be0 af0 wa0 ta0 mode A) (hV0 : VM mode A) (ho : o < 128) :
    ∃ U, m_X2_run F T P sh Fp md st hd ak mi be af wa ta w ad nu ol row pic se md0 st0 hd0 ak0 mi0 be0 af0 wa0 ta0 (nI o) (nI (bN h)) = some U ∧ EncF h U.1 (chkA mode (setO o A)) := by
  obtain ⟨R, r1, r2⟩ := c_copyFrom (F' := T) (md' := md) (st' := st) (hd' := hd) (ak' := ak) (mi' := mi) (be' := be) (af' := af) (wa' := wa) (ta' := ta) hV0 hC0
  have hV := VM_setO hV0 ho
  rw [m_X2_run, bd_ok r1, nm, nm, nm, nm, cb_0, nm]
  have hC : CM (upd R.1 10 (nI o)) R.2.1 R.2.2.1 R.2.2.2.1 R.2.2.2.2.1 R.2.2.2.2.2.1 R.2.2.2.2.2.2.1 R.2.2.2.2.2.2.2.1 R.2.2.2.2.2.2.2.2.1 R.2.2.2.2.2.2.2.2.2 mode (setO o A) := by
    obtain ⟨k1, ⟨a, k2, k3, k4, k5, k6⟩, ⟨k7, k7', k8⟩, k9, k10, k11, k12, k13, k14⟩ := r2
    exact ⟨k1, ⟨a, (upd_ne (by decide)).trans k2, (upd_ne (by decide)).trans k3, k4, k5, k6⟩, ⟨(upd_ne (by decide)).trans k7, k7', k8⟩, (upd_ne (by decide)).trans k9, (upd_ne (by decide)).trans k10, upd_eq, k12, k13, k14⟩
  have hE : EncH h (upd (upd (upd (upd F 3 0) 4 (-1)) 5 (-1)) 6 0) (0, none) := by
    have e3 : upd (upd (upd (upd F 3 0) 4 (-1)) 5 (-1)) 6 0 3 = nI 0 := by rw [upd_ne (by decide), upd_ne (by decide), upd_ne (by decide), upd_eq]; rfl
    cases h with
    | true => exact e3
    | false => exact ⟨e3, by rw [upd_ne (by decide), upd_ne (by decide), upd_eq]; rfl, by rw [upd_ne (by decide), upd_eq]; rfl⟩
  have h8 : upd R.1 10 (nI o) 8 = nI (gS A) := hC.2.2.2.1
  unfold chkA
  by_cases c : gS A = 1
  · rw [if_pos (show gS (setO o A) = 1 from c)]
    obtain ⟨Q, q1, q2⟩ := c_beginRecovery (P := P) (ad := ad) (nu := nu) hm2 hC hV c
    have hVr := VM_recov hV c
    rw [if_pos (show upd R.1 10 (nI o) 8 = 1 by rw [h8, c]; rfl), m_X2_run_j52, if_neg (show ¬ (1 : Int32) = 0 by decide), bd_ok q1, m_X2_run_j70, if_neg (show ¬ (1 : Int32) = 0 by decide), bd_ok (c_idleA q2.2.1)]
    by_cases d : (gM (recovA mode (setO o A))).length = 0
    · rw [if_neg (show ¬ nI (if (gM (recovA mode (setO o A))).length = 0 then 1 else 0) = 0 by rw [if_pos d]; decide)]
      exact c_run_first (d := true) hm2 q2 hVr recov_s hE upd_eq (by rw [decide_eq_true d]; rfl)
    · rw [if_pos (show nI (if (gM (recovA mode (setO o A))).length = 0 then 1 else 0) = 0 by rw [if_neg d]; rfl), m_X2_run_j89]
      exact c_run_first (d := true) hm2 q2 hVr recov_s hE upd_eq (by rw [decide_eq_false d]; rfl)
  · rw [if_neg (show ¬ gS (setO o A) = 1 from c), if_neg (show ¬ upd R.1 10 (nI o) 8 = 1 by
      rw [h8]
      have : gS A ≤ 2 := hV0.2.2.2.1
      exact fun e => c (nI_inj (b := 1) (by omega) (by decide) e)), m_X2_run_j52, if_pos rfl, m_X2_run_j70, if_pos rfl, m_X2_run_j89]
    exact c_run_first (d := false) hm2 hC hV c hE upd_eq rfl
