/-! ===== steps one behind the other; whether one can be made ===== -/
def goA (mode : Nat) : Nat → MA → MA × Nat
  | 0, A => (A, 0)
  | n + 1, A => if (stepA mode A).2 = true then ((goA mode n (stepA mode A).1).1, (goA mode n (stepA mode A).1).2 + 1) else ((stepA mode A).1, 0)
theorem goA_le {mode : Nat} : ∀ (n : Nat) (A : MA), (goA mode n A).2 ≤ n := by
  intro n
  induction n with
  | zero => intro A; exact Nat.le_refl _
  | succ n ih =>
    intro A
    rw [goA]
    by_cases c : (stepA mode A).2 = true
    · rw [if_pos c]; exact Nat.succ_le_succ (ih _)
    · rw [if_neg c]; exact Nat.zero_le _
theorem VM_go {mode : Nat} : ∀ (n : Nat) (A : MA), VM mode A → VM mode (goA mode n A).1 := by
  intro n
  induction n with
  | zero => intro A h; exact h
  | succ n ih =>
    intro A h
    rw [goA]
    by_cases c : (stepA mode A).2 = true
    · rw [if_pos c]; exact ih _ (VM_step h)
    · rw [if_neg c]; exact VM_step h
theorem r_goes_loop {b mode many : Nat} (hm2 : mode < 2) (hb : b + 786 ≤ 66100) (hmany : many < 1000) : ∀ (n x fuel : Nat) (A : MA) (F rows w ad nu : Nat → Int32), x + n = many → n < fuel → RM rows b A → VM mode A → F 12 = nI mode →
    ∃ F' r w' ad' nu', m_X12_goes_w2 (nI b) (nI many) fuel (nI x) F rows w ad nu = some (nI (x + (goA mode n A).2), F', r, w', ad', nu') ∧ RM r b (goA mode n A).1 ∧ frF F' F ∧ frR r rows b := by
  intro n
  induction n with
  | zero =>
    intro x fuel A F rows w ad nu hx hf hR hV hF
    obtain ⟨fuel, rfl⟩ : ∃ d, fuel = d + 1 := ⟨fuel - 1, by omega⟩
    rw [m_X12_goes_w2, if_pos (nI_le (by omega) (by omega))]
    exact ⟨_, _, _, _, _, rfl, hR, fun _ _ => rfl, frR_refl⟩
  | succ n ih =>
    intro x fuel A F rows w ad nu hx hf hR hV hF
    obtain ⟨fuel, rfl⟩ : ∃ d, fuel = d + 1 := ⟨fuel - 1, by omega⟩
    obtain ⟨F', r, w', ad', nu', g1, g2, g3, g4⟩ := r_isStep (w := w) (ad := ad) (nu := nu) hm2 hb hR hV hF
    rw [m_X12_goes_w2, if_neg (nI_ge (by omega) (by omega)), bd_ok g1, goA]
    dsimp only
    by_cases c : (stepA mode A).2 = true
    · rw [if_pos c, if_pos c, if_neg (show ¬ nI 1 = 0 by decide), nm, show nI x + 1 = nI (x + 1) from nI_1 _]
      obtain ⟨F2, r2, w2, ad2, nu2, k1, k2, k3, k4⟩ := ih (x + 1) fuel (stepA mode A).1 F' r w' ad' nu' (by omega) (by omega) g2 (VM_step hV) ((g3 12 (by decide)).trans hF)
      refine ⟨F2, r2, w2, ad2, nu2, ?_, k2, fun j hj => (k3 j hj).trans (g3 j hj), frR_tr k4 g4⟩
      rw [k1, show x + 1 + (goA mode n (stepA mode A).1).2 = x + ((goA mode n (stepA mode A).1).2 + 1) by omega]
    · rw [if_neg c, if_neg c, if_pos (show nI 0 = 0 from rfl)]
      exact ⟨_, _, _, _, _, rfl, g2, g3, g4⟩
theorem r_goes {F rows w ad nu : Nat → Int32} {b mode many : Nat} {A : MA} (hm2 : mode < 2) (hb : b + 786 ≤ 66100) (hmany : many < 1000) (hR : RM rows b A) (hV : VM mode A) (hF : F 12 = nI mode) :
    ∃ F' r w' ad' nu', m_X12_goes F rows w ad nu (nI b) (nI many) = some (nI (goA mode many A).2, F', r, w', ad', nu') ∧ RM r b (goA mode many A).1 ∧ frF F' F ∧ frR r rows b := by
  have h := r_goes_loop hm2 hb hmany many 0 fuelN A F rows w ad nu (by omega) (by rw [fuel_is]; omega) hR hV hF
  rw [Nat.zero_add] at h
  rw [m_X12_goes]
  exact h
theorem c_steps_loop {mode many : Nat} (hm2 : mode < 2) (hmany : many < 1000) {Fh re : Nat → Int32} {hs : Nat → Option MSt} : ∀ (n x fuel : Nat) (A : MA) (F P sh md st hd ak mi be af wa ta w ad nu ol : Nat → Int32), x + n = many → n < fuel → CM F md st hd ak mi be af wa ta mode A → VM mode A →
    ∃ F' P' sh' md' st' hd' ak' mi' be' af' wa' ta' w' ad' nu' ol', m_X11_steps_w48 (nI many) fuel (nI x) F Fh P sh md st hd ak mi be af wa ta re w ad nu ol hs = some (nI (x + (goA mode n A).2), F', Fh, P', sh', md', st', hd', ak', mi', be', af', wa', ta', re, w', ad', nu', ol', hs) ∧ CM F' md' st' hd' ak' mi' be' af' wa' ta' mode (goA mode n A).1 := by
  intro n
  induction n with
  | zero =>
    intro x fuel A F P sh md st hd ak mi be af wa ta w ad nu ol hx hf h hV
    obtain ⟨fuel, rfl⟩ : ∃ d, fuel = d + 1 := ⟨fuel - 1, by omega⟩
    rw [m_X11_steps_w48, if_pos (nI_le (by omega) (by omega))]
    exact ⟨_, _, _, _, _, _, _, _, _, _, _, _, _, _, _, _, rfl, h⟩
  | succ n ih =>
    intro x fuel A F P sh md st hd ak mi be af wa ta w ad nu ol hx hf h hV
    obtain ⟨fuel, rfl⟩ : ∃ d, fuel = d + 1 := ⟨fuel - 1, by omega⟩
    obtain ⟨F', P', sh', md', st', hd', ak', mi', be', af', wa', ta', w', ad', nu', ol', g1, g2⟩ := c_step (P := P) (sh := sh) (w := w) (ad := ad) (nu := nu) (ol := ol) hm2 h hV
    rw [m_X11_steps_w48, if_neg (nI_ge (by omega) (by omega)), bd_ok g1, goA]
    dsimp only
    by_cases c : (stepA mode A).2 = true
    · rw [if_pos c, if_pos c, if_neg (show ¬ nI 1 = 0 by decide), nm, show nI x + 1 = nI (x + 1) from nI_1 _]
      obtain ⟨F2, P2, sh2, md2, st2, hd2, ak2, mi2, be2, af2, wa2, ta2, w2, ad2, nu2, ol2, k1, k2⟩ := ih (x + 1) fuel (stepA mode A).1 F' P' sh' md' st' hd' ak' mi' be' af' wa' ta' w' ad' nu' ol' (by omega) (by omega) g2 (VM_step hV)
      refine ⟨F2, P2, sh2, md2, st2, hd2, ak2, mi2, be2, af2, wa2, ta2, w2, ad2, nu2, ol2, ?_, k2⟩
      rw [k1, show x + 1 + (goA mode n (stepA mode A).1).2 = x + ((goA mode n (stepA mode A).1).2 + 1) by omega]
    · rw [if_neg c, if_neg c, if_pos (show nI 0 = 0 from rfl)]
      exact ⟨_, _, _, _, _, _, _, _, _, _, _, _, _, _, _, _, rfl, g2⟩
theorem begL_none {X : AC} {o : OPS} {t : List OPS} (h : planT X o = none) : (begL X (o :: t)).2.1 = (begL X t).2.1 := by rw [begL, h]
theorem begL_some {X : AC} {o : OPS} {t : List OPS} {S : PS} (h : planT X o = some S) : (begL X (o :: t)).2.1 = some S := by rw [begL, h]
theorem begA_2 {mode : Nat} {A : MA} : (begA mode A).2 = (begL (gX A) (gW A)).2.1.isSome := by
  unfold begA
  cases (begL (gX A) (gW A)).2.1 with
  | none => rfl
  | some S => rfl
theorem c_ready_loop {F md st hd ak wa : Nat → Int32} {X : AC} {W : List OPS} (hC : CC md st hd ak X) (hV : VC X) (hW : CMw F wa W) : ∀ (n i fuel : Nat) (P sh w ad nu ol : Nat → Int32), i + n = W.length → n < fuel →
    ∃ P' sh' w' ad' nu' ol', m_X4_isReady_w18 F md st hd wa fuel (nI i) P sh w ad nu ol = some (nI (bN (begL X (W.drop i)).2.1.isSome), P', sh', w', ad', nu', ol') := by
  obtain ⟨w1, w2, w3⟩ := hW
  intro n
  induction n with
  | zero =>
    intro i fuel P sh w ad nu ol hi hf
    obtain ⟨fuel, rfl⟩ : ∃ d, fuel = d + 1 := ⟨fuel - 1, by omega⟩
    rw [m_X4_isReady_w18, w1, if_pos (nI_le (by omega) (by omega)), List.drop_eq_nil_of_le (by omega)]
    exact ⟨_, _, _, _, _, _, rfl⟩
  | succ n ih =>
    intro i fuel P sh w ad nu ol hi hf
    obtain ⟨fuel, rfl⟩ : ∃ d, fuel = d + 1 := ⟨fuel - 1, by omega⟩
    have hlt : i < W.length := by omega
    have hq : W[i]? = some W[i] := List.getElem?_eq_getElem hlt
    rw [List.drop_eq_getElem_cons hlt]
    generalize W[i] = o at hq
    obtain ⟨R, p1, p2, p3⟩ := c_plan (F := P) (sh := sh) (w := w) (ad := ad) (nu := nu) (ol := ol) (i := i) hC hV (by omega) (w3 i o hq)
    rw [m_X4_isReady_w18, w1, if_neg (nI_ge hlt (by omega)), bd_ok p1]
    have hps := plan_same (X := X) (ops := o)
    cases hp : planT X o with
    | none =>
      rw [hp] at hps
      have hps : (o.foldl opC ((wordA X, []), true)).2 = false := hps
      rw [hps, if_neg (by decide)] at p2
      rw [p2, if_pos (show nI 0 = 0 from rfl), nm, show nI i + 1 = nI (i + 1) from nI_1 _, begL_none hp]
      exact ih (i + 1) fuel _ _ _ _ _ _ (by omega) (by omega)
    | some S =>
      rw [hp] at hps
      have hps : o.foldl opC ((wordA X, []), true) = (S, true) := hps
      rw [hps, if_pos rfl] at p2
      rw [p2, if_neg (by decide), begL_some hp]
      exact ⟨_, _, _, _, _, _, rfl⟩
def rdyA (mode : Nat) (A : MA) : Bool := decide (gS A = 0) && (decide ((gM A).length = 0) && (begA mode A).2)
theorem c_isReady {F P sh md st hd ak mi be af wa ta w ad nu ol : Nat → Int32} {mode : Nat} {A : MA} (h : CM F md st hd ak mi be af wa ta mode A) (hV : VM mode A) :
    ∃ P' sh' w' ad' nu' ol', m_X4_isReady F P sh md st hd wa w ad nu ol = some (nI (bN (rdyA mode A)), P', sh', w', ad', nu', ol') := by
  have h4 := hV.2.2.2.1
  rw [m_X4_isReady]
  unfold rdyA
  by_cases c : gS A = 0
  · rw [if_pos (show F 8 = 0 by rw [h.2.2.2.1, c]; rfl), bd_ok (c_idleA h.2.1), decide_eq_true c, Bool.true_and]
    by_cases d : (gM A).length = 0
    · rw [if_pos d, if_neg (by decide), decide_eq_true d, Bool.true_and, begA_2]
      obtain ⟨P', sh', w', ad', nu', ol', g⟩ := c_ready_loop h.1 hV.1 h.2.2.1 (gW A).length 0 fuelN P sh w ad nu ol (by omega) (by have := h.2.2.1.2.1; rw [fuel_is]; omega)
      exact ⟨P', sh', w', ad', nu', ol', g⟩
    · rw [if_neg d, if_pos (show nI 0 = 0 from rfl), decide_eq_false d, Bool.false_and]
      exact ⟨_, _, _, _, _, _, rfl⟩
  · rw [if_neg (show ¬ F 8 = 0 by rw [h.2.2.2.1]; exact fun e => c (nI_inj (b := 0) (by omega) (by decide) e)), decide_eq_false c, Bool.false_and]
    exact ⟨_, _, _, _, _, _, rfl⟩
theorem step_2 {mode : Nat} {A : MA} (hV : VM mode A) : (stepA mode A).2 = (!decide ((gM A).length = 0) || rdyA mode A) := by
  unfold stepA rdyA
  by_cases c1 : gS A = 1
  · rw [if_pos c1, (hV.2.2.2.2.2.1 c1).1, decide_eq_false (show ¬ gS A = 0 by omega)]; rfl
  · rw [if_neg c1]
    by_cases d : (gM A).length = 0
    · have h0 := VM_0 hV (List.length_eq_zero_iff.mp d) c1
      rw [if_pos d, decide_eq_true d, decide_eq_true h0]
      by_cases c3 : (begA mode A).2 = true
      · rw [if_pos c3, c3]; rfl
      · have : (begA mode A).2 = false := by simpa using c3
        rw [if_neg c3, this]; rfl
    · rw [if_neg d, decide_eq_false d]; rfl
theorem c_canStep {F P sh md st hd ak mi be af wa ta w ad nu ol : Nat → Int32} {mode : Nat} {A : MA} (h : CM F md st hd ak mi be af wa ta mode A) (hV : VM mode A) :
    ∃ P' sh' w' ad' nu' ol', m_X4_canStep F P sh md st hd wa w ad nu ol = some (nI (bN (stepA mode A).2), P', sh', w', ad', nu', ol') := by
  rw [m_X4_canStep, bd_ok (c_idleA h.2.1), step_2 hV]
  by_cases d : (gM A).length = 0
  · obtain ⟨P', sh', w', ad', nu', ol', g⟩ := c_isReady (P := P) (sh := sh) (w := w) (ad := ad) (nu := nu) (ol := ol) h hV
    rw [if_pos d, if_neg (by decide), bd_ok g, decide_eq_true d]
    cases rdyA mode A with
    | true => rw [if_neg (show ¬ nI (bN true) = 0 by decide)]; exact ⟨_, _, _, _, _, _, rfl⟩
    | false => rw [if_pos (show nI (bN false) = 0 from rfl)]; exact ⟨_, _, _, _, _, _, rfl⟩
  · rw [if_neg d, if_pos (show nI 0 = 0 from rfl), decide_eq_false d]
    exact ⟨_, _, _, _, _, _, rfl⟩
theorem goA_0 {mode n : Nat} {A : MA} (hn : 0 < n) : (goA mode n A).2 = 0 ↔ (stepA mode A).2 = false := by
  obtain ⟨n, rfl⟩ : ∃ d, n = d + 1 := ⟨n - 1, by omega⟩
  rw [goA]
  by_cases c : (stepA mode A).2 = true
  · rw [if_pos c, c]
    exact ⟨fun h => absurd h (Nat.succ_ne_zero _), fun h => by cases h⟩
  · have : (stepA mode A).2 = false := by simpa using c
    rw [if_neg c, this]
    exact ⟨fun _ => rfl, fun _ => rfl⟩
