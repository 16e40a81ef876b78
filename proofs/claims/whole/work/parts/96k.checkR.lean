/-! ===== the check, the reference ===== -/
def frK (F' F : Nat → Int32) : Prop := ∀ j, ¬ (19 ≤ j ∧ j ≤ 22) → ¬ (27 ≤ j ∧ j ≤ 31) → F' j = F j
def fr2 (r rows : Nat → Int32) : Prop := ∀ j, j < 786 ∨ 2358 ≤ j → r j = rows j
theorem frK_tr {F G H : Nat → Int32} (h1 : frK F G) (h2 : frK G H) : frK F H := fun j a b => (h1 j a b).trans (h2 j a b)
theorem frK_F {F G : Nat → Int32} (h : frF F G) : frK F G := fun j a _ => h j (by omega)
theorem frK_L {F G : Nat → Int32} (h : frL F G) : frK F G := fun j _ b => h j b
theorem fr2_tr {F G H : Nat → Int32} (h1 : fr2 F G) (h2 : fr2 G H) : fr2 F H := fun j a => (h1 j a).trans (h2 j a)
theorem fr2_1 {F G : Nat → Int32} (h : frR F G 786) : fr2 F G := fun j a => h j (by omega)
theorem fr2_2 {F G : Nat → Int32} (h : frR F G 1572) : fr2 F G := fun j a => h j (by omega)
theorem fl_0 {A : MA} (h : (gM A).length = 0) : nI (flA A) = 0 := by unfold flA; rw [if_pos h]; rfl
theorem fl_1 {A : MA} (h : ¬ (gM A).length = 0) : ¬ nI (flA A) = 0 := by
  unfold flA
  rw [if_neg h]
  by_cases c : gS A = 2
  · rw [if_pos c]; decide
  · rw [if_neg c]; decide
theorem r_checks_loop {p1 : Int32} {mode : Nat} (hm2 : mode < 2) : ∀ (n : Nat) (B : MA) (step fuel : Nat) (s : BS) (x3 x4 : Int32) (F rows w ad nu me ord im we : Nat → Int32), ¬ x3 = 0 → x4 = nI step → (gM (stepA mode B).1).length + 1 ≤ n → n < fuel → 1 ≤ step → (gM (stepA mode B).1).length + step ≤ 80 → RM rows 786 B → VM mode B → F 12 = nI mode → ¬ gS (stepA mode B).1 = 1 → okB (2000 * step) s → EncR F s → F 31 = 0 →
    ∃ F' r w' ad' nu' me' ord' im' we', m_X12_checks_w112 p1 fuel x3 x4 F rows w ad nu me ord im we = some (F', r, w', ad', nu', me', ord', im', we') ∧ EncR F' (ckA mode n (stepA mode B).1 step s).1 ∧ F' 31 = nI (bN (ckA mode n (stepA mode B).1 step s).2) ∧ frK F' F ∧ fr2 r rows := by
  intro n
  induction n with
  | zero => intro B step fuel s x3 x4 F rows w ad nu me ord im we hx3 hx4 hl; exact absurd hl (by omega)
  | succ n ih =>
    intro B step fuel s x3 x4 F rows w ad nu me ord im we hx3 hx4 hl hf h1 h80 hR hV h12 hS hs hE h31
    subst hx4
    obtain ⟨fuel, rfl⟩ : ∃ d, fuel = d + 1 + 1 := ⟨fuel - 2, by omega⟩
    obtain ⟨F1, r1, w1, ad1, nu1, i1, i2, i3, i4⟩ := r_isStep (b := 786) (w := w) (ad := ad) (nu := nu) hm2 (by decide) hR hV h12
    have i1 : m_X12_isStep F rows w ad nu 786 = some (nI (if (stepA mode B).2 = true then 1 else 0), F1, r1, w1, ad1, nu1) := i1
    have hVs := VM_step hV
    have hE1 : EncR F1 s := ⟨(i3 28 (by decide)).trans hE.1, (i3 29 (by decide)).trans hE.2.1, (i3 30 (by decide)).trans hE.2.2⟩
    obtain ⟨F2, me2, ord2, im2, we2, l1, l2, l3⟩ := r_looks (b := 786) (step := step) (me := me) (ord := ord) (im := im) (we := we) hm2 (by decide) i2 hVs ((i3 12 (by decide)).trans h12) hs (by omega) (by omega) hE1
    have l1 : m_X12_looks F1 r1 me ord im we 786 (nI step) = some (F2, me2, ord2, im2, we2) := l1
    have e7 : r1 1562 = nI (flA (stepA mode B).1) := i2.2.2.2.2.2.1
    have hfr : frK F2 F := frK_tr (frK_L l2) (frK_F i3)
    rw [m_X12_checks_w112, if_neg hx3, if_pos h31, bd_ok i1]
    dsimp only
    rw [bd_ok l1, show (1562 : Int32) = nI 1562 from rfl, rd_nI (by decide) (by decide), e7]
    dsimp only
    by_cases c : 2000 < totN (gX (stepA mode B).1) 16
    · have l3 := l3.1 c
      have e1 : ckA mode (n + 1) (stepA mode B).1 step s = (s, true) := by rw [ckA, if_pos c]
      rw [e1]
      by_cases d : (gM (stepA mode B).1).length = 0
      · rw [if_pos (fl_0 d), m_X12_checks_j157, nm, m_X12_checks_w112, if_pos rfl]
        exact ⟨_, _, _, _, _, _, _, _, _, rfl, l3.2, l3.1, hfr, fr2_1 i4⟩
      · rw [if_neg (fl_1 d), m_X12_checks_j157, nm, m_X12_checks_w112, if_neg (show ¬ (1 : Int32) = 0 by decide), if_neg (show ¬ F2 31 = 0 by rw [l3.1]; decide)]
        exact ⟨_, _, _, _, _, _, _, _, _, rfl, l3.2, l3.1, hfr, fr2_1 i4⟩
    · have l3 := l3.2 c
      by_cases d : (gM (stepA mode B).1).length = 0
      · have e1 : ckA mode (n + 1) (stepA mode B).1 step s = (bdA mode (stepA mode B).1 step (totN (gX (stepA mode B).1) 16) s, false) := by rw [ckA, if_neg c, if_pos d]
        rw [show (ckA mode (n + 1) (stepA mode B).1 step s).1 = bdA mode (stepA mode B).1 step (totN (gX (stepA mode B).1) 16) s by rw [e1], show (ckA mode (n + 1) (stepA mode B).1 step s).2 = false by rw [e1], if_pos (fl_0 d), m_X12_checks_j157, nm, m_X12_checks_w112, if_pos rfl]
        exact ⟨_, _, _, _, _, _, _, _, _, rfl, l3.2, l3.1, hfr, fr2_1 i4⟩
      · have e1 : ckA mode (n + 1) (stepA mode B).1 step s = ckA mode n (stepA mode (stepA mode B).1).1 (step + 1) (bdA mode (stepA mode B).1 step (totN (gX (stepA mode B).1) 16) s) := by rw [ckA, if_neg c, if_neg d]
        obtain ⟨k, hk⟩ : ∃ k, (gM (stepA mode B).1).length = k + 1 := ⟨(gM (stepA mode B).1).length - 1, by omega⟩
        obtain ⟨d1, d2, d3⟩ := step_dn (mode := mode) hS hk
        rw [e1, if_neg (fl_1 d), m_X12_checks_j157, nm, show nI step + 1 = nI (step + 1) from nI_1 _]
        obtain ⟨F3, r3, w3, ad3, nu3, me3, ord3, im3, we3, z1, z2, z3, z4, z5⟩ := ih (stepA mode B).1 (step + 1) (fuel + 1) _ 1 (nI (step + 1)) F2 r1 w1 ad1 nu1 me2 ord2 im2 we2 (by decide) rfl (by omega) (by omega) (by omega) (by omega) i2 hVs ((hfr 12 (by decide) (by decide)).trans h12) d3 (okB_le (okB_bd (mode := mode) (A := (stepA mode B).1) (step := step) hs (by omega) (totN (gX (stepA mode B).1) 16) (by omega)) (by omega)) l3.2 l3.1
        exact ⟨F3, r3, w3, ad3, nu3, me3, ord3, im3, we3, z1, z2, z3, frK_tr z4 hfr, fr2_tr z5 (fr2_1 i4)⟩
theorem r_checks100 {p1 : Int32} {mode : Nat} {A : MA} {g : Bool} {s0 : Int32} {F rows w ad nu me ord im we : Nat → Int32} (hs0 : s0 = nI (bN g)) (hm2 : mode < 2) (hR : RM rows 786 A) (hV : VM mode A) (h12 : F 12 = nI mode) (hS : ¬ gS A = 1) (hE : EncR F (0, none)) (hg : g = true → (stepA mode A).2 = true) :
    ∃ F' r w' ad' nu' me' ord' im' we', m_X12_checks_j100 p1 s0 F rows w ad nu me ord im we = some (F', r, w', ad', nu', me', ord', im', we') ∧ EncR F' (chk0 mode g A).1 ∧ F' 31 = nI (bN (chk0 mode g A).2) ∧ frK F' F ∧ fr2 r rows := by
  have hl80 : (gM A).length ≤ 80 := by
    obtain ⟨a, _, _, a3, _⟩ := hR.2.1
    omega
  obtain ⟨F2, me2, ord2, im2, we2, l1, l2, l3⟩ := r_looks (b := 786) (step := 0) (me := me) (ord := ord) (im := im) (we := we) hm2 (by decide) hR hV h12 okB_0 (by omega) (by omega) hE
  have l1 : m_X12_looks F rows me ord im we 786 0 = some (F2, me2, ord2, im2, we2) := l1
  rw [m_X12_checks_j100, bd_ok l1]
  dsimp only
  unfold chk0
  by_cases c : 2000 < totN (gX A) 16
  · have l3 := l3.1 c
    rw [if_pos c]
    rw [show fuelN = 99999 + 1 from rfl, m_X12_checks_w112]
    cases g with
    | false =>
      rw [if_pos (show s0 = 0 from hs0)]
      exact ⟨_, _, _, _, _, _, _, _, _, rfl, l3.2, l3.1, frK_L l2, fun _ _ => rfl⟩
    | true =>
      rw [if_neg (show ¬ s0 = 0 by rw [hs0]; decide), if_neg (show ¬ F2 31 = 0 by rw [l3.1]; decide)]
      exact ⟨_, _, _, _, _, _, _, _, _, rfl, l3.2, l3.1, frK_L l2, fun _ _ => rfl⟩
  · have l3 := l3.2 c
    rw [if_neg c]
    cases g with
    | false =>
      rw [show fuelN = 99999 + 1 from rfl, m_X12_checks_w112, if_pos (show s0 = 0 from hs0), if_neg (show ¬ false = true by decide)]
      dsimp only
      exact ⟨_, _, _, _, _, _, _, _, _, rfl, l3.2, l3.1, frK_L l2, fun _ _ => rfl⟩
    | true =>
      obtain ⟨s1, s2⟩ := step_len hV hl80 hS (hg rfl)
      rw [if_pos rfl]
      obtain ⟨F3, r3, w3, ad3, nu3, me3, ord3, im3, we3, z1, z2, z3, z4, z5⟩ := r_checks_loop (p1 := p1) hm2 100 A 1 fuelN _ s0 1 F2 rows w ad nu me2 ord2 im2 we2 (by rw [hs0]; decide) rfl (by omega) (by rw [fuel_is]; omega) (by omega) (by omega) hR hV ((l2 12 (by decide)).trans h12) s2 (okB_le (okB_bd (mode := mode) (A := A) (step := 0) okB_0 (by omega) (totN (gX A) 16) (by omega)) (by omega)) l3.2 l3.1
      exact ⟨F3, r3, w3, ad3, nu3, me3, ord3, im3, we3, z1, z2, z3, frK_tr z4 (frK_L l2), z5⟩
theorem r_checks57 {p1 : Int32} {mode : Nat} {A : MA} {d : Bool} {x2 : Int32} {F rows w ad nu me ord im we : Nat → Int32} (hx2 : x2 = nI (bN d)) (hm2 : mode < 2) (hR : RM rows 786 A) (hV : VM mode A) (h12 : F 12 = nI mode) (hS : ¬ gS A = 1) (hE : EncR F (0, none)) :
    ∃ F' r w' ad' nu' me' ord' im' we', m_X12_checks_j57 p1 x2 F rows w ad nu me ord im we = some (F', r, w', ad', nu', me', ord', im', we') ∧ EncR F' (chk1 mode d A).1 ∧ F' 31 = nI (bN (chk1 mode d A).2) ∧ frK F' F ∧ fr2 r rows := by
  obtain ⟨r1, a1, a2, a3⟩ := r_copies (rows := rows) (a := 786) (b := 1572) (n := 786) (by decide) (by decide) (by decide) (by decide)
  have a1 : m_X12_copies rows 786 1572 786 = some r1 := a1
  have hR1 : RM r1 786 A := RM_fr hV (fun j p q => a3 j (by omega)) hR
  have hR2 : RM r1 1572 A := RM_move hV (fun j hj => a2 j hj) hR
  have hr1 : fr2 r1 rows := fun j hj => a3 j (by omega)
  have e7 : r1 1562 = nI (flA A) := hR1.2.2.2.2.2.1
  rw [m_X12_checks_j57, bd_ok a1, show (1562 : Int32) = nI 1562 from rfl, rd_nI (by decide) (by decide), e7]
  unfold chk1
  by_cases c : (gM A).length = 0
  · rw [if_pos (fl_0 c)]
    cases d with
    | true =>
      have e1 : goesA mode true A = false := by unfold goesA; rw [if_pos c]; rfl
      rw [if_neg (show ¬ x2 = 0 by rw [hx2]; decide), m_X12_checks_j99, e1]
      obtain ⟨F3, r3, w3, ad3, nu3, me3, ord3, im3, we3, z1, z2, z3, z4, z5⟩ := r_checks100 (p1 := p1) (g := false) (w := w) (ad := ad) (nu := nu) (me := me) (ord := ord) (im := im) (we := we) (s0 := 0) rfl hm2 hR1 hV h12 hS hE (fun e => by cases e)
      exact ⟨F3, r3, w3, ad3, nu3, me3, ord3, im3, we3, z1, z2, z3, z4, fr2_tr z5 hr1⟩
    | false =>
      obtain ⟨h0, hm⟩ := idle_s hV hS c
      have e1 : goesA mode false A = (begA mode A).2 := by unfold goesA; rw [if_pos c]; rfl
      have e2 : goesA mode false A = (stepA mode A).2 := goes_eq hS (fun e => by cases e)
      obtain ⟨F1, r2, w1, ad1, nu1, b1, b2, b3, b4⟩ := r_isBegun (b := 1572) (w := w) (ad := ad) (nu := nu) hm2 (by decide) hR2 hV h0 hm h12
      have b1 : m_X12_isBegun F r1 w ad nu 1572 = some (nI (if (begA mode A).2 = true then 1 else 0), F1, r2, w1, ad1, nu1) := b1
      have hE1 : EncR F1 (0, none) := ⟨(b3 28 (by decide)).trans hE.1, (b3 29 (by decide)).trans hE.2.1, (b3 30 (by decide)).trans hE.2.2⟩
      obtain ⟨F3, r3, w3, ad3, nu3, me3, ord3, im3, we3, z1, z2, z3, z4, z5⟩ := r_checks100 (p1 := p1) (g := goesA mode false A) (w := w1) (ad := ad1) (nu := nu1) (me := me) (ord := ord) (im := im) (we := we) (s0 := nI (if (begA mode A).2 = true then 1 else 0)) (by rw [e1]; rfl) hm2 (RM_fr hV (fun j p q => b4 j (by omega)) hR1) hV ((b3 12 (by decide)).trans h12) hS hE1 (fun e => by rw [e2] at e; exact e)
      rw [if_pos (show x2 = 0 from hx2), bd_ok b1]
      dsimp only
      refine ⟨F3, r3, w3, ad3, nu3, me3, ord3, im3, we3, ?_, z2, z3, frK_tr z4 (frK_F b3), fr2_tr z5 (fr2_tr (fr2_2 b4) hr1)⟩
      by_cases g : (begA mode A).2 = true
      · have e9 : nI (if (begA mode A).2 = true then 1 else 0) = 1 := by rw [if_pos g]; rfl
        rw [e9] at z1
        rw [e9, if_neg (show ¬ (1 : Int32) = 0 by decide), m_X12_checks_j95]
        exact z1
      · have e9 : nI (if (begA mode A).2 = true then 1 else 0) = 0 := by rw [if_neg g]; rfl
        rw [e9] at z1
        rw [e9, if_pos rfl, m_X12_checks_j99]
        exact z1
  · have e1 : goesA mode d A = true := by unfold goesA; rw [if_neg c]
    have e2 : goesA mode d A = (stepA mode A).2 := goes_eq hS (by rw [decide_eq_false c, Bool.and_false]; exact fun e => by cases e)
    rw [if_neg (fl_1 c), m_X12_checks_j95, e1]
    obtain ⟨F3, r3, w3, ad3, nu3, me3, ord3, im3, we3, z1, z2, z3, z4, z5⟩ := r_checks100 (p1 := p1) (g := true) (w := w) (ad := ad) (nu := nu) (me := me) (ord := ord) (im := im) (we := we) (s0 := 1) rfl hm2 hR1 hV h12 hS hE (fun _ => e2.symm.trans e1)
    exact ⟨F3, r3, w3, ad3, nu3, me3, ord3, im3, we3, z1, z2, z3, z4, fr2_tr z5 hr1⟩
theorem RM_setO {t : Nat → Int32} {mode o b : Nat} {A : MA} (hV : VM mode A) (h : RM t b A) : RM (upd t (b + 773) (nI o)) b (setO o A) := by
  obtain ⟨g1, g2, g3, g4, g5, g6, g7, g8, g9⟩ := id h
  exact ⟨RC_fr hV.1 (fun i p q => upd_ne (by omega)) g1, RMm_fr (fun i p q => upd_ne (by omega)) (upd_ne (by omega)) (upd_ne (by omega)) g2, RMw_fr (fun i p q => upd_ne (by omega)) (upd_ne (by omega)) g3, (upd_ne (by omega)).trans g4, upd_eq, (upd_ne (by omega)).trans g6, fun k hk => (upd_ne (by omega)).trans (g7 k hk), ⟨fun e k hk => (upd_ne (by omega)).trans (g8 e k hk), fun e e2 k hk => (upd_ne (by omega)).trans (g9 e e2 k hk)⟩⟩
theorem r_checks {mode o : Nat} {A : MA} {F rows w ad nu me ord im we : Nat → Int32} (hm2 : mode < 2) (hR : RM rows 0 A) (hV0 : VM mode A) (h12 : F 12 = nI mode) (ho : o < 128) :
    ∃ F' r w' ad' nu' me' ord' im' we', m_X12_checks F rows w ad nu me ord im we (nI o) = some (F', r, w', ad', nu', me', ord', im', we') ∧ EncR F' (chkA mode (setO o A)).1 ∧ F' 31 = nI (bN (chkA mode (setO o A)).2) ∧ frK F' F ∧ fr2 r rows := by
  obtain ⟨t, t1, t2, t3⟩ := r_tries hR hV0
  have hV := VM_setO hV0 ho
  have hRt : RM (upd t 1559 (nI o)) 786 (setO o A) := RM_setO (b := 786) (o := o) hV0 t2
  have ht2 : fr2 (upd t 1559 (nI o)) rows := fun j hj => by rw [upd_ne (by omega)]; exact t3 j (by omega)
  rw [m_X12_checks, bd_ok t1, show (1559 : Int32) = nI 1559 from rfl, wr_nI (by decide) (by decide), nm, nm, nm, show (1558 : Int32) = nI 1558 from rfl, rd_nI (by decide) (by decide)]
  have e8 : upd t 1559 (nI o) 1558 = nI (gS A) := hRt.2.2.2.1
  have hE : EncR (upd (upd (upd F 28 0) 30 (-1)) 29 (-1)) (0, none) := ⟨by rw [upd_ne (by decide), upd_ne (by decide), upd_eq]; rfl, by rw [upd_eq]; rfl, by rw [upd_ne (by decide), upd_eq]; rfl⟩
  have hF3 : frK (upd (upd (upd F 28 0) 30 (-1)) 29 (-1)) F := fun j _ b => by rw [upd_ne (by omega), upd_ne (by omega), upd_ne (by omega)]
  have h12' := (hF3 12 (by decide) (by decide)).trans h12
  rw [e8]
  unfold chkA
  by_cases c : gS A = 1
  · rw [if_pos (show gS (setO o A) = 1 from c), if_pos (show nI (gS A) = 1 by rw [c]; rfl), m_X12_checks_j45, if_neg (show ¬ (1 : Int32) = 0 by decide)]
    obtain ⟨F1, r1, ad1, nu1, me1, q1, q2, q3, q4, q5⟩ := r_recovery (b := 786) (ad := ad) (nu := nu) (mem := me) hm2 (by decide) hRt hV c h12'
    have q1 : m_X12_recovery (upd (upd (upd F 28 0) 30 (-1)) 29 (-1)) (upd t 1559 (nI o)) ad nu me 786 = some (F1, r1, ad1, nu1, me1) := q1
    rw [bd_ok q1]
    obtain ⟨F3, r3, w3, ad3, nu3, me3, ord3, im3, we3, z1, z2, z3, z4, z5⟩ := r_checks57 (p1 := nI o) (d := true) (x2 := 1) (w := w) (ad := ad1) (nu := nu1) (me := me1) (ord := ord) (im := im) (we := we) rfl hm2 q2 (VM_recov hV c) ((q3 12 (by decide)).trans h12') recov_s ⟨(q3 28 (by decide)).trans hE.1, (q3 29 (by decide)).trans hE.2.1, (q3 30 (by decide)).trans hE.2.2⟩
    exact ⟨F3, r3, w3, ad3, nu3, me3, ord3, im3, we3, z1, z2, z3, frK_tr z4 (frK_tr (frK_F q3) hF3), fr2_tr z5 (fr2_tr (fr2_1 q4) ht2)⟩
  · rw [if_neg (show ¬ gS (setO o A) = 1 from c), if_neg (show ¬ nI (gS A) = 1 from by
      have : gS A ≤ 2 := hV0.2.2.2.1
      exact fun e => c (nI_inj (b := 1) (by omega) (by decide) e)), m_X12_checks_j45, if_pos rfl]
    obtain ⟨F3, r3, w3, ad3, nu3, me3, ord3, im3, we3, z1, z2, z3, z4, z5⟩ := r_checks57 (p1 := nI o) (d := false) (x2 := 0) (w := w) (ad := ad) (nu := nu) (me := me) (ord := ord) (im := im) (we := we) rfl hm2 hRt hV h12' c hE
    exact ⟨F3, r3, w3, ad3, nu3, me3, ord3, im3, we3, z1, z2, z3, frK_tr z4 hF3, fr2_tr z5 ht2⟩
/-! the answers -/
theorem okB_ck {mode : Nat} : ∀ (n : Nat) (A : MA) (step : Nat) (s : BS), step + n ≤ 101 → okB (2000 * step) s → okB 1000000 (ckA mode n A step s).1 := by
  intro n
  induction n with
  | zero => intro A step s h hs; exact okB_le hs (by omega)
  | succ n ih =>
    intro A step s h hs
    rw [ckA]
    by_cases c : 2000 < totN (gX A) 16
    · rw [if_pos c]; exact okB_le hs (by omega)
    · rw [if_neg c]
      have hb := okB_bd (mode := mode) (A := A) (step := step) hs (by omega) (totN (gX A) 16) (by omega)
      by_cases d : (gM A).length = 0
      · rw [if_pos d]; dsimp only; exact okB_le hb (by omega)
      · rw [if_neg d]; exact ih _ _ _ (by omega) (okB_le hb (by omega))
theorem okB_chk0 {mode : Nat} {g : Bool} {A : MA} : okB 1000000 (chk0 mode g A).1 := by
  unfold chk0
  by_cases c : 2000 < totN (gX A) 16
  · rw [if_pos c]; exact okB_le okB_0 (by omega)
  · rw [if_neg c]
    have hb := okB_bd (mode := mode) (A := A) (step := 0) okB_0 (by omega) (totN (gX A) 16) (by omega)
    by_cases d : g = true
    · rw [if_pos d]; exact okB_ck _ _ _ _ (by omega) (okB_le hb (by omega))
    · rw [if_neg d]; dsimp only; exact okB_le hb (by omega)
theorem okB_chk {mode : Nat} {A : MA} : okB 1000000 (chkA mode A).1 := by
  unfold chkA
  by_cases c : gS A = 1
  · rw [if_pos c]; exact okB_chk0
  · rw [if_neg c]; exact okB_chk0
def sndA (mode : Nat) (A : MA) (o : Nat) : Bool := decide ((chkA mode (setO o A)).1.1 = 0) && !(chkA mode (setO o A)).2
theorem r_isWell {mode o : Nat} {A : MA} {F rows w ad nu me ord im we : Nat → Int32} (hm2 : mode < 2) (hR : RM rows 0 A) (hV0 : VM mode A) (h12 : F 12 = nI mode) (ho : o < 128) :
    ∃ F' r w' ad' nu' me' ord' im' we', m_X12_isWell F rows w ad nu me ord im we (nI o) = some (nI (bN (sndA mode A o)), F', r, w', ad', nu', me', ord', im', we') ∧ frK F' F ∧ fr2 r rows := by
  obtain ⟨F3, r3, w3, ad3, nu3, me3, ord3, im3, we3, z1, z2, z3, z4, z5⟩ := r_checks (w := w) (ad := ad) (nu := nu) (me := me) (ord := ord) (im := im) (we := we) hm2 hR hV0 h12 ho
  have hok := okB_chk (mode := mode) (A := setO o A)
  rw [m_X12_isWell, bd_ok z1]
  dsimp only
  unfold sndA
  by_cases c : (chkA mode (setO o A)).1.1 = 0
  · rw [if_pos (show F3 28 = 0 by rw [z2.1, c]; rfl), decide_eq_true c]
    cases e : (chkA mode (setO o A)).2 with
    | false =>
      rw [e] at z3
      rw [if_pos (show F3 31 = 0 from z3)]
      exact ⟨_, _, _, _, _, _, _, _, _, rfl, z4, z5⟩
    | true =>
      rw [e] at z3
      rw [if_neg (show ¬ F3 31 = 0 by rw [z3]; decide)]
      exact ⟨_, _, _, _, _, _, _, _, _, rfl, z4, z5⟩
  · rw [if_neg (show ¬ F3 28 = 0 by rw [z2.1]; exact nI_ne0 (by omega) (by have := hok.1; omega)), decide_eq_false c]
    exact ⟨_, _, _, _, _, _, _, _, _, rfl, z4, z5⟩
theorem c_isSound {mode o : Nat} {A : MA} {F : Nat → Int32} (h : EncF true F (chkA mode (setO o A))) : m_X2_isSound F = some (nI (bN (sndA mode A o))) := by
  have h : (F 3 = 0 ∧ F 6 = 0 ↔ (chkA mode (setO o A)).1.1 = 0 ∧ (chkA mode (setO o A)).2 = false) := h
  rw [m_X2_isSound]
  cases hs : sndA mode A o with
  | true =>
    unfold sndA at hs
    rw [Bool.and_eq_true, decide_eq_true_eq, Bool.not_eq_true'] at hs
    obtain ⟨a, b⟩ := h.mpr hs
    rw [if_pos a, if_pos b]; rfl
  | false =>
    by_cases a : F 3 = 0
    · rw [if_pos a]
      by_cases b : F 6 = 0
      · have e := h.mp ⟨a, b⟩
        unfold sndA at hs
        rw [decide_eq_true e.1, e.2] at hs
        cases hs
      · rw [if_neg b]; rfl
    · rw [if_neg a]; rfl
theorem r_isReady {mode : Nat} {A : MA} {F rows w ad nu : Nat → Int32} (hm2 : mode < 2) (hR : RM rows 0 A) (hV : VM mode A) (h12 : F 12 = nI mode) :
    ∃ F' r w' ad' nu', m_X12_isReady F rows w ad nu = some (nI (bN (rdyA mode A)), F', r, w', ad', nu') ∧ frK F' F ∧ fr2 r rows := by
  have e2 : rows 772 = nI (gS A) := by have := hR.2.2.2.1; rw [Nat.zero_add] at this; exact this
  have e6 : rows 776 = nI (flA A) := by have := hR.2.2.2.2.2.1; rw [Nat.zero_add] at this; exact this
  have h4 := hV.2.2.2.1
  rw [m_X12_isReady, show (772 : Int32) = nI 772 from rfl, rd_nI (by decide) (by decide), e2]
  unfold rdyA
  by_cases c : gS A = 0
  · rw [if_pos (show nI (gS A) = 0 by rw [c]; rfl), show (776 : Int32) = nI 776 from rfl, rd_nI (by decide) (by decide), e6, decide_eq_true c, Bool.true_and]
    by_cases d : (gM A).length = 0
    · obtain ⟨r1, a1, a2, a3⟩ := r_copies (rows := rows) (a := 0) (b := 1572) (n := 786) (by decide) (by decide) (by decide) (by decide)
      have a1 : m_X12_copies rows 0 1572 786 = some r1 := a1
      obtain ⟨F1, r2, w1, ad1, nu1, b1, b2, b3, b4⟩ := r_isBegun (b := 1572) (w := w) (ad := ad) (nu := nu) hm2 (by decide) (RM_move (b' := 1572) hV (fun j hj => a2 j hj) hR) hV c (List.length_eq_zero_iff.mp d) h12
      have b1 : m_X12_isBegun F r1 w ad nu 1572 = some (nI (if (begA mode A).2 = true then 1 else 0), F1, r2, w1, ad1, nu1) := b1
      rw [if_pos (fl_0 d), bd_ok a1, bd_ok b1, decide_eq_true d, Bool.true_and]
      dsimp only
      refine ⟨F1, r2, w1, ad1, nu1, ?_, frK_F b3, fr2_tr (fr2_2 b4) (fun j hj => a3 j (by omega))⟩
      by_cases g : (begA mode A).2 = true
      · rw [if_pos g, g]; exact cb_1
      · rw [if_neg g, Bool.eq_false_iff.mpr g]; exact cb_0
    · rw [if_neg (fl_1 d), decide_eq_false d, Bool.false_and]
      exact ⟨_, _, _, _, _, rfl, fun _ _ _ => rfl, fun _ _ => rfl⟩
  · rw [if_neg (show ¬ nI (gS A) = 0 from nI_ne0 (by omega) (by omega)), decide_eq_false c, Bool.false_and]
    exact ⟨_, _, _, _, _, rfl, fun _ _ _ => rfl, fun _ _ => rfl⟩
