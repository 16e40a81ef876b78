/-! ===== bad orders ===== -/
def roK (X : AC) : Nat → (Nat → Nat)
  | 0 => fun _ => 0
  | k + 1 => nxt X (roK X k) 16
theorem roK_ok {X : AC} : ∀ k, okRo X (roK X k) := by
  intro k
  induction k with
  | zero => exact fun _ _ => Nat.zero_le _
  | succ k ih => exact nxt_ok 16 _ (Nat.le_refl _) ih
abbrev BS : Type := Nat × Option (Nat × Nat)
def bdA (mode : Nat) (A : MA) (step : Nat) : Nat → BS → BS
  | 0, s => s
  | k + 1, s => if fateA mode A (roK (gX A) k) = 3 then ((bdA mode A step k s).1 + 1, if (bdA mode A step k s).1 = 0 then some (step, k) else (bdA mode A step k s).2) else bdA mode A step k s
def encA (s : BS) : Int32 := match s.2 with
  | none => -1
  | some q => nI q.1
def encO (s : BS) : Int32 := match s.2 with
  | none => -1
  | some q => nI q.2
/-- so many at most, the first one known -/
def okB (n : Nat) (s : BS) : Prop := s.1 ≤ n ∧ (s.1 = 0 ↔ s.2 = none) ∧ ∀ q, s.2 = some q → q.1 ≤ 100 ∧ q.2 < 2000
theorem okB_bd {mode step : Nat} {A : MA} {n : Nat} {s : BS} (h : okB n s) (hs : step ≤ 100) : ∀ k, k ≤ 2000 → okB (n + k) (bdA mode A step k s) := by
  intro k
  induction k with
  | zero => intro _; exact h
  | succ k ih =>
    intro hk
    obtain ⟨h1, h2, h3⟩ := ih (by omega)
    rw [bdA]
    by_cases c : fateA mode A (roK (gX A) k) = 3
    · rw [if_pos c]
      refine ⟨by show (bdA mode A step k s).1 + 1 ≤ _; omega, ⟨fun e => absurd e (Nat.succ_ne_zero _), fun e => ?_⟩, fun q hq => ?_⟩
      · have e : (if (bdA mode A step k s).1 = 0 then some (step, k) else (bdA mode A step k s).2) = none := e
        by_cases d : (bdA mode A step k s).1 = 0
        · rw [if_pos d] at e; cases e
        · rw [if_neg d] at e; exact absurd (h2.mpr e) d
      · have hq : (if (bdA mode A step k s).1 = 0 then some (step, k) else (bdA mode A step k s).2) = some q := hq
        by_cases d : (bdA mode A step k s).1 = 0
        · rw [if_pos d] at hq; cases hq; exact ⟨hs, by show k < 2000; omega⟩
        · rw [if_neg d] at hq; exact h3 q hq
    · rw [if_neg c]; exact ⟨by omega, h2, h3⟩
theorem bdA_mono {mode step : Nat} {A : MA} {s : BS} : ∀ k, s.1 ≤ (bdA mode A step k s).1 := by
  intro k
  induction k with
  | zero => exact Nat.le_refl _
  | succ k ih =>
    rw [bdA]
    by_cases c : fateA mode A (roK (gX A) k) = 3
    · rw [if_pos c]; exact Nat.le_succ_of_le ih
    · rw [if_neg c]; exact ih
theorem bdA_monoK {mode step : Nat} {A : MA} {s : BS} : ∀ j k, k ≤ j → (bdA mode A step k s).1 ≤ (bdA mode A step j s).1 := by
  intro j
  induction j with
  | zero => intro k hk; rw [show k = 0 by omega]; exact Nat.le_refl _
  | succ j ih =>
    intro k hk
    by_cases e : k = j + 1
    · rw [e]; exact Nat.le_refl _
    · refine Nat.le_trans (ih k (by omega)) ?_
      rw [bdA]
      by_cases c : fateA mode A (roK (gX A) j) = 3
      · rw [if_pos c]; exact Nat.le_succ _
      · rw [if_neg c]; exact Nat.le_refl _
def EncC (F : Nat → Int32) (s : BS) : Prop := F 3 = nI s.1 ∧ F 4 = encA s ∧ F 5 = encO s
def EncR (F : Nat → Int32) (s : BS) : Prop := F 28 = nI s.1 ∧ F 29 = encA s ∧ F 30 = encO s
theorem encA_none {n : Nat} {s : BS} (h : okB n s) : encA s = -1 ↔ s.1 = 0 := by
  rw [h.2.1]
  unfold encA
  cases hs : s.2 with
  | none => exact ⟨fun _ => rfl, fun _ => rfl⟩
  | some q =>
    have := (h.2.2 q hs).1
    exact ⟨fun e => absurd e (nI_ne1 (by omega)), fun e => by cases e⟩
theorem c_count_loop {Ft md st hd ak be af : Nat → Int32} {mode step n : Nat} {A : MA} {s : BS} (hm : mode < 2) (hV : VM mode A) (hC : CC md st hd ak (gX A)) (h9 : Ft 9 = nI mode) (hb : ∀ k, k < 44 → be k = nI (gB A k)) (ha : ∀ k, k < 44 → af k = nI (gA A k)) (hs : okB n s) (hst : step ≤ 100) (hn : n ≤ 1000000) {N : Nat} (hN : N ≤ 2000) :
    ∀ (d k fuel : Nat) (F row pic se : Nat → Int32), k + d = N → d < fuel → WKr row pic (gX A) (roK (gX A) k) → EncC F (bdA mode A step k s) →
      ∃ F' row' pic' se', m_X2_countBad_w29 Ft md st hd be af (nI step) 0 fuel (nI N) (nI k) F row pic se = some (F', row', pic', se') ∧ EncC F' (bdA mode A step N s) ∧ F' 6 = F 6 := by
  intro d
  induction d with
  | zero =>
    intro k fuel F row pic se hk hf hW hE
    obtain ⟨fuel, rfl⟩ : ∃ d, fuel = d + 1 := ⟨fuel - 1, by omega⟩
    rw [m_X2_countBad_w29, if_pos (nI_le (by omega) (by omega))]
    exact ⟨_, _, _, _, rfl, by rw [show N = k by omega]; exact hE, rfl⟩
  | succ d ih =>
    intro k fuel F row pic se hk hf hW hE
    obtain ⟨fuel, rfl⟩ : ∃ d, fuel = d + 1 := ⟨fuel - 1, by omega⟩
    obtain ⟨se', f1, f2⟩ := c_fateBy (se := se) hm hV h9 hW.2.2 hb ha
    obtain ⟨R, g1, g2⟩ := c_goOn hC hV.1 hW
    obtain ⟨o1, o2, o3⟩ := okB_bd (mode := mode) (A := A) hs hst k (by omega)
    have hfl := fateA_le (mode := mode) (A := A) (ro := roK (gX A) k)
    have j83 : ∀ F : Nat → Int32, EncC F (bdA mode A step (k + 1) s) → ∃ F' row' pic' se'', m_X2_countBad_j83 Ft md st hd be af (nI step) 0 (m_X2_countBad_w29 Ft md st hd be af (nI step) 0 fuel) (nI N) (nI k) F row pic se' = some (F', row', pic', se'') ∧ EncC F' (bdA mode A step N s) ∧ F' 6 = F 6 := by
      intro F hE'
      rw [m_X2_countBad_j83, bd_ok g1, nm, show nI k + 1 = nI (k + 1) from nI_1 _]
      exact ih (k + 1) fuel F R.1 R.2 se' (by omega) (by omega) g2 hE'
    rw [m_X2_countBad_w29, if_neg (nI_ge (by omega) (by omega)), bd_ok f1]
    dsimp only
    rw [bdA] at j83
    by_cases c : fateA mode A (roK (gX A) k) = 3
    · rw [if_pos c] at j83
      rw [if_pos (show nI (fateA mode A (roK (gX A) k)) = 3 by rw [c]; rfl)]
      by_cases e : (bdA mode A step k s).1 = 0
      · rw [if_pos e] at j83
        rw [if_pos (show F 3 = 0 by rw [hE.1, e]; rfl), nm, nm, m_X2_countBad_j68, nm, if_pos rfl]
        obtain ⟨F', r', p', s', z1, z2, z3⟩ := j83 (upd (upd (upd F 4 (nI step)) 5 (nI k)) 3 (upd (upd F 4 (nI step)) 5 (nI k) 3 + 1)) ⟨by rw [upd_eq, upd_ne (by decide), upd_ne (by decide), hE.1]; exact nI_1 _, by rw [upd_ne (by decide), upd_ne (by decide), upd_eq]; rfl, by rw [upd_ne (by decide), upd_eq]; rfl⟩
        exact ⟨F', r', p', s', z1, z2, by rw [z3, upd_ne (by decide), upd_ne (by decide), upd_ne (by decide)]⟩
      · rw [if_neg e] at j83
        rw [if_neg (show ¬ F 3 = 0 by rw [hE.1]; exact nI_ne0 (by omega) (by omega)), m_X2_countBad_j68, nm, if_pos rfl]
        obtain ⟨F', r', p', s', z1, z2, z3⟩ := j83 (upd F 3 (F 3 + 1)) ⟨by rw [upd_eq, hE.1]; exact nI_1 _, by rw [upd_ne (by decide)]; exact hE.2.1, by rw [upd_ne (by decide)]; exact hE.2.2⟩
        exact ⟨F', r', p', s', z1, z2, by rw [z3, upd_ne (by decide)]⟩
    · rw [if_neg c] at j83
      rw [if_neg (show ¬ nI (fateA mode A (roK (gX A) k)) = 3 from fun e => c (nI_inj (b := 3) (by omega) (by decide) e))]
      exact j83 F hE
/-- hasty: it stops at the first -/
theorem c_hasty_loop {Ft md st hd ak be af : Nat → Int32} {mode step : Nat} {A : MA} {s : BS} (hm : mode < 2) (hV : VM mode A) (hC : CC md st hd ak (gX A)) (h9 : Ft 9 = nI mode) (hb : ∀ k, k < 44 → be k = nI (gB A k)) (ha : ∀ k, k < 44 → af k = nI (gA A k)) {N : Nat} (hN : N ≤ 2000) :
    ∀ (d k fuel : Nat) (F row pic se : Nat → Int32), k + d = N → d < fuel → WKr row pic (gX A) (roK (gX A) k) → F 3 = nI 0 → (bdA mode A step k s).1 = 0 →
      ∃ F' row' pic' se', m_X2_countBad_w29 Ft md st hd be af (nI step) 1 fuel (nI N) (nI k) F row pic se = some (F', row', pic', se') ∧ F' 3 = nI (bN (decide (¬ (bdA mode A step N s).1 = 0))) ∧ F' 6 = F 6 := by
  intro d
  induction d with
  | zero =>
    intro k fuel F row pic se hk hf hW hE h0
    obtain ⟨fuel, rfl⟩ : ∃ d, fuel = d + 1 := ⟨fuel - 1, by omega⟩
    rw [m_X2_countBad_w29, if_pos (nI_le (by omega) (by omega)), show N = k by omega, decide_eq_false (fun e => e h0)]
    exact ⟨_, _, _, _, rfl, hE, rfl⟩
  | succ d ih =>
    intro k fuel F row pic se hk hf hW hE h0
    obtain ⟨fuel, rfl⟩ : ∃ d, fuel = d + 1 := ⟨fuel - 1, by omega⟩
    obtain ⟨se', f1, f2⟩ := c_fateBy (se := se) hm hV h9 hW.2.2 hb ha
    obtain ⟨R, g1, g2⟩ := c_goOn hC hV.1 hW
    have hfl := fateA_le (mode := mode) (A := A) (ro := roK (gX A) k)
    rw [m_X2_countBad_w29, if_neg (nI_ge (by omega) (by omega)), bd_ok f1]
    dsimp only
    by_cases c : fateA mode A (roK (gX A) k) = 3
    · have hpos : ¬ (bdA mode A step N s).1 = 0 := by
        have h1 := bdA_monoK (mode := mode) (step := step) (A := A) (s := s) N (k + 1) (by omega)
        rw [bdA, if_pos c] at h1
        have h1 : (bdA mode A step k s).1 + 1 ≤ _ := h1
        omega
      rw [if_pos (show nI (fateA mode A (roK (gX A) k)) = 3 by rw [c]; rfl), if_pos (show F 3 = 0 from hE), nm, nm, m_X2_countBad_j68, nm, if_neg (by decide), decide_eq_true hpos]
      exact ⟨_, _, _, _, rfl, by rw [upd_eq, upd_ne (by decide), upd_ne (by decide), hE]; rfl, by rw [upd_ne (by decide), upd_ne (by decide), upd_ne (by decide)]⟩
    · rw [if_neg (show ¬ nI (fateA mode A (roK (gX A) k)) = 3 from fun e => c (nI_inj (b := 3) (by omega) (by decide) e)), m_X2_countBad_j83, bd_ok g1, nm, show nI k + 1 = nI (k + 1) from nI_1 _]
      exact ih (k + 1) fuel F R.1 R.2 se' (by omega) (by omega) g2 hE (by rw [bdA, if_neg c]; exact h0)
theorem c_countBad {F Ft md st hd ak be af row pic se : Nat → Int32} {mode step n : Nat} {A : MA} {s : BS} (hm : mode < 2) (hV : VM mode A) (hC : CC md st hd ak (gX A)) (h9 : Ft 9 = nI mode) (hb : ∀ k, k < 44 → be k = nI (gB A k)) (ha : ∀ k, k < 44 → af k = nI (gA A k)) (hs : okB n s) (hst : step ≤ 100) (hn : n ≤ 1000000) (hT : totN (gX A) 16 ≤ 2000) (hE : EncC F s) :
    ∃ F' row' pic' se', m_X2_countBad F Ft md st hd be af row pic se (nI step) 0 = some (F', row', pic', se') ∧ EncC F' (bdA mode A step (totN (gX A) 16) s) ∧ F' 6 = F 6 := by
  obtain ⟨R, g1, g2⟩ := c_start (row := row) (pic := pic) hC
  rw [m_X2_countBad, bd_ok (c_total hC hV.1), bd_ok g1, lN_i]
  exact c_count_loop hm hV hC h9 hb ha hs hst hn hT (totN (gX A) 16) 0 fuelN F R.1 R.2 se (by omega) (by rw [fuel_is]; omega) g2 hE
theorem c_countHasty {F Ft md st hd ak be af row pic se : Nat → Int32} {mode step : Nat} {A : MA} {s : BS} (hm : mode < 2) (hV : VM mode A) (hC : CC md st hd ak (gX A)) (h9 : Ft 9 = nI mode) (hb : ∀ k, k < 44 → be k = nI (gB A k)) (ha : ∀ k, k < 44 → af k = nI (gA A k)) (hT : totN (gX A) 16 ≤ 2000) (hE : F 3 = nI 0) (h0 : s.1 = 0) :
    ∃ F' row' pic' se', m_X2_countBad F Ft md st hd be af row pic se (nI step) 1 = some (F', row', pic', se') ∧ F' 3 = nI (bN (decide (¬ (bdA mode A step (totN (gX A) 16) s).1 = 0))) ∧ F' 6 = F 6 := by
  obtain ⟨R, g1, g2⟩ := c_start (row := row) (pic := pic) hC
  rw [m_X2_countBad, bd_ok (c_total hC hV.1), bd_ok g1, lN_i]
  exact c_hasty_loop hm hV hC h9 hb ha hT (totN (gX A) 16) 0 fuelN F R.1 R.2 se (by omega) (by rw [fuel_is]; omega) g2 hE h0
/-! the reference looks -/
theorem r_looks_loop {rows : Nat → Int32} {b mode step n : Nat} {A : MA} {s : BS} (hm : mode < 2) (hb : b + 786 ≤ 66100) (hR : RM rows b A) (hV : VM mode A) (hs : okB n s) (hst : step ≤ 100) (hn : n ≤ 1000000) {N : Nat} (hN : N ≤ 2000) {me we : Nat → Int32} :
    ∀ (d k fuel : Nat) (F ord im : Nat → Int32), k + d = N → d < fuel → F 12 = nI mode → WL F we A → (∀ l, l < 16 → ord l = nI (roK (gX A) k l)) → EncR F (bdA mode A step k s) →
      ∃ F' ord' im', m_X12_looks_w43 rows (nI b) (nI step) fuel (lN N) (nI k) F me ord im we = some (F', me, ord', im', we) ∧ EncR F' (bdA mode A step N s) ∧ ∀ j, ¬ (28 ≤ j ∧ j ≤ 30) → F' j = F j := by
  intro d
  induction d with
  | zero =>
    intro k fuel F ord im hk hf h12 hW ho hE
    obtain ⟨fuel, rfl⟩ : ∃ d, fuel = d + 1 := ⟨fuel - 1, by omega⟩
    rw [m_X12_looks_w43, nI_l (by omega), if_pos ((lg_cmp_ge _ _).mpr ((lN_le (by omega) (by omega)).mpr (by omega)))]
    exact ⟨_, _, _, rfl, by rw [show N = k by omega]; exact hE, fun _ _ => rfl⟩
  | succ d ih =>
    intro k fuel F ord im hk hf h12 hW ho hE
    obtain ⟨fuel, rfl⟩ : ∃ d, fuel = d + 1 := ⟨fuel - 1, by omega⟩
    obtain ⟨im', f1⟩ := r_fateHere (im := im) hm hb hR hV h12 hW (roK_ok k) ho
    obtain ⟨od', g1, g2⟩ := r_nextOrder hR.1 hV.1 hb (roK_ok k) ho
    have hok := okB_bd (mode := mode) (A := A) hs hst k (by omega)
    obtain ⟨o1, o2, o3⟩ := id hok
    have hfl := fateA_le (mode := mode) (A := A) (ro := roK (gX A) k)
    have j89 : ∀ F1 : Nat → Int32, EncR F1 (bdA mode A step (k + 1) s) → (∀ j, ¬ (28 ≤ j ∧ j ≤ 30) → F1 j = F j) → ∃ F' ord' im'', m_X12_looks_j89 rows (nI b) (nI step) (m_X12_looks_w43 rows (nI b) (nI step) fuel) (lN N) (nI k) F1 me ord im' we = some (F', me, ord', im'', we) ∧ EncR F' (bdA mode A step N s) ∧ ∀ j, ¬ (28 ≤ j ∧ j ≤ 30) → F' j = F j := by
      intro F1 hE1 hfr
      rw [m_X12_looks_j89, bd_ok g1, nm, show nI k + 1 = nI (k + 1) from nI_1 _]
      obtain ⟨F', o', i', z1, z2, z3⟩ := ih (k + 1) fuel F1 od' im' (by omega) (by omega) (by rw [hfr 12 (by decide)]; exact h12) ⟨by rw [hfr 27 (by decide)]; exact hW.1, hW.2⟩ g2 hE1
      exact ⟨F', o', i', z1, z2, fun j hj => (z3 j hj).trans (hfr j hj)⟩
    rw [m_X12_looks_w43, nI_l (by omega), if_neg (fun e => by
      have := (lN_le (by omega) (by omega)).mp ((lg_cmp_ge _ _).mp e)
      omega), bd_ok f1]
    dsimp only
    rw [bdA] at j89
    by_cases c : fateA mode A (roK (gX A) k) = 3
    · rw [if_pos c] at j89
      rw [if_pos (show nI (fateA mode A (roK (gX A) k)) = 3 by rw [c]; rfl), nm]
      have e29 : upd F 28 (F 28 + 1) 29 = encA (bdA mode A step k s) := by rw [upd_ne (by decide)]; exact hE.2.1
      rw [e29]
      by_cases e : (bdA mode A step k s).1 = 0
      · rw [if_pos e] at j89
        rw [if_pos ((encA_none hok).mpr e), nm, nm]
        exact j89 _ ⟨by rw [upd_ne (by decide), upd_ne (by decide), upd_eq, hE.1]; exact nI_1 _, by rw [upd_ne (by decide), upd_eq]; rfl, by rw [upd_eq]; rfl⟩ (fun j hj => by rw [upd_ne (by omega), upd_ne (by omega), upd_ne (by omega)])
      · rw [if_neg e] at j89
        rw [if_neg (fun z => e ((encA_none hok).mp z))]
        exact j89 _ ⟨by rw [upd_eq, hE.1]; exact nI_1 _, by rw [upd_ne (by decide)]; exact hE.2.1, by rw [upd_ne (by decide)]; exact hE.2.2⟩ (fun j hj => upd_ne (by omega))
    · rw [if_neg c] at j89
      rw [if_neg (show ¬ nI (fateA mode A (roK (gX A) k)) = 3 from fun e => c (nI_inj (b := 3) (by omega) (by decide) e))]
      exact j89 F hE (fun _ _ => rfl)
def frL (F' F : Nat → Int32) : Prop := ∀ j, ¬ (27 ≤ j ∧ j ≤ 31) → F' j = F j
theorem r_looks {F rows me ord im we : Nat → Int32} {b mode step n : Nat} {A : MA} {s : BS} (hm : mode < 2) (hb : b + 786 ≤ 66100) (hR : RM rows b A) (hV : VM mode A) (hF : F 12 = nI mode) (hs : okB n s) (hst : step ≤ 100) (hn : n ≤ 1000000) (hE : EncR F s) :
    ∃ F' me' ord' im' we', m_X12_looks F rows me ord im we (nI b) (nI step) = some (F', me', ord', im', we') ∧ frL F' F ∧ (2000 < totN (gX A) 16 → F' 31 = 1 ∧ EncR F' s) ∧ (¬ 2000 < totN (gX A) 16 → F' 31 = 0 ∧ EncR F' (bdA mode A step (totN (gX A) 16) s)) := by
  have ht := tot_lt hV.1
  have e2000 : (2000 : Int64) = lN 2000 := rfl
  rw [m_X12_looks, bd_ok (r_total hR.1 hV.1 hb), e2000]
  by_cases c : 2000 < totN (gX A) 16
  · rw [if_neg (fun e => by
      have := (pk_lLE ht (by decide)).mp ((lg_cmp_le _ _).mp e)
      omega), m_X12_looks_j20, cb_1, nm, if_neg (by rw [upd_eq]; decide)]
    refine ⟨_, _, _, _, _, rfl, fun j hj => upd_ne (by omega), fun _ => ?_, fun e => absurd c e⟩
    refine ⟨upd_eq, ?_, ?_, ?_⟩
    · rw [upd_ne (by decide)]; exact hE.1
    · rw [upd_ne (by decide)]; exact hE.2.1
    · rw [upd_ne (by decide)]; exact hE.2.2
  · rw [if_pos ((lg_cmp_le _ _).mpr ((pk_lLE ht (by decide)).mpr (by omega))), m_X12_looks_j20, cb_0, nm, if_pos (show upd F 31 0 31 = 0 from upd_eq)]
    obtain ⟨F', me', we', w1, w2, w3⟩ := r_laysWell (F := upd F 31 0) (me := me) (we := we) hm hb hR hV (by rw [upd_ne (by decide)]; exact hF)
    obtain ⟨od, d1, d2⟩ := r_firstOrder (ord := ord)
    rw [bd_ok w1, bd_ok d1]
    obtain ⟨F2, o2, i2, z1, z2, z3⟩ := r_looks_loop (step := step) (we := we') (me := me') hm hb hR hV hs hst hn (N := totN (gX A) 16) (by omega) (totN (gX A) 16) 0 fuelN F' od im (by omega) (by rw [fuel_is]; omega) (by rw [w3 12 (by decide), upd_ne (by decide)]; exact hF) w2 d2 ⟨by rw [w3 28 (by decide), upd_ne (by decide)]; exact hE.1, by rw [w3 29 (by decide), upd_ne (by decide)]; exact hE.2.1, by rw [w3 30 (by decide), upd_ne (by decide)]; exact hE.2.2⟩
    have z1 : m_X12_looks_w43 rows (nI b) (nI step) fuelN (lN (totN (gX A) 16)) 0 F' me' od im we' = _ := z1
    rw [z1]
    refine ⟨_, _, _, _, _, rfl, fun j hj => ?_, fun e => absurd e c, fun _ => ?_⟩
    · rw [z3 j (by omega), w3 j (by omega), upd_ne (by omega)]
    refine ⟨?_, z2⟩
    · rw [z3 31 (by decide), w3 31 (by decide), upd_eq]
