/-! ===== copies of machines; what acts do ===== -/
def CMt (T : MSt) (mode : Nat) (A : MA) : Prop := CM T.1 T.2.1 T.2.2.1 T.2.2.2.1 T.2.2.2.2.1 T.2.2.2.2.2.1 T.2.2.2.2.2.2.1 T.2.2.2.2.2.2.2.1 T.2.2.2.2.2.2.2.2.1 T.2.2.2.2.2.2.2.2.2 mode A
theorem CM_congr {F md st hd ak mi be af wa ta F' md' st' hd' ak' mi' be' af' wa' ta' : Nat → Int32} {mode : Nat} {A : MA} (hV : VM mode A) (h : CM F md st hd ak mi be af wa ta mode A) (e2 : F' 2 = F 2) (e3 : F' 3 = F 3) (e7 : F' 7 = F 7) (e8 : F' 8 = F 8) (e9 : F' 9 = F 9) (e10 : F' 10 = F 10) (g1 : ∀ k, k < 64 → md' k = md k) (g2 : ∀ k, k < 96 → st' k = st k) (g3 : ∀ k, k < 16 → hd' k = hd k) (g4 : ∀ k, k < 16 → ak' k = ak k) (g5 : ∀ k, k < 80 → mi' k = mi k) (g6 : ∀ k, k < 44 → be' k = be k) (g7 : ∀ k, k < 44 → af' k = af k) (g8 : ∀ k, k < 48 → wa' k = wa k) (g9 : ∀ k, k < 8 → ta' k = ta k) : CM F' md' st' hd' ak' mi' be' af' wa' ta' mode A := by
  obtain ⟨⟨c1, c2, c3, c4⟩, ⟨a, k2, k3, k4, k5, k6⟩, ⟨k7, k7', k8⟩, k9, k10, k11, k12, k13, k14⟩ := h
  refine ⟨⟨fun w hw => (g1 w hw).trans (c1 w hw), fun l hl => (g3 l hl).trans (c2 l hl), fun l hl => (g4 l hl).trans (c3 l hl), fun l hl k q hk => ?_⟩, ⟨a, e2.trans k2, e3.trans k3, k4, k5, fun k q hk => ?_⟩, ⟨e7.trans k7, k7', fun i ops hi => ?_⟩, e8.trans k9, e9.trans k10, e10.trans k11, fun k hk => (g9 k hk).trans (k12 k hk), fun k hk => (g6 k hk).trans (k13 k hk), fun k hk => (g7 k hk).trans (k14 k hk)⟩
  · have hlt := (List.getElem?_eq_some_iff.mp hk).1
    have := (hV.1.2 l hl).1
    rw [g2 _ (by omega)]; exact c4 l hl k q hk
  · have hlt := (List.getElem?_eq_some_iff.mp hk).1
    rw [g5 _ (by omega)]; exact k6 k q hk
  · have hlt := (List.getElem?_eq_some_iff.mp hi).1
    exact wOps_sh (fun j hj => g8 _ (by omega)) (k8 i ops hi)
theorem cpy0 {f g : Nat → Int32} {n : Nat} : ∀ k, k < n → va_cpy f g 0 0 n k = f k := by
  intro k hk
  unfold va_cpy
  rw [if_pos (by omega), show 0 + (k - 0) = k by omega]
theorem c_copyFrom {F md st hd ak mi be af wa ta F' md' st' hd' ak' mi' be' af' wa' ta' : Nat → Int32} {mode : Nat} {A : MA} (hV : VM mode A) (h : CM F md st hd ak mi be af wa ta mode A) :
    ∃ R, m_X4_copyFrom F' F md' st' hd' ak' mi' be' af' wa' ta' md st hd ak mi be af wa ta = some R ∧ CMt R mode A := by
  have e1 : m_X1_copyFrom md' st' hd' ak' md st hd ak = some (va_cpy md md' 0 0 64, va_cpy st st' 0 0 96, va_cpy hd hd' 0 0 16, va_cpy ak ak' 0 0 16) := by
    rw [m_X1_copyFrom, show (0 : Int32) = nI 0 from rfl, show (64 : Int32) = nI 64 from rfl, show (96 : Int32) = nI 96 from rfl, show (16 : Int32) = nI 16 from rfl, cp_nI (by decide) (by decide) (by decide) (by decide), cp_nI (by decide) (by decide) (by decide) (by decide), cp_nI (by decide) (by decide) (by decide) (by decide), cp_nI (by decide) (by decide) (by decide) (by decide)]
  rw [m_X4_copyFrom, bd_ok e1, show (0 : Int32) = nI 0 from rfl, show (80 : Int32) = nI 80 from rfl, show (44 : Int32) = nI 44 from rfl, show (48 : Int32) = nI 48 from rfl, show (8 : Int32) = nI 8 from rfl]
  simp only [nm]
  rw [cp_nI (by decide) (by decide) (by decide) (by decide), cp_nI (by decide) (by decide) (by decide) (by decide), cp_nI (by decide) (by decide) (by decide) (by decide), cp_nI (by decide) (by decide) (by decide) (by decide), cp_nI (by decide) (by decide) (by decide) (by decide)]
  refine ⟨_, rfl, ?_⟩
  refine CM_congr hV h ?_ ?_ ?_ ?_ ?_ ?_ cpy0 cpy0 cpy0 cpy0 cpy0 cpy0 cpy0 cpy0 cpy0
  · show upd (upd (upd (upd (upd (upd F' 2 (F 2)) 3 (F 3)) 7 (F 7)) 8 (F 8)) 9 (F 9)) 10 (F 10) 2 = F 2
    rw [upd_ne (by decide), upd_ne (by decide), upd_ne (by decide), upd_ne (by decide), upd_ne (by decide), upd_eq]
  · show upd (upd (upd (upd (upd (upd F' 2 (F 2)) 3 (F 3)) 7 (F 7)) 8 (F 8)) 9 (F 9)) 10 (F 10) 3 = F 3
    rw [upd_ne (by decide), upd_ne (by decide), upd_ne (by decide), upd_ne (by decide), upd_eq]
  · show upd (upd (upd (upd (upd (upd F' 2 (F 2)) 3 (F 3)) 7 (F 7)) 8 (F 8)) 9 (F 9)) 10 (F 10) 7 = F 7
    rw [upd_ne (by decide), upd_ne (by decide), upd_ne (by decide), upd_eq]
  · show upd (upd (upd (upd (upd (upd F' 2 (F 2)) 3 (F 3)) 7 (F 7)) 8 (F 8)) 9 (F 9)) 10 (F 10) 8 = F 8
    rw [upd_ne (by decide), upd_ne (by decide), upd_eq]
  · show upd (upd (upd (upd (upd (upd F' 2 (F 2)) 3 (F 3)) 7 (F 7)) 8 (F 8)) 9 (F 9)) 10 (F 10) 9 = F 9
    rw [upd_ne (by decide), upd_eq]
  · show upd (upd (upd (upd (upd (upd F' 2 (F 2)) 3 (F 3)) 7 (F 7)) 8 (F 8)) 9 (F 9)) 10 (F 10) 10 = F 10
    exact upd_eq
theorem cq_copyM {S T : MSt} {mode : Nat} {A : MA} (hV : VM mode A) (h : CMt T mode A) : ∃ R, m_copyM S T = some R ∧ CMt R mode A := c_copyFrom hV h
/-! a crash -/
def fallA (mode : Nat) (im : Nat → Nat) (A : MA) : MA := ((im, (fun _ => []), fun _ => 0), [], gW A, 1, gO A, tal (gT A) 2, (fun k => recA mode im (20 + k)), fun k => recA mode im (20 + k))
theorem VM_fall {mode : Nat} {A : MA} {im : Nat → Nat} (hV : VM mode A) (hi : ∀ w, w < 64 → im w ≤ 99) : VM mode (fallA mode im A) := by
  obtain ⟨v1, v2, v3, v4, v5, v6, v7, v8, v9, v10, v11⟩ := hV
  refine ⟨⟨hi, fun l _ => ⟨Nat.zero_le _, Nat.le_refl _, fun st hs => (by cases hs)⟩⟩, fun q hq => (by cases hq), v3, (by decide : 1 ≤ 2), v5, fun _ => ⟨rfl, fun _ _ => rfl⟩, fun e => (by cases e), fun e => absurd rfl e, fun _ k hk => rfl, fun _ k hk => rfl, fun k hk => ⟨recA_le hi _ (by omega), recA_le hi _ (by omega)⟩⟩
theorem c_fall {F md st hd ak mi be af wa ta pic se : Nat → Int32} {mode : Nat} {A : MA} {im : Nat → Nat} (h : CM F md st hd ak mi be af wa ta mode A) (hp : ∀ w, w < 64 → pic w = nI (im w)) (hs : ∀ w, w < 64 → se w = nI (recA mode im w)) :
    ∃ F' md' hd' ak' be' af' ta', m_X4_fall F md hd ak be af ta pic se = some (F', md', hd', ak', be', af', ta') ∧ CM F' md' st hd' ak' mi be' af' wa ta' mode (fallA mode im A) := by
  obtain ⟨k1, k2, ⟨k7, k7', k8⟩, k9, k10, k11, k12, k13, k14⟩ := h
  obtain ⟨h1, a1, a2, -⟩ := c_fill (a := hd) (N := 16) (by decide)
  obtain ⟨h2, b1, b2, -⟩ := c_fill (a := ak) (N := 16) (by decide)
  have e1 : m_X1_holdMedia md hd ak pic 64 = some (va_cpy pic md 0 0 64, h1, h2) := by
    rw [m_X1_holdMedia, show cp pic md 64 64 0 0 64 _ = cp pic md 64 64 (nI 0) (nI 0) (nI 64) _ from rfl, cp_nI (by decide) (by decide) (by decide) (by decide), bd_ok a1, bd_ok b1]
  have e2 : m_X4_settle be af se 64 = some (va_cpy se be 20 0 44, va_cpy se af 20 0 44) := by
    rw [m_X4_settle, show (0 : Int32) = nI 0 from rfl, show (20 : Int32) = nI 20 from rfl, show (44 : Int32) = nI 44 from rfl, cp_nI (by decide) (by decide) (by decide) (by decide), cp_nI (by decide) (by decide) (by decide) (by decide)]
  have hse : ∀ (g : Nat → Int32) (k : Nat), k < 44 → va_cpy se g 20 0 44 k = nI (recA mode im (20 + k)) := by
    intro g k hk
    unfold va_cpy
    rw [if_pos (by omega), show 20 + (k - 0) = 20 + k by omega]; exact hs _ (by omega)
  rw [m_X4_fall, bd_ok e1, bd_ok e2, m_X4_dropMicros]
  simp only [nm]
  rw [bd_ok rfl, show (2 : Int32) = nI 2 from rfl, rd_nI (by decide) (by decide), wr_nI (by decide) (by decide)]
  refine ⟨_, _, _, _, _, _, _, rfl, ⟨fun w hw => (cpy0 w hw).trans (hp w hw), a2, b2, fun l hl k q hk => (by cases hk)⟩, ⟨0, ?_, ?_, (by decide : 0 + 0 ≤ 80), fun _ => rfl, fun k q hk => (by cases hk)⟩, ⟨?_, k7', k8⟩, ?_, ?_, ?_, tal_eq k12 (by decide), hse be, hse af⟩
  · show upd (upd (upd F 2 0) 3 0) 8 1 2 = nI 0
    rw [upd_ne (by decide), upd_ne (by decide), upd_eq]; rfl
  · show upd (upd (upd F 2 0) 3 0) 8 1 3 = nI 0
    rw [upd_ne (by decide), upd_eq]; rfl
  · show upd (upd (upd F 2 0) 3 0) 8 1 7 = nI (gW A).length
    rw [upd_ne (by decide), upd_ne (by decide), upd_ne (by decide)]; exact k7
  · show upd (upd (upd F 2 0) 3 0) 8 1 8 = nI 1
    exact upd_eq
  · show upd (upd (upd F 2 0) 3 0) 8 1 9 = nI mode
    rw [upd_ne (by decide), upd_ne (by decide), upd_ne (by decide)]; exact k10
  · show upd (upd (upd F 2 0) 3 0) 8 1 10 = nI (gO A)
    rw [upd_ne (by decide), upd_ne (by decide), upd_ne (by decide)]; exact k11
theorem r_crashes {F rows me ord im we : Nat → Int32} {b mode : Nat} {A : MA} {ro : Nat → Nat} (hm : mode < 2) (hb : b + 786 ≤ 66100) (hR : RM rows b A) (hV : VM mode A) (hF : F 12 = nI mode) (hok : okRo (gX A) ro) (ho : ∀ l, l < 16 → ord l = nI (ro l)) :
    ∃ F' r me' im' we', m_X12_crashes F rows me ord im we (nI b) = some (nI (fateA mode A ro), F', r, me', im', we') ∧ RM r b (fallA mode (imgA (gX A) ro) A) ∧ (∀ j, ¬ j = 27 → F' j = F j) ∧ frR r rows b := by
  obtain ⟨F', me', we', w1, w2, w3⟩ := r_laysWell (me := me) (we := we) hm hb hR hV hF
  obtain ⟨i1, f1⟩ := r_fateHere (im := im) hm hb hR hV ((w3 12 (by decide)).trans hF) w2 hok ho
  obtain ⟨i2, g1, g2⟩ := r_laysImage (im := i1) hR.1 hV.1 hb hok ho
  obtain ⟨k1, k2, k3, k4, k5, k6, k7, k8⟩ := id hR
  obtain ⟨r1, ⟨a1, a2⟩, a3⟩ := loop_up (fun n i r => m_X12_crashes_w18 ord (nI b) (m_X12_crashes_j44 ord (nI b)) n (nI (fateA mode A ro)) i F' r me' i2 we') (fun r => m_X12_crashes_j44 ord (nI b) (nI (fateA mode A ro)) F' r me' i2 we') 64 (fun k r => (∀ j, j < k → r (b + j) = nI (imgA (gX A) ro j)) ∧ ∀ j, (j < b ∨ b + 64 ≤ j) → r j = rows j) (by
    intro n k r hk hI
    have e := g2 k hk
    refine ⟨upd r (b + k) (nI (imgA (gX A) ro k)), ⟨fun j hj => ?_, fun j hj => ?_⟩, ?_⟩
    · by_cases c : j = k
      · rw [c, upd_eq]
      · rw [upd_ne (by omega)]; exact hI.1 j (by omega)
    · rw [upd_ne (by omega)]; exact hI.2 j hj
    · show m_X12_crashes_w18 _ _ _ _ _ _ _ _ _ _ _ = _
      rw [m_X12_crashes_w18]
      simp (disch := omega) only [lit32, nI_leI, if_neg, Nat.not_le, nI_add, rd_nI, e, wr_nI, nm]) (by
    intro n r _
    show m_X12_crashes_w18 _ _ _ _ _ _ _ _ _ _ _ = _
    rw [m_X12_crashes_w18]
    simp (disch := omega) only [lit32, nI_leI, if_pos]) fuelN 0 rows (Nat.zero_le _) (by rw [fuel_is]; omega) ⟨fun j hj => absurd hj (Nat.not_lt_zero j), fun _ _ => rfl⟩
  obtain ⟨r2, ⟨b1, b2⟩, b3⟩ := loop_up (fun n i r => m_X12_crashes_w46 ord (nI b) (m_X12_crashes_j82 ord (nI b)) n (nI (fateA mode A ro)) i F' r me' i2 we') (fun r => m_X12_crashes_j82 ord (nI b) (nI (fateA mode A ro)) F' r me' i2 we') 16 (fun k r => (∀ j, j < k → r (b + 64 + j) = nI 0 ∧ r (b + 80 + j) = nI 0) ∧ ∀ j, (j < b + 64 ∨ b + 96 ≤ j) → r j = r1 j) (by
    intro n k r hk hI
    refine ⟨upd (upd r (b + 64 + k) (nI 0)) (b + 80 + k) (nI 0), ⟨fun j hj => ?_, fun j hj => ?_⟩, ?_⟩
    · by_cases c : j = k
      · rw [c, upd_eq, upd_ne (by omega), upd_eq]; exact ⟨rfl, rfl⟩
      · rw [upd_ne (by omega), upd_ne (by omega), upd_ne (by omega), upd_ne (by omega)]; exact hI.1 j (by omega)
    · rw [upd_ne (by omega), upd_ne (by omega)]; exact hI.2 j hj
    · show m_X12_crashes_w46 _ _ _ _ _ _ _ _ _ _ _ = _
      rw [m_X12_crashes_w46]
      simp (disch := omega) only [lit32, nI_leI, if_neg, Nat.not_le, nI_add, wr_nI, nm]) (by
    intro n r _
    show m_X12_crashes_w46 _ _ _ _ _ _ _ _ _ _ _ = _
    rw [m_X12_crashes_w46]
    simp (disch := omega) only [lit32, nI_leI, if_pos]) fuelN 0 r1 (Nat.zero_le _) (by rw [fuel_is]; omega) ⟨fun j hj => absurd hj (Nat.not_lt_zero j), fun _ _ => rfl⟩
  have hfr : ∀ j, (j < b ∨ b + 96 ≤ j) → r2 j = rows j := fun j hj => (b2 j (by omega)).trans (a2 j (by omega))
  have hT : RTal r2 b (gT A) := rt_fr (fun j g1 g2 => hfr j (by omega)) k7
  have e780 : upd (upd (upd (upd r2 (b + 776) (nI 0)) (b + 774) (nI 0)) (b + 775) (nI 0)) (b + 772) (nI 1) (b + 780) = r2 (b + 780) := by rw [upd_ne (by omega), upd_ne (by omega), upd_ne (by omega), upd_ne (by omega)]
  refine ⟨F', upd (upd (upd (upd (upd r2 (b + 776) (nI 0)) (b + 774) (nI 0)) (b + 775) (nI 0)) (b + 772) (nI 1)) (b + 780) (r2 (b + 780) + nI 1), me', i2, we', ?_, ⟨⟨fun w hw => ?_, fun l hl => ?_, fun l hl => ?_, fun l hl k q hk => (by cases hk)⟩, ⟨0, ?_, ?_, (by decide : 0 + 0 ≤ 80), fun _ => rfl, fun k q hk => (by cases hk)⟩, RMw_fr (fun j g1 g2 => ?_) ?_ k3, ?_, ?_, ?_, ?_, ⟨fun e => absurd rfl e, fun e => absurd rfl e⟩⟩, w3, fun j hj => ?_⟩
  · rw [m_X12_crashes, bd_ok w1, bd_ok f1, bd_ok g1]
    refine a3.trans ?_
    rw [m_X12_crashes_j44]
    refine b3.trans ?_
    rw [m_X12_crashes_j82]
    simp (disch := omega) only [lit32, nI_add, wr_nI, rd_nI, e780]
  · rw [upd_ne (by omega), upd_ne (by omega), upd_ne (by omega), upd_ne (by omega), upd_ne (by omega), b2 _ (by omega)]; exact a1 w hw
  · rw [upd_ne (by omega), upd_ne (by omega), upd_ne (by omega), upd_ne (by omega), upd_ne (by omega)]; exact (b1 l hl).1
  · rw [upd_ne (by omega), upd_ne (by omega), upd_ne (by omega), upd_ne (by omega), upd_ne (by omega)]; exact (b1 l hl).2
  · rw [upd_ne (by omega), upd_ne (by omega), upd_eq]
  · show _ = nI 0
    rw [upd_ne (by omega), upd_ne (by omega), upd_ne (by omega), upd_eq]
  · rw [upd_ne (by omega), upd_ne (by omega), upd_ne (by omega), upd_ne (by omega), upd_ne (by omega)]; exact hfr j (by omega)
  · rw [upd_ne (by omega), upd_ne (by omega), upd_ne (by omega), upd_ne (by omega), upd_ne (by omega)]; exact hfr _ (by omega)
  · rw [upd_ne (by omega), upd_eq]; rfl
  · rw [upd_ne (by omega), upd_ne (by omega), upd_ne (by omega), upd_ne (by omega), upd_ne (by omega), hfr _ (by omega)]; exact k5
  · rw [upd_ne (by omega), upd_ne (by omega), upd_ne (by omega), upd_ne (by omega), upd_eq]; rfl
  · refine rt_tal (j := 2) (rt_fr (fun j g1 g2 => ?_) hT) (by decide) ?_
    · rw [upd_ne (by omega), upd_ne (by omega), upd_ne (by omega), upd_ne (by omega)]
    · show _ = upd (upd (upd (upd r2 (b + 776) (nI 0)) (b + 774) (nI 0)) (b + 775) (nI 0)) (b + 772) (nI 1) (b + 780) + 1
      rw [e780]; rfl
  · rw [upd_ne (by omega), upd_ne (by omega), upd_ne (by omega), upd_ne (by omega), upd_ne (by omega)]; exact hfr j (by omega)
/-! one more that waits -/
def addA (o : Nat × Nat × Nat) (A : MA) : MA := (gX A, gM A, gW A ++ [[o]], gS A, gO A, gT A, gB A, gA A)
theorem VM_add {mode : Nat} {A : MA} {o : Nat × Nat × Nat} (hV : VM mode A) (ho : opOK o) (hl : (gW A).length < 12) : VM mode (addA o A) := by
  obtain ⟨v1, v2, ⟨v3, v3'⟩, v4⟩ := hV
  refine ⟨v1, v2, ⟨?_, fun ops hops => ?_⟩, v4⟩
  · show (gW A ++ [[o]]).length ≤ 12
    rw [List.length_append, List.length_singleton]; omega
  · have hops : ops ∈ gW A ++ [[o]] := hops
    rcases List.mem_append.mp hops with h | h
    · exact v3' ops h
    · rw [List.mem_singleton.mp h]
      exact ⟨by show 1 ≤ 4; omega, fun z hz => by rw [List.mem_singleton.mp hz]; exact ho⟩
theorem c_addWaiting {F md st hd ak mi be af wa ta : Nat → Int32} {mode : Nat} {A : MA} {o : Nat × Nat × Nat} (h : CM F md st hd ak mi be af wa ta mode A) (ho : opOK o) (hl : (gW A).length < 12) :
    ∃ F' wa', m_X4_addWaiting F wa (nI (packN o)) = some (F', wa') ∧ F' 7 = nI ((gW A).length + 1) ∧ CM F' md st hd ak mi be af wa' ta mode (addA o A) := by
  obtain ⟨k1, ⟨a, k2, k3, k4, k5, k6⟩, ⟨k7, k7', k8⟩, k9, k10, k11, k12, k13, k14⟩ := h
  obtain ⟨wa', ⟨a1, a2⟩, a3⟩ := loop_up (fun n i r => m_X4_addWaiting_w11 (nI (packN o)) (m_X4_addWaiting_j44 (nI (packN o))) n i F r) (fun r => m_X4_addWaiting_j44 (nI (packN o)) F r) 4 (fun k r => (∀ j, j < k → r (4 * (gW A).length + j) = nI (if j = 0 then packN o else 0)) ∧ ∀ j, j < 4 * (gW A).length → r j = wa j) (by
    intro n k r hk hI
    have tail : ∀ x : Int32, x = nI (if k = 0 then packN o else 0) → m_X4_addWaiting_j37 (nI (packN o)) (m_X4_addWaiting_w11 (nI (packN o)) (m_X4_addWaiting_j44 (nI (packN o))) n) (nI k) (((F 7) * 4) + nI k) x F r = m_X4_addWaiting_w11 (nI (packN o)) (m_X4_addWaiting_j44 (nI (packN o))) n (nI (k + 1)) F (upd r (4 * (gW A).length + k) (nI (if k = 0 then packN o else 0))) := by
      intro x hx
      rw [hx, m_X4_addWaiting_j37, k7, show (4 : Int32) = nI 4 from rfl, nI_mulE, nI_add, wr_nI (by omega) (by decide), nm, show nI k + 1 = nI (k + 1) from nI_1 _, Nat.mul_comm]
    refine ⟨upd r (4 * (gW A).length + k) (nI (if k = 0 then packN o else 0)), ⟨fun j hj => ?_, fun j hj => ?_⟩, ?_⟩
    · by_cases c : j = k
      · rw [c, upd_eq]
      · rw [upd_ne (by omega)]; exact hI.1 j (by omega)
    · rw [upd_ne (by omega)]; exact hI.2 j hj
    · show m_X4_addWaiting_w11 (nI (packN o)) (m_X4_addWaiting_j44 (nI (packN o))) (n + 1) (nI k) F r = _
      rw [m_X4_addWaiting_w11, if_neg (show ¬ (4 : Int32) ≤ nI k from nI_ge (b := 4) hk (by decide))]
      by_cases c : k = 0
      · rw [if_pos (show nI k = 0 by rw [c]; rfl)]
        exact tail _ (by rw [if_pos c])
      · rw [if_neg (show ¬ nI k = 0 from nI_ne0 (by omega) (by omega))]
        exact tail _ (by rw [if_neg c]; rfl)) (by
    intro n r _
    show m_X4_addWaiting_w11 (nI (packN o)) (m_X4_addWaiting_j44 (nI (packN o))) (n + 1) (nI 4) F r = _
    rw [m_X4_addWaiting_w11, if_pos (show (4 : Int32) ≤ nI 4 from nI_le (a := 4) (Nat.le_refl _) (by decide))]) fuelN 0 wa (Nat.zero_le _) (by rw [fuel_is]; omega) ⟨fun j hj => absurd hj (Nat.not_lt_zero j), fun _ _ => rfl⟩
  refine ⟨upd F 7 (nI ((gW A).length + 1)), wa', ?_, upd_eq, k1, ⟨a, ?_, ?_, k4, k5, k6⟩, ⟨?_, ?_, fun i ops hi => ?_⟩, ?_, ?_, ?_, k12, k13, k14⟩
  · rw [m_X4_addWaiting, if_neg (show ¬ (12 : Int32) ≤ F 7 by rw [k7]; exact nI_ge (b := 12) hl (by decide))]
    refine a3.trans ?_
    rw [m_X4_addWaiting_j44, nm, k7, show nI (gW A).length + 1 = nI ((gW A).length + 1) from nI_1 _]
  · rw [upd_ne (by decide)]; exact k2
  · rw [upd_ne (by decide)]; exact k3
  · rw [upd_eq]
    show _ = nI (gW A ++ [[o]]).length
    rw [List.length_append, List.length_singleton]
  · show (gW A ++ [[o]]).length ≤ 12
    rw [List.length_append, List.length_singleton]; omega
  · have hi : (gW A ++ [[o]])[i]? = some ops := hi
    by_cases e : i < (gW A).length
    · rw [List.getElem?_append_left e] at hi
      exact wOps_sh (fun j hj => a2 _ (by omega)) (k8 i ops hi)
    · rw [List.getElem?_append_right (by omega)] at hi
      have hz := (List.getElem?_eq_some_iff.mp hi).1
      rw [List.length_singleton] at hz
      have hke : i = (gW A).length := by omega
      rw [hke, Nat.sub_self] at hi
      cases hi
      refine ⟨by show 1 ≤ 4; omega, fun z hz => by rw [List.mem_singleton.mp hz]; exact ho, fun j hj => ?_⟩
      rw [hke, a1 j hj]
      rcases (show j = 0 ∨ 0 < j by omega) with e | e
      · rw [e]; rfl
      · rw [if_neg (by omega)]
        have : ([o] : OPS)[j]? = none := List.getElem?_eq_none (by show 1 ≤ j; omega)
        rw [this]
  · rw [upd_ne (by decide)]; exact k9
  · rw [upd_ne (by decide)]; exact k10
  · rw [upd_ne (by decide)]; exact k11
theorem r_waits {rows : Nat → Int32} {b mode : Nat} {A : MA} {op one other : Nat} {p3 p4 : Int32} (hR : RM rows b A) (hV : VM mode A) (ho : opOK (op, one, other)) (hl : (gW A).length < 12) (hb : b + 786 ≤ 66100) (h3 : op ≤ 3 → p3 = nI one) (h4 : op = 0 ∨ op = 2 ∨ op = 3 → p4 = nI other) :
    ∃ r, m_X12_waits rows (nI b) (nI op) p3 p4 = some r ∧ RM r b (addA (op, one, other) A) ∧ frR r rows b := by
  obtain ⟨k1, k2, ⟨k3, k3', k3''⟩, k4, k5, k6, k7, k8, k9⟩ := hR
  obtain ⟨r1, ⟨a1, a2⟩, a3⟩ := loop_up (fun n i r => m_X12_waits_w24 (nI b) (nI op) p3 p4 (m_X12_waits_j48 (nI b) (nI op) p3 p4) n (nI (b + 616 + 13 * (gW A).length)) i r) (fun r => m_X12_waits_j48 (nI b) (nI op) p3 p4 (nI (b + 616 + 13 * (gW A).length)) r) 13 (fun k r => True ∧ ∀ j, (j < b + 616 + 13 * (gW A).length ∨ b + 616 + 13 * (gW A).length + 13 ≤ j) → r j = rows j) (by
    intro n k r hk hI
    refine ⟨upd r (b + 616 + 13 * (gW A).length + k) (nI 0), ⟨trivial, fun j hj => ?_⟩, ?_⟩
    · rw [upd_ne (by omega)]; exact hI.2 j hj
    · show m_X12_waits_w24 _ _ _ _ _ _ _ _ _ = _
      rw [m_X12_waits_w24]
      simp (disch := omega) only [lit32, nI_leI, if_neg, Nat.not_le, nI_add, wr_nI, nm]) (by
    intro n r _
    show m_X12_waits_w24 _ _ _ _ _ _ _ _ _ = _
    rw [m_X12_waits_w24]
    simp (disch := omega) only [lit32, nI_leI, if_pos]) fuelN 0 rows (Nat.zero_le _) (by rw [fuel_is]; omega) ⟨trivial, fun _ _ => rfl⟩
  generalize hp : b + 616 + 13 * (gW A).length = p at a2 a3
  have e7 : upd (upd (upd (upd r1 p (nI 1)) (p + 1) (nI op)) (p + 2) p3) (p + 3) p4 (b + 777) = nI (gW A).length := by
    rw [upd_ne (by omega), upd_ne (by omega), upd_ne (by omega), upd_ne (by omega), a2 _ (by omega)]; exact k3
  have hfr : ∀ j, (j < p ∨ p + 13 ≤ j) → ¬ j = b + 777 → upd (upd (upd (upd (upd r1 p (nI 1)) (p + 1) (nI op)) (p + 2) p3) (p + 3) p4) (b + 777) (nI ((gW A).length + 1)) j = rows j := by
    intro j hj hn
    rw [upd_ne hn, upd_ne (by omega), upd_ne (by omega), upd_ne (by omega), upd_ne (by omega)]; exact a2 j hj
  refine ⟨upd (upd (upd (upd (upd r1 p (nI 1)) (p + 1) (nI op)) (p + 2) p3) (p + 3) p4) (b + 777) (nI ((gW A).length + 1)), ?_, ⟨RC_fr hV.1 (fun j g1 g2 => hfr j (by omega) (by omega)) k1, RMm_fr (fun j g1 g2 => hfr j (by omega) (by omega)) (hfr _ (by omega) (by omega)) (hfr _ (by omega) (by omega)) k2, ⟨?_, ?_, fun i ops hi => ?_⟩, (hfr _ (by omega) (by omega)).trans k4, (hfr _ (by omega) (by omega)).trans k5, (hfr _ (by omega) (by omega)).trans k6, fun k hk => (hfr _ (by omega) (by omega)).trans (k7 k hk), ⟨fun e k hk => (hfr _ (by omega) (by omega)).trans (k8 e k hk), fun e e2 k hk => (hfr _ (by omega) (by omega)).trans (k9 e e2 k hk)⟩⟩, fun j hj => hfr j (by omega) (by omega)⟩
  · rw [m_X12_waits, show (777 : Int32) = nI 777 from rfl, nI_add, rd_nI (by omega) (by decide), k3, nm, show (616 : Int32) = nI 616 from rfl, show (13 : Int32) = nI 13 from rfl, nI_mulE, nI_add, nI_add, hp]
    refine a3.trans ?_
    rw [m_X12_waits_j48]
    simp (disch := omega) only [lit32, nI_add, wr_nI, rd_nI, e7]
  · rw [upd_eq]
    show _ = nI (gW A ++ [[(op, one, other)]]).length
    rw [List.length_append, List.length_singleton]
  · show (gW A ++ [[(op, one, other)]]).length ≤ 12
    rw [List.length_append, List.length_singleton]; omega
  · have hi : (gW A ++ [[(op, one, other)]])[i]? = some ops := hi
    by_cases e : i < (gW A).length
    · rw [List.getElem?_append_left e] at hi
      exact rOps_fr (fun j hj => hfr _ (by omega) (by omega)) (k3'' i ops hi)
    · rw [List.getElem?_append_right (by omega)] at hi
      have hz := (List.getElem?_eq_some_iff.mp hi).1
      rw [List.length_singleton] at hz
      have hke : i = (gW A).length := by omega
      rw [hke, Nat.sub_self] at hi
      cases hi
      rw [hke, hp]
      refine ⟨by show 1 ≤ 4; omega, fun z hz => by rw [List.mem_singleton.mp hz]; exact ho, ?_, fun j o hj => ?_⟩
      · rw [upd_ne (by omega), upd_ne (by omega), upd_ne (by omega), upd_ne (by omega), upd_eq]; rfl
      · have hlt := (List.getElem?_eq_some_iff.mp hj).1
        have hj0 : j = 0 := by
          have hlt : j < 1 := hlt
          omega
        subst hj0
        cases hj
        refine ⟨?_, fun hc => ?_, fun hc => ?_⟩
        · show upd _ _ _ (p + 1) = _
          rw [upd_ne (by omega), upd_ne (by omega), upd_ne (by omega), upd_eq]
        · show upd _ _ _ (p + 2) = _
          rw [upd_ne (by omega), upd_ne (by omega), upd_eq]; exact h3 hc
        · show upd _ _ _ (p + 3) = _
          rw [upd_ne (by omega), upd_eq]; exact h4 hc
