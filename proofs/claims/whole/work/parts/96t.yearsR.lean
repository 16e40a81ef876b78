/-! ===== years: the reference ===== -/
theorem leak_t (f : Nat → Nat) : ∃ t, t < 1024 ∧ leakA f = nI t := by
  have hu := usedN_lt f 10 (by omega)
  refine ⟨(BitVec.ofNat 32 (usedN f 10) &&& ((nI (survN f 4).1 ^^^ (-1) : Int32)).toBitVec).toNat, ?_, ?_⟩
  · rw [BitVec.toNat_and, BitVec.toNat_ofNat]
    exact Nat.lt_of_le_of_lt Nat.and_le_left (by omega)
  · refine nI_bits ?_
    unfold leakA
    rw [Int32.toBitVec_and, nI_bv]
def frY (F' F : Nat → Int32) : Prop := ∀ j, j ≤ 15 → F' j = F j
theorem frY_tr {F G H : Nat → Int32} (h1 : frY F G) (h2 : frY G H) : frY F H := fun j a => (h1 j a).trans (h2 j a)
theorem frY_F {F G : Nat → Int32} (h : frF F G) : frY F G := fun j a => h j (by omega)
theorem frY_u {F : Nat → Int32} {j : Nat} {x : Int32} (h : 15 < j) : frY (upd F j x) F := fun i a => upd_ne (by omega)
def RY (F rows : Nat → Int32) (mode : Nat) (Y : YS) : Prop := RM rows 786 Y.1 ∧ F 12 = nI mode ∧ F 49 = Y.2.1 ∧ F 50 = Y.2.2.2
theorem r_memback {mem : Nat → Int32} {F ord im we : Nat → Int32} {K : (Nat → Int32) → (Nat → Int32) → (Nat → Int32) → (Nat → Int32) → (Nat → Int32) → (Nat → Int32) → Option ((Nat → Int32) × (Nat → Int32) × (Nat → Int32) × (Nat → Int32) × (Nat → Int32) × (Nat → Int32))} :
    ∀ (d x fuel : Nat) (rows : Nat → Int32), x + d = 64 → d < fuel → ∃ r, m_X12_crashesByDraws_w103 K fuel (nI x) F rows mem ord im we = K F r mem ord im we ∧ (∀ j, x ≤ j → j < 64 → r (786 + j) = mem j) ∧ ∀ j, (j < 786 + x ∨ 850 ≤ j) → r j = rows j := by
  intro d
  induction d with
  | zero =>
    intro x fuel rows hx hf
    obtain ⟨fuel, rfl⟩ : ∃ d, fuel = d + 1 := ⟨fuel - 1, by omega⟩
    rw [m_X12_crashesByDraws_w103, if_pos (show (64 : Int32) ≤ nI x from nI_le (a := 64) (by omega) (by omega))]
    exact ⟨rows, rfl, fun j a b => absurd b (by omega), fun _ _ => rfl⟩
  | succ d ih =>
    intro x fuel rows hx hf
    obtain ⟨fuel, rfl⟩ : ∃ d, fuel = d + 1 := ⟨fuel - 1, by omega⟩
    rw [m_X12_crashesByDraws_w103, if_neg (show ¬ (64 : Int32) ≤ nI x from nI_ge (b := 64) (by omega) (by decide)), rd_nI (by omega) (by decide), show (786 : Int32) + nI x = nI (786 + x) from nI_add 786 x, wr_nI (by omega) (by decide), nm, show nI x + 1 = nI (x + 1) from nI_1 _]
    obtain ⟨r, r1, r2, r3⟩ := ih (x + 1) fuel (upd rows (786 + x) (mem x)) (by omega) (by omega)
    refine ⟨r, r1, fun j a b => ?_, fun j hj => ?_⟩
    · by_cases c : j = x
      · rw [c, r3 (786 + x) (by omega), upd_eq]
      · exact r2 j (by omega) b
    · rw [r3 j (by omega), upd_ne (by omega)]
theorem r_rcv {F rows me ord im we : Nat → Int32} {mode : Nat} {B : MA} (hm2 : mode < 2) (hR : RM rows 786 B) (hV : VM mode B) (h1 : gS B = 1) (hF : F 12 = nI mode) :
    ∃ r me', m_X12_crashesByDraws_j86 F rows me ord im we = some (F, r, me', ord, im, we) ∧ RM r 786 (rcvA mode B) ∧ frR r rows 786 := by
  obtain ⟨u2, p1, p2⟩ := r_laysMemory (mem := me) (b := 786) hR.1 (by decide)
  have p1 : m_X12_laysMemory rows me 786 = some u2 := p1
  obtain ⟨u3, q1, q2⟩ := r_recovers hF p2 hV.1.1 hm2
  obtain ⟨r, r1, r2, r3⟩ := r_memback (mem := u3) (F := F) (ord := ord) (im := im) (we := we) (K := m_X12_crashesByDraws_j131) 64 0 fuelN rows (by omega) (by rw [fuel_is]; omega)
  have r1 : m_X12_crashesByDraws_w103 m_X12_crashesByDraws_j131 fuelN 0 F rows u3 ord im we = _ := r1
  rw [m_X12_crashesByDraws_j86, bd_ok p1, bd_ok q1, r1, m_X12_crashesByDraws_j131, show (1558 : Int32) = nI 1558 from rfl, wr_nI (by decide) (by decide)]
  refine ⟨_, _, rfl, ?_, fun j hj => by rw [upd_ne (by omega), r3 j (by omega)]⟩
  obtain ⟨g1, g2, g3, g4, g5, g6, g7, g8, g9⟩ := id hR
  have hm := (hV.2.2.2.2.2.1 h1).1
  have fr : ∀ j, 850 ≤ j → ¬ j = 1558 → upd r 1558 0 j = rows j := fun j a b => by rw [upd_ne b, r3 j (by omega)]
  have hfl : flA (rcvA mode B) = flA B := by
    unfold flA
    rw [show gM (rcvA mode B) = gM B from rfl, hm]; rfl
  refine ⟨⟨fun w hw => ?_, fun l hl => (fr _ (by omega) (by omega)).trans (g1.2.1 l hl), fun l hl => (fr _ (by omega) (by omega)).trans (g1.2.2.1 l hl), fun l hl k q hk => ?_⟩, RMm_fr (fun i p q => fr i (by omega) (by omega)) (fr _ (by omega) (by omega)) (fr _ (by omega) (by omega)) g2, RMw_fr (fun i p q => fr i (by omega) (by omega)) (fr _ (by omega) (by omega)) g3, upd_eq, (fr _ (by omega) (by omega)).trans g5, by rw [hfl]; exact (fr _ (by omega) (by omega)).trans g6, fun k hk => (fr _ (by omega) (by omega)).trans (g7 k hk), ⟨fun e => absurd hm e, fun e => absurd hm e⟩⟩
  · rw [upd_ne (by omega), r2 w (by omega) hw, q2 w hw]; rfl
  · have hlen := (hV.1.2 l hl).1
    have hk2 : k < ((gX B).2.1 l).length := (List.getElem?_eq_some_iff.mp hk).1
    obtain ⟨z1, z2⟩ := g1.2.2.2 l hl k q hk
    exact ⟨(fr _ (by omega) (by omega)).trans z1, (fr _ (by omega) (by omega)).trans z2⟩
theorem r_crDraws {D : Int32 → Nat → Nat × Int32} (hD : okD D) {F rows me ord im we : Nat → Int32} {mode : Nat} {Y : YS} (hm2 : mode < 2) (h : RY F rows mode Y) (hV : VM mode Y.1) :
    ∃ F' r me' ord' im' we', m_X12_crashesByDraws F rows me ord im we = some (F', r, me', ord', im', we') ∧ RY F' r mode (crA D mode Y) ∧ frY F' F ∧ frR r rows 786 := by
  obtain ⟨hR, h12, h49, h50⟩ := id h
  have e8 : rows 1558 = nI (gS Y.1) := hR.2.2.2.1
  have hs2 := hV.2.2.2.1
  unfold crA
  rw [m_X12_crashesByDraws, show (1558 : Int32) = nI 1558 from rfl, rd_nI (by decide) (by decide), e8]
  by_cases c : gS Y.1 = 1
  · obtain ⟨r, me', z1, z2, z3⟩ := r_rcv (me := me) (ord := ord) (im := im) (we := we) hm2 hR hV c h12
    rw [if_pos c, if_pos (show nI (gS Y.1) = 1 by rw [c]; rfl), z1]
    exact ⟨_, _, _, _, _, _, rfl, ⟨z2, h12, h49, h50⟩, fun _ _ => rfl, z3⟩
  · rw [if_neg c, if_neg (show ¬ nI (gS Y.1) = 1 from fun e => c (nI_inj (b := 1) (by omega) (by decide) e))]
    have lp : ∀ (d l fuel : Nat) (F1 ord : Nat → Int32), l + d = 16 → d < fuel → F1 49 = (roD D (gX Y.1) Y.2.1 l).2 → (∀ j, ¬ j = 49 → F1 j = F j) → (∀ j, j < l → ord j = nI ((roD D (gX Y.1) Y.2.1 l).1 j)) →
        ∃ F' ord', m_X12_crashesByDraws_w14 m_X12_crashesByDraws_j65 fuel (nI l) F1 rows me ord im we = m_X12_crashesByDraws_j65 F' rows me ord' im we ∧ F' 49 = (roD D (gX Y.1) Y.2.1 16).2 ∧ (∀ j, ¬ j = 49 → F' j = F j) ∧ ∀ j, j < 16 → ord' j = nI ((roD D (gX Y.1) Y.2.1 16).1 j) := by
      intro d
      induction d with
      | zero =>
        intro l fuel F1 ord hl hf q3 q4 hW
        obtain ⟨fuel, rfl⟩ : ∃ d, fuel = d + 1 := ⟨fuel - 1, by omega⟩
        have : l = 16 := by omega
        subst this
        rw [m_X12_crashesByDraws_w14, if_pos (show (16 : Int32) ≤ nI 16 by decide)]
        exact ⟨F1, ord, rfl, q3, q4, hW⟩
      | succ d ih =>
        intro l fuel F1 ord hl hf q3 q4 hW
        obtain ⟨fuel, rfl⟩ : ∃ d, fuel = d + 1 := ⟨fuel - 1, by omega⟩
        have hlen := (hV.1.2 l (by omega)).1
        have e2 : rows (850 + l) = nI ((gX Y.1).2.1 l).length := hR.1.2.1 l (by omega)
        have h0 := (roD_ok hD (X := gX Y.1) (s := Y.2.1) l).2 l (Nat.le_refl _)
        rw [m_X12_crashesByDraws_w14, if_neg (show ¬ (16 : Int32) ≤ nI l from nI_ge (b := 16) (by omega) (by decide)), show (850 : Int32) + nI l = nI (850 + l) from nI_add 850 l, rd_nI (by omega) (by decide), e2]
        by_cases z : ((gX Y.1).2.1 l).length = 0
        · rw [if_pos (show nI ((gX Y.1).2.1 l).length = 0 by rw [z]; rfl), m_X12_crashesByDraws_j58, wr_nI (by omega) (by decide), nm, show nI l + 1 = nI (l + 1) from nI_1 _]
          refine ih (l + 1) fuel F1 _ (by omega) (by omega) (by rw [roD, if_pos z]; exact q3) q4 (fun j hj => ?_)
          rw [roD, if_pos z]
          by_cases y : j = l
          · rw [y, upd_eq, h0]; rfl
          · rw [upd_ne y]; exact hW j (by omega)
        · rw [if_neg (nI_ne0 (by omega) (by omega)), rd_nI (by omega) (by decide), e2, show nI ((gX Y.1).2.1 l).length + 1 = nI (((gX Y.1).2.1 l).length + 1) from nI_1 _, bd_ok (hD.2.2 F1 _ _ q3 (by omega) (by omega))]
          dsimp only
          rw [m_X12_crashesByDraws_j58, wr_nI (by omega) (by decide), nm, show nI l + 1 = nI (l + 1) from nI_1 _]
          refine ih (l + 1) fuel _ _ (by omega) (by omega) (by rw [roD, if_neg z, upd_eq]) (fun j hj => by rw [upd_ne hj]; exact q4 j hj) (fun j hj => ?_)
          rw [roD, if_neg z]
          dsimp only
          by_cases y : j = l
          · rw [y, upd_eq, upN_eq]
          · rw [upd_ne y, upN_ne y]; exact hW j (by omega)
    obtain ⟨F1, od, p1, p2, p3, p4⟩ := lp 16 0 fuelN F ord (by omega) (by rw [fuel_is]; omega) h49 (fun _ _ => rfl) (fun j hj => absurd hj (by omega))
    have p1 : m_X12_crashesByDraws_w14 m_X12_crashesByDraws_j65 fuelN 0 F rows me ord im we = _ := p1
    rw [p1, m_X12_crashesByDraws_j65]
    have h12' : F1 12 = nI mode := (p3 12 (by decide)).trans h12
    obtain ⟨F2, r, me', im', we', k1, k2, k3, k4⟩ := r_crashes (me := me) (im := im) (we := we) (b := 786) hm2 (by decide) hR hV h12' (roD_ok hD 16).1 p4
    have k1 : m_X12_crashes F1 rows me od im we 786 = some (nI (fateA mode Y.1 (roD D (gX Y.1) Y.2.1 16).1), F2, r, me', im', we') := k1
    have hfl := fateA_le (mode := mode) (A := Y.1) (ro := (roD D (gX Y.1) Y.2.1 16).1)
    have hV2 := VM_fall (im := imgA (gX Y.1) (roD D (gX Y.1) Y.2.1 16).1) hV (imgA_le hV.1)
    have f2 : ∀ j, j ≤ 15 → F2 j = F j := fun j hj => (k3 j (by omega)).trans (p3 j (by omega))
    have e49 : F2 49 = (roD D (gX Y.1) Y.2.1 16).2 := (k3 49 (by decide)).trans p2
    have e50 : F2 50 = Y.2.2.2 := (k3 50 (by decide)).trans ((p3 50 (by decide)).trans h50)
    have e12 : F2 12 = nI mode := (f2 12 (by decide)).trans h12
    rw [bd_ok k1]
    dsimp only
    by_cases d : fateA mode Y.1 (roD D (gX Y.1) Y.2.1 16).1 = 3
    · rw [if_pos d, if_pos (show nI (fateA mode Y.1 (roD D (gX Y.1) Y.2.1 16).1) = 3 by rw [d]; rfl), nm]
      have e12' : upd F2 50 (F2 50 + 1) 12 = nI mode := (upd_ne (by decide)).trans e12
      obtain ⟨r', me'', z1, z2, z3⟩ := r_rcv (me := me') (ord := od) (im := im') (we := we') hm2 k2 hV2 rfl e12'
      rw [z1]
      exact ⟨_, _, _, _, _, _, rfl, ⟨z2, e12', (upd_ne (by decide)).trans e49, by rw [upd_eq, e50]⟩, fun j hj => by rw [upd_ne (by omega)]; exact f2 j hj, frR_tr z3 k4⟩
    · rw [if_neg d, if_neg (show ¬ nI (fateA mode Y.1 (roD D (gX Y.1) Y.2.1 16).1) = 3 from fun e => d (nI_inj (b := 3) (by omega) (by decide) e))]
      obtain ⟨r', me'', z1, z2, z3⟩ := r_rcv (me := me') (ord := od) (im := im') (we := we') hm2 k2 hV2 rfl e12
      rw [z1]
      exact ⟨_, _, _, _, _, _, rfl, ⟨z2, e12, e49, e50⟩, f2, frR_tr z3 k4⟩
theorem r_addW {F rows w ad nu me ord im we : Nat → Int32} {mode wh op one other : Nat} {p3 p4 : Int32} {B : MA} (hR : RM rows 786 B) (hV : VM mode B) (ho : opOK (op, one, other)) (hw : wh = 6 + op) (h3 : op ≤ 3 → p3 = nI one) (h4 : op = 0 ∨ op = 2 ∨ op = 3 → p4 = nI other) :
    ∃ r, m_X12_year_j102 (nI wh) p3 p4 F rows w ad nu me ord im we = some (F, r, w, ad, nu, me, ord, im, we) ∧ RM r 786 (addW (op, one, other) B) ∧ frR r rows 786 := by
  have e7 : rows 1563 = nI (gW B).length := hR.2.2.1.1
  have hl := hV.2.2.1.1
  have hop : op ≤ 4 := ho.1
  rw [m_X12_year_j102, show (1563 : Int32) = nI 1563 from rfl, rd_nI (by decide) (by decide), e7]
  unfold addW
  by_cases c : (gW B).length = 12
  · rw [if_pos c, if_pos (show (12 : Int32) ≤ nI (gW B).length by rw [c]; decide)]
    exact ⟨_, rfl, hR, frR_refl⟩
  · obtain ⟨r, r1, r2, r3⟩ := r_waits (b := 786) hR hV ho (by omega) (by decide) h3 h4
    have r1 : m_X12_waits rows 786 (nI op) p3 p4 = some r := r1
    rw [if_neg c, if_neg (show ¬ (12 : Int32) ≤ nI (gW B).length from nI_ge (b := 12) (by omega) (by decide)), show nI wh - 6 = nI op by rw [hw]; exact (nI_subE (b := 6) (by omega)).trans (by rw [Nat.add_sub_cancel_left]), bd_ok r1]
    exact ⟨r, rfl, r2, r3⟩
theorem r_year {D : Int32 → Nat → Nat × Int32} (hD : okD D) {F rows w ad nu me ord im we : Nat → Int32} {mode : Nat} {Y : YS} (hm2 : mode < 2) (h : RY F rows mode Y) (hV : VM mode Y.1) :
    ∃ F' r w' ad' nu' me' ord' im' we', m_X12_year F rows w ad nu me ord im we = some (F', r, w', ad', nu', me', ord', im', we') ∧ RY F' r mode (yrA D mode Y) ∧ frY F' F ∧ frR r rows 786 := by
  obtain ⟨hR, h12, h49, h50⟩ := id h
  have d8 : m_X12_draw F 8 = some (nI (D Y.2.1 8).1, upd F 49 (D Y.2.1 8).2) := hD.2.2 F _ 8 h49 (by decide) (by decide)
  have l8 := hD.1 Y.2.1 8 (by omega)
  unfold yrA yrB
  rw [m_X12_year, bd_ok d8]
  dsimp only
  have g12 : upd F 49 (D Y.2.1 8).2 12 = nI mode := (upd_ne (by decide)).trans h12
  have g49 : upd F 49 (D Y.2.1 8).2 49 = (D Y.2.1 8).2 := upd_eq
  have g50 : upd F 49 (D Y.2.1 8).2 50 = Y.2.2.2 := (upd_ne (by decide)).trans h50
  have gf : frY (upd F 49 (D Y.2.1 8).2) F := frY_u (by decide)
  generalize upd F 49 (D Y.2.1 8).2 = F1 at *
  generalize (D Y.2.1 8).1 = wh at *
  generalize (D Y.2.1 8).2 = s1 at *
  have up : ∀ (G : Nat → Int32) (x : Int32), G 12 = nI mode → G 50 = Y.2.2.2 → upd G 49 x 12 = nI mode ∧ upd G 49 x 50 = Y.2.2.2 := fun G x a b => ⟨(upd_ne (by decide)).trans a, (upd_ne (by decide)).trans b⟩
  by_cases c1 : wh < 4
  · have d6 : m_X12_draw F1 6 = some (nI (D s1 6).1, upd F1 49 (D s1 6).2) := hD.2.2 F1 _ 6 g49 (by decide) (by decide)
    have l6 := hD.1 s1 6 (by omega)
    obtain ⟨u1, u2⟩ := up F1 (D s1 6).2 g12 g50
    obtain ⟨F2, r, w', ad', nu', z1, z2, z3, z4⟩ := r_goes (w := w) (ad := ad) (nu := nu) (b := 786) (many := (D s1 6).1 + 1) hm2 (by decide) (by omega) hR hV u1
    have z1 : m_X12_goes (upd F1 49 (D s1 6).2) rows w ad nu 786 (nI ((D s1 6).1 + 1)) = _ := z1
    rw [if_pos c1, if_neg (show ¬ (4 : Int32) ≤ nI wh from nI_ge (b := 4) c1 (by decide)), bd_ok d6]
    dsimp only
    rw [show nI (D s1 6).1 + 1 = nI ((D s1 6).1 + 1) from nI_1 _, bd_ok z1]
    exact ⟨_, _, _, _, _, _, _, _, _, rfl, ⟨z2, (z3 12 (by decide)).trans u1, (z3 49 (by decide)).trans upd_eq, (z3 50 (by decide)).trans u2⟩, frY_tr (frY_F z3) (frY_tr (frY_u (by decide)) gf), z4⟩
  · rw [if_neg c1, if_pos (show (4 : Int32) ≤ nI wh from nI_le (a := 4) (by omega) (by omega))]
    by_cases c2 : wh = 4
    · have d16 : m_X12_draw F1 16 = some (nI (D s1 16).1, upd F1 49 (D s1 16).2) := hD.2.2 F1 _ 16 g49 (by decide) (by decide)
      have l16 := hD.1 s1 16 (by omega)
      have e2 : rows (850 + (D s1 16).1) = nI ((gX Y.1).2.1 (D s1 16).1).length := hR.1.2.1 _ l16
      have hlen := (hV.1.2 _ l16).1
      obtain ⟨u1, u2⟩ := up F1 (D s1 16).2 g12 g50
      rw [if_pos c2, if_pos (show nI wh = 4 by rw [c2]; rfl), bd_ok d16]
      dsimp only
      rw [show (850 : Int32) + nI (D s1 16).1 = nI (850 + (D s1 16).1) from nI_add 850 _, rd_nI (by omega) (by decide), e2]
      by_cases c3 : ((gX Y.1).2.1 (D s1 16).1).length = 0
      · rw [if_pos c3, if_pos (show nI ((gX Y.1).2.1 (D s1 16).1).length ≤ 0 by rw [c3]; decide)]
        exact ⟨_, _, _, _, _, _, _, _, _, rfl, ⟨hR, u1, upd_eq, u2⟩, frY_tr (frY_u (by decide)) gf, frR_refl⟩
      · obtain ⟨r, r1, r2, _, r3⟩ := r_ev (b := 786) hR hV l16 (m := 1) (by omega) (by decide)
        have r1 : m_X12_reaches rows 786 (nI (D s1 16).1) 1 = some r := r1
        rw [if_neg c3, if_neg (show ¬ nI ((gX Y.1).2.1 (D s1 16).1).length ≤ 0 from nI_ge (a := 0) (by omega) (by omega)), bd_ok r1]
        exact ⟨_, _, _, _, _, _, _, _, _, rfl, ⟨r2, u1, upd_eq, u2⟩, frY_tr (frY_u (by decide)) gf, r3⟩
    · rw [if_neg c2, if_neg (show ¬ nI wh = 4 from fun e => c2 (nI_inj (b := 4) (by omega) (by decide) e))]
      by_cases c4 : wh = 5
      · obtain ⟨F', r, me', ord', im', we', z1, z2, z3, z4⟩ := r_crDraws hD (me := me) (ord := ord) (im := im) (we := we) (Y := (Y.1, s1, Y.2.2)) hm2 ⟨hR, g12, g49, g50⟩ hV
        rw [if_pos c4, if_pos (show nI wh = 5 by rw [c4]; rfl), bd_ok z1]
        exact ⟨_, _, _, _, _, _, _, _, _, rfl, z2, frY_tr z3 gf, z4⟩
      · have d4 : m_X12_draw F1 4 = some (nI (D s1 4).1, upd F1 49 (D s1 4).2) := hD.2.2 F1 _ 4 g49 (by decide) (by decide)
        have l4 := hD.1 s1 4 (by omega)
        obtain ⟨u1, u2⟩ := up F1 (D s1 4).2 g12 g50
        rw [if_neg c4, if_neg (show ¬ nI wh = 5 from fun e => c4 (nI_inj (b := 5) (by omega) (by decide) e)), bd_ok d4]
        dsimp only
        by_cases c5 : wh = 6
        · have d10 : m_X12_draw (upd F1 49 (D s1 4).2) 10 = some (nI (D (D s1 4).2 10).1, upd (upd F1 49 (D s1 4).2) 49 (D (D s1 4).2 10).2) := hD.2.2 _ _ 10 upd_eq (by decide) (by decide)
          have l10 := hD.1 (D s1 4).2 10 (by omega)
          obtain ⟨u3, u4⟩ := up _ (D (D s1 4).2 10).2 u1 u2
          obtain ⟨r, z1, z2, z3⟩ := r_addW (F := upd (upd F1 49 (D s1 4).2) 49 (D (D s1 4).2 10).2) (w := w) (ad := ad) (nu := nu) (me := me) (ord := ord) (im := im) (we := we) (wh := wh) (p3 := nI (D s1 4).1) (p4 := nI (D (D s1 4).2 10).1) hR hV (ok0 l4 l10) (by omega) (fun _ => rfl) (fun _ => rfl)
          rw [if_pos c5, if_pos (show nI wh = 6 by rw [c5]; rfl), bd_ok d10]
          dsimp only
          rw [z1]
          exact ⟨_, _, _, _, _, _, _, _, _, rfl, ⟨z2, u3, upd_eq, u4⟩, frY_tr (frY_u (by decide)) (frY_tr (frY_u (by decide)) gf), z3⟩
        · obtain ⟨r, z1, z2, z3⟩ := r_addW (F := upd F1 49 (D s1 4).2) (w := w) (ad := ad) (nu := nu) (me := me) (ord := ord) (im := im) (we := we) (wh := wh) (p3 := nI (D s1 4).1) (p4 := 0) hR hV (ok1 l4) (by omega) (fun _ => rfl) (fun e => by omega)
          rw [if_neg c5, if_neg (show ¬ nI wh = 6 from fun e => c5 (nI_inj (b := 6) (by omega) (by decide) e)), z1]
          exact ⟨_, _, _, _, _, _, _, _, _, rfl, ⟨z2, u1, upd_eq, u2⟩, frY_tr (frY_u (by decide)) gf, z3⟩
/-! the tally of crashes -/
theorem tal_ne {t : Nat → Int32} {a j : Nat} (h : ¬ j = a) : tal t a j = t j := upd_ne h
theorem beg_t2 {mode : Nat} {A : MA} : gT (begA mode A).1 2 = gT A 2 := by
  unfold begA
  cases (begL (gX A) (gW A)).2.1 with
  | none =>
    show upd (gT A) 1 (gT A 1 + nI (begL (gX A) (gW A)).1) 2 = gT A 2
    exact upd_ne (by decide)
  | some S =>
    show upd (gT A) 1 (gT A 1 + nI (begL (gX A) (gW A)).1) 2 = gT A 2
    exact upd_ne (by decide)
theorem do_t2 {A : MA} : gT (doA A) 2 = gT A 2 := by
  unfold doA
  cases gM A with
  | nil => rfl
  | cons q t =>
    show (if t.length = 0 ∧ gS A = 0 then tal (tal (tal (gT A) (5 + q.1)) 4) 0 else tal (tal (gT A) (5 + q.1)) 4) 2 = gT A 2
    by_cases c : t.length = 0 ∧ gS A = 0
    · rw [if_pos c, tal_ne (by omega), tal_ne (by omega), tal_ne (by omega)]
    · rw [if_neg c, tal_ne (by omega), tal_ne (by omega)]
theorem step_t2 {mode : Nat} {A : MA} : gT (stepA mode A).1 2 = gT A 2 := by
  unfold stepA
  by_cases c1 : gS A = 1
  · rw [if_pos c1]
  · rw [if_neg c1]
    by_cases c2 : (gM A).length = 0
    · rw [if_pos c2]
      by_cases c3 : (begA mode A).2 = true
      · rw [if_pos c3]; exact do_t2.trans beg_t2
      · rw [if_neg c3]; exact beg_t2
    · rw [if_neg c2]; exact do_t2
theorem go_t2 {mode : Nat} : ∀ (n : Nat) (A : MA), gT (goA mode n A).1 2 = gT A 2 := by
  intro n
  induction n with
  | zero => intro A; rfl
  | succ n ih =>
    intro A
    rw [goA]
    by_cases c : (stepA mode A).2 = true
    · rw [if_pos c]; exact (ih _).trans step_t2
    · rw [if_neg c]; exact step_t2
theorem addW_t2 {o : Nat × Nat × Nat} {B : MA} : gT (addW o B) 2 = gT B 2 := by
  unfold addW
  by_cases c : (gW B).length = 12
  · rw [if_pos c]
  · rw [if_neg c]; rfl
theorem yr_t2 {D : Int32 → Nat → Nat × Int32} {mode : Nat} {Y : YS} {t : Int32} (h : gT Y.1 2 = t + Y.2.2.1) : gT (yrA D mode Y).1 2 = t + (yrA D mode Y).2.2.1 := by
  unfold yrA yrB
  generalize (D Y.2.1 8).1 = wh
  generalize (D Y.2.1 8).2 = s1
  by_cases c1 : wh < 4
  · rw [if_pos c1]; exact (go_t2 _ _).trans h
  · rw [if_neg c1]
    by_cases c2 : wh = 4
    · rw [if_pos c2]
      by_cases c3 : ((gX Y.1).2.1 (D s1 16).1).length = 0
      · rw [if_pos c3]; exact h
      · rw [if_neg c3]; exact h
    · rw [if_neg c2]
      by_cases c4 : wh = 5
      · rw [if_pos c4]
        unfold crA
        by_cases c : gS Y.1 = 1
        · rw [if_pos (show gS (Y.1, s1, Y.2.2).1 = 1 from c)]; exact h
        · rw [if_neg (show ¬ gS (Y.1, s1, Y.2.2).1 = 1 from c)]
          show tal (gT Y.1) 2 2 = t + (Y.2.2.1 + 1)
          unfold tal
          rw [upd_eq, h, Int32.add_assoc]
      · rw [if_neg c4]
        by_cases c5 : wh = 6
        · rw [if_pos c5]; exact addW_t2.trans h
        · rw [if_neg c5]; exact addW_t2.trans h
def yrN (D : Int32 → Nat → Nat × Int32) (mode : Nat) : Nat → YS → YS
  | 0, Y => Y
  | n + 1, Y => yrN D mode n (yrA D mode Y)
theorem VM_yrN {D : Int32 → Nat → Nat × Int32} (hD : okD D) {mode : Nat} : ∀ (n : Nat) (Y : YS), VM mode Y.1 → VM mode (yrN D mode n Y).1 := by
  intro n
  induction n with
  | zero => intro Y h; exact h
  | succ n ih => intro Y h; exact ih _ (VM_yr hD h)
theorem yrN_t2 {D : Int32 → Nat → Nat × Int32} {mode : Nat} {t : Int32} : ∀ (n : Nat) (Y : YS), gT Y.1 2 = t + Y.2.2.1 → gT (yrN D mode n Y).1 2 = t + (yrN D mode n Y).2.2.1 := by
  intro n
  induction n with
  | zero => intro Y h; exact h
  | succ n ih => intro Y h; exact ih _ (yr_t2 h)

theorem c_years_loop {D : Int32 → Nat → Nat × Int32} (hD : okD D) {F0 mdm stm hdm akm mim bem afm wam tam sv : Nat → Int32} {mode many : Nat} {p1 p3 : Int32} (hm2 : mode < 2) (hmany : many ≤ 30) {K : (Nat → Int32) → (Nat → Int32) → (Nat → Int32) → (Nat → Int32) → (Nat → Int32) → (Nat → Int32) → (Nat → Int32) → (Nat → Int32) → (Nat → Int32) → (Nat → Int32) → (Nat → Int32) → (Nat → Int32) → (Nat → Int32) → (Nat → Int32) → (Nat → Int32) → (Nat → Int32) → (Nat → Int32) → (Nat → Int32) → (Nat → Int32) → (Nat → Int32) → (Nat → Int32) → Option (Int32 × Int32 × (Nat → Int32) × (Nat → Int32) × (Nat → Int32) × (Nat → Int32) × (Nat → Int32) × (Nat → Int32) × (Nat → Int32) × (Nat → Int32) × (Nat → Int32) × (Nat → Int32) × (Nat → Int32) × (Nat → Int32) × (Nat → Int32) × (Nat → Int32) × (Nat → Int32) × (Nat → Int32) × (Nat → Int32) × (Nat → Int32) × (Nat → Int32) × (Nat → Int32) × (Nat → Int32))} :
    ∀ (n x fuel : Nat) (Y : YS) (F T P sh md st hd ak mi be af wa ta w ad nu ol row pic se : Nat → Int32), x + n = many → n < fuel → CY F T md st hd ak mi be af wa ta mode Y → VM mode Y.1 →
      ∃ F' T' P' sh' md' st' hd' ak' mi' be' af' wa' ta' w' ad' nu' ol' row' pic' se', m_X11_years_w59 F0 mdm stm hdm akm mim bem afm wam tam p1 (nI many) p3 K fuel (nI x) sv F T P sh md st hd ak mi be af wa ta w ad nu ol row pic se = K sv F' T' P' sh' md' st' hd' ak' mi' be' af' wa' ta' w' ad' nu' ol' row' pic' se' ∧ CY F' T' md' st' hd' ak' mi' be' af' wa' ta' mode (yrN D mode n Y) := by
  intro n
  induction n with
  | zero =>
    intro x fuel Y F T P sh md st hd ak mi be af wa ta w ad nu ol row pic se hx hf hC hV
    obtain ⟨fuel, rfl⟩ : ∃ d, fuel = d + 1 := ⟨fuel - 1, by omega⟩
    rw [m_X11_years_w59, if_pos (nI_le (by omega) (by omega))]
    exact ⟨_, _, _, _, _, _, _, _, _, _, _, _, _, _, _, _, _, _, _, _, rfl, hC⟩
  | succ n ih =>
    intro x fuel Y F T P sh md st hd ak mi be af wa ta w ad nu ol row pic se hx hf hC hV
    obtain ⟨fuel, rfl⟩ : ∃ d, fuel = d + 1 := ⟨fuel - 1, by omega⟩
    obtain ⟨F1, T1, P1, sh1, md1, st1, hd1, ak1, mi1, be1, af1, wa1, ta1, w1, ad1, nu1, ol1, row1, pic1, se1, z1, z2⟩ := c_pass hD (P := P) (sh := sh) (w := w) (ad := ad) (nu := nu) (ol := ol) (row := row) (pic := pic) (se := se) hm2 hC hV
    rw [m_X11_years_w59, if_neg (nI_ge (by omega) (by omega)), bd_ok z1, nm, show nI x + 1 = nI (x + 1) from nI_1 _]
    exact ih (x + 1) fuel (yrA D mode Y) _ _ _ _ _ _ _ _ _ _ _ _ _ _ _ _ _ _ _ _ (by omega) (by omega) z2 (VM_yr hD hV)
theorem r_years_loop {D : Int32 → Nat → Nat × Int32} (hD : okD D) {mode many : Nat} {p1 p3 : Int32} (hm2 : mode < 2) (hmany : many ≤ 30) {K : (Nat → Int32) → (Nat → Int32) → (Nat → Int32) → (Nat → Int32) → (Nat → Int32) → (Nat → Int32) → (Nat → Int32) → (Nat → Int32) → (Nat → Int32) → Option (Int32 × (Nat → Int32) × (Nat → Int32) × (Nat → Int32) × (Nat → Int32) × (Nat → Int32) × (Nat → Int32) × (Nat → Int32) × (Nat → Int32) × (Nat → Int32))} :
    ∀ (n x fuel : Nat) (Y : YS) (F rows w ad nu me ord im we : Nat → Int32), x + n = many → n < fuel → RY F rows mode Y → VM mode Y.1 →
      ∃ F' r w' ad' nu' me' ord' im' we', m_X12_years_w53 p1 (nI many) p3 K fuel (nI x) F rows w ad nu me ord im we = K F' r w' ad' nu' me' ord' im' we' ∧ RY F' r mode (yrN D mode n Y) ∧ frY F' F ∧ frR r rows 786 := by
  intro n
  induction n with
  | zero =>
    intro x fuel Y F rows w ad nu me ord im we hx hf hC hV
    obtain ⟨fuel, rfl⟩ : ∃ d, fuel = d + 1 := ⟨fuel - 1, by omega⟩
    rw [m_X12_years_w53, if_pos (nI_le (by omega) (by omega))]
    exact ⟨_, _, _, _, _, _, _, _, _, rfl, hC, fun _ _ => rfl, frR_refl⟩
  | succ n ih =>
    intro x fuel Y F rows w ad nu me ord im we hx hf hC hV
    obtain ⟨fuel, rfl⟩ : ∃ d, fuel = d + 1 := ⟨fuel - 1, by omega⟩
    obtain ⟨F1, r1, w1, ad1, nu1, me1, ord1, im1, we1, z1, z2, z3, z4⟩ := r_year hD (w := w) (ad := ad) (nu := nu) (me := me) (ord := ord) (im := im) (we := we) hm2 hC hV
    rw [m_X12_years_w53, if_neg (nI_ge (by omega) (by omega)), bd_ok z1, nm, show nI x + 1 = nI (x + 1) from nI_1 _]
    obtain ⟨F2, r2, w2, ad2, nu2, me2, ord2, im2, we2, y1, y2, y3, y4⟩ := ih (x + 1) fuel (yrA D mode Y) F1 r1 w1 ad1 nu1 me1 ord1 im1 we1 (by omega) (by omega) z2 (VM_yr hD hV)
    exact ⟨_, _, _, _, _, _, _, _, _, y1, y2, frY_tr y3 z3, frR_tr y4 z4⟩

theorem pc_years {C : CS} {a1 a2 a3 x k : Int32} {U : (Nat → Int32) × (Nat → Int32) × (Nat → Int32) × (Nat → Int32) × (Nat → Int32) × (Nat → Int32) × (Nat → Int32) × (Nat → Int32) × (Nat → Int32) × (Nat → Int32) × (Nat → Int32) × (Nat → Int32) × (Nat → Int32) × (Nat → Int32) × (Nat → Int32) × (Nat → Int32) × (Nat → Int32) × (Nat → Int32) × (Nat → Int32) × (Nat → Int32) × (Nat → Int32)} (h : m_X11_years (C.1 3) (C.1 28) (C.1 54) (C.1 55) (C.1 66) (C.1 71) (C.1 5) (C.1 6) (C.1 7) (C.1 8) (C.1 9) (C.1 10) (C.1 11) (C.1 12) (C.1 13) (C.1 57) (C.1 58) (C.1 59) (C.1 60) (C.1 61) (C.1 62) (C.1 63) (C.1 64) (C.1 65) (C.1 67) (C.1 68) (C.1 69) (C.1 70) (C.1 73) (C.1 74) (C.1 75) a1 a2 a3 = some (k, x, U)) : ∃ c, pX_years C a1 a2 a3 = some (k, x, (c, C.2.1, C.2.2.1, C.2.2.2)) ∧ keyA c C.1 ∧ keyT c C.1 := by
  rw [pX_years, bd_ok h]
  exact ⟨_, rfl, ⟨rfl, rfl, rfl, rfl, rfl, rfl, rfl, rfl, rfl, rfl, rfl, rfl, rfl, rfl⟩, ⟨rfl, rfl, rfl, rfl, rfl, rfl⟩⟩
theorem pm_years {M : Nat → Nat → Int32} {a1 a2 a3 x : Int32} {F r w ad nu me ord im we : Nat → Int32} (h : m_X12_years (M 0) (M 1) (M 6) (M 7) (M 8) (M 9) (M 10) (M 11) (M 12) a1 a2 a3 = some (x, F, r, w, ad, nu, me, ord, im, we)) : ∃ M', pM_years M a1 a2 a3 = some (x, M') ∧ M' 0 = F ∧ M' 1 = r ∧ M' 2 = M 2 ∧ M' 3 = M 3 ∧ M' 4 = M 4 ∧ M' 5 = M 5 := by
  rw [pM_years, bd_ok h]
  exact ⟨_, rfl, rfl, rfl, rfl, rfl, rfl, rfl⟩
def ansY (p : Nat) (t : Nat) (Y : YS) : Int32 := if p = 0 then Y.2.2.1 else if p = 1 then Y.2.2.2 else nI (pc t)
theorem c_years_end {F0 mdm stm hdm akm mim bem afm wam tam sv F T P sh md st hd ak mi be af wa ta w ad nu ol row pic se : Nat → Int32} {mode p t : Nat} {p1 p2 : Int32} {Y : YS} (hp : p ≤ 2) (h : CY F T md st hd ak mi be af wa ta mode Y) (hV : VM mode Y.1) (ht : t < 1024) (htl : leakA (gX Y.1).1 = nI t) :
    ∃ U : (Nat → Int32) × (Nat → Int32) × (Nat → Int32) × (Nat → Int32) × (Nat → Int32) × (Nat → Int32) × (Nat → Int32) × (Nat → Int32) × (Nat → Int32) × (Nat → Int32) × (Nat → Int32) × (Nat → Int32) × (Nat → Int32) × (Nat → Int32) × (Nat → Int32) × (Nat → Int32) × (Nat → Int32) × (Nat → Int32) × (Nat → Int32) × (Nat → Int32) × (Nat → Int32), m_X11_years_j78 F0 mdm stm hdm akm mim bem afm wam tam p1 p2 (nI p) sv F T P sh md st hd ak mi be af wa ta w ad nu ol row pic se = some (0, ansY p t Y, U) := by
  obtain ⟨hC, h3, h4, h5⟩ := h
  obtain ⟨F', f0, f1, f2, f3⟩ := c_survey (a := md) (f := (gX Y.1).1) hC.1.1 hV.1.1 sv
  rw [m_X11_years_j78]
  unfold ansY
  by_cases c2 : p = 2
  · rw [if_pos (show nI p = 2 by rw [c2]; rfl), bd_ok f0, f2, htl, bd_ok (bitC t ht), if_neg (by omega), if_neg (by omega)]
    exact ⟨_, rfl⟩
  · rw [if_neg (show ¬ nI p = 2 from fun e => c2 (nI_inj (b := 2) (by omega) (by decide) e))]
    by_cases c0 : p = 0
    · rw [if_pos (show nI p = 0 by rw [c0]; rfl), if_pos c0, h4]; exact ⟨_, rfl⟩
    · rw [if_neg (show ¬ nI p = 0 from nI_ne0 (by omega) (by omega)), if_neg c0, if_pos (show p = 1 by omega), h5]; exact ⟨_, rfl⟩
theorem r_years_end {F rows w ad nu me ord im we : Nat → Int32} {mode p t : Nat} {p1 p2 t0 : Int32} {Y : YS} (hp : p ≤ 2) (h : RY F rows mode Y) (hV : VM mode Y.1) (ht : t < 1024) (htl : leakA (gX Y.1).1 = nI t) (h0 : rows 780 = t0) (h2 : gT Y.1 2 = t0 + Y.2.2.1) :
    ∃ F' me', m_X12_years_j69 p1 p2 (nI p) F rows w ad nu me ord im we = some (ansY p t Y, F', rows, w, ad, nu, me', ord, im, we) ∧ frY F' F := by
  obtain ⟨hR, h12, h49, h50⟩ := h
  obtain ⟨u9, p1', p2'⟩ := r_laysMemory (mem := me) (b := 786) hR.1 (by decide)
  have p1' : m_X12_laysMemory rows me 786 = some u9 := p1'
  have e7 : rows 1566 = gT Y.1 2 := hR.2.2.2.2.2.2.1 2 (by decide)
  obtain ⟨F', f0, f1, _, _, f3⟩ := r_shapes p2' hV.1.1 F
  rw [m_X12_years_j69, bd_ok p1']
  unfold ansY
  by_cases c0 : p = 0
  · rw [if_pos (show nI p = 0 by rw [c0]; rfl), if_pos c0, show (1566 : Int32) = nI 1566 from rfl, rd_nI (by decide) (by decide), show (780 : Int32) = nI 780 from rfl, rd_nI (by decide) (by decide), e7, h2, h0, Int32.add_comm, Int32.add_sub_cancel]
    exact ⟨_, _, rfl, fun _ _ => rfl⟩
  · rw [if_neg (show ¬ nI p = 0 from nI_ne0 (by omega) (by omega)), if_neg c0]
    by_cases c1 : p = 1
    · rw [if_pos (show nI p = 1 by rw [c1]; rfl), if_pos c1, h50]
      exact ⟨_, _, rfl, fun _ _ => rfl⟩
    · have hl : m_X12_leaked F u9 64 = some (nI t, F') := by
        rw [m_X12_leaked, bd_ok f0, bd_ok (r_usedBlocks p2' hV.1.1), f1, ← htl]; rfl
      rw [if_neg (show ¬ nI p = 1 from fun e => c1 (nI_inj (b := 1) (by omega) (by decide) e)), if_neg c1, bd_ok hl]
      dsimp only
      rw [bd_ok (r_bits ht)]
      exact ⟨_, _, rfl, fun j hj => f3 j (by omega)⟩
theorem lr_years {n : Nat} {S : LwS} (h : LR n S) (a1 a2 a3 a4 a5 : Int32) : ∃ T, sL_years S a1 a2 a3 a4 a5 = some T ∧ LR (n + 1) T := by
  obtain ⟨mode, G, I, b1, b2, b3, b4⟩ := id h
  have hC := LX_cm b1
  have hV := b1.2.1.1
  have hR : RM (S.2.1 1) 0 G.1 := b1.2.2.2.1.1
  have hm2 := b1.1
  have hF : S.2.1 0 12 = nI mode := b1.2.2.2.2
  have h4 : upd (S.2.1 0) 4 0 4 = 0 := upd_eq
  have h41 : upd (upd (S.2.1 0) 4 0) 4 1 4 = 1 := upd_eq
  have h42 : upd (upd (S.2.1 0) 4 0) 4 2 4 = 2 := upd_eq
  have hF1 : upd (S.2.1 0) 4 0 12 = nI mode := (upd_ne (by decide)).trans hF
  rcases r_withinX (x := a3) (lo := 0) (hi := 2) (by decide) (by decide) with ⟨wa, p, rfl, w1, w2⟩ | ⟨wa, wb⟩
  · have wa : m_X12_within (nI p) 0 2 = some 1 := wa
    have n0 : ¬ nI p < 0 := nI_nlt (b := 0) (by omega) (by omega)
    have n1 : nI p ≤ 2 := nI_le (b := 2) w2 (by decide)
    rcases r_withinX (x := a2) (lo := 0) (hi := 30) (by decide) (by decide) with ⟨va, many, rfl, v1, v2⟩ | ⟨va, vb⟩
    · have va : m_X12_within (nI many) 0 30 = some 1 := va
      have q0 : ¬ nI many < 0 := nI_nlt (b := 0) (by omega) (by omega)
      have q1 : nI many ≤ 30 := nI_le (b := 30) v2 (by decide)
      obtain ⟨R, k1, k2⟩ := c_copyFrom (F' := S.1.1 55) (md' := S.1.1 57) (st' := S.1.1 58) (hd' := S.1.1 59) (ak' := S.1.1 60) (mi' := S.1.1 61) (be' := S.1.1 62) (af' := S.1.1 63) (wa' := S.1.1 64) (ta' := S.1.1 65) hV hC
      obtain ⟨t1, t2, t3, t4⟩ := r_tries hR hV
      have hY : CY (upd (upd (upd (S.1.1 54) 3 a1) 4 0) 5 0) R.1 R.2.1 R.2.2.1 R.2.2.2.1 R.2.2.2.2.1 R.2.2.2.2.2.1 R.2.2.2.2.2.2.1 R.2.2.2.2.2.2.2.1 R.2.2.2.2.2.2.2.2.1 R.2.2.2.2.2.2.2.2.2 mode (G.1, a1, 0, 0) := ⟨k2, by rw [upd_ne (by decide), upd_ne (by decide), upd_eq], by rw [upd_ne (by decide), upd_eq], upd_eq⟩
      obtain ⟨F', T', P', sh', md', st', hd', ak', mi', be', af', wa', ta', w', ad', nu', ol', row', pic', se', z1, z2⟩ := c_years_loop ok_dr (F0 := S.1.1 3) (mdm := S.1.1 5) (stm := S.1.1 6) (hdm := S.1.1 7) (akm := S.1.1 8) (mim := S.1.1 9) (bem := S.1.1 10) (afm := S.1.1 11) (wam := S.1.1 12) (tam := S.1.1 13) (sv := S.1.1 28) (p1 := a1) (p3 := nI p) (K := m_X11_years_j78 (S.1.1 3) (S.1.1 5) (S.1.1 6) (S.1.1 7) (S.1.1 8) (S.1.1 9) (S.1.1 10) (S.1.1 11) (S.1.1 12) (S.1.1 13) a1 (nI many) (nI p)) hm2 v2 many 0 fuelN (G.1, a1, 0, 0) (upd (upd (upd (S.1.1 54) 3 a1) 4 0) 5 0) R.1 (S.1.1 66) (S.1.1 71) R.2.1 R.2.2.1 R.2.2.2.1 R.2.2.2.2.1 R.2.2.2.2.2.1 R.2.2.2.2.2.2.1 R.2.2.2.2.2.2.2.1 R.2.2.2.2.2.2.2.2.1 R.2.2.2.2.2.2.2.2.2 (S.1.1 67) (S.1.1 68) (S.1.1 69) (S.1.1 70) (S.1.1 73) (S.1.1 74) (S.1.1 75) (by omega) (by rw [fuel_is]; omega) hY hV
      have hY2 : RY (upd (upd (upd (S.2.1 0) 4 0) 49 a1) 50 0) t1 mode (G.1, a1, 0, 0) := ⟨t3, by rw [upd_ne (by decide), upd_ne (by decide)]; exact hF1, by rw [upd_ne (by decide), upd_eq], upd_eq⟩
      obtain ⟨F2, r2, wr2, ad2, nu2, me2, ord2, im2, we2, y1, y2, y3, y4⟩ := r_years_loop ok_dr (p1 := a1) (p3 := nI p) (K := m_X12_years_j69 a1 (nI many) (nI p)) hm2 v2 many 0 fuelN (G.1, a1, 0, 0) (upd (upd (upd (S.2.1 0) 4 0) 49 a1) 50 0) t1 (S.2.1 6) (S.2.1 7) (S.2.1 8) (S.2.1 9) (S.2.1 10) (S.2.1 11) (S.2.1 12) (by omega) (by rw [fuel_is]; omega) hY2 hV
      have hVN := VM_yrN ok_dr (mode := mode) many (G.1, a1, 0, 0) hV
      have e780 : r2 780 = gT G.1 2 := by
        rw [y4 780 (by decide), t4 780 (by decide)]
        have := hR.2.2.2.2.2.2.1 2 (by decide)
        rw [Nat.zero_add] at this
        exact this
      have hT := yrN_t2 (D := dr) (mode := mode) (t := gT G.1 2) many (G.1, a1, 0, 0) (Int32.add_zero _).symm
      generalize yrN dr mode many (G.1, a1, 0, 0) = Y at *
      obtain ⟨t, ht, htl⟩ := leak_t (gX Y.1).1
      obtain ⟨U, z3⟩ := c_years_end (F0 := S.1.1 3) (mdm := S.1.1 5) (stm := S.1.1 6) (hdm := S.1.1 7) (akm := S.1.1 8) (mim := S.1.1 9) (bem := S.1.1 10) (afm := S.1.1 11) (wam := S.1.1 12) (tam := S.1.1 13) (sv := S.1.1 28) (p1 := a1) (p2 := nI many) (P := P') (sh := sh') (w := w') (ad := ad') (nu := nu') (ol := ol') (row := row') (pic := pic') (se := se') w2 z2 hVN ht htl
      obtain ⟨F3, me3, y5, y6⟩ := r_years_end (p1 := a1) (p2 := nI many) (w := wr2) (ad := ad2) (nu := nu2) (me := me2) (ord := ord2) (im := im2) (we := we2) w2 y2 hVN ht htl e780 hT
      rw [z3] at z1
      rw [y5] at y1
      have hfr : frY F3 (upd (S.2.1 0) 4 0) := frY_tr y6 (frY_tr y3 (frY_tr (frY_u (by decide)) (frY_u (by decide))))
      obtain ⟨c', d1, d2, d3⟩ := pc_years (C := S.1) (a1 := a1) (a2 := nI many) (a3 := nI p) (by
        rw [m_X11_years, if_neg n0, if_pos n1, if_neg q0, if_pos q1, m_X10_start, bd_ok k1, nm, nm, nm]
        exact z1)
      obtain ⟨M', f1, f2⟩ := pm_years (M := S.2.1) (a1 := a1) (a2 := nI many) (a3 := nI p) (by
        rw [m_X12_years, nm, bd_ok wa, bd_ok (r_right1 h4)]
        dsimp only
        rw [if_neg (show ¬ (1 : Int32) = 0 by decide), bd_ok va, bd_ok (r_right1 h4)]
        dsimp only
        rw [if_neg (show ¬ (1 : Int32) = 0 by decide), bd_ok t2, nm, nm]
        exact y1)
      obtain ⟨o, ho⟩ := sh2_0 (S := S) (a := 1) (b := 6) d1 f1 (by rw [f2.1, hfr 4 (by decide)]; exact h4)
      exact ⟨_, ho, lq_end h d2 d3 f2 (fun j p q => by rw [hfr j q, upd_ne (by omega)]) (fun j hj => (y4 j (by omega)).trans (t4 j (by omega))) (by omega) (by omega)⟩
    · have va : m_X12_within a2 0 30 = some 0 := va
      obtain ⟨c', d1, d2, d3⟩ := pc_years (C := S.1) (a1 := a1) (a2 := a2) (a3 := nI p) (k := 2) (x := 0) (U := (S.1.1 28, S.1.1 54, S.1.1 55, S.1.1 66, S.1.1 71, S.1.1 57, S.1.1 58, S.1.1 59, S.1.1 60, S.1.1 61, S.1.1 62, S.1.1 63, S.1.1 64, S.1.1 65, S.1.1 67, S.1.1 68, S.1.1 69, S.1.1 70, S.1.1 73, S.1.1 74, S.1.1 75)) (by
        rw [m_X11_years, if_neg n0, if_pos n1]
        by_cases c : a2 < 0
        · rw [if_pos c]
        · obtain ⟨j, hj, rfl⟩ := nI_of c
          have := vb j hj rfl
          rw [if_neg c, if_neg (show ¬ nI j ≤ 30 from nI_ge (a := 30) (by omega) hj)])
      obtain ⟨M', f1, f2⟩ := pm_years (M := S.2.1) (a1 := a1) (a2 := a2) (a3 := nI p) (x := 0) (F := upd (upd (S.2.1 0) 4 0) 4 2) (r := S.2.1 1) (w := S.2.1 6) (ad := S.2.1 7) (nu := S.2.1 8) (me := S.2.1 9) (ord := S.2.1 10) (im := S.2.1 11) (we := S.2.1 12) (by
        rw [m_X12_years, nm, bd_ok wa, bd_ok (r_right1 h4)]
        dsimp only
        rw [if_neg (show ¬ (1 : Int32) = 0 by decide), bd_ok va, bd_ok (r_right0 h4 (by decide))]
        dsimp only
        rw [if_pos rfl])
      obtain ⟨o, ho⟩ := sh2_2 (S := S) (a := 1) (b := 6) d1 f1 (by rw [f2.1]; exact h42)
      exact ⟨_, ho, lq_end h d2 d3 f2 fq1 (fun _ _ => rfl) (by omega) (by omega)⟩
  · have wa : m_X12_within a3 0 2 = some 0 := wa
    obtain ⟨c', d1, d2, d3⟩ := pc_years (C := S.1) (a1 := a1) (a2 := a2) (a3 := a3) (k := 1) (x := 0) (U := (S.1.1 28, S.1.1 54, S.1.1 55, S.1.1 66, S.1.1 71, S.1.1 57, S.1.1 58, S.1.1 59, S.1.1 60, S.1.1 61, S.1.1 62, S.1.1 63, S.1.1 64, S.1.1 65, S.1.1 67, S.1.1 68, S.1.1 69, S.1.1 70, S.1.1 73, S.1.1 74, S.1.1 75)) (by
      rw [m_X11_years]
      by_cases c : a3 < 0
      · rw [if_pos c]
      · obtain ⟨j, hj, rfl⟩ := nI_of c
        have := wb j hj rfl
        rw [if_neg c, if_neg (show ¬ nI j ≤ 2 from nI_ge (a := 2) (by omega) hj)])
    obtain ⟨M', f1, f2⟩ := pm_years (M := S.2.1) (a1 := a1) (a2 := a2) (a3 := a3) (x := 0) (F := upd (upd (S.2.1 0) 4 0) 4 1) (r := S.2.1 1) (w := S.2.1 6) (ad := S.2.1 7) (nu := S.2.1 8) (me := S.2.1 9) (ord := S.2.1 10) (im := S.2.1 11) (we := S.2.1 12) (by
      rw [m_X12_years, nm, bd_ok wa, bd_ok (r_right0 h4 (by decide))]
      dsimp only
      rw [if_pos rfl])
    obtain ⟨o, ho⟩ := sh2_1 (S := S) (a := 1) (b := 6) d1 f1 (by rw [f2.1]; exact h41)
    exact ⟨_, ho, lq_end h d2 d3 f2 fq1 (fun _ _ => rfl) (by omega) (by omega)⟩
