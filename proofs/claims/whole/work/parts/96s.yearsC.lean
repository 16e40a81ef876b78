/-! ===== years: the class ===== -/
theorem nI_bits {b : BitVec 32} {x : Int32} (h : x.toBitVec = b) : x = nI b.toNat := by
  apply Int32.toBitVec_inj.mp
  rw [nI_bv, BitVec.ofNat_toNat, BitVec.setWidth_eq, h]
def tN (x : Int32) : Nat := (x.toBitVec >>> 16 &&& 32767#32).toNat
theorem tN_lt (x : Int32) : tN x < 32768 := by
  unfold tN
  rw [BitVec.toNat_and]
  exact Nat.lt_of_le_of_lt Nat.and_le_right (by decide)
theorem c_bits (x : Int32) : ((x.toUInt32 >>> ((16 : Int32).toUInt32 &&& Int32.toUInt32 31)).toInt32 &&& 32767) = nI (tN x) := by
  refine nI_bits ?_
  rw [Int32.toBitVec_and]
  show (x.toUInt32 >>> ((16 : Int32).toUInt32 &&& Int32.toUInt32 31)).toBitVec &&& 32767#32 = _
  rw [UInt32.toBitVec_shiftRight]
  rfl
theorem r_bits16 (x : Int32) : ((x >>> ((16 : Int32) &&& 31)) &&& 32767) = nI (tN x) := by
  refine nI_bits ?_
  rw [Int32.toBitVec_and, Int32.toBitVec_shiftRight]
  show x.toBitVec.sshiftRight 16 &&& 32767#32 = x.toBitVec >>> 16 &&& 32767#32
  apply BitVec.eq_of_getLsbD_eq
  intro i hi
  rw [BitVec.getLsbD_and, BitVec.getLsbD_and, BitVec.getLsbD_ushiftRight, BitVec.getLsbD_sshiftRight]
  by_cases c : 16 + i < 32
  · have h1 : decide (32 ≤ i) = false := decide_eq_false (by omega)
    rw [h1, if_pos c]; rfl
  · have h2 : (32767#32).getLsbD i = false := by
      have : ∀ i, i < 32 → 16 ≤ i → (32767#32).getLsbD i = false := by decide
      exact this i hi (by omega)
    rw [h2, Bool.and_false, Bool.and_false]
def dr (s : Int32) (m : Nat) : Nat × Int32 := (tN (s * 1103515245 + 12345) % m, s * 1103515245 + 12345)
theorem dr_lt {s : Int32} {m : Nat} (h : 0 < m) : (dr s m).1 < m := Nat.mod_lt _ h
theorem c_draw {F : Nat → Int32} {s : Int32} {m : Nat} (h : F 3 = s) (hm : 1 ≤ m) (hm2 : m < 100000) : m_X10_draw F (nI m) = some (nI (dr s m).1, upd F 3 (dr s m).2) := by
  have ht := tN_lt (s * 1103515245 + 12345)
  rw [m_X10_draw, nm, h, upd_eq, if_neg (show ¬ nI m < 1 from nI_nlt (b := 1) hm (by omega)), dz_ok (nI_ne0 (by omega) (by omega)), c_bits, nI_modE (by omega) (by omega)]
  rfl
theorem r_draw {F : Nat → Int32} {s : Int32} {m : Nat} (h : F 49 = s) (hm : 1 ≤ m) (hm2 : m < 100000) : m_X12_draw F (nI m) = some (nI (dr s m).1, upd F 49 (dr s m).2) := by
  have ht := tN_lt (s * 1103515245 + 12345)
  rw [m_X12_draw, nm, h, upd_eq, dz_ok (nI_ne0 (by omega) (by omega)), r_bits16, nI_modE (by omega) (by omega)]
  rfl
def okD (D : Int32 → Nat → Nat × Int32) : Prop := (∀ s m, 0 < m → (D s m).1 < m) ∧ (∀ (F : Nat → Int32) (s : Int32) (m : Nat), F 3 = s → 1 ≤ m → m < 100000 → m_X10_draw F (nI m) = some (nI (D s m).1, upd F 3 (D s m).2)) ∧ ∀ (F : Nat → Int32) (s : Int32) (m : Nat), F 49 = s → 1 ≤ m → m < 100000 → m_X12_draw F (nI m) = some (nI (D s m).1, upd F 49 (D s m).2)
theorem ok_dr : okD dr := ⟨fun _ _ h => dr_lt h, fun _ _ _ h a b => c_draw h a b, fun _ _ _ h a b => r_draw h a b⟩
abbrev YS : Type := MA × Int32 × Int32 × Int32
def rcvA (mode : Nat) (B : MA) : MA := ((recA mode (gX B).1, (gX B).2), gM B, gW B, 0, gO B, gT B, gB B, gA B)
def roD (D : Int32 → Nat → Nat × Int32) (X : AC) (s : Int32) : Nat → (Nat → Nat) × Int32
  | 0 => (fun _ => 0, s)
  | l + 1 => if (X.2.1 l).length = 0 then roD D X s l else (upN (roD D X s l).1 l (D (roD D X s l).2 ((X.2.1 l).length + 1)).1, (D (roD D X s l).2 ((X.2.1 l).length + 1)).2)
def crA (D : Int32 → Nat → Nat × Int32) (mode : Nat) (Y : YS) : YS := if gS Y.1 = 1 then (rcvA mode Y.1, Y.2) else (rcvA mode (fallA mode (imgA (gX Y.1) (roD D (gX Y.1) Y.2.1 16).1) Y.1), (roD D (gX Y.1) Y.2.1 16).2, Y.2.2.1 + 1, if fateA mode Y.1 (roD D (gX Y.1) Y.2.1 16).1 = 3 then Y.2.2.2 + 1 else Y.2.2.2)
def addW (o : Nat × Nat × Nat) (B : MA) : MA := if (gW B).length = 12 then B else addA o B
def yrB (D : Int32 → Nat → Nat × Int32) (mode : Nat) (Y : YS) (s1 : Int32) (w : Nat) : YS :=
  if w < 4 then ((goA mode ((D s1 6).1 + 1) Y.1).1, (D s1 6).2, Y.2.2)
  else if w = 4 then (if ((gX Y.1).2.1 (D s1 16).1).length = 0 then Y.1 else evA (D s1 16).1 1 Y.1, (D s1 16).2, Y.2.2)
  else if w = 5 then crA D mode (Y.1, s1, Y.2.2)
  else if w = 6 then (addW (0, (D s1 4).1, (D (D s1 4).2 10).1) Y.1, (D (D s1 4).2 10).2, Y.2.2)
  else (addW (1, (D s1 4).1, 0) Y.1, (D s1 4).2, Y.2.2)
def yrA (D : Int32 → Nat → Nat × Int32) (mode : Nat) (Y : YS) : YS := yrB D mode Y (D Y.2.1 8).2 (D Y.2.1 8).1
theorem VM_rcv {mode : Nat} {B : MA} (hV : VM mode B) (h1 : gS B = 1) : VM mode (rcvA mode B) := by
  obtain ⟨v1, v2, v3, v4, v5, v6, v7, v8, v9, v10, v11⟩ := hV
  obtain ⟨e1, e2⟩ := v6 h1
  have hr := recA_le (mode := mode) v1.1
  refine ⟨⟨hr, v1.2⟩, v2, v3, Nat.zero_le _, v5, fun e => (by cases e), fun e => (by cases e), fun _ k hk => ?_, fun e => (by cases e), fun _ => v10 (Or.inl (by rw [h1]; decide)), v11⟩
  show finW (gM B) (wordA (recA mode (gX B).1, (gX B).2)) (20 + k) = gA B k
  rw [e1]
  show wordA (recA mode (gX B).1, (gX B).2) (20 + k) = gA B k
  rw [word_empty (X := (recA mode (gX B).1, (gX B).2)) e2 (by omega)]
  exact v9 h1 k hk
theorem roD_ok {D : Int32 → Nat → Nat × Int32} (hD : okD D) {X : AC} {s : Int32} : ∀ k, okRo X (roD D X s k).1 ∧ ∀ l, k ≤ l → (roD D X s k).1 l = 0 := by
  intro k
  induction k with
  | zero => exact ⟨fun l _ => Nat.zero_le _, fun l _ => rfl⟩
  | succ k ih =>
    rw [roD]
    by_cases c : (X.2.1 k).length = 0
    · rw [if_pos c]; exact ⟨ih.1, fun l hl => ih.2 l (by omega)⟩
    · rw [if_neg c]
      refine ⟨fun l hl => ?_, fun l hl => ?_⟩
      · dsimp only
        by_cases d : l = k
        · have := hD.1 ((roD D X s k).2) ((X.2.1 k).length + 1) (by omega)
          rw [d, upN_eq]; omega
        · rw [upN_ne d]; exact ih.1 l hl
      · dsimp only
        rw [upN_ne (by omega)]; exact ih.2 l (by omega)
theorem VM_cr {D : Int32 → Nat → Nat × Int32} (hD : okD D) {mode : Nat} {Y : YS} (hV : VM mode Y.1) : VM mode (crA D mode Y).1 := by
  unfold crA
  by_cases c : gS Y.1 = 1
  · rw [if_pos c]; exact VM_rcv hV c
  · rw [if_neg c]; exact VM_rcv (VM_fall hV (imgA_le hV.1)) rfl
theorem VM_addW {mode : Nat} {B : MA} {o : Nat × Nat × Nat} (hV : VM mode B) (ho : opOK o) : VM mode (addW o B) := by
  unfold addW
  by_cases c : (gW B).length = 12
  · rw [if_pos c]; exact hV
  · rw [if_neg c]; exact VM_add hV ho (by have := hV.2.2.1.1; omega)
theorem ok0 {r d : Nat} (hr : r < 4) (hd : d < 10) : opOK (0, r, d) := ⟨by show 0 ≤ 4; omega, fun _ => by show r ≤ 3; omega, fun e => (by cases e), fun e => (by cases e), by show r ≤ 99; omega, by show d ≤ 99; omega⟩
theorem ok1 {r : Nat} (hr : r < 4) : opOK (1, r, 0) := ⟨by show 1 ≤ 4; omega, fun _ => by show r ≤ 3; omega, fun e => (by cases e), fun e => (by cases e), by show r ≤ 99; omega, by show 0 ≤ 99; omega⟩
theorem VM_yr {D : Int32 → Nat → Nat × Int32} (hD : okD D) {mode : Nat} {Y : YS} (hV : VM mode Y.1) : VM mode (yrA D mode Y).1 := by
  unfold yrA yrB
  generalize (D Y.2.1 8).1 = w
  generalize (D Y.2.1 8).2 = s1
  by_cases c1 : w < 4
  · rw [if_pos c1]; exact VM_go _ _ hV
  · rw [if_neg c1]
    by_cases c2 : w = 4
    · rw [if_pos c2]
      have := hD.1 (s1) (16) (by omega)
      by_cases c3 : ((gX Y.1).2.1 (D s1 16).1).length = 0
      · rw [if_pos c3]; exact hV
      · rw [if_neg c3]; exact VM_ev hV this (by omega) (by omega)
    · rw [if_neg c2]
      by_cases c4 : w = 5
      · rw [if_pos c4]; exact VM_cr hD hV
      · rw [if_neg c4]
        by_cases c5 : w = 6
        · rw [if_pos c5]; exact VM_addW hV (ok0 (hD.1 _ _ (by omega)) (hD.1 _ _ (by omega)))
        · rw [if_neg c5]; exact VM_addW hV (ok1 (hD.1 _ _ (by omega)))
def CY (F T md st hd ak mi be af wa ta : Nat → Int32) (mode : Nat) (Y : YS) : Prop := CM T md st hd ak mi be af wa ta mode Y.1 ∧ F 3 = Y.2.1 ∧ F 4 = Y.2.2.1 ∧ F 5 = Y.2.2.2
theorem c_rcv {T md st hd ak mi be af wa ta : Nat → Int32} {mode : Nat} {B : MA} (hm2 : mode < 2) (h : CM T md st hd ak mi be af wa ta mode B) (hV : VM mode B) (h1 : gS B = 1) :
    ∃ T' md', m_X4_recoverAtOnce T md = some (T', md') ∧ CM T' md' st hd ak mi be af wa ta mode (rcvA mode B) := by
  obtain ⟨g1, g2, g3, g4, g5, g6, g7, g8, g9⟩ := h
  obtain ⟨r, r1, r2⟩ := c_recoverWords (a := md) (f := (gX B).1) g1.1 hV.1.1 hm2
  rw [m_X4_recoverAtOnce, g5, bd_ok r1, nm]
  obtain ⟨a, a1, a2, a3, a4, a5⟩ := g2
  exact ⟨_, _, rfl, ⟨r2, g1.2⟩, ⟨a, (upd_ne (by decide)).trans a1, (upd_ne (by decide)).trans a2, a3, fun e => (by cases e), a5⟩, ⟨(upd_ne (by decide)).trans g3.1, g3.2⟩, upd_eq, (upd_ne (by decide)).trans g5, (upd_ne (by decide)).trans g6, g7, g8, g9⟩
theorem c_fallR {D : Int32 → Nat → Nat × Int32} (hD : okD D) {F T md st hd ak mi be af wa ta row pic se : Nat → Int32} {mode : Nat} {Y : YS} (hm2 : mode < 2) (h : CY F T md st hd ak mi be af wa ta mode Y) (hV : VM mode Y.1) :
    ∃ F' T' md' hd' ak' be' af' ta' row' pic' se', m_X10_fallAndRecover F T md st hd ak be af ta row pic se = some (F', T', md', hd', ak', be', af', ta', row', pic', se') ∧ CY F' T' md' st hd' ak' mi be' af' wa ta' mode (crA D mode Y) := by
  obtain ⟨hC, h3, h4, h5⟩ := h
  have e8 : T 8 = nI (gS Y.1) := hC.2.2.2.1
  have hs2 := hV.2.2.2.1
  unfold crA
  rw [m_X10_fallAndRecover, e8]
  by_cases c : gS Y.1 = 1
  · obtain ⟨T', md', z1, z2⟩ := c_rcv hm2 hC hV c
    rw [if_pos c, if_pos (show nI (gS Y.1) = 1 by rw [c]; rfl), m_X10_fallAndRecover_j137, bd_ok z1]
    exact ⟨_, _, _, _, _, _, _, _, _, _, _, rfl, z2, h3, h4, h5⟩
  · obtain ⟨R, g1, g2⟩ := c_start (row := row) (pic := pic) hC.1
    rw [if_neg c, if_neg (show ¬ nI (gS Y.1) = 1 from fun e => c (nI_inj (b := 1) (by omega) (by decide) e)), bd_ok g1]
    have lp : ∀ (d l fuel : Nat) (F row pic : Nat → Int32), l + d = 16 → d < fuel → F 3 = (roD D (gX Y.1) Y.2.1 l).2 → F 4 = Y.2.2.1 → F 5 = Y.2.2.2 → WKr row pic (gX Y.1) (roD D (gX Y.1) Y.2.1 l).1 →
        ∃ F' row' pic', m_X10_fallAndRecover_w27 st (m_X10_fallAndRecover_j87 st) fuel (nI l) F T md hd ak be af ta row pic se = m_X10_fallAndRecover_j87 st F' T md hd ak be af ta row' pic' se ∧ F' 3 = (roD D (gX Y.1) Y.2.1 16).2 ∧ F' 4 = Y.2.2.1 ∧ F' 5 = Y.2.2.2 ∧ WKr row' pic' (gX Y.1) (roD D (gX Y.1) Y.2.1 16).1 := by
      intro d
      induction d with
      | zero =>
        intro l fuel F row pic hl hf q3 q4 q5 hW
        obtain ⟨fuel, rfl⟩ : ∃ d, fuel = d + 1 := ⟨fuel - 1, by omega⟩
        have : l = 16 := by omega
        subst this
        rw [m_X10_fallAndRecover_w27, if_pos (show (16 : Int32) ≤ nI 16 by decide)]
        exact ⟨F, row, pic, rfl, q3, q4, q5, hW⟩
      | succ d ih =>
        intro l fuel F row pic hl hf q3 q4 q5 hW
        obtain ⟨fuel, rfl⟩ : ∃ d, fuel = d + 1 := ⟨fuel - 1, by omega⟩
        have hlen := (hV.1.2 l (by omega)).1
        have e2 : hd l = nI ((gX Y.1).2.1 l).length := hC.1.2.1 l (by omega)
        rw [m_X10_fallAndRecover_w27, if_neg (show ¬ (16 : Int32) ≤ nI l from nI_ge (b := 16) (by omega) (by decide)), rd_nI (by omega) (by decide), e2]
        by_cases z : ((gX Y.1).2.1 l).length = 0
        · rw [if_pos (show nI ((gX Y.1).2.1 l).length ≤ 0 by rw [z]; decide), m_X10_fallAndRecover_j81, nm, show nI l + 1 = nI (l + 1) from nI_1 _]
          exact ih (l + 1) fuel F row pic (by omega) (by omega) (by rw [roD, if_pos z]; exact q3) q4 q5 (by rw [roD, if_pos z]; exact hW)
        · have hlt := hD.1 ((roD D (gX Y.1) Y.2.1 l).2) (((gX Y.1).2.1 l).length + 1) (by omega)
          have h0 := (roD_ok hD (X := gX Y.1) (s := Y.2.1) l).2 l (Nat.le_refl _)
          obtain ⟨R, r1, r2⟩ := c_raise hC.1 hV.1 hW (l := l) (n := (D (roD D (gX Y.1) Y.2.1 l).2 (((gX Y.1).2.1 l).length + 1)).1) (by omega) (by omega)
          rw [h0, Nat.zero_add] at r2
          rw [if_neg (show ¬ nI ((gX Y.1).2.1 l).length ≤ 0 from nI_ge (a := 0) (by omega) (by omega)), rd_nI (by omega) (by decide), e2, show nI ((gX Y.1).2.1 l).length + 1 = nI (((gX Y.1).2.1 l).length + 1) from nI_1 _, bd_ok (hD.2.1 F _ _ q3 (by omega) (by omega))]
          dsimp only
          rw [bd_ok r1, m_X10_fallAndRecover_j81, nm, show nI l + 1 = nI (l + 1) from nI_1 _]
          exact ih (l + 1) fuel _ R.1 R.2 (by omega) (by omega) (by rw [roD, if_neg z, upd_eq]) (by rw [upd_ne (by decide)]; exact q4) (by rw [upd_ne (by decide)]; exact q5) (by rw [roD, if_neg z]; exact r2)
    obtain ⟨F', row', pic', p1, p2, p3, p4, p5⟩ := lp 16 0 fuelN F R.1 R.2 (by omega) (by rw [fuel_is]; omega) h3 h4 h5 g2
    have p1 : m_X10_fallAndRecover_w27 st (m_X10_fallAndRecover_j87 st) fuelN 0 F T md hd ak be af ta R.1 R.2 se = _ := p1
    rw [p1, m_X10_fallAndRecover_j87, nm]
    obtain ⟨se', f1, f2⟩ := c_fateBy (se := se) hm2 hV hC.2.2.2.2.1 p5.2.2 hC.2.2.2.2.2.2.2.1 hC.2.2.2.2.2.2.2.2
    have hfl := fateA_le (mode := mode) (A := Y.1) (ro := (roD D (gX Y.1) Y.2.1 16).1)
    rw [bd_ok f1]
    obtain ⟨T2, md2, hd2, ak2, be2, af2, ta2, k1, k2⟩ := c_fall hC p5.2.2 f2
    have hV2 := VM_fall (im := imgA (gX Y.1) (roD D (gX Y.1) Y.2.1 16).1) hV (imgA_le hV.1)
    obtain ⟨T', md', z1, z2⟩ := c_rcv hm2 k2 hV2 rfl
    have fin : ∀ (s1 s2 b : Int32), s1 + s2 = b → ∃ F2 T' md' hd' ak' be' af' ta' row'' pic'' se'', m_X10_fallAndRecover_j122 st s1 s2 (upd F' 4 (F' 4 + 1)) T md hd ak be af ta row' pic' se' = some (F2, T', md', hd', ak', be', af', ta', row'', pic'', se'') ∧ CY F2 T' md' st hd' ak' mi be' af' wa ta' mode (rcvA mode (fallA mode (imgA (gX Y.1) (roD D (gX Y.1) Y.2.1 16).1) Y.1), (roD D (gX Y.1) Y.2.1 16).2, Y.2.2.1 + 1, b) := by
      intro s1 s2 b hb
      rw [m_X10_fallAndRecover_j122, nm, hb, bd_ok k1]
      dsimp only
      rw [m_X10_fallAndRecover_j137, bd_ok z1]
      exact ⟨_, _, _, _, _, _, _, _, _, _, _, rfl, z2, by rw [upd_ne (by decide), upd_ne (by decide)]; exact p2, by rw [upd_ne (by decide), upd_eq, p3], upd_eq⟩
    have e5 : upd F' 4 (F' 4 + 1) 5 = Y.2.2.2 := (upd_ne (by decide)).trans p4
    by_cases d : fateA mode Y.1 (roD D (gX Y.1) Y.2.1 16).1 = 3
    · rw [if_pos d, if_pos (show nI (fateA mode Y.1 (roD D (gX Y.1) Y.2.1 16).1) = 3 by rw [d]; rfl), e5]
      exact fin _ _ _ rfl
    · rw [if_neg d, if_neg (show ¬ nI (fateA mode Y.1 (roD D (gX Y.1) Y.2.1 16).1) = 3 from fun e => d (nI_inj (b := 3) (by omega) (by decide) e)), e5]
      exact fin _ _ _ (Int32.add_zero _)
theorem c_pass_loop {mode : Nat} (hm2 : mode < 2) {F row pic se : Nat → Int32} : ∀ (n fuel : Nat) (B : MA) (T P sh md st hd ak mi be af wa ta w ad nu ol : Nat → Int32), n < 1000 → n < fuel → CM T md st hd ak mi be af wa ta mode B → VM mode B →
    ∃ T' P' sh' md' st' hd' ak' mi' be' af' wa' ta' w' ad' nu' ol', m_X10_passOne_w21 fuel (nI n) F T P sh md st hd ak mi be af wa ta w ad nu ol row pic se = some (F, T', P', sh', md', st', hd', ak', mi', be', af', wa', ta', w', ad', nu', ol', row, pic, se) ∧ CM T' md' st' hd' ak' mi' be' af' wa' ta' mode (goA mode n B).1 := by
  intro n
  induction n with
  | zero =>
    intro fuel B T P sh md st hd ak mi be af wa ta w ad nu ol hn hf hC hV
    obtain ⟨fuel, rfl⟩ : ∃ d, fuel = d + 1 := ⟨fuel - 1, by omega⟩
    rw [m_X10_passOne_w21, if_pos (show nI 0 ≤ 0 by decide)]
    exact ⟨_, _, _, _, _, _, _, _, _, _, _, _, _, _, _, _, rfl, hC⟩
  | succ n ih =>
    intro fuel B T P sh md st hd ak mi be af wa ta w ad nu ol hn hf hC hV
    obtain ⟨fuel, rfl⟩ : ∃ d, fuel = d + 1 := ⟨fuel - 1, by omega⟩
    obtain ⟨T1, P1, sh1, md1, st1, hd1, ak1, mi1, be1, af1, wa1, ta1, w1, ad1, nu1, ol1, s1, s2⟩ := c_step (P := P) (sh := sh) (w := w) (ad := ad) (nu := nu) (ol := ol) hm2 hC hV
    rw [m_X10_passOne_w21, if_neg (show ¬ nI (n + 1) ≤ 0 from nI_ge (a := 0) (by omega) (by omega)), bd_ok s1, goA]
    dsimp only
    by_cases c : (stepA mode B).2 = true
    · rw [if_pos c, if_pos c, if_neg (show ¬ nI 1 = 0 by decide), nm, nI_dn]
      exact ih fuel _ _ _ _ _ _ _ _ _ _ _ _ _ _ _ _ _ (by omega) (by omega) s2 (VM_step hV)
    · rw [if_neg c, if_neg c, if_pos (show nI 0 = 0 from rfl)]
      exact ⟨_, _, _, _, _, _, _, _, _, _, _, _, _, _, _, _, rfl, s2⟩
theorem c_addW {T md st hd ak mi be af wa ta : Nat → Int32} {mode : Nat} {B : MA} {o : Nat × Nat × Nat} (h : CM T md st hd ak mi be af wa ta mode B) (ho : opOK o) : ∃ T' wa', m_X4_addWaiting T wa (nI (packN o)) = some (T', wa') ∧ CM T' md st hd ak mi be af wa' ta mode (addW o B) := by
  have e7 : T 7 = nI (gW B).length := h.2.2.1.1
  have hl := h.2.2.1.2.1
  unfold addW
  by_cases c : (gW B).length = 12
  · rw [if_pos c, m_X4_addWaiting, e7, if_pos (show (12 : Int32) ≤ nI (gW B).length by rw [c]; decide)]
    exact ⟨_, _, rfl, h⟩
  · rw [if_neg c]
    obtain ⟨T', wa', z1, _, z3⟩ := c_addWaiting h ho (by omega)
    exact ⟨T', wa', z1, z3⟩
theorem pk0 : ∀ r, r < 4 → ∀ d, d < 10 → m_X11_packOp 0 (nI r) (nI d) = some (nI (packN (0, r, d))) := by decide +kernel
theorem pk1 : ∀ r, r < 4 → m_X11_packOp 1 (nI r) 0 = some (nI (packN (1, r, 0))) := by decide +kernel
theorem c_pass {D : Int32 → Nat → Nat × Int32} (hD : okD D) {F T P sh md st hd ak mi be af wa ta w ad nu ol row pic se : Nat → Int32} {mode : Nat} {Y : YS} (hm2 : mode < 2) (h : CY F T md st hd ak mi be af wa ta mode Y) (hV : VM mode Y.1) :
    ∃ F' T' P' sh' md' st' hd' ak' mi' be' af' wa' ta' w' ad' nu' ol' row' pic' se', m_X10_passOne F T P sh md st hd ak mi be af wa ta w ad nu ol row pic se = some (F', T', P', sh', md', st', hd', ak', mi', be', af', wa', ta', w', ad', nu', ol', row', pic', se') ∧ CY F' T' md' st' hd' ak' mi' be' af' wa' ta' mode (yrA D mode Y) := by
  obtain ⟨hC, h3, h4, h5⟩ := id h
  have d8 : m_X10_draw F 8 = some (nI (D Y.2.1 8).1, upd F 3 (D Y.2.1 8).2) := hD.2.1 F _ 8 h3 (by decide) (by decide)
  have l8 := hD.1 (Y.2.1) (8) (by omega)
  unfold yrA yrB
  rw [m_X10_passOne, bd_ok d8]
  dsimp only
  have g3 : upd F 3 (D Y.2.1 8).2 3 = (D Y.2.1 8).2 := upd_eq
  have g4 : upd F 3 (D Y.2.1 8).2 4 = Y.2.2.1 := (upd_ne (by decide)).trans h4
  have g5 : upd F 3 (D Y.2.1 8).2 5 = Y.2.2.2 := (upd_ne (by decide)).trans h5
  generalize upd F 3 (D Y.2.1 8).2 = F1 at *
  generalize (D Y.2.1 8).1 = wh at *
  generalize (D Y.2.1 8).2 = s1 at *
  have up3 : ∀ (G : Nat → Int32) (x : Int32), G 4 = Y.2.2.1 → G 5 = Y.2.2.2 → upd G 3 x 4 = Y.2.2.1 ∧ upd G 3 x 5 = Y.2.2.2 := fun G x a b => ⟨(upd_ne (by decide)).trans a, (upd_ne (by decide)).trans b⟩
  by_cases c1 : wh < 4
  · have d6 : m_X10_draw F1 6 = some (nI (D s1 6).1, upd F1 3 (D s1 6).2) := hD.2.1 F1 _ 6 g3 (by decide) (by decide)
    have l6 := hD.1 (s1) (6) (by omega)
    rw [if_pos c1, if_neg (show ¬ (4 : Int32) ≤ nI wh from nI_ge (b := 4) c1 (by decide)), bd_ok d6]
    dsimp only
    rw [nm, show nI (D s1 6).1 + 1 = nI ((D s1 6).1 + 1) from nI_1 _]
    obtain ⟨T', P', sh', md', st', hd', ak', mi', be', af', wa', ta', w', ad', nu', ol', z1, z2⟩ := c_pass_loop hm2 (F := upd F1 3 (D s1 6).2) (row := row) (pic := pic) (se := se) ((D s1 6).1 + 1) fuelN Y.1 T P sh md st hd ak mi be af wa ta w ad nu ol (by omega) (by rw [fuel_is]; omega) hC hV
    obtain ⟨u1, u2⟩ := up3 F1 (D s1 6).2 g4 g5
    exact ⟨_, _, _, _, _, _, _, _, _, _, _, _, _, _, _, _, _, _, _, _, z1, z2, upd_eq, u1, u2⟩
  · rw [if_neg c1, if_pos (show (4 : Int32) ≤ nI wh from nI_le (a := 4) (by omega) (by omega))]
    by_cases c2 : wh = 4
    · have d16 : m_X10_draw F1 16 = some (nI (D s1 16).1, upd F1 3 (D s1 16).2) := hD.2.1 F1 _ 16 g3 (by decide) (by decide)
      have l16 := hD.1 (s1) (16) (by omega)
      have e2 : hd (D s1 16).1 = nI ((gX Y.1).2.1 (D s1 16).1).length := hC.1.2.1 _ l16
      have hlen := (hV.1.2 _ l16).1
      obtain ⟨u1, u2⟩ := up3 F1 (D s1 16).2 g4 g5
      rw [if_pos c2, if_pos (show nI wh = 4 by rw [c2]; rfl), bd_ok d16]
      dsimp only
      rw [rd_nI l16 (by decide), e2]
      by_cases c3 : ((gX Y.1).2.1 (D s1 16).1).length = 0
      · obtain ⟨R, r1, _, r2⟩ := c_ev hC hV l16 (m := 0) (by omega)
        have r1 : m_X1_reach md st hd ak (nI (D s1 16).1) 0 = some R := r1
        have e0 : evA (D s1 16).1 0 Y.1 = Y.1 := by
          unfold evA reachA
          have q1 : (fun j => if j = (D s1 16).1 then ((gX Y.1).2.1 (D s1 16).1).drop 0 else (gX Y.1).2.1 j) = (gX Y.1).2.1 := by
            funext j; by_cases z : j = (D s1 16).1
            · rw [if_pos z, z]; rfl
            · rw [if_neg z]
          have q2 : (fun j => if j = (D s1 16).1 then (gX Y.1).2.2 (D s1 16).1 - 0 else (gX Y.1).2.2 j) = (gX Y.1).2.2 := by
            funext j; by_cases z : j = (D s1 16).1
            · rw [if_pos z, z]; rfl
            · rw [if_neg z]
          rw [q1, q2]; rfl
        rw [e0] at r2
        rw [if_pos c3, c3, if_pos (show nI 0 < 1 by decide), show nI 0 = 0 from rfl, bd_ok r1]
        exact ⟨_, _, _, _, _, _, _, _, _, _, _, _, _, _, _, _, _, _, _, _, rfl, r2, upd_eq, u1, u2⟩
      · obtain ⟨R, r1, _, r2⟩ := c_ev hC hV l16 (m := 1) (by omega)
        have r1 : m_X1_reach md st hd ak (nI (D s1 16).1) 1 = some R := r1
        rw [if_neg c3, if_neg (show ¬ nI ((gX Y.1).2.1 (D s1 16).1).length < 1 from nI_nlt (b := 1) (by omega) (by omega)), bd_ok r1]
        exact ⟨_, _, _, _, _, _, _, _, _, _, _, _, _, _, _, _, _, _, _, _, rfl, r2, upd_eq, u1, u2⟩
    · rw [if_neg c2, if_neg (show ¬ nI wh = 4 from fun e => c2 (nI_inj (b := 4) (by omega) (by decide) e))]
      by_cases c4 : wh = 5
      · obtain ⟨F', T', md', hd', ak', be', af', ta', row', pic', se', z1, z2⟩ := c_fallR hD (row := row) (pic := pic) (se := se) (Y := (Y.1, s1, Y.2.2)) hm2 ⟨hC, g3, g4, g5⟩ hV
        rw [if_pos c4, if_pos (show nI wh = 5 by rw [c4]; rfl), bd_ok z1]
        exact ⟨_, _, _, _, _, _, _, _, _, _, _, _, _, _, _, _, _, _, _, _, rfl, z2⟩
      · have d4 : m_X10_draw F1 4 = some (nI (D s1 4).1, upd F1 3 (D s1 4).2) := hD.2.1 F1 _ 4 g3 (by decide) (by decide)
        have l4 := hD.1 (s1) (4) (by omega)
        obtain ⟨u1, u2⟩ := up3 F1 (D s1 4).2 g4 g5
        rw [if_neg c4, if_neg (show ¬ nI wh = 5 from fun e => c4 (nI_inj (b := 5) (by omega) (by decide) e))]
        by_cases c5 : wh = 6
        · have d10 : m_X10_draw (upd F1 3 (D s1 4).2) 10 = some (nI (D (D s1 4).2 10).1, upd (upd F1 3 (D s1 4).2) 3 (D (D s1 4).2 10).2) := hD.2.1 _ _ 10 upd_eq (by decide) (by decide)
          have l10 := hD.1 ((D s1 4).2) (10) (by omega)
          obtain ⟨u3, u4⟩ := up3 _ (D (D s1 4).2 10).2 u1 u2
          obtain ⟨T', wa', z1, z2⟩ := c_addW hC (ok0 l4 l10)
          rw [if_pos c5, if_pos (show nI wh = 6 by rw [c5]; rfl), bd_ok d4]
          dsimp only
          rw [bd_ok d10]
          dsimp only
          rw [bd_ok (pk0 _ l4 _ l10), bd_ok z1]
          exact ⟨_, _, _, _, _, _, _, _, _, _, _, _, _, _, _, _, _, _, _, _, rfl, z2, upd_eq, u3, u4⟩
        · obtain ⟨T', wa', z1, z2⟩ := c_addW hC (ok1 l4)
          rw [if_neg c5, if_neg (show ¬ nI wh = 6 from fun e => c5 (nI_inj (b := 6) (by omega) (by decide) e)), bd_ok d4]
          dsimp only
          rw [bd_ok (pk1 _ l4), bd_ok z1]
          exact ⟨_, _, _, _, _, _, _, _, _, _, _, _, _, _, _, _, _, _, _, _, rfl, z2, upd_eq, u1, u2⟩
