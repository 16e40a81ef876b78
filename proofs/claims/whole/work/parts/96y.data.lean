/-! ===== the clause `data` ===== -/
theorem c_dstep {t : Nat → Nat} {N v x fuel : Nat} {k : TK} {a F md : Nat → Int32} {K : (Nat → Int32) → (Nat → Int32) → Option (Int32 × (Nat → Int32) × (Nat → Int32))} (hX : TX t N a) (hk : okT t N k) (hC : CT F k) (h3 : F 3 = nI N) (hv : v ≤ 9) (hx : x < 4) :
    ∃ F', CT F' (tkA t N k.2.2) ∧ frD F' F ∧ (jnA t (tkA t N k.2.2) 0 99 = 0 → m_X6_readData_w50 a 700 K (fuel + 1) (nI v) (nI x) F md = m_X6_readData_w50 a 700 K fuel (nI v) (nI (x + 1)) F' (upd md (24 + 4 * v + x) (nI (vlA t (tkA t N k.2.2))))) ∧ (¬ jnA t (tkA t N k.2.2) 0 99 = 0 → m_X6_readData_w50 a 700 K (fuel + 1) (nI v) (nI x) F md = some (nI (jnA t (tkA t N k.2.2) 0 99), F', md)) := by
  obtain ⟨F1, g1, g2, g3⟩ := c_goOn6 hX hk.2.1 h3 hC.1
  obtain ⟨ok, ge⟩ := tk_ok (t := t) (N := N) hk.2.1
  obtain ⟨F2, z1, z2, z3⟩ := c_judge (lo := 0) (hi := 99) hX ok g2 (by decide) (by decide)
  have z1 : m_X6_judgeNumber F1 a 700 0 99 = some (nI (jnA t (tkA t N k.2.2) 0 99), F2) := z1
  refine ⟨F2, CT_7 z3 g2, frD_tr (frD_7 z3) (frD_C g3), fun c => ?_, fun c => ?_⟩
  · rw [m_X6_readData_w50, if_neg (show ¬ (4 : Int32) ≤ nI x from nI_ge (b := 4) hx (by decide)), bd_ok g1, bd_ok z1]
    dsimp only
    rw [if_pos (show nI (jnA t (tkA t N k.2.2) 0 99) = 0 by rw [c]; rfl), bd_ok c_addr, nI_add, wr_nI (by omega) (by decide), z2 c]
    show m_X6_readData_w50 a 700 K fuel (nI v) (nI x + nI 1) F2 _ = _
    rw [nI_add]
  · rw [m_X6_readData_w50, if_neg (show ¬ (4 : Int32) ≤ nI x from nI_ge (b := 4) hx (by decide)), bd_ok g1, bd_ok z1]
    dsimp only
    rw [if_neg (jn9 c)]
theorem r_dhead {t : Nat → Nat} {N dt : Nat} {k : TK} {tp F mem : Nat → Int32} (hk : okT t N k) (hR : RT F t k) (h38 : F 38 = 0) (h46 : F 46 = nI dt) (hd : dt < 1024) :
    (jnA t k 0 9 = 0 → (if F 35 = 2 then m_X12_data1_j18 tp 1 F mem else m_X12_data1_j18 tp 0 F mem) = m_X12_data1_j63 tp (nI (bN (decide ((dt >>> vlA t k) &&& 1 = 0)))) F mem)
    ∧ (¬ jnA t k 0 9 = 0 → ∃ F', (if F 35 = 2 then m_X12_data1_j18 tp 1 F mem else m_X12_data1_j18 tp 0 F mem) = some (F', mem) ∧ BAD F' (jnA t k 0 9) k.2.1 ∧ frH F' F) := by
  by_cases c : k.1 = 2
  · have w1 := w_ok (F := F) (c := 1) h38
    have hv := (vl_le hk c).1
    rw [if_pos ((srA_n hk hR).mpr c), m_X12_data1_j18, bd_ok w1]
    dsimp only
    rw [if_neg (show ¬ (1 : Int32) = 0 by decide), hR.2.2.2.1]
    have wi : m_X12_within (nI (vlA t k)) 0 9 = some (nI (bN (decide (vlA t k ≤ 9)))) := wi_is (hi := 9) (by omega) (by decide)
    rw [bd_ok wi]
    by_cases d : vlA t k ≤ 9
    · have j0 : jnA t k 0 9 = 0 := by rw [jnA, if_pos c, if_pos ⟨Nat.zero_le _, d⟩]
      refine ⟨fun _ => ?_, fun e => absurd j0 e⟩
      have w2 : m_X12_wants F (nI (bN (decide (vlA t k ≤ 9)))) 2 = some (1, F) := by rw [decide_eq_true d]; exact w_ok h38
      rw [bd_ok w2]
      dsimp only
      rw [if_neg (show ¬ (1 : Int32) = 0 by decide)]
      have le := and1_le (x := dt >>> vlA t k)
      have ei : (((F 46) >>> ((F 36) &&& 31)) &&& 1) = nI ((dt >>> vlA t k) &&& 1) := by rw [hR.2.2.2.1, h46, shrG hd (by omega)]
      by_cases e : (dt >>> vlA t k) &&& 1 = 0
      · rw [if_pos (show (((F 46) >>> ((F 36) &&& 31)) &&& 1) = 0 by rw [ei, e]; rfl), decide_eq_true e]; rfl
      · rw [if_neg (show ¬ (((F 46) >>> ((F 36) &&& 31)) &&& 1) = 0 by rw [ei]; exact nI_ne0 (by omega) (by omega)), decide_eq_false e]; rfl
    · have j2 : jnA t k 0 9 = 2 := by rw [jnA, if_pos c, if_neg (fun e => d e.2)]
      refine ⟨fun e => (by rw [j2] at e; cases e), fun _ => ?_⟩
      have w2 : m_X12_wants F (nI (bN (decide (vlA t k ≤ 9)))) 2 = some (0, upd (upd F 38 2) 15 (F 33)) := by rw [decide_eq_false d]; exact w_no h38 (by decide)
      rw [bd_ok w2, j2]
      obtain ⟨x1, x2⟩ := bad_i (F := F) (c := 2) hR.2.1
      exact ⟨_, if_pos rfl, x1, x2⟩
  · have j1 : jnA t k 0 9 = 1 := by rw [jnA, if_neg c]
    refine ⟨fun e => (by rw [j1] at e; cases e), fun _ => ?_⟩
    rw [if_neg (fun e => c ((srA_n hk hR).mp e)), m_X12_data1_j18, bd_ok (w_no h38 (by decide)), j1]
    obtain ⟨x1, x2⟩ := bad_i (F := F) (c := 1) hR.2.1
    exact ⟨_, if_pos rfl, x1, x2⟩
theorem cl_data {t : Nat → Nat} {N : Nat} {k : TK} {q : QS} {a tp Fc T wa md Fr mem wt : Nat → Int32} (h : CL t N k q a tp Fc T wa md Fr mem wt) :
    ∃ code Fc' md' Fr' mem', m_X6_readData Fc md a 700 = some (code, Fc', md') ∧ m_X12_clause1_j16 tp (nI 5) Fr mem wt = some (Fr', mem', wt) ∧ REL t N k code Fc' T wa md' Fr' mem' wt ∧ FRM T T Fr' Fr := by
  obtain ⟨hX, hY, hk, hC, hR, h38, hq, hc, hr, h0⟩ := h
  obtain ⟨f, o, m, td, dt, ch, W⟩ := q
  have j16 : m_X12_clause1_j16 tp (nI 5) Fr mem wt = bd (m_X12_data1 Fr tp mem) fun u9 => some (u9.1, u9.2, wt) := by
    rw [m_X12_clause1_j16, if_neg (by decide), if_neg (by decide), if_neg (by decide), if_neg (by decide), if_neg (by decide), if_pos (by decide)]
  obtain ⟨F1, g1, g2, g3⟩ := c_goOn6 hX hk.2.1 hc.1 hC.1
  obtain ⟨G1, r1, r2, r3⟩ := r_go hY hk.2.1 hr.1 hR.1
  obtain ⟨ok, ge⟩ := tk_ok (t := t) (N := N) hk.2.1
  have lt : k.2.1 < k.2.2 := (hk.2.2.2.1.resolve_left h0).1
  generalize hk1 : tkA t N k.2.2 = k1 at *
  obtain ⟨F2, z1, z2, z3⟩ := c_judge (lo := 0) (hi := 9) hX ok g2 (by decide) (by decide)
  have z1 : m_X6_judgeNumber F1 a 700 0 9 = some (nI (jnA t k1 0 9), F2) := z1
  have g38 : G1 38 = 0 := (r3 38 (by decide)).trans h38
  have g34 : G1 34 = nI N := (r3 34 (by decide)).trans hr.1
  have g46 : G1 46 = nI dt := (r3 46 (by decide)).trans hr.2.2.2.2.2.2.1
  have hd : dt < 1024 := hq.2.2.2.2.2.1
  obtain ⟨y1, y2⟩ := r_dhead (tp := tp) (mem := mem) ok r2 g38 g46 hd
  have f2 : frD F2 Fc := frD_tr (frD_7 z3) (frD_C g3)
  have e9 : F2 9 = nI dt := (f2 9 (by decide) (by decide) (by decide) (by decide)).trans hc.2.2.1
  rw [j16, m_X12_data1, bd_ok r1, m_X6_readData, bd_ok g1, bd_ok z1]
  dsimp only
  by_cases c : jnA t k1 0 9 = 0
  · obtain ⟨v1, v2, v3⟩ := jn_v c
    rw [y1 c, if_pos (show nI (jnA t k1 0 9) = 0 by rw [c]; rfl), nm]
    have le := and1_le (x := dt >>> vlA t k1)
    have e7 := z2 c
    generalize hv : vlA t k1 = v at *
    have ei : (((F2 9) >>> ((F2 7) &&& 31)) &&& 1) = nI ((dt >>> v) &&& 1) := by rw [e9, e7, shrG hd (by omega)]
    by_cases e : (dt >>> v) &&& 1 = 0
    · rw [if_pos (show (((F2 9) >>> ((F2 7) &&& 31)) &&& 1) = 0 by rw [ei, e]; rfl), decide_eq_true e, e9, e7, orG (by omega), nm]
      have e3 : upd F2 9 (nI (dt ||| 1 <<< v)) 3 = nI N := (upd_ne (by decide)).trans ((f2 3 (by decide) (by decide) (by decide) (by decide)).trans hc.1)
      have cA : CT (upd F2 9 (nI (dt ||| 1 <<< v))) k1 := by
        have := CT_7 z3 g2
        exact ⟨(upd_ne (by decide)).trans this.1, (upd_ne (by decide)).trans this.2.1, (upd_ne (by decide)).trans this.2.2⟩
      -- the class: two numbers
      obtain ⟨F3, a1, a2, a3, a4⟩ := c_dstep (v := v) (x := 2) (fuel := 99999) (md := md) (K := m_X6_readData_j94 a 700) hX ok cA e3 (by omega) (by decide)
      have ok2 := tk_ok (t := t) (N := N) ok.2.1
      generalize hk2 : tkA t N k1.2.2 = k2 at *
      obtain ⟨ok2, ge2⟩ := ok2
      -- the reference
      have hF6 : ∀ j, ¬ j = 46 → upd G1 46 (nI (dt ||| 1 <<< v)) j = G1 j := fun j hj => upd_ne hj
      obtain ⟨G2, s1, s2, s3⟩ := r_go (F := upd G1 46 (nI (dt ||| 1 <<< v))) hY ok.2.1 ((hF6 34 (by decide)).trans g34) ((hF6 32 (by decide)).trans r2.1)
      rw [hk2] at s2
      have s38 : G2 38 = 0 := ((s3 38 (by decide)).trans (hF6 38 (by decide))).trans g38
      have s34 : G2 34 = nI N := ((s3 34 (by decide)).trans (hF6 34 (by decide))).trans g34
      obtain ⟨n1, n2⟩ := r_num (lo := 0) (hi := 99) hY ok2 s2 s38 s34 (by decide) (by decide)
      have j63 : m_X12_data1_j63 tp (nI (bN true)) G1 mem = bd (m_X12_numberHere G2 tp (nI 0) (nI 99)) fun u9 => wr mem 64 (nI (24 + 4 * v) + 2) u9.1 fun a10 => if u9.2 38 = 0 then (bd (m_X12_numberHere u9.2 tp 0 99) fun u11 => wr a10 64 (nI (24 + 4 * v) + 3) u11.1 fun a12 => some (u11.2, a12)) else some (u9.2, a10) := by
        rw [m_X12_data1_j63, bd_ok (show m_X12_wants G1 (nI (bN true)) 3 = some (1, G1) from w_ok g38)]
        dsimp only
        rw [if_neg (show ¬ (1 : Int32) = 0 by decide), r2.2.2.2.1, hv, g46, orG (by omega), nm, (hF6 36 (by decide)).trans (r2.2.2.2.1.trans (by rw [hv])), bd_ok r_block, bd_ok s1]
        rfl
      have FRr : frH G2 (upd G1 46 (nI (dt ||| 1 <<< v))) := frH_G s3
      have FRx : ∀ G' : Nat → Int32, frH G' G2 → FRM T T G' Fr := fun G' hG => ⟨fun _ _ => rfl, fun j a b => by rw [hG j (by omega), FRr j (by omega), hF6 j (by omega), r3 j (by omega)]⟩
      rw [j63]
      show ∃ code Fc' md' Fr' mem', m_X6_readData_w50 a 700 (m_X6_readData_j94 a 700) (99999 + 1) (nI v) (nI 2) (upd F2 9 (nI (dt ||| 1 <<< v))) md = some (code, Fc', md') ∧ _
      by_cases c2 : jnA t k2 0 99 = 0
      · obtain ⟨G3, m1, m2, m3, m4⟩ := n1 c2
        have ok3 := tk_ok (t := t) (N := N) ok2.2.1
        have e3' : F3 3 = nI N := (a2 3 (by decide) (by decide) (by decide) (by decide)).trans e3
        obtain ⟨F4, b1, b2, b3, b4⟩ := c_dstep (v := v) (x := 3) (fuel := 99998) (md := upd md (24 + 4 * v + 2) (nI (vlA t k2))) (K := m_X6_readData_j94 a 700) hX ok2 a1 e3' (by omega) (by decide)
        obtain ⟨l1, l2, l3⟩ := jn_v c2
        generalize hk3 : tkA t N k2.2.2 = k3 at *
        obtain ⟨ok3, ge3⟩ := ok3
        have m34 : G3 34 = nI N := (m4 34 (by decide)).trans s34
        obtain ⟨p1, p2⟩ := r_num (lo := 0) (hi := 99) hY ok3 m2 m3 m34 (by decide) (by decide)
        have a3 := a3 c2
        have a3 : m_X6_readData_w50 a 700 (m_X6_readData_j94 a 700) (99999 + 1) (nI v) (nI 2) (upd F2 9 (nI (dt ||| 1 <<< v))) md = m_X6_readData_w50 a 700 (m_X6_readData_j94 a 700) (99998 + 1) (nI v) (nI 3) F3 (upd md (24 + 4 * v + 2) (nI (vlA t k2))) := a3
        rw [a3, bd_ok m1]
        dsimp only
        rw [show (nI (24 + 4 * v) + 2 : Int32) = nI (24 + 4 * v + 2) from nI_add _ 2, wr_nI (by omega) (by decide), if_pos m3]
        by_cases c3 : jnA t k3 0 99 = 0
        · obtain ⟨G4, x1, x2, x3, x4⟩ := p1 c3
          have x1 : m_X12_numberHere G3 tp 0 99 = some (nI (vlA t k3), G4) := x1
          obtain ⟨l4, l5, l6⟩ := jn_v c3
          rw [bd_ok x1]
          dsimp only
          rw [show (nI (24 + 4 * v) + 3 : Int32) = nI (24 + 4 * v + 3) from nI_add _ 3, wr_nI (by omega) (by decide), b3 c3]
          have hq0 : okQ (f, o, m, td, dt ||| 1 <<< v, ch, W) := by
            obtain ⟨q1, q2, q3, q4, q5, q6, q7⟩ := hq
            exact ⟨q1, q2, q3, q4, q5, orN_lt hd (by omega), q7⟩
          have hc0 : CP N F4 T wa md (f, o, m, td, dt ||| 1 <<< v, ch, W) := by
            obtain ⟨c1, c2, c3, c4, c5⟩ := CP_fr f2 hc
            exact CP_fr (frD_tr b2 a2) ⟨(upd_ne (by decide)).trans c1, (upd_ne (by decide)).trans c2, upd_eq, (upd_ne (by decide)).trans c4, c5⟩
          have hr0 : RP N G4 mem wt (f, o, m, td, dt ||| 1 <<< v, ch, W) := by
            obtain ⟨c1, c2, c3, c4, c5, c6, c7, c8⟩ := RP_fr (frH_G r3) hr
            exact RP_fr (frH_tr x4 (frH_tr m4 FRr)) ⟨(upd_ne (by decide)).trans c1, (upd_ne (by decide)).trans c2, (upd_ne (by decide)).trans c3, (upd_ne (by decide)).trans c4, (upd_ne (by decide)).trans c5, (upd_ne (by decide)).trans c6, upd_eq, c8⟩
          have hq1 := okQ_f (a := 24 + 4 * v + 3) (v := vlA t k3) (okQ_f (a := 24 + 4 * v + 2) (v := vlA t k2) hq0 l2 (fun b hb e => by omega)) l5 (fun b hb e => by omega)
          have hc1 := CP_f (upd_upN (a := 24 + 4 * v + 3) (v := vlA t k3) (upd_upN (a := 24 + 4 * v + 2) (v := vlA t k2) hc0.2.2.2.2.2.2.2.2)) hc0
          have hr1 := RP_f (upd_upN (a := 24 + 4 * v + 3) (v := vlA t k3) (upd_upN (a := 24 + 4 * v + 2) (v := vlA t k2) hr0.2.2.2.2.2.2.2.2)) hr0
          have lt1 : k1.2.1 < k1.2.2 := (ok.2.2.2.1.resolve_left (by omega)).1
          have lt2 : k2.2.1 < k2.2.2 := (ok2.2.2.2.1.resolve_left (by omega)).1
          obtain ⟨code, Fc', t1, t2⟩ := rel_semi (k := k) hX ok3 (by omega) (by omega) b1 x2 x3 hq1 hc1 hr1
          refine ⟨code, Fc', _, G4, _, ?_, rfl, t2, FRx _ (frH_tr x4 m4)⟩
          show m_X6_readData_j94 a 700 F4 _ = _
          rw [m_X6_readData_j94, bd_ok t1]
        · obtain ⟨G4, x1, x2, x3⟩ := p2 c3
          have x1 : m_X12_numberHere G3 tp 0 99 = some (nI 0, G4) := x1
          rw [bd_ok x1]
          dsimp only
          rw [show (nI (24 + 4 * v) + 3 : Int32) = nI (24 + 4 * v + 3) from nI_add _ 3, wr_nI (by omega) (by decide), b4 c3]
          have le3 := jn_le (t := t) (k := k3) (lo := 0) (hi := 99)
          exact ⟨_, _, _, G4, _, rfl, rfl, Or.inr (Or.inl ⟨_, _, by omega, by omega, rfl, b1.2.2, x2⟩), FRx _ (frH_tr x3 m4)⟩
      · obtain ⟨G3, m1, m2, m3⟩ := n2 c2
        have le3 := jn_le (t := t) (k := k2) (lo := 0) (hi := 99)
        rw [bd_ok m1, a4 c2]
        dsimp only
        rw [show (nI (24 + 4 * v) + 2 : Int32) = nI (24 + 4 * v + 2) from nI_add _ 2, wr_nI (by omega) (by decide), if_neg (show ¬ G3 38 = 0 by rw [m2.1]; exact jn9 c2)]
        exact ⟨_, _, _, G3, _, rfl, rfl, Or.inr (Or.inl ⟨_, _, by omega, by omega, rfl, a1.2.2, m2⟩), FRx _ m3⟩
    · rw [if_neg (show ¬ (((F2 9) >>> ((F2 7) &&& 31)) &&& 1) = 0 by rw [ei]; exact nI_ne0 (by omega) (by omega)), decide_eq_false e, m_X12_data1_j63, bd_ok (show m_X12_wants G1 (nI (bN false)) 3 = some (0, upd (upd G1 38 3) 15 (G1 33)) from w_no g38 (by decide))]
      dsimp only
      rw [if_pos rfl]
      obtain ⟨x1, x2⟩ := bad_i (F := G1) (c := 3) r2.2.1
      exact ⟨_, _, _, _, _, rfl, rfl, Or.inr (Or.inl ⟨3, k1.2.1, by decide, by decide, rfl, (CT_7 z3 g2).2.2, x1⟩), frm_i (frH_tr x2 (frH_G r3))⟩
  · obtain ⟨G2, w1, w2, w3⟩ := y2 c
    have le := jn_le (t := t) (k := k1) (lo := 0) (hi := 9)
    rw [w1, if_neg (jn9 c)]
    exact ⟨_, _, _, _, _, rfl, rfl, Or.inr (Or.inl ⟨_, _, by omega, by omega, rfl, (CT_7 z3 g2).2.2, w2⟩), frm_i (frH_tr w3 (frH_G r3))⟩
