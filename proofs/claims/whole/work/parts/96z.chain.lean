/-! ===== the clause `chain` ===== -/
theorem cP_flip {P Q : Nat → Bool} {a : Nat} (hP : P a = false) (hQ : Q a = true) (h : ∀ k, ¬ k = a → Q k = P k) : ∀ n, cP Q n = cP P n + (if a < n then 1 else 0) := by
  intro n
  induction n with
  | zero => rw [if_neg (Nat.not_lt_zero a)]; rfl
  | succ n ih =>
    rw [cP, cP, ih]
    by_cases c : n = a
    · rw [c, hP, hQ, if_neg (Nat.lt_irrefl a), if_pos (Nat.lt_succ_self a), if_pos rfl, if_neg (by decide)]
    · rw [h n c]
      by_cases d : a < n
      · rw [if_pos d, if_pos (show a < n + 1 by omega)]; omega
      · rw [if_neg d, if_neg (show ¬ a < n + 1 by omega)]; omega
def usB (f : Nat → Nat) (b : Nat) : Bool := decide (¬ f (24 + 4 * b) = 0)
theorem ch_loop {t : Nat → Nat} {N : Nat} {k : TK} {a tp T wa wt : Nat → Int32} (hX : TX t N a) (hY : TX t N tp) :
    ∀ (d i lk fuel1 fuel2 : Nat) (kk : TK) (q : QS) (Fc md Fr mem : Nat → Int32), i + d = 11 → d < fuel1 → d < fuel2 → i ≤ cP (usB q.1) 10 → lk < 64 → (lk < 24 ∨ lk % 4 = 1) → okT t N kk → ¬ kk.1 = 0 → k.2.1 ≤ kk.2.1 → CT Fc kk → RT Fr t (tkA t N kk.2.2) → Fr 38 = 0 → okQ q → CP N Fc T wa md q → RP N Fr mem wt q →
      ∃ code Fc' md' Fr' mem', m_X6_readChain_w58 a 700 fuel1 (nI lk) (nI i) Fc md = some (code, Fc', md') ∧ m_X12_chain1_w99 tp fuel2 (nI lk) (if i = 0 ∨ (tkA t N kk.2.2).1 = 2 then 1 else 0) Fr mem = some (Fr', mem') ∧ REL t N k code Fc' T wa md' Fr' mem' wt ∧ frH Fr' Fr := by
  intro d
  induction d with
  | zero =>
    intro i lk fuel1 fuel2 kk q Fc md Fr mem hi _ _ hcp
    have := cP_le (P := usB q.1) 10
    omega
  | succ d ih =>
    intro i lk fuel1 fuel2 kk q Fc md Fr mem hi hf1 hf2 hcp hlk hlk2 hk h0 hle hC hR h38 hq hc hr
    obtain ⟨fuel1, rfl⟩ : ∃ e, fuel1 = e + 1 := ⟨fuel1 - 1, by omega⟩
    obtain ⟨fuel2, rfl⟩ : ∃ e, fuel2 = e + 1 := ⟨fuel2 - 1, by omega⟩
    obtain ⟨F1, g1, g2, g3⟩ := c_goOn6 hX hk.2.1 hc.1 hC.1
    obtain ⟨ok, ge⟩ := tk_ok (t := t) (N := N) hk.2.1
    have lt : kk.2.1 < kk.2.2 := (hk.2.2.2.1.resolve_left h0).1
    generalize hk2 : tkA t N kk.2.2 = k2 at *
    have hs : m_X6_isSign F1 a 700 59 = some (nI (bN (sgB t k2 59))) := c_isSign (b := 59) hX ok g2 (by decide)
    have hw : m_X6_readChain_w58 a 700 (fuel1 + 1) (nI lk) (nI i) Fc md = if 0 < i ∧ sgB t k2 59 = true then some (0, F1, md) else m_X6_readChain_j83 a 700 (m_X6_readChain_w58 a 700 fuel1) (nI lk) (nI i) F1 md := by
      rw [m_X6_readChain_w58, if_neg (show ¬ (10 : Int32) < nI i from nI_nlt (a := 10) (by omega) (by decide)), bd_ok g1]
      by_cases c : 0 < i
      · rw [if_neg (show ¬ nI i ≤ (0 : Int32) from nI_ge (a := 0) c (by omega)), bd_ok hs]
        cases e : sgB t k2 59 with
        | true => rw [if_neg (by decide), if_pos ⟨c, rfl⟩]
        | false => rw [if_pos (by decide), if_neg (fun h => by cases h.2)]
      · rw [if_pos (show nI i ≤ (0 : Int32) from nI_le (b := 0) (by omega) (by decide)), if_neg (fun h => c h.1)]
    rw [hw]
    by_cases cs : 0 < i ∧ sgB t k2 59 = true
    · have k3 : k2.1 = 3 := by
        have := cs.2
        rw [sgB, Bool.and_eq_true, decide_eq_true_iff] at this
        exact this.1
      rw [if_pos cs, if_neg (show ¬ (i = 0 ∨ k2.1 = 2) by omega), m_X12_chain1_w99, if_pos rfl]
      exact ⟨0, F1, md, Fr, mem, rfl, rfl, Or.inl ⟨q, k2, hq, CP_fr (frD_C g3) hc, hr, ok, g2, hR, h38, by omega, rfl, cs.2⟩, fun _ _ => rfl⟩
    · rw [if_neg cs]
      obtain ⟨F2, md2, z1, z2, z3⟩ := c_judgeBlock (f := q.1) (md := md) hX ok g2 hc.2.2.2.2.2.2.2.2 hq.1
      obtain ⟨y1, y2⟩ := r_usedHere (f := q.1) (mem := mem) hY ok hR h38 hr.1 hr.2.2.2.2.2.2.2.2 hq.2.1
      by_cases c : jbA t q.1 k2 = 0
      · obtain ⟨v1, v2, v3⟩ := jb_v c
        obtain ⟨G2, w1, w2, w3, w4⟩ := y1 c
        obtain ⟨p1, p2⟩ := z2 c
        generalize hv : vlA t k2 = v at *
        have f2 : frD F2 Fc := frD_tr (frD_7 z3) (frD_C g3)
        have hc1 : CP N F2 T wa (upd md2 lk (nI (24 + 4 * v))) (upN (upN q.1 (24 + 4 * v) 1) lk (24 + 4 * v), q.2) := CP_f (upd_upN (by rw [p2]; exact upd_upN hc.2.2.2.2.2.2.2.2)) (CP_fr f2 hc)
        have hr1 : RP N G2 (upd (upd mem (24 + 4 * v) 1) lk (nI (24 + 4 * v))) wt (upN (upN q.1 (24 + 4 * v) 1) lk (24 + 4 * v), q.2) := RP_f (upd_upN (upd_upN hr.2.2.2.2.2.2.2.2)) (RP_fr w4 hr)
        have hq1 : okQ (upN (upN q.1 (24 + 4 * v) 1) lk (24 + 4 * v), q.2) := okQ_f (q := (upN q.1 (24 + 4 * v) 1, q.2)) (okQ_f hq (by decide) (fun _ _ _ => Nat.le_refl _)) (by omega) (fun b hb e => by omega)
        have hcp1 : i + 1 ≤ cP (usB (upN (upN q.1 (24 + 4 * v) 1) lk (24 + 4 * v))) 10 := by
          have hot : ∀ b, ¬ b = v → usB (upN (upN q.1 (24 + 4 * v) 1) lk (24 + 4 * v)) b = usB q.1 b := by
            intro b hb
            unfold usB
            by_cases e : 24 + 4 * b = lk
            · exact absurd e (fun e => by omega)
            · rw [upN_ne e, upN_ne (by omega)]
          have hP : usB q.1 v = false := by unfold usB; rw [v2]; rfl
          have hQ : usB (upN (upN q.1 (24 + 4 * v) 1) lk (24 + 4 * v)) v = true := by unfold usB; rw [upN_ne (by omega), upN_eq]; rfl
          have := cP_flip hP hQ hot 10
          rw [if_pos (show v < 10 by omega)] at this
          omega
        obtain ⟨code, Fc', md', Fr', mem', i1, i2, i3, i4⟩ := ih (i + 1) (24 + 4 * v + 1) fuel1 fuel2 k2 (upN (upN q.1 (24 + 4 * v) 1) lk (24 + 4 * v), q.2) F2 (upd md2 lk (nI (24 + 4 * v))) G2 (upd (upd mem (24 + 4 * v) 1) lk (nI (24 + 4 * v))) (by omega) (by omega) (by omega) hcp1 (by omega) (Or.inr (by omega)) ok (by omega) (by omega) (CT_7 z3 g2) w2 w3 hq1 hc1 hr1
        refine ⟨code, Fc', md', Fr', mem', ?_, ?_, i3, frH_tr i4 w4⟩
        · rw [m_X6_readChain_j83, bd_ok z1]
          dsimp only
          rw [if_pos (show nI (jbA t q.1 k2) = 0 by rw [c]; rfl), p1, bd_ok c_addr, wr_nI hlk (by decide), bd_ok c_addr, nm, nm, show (nI (24 + 4 * v) + 1 : Int32) = nI (24 + 4 * v + 1) from nI_add _ 1, show (nI i + 1 : Int32) = nI (i + 1) from nI_add _ 1]
          exact i1
        · rw [if_pos (show i = 0 ∨ k2.1 = 2 from Or.inr v3), m_X12_chain1_w99, if_neg (by decide), if_pos h38, bd_ok w1]
          dsimp only
          rw [if_pos w3, bd_ok r_block, wr_nI hlk (by decide), bd_ok r_block, nm, show (nI (24 + 4 * v) + 1 : Int32) = nI (24 + 4 * v + 1) from nI_add _ 1]
          have ok3 := (tk_ok (t := t) (N := N) ok.2.1).1
          by_cases e : (tkA t N k2.2.2).1 = 2
          · rw [if_pos ((srA_n ok3 w2).mpr e), m_X12_chain1_j153]
            rw [if_pos (Or.inr e)] at i2
            exact i2
          · rw [if_neg (fun x => e ((srA_n ok3 w2).mp x)), m_X12_chain1_j153]
            rw [if_neg (show ¬ (i + 1 = 0 ∨ (tkA t N k2.2.2).1 = 2) by omega)] at i2
            exact i2
      · have le := jb_le (t := t) (f := q.1) (k := k2)
        have cls : m_X6_readChain_j83 a 700 (m_X6_readChain_w58 a 700 fuel1) (nI lk) (nI i) F1 md = some (nI (jbA t q.1 k2), F2, md2) := by
          rw [m_X6_readChain_j83, bd_ok z1]
          dsimp only
          rw [if_neg (nI_ne0 (by omega) (by omega))]
        rw [cls]
        by_cases e : i = 0 ∨ k2.1 = 2
        · obtain ⟨G2, w1, w2, w3⟩ := y2 c
          rw [if_pos e, m_X12_chain1_w99, if_neg (by decide), if_pos h38, bd_ok w1]
          dsimp only
          rw [if_neg (show ¬ G2 38 = 0 by rw [w2.1]; exact nI_ne0 (by omega) (by omega))]
          exact ⟨_, _, _, G2, mem, rfl, rfl, Or.inr (Or.inl ⟨_, _, by omega, by omega, rfl, (z3 6 (by decide)).trans g2.2.2, w2⟩), w3⟩
        · have j1 : jbA t q.1 k2 = 1 := by
            have : jnA t k2 0 9 = 1 := by rw [jnA, if_neg (by omega)]
            rw [jbA, this]; rfl
          have s0 : sgB t k2 59 = false := by
            cases x : sgB t k2 59 with
            | true => exact absurd ⟨by omega, x⟩ cs
            | false => rfl
          rw [if_neg e, m_X12_chain1_w99, if_pos rfl, j1]
          exact ⟨_, _, _, Fr, mem, rfl, rfl, Or.inr (Or.inr ⟨k2, ok, (z3 6 (by decide)).trans g2.2.2, hR, h38, rfl, s0⟩), fun _ _ => rfl⟩
theorem r_chead {t : Nat → Nat} {N dt : Nat} {k : TK} {tp F mem : Nat → Int32} (hk : okT t N k) (hR : RT F t k) (h38 : F 38 = 0) (h46 : F 45 = nI dt) (hd : dt < 1024) :
    (jnA t k 0 3 = 0 → (if F 35 = 2 then m_X12_chain1_j18 tp 1 F mem else m_X12_chain1_j18 tp 0 F mem) = m_X12_chain1_j62 tp (nI (bN (decide ((dt >>> vlA t k) &&& 1 = 0)))) F mem)
    ∧ (¬ jnA t k 0 3 = 0 → ∃ F', (if F 35 = 2 then m_X12_chain1_j18 tp 1 F mem else m_X12_chain1_j18 tp 0 F mem) = some (F', mem) ∧ BAD F' (jnA t k 0 3) k.2.1 ∧ frH F' F) := by
  by_cases c : k.1 = 2
  · have w1 := w_ok (F := F) (c := 1) h38
    have hv := (vl_le hk c).1
    rw [if_pos ((srA_n hk hR).mpr c), m_X12_chain1_j18, bd_ok w1]
    dsimp only
    rw [if_neg (show ¬ (1 : Int32) = 0 by decide), hR.2.2.2.1]
    have wi : m_X12_within (nI (vlA t k)) 0 3 = some (nI (bN (decide (vlA t k ≤ 3)))) := wi_is (hi := 3) (by omega) (by decide)
    rw [bd_ok wi]
    by_cases d : vlA t k ≤ 3
    · have j0 : jnA t k 0 3 = 0 := by rw [jnA, if_pos c, if_pos ⟨Nat.zero_le _, d⟩]
      refine ⟨fun _ => ?_, fun e => absurd j0 e⟩
      have w2 : m_X12_wants F (nI (bN (decide (vlA t k ≤ 3)))) 2 = some (1, F) := by rw [decide_eq_true d]; exact w_ok h38
      rw [bd_ok w2]
      dsimp only
      rw [if_neg (show ¬ (1 : Int32) = 0 by decide)]
      have le := and1_le (x := dt >>> vlA t k)
      have ei : (((F 45) >>> ((F 36) &&& 31)) &&& 1) = nI ((dt >>> vlA t k) &&& 1) := by rw [hR.2.2.2.1, h46, shrG hd (by omega)]
      by_cases e : (dt >>> vlA t k) &&& 1 = 0
      · rw [if_pos (show (((F 45) >>> ((F 36) &&& 31)) &&& 1) = 0 by rw [ei, e]; rfl), decide_eq_true e]; rfl
      · rw [if_neg (show ¬ (((F 45) >>> ((F 36) &&& 31)) &&& 1) = 0 by rw [ei]; exact nI_ne0 (by omega) (by omega)), decide_eq_false e]; rfl
    · have j2 : jnA t k 0 3 = 2 := by rw [jnA, if_pos c, if_neg (fun e => d e.2)]
      refine ⟨fun e => (by rw [j2] at e; cases e), fun _ => ?_⟩
      have w2 : m_X12_wants F (nI (bN (decide (vlA t k ≤ 3)))) 2 = some (0, upd (upd F 38 2) 15 (F 33)) := by rw [decide_eq_false d]; exact w_no h38 (by decide)
      rw [bd_ok w2, j2]
      obtain ⟨x1, x2⟩ := bad_i (F := F) (c := 2) hR.2.1
      exact ⟨_, if_pos rfl, x1, x2⟩
  · have j1 : jnA t k 0 3 = 1 := by rw [jnA, if_neg c]
    refine ⟨fun e => (by rw [j1] at e; cases e), fun _ => ?_⟩
    rw [if_neg (fun e => c ((srA_n hk hR).mp e)), m_X12_chain1_j18, bd_ok (w_no h38 (by decide)), j1]
    obtain ⟨x1, x2⟩ := bad_i (F := F) (c := 1) hR.2.1
    exact ⟨_, if_pos rfl, x1, x2⟩
theorem cl_chain {t : Nat → Nat} {N : Nat} {k : TK} {q : QS} {a tp Fc T wa md Fr mem wt : Nat → Int32} (h : CL t N k q a tp Fc T wa md Fr mem wt) :
    ∃ code Fc' md' Fr' mem', m_X6_readChain Fc md a 700 = some (code, Fc', md') ∧ m_X12_clause1_j16 tp (nI 3) Fr mem wt = some (Fr', mem', wt) ∧ REL t N k code Fc' T wa md' Fr' mem' wt ∧ FRM T T Fr' Fr := by
  obtain ⟨hX, hY, hk, hC, hR, h38, hq, hc, hr, h0⟩ := h
  obtain ⟨f, o, m, td, dt, ch, W⟩ := q
  have j16 : m_X12_clause1_j16 tp (nI 3) Fr mem wt = bd (m_X12_chain1 Fr tp mem) fun u6 => some (u6.1, u6.2, wt) := by
    rw [m_X12_clause1_j16, if_neg (by decide), if_neg (by decide), if_neg (by decide), if_pos (by decide)]
  obtain ⟨F1, g1, g2, g3⟩ := c_goOn6 hX hk.2.1 hc.1 hC.1
  obtain ⟨G1, r1, r2, r3⟩ := r_go hY hk.2.1 hr.1 hR.1
  obtain ⟨ok, ge⟩ := tk_ok (t := t) (N := N) hk.2.1
  have lt : k.2.1 < k.2.2 := (hk.2.2.2.1.resolve_left h0).1
  generalize hk1 : tkA t N k.2.2 = k1 at *
  obtain ⟨F2, z1, z2, z3⟩ := c_judge (lo := 0) (hi := 3) hX ok g2 (by decide) (by decide)
  have z1 : m_X6_judgeNumber F1 a 700 0 3 = some (nI (jnA t k1 0 3), F2) := z1
  have g38 : G1 38 = 0 := (r3 38 (by decide)).trans h38
  have g34 : G1 34 = nI N := (r3 34 (by decide)).trans hr.1
  have g45 : G1 45 = nI ch := (r3 45 (by decide)).trans hr.2.2.2.2.2.1
  have hd : ch < 1024 := hq.2.2.2.2.2.2
  obtain ⟨y1, y2⟩ := r_chead (tp := tp) (mem := mem) ok r2 g38 g45 hd
  have f2 : frD F2 Fc := frD_tr (frD_7 z3) (frD_C g3)
  have e10 : F2 10 = nI ch := (f2 10 (by decide) (by decide) (by decide) (by decide)).trans hc.2.2.2.1
  rw [j16, m_X12_chain1, bd_ok r1, m_X6_readChain, bd_ok g1, bd_ok z1]
  dsimp only
  by_cases c : jnA t k1 0 3 = 0
  · obtain ⟨v1, v2, v3⟩ := jn_v c
    rw [y1 c, if_pos (show nI (jnA t k1 0 3) = 0 by rw [c]; rfl)]
    have le := and1_le (x := ch >>> vlA t k1)
    have e7 := z2 c
    generalize hv : vlA t k1 = v at *
    have ei : (((F2 10) >>> ((F2 7) &&& 31)) &&& 1) = nI ((ch >>> v) &&& 1) := by rw [e10, e7, shrG hd (by omega)]
    by_cases e : (ch >>> v) &&& 1 = 0
    · rw [if_pos (show (((F2 10) >>> ((F2 7) &&& 31)) &&& 1) = 0 by rw [ei, e]; rfl), decide_eq_true e, e10, e7, orG (by omega), nm, upd_ne (by decide), e7, nm, show (20 + nI v : Int32) = nI (20 + v) from nI_add 20 v]
      have cA : CT (upd F2 10 (nI (ch ||| 1 <<< v))) k1 := by
        have := CT_7 z3 g2
        exact ⟨(upd_ne (by decide)).trans this.1, (upd_ne (by decide)).trans this.2.1, (upd_ne (by decide)).trans this.2.2⟩
      have hF6 : ∀ j, ¬ j = 45 → upd G1 45 (nI (ch ||| 1 <<< v)) j = G1 j := fun j hj => upd_ne hj
      obtain ⟨G2, s1, s2, s3⟩ := r_go (F := upd G1 45 (nI (ch ||| 1 <<< v))) hY ok.2.1 ((hF6 34 (by decide)).trans g34) ((hF6 32 (by decide)).trans r2.1)
      have s38 : G2 38 = 0 := ((s3 38 (by decide)).trans (hF6 38 (by decide))).trans g38
      have j62 : m_X12_chain1_j62 tp (nI (bN true)) G1 mem = m_X12_chain1_w99 tp fuelN (nI (20 + v)) 1 G2 mem := by
        rw [m_X12_chain1_j62, bd_ok (show m_X12_wants G1 (nI (bN true)) 4 = some (1, G1) from w_ok g38)]
        dsimp only
        rw [if_neg (show ¬ (1 : Int32) = 0 by decide), r2.2.2.2.1, hv, g45, orG (by omega), nm, (hF6 36 (by decide)).trans (r2.2.2.2.1.trans (by rw [hv])), nm, bd_ok s1, show (20 + nI v : Int32) = nI (20 + v) from nI_add 20 v]
      have hq0 : okQ (f, o, m, td, dt, ch ||| 1 <<< v, W) := by
        obtain ⟨q1, q2, q3, q4, q5, q6, q7⟩ := hq
        exact ⟨q1, q2, q3, q4, q5, q6, orN_lt hd (by omega)⟩
      have hc0 : CP N (upd F2 10 (nI (ch ||| 1 <<< v))) T wa md (f, o, m, td, dt, ch ||| 1 <<< v, W) := by
        obtain ⟨c1, c2, c3, c4, c5⟩ := CP_fr f2 hc
        exact ⟨(upd_ne (by decide)).trans c1, (upd_ne (by decide)).trans c2, (upd_ne (by decide)).trans c3, upd_eq, c5⟩
      have hr0 : RP N G2 mem wt (f, o, m, td, dt, ch ||| 1 <<< v, W) := by
        obtain ⟨c1, c2, c3, c4, c5, c6, c7, c8⟩ := RP_fr (frH_G r3) hr
        exact RP_fr (frH_G s3) ⟨(upd_ne (by decide)).trans c1, (upd_ne (by decide)).trans c2, (upd_ne (by decide)).trans c3, (upd_ne (by decide)).trans c4, (upd_ne (by decide)).trans c5, upd_eq, (upd_ne (by decide)).trans c7, c8⟩
      obtain ⟨code, Fc', md', Fr', mem', i1, i2, i3, i4⟩ := ch_loop (k := k) hX hY 11 0 (20 + v) fuelN fuelN k1 _ _ md G2 mem rfl (by rw [fuel_is]; decide) (by rw [fuel_is]; decide) (Nat.zero_le _) (by omega) (Or.inl (by omega)) ok (by omega) (by omega) cA s2 s38 hq0 hc0 hr0
      rw [if_pos (Or.inl rfl)] at i2
      refine ⟨code, Fc', md', Fr', mem', i1, ?_, i3, fun _ _ => rfl, fun j a b => ?_⟩
      · rw [j62, bd_ok i2]
      · rw [i4 j (by omega), s3 j (by omega), hF6 j (by omega), r3 j (by omega)]
    · rw [if_neg (show ¬ (((F2 10) >>> ((F2 7) &&& 31)) &&& 1) = 0 by rw [ei]; exact nI_ne0 (by omega) (by omega)), decide_eq_false e, m_X12_chain1_j62, bd_ok (show m_X12_wants G1 (nI (bN false)) 4 = some (0, upd (upd G1 38 4) 15 (G1 33)) from w_no g38 (by decide))]
      dsimp only
      rw [if_pos rfl]
      obtain ⟨x1, x2⟩ := bad_i (F := G1) (c := 4) r2.2.1
      exact ⟨_, _, _, _, _, rfl, rfl, Or.inr (Or.inl ⟨4, k1.2.1, by decide, by decide, rfl, (CT_7 z3 g2).2.2, x1⟩), frm_i (frH_tr x2 (frH_G r3))⟩
  · obtain ⟨G2, w1, w2, w3⟩ := y2 c
    have le := jn_le (t := t) (k := k1) (lo := 0) (hi := 3)
    rw [w1, if_neg (jn9 c)]
    exact ⟨_, _, _, _, _, rfl, rfl, Or.inr (Or.inl ⟨_, _, by omega, by omega, rfl, (CT_7 z3 g2).2.2, w2⟩), frm_i (frH_tr w3 (frH_G r3))⟩
