/-! ===== a clause, a text ===== -/
theorem hp_fidx {t : Nat → Nat} {s e : Nat} : ∀ (Ws : List (List Nat)) (k w : Nat), w < Ws.length → mtA t s e (Ws.getD w []) = true → (∀ v, v < w → mtA t s e (Ws.getD v []) = false) → fidx t s e k Ws = some (k + w) := by
  intro Ws
  induction Ws with
  | nil => intro k w h; exact absurd h (Nat.not_lt_zero _)
  | cons V Vs ih =>
    intro k w hw hm hv
    cases w with
    | zero =>
      have hm : mtA t s e V = true := hm
      rw [fidx, if_pos hm, Nat.add_zero]
    | succ w =>
      have h0 : mtA t s e V = false := hv 0 (Nat.succ_pos _)
      rw [fidx, if_neg (by rw [h0]; decide), ih (k + 1) w (Nat.lt_of_succ_lt_succ hw) hm (fun v hv' => hv (v + 1) (Nat.succ_lt_succ hv'))]
      congr 1
      omega
theorem hp_fidxN {t : Nat → Nat} {s e : Nat} : ∀ (n : Nat) (Ws : List (List Nat)) (k x : Nat), (∀ v, v < n → mtA t s e (Ws.getD v []) = false) → fidx t s e k Ws = some x → k + n ≤ x := by
  intro n
  induction n with
  | zero => intro Ws k x _ h; exact (fidx_ge Ws k x h).1
  | succ n ih =>
    intro Ws k x hv h
    cases Ws with
    | nil => rw [fidx] at h; cases h
    | cons V Vs =>
      have h0 : mtA t s e V = false := hv 0 (Nat.succ_pos _)
      rw [fidx, if_neg (by rw [h0]; decide)] at h
      have := ih Vs (k + 1) x (fun v hv' => hv (v + 1) (Nat.succ_lt_succ hv')) h
      omega
theorem hp_clause {t : Nat → Nat} {N : Nat} {k : TK} {q : QS} {a tp Fc T wa md Fr mem wt : Nat → Int32} (h : CL t N k q a tp Fc T wa md Fr mem wt) :
    ∃ code Fc' T' wa' md' Fr' mem' wt', m_X6_readClause Fc T wa md a 700 = some (code, Fc', T', wa', md') ∧ m_X12_clause1 Fr tp mem wt = some (Fr', mem', wt') ∧ REL t N k code Fc' T' wa' md' Fr' mem' wt' ∧ FRM T' T Fr' Fr := by
  obtain ⟨hX, hY, hk, hC, hR, h38, hq, hc, hr, h0⟩ := id h
  have hl : WD.length = 19 := rfl
  have hL : ∀ w, w < 7 → m_X6_isLetters Fc a 700 w = some (nI (bN (isW t k w))) := fun w hw => c_isLetters hX hk hC (by omega)
  have s35 : Fr 35 = 1 ↔ k.1 = 1 := by rw [hR.2.2.1]; exact (srA_2 hk).2.1
  have rc : m_X12_clause1 Fr tp mem wt = m_X12_clause1_j16 tp (encL (wdA t k)) Fr mem wt := by
    rw [m_X12_clause1]
    by_cases c : k.1 = 1
    · rw [if_pos (s35.mpr c), hR.2.2.2.2]
    · rw [if_neg (fun y => c (s35.mp y)), show wdA t k = none from if_neg c]
      rfl
  have hwd : ∀ w, w < 7 → isW t k w = true → (∀ v, v < w → isW t k v = false) → wdA t k = some w := by
    intro w hw h1 h2
    rw [isW, Bool.and_eq_true, decide_eq_true_iff] at h1
    unfold wdA
    rw [if_pos h1.1, hp_fidx WD 0 w (by omega) h1.2 (fun v hv => by
      have h3 := h2 v hv
      rw [isW, decide_eq_true h1.1, Bool.true_and] at h3
      exact h3), Nat.zero_add]
  have rj : ∀ w, w < 7 → wdA t k = some w → m_X12_clause1 Fr tp mem wt = m_X12_clause1_j16 tp (nI w) Fr mem wt := by
    intro w _ e
    rw [rc, e]
    rfl
  have fF : ¬ nI (bN true) = 0 := by decide
  have fT : nI (bN false) = 0 := rfl
  cases e0 : isW t k 0 with
  | true =>
    have hw : wdA t k = some 0 := hwd 0 (by decide) e0 (fun v hv => absurd hv (Nat.not_lt_zero v))
    obtain ⟨code, Fc', T', Fr', i1, i2, i3, i4⟩ := cl_mode (w := 0) h (by decide) hw
    have i1 : m_X6_readMode Fc T a 700 0 = some (code, Fc', T') := i1
    refine ⟨code, Fc', T', wa, md, Fr', mem, wt, ?_, (rj 0 (by decide) hw).trans i2, i3, i4⟩
    rw [m_X6_readClause, bd_ok (hL 0 (by decide)), e0, if_neg fF, bd_ok i1]
  | false =>
    cases e1 : isW t k 1 with
    | true =>
      have hw : wdA t k = some 1 := hwd 1 (by decide) e1 (fun v hv => by rw [show v = 0 by omega]; exact e0)
      obtain ⟨code, Fc', T', Fr', i1, i2, i3, i4⟩ := cl_mode (w := 1) h (by decide) hw
      have i1 : m_X6_readMode Fc T a 700 1 = some (code, Fc', T') := i1
      refine ⟨code, Fc', T', wa, md, Fr', mem, wt, ?_, (rj 1 (by decide) hw).trans i2, i3, i4⟩
      rw [m_X6_readClause, bd_ok (hL 0 (by decide)), e0, if_pos fT, bd_ok (hL 1 (by decide)), e1, if_neg fF, bd_ok i1]
    | false =>
      cases e2 : isW t k 2 with
      | true =>
        have hw : wdA t k = some 2 := hwd 2 (by decide) e2 (fun v hv => by rcases (show v = 0 ∨ v = 1 by omega) with rfl | rfl <;> assumption)
        obtain ⟨code, Fc', T', Fr', i1, i2, i3, i4⟩ := cl_without h
        refine ⟨code, Fc', T', wa, md, Fr', mem, wt, ?_, (rj 2 (by decide) hw).trans i2, i3, i4⟩
        rw [m_X6_readClause, bd_ok (hL 0 (by decide)), e0, if_pos fT, bd_ok (hL 1 (by decide)), e1, if_pos fT, bd_ok (hL 2 (by decide)), e2, if_neg fF, bd_ok i1]
      | false =>
        cases e3 : isW t k 3 with
        | true =>
          have hw : wdA t k = some 3 := hwd 3 (by decide) e3 (fun v hv => by rcases (show v = 0 ∨ v = 1 ∨ v = 2 by omega) with rfl | rfl | rfl <;> assumption)
          obtain ⟨code, Fc', md', Fr', mem', i1, i2, i3, i4⟩ := cl_chain h
          refine ⟨code, Fc', T, wa, md', Fr', mem', wt, ?_, (rj 3 (by decide) hw).trans i2, i3, i4⟩
          rw [m_X6_readClause, bd_ok (hL 0 (by decide)), e0, if_pos fT, bd_ok (hL 1 (by decide)), e1, if_pos fT, bd_ok (hL 2 (by decide)), e2, if_pos fT, bd_ok (hL 3 (by decide)), e3, if_neg fF, bd_ok i1]
        | false =>
          cases e4 : isW t k 4 with
          | true =>
            have hw : wdA t k = some 4 := hwd 4 (by decide) e4 (fun v hv => by rcases (show v = 0 ∨ v = 1 ∨ v = 2 ∨ v = 3 by omega) with rfl | rfl | rfl | rfl <;> assumption)
            obtain ⟨code, Fc', md', Fr', mem', i1, i2, i3, i4⟩ := cl_leak h
            refine ⟨code, Fc', T, wa, md', Fr', mem', wt, ?_, (rj 4 (by decide) hw).trans i2, i3, i4⟩
            rw [m_X6_readClause, bd_ok (hL 0 (by decide)), e0, if_pos fT, bd_ok (hL 1 (by decide)), e1, if_pos fT, bd_ok (hL 2 (by decide)), e2, if_pos fT, bd_ok (hL 3 (by decide)), e3, if_pos fT, bd_ok (hL 4 (by decide)), e4, if_neg fF, bd_ok i1]
          | false =>
            cases e5 : isW t k 5 with
            | true =>
              have hw : wdA t k = some 5 := hwd 5 (by decide) e5 (fun v hv => by rcases (show v = 0 ∨ v = 1 ∨ v = 2 ∨ v = 3 ∨ v = 4 by omega) with rfl | rfl | rfl | rfl | rfl <;> assumption)
              obtain ⟨code, Fc', md', Fr', mem', i1, i2, i3, i4⟩ := cl_data h
              refine ⟨code, Fc', T, wa, md', Fr', mem', wt, ?_, (rj 5 (by decide) hw).trans i2, i3, i4⟩
              rw [m_X6_readClause, bd_ok (hL 0 (by decide)), e0, if_pos fT, bd_ok (hL 1 (by decide)), e1, if_pos fT, bd_ok (hL 2 (by decide)), e2, if_pos fT, bd_ok (hL 3 (by decide)), e3, if_pos fT, bd_ok (hL 4 (by decide)), e4, if_pos fT, bd_ok (hL 5 (by decide)), e5, if_neg fF, bd_ok i1]
            | false =>
              cases e6 : isW t k 6 with
              | true =>
                have hw : wdA t k = some 6 := hwd 6 (by decide) e6 (fun v hv => by rcases (show v = 0 ∨ v = 1 ∨ v = 2 ∨ v = 3 ∨ v = 4 ∨ v = 5 by omega) with rfl | rfl | rfl | rfl | rfl | rfl <;> assumption)
                obtain ⟨code, Fc', T', wa', Fr', wt', i1, i2, i3, i4⟩ := cl_do h
                refine ⟨code, Fc', T', wa', md, Fr', mem, wt', ?_, (rj 6 (by decide) hw).trans i2, i3, i4⟩
                rw [m_X6_readClause, bd_ok (hL 0 (by decide)), e0, if_pos fT, bd_ok (hL 1 (by decide)), e1, if_pos fT, bd_ok (hL 2 (by decide)), e2, if_pos fT, bd_ok (hL 3 (by decide)), e3, if_pos fT, bd_ok (hL 4 (by decide)), e4, if_pos fT, bd_ok (hL 5 (by decide)), e5, if_pos fT, bd_ok (hL 6 (by decide)), e6, if_neg fF, bd_ok i1]
              | false =>
                have hne : ∀ c : Nat, c < 7 → ¬ encL (wdA t k) = nI c := by
                  intro c hc7 e
                  cases ew : wdA t k with
                  | none => rw [ew] at e; exact nI_m1 (j := c) (by omega) e.symm
                  | some x =>
                    rw [ew] at e
                    have hx := hp_wdLt ew
                    have e : x = c := nI_inj (by omega) (by omega) e
                    unfold wdA at ew
                    by_cases k1 : k.1 = 1
                    · rw [if_pos k1] at ew
                      have h7 := hp_fidxN 7 WD 0 x (fun v hv => by
                        have h3 : isW t k v = false := by rcases (show v = 0 ∨ v = 1 ∨ v = 2 ∨ v = 3 ∨ v = 4 ∨ v = 5 ∨ v = 6 by omega) with rfl | rfl | rfl | rfl | rfl | rfl | rfl <;> assumption
                        rw [isW, decide_eq_true k1, Bool.true_and] at h3
                        exact h3) ew
                      omega
                    · rw [if_neg k1] at ew; cases ew
                obtain ⟨x1, x2⟩ := bad_i (F := Fr) (c := 1) hR.2.1
                refine ⟨1, Fc, T, wa, md, _, mem, wt, ?_, ?_, Or.inr (Or.inl ⟨1, k.2.1, by decide, by decide, rfl, hC.2.2, x1⟩), frm_i x2⟩
                · rw [m_X6_readClause, bd_ok (hL 0 (by decide)), e0, if_pos fT, bd_ok (hL 1 (by decide)), e1, if_pos fT, bd_ok (hL 2 (by decide)), e2, if_pos fT, bd_ok (hL 3 (by decide)), e3, if_pos fT, bd_ok (hL 4 (by decide)), e4, if_pos fT, bd_ok (hL 5 (by decide)), e5, if_pos fT, bd_ok (hL 6 (by decide)), e6, if_pos fT]
                · rw [rc, m_X12_clause1_j16, if_neg (show ¬ encL (wdA t k) = 0 from hne 0 (by decide)), if_neg (show ¬ encL (wdA t k) = 1 from hne 1 (by decide)), if_neg (show ¬ encL (wdA t k) = 2 from hne 2 (by decide)), if_neg (show ¬ encL (wdA t k) = 3 from hne 3 (by decide)), if_neg (show ¬ encL (wdA t k) = 4 from hne 4 (by decide)), if_neg (show ¬ encL (wdA t k) = 5 from hne 5 (by decide)), if_neg (show ¬ encL (wdA t k) = 6 from hne 6 (by decide)), bd_ok (w_no h38 (show ¬ (1 : Int32) = 0 by decide))]
                  rfl
theorem frm_tr {T1 T2 T3 F1 F2 F3 : Nat → Int32} (h1 : FRM T1 T2 F1 F2) (h2 : FRM T2 T3 F2 F3) : FRM T1 T3 F1 F3 := ⟨fun j a => (h1.1 j a).trans (h2.1 j a), fun j a b => (h1.2 j a b).trans (h2.2 j a b)⟩
theorem text_loop {t : Nat → Nat} {N : Nat} {a tp be af rows rf : Nat → Int32} {p1 p2 : Int32} {K1 : (Nat → Int32) → (Nat → Int32) → (Nat → Int32) → (Nat → Int32) → (Nat → Int32) → (Nat → Int32) → Option (Int32 × (Nat → Int32) × (Nat → Int32) × (Nat → Int32) × (Nat → Int32) × (Nat → Int32) × (Nat → Int32))} {K2 : (Nat → Int32) → (Nat → Int32) → (Nat → Int32) → (Nat → Int32) → (Nat → Int32) → Option (Int32 × (Nat → Int32) × (Nat → Int32) × (Nat → Int32) × (Nat → Int32) × (Nat → Int32))} (hX : TX t N a) (hY : TX t N tp) :
    ∀ (n i fuel1 fuel2 : Nat) (k : TK) (q : QS) (Fc T wa md Fr mem wt : Nat → Int32), N - k.2.1 < n → n < fuel1 → n < fuel2 → i ≤ k.2.1 → okT t N k → CT Fc k → RT Fr t k → Fr 38 = 0 → okQ q → CP N Fc T wa md q → RP N Fr mem wt q →
      (∃ q' Fc' T' wa' md' Fr' mem' wt', m_X6_readText_w30 a 700 p2 K1 fuel1 (nI i) Fc T be af wa md = K1 Fc' T' be af wa' md' ∧ m_X12_heap_w112 tp p1 K2 fuel2 Fr rows rf mem wt = K2 Fr' rows rf mem' wt' ∧ okQ q' ∧ CP N Fc' T' wa' md' q' ∧ RP N Fr' mem' wt' q' ∧ Fr' 38 = 0 ∧ Fr' 15 = Fr 15 ∧ FRM T' T Fr' Fr)
      ∨ (∃ c s Fc' T' wa' md' Fr' mem' wt', 1 ≤ c ∧ c ≤ 4 ∧ m_X6_readText_w30 a 700 p2 K1 fuel1 (nI i) Fc T be af wa md = some (nI c, Fc', T', be, af, wa', md') ∧ m_X12_heap_w112 tp p1 K2 fuel2 Fr rows rf mem wt = K2 Fr' rows rf mem' wt' ∧ Fc' 6 = nI s ∧ BAD Fr' c s ∧ FRM T' T Fr' Fr) := by
  intro n
  induction n with
  | zero => intro i fuel1 fuel2 k q Fc T wa md Fr mem wt h; omega
  | succ n ih =>
    intro i fuel1 fuel2 k q Fc T wa md Fr mem wt hn hf1 hf2 hi hk hC hR h38 hq hc hr
    obtain ⟨fuel1, rfl⟩ : ∃ e, fuel1 = e + 1 := ⟨fuel1 - 1, by omega⟩
    obtain ⟨fuel2, rfl⟩ : ∃ e, fuel2 = e + 1 := ⟨fuel2 - 1, by omega⟩
    have hN : N ≤ 700 := hX.1
    have k1 := hk.1
    have k2 := hk.2.1
    have k3 := hk.2.2.1
    have ni : ¬ Fc 3 < nI i := by rw [hc.1]; exact nI_nlt (by omega) (by omega)
    by_cases c : k.1 = 0
    · refine Or.inl ⟨q, Fc, T, wa, md, Fr, mem, wt, ?_, ?_, hq, hc, hr, h38, rfl, fun _ _ => rfl, fun _ _ _ => rfl⟩
      · rw [m_X6_readText_w30, if_neg ni, if_pos (show Fc 5 = 0 by rw [hC.2.1, c]; rfl)]
      · rw [m_X12_heap_w112, if_pos h38, if_pos (show Fr 35 = 0 by rw [hR.2.2.1]; exact (srA_2 hk).2.2.1.mpr c)]
    · have kl : k.2.1 < k.2.2 := (hk.2.2.2.1.resolve_left c).1
      have h5 : ¬ Fc 5 = 0 := by rw [hC.2.1]; exact nI_ne0 (by omega) (by omega)
      have h35 : ¬ Fr 35 = 0 := by rw [hR.2.2.1]; exact fun e => c ((srA_2 hk).2.2.1.mp e)
      obtain ⟨code, F1, T1, wa1, md1, G1, mem1, wt1, i1, i2, i3, i4⟩ := hp_clause ⟨hX, hY, hk, hC, hR, h38, hq, hc, hr, c⟩
      have cl : m_X6_readText_w30 a 700 p2 K1 (fuel1 + 1) (nI i) Fc T be af wa md = if code = 0 then (bd (m_X6_goOn F1 a 700) fun u7 => nm (nI i + 1) fun v8 => m_X6_readText_w30 a 700 p2 K1 fuel1 v8 u7 T1 be af wa1 md1) else some (code, F1, T1, be, af, wa1, md1) := by
        rw [m_X6_readText_w30, if_neg ni, if_neg h5, bd_ok i1]
      have rl : m_X12_heap_w112 tp p1 K2 (fuel2 + 1) Fr rows rf mem wt = if G1 38 = 0 then (bd (m_X12_isSign G1 59) fun u32 => bd (m_X12_wants G1 u32 1) fun u33 => if u33.1 = 0 then m_X12_heap_w112 tp p1 K2 fuel2 u33.2 rows rf mem1 wt1 else bd (m_X12_go u33.2 tp) fun u34 => m_X12_heap_w112 tp p1 K2 fuel2 u34 rows rf mem1 wt1) else m_X12_heap_w112 tp p1 K2 fuel2 G1 rows rf mem1 wt1 := by
        rw [m_X12_heap_w112, if_pos h38, if_neg h35, bd_ok i2]
      obtain ⟨f2, rfl⟩ : ∃ e, fuel2 = e + 1 := ⟨fuel2 - 1, by omega⟩
      rcases i3 with ⟨q', k', r1, r2, r3, r4, r5, r6, r7, r8, rfl, r10⟩ | ⟨cc, s, c1, c2, rfl, c3, c4⟩ | ⟨k', r1, r2, r3, r4, rfl, r6⟩
      · have g15 : G1 15 = Fr 15 := (ob_clause (G1, mem1, wt1) i2 r7).2
        obtain ⟨F2, y1, y2, y3⟩ := c_goOn6 hX r4.2.1 r2.1 r5.1
        obtain ⟨G2, z1, z2, z3⟩ := r_go hY r4.2.1 r3.1 r6.1
        obtain ⟨ok, ge⟩ := tk_ok (t := t) (N := N) r4.2.1
        have k'1 := r4.1
        have s59 : m_X12_isSign G1 59 = some (nI (bN (sgB t k' 59))) := r_isSign (b := 59) hY.2.2 r4 r6 (Or.inl rfl)
        have FR : FRM T1 T1 G2 G1 := frm_i (frH_G z3)
        have clE : m_X6_readText_w30 a 700 p2 K1 (fuel1 + 1) (nI i) Fc T be af wa md = m_X6_readText_w30 a 700 p2 K1 fuel1 (nI (i + 1)) F2 T1 be af wa1 md1 := by
          rw [cl, if_pos rfl, bd_ok y1, nm, nI_1]
        have rlE : m_X12_heap_w112 tp p1 K2 (f2 + 1 + 1) Fr rows rf mem wt = m_X12_heap_w112 tp p1 K2 (f2 + 1) G2 rows rf mem1 wt1 := by
          rw [rl, if_pos r7, bd_ok s59, r10, show nI (bN true) = 1 from rfl, bd_ok (w_ok r7)]
          dsimp only
          rw [if_neg (show ¬ (1 : Int32) = 0 by decide), bd_ok z1]
        rw [clE, rlE]
        rcases ih (i + 1) fuel1 (f2 + 1) (tkA t N k'.2.2) q' F2 T1 wa1 md1 G2 mem1 wt1 (by omega) (by omega) (by omega) (by omega) ok y2 z2 ((z3 38 (by decide)).trans r7) r1 (CP_fr (frD_C y3) r2) (RP_fr (frH_G z3) r3) with ⟨q2, Fa, Ta, wb, mb, Fb, mc, wc, x1, x2, x3, x4, x5, x6, x7, x8⟩ | ⟨cc, s, Fa, Ta, wb, mb, Fb, mc, wc, x1, x2, x3, x4, x5, x6, x7⟩
        · exact Or.inl ⟨q2, Fa, Ta, wb, mb, Fb, mc, wc, x1, x2, x3, x4, x5, x6, x7.trans ((z3 15 (by decide)).trans g15), frm_tr x8 (frm_tr FR i4)⟩
        · exact Or.inr ⟨cc, s, Fa, Ta, wb, mb, Fb, mc, wc, x1, x2, x3, x4, x5, x6, frm_tr x7 (frm_tr FR i4)⟩
      · have n38 : ¬ G1 38 = 0 := by rw [c4.1]; exact nI_ne0 (by omega) (by omega)
        refine Or.inr ⟨cc, s, F1, T1, wa1, md1, G1, mem1, wt1, c1, c2, ?_, ?_, c3, c4, i4⟩
        · rw [cl, if_neg (nI_ne0 (by omega) (by omega))]
        · rw [rl, if_neg n38, m_X12_heap_w112, if_neg n38]
      · obtain ⟨w1, w2⟩ := bad_i (F := G1) (c := 1) r3.2.1
        have s59 : m_X12_isSign G1 59 = some (nI (bN (sgB t k' 59))) := r_isSign (b := 59) hY.2.2 r1 r3 (Or.inl rfl)
        have n38 : ¬ (upd (upd G1 38 (nI 1)) 15 (G1 33)) 38 = 0 := by rw [w1.1]; decide
        refine Or.inr ⟨1, k'.2.1, F1, T1, wa1, md1, _, mem1, wt1, by decide, by decide, ?_, ?_, r2, w1, frm_tr (frm_i w2) i4⟩
        · rw [cl]
          exact if_neg (show ¬ (1 : Int32) = 0 by decide)
        · rw [rl, if_pos r4, bd_ok s59, r6, show nI (bN false) = 0 from rfl, bd_ok (w_no r4 (show ¬ (1 : Int32) = 0 by decide))]
          dsimp only
          rw [if_pos rfl, m_X12_heap_w112]
          exact if_neg n38
