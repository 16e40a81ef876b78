/-! ===== the clause `without` ===== -/
theorem or_tb {o s : Nat} (hs : s < 10) : ∀ j, j < 10 → (o ||| 1 <<< s).testBit j = (o.testBit j || decide (s = j)) := by
  intro j hj
  rw [Nat.testBit_or, tb_set s hs j hj]
theorem cP_or {o s : Nat} (hs : s < 7) (h : o.testBit s = false) : cP (fun j => (o ||| 1 <<< s).testBit j) 7 = cP (fun j => o.testBit j) 7 + 1 := by
  have e : cP (fun j => (o ||| 1 <<< s).testBit j) 7 = cP (fun j => o.testBit j || decide (s = j)) 7 := cP_congr 7 (fun j hj => or_tb (by omega) j (by omega))
  rw [e, cP_flip (P := fun j => o.testBit j) (Q := fun j => o.testBit j || decide (s = j)) (a := s) h (by show (o.testBit s || decide (s = s)) = true; rw [decide_eq_true rfl, Bool.or_true]) (fun j hj => by show (o.testBit j || decide (s = j)) = o.testBit j; rw [decide_eq_false (fun e => hj e.symm), Bool.or_false]) 7, if_pos hs]
/-- the number of the site that a token names, or 7 -/
def stN (t : Nat → Nat) (k : TK) : Nat := if k.1 = 1 ∧ k.2.2 = k.2.1 + 1 ∧ t k.2.1 ≤ 103 then t k.2.1 - 97 else 7
theorem nI_lt7 {x : Nat} (hx : x < 2 ^ 31) : nI x < (7 : Int32) ↔ x < 7 := by
  by_cases c : x < 7
  · exact ⟨fun _ => c, fun _ => nI_lt (b := 7) c (by decide)⟩
  · exact ⟨fun e => absurd e (nI_nlt (b := 7) (by omega) hx), fun e => absurd e c⟩
theorem c_site {t : Nat → Nat} {N i o : Nat} {k : TK} {a F T : Nat → Int32} {K : Int32 → (Nat → Int32) → (Nat → Int32) → Option (Int32 × (Nat → Int32) × (Nat → Int32))} (hX : TX t N a) (hk : okT t N k) (hC : CT F k) (ho : T 10 = nI o) (h7 : o < 128) :
    m_X6_readWithout_j27 a 700 K (nI i) F T = if stN t k < 7 then (if o.testBit (stN t k) = false then K (nI (i + 1)) F (upd T 10 (nI (o ||| 1 <<< stN t k))) else some (4, F, T)) else some (1, F, T) := by
  have j65 : ∀ s, s < 7 → m_X6_readWithout_j65 a 700 K (nI i) (nI s) F T = if o.testBit s = false then K (nI (i + 1)) F (upd T 10 (nI (o ||| 1 <<< s))) else some (4, F, T) := by
    intro s hs
    have ei : (((T 10) >>> (nI s &&& 31)) &&& 1) = nI ((o >>> s) &&& 1) := by rw [ho, shrG (by omega) (by omega)]
    rw [m_X6_readWithout_j65, if_pos ((nI_lt7 (by omega)).mpr hs)]
    cases e : o.testBit s with
    | false =>
      rw [if_pos (show (((T 10) >>> (nI s &&& 31)) &&& 1) = 0 by rw [ei, tb_shr, e]; rfl), if_pos rfl, ho, orG (by omega), nm, nm]
      show K (nI i + nI 1) F _ = _
      rw [nI_add]
    | true => rw [if_neg (show ¬ (((T 10) >>> (nI s &&& 31)) &&& 1) = 0 by rw [ei, tb_shr, e]; decide), if_neg (by decide)]
  have j7 : ∀ s, 7 ≤ s → s < 1000 → m_X6_readWithout_j65 a 700 K (nI i) (nI s) F T = some (1, F, T) := by
    intro s hs hs2
    rw [m_X6_readWithout_j65, if_neg (fun e => absurd ((nI_lt7 (by omega)).mp e) (by omega))]
  have j63 : m_X6_readWithout_j63 a 700 K (nI i) F T = some (1, F, T) := j7 7 (by decide) (by decide)
  obtain ⟨x1, x2, x3⟩ := id hX
  have h22 := hk.2.1
  rw [m_X6_readWithout_j27, hC.2.1]
  by_cases c : k.1 = 1
  · have kl : k.2.1 < k.2.2 ∧ k.1 = kd (t k.2.1) := hk.2.2.2.1.resolve_left (by omega)
    have kr := kd_1.mp (show kd (t k.2.1) = 1 by omega)
    rw [if_pos (show nI k.1 = 1 by rw [c]; rfl), hC.1, hC.2.2, nI_subE (by omega)]
    by_cases d : k.2.2 - k.2.1 = 1
    · rw [if_pos (show nI (k.2.2 - k.2.1) = 1 by rw [d]; rfl), rd_nI (by omega) (by decide), x2 _ (by omega), show (nI (t k.2.1) - 97 : Int32) = nI (t k.2.1 - 97) from nI_subE (b := 97) (by omega)]
      by_cases e : t k.2.1 ≤ 103
      · rw [show stN t k = t k.2.1 - 97 from if_pos ⟨c, by omega, e⟩, j65 _ (by omega), if_pos (show t k.2.1 - 97 < 7 by omega)]
      · rw [show stN t k = 7 from if_neg (fun h => e h.2.2), j7 _ (by omega) (by omega), if_neg (by decide)]
    · rw [if_neg (show ¬ nI (k.2.2 - k.2.1) = (1 : Int32) from fun e => d (nI_inj (b := 1) (by omega) (by decide) e)), j63, show stN t k = 7 from if_neg (fun h => d (by omega)), if_neg (by decide)]
  · have := hk.2.2.1
    rw [if_neg (show ¬ nI k.1 = (1 : Int32) from fun e => c (nI_inj (b := 1) (by omega) (by decide) e)), j63, show stN t k = 7 from if_neg (fun h => c h.1), if_neg (by decide)]
theorem r_site {t : Nat → Nat} {N o fuel : Nat} {k : TK} {tp F : Nat → Int32} (hY : TX t N tp) (hk : okT t N k) (hR : RT F t k) (h34 : F 34 = nI N) (h38 : F 38 = 0) (ho : F 41 = nI o) (h7 : o < 128) :
    (stN t k < 7 ∧ o.testBit (stN t k) = false → ∃ F', m_X12_without1_w6 tp (fuel + 1) 1 F = m_X12_without1_w6 tp fuel (if (tkA t N k.2.2).1 = 1 then 1 else 0) F' ∧ RT F' t (tkA t N k.2.2) ∧ F' 38 = 0 ∧ F' 41 = nI (o ||| 1 <<< stN t k) ∧ ∀ j, ¬ j = 41 → ¬ (j = 32 ∨ j = 33 ∨ j = 35 ∨ j = 36 ∨ j = 37) → F' j = F j)
    ∧ (stN t k < 7 ∧ o.testBit (stN t k) = true → ∃ F', m_X12_without1_w6 tp (fuel + 1) 1 F = some F' ∧ BAD F' 4 k.2.1 ∧ frH F' F)
    ∧ (¬ stN t k < 7 → ∃ F', m_X12_without1_w6 tp (fuel + 1) 1 F = some F' ∧ BAD F' 1 k.2.1 ∧ frH F' F) := by
  have no : (m_X12_without1_w6 tp (fuel + 1) 1 F = m_X12_without1_j39 tp (m_X12_without1_w6 tp fuel) F) → ∃ F', m_X12_without1_w6 tp (fuel + 1) 1 F = some F' ∧ BAD F' 1 k.2.1 ∧ frH F' F := by
    intro e
    obtain ⟨x1, x2⟩ := bad_i (F := F) (c := 1) hR.2.1
    refine ⟨_, ?_, x1, x2⟩
    rw [e, m_X12_without1_j39, m_X12_without1_j40, bd_ok (w_no h38 (by decide))]
    exact if_pos rfl
  have hs2 := srA_2 hk
  have s35 : F 35 = 1 ↔ k.1 = 1 := by rw [hR.2.2.1]; exact hs2.2.1
  by_cases c : k.1 = 1
  · obtain ⟨s1, s2⟩ := site_is hk c
    by_cases d : k.2.2 = k.2.1 + 1 ∧ t k.2.1 ≤ 103
    · obtain ⟨ge, ew⟩ := s1 d
      have es : stN t k = t k.2.1 - 97 := if_pos ⟨c, d⟩
      have lt7 : stN t k < 7 := by rw [es]; omega
      have e37 : F 37 = nI (12 + stN t k) := by rw [hR.2.2.2.2, ew, es]; rfl
      have e37' : F 37 - 12 = nI (stN t k) := by rw [e37]; show nI (12 + stN t k) - nI 12 = _; rw [nI_subE (by omega)]; congr 1; omega
      have ei : (((F 41) >>> (((F 37) - 12) &&& 31)) &&& 1) = nI ((o >>> stN t k) &&& 1) := by rw [ho, e37', shrG (by omega) (by omega)]
      have e0 : m_X12_without1_w6 tp (fuel + 1) 1 F = if (((F 41) >>> (((F 37) - 12) &&& 31)) &&& 1) = 0 then m_X12_without1_j70 tp (m_X12_without1_w6 tp fuel) 1 F else m_X12_without1_j70 tp (m_X12_without1_w6 tp fuel) 0 F := by
        rw [m_X12_without1_w6, if_neg (by decide), if_pos h38, if_pos (s35.mpr c), if_neg (show ¬ F 37 < 12 by rw [e37]; exact nI_nlt (b := 12) (by omega) (by omega)), m_X12_without1_j40, bd_ok (w_ok h38)]
        exact if_neg (show ¬ (1 : Int32) = 0 by decide)
      refine ⟨fun h => ?_, fun h => ?_, fun h => absurd lt7 h⟩
      · have hF : ∀ j, ¬ j = 41 → upd F 41 (nI (o ||| 1 <<< stN t k)) j = F j := fun j hj => upd_ne hj
        obtain ⟨G, r1, r2, r3⟩ := r_go (F := upd F 41 (nI (o ||| 1 <<< stN t k))) hY hk.2.1 ((hF 34 (by decide)).trans h34) ((hF 32 (by decide)).trans hR.1)
        refine ⟨G, ?_, r2, (r3 38 (by decide)).trans ((hF 38 (by decide)).trans h38), (r3 41 (by decide)).trans upd_eq, fun j a b => (r3 j b).trans (hF j a)⟩
        rw [e0, if_pos (show (((F 41) >>> (((F 37) - 12) &&& 31)) &&& 1) = 0 by rw [ei, tb_shr, h.2]; rfl), m_X12_without1_j70, bd_ok (w_ok h38)]
        dsimp only
        rw [if_neg (show ¬ (1 : Int32) = 0 by decide), ho, e37', orG (by omega), nm, bd_ok r1]
        have ok := (tk_ok (t := t) (N := N) hk.2.1).1
        have x35 : G 35 = 1 ↔ (tkA t N k.2.2).1 = 1 := by rw [r2.2.2.1]; exact (srA_2 ok).2.1
        by_cases x : (tkA t N k.2.2).1 = 1
        · rw [if_pos (x35.mpr x), if_pos x, m_X12_without1_j113]
        · rw [if_neg (fun y => x (x35.mp y)), if_neg x, m_X12_without1_j113]
      · obtain ⟨x1, x2⟩ := bad_i (F := F) (c := 4) hR.2.1
        refine ⟨_, ?_, x1, x2⟩
        rw [e0, if_neg (show ¬ (((F 41) >>> (((F 37) - 12) &&& 31)) &&& 1) = 0 by rw [ei, tb_shr, h.2]; decide), m_X12_without1_j70, bd_ok (w_no h38 (by decide))]
        exact if_pos rfl
    · have es : ¬ stN t k < 7 := by rw [show stN t k = 7 from if_neg (fun h => d h.2)]; decide
      have e37 : F 37 < 12 := by
        rw [hR.2.2.2.2]
        cases e : wdA t k with
        | none => decide
        | some x => exact nI_lt (b := 12) (s2 d x e) (by decide)
      exact ⟨fun h => absurd h.1 es, fun h => absurd h.1 es, fun _ => no (by rw [m_X12_without1_w6, if_neg (by decide), if_pos h38, if_pos (s35.mpr c), if_pos e37])⟩
  · have es : ¬ stN t k < 7 := by rw [show stN t k = 7 from if_neg (fun h => c h.1)]; decide
    exact ⟨fun h => absurd h.1 es, fun h => absurd h.1 es, fun _ => no (by rw [m_X12_without1_w6, if_neg (by decide), if_pos h38, if_neg (fun e => c (s35.mp e))])⟩
theorem wo_loop {t : Nat → Nat} {N : Nat} {k : TK} {a tp wa md mem wt T0 Fr0 : Nat → Int32} (hX : TX t N a) (hY : TX t N tp) :
    ∀ (d i fuel1 fuel2 : Nat) (kk : TK) (q : QS) (Fc T Fr : Nat → Int32), i + d = 8 → d < fuel1 → d < fuel2 → i ≤ cP (fun j => q.2.1.testBit j) 7 → okT t N kk → ¬ kk.1 = 0 → k.2.1 ≤ kk.2.1 → CT Fc kk → RT Fr t (tkA t N kk.2.2) → Fr 38 = 0 → okQ q → CP N Fc T wa md q → RP N Fr mem wt q → FRM T T0 Fr Fr0 →
      ∃ code Fc' T' Fr', m_X6_readWithout_w2 a 700 fuel1 (nI i) Fc T = some (code, Fc', T') ∧ m_X12_without1_w6 tp fuel2 (if i = 0 ∨ (tkA t N kk.2.2).1 = 1 then 1 else 0) Fr = some Fr' ∧ REL t N k code Fc' T' wa md Fr' mem wt ∧ FRM T' T0 Fr' Fr0 := by
  intro d
  induction d with
  | zero =>
    intro i fuel1 fuel2 kk q Fc T Fr hi _ _ hcp
    have := cP_le (P := fun j => q.2.1.testBit j) 7
    omega
  | succ d ih =>
    intro i fuel1 fuel2 kk q Fc T Fr hi hf1 hf2 hcp hk h0 hle hC hR h38 hq hc hr hF
    obtain ⟨fuel1, rfl⟩ : ∃ e, fuel1 = e + 1 := ⟨fuel1 - 1, by omega⟩
    obtain ⟨fuel2, rfl⟩ : ∃ e, fuel2 = e + 1 := ⟨fuel2 - 1, by omega⟩
    obtain ⟨F1, g1, g2, g3⟩ := c_goOn6 hX hk.2.1 hc.1 hC.1
    obtain ⟨ok, ge⟩ := tk_ok (t := t) (N := N) hk.2.1
    have lt : kk.2.1 < kk.2.2 := (hk.2.2.2.1.resolve_left h0).1
    generalize hk2 : tkA t N kk.2.2 = k2 at *
    obtain ⟨f, o, m, td, dt, ch, W⟩ := q
    have h7 : o < 128 := hq.2.2.1
    have hs : m_X6_isSign F1 a 700 59 = some (nI (bN (sgB t k2 59))) := c_isSign (b := 59) hX ok g2 (by decide)
    have hw : m_X6_readWithout_w2 a 700 (fuel1 + 1) (nI i) Fc T = if 0 < i ∧ sgB t k2 59 = true then some (0, F1, T) else m_X6_readWithout_j27 a 700 (m_X6_readWithout_w2 a 700 fuel1) (nI i) F1 T := by
      rw [m_X6_readWithout_w2, if_neg (show ¬ (7 : Int32) < nI i from nI_nlt (a := 7) (by omega) (by decide)), bd_ok g1]
      by_cases c : 0 < i
      · rw [if_neg (show ¬ nI i ≤ (0 : Int32) from nI_ge (a := 0) c (by omega)), bd_ok hs]
        cases e : sgB t k2 59 with
        | true => rw [if_neg (by decide), if_pos ⟨c, rfl⟩]
        | false => rw [if_pos (by decide), if_neg (fun h => by cases h.2)]
      · rw [if_pos (show nI i ≤ (0 : Int32) from nI_le (b := 0) (by omega) (by decide)), if_neg (fun h => c h.1)]
    rw [hw]
    have hc1 : CP N F1 T wa md (f, o, m, td, dt, ch, W) := CP_fr (frD_C g3) hc
    by_cases cs : 0 < i ∧ sgB t k2 59 = true
    · have k3 : k2.1 = 3 := by
        have := cs.2
        rw [sgB, Bool.and_eq_true, decide_eq_true_iff] at this
        exact this.1
      rw [if_pos cs, if_neg (show ¬ (i = 0 ∨ k2.1 = 1) by omega), m_X12_without1_w6, if_pos rfl]
      exact ⟨0, F1, T, Fr, rfl, rfl, Or.inl ⟨_, k2, hq, hc1, hr, ok, g2, hR, h38, by omega, rfl, cs.2⟩, hF⟩
    · rw [if_neg cs, c_site (o := o) hX ok g2 hc.2.2.2.2.2.1 h7]
      obtain ⟨y1, y2, y3⟩ := r_site (fuel := fuel2) hY ok hR hr.1 h38 hr.2.1 h7
      by_cases c : stN t k2 < 7
      · have c1 : k2.1 = 1 := by
          by_cases x : k2.1 = 1
          · exact x
          · rw [show stN t k2 = 7 from if_neg (fun h => x h.1)] at c; omega
        rw [if_pos c, if_pos (show i = 0 ∨ k2.1 = 1 from Or.inr c1)]
        cases e : o.testBit (stN t k2) with
        | false =>
          obtain ⟨G, w1, w2, w3, w4, w5⟩ := y1 ⟨c, e⟩
          rw [if_pos rfl, w1]
          have hq' : okQ (f, o ||| 1 <<< stN t k2, m, td, dt, ch, W) := by
            obtain ⟨q1, q2, q3, q4⟩ := hq
            have lt7 : 1 <<< stN t k2 < 2 ^ 7 := by
              have : ∀ s, s < 7 → 1 <<< s < 2 ^ 7 := by decide
              exact this _ c
            exact ⟨q1, q2, or_lt (n := 7) h7 lt7, q4⟩
          have hc' : CP N F1 (upd T 10 (nI (o ||| 1 <<< stN t k2))) wa md (f, o ||| 1 <<< stN t k2, m, td, dt, ch, W) := by
            obtain ⟨c1, c2, c3, c4, c5, c6, c7, c8⟩ := hc1
            exact ⟨c1, c2, c3, c4, (upd_ne (by decide)).trans c5, upd_eq, ⟨(upd_ne (by decide)).trans c7.1, c7.2⟩, c8⟩
          have hr' : RP N G mem wt (f, o ||| 1 <<< stN t k2, m, td, dt, ch, W) := by
            obtain ⟨c1, c2, c3, c4, c5, c6, c7, c8⟩ := hr
            exact ⟨(w5 34 (by decide) (by decide)).trans c1, w4, (w5 42 (by decide) (by decide)).trans c3, (w5 43 (by decide) (by decide)).trans c4, (w5 44 (by decide) (by decide)).trans c5, (w5 45 (by decide) (by decide)).trans c6, (w5 46 (by decide) (by decide)).trans c7, c8⟩
          have hF' : FRM (upd T 10 (nI (o ||| 1 <<< stN t k2))) T0 G Fr0 := ⟨fun j hj => (upd_ne (by omega)).trans (hF.1 j hj), fun j a b => (w5 j (by omega) (by omega)).trans (hF.2 j a b)⟩
          have hcp' : i + 1 ≤ cP (fun j => (o ||| 1 <<< stN t k2).testBit j) 7 := by
            rw [cP_or c e]
            have : i ≤ cP (fun j => o.testBit j) 7 := hcp
            omega
          have := ih (i + 1) fuel1 fuel2 k2 (f, o ||| 1 <<< stN t k2, m, td, dt, ch, W) F1 (upd T 10 (nI (o ||| 1 <<< stN t k2))) G (by omega) (by omega) (by omega) hcp' ok (by omega) (by omega) g2 w2 w3 hq' hc' hr' hF'
          by_cases x : (tkA t N k2.2.2).1 = 1
          · rw [if_pos x]; rw [if_pos (Or.inr x)] at this; exact this
          · rw [if_neg x]; rw [if_neg (show ¬ (i + 1 = 0 ∨ (tkA t N k2.2.2).1 = 1) by omega)] at this; exact this
        | true =>
          obtain ⟨G, w1, w2, w3⟩ := y2 ⟨c, e⟩
          rw [if_neg (by decide), w1]
          exact ⟨4, F1, T, G, rfl, rfl, Or.inr (Or.inl ⟨4, k2.2.1, by decide, by decide, rfl, g2.2.2, w2⟩), hF.1, fun j a b => (w3 j (by omega)).trans (hF.2 j a b)⟩
      · rw [if_neg c]
        by_cases e : i = 0 ∨ k2.1 = 1
        · obtain ⟨G, w1, w2, w3⟩ := y3 c
          rw [if_pos e, w1]
          exact ⟨1, F1, T, G, rfl, rfl, Or.inr (Or.inl ⟨1, k2.2.1, by decide, by decide, rfl, g2.2.2, w2⟩), hF.1, fun j a b => (w3 j (by omega)).trans (hF.2 j a b)⟩
        · have s0 : sgB t k2 59 = false := by
            cases x : sgB t k2 59 with
            | true => exact absurd ⟨by omega, x⟩ cs
            | false => rfl
          rw [if_neg e, m_X12_without1_w6, if_pos rfl]
          exact ⟨1, F1, T, Fr, rfl, rfl, Or.inr (Or.inr ⟨k2, ok, g2.2.2, hR, h38, rfl, s0⟩), hF⟩
theorem cl_without {t : Nat → Nat} {N : Nat} {k : TK} {q : QS} {a tp Fc T wa md Fr mem wt : Nat → Int32} (h : CL t N k q a tp Fc T wa md Fr mem wt) :
    ∃ code Fc' T' Fr', m_X6_readWithout Fc T a 700 = some (code, Fc', T') ∧ m_X12_clause1_j16 tp (nI 2) Fr mem wt = some (Fr', mem, wt) ∧ REL t N k code Fc' T' wa md Fr' mem wt ∧ FRM T' T Fr' Fr := by
  obtain ⟨hX, hY, hk, hC, hR, h38, hq, hc, hr, h0⟩ := h
  have j16 : m_X12_clause1_j16 tp (nI 2) Fr mem wt = bd (m_X12_without1 Fr tp) fun u5 => some (u5, mem, wt) := by
    rw [m_X12_clause1_j16, if_neg (by decide), if_neg (by decide), if_pos (by decide)]
  obtain ⟨G1, r1, r2, r3⟩ := r_go hY hk.2.1 hr.1 hR.1
  have g38 : G1 38 = 0 := (r3 38 (by decide)).trans h38
  obtain ⟨code, Fc', T', Fr', i1, i2, i3, i4⟩ := wo_loop (k := k) (mem := mem) (wt := wt) (wa := wa) (md := md) (T0 := T) (Fr0 := Fr) hX hY 8 0 fuelN fuelN k q Fc T G1 rfl (by rw [fuel_is]; decide) (by rw [fuel_is]; decide) (Nat.zero_le _) hk h0 (Nat.le_refl _) hC r2 g38 hq hc (RP_fr (frH_G r3) hr) (frm_i (frH_G r3))
  rw [if_pos (Or.inl rfl)] at i2
  refine ⟨code, Fc', T', Fr', i1, ?_, i3, i4⟩
  rw [j16, m_X12_without1, bd_ok r1, bd_ok i2]
