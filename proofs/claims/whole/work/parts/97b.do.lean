/-! ===== the clause `do` ===== -/
theorem hp_snoc {α : Type} {W : List α} {x y : α} {i : Nat} (h : (W ++ [x])[i]? = some y) : W[i]? = some y ∨ (i = W.length ∧ y = x) := by
  by_cases c : i < W.length
  · rw [List.getElem?_append_left c] at h; exact Or.inl h
  · have hlt := (List.getElem?_eq_some_iff.mp h).1
    rw [List.length_append] at hlt
    have hlt : i < W.length + 1 := hlt
    have e : i = W.length := by omega
    subst e
    rw [List.getElem?_append_right (Nat.le_refl _), Nat.sub_self] at h
    exact Or.inr ⟨rfl, (Option.some.inj (show some x = some y from h)).symm⟩
theorem hp_noOp {t : Nat → Nat} {k : TK} (h : wdA t k = none) : opN t k = none := by
  simp only [opN, h]
theorem hp_opLe {t : Nat → Nat} {k : TK} {op : Nat} (h : opN t k = some op) : op ≤ 4 := by
  unfold opN at h
  cases e : wdA t k with
  | none => rw [e] at h; cases h
  | some x =>
    rw [e] at h
    dsimp only at h
    by_cases c : 7 ≤ x ∧ x ≤ 11
    · rw [if_pos c] at h; cases h; omega
    · rw [if_neg c] at h; cases h
theorem hp_wdLt {t : Nat → Nat} {k : TK} {x : Nat} (h : wdA t k = some x) : x < 19 := by
  unfold wdA at h
  by_cases c : k.1 = 1
  · rw [if_pos c] at h
    have h1 := (fidx_ge WD 0 x h).2
    have hl : WD.length = 19 := rfl
    omega
  · rw [if_neg c] at h; cases h
theorem hp_wop {t : Nat → Nat} {k : TK} : m_X12_within (encL (wdA t k)) 7 11 = some (nI (bN (opN t k).isSome)) := by
  cases e : wdA t k with
  | none =>
    rw [hp_noOp e]
    have h1 : (-1 : Int32) < 7 := by decide
    show m_X12_within (-1) 7 11 = some 0
    rw [m_X12_within, if_pos h1]
  | some x =>
    have hx := hp_wdLt e
    have hw : m_X12_within (encL (some x)) 7 11 = some (nI (if 7 ≤ x ∧ x ≤ 11 then 1 else 0)) := r_within (a := x) (lo := 7) (hi := 11) (by omega) (by decide) (by decide)
    have ho : opN t k = if 7 ≤ x ∧ x ≤ 11 then some (x - 7) else none := by simp only [opN, e]
    rw [hw, ho]
    by_cases c : 7 ≤ x ∧ x ≤ 11
    · rw [if_pos c, if_pos c]; rfl
    · rw [if_neg c, if_neg c]; rfl
theorem r_do1 {t : Nat → Nat} {N fuel : Nat} {kk : TK} {tp F wt : Nat → Int32} {x1 : Int32} (hY : TX t N tp) (hk : okT t N kk) (hR : RT F t kk) (h34 : F 34 = nI N) (h38 : F 38 = 0) :
    ∃ G, RT G t (tkA t N kk.2.2) ∧ frG G F ∧ m_X12_do1_w66 tp (fuel + 1) x1 1 F wt = m_X12_do1_j109 tp (m_X12_do1_w66 tp fuel) x1 (nI (bN (opN t (tkA t N kk.2.2)).isSome)) G wt := by
  obtain ⟨G, r1, r2, r3⟩ := r_go hY hk.2.1 h34 hR.1
  refine ⟨G, r2, r3, ?_⟩
  have ok := (tk_ok (t := t) (N := N) hk.2.1).1
  have s35 : G 35 = 1 ↔ (tkA t N kk.2.2).1 = 1 := by rw [r2.2.2.1]; exact (srA_2 ok).2.1
  rw [m_X12_do1_w66, if_neg (show ¬ (1 : Int32) = 0 by decide), if_pos h38, bd_ok r1]
  by_cases c : (tkA t N kk.2.2).1 = 1
  · rw [if_pos (s35.mpr c), r2.2.2.2.2, bd_ok hp_wop]
    cases e : (opN t (tkA t N kk.2.2)).isSome with
    | false => rw [if_pos (show nI (bN false) = 0 from rfl), m_X12_do1_j108]; rfl
    | true => rw [if_neg (show ¬ nI (bN true) = 0 by decide)]; rfl
  · rw [if_neg (fun y => c (s35.mp y)), m_X12_do1_j108, hp_noOp (show wdA t (tkA t N kk.2.2) = none from if_neg c)]
    rfl
/-- the ops of a `do` that are read so far: in the class's row, in the reference's -/
def WI (wl : Nat) (wa0 wt0 wa wt : Nat → Int32) (ops : OPS) : Prop := (∀ j, j < 4 * wl → wa j = wa0 j) ∧ (∀ j, 4 * wl + j < 48 → wa (4 * wl + j) = nI (match ops[j]? with | some o => packN o | none => 0)) ∧ (∀ j, j < 13 * wl → wt j = wt0 j) ∧ rOps wt (13 * wl) ops
theorem WI_snoc {wl : Nat} {wa0 wt0 wa wt : Nat → Int32} {ops : OPS} {o : Nat × Nat × Nat} {x3 x4 : Int32} (h : WI wl wa0 wt0 wa wt ops) (hi : ops.length < 4) (ho : opOK o) (h3 : o.1 ≤ 3 → x3 = nI o.2.1) (h4 : o.1 = 0 ∨ o.1 = 2 ∨ o.1 = 3 → x4 = nI o.2.2) :
    WI wl wa0 wt0 (upd wa (4 * wl + ops.length) (nI (packN o))) (wrO wt (13 * wl) ops.length (nI o.1) x3 x4) (ops ++ [o]) := by
  obtain ⟨h1, h2, h5, h6, h7, h8, h9⟩ := h
  have el : (ops ++ [o]).length = ops.length + 1 := by rw [List.length_append]; rfl
  refine ⟨fun j hj => (upd_ne (by omega)).trans (h1 j hj), fun j hj => ?_, fun j hj => ?_, ?_, fun q hq => ?_, ?_, fun j q hj => ?_⟩
  · by_cases e : j = ops.length
    · subst e
      rw [upd_eq, List.getElem?_append_right (Nat.le_refl _), Nat.sub_self]
      rfl
    · rw [upd_ne (by omega), h2 j hj]
      by_cases c : j < ops.length
      · rw [List.getElem?_append_left c]
      · rw [List.getElem?_eq_none (l := ops) (by omega), List.getElem?_eq_none (l := ops ++ [o]) (by omega)]
  · unfold wrO
    rw [upd_ne (by omega), upd_ne (by omega), upd_ne (by omega), upd_ne (by omega)]
    exact h5 j hj
  · omega
  · rcases List.mem_append.mp hq with hq | hq
    · exact h7 q hq
    · rw [List.mem_singleton.mp hq]; exact ho
  · unfold wrO
    rw [upd_eq, el]
  · unfold wrO
    rcases hp_snoc hj with hj | ⟨rfl, rfl⟩
    · have hlt := (List.getElem?_eq_some_iff.mp hj).1
      obtain ⟨y1, y2, y3⟩ := h9 j q hj
      refine ⟨?_, fun g => ?_, fun g => ?_⟩
      · rw [upd_ne (by omega), upd_ne (by omega), upd_ne (by omega), upd_ne (by omega)]; exact y1
      · rw [upd_ne (by omega), upd_ne (by omega), upd_ne (by omega), upd_ne (by omega)]; exact y2 g
      · rw [upd_ne (by omega), upd_ne (by omega), upd_ne (by omega), upd_ne (by omega)]; exact y3 g
    · refine ⟨?_, fun g => ?_, fun g => ?_⟩
      · rw [upd_ne (by omega), upd_ne (by omega), upd_ne (by omega), upd_eq]
      · rw [upd_ne (by omega), upd_ne (by omega), upd_eq]; exact h3 g
      · rw [upd_ne (by omega), upd_eq]; exact h4 g
theorem hp_CP {N : Nat} {F F' T wa0 wa wt0 wt md : Nat → Int32} {f : Nat → Nat} {o m td dt ch : Nat} {W : List OPS} {ops : OPS} (hc : CP N F T wa0 md (f, o, m, td, dt, ch, W)) (hf : frD F' F) (hl : W.length < 12) (h : WI W.length wa0 wt0 wa wt ops) :
    CP N F' (upd T 7 (nI (W.length + 1))) wa md (f, o, m, td, dt, ch, W ++ [ops]) := by
  obtain ⟨c1, c2, c3, c4, c5, c6, ⟨c7, c8, c9⟩, c10, c11⟩ := CP_fr hf hc
  obtain ⟨w1, w2, w3, w4⟩ := h
  have el : (W ++ [ops]).length = W.length + 1 := by rw [List.length_append]; rfl
  have c9 : ∀ i os, W[i]? = some os → wOps wa0 (4 * i) os := c9
  have l4 := w4.1
  refine ⟨c1, c2, c3, c4, (upd_ne (by decide)).trans c5, (upd_ne (by decide)).trans c6, ⟨?_, ?_, fun i os hi => ?_⟩, fun j h1 h2 => ?_, c11⟩
  · show upd T 7 (nI (W.length + 1)) 7 = nI (W ++ [ops]).length
    rw [upd_eq, el]
  · show (W ++ [ops]).length ≤ 12
    omega
  · have hi : (W ++ [ops])[i]? = some os := hi
    rcases hp_snoc hi with hi | ⟨rfl, rfl⟩
    · have hlt := (List.getElem?_eq_some_iff.mp hi).1
      obtain ⟨x1, x2, x3⟩ := c9 i os hi
      exact ⟨x1, x2, fun j hj => (w1 _ (by omega)).trans (x3 j hj)⟩
    · exact ⟨w4.1, w4.2.1, fun j hj => w2 j (by omega)⟩
  · have h1 : 4 * (W ++ [ops]).length ≤ j := h1
    have hj := w2 (j - 4 * W.length) (by omega)
    rw [show 4 * W.length + (j - 4 * W.length) = j by omega, List.getElem?_eq_none (l := ops) (by omega)] at hj
    exact hj
theorem hp_RP {N : Nat} {F F' wt0 wt wa0 wa mem : Nat → Int32} {f : Nat → Nat} {o m td dt ch : Nat} {W : List OPS} {ops : OPS} (hr : RP N F mem wt0 (f, o, m, td, dt, ch, W)) (hf : frH F' (upd F 42 (nI (W.length + 1)))) (h : WI W.length wa0 wt0 wa wt ops) : RP N F' mem wt (f, o, m, td, dt, ch, W ++ [ops]) := by
  obtain ⟨c1, c2, c3, c4, c5, c6, c7, c8, c9⟩ := hr
  obtain ⟨w1, w2, w3, w4⟩ := h
  have el : (W ++ [ops]).length = W.length + 1 := by rw [List.length_append]; rfl
  have hF : ∀ j, ¬ (j = 32 ∨ j = 33 ∨ j = 35 ∨ j = 36 ∨ j = 37 ∨ j = 38 ∨ j = 15) → ¬ j = 42 → F' j = F j := fun j a b => (hf j a).trans (upd_ne b)
  refine ⟨(hF 34 (by decide) (by decide)).trans c1, (hF 41 (by decide) (by decide)).trans c2, ?_, (hF 43 (by decide) (by decide)).trans c4, (hF 44 (by decide) (by decide)).trans c5, (hF 45 (by decide) (by decide)).trans c6, (hF 46 (by decide) (by decide)).trans c7, fun i os hi => ?_, c9⟩
  · show F' 42 = nI (W ++ [ops]).length
    rw [hf 42 (by decide), upd_eq, el]
  · have hi : (W ++ [ops])[i]? = some os := hi
    rcases hp_snoc hi with hi | ⟨rfl, rfl⟩
    · have hlt := (List.getElem?_eq_some_iff.mp hi).1
      exact rOps_fr (fun j hj => w3 _ (by omega)) (c8 i os hi)
    · exact w4
theorem do_loop {t : Nat → Nat} {N : Nat} {k : TK} {a tp T md mem wa0 wt0 Fc0 Fr0 : Nat → Int32} {f : Nat → Nat} {o m td dt ch : Nat} {W : List OPS} (hX : TX t N a) (hY : TX t N tp) (hq : okQ (f, o, m, td, dt, ch, W)) (hc : CP N Fc0 T wa0 md (f, o, m, td, dt, ch, W)) (hr : RP N Fr0 mem wt0 (f, o, m, td, dt, ch, W)) (hl : W.length < 12) :
    ∀ (d fuel1 fuel2 : Nat) (kk : TK) (ops : OPS) (Fc wa Fr wt : Nat → Int32), ops.length + d = 5 → d < fuel1 → d < fuel2 → WI W.length wa0 wt0 wa wt ops → okT t N kk → ¬ kk.1 = 0 → k.2.1 ≤ kk.2.1 → CT Fc kk → RT Fr t kk → Fr 38 = 0 → frD Fc Fc0 → frH Fr (upd Fr0 42 (nI (W.length + 1))) →
      ∃ code Fc' T' wa' Fr' wt', m_X6_readDo_w16 a 700 (m_X6_readDo_j50 a 700) fuel1 (nI ops.length) Fc T wa = some (code, Fc', T', wa') ∧ m_X12_do1_w66 tp fuel2 (nI (13 * W.length)) 1 Fr wt = some (Fr', wt') ∧ REL t N k code Fc' T' wa' md Fr' mem wt' ∧ (∀ j, ¬ j = 7 → T' j = T j) ∧ frH Fr' (upd Fr0 42 (nI (W.length + 1))) := by
  have hT : T 7 = nI W.length := hc.2.2.2.2.2.2.1.1
  intro d
  induction d with
  | zero =>
    intro fuel1 fuel2 kk ops Fc wa Fr wt hi _ _ hw
    have := hw.2.2.2.1
    omega
  | succ d ih =>
    intro fuel1 fuel2 kk ops Fc wa Fr wt hi hf1 hf2 hw hk h0 hle hC hR h38 hFc hFr
    obtain ⟨fuel1, rfl⟩ : ∃ e, fuel1 = e + 1 := ⟨fuel1 - 1, by omega⟩
    obtain ⟨fuel2, rfl⟩ : ∃ e, fuel2 = e + 1 := ⟨fuel2 - 1, by omega⟩
    have l4 : ops.length ≤ 4 := hw.2.2.2.1
    have h3 : Fc 3 = nI N := (hFc 3 (by decide) (by decide) (by decide) (by decide)).trans hc.1
    have h34 : Fr 34 = nI N := (hFr 34 (by decide)).trans ((upd_ne (by decide)).trans hr.1)
    obtain ⟨F1, g1, g2, g3⟩ := c_goOn6 hX hk.2.1 h3 hC.1
    obtain ⟨G1, r1, r2, r3⟩ := r_do1 (fuel := fuel2) (x1 := nI (13 * W.length)) (wt := wt) hY hk hR h34 h38
    obtain ⟨ok, ge⟩ := tk_ok (t := t) (N := N) hk.2.1
    have lt : kk.2.1 < kk.2.2 := (hk.2.2.2.1.resolve_left h0).1
    generalize hk2 : tkA t N kk.2.2 = k2 at *
    have f1 : frD F1 Fc0 := frD_tr (frD_C g3) hFc
    have G38 : G1 38 = 0 := (r2 38 (by decide)).trans h38
    have G34 : G1 34 = nI N := (r2 34 (by decide)).trans h34
    have F13 : F1 3 = nI N := (g3 3 (by decide) (by decide) (by decide)).trans h3
    have fG : frH G1 (upd Fr0 42 (nI (W.length + 1))) := frH_tr (frH_G r2) hFr
    have e4 : ¬ (4 : Int32) < nI ops.length := nI_nlt (a := 4) l4 (by decide)
    have hw0 : wt (13 * W.length) = nI ops.length := hw.2.2.2.2.2.1
    cases ho : opN t k2 with
    | none =>
      have e1 : m_X6_readOp F1 T wa a 700 (nI ops.length) = some (1, F1, wa) := by
        rw [m_X6_readOp, bd_ok (c_opTold hX ok g2), ho]
        exact if_pos rfl
      obtain ⟨x1, x2⟩ := bad_i (F := G1) (c := 1) r1.2.1
      refine ⟨1, F1, T, wa, _, wt, ?_, ?_, Or.inr (Or.inl ⟨1, k2.2.1, by decide, by decide, rfl, g2.2.2, x1⟩), fun _ _ => rfl, frH_tr x2 fG⟩
      · rw [m_X6_readDo_w16, if_neg e4, bd_ok g1, bd_ok e1]
        exact if_neg (show ¬ (1 : Int32) = 0 by decide)
      · rw [r3, ho, m_X12_do1_j109, show nI (bN (none : Option Nat).isSome) = 0 from rfl, bd_ok (w_no G38 (show ¬ (1 : Int32) = 0 by decide))]
        exact if_pos rfl
    | some op =>
      have hop := hp_opLe ho
      have ot : m_X6_opTold F1 a 700 = some (nI op) := by rw [c_opTold hX ok g2, ho]; rfl
      have r4 : m_X12_do1_w66 tp (fuel2 + 1) (nI (13 * W.length)) 1 Fr wt = if (4 : Int32) ≤ nI ops.length then m_X12_do1_j132 tp (m_X12_do1_w66 tp fuel2) (nI (13 * W.length)) 0 G1 wt else m_X12_do1_j132 tp (m_X12_do1_w66 tp fuel2) (nI (13 * W.length)) 1 G1 wt := by
        rw [r3, ho, m_X12_do1_j109, show nI (bN (some op).isSome) = 1 from rfl, bd_ok (w_ok G38)]
        dsimp only
        rw [if_neg (show ¬ (1 : Int32) = 0 by decide), rd_nI (by omega) (by decide), hw0]
      by_cases c4 : ops.length = 4
      · have e1 : m_X6_readOp F1 T wa a 700 (nI ops.length) = some (2, F1, wa) := by
          rw [m_X6_readOp, bd_ok ot, if_neg (nI_m1 (by omega)), c4]
          exact if_neg (show ¬ nI 4 < 4 from nI_nlt (b := 4) (Nat.le_refl _) (by decide))
        obtain ⟨x1, x2⟩ := bad_i (F := G1) (c := 2) r1.2.1
        refine ⟨2, F1, T, wa, _, wt, ?_, ?_, Or.inr (Or.inl ⟨2, k2.2.1, by decide, by decide, rfl, g2.2.2, x1⟩), fun _ _ => rfl, frH_tr x2 fG⟩
        · rw [m_X6_readDo_w16, if_neg e4, bd_ok g1, bd_ok e1]
          exact if_neg (show ¬ (2 : Int32) = 0 by decide)
        · rw [r4, if_pos (show (4 : Int32) ≤ nI ops.length from nI_le (a := 4) (by omega) (by omega)), m_X12_do1_j132, bd_ok (w_no G38 (show ¬ (2 : Int32) = 0 by decide))]
          exact if_pos rfl
      · have i4 : ops.length < 4 := by omega
        have r5 : m_X12_do1_w66 tp (fuel2 + 1) (nI (13 * W.length)) 1 Fr wt = bd (m_X12_op1 G1 tp wt (nI (13 * W.length))) fun u8 => bd (m_X12_isSign u8.1 44) fun u9 => m_X12_do1_w66 tp fuel2 (nI (13 * W.length)) u9 u8.1 u8.2 := by
          rw [r4, if_neg (show ¬ (4 : Int32) ≤ nI ops.length from nI_ge (b := 4) i4 (by decide)), m_X12_do1_j132, bd_ok (w_ok G38)]
          exact if_neg (show ¬ (1 : Int32) = 0 by decide)
        obtain ⟨fuel2, rfl⟩ : ∃ e, fuel2 = e + 1 := ⟨fuel2 - 1, by omega⟩
        obtain ⟨code, Fc', wa', Fr', wt', p1, p2, p3, p4, p5⟩ := op_pair (wa := wa) (wt := wt) hX hY ok g2 r1 F13 G34 G38 hT hl i4 hw0 ho
        have fD : frD Fc' Fc0 := frD_tr p4 f1
        have fH : frH Fr' (upd Fr0 42 (nI (W.length + 1))) := frH_tr p5 fG
        rcases p3 with ⟨oo, k', rfl, q38, qok, rfl, ⟨x3, x4, rfl, q3, q4⟩, hk', hC', hR', hle'⟩ | ⟨c, s, c1, c2, rfl, c3, c5⟩
        · have hw' := WI_snoc hw i4 qok q3 q4
          have el : (ops ++ [oo]).length = ops.length + 1 := by rw [List.length_append]; rfl
          obtain ⟨F2, y1, y2, y3⟩ := c_goOn6 hX hk'.2.1 ((fD 3 (by decide) (by decide) (by decide) (by decide)).trans hc.1) hC'.1
          obtain ⟨ok3, ge3⟩ := tk_ok (t := t) (N := N) hk'.2.1
          generalize hk3 : tkA t N k'.2.2 = k3 at *
          have fD2 : frD F2 Fc0 := frD_tr (frD_C y3) fD
          have s59 : m_X6_isSign F2 a 700 59 = some (nI (bN (sgB t k3 59))) := c_isSign (b := 59) hX ok3 y2 (by decide)
          have s44 : m_X6_isSign F2 a 700 44 = some (nI (bN (sgB t k3 44))) := c_isSign (b := 44) hX ok3 y2 (by decide)
          have z44 : m_X12_isSign Fr' 44 = some (nI (bN (sgB t k3 44))) := r_isSign (b := 44) hY.2.2 ok3 hR' (Or.inr rfl)
          have hk'1 := hk'.1
          have cl : m_X6_readDo_w16 a 700 (m_X6_readDo_j50 a 700) (fuel1 + 1) (nI ops.length) Fc T wa = if nI (bN (sgB t k3 59)) = 0 then (bd (m_X6_isSign F2 a 700 44) fun u5 => if u5 = 0 then some (1, F2, T, upd wa (4 * W.length + ops.length) (nI (packN oo))) else nm (nI ops.length + 1) fun v6 => m_X6_readDo_w16 a 700 (m_X6_readDo_j50 a 700) fuel1 v6 F2 T (upd wa (4 * W.length + ops.length) (nI (packN oo)))) else m_X6_readDo_j50 a 700 F2 T (upd wa (4 * W.length + ops.length) (nI (packN oo))) := by
            rw [m_X6_readDo_w16, if_neg e4, bd_ok g1, bd_ok p1]
            dsimp only
            rw [if_pos rfl, bd_ok y1, bd_ok s59]
          have rl : m_X12_do1_w66 tp (fuel2 + 1 + 1) (nI (13 * W.length)) 1 Fr wt = m_X12_do1_w66 tp (fuel2 + 1) (nI (13 * W.length)) (nI (bN (sgB t k3 44))) Fr' (wrO wt (13 * W.length) ops.length (nI oo.1) x3 x4) := by
            rw [r5, bd_ok p2]
            dsimp only
            rw [bd_ok z44]
          cases e59 : sgB t k3 59 with
          | true =>
            have e44 : sgB t k3 44 = false := by
              rw [sgB, Bool.and_eq_true, decide_eq_true_iff, decide_eq_true_iff] at e59
              rw [sgB, e59.2, show decide ((59 : Nat) = 44) = false from rfl, Bool.and_false]
            refine ⟨0, F2, upd T 7 (nI (W.length + 1)), _, Fr', _, ?_, ?_, Or.inl ⟨(f, o, m, td, dt, ch, W ++ [ops ++ [oo]]), k3, hq, hp_CP hc fD2 hl hw', hp_RP hr fH hw', ok3, y2, hR', q38, by omega, rfl, e59⟩, fun j hj => upd_ne hj, fH⟩
            · rw [cl, e59, if_neg (show ¬ nI (bN true) = 0 by decide), m_X6_readDo_j50, nm, hT, nI_1]
            · rw [rl, e44, m_X12_do1_w66]
              exact if_pos rfl
          | false =>
            cases e44 : sgB t k3 44 with
            | true =>
              have k30 : ¬ k3.1 = 0 := by
                have := e44
                rw [sgB, Bool.and_eq_true, decide_eq_true_iff] at this
                omega
              obtain ⟨code, Fa, Ta, wb, Fb, wc, i1, i2, i3, i4, i5⟩ := ih fuel1 (fuel2 + 1) k3 (ops ++ [oo]) F2 _ Fr' _ (by omega) (by omega) (by omega) hw' ok3 k30 (by omega) y2 hR' q38 fD2 fH
              refine ⟨code, Fa, Ta, wb, Fb, wc, ?_, ?_, i3, i4, i5⟩
              · rw [cl, e59, if_pos (show nI (bN false) = 0 from rfl), bd_ok s44, e44, if_neg (show ¬ nI (bN true) = 0 by decide), nm, nI_1, ← el]
                exact i1
              · rw [rl, e44]
                exact i2
            | false =>
              refine ⟨1, F2, T, upd wa (4 * W.length + ops.length) (nI (packN oo)), Fr', wrO wt (13 * W.length) ops.length (nI oo.1) x3 x4, ?_, ?_, Or.inr (Or.inr ⟨k3, ok3, y2.2.2, hR', q38, rfl, e59⟩), fun _ _ => rfl, fH⟩
              · rw [cl, e59, if_pos (show nI (bN false) = 0 from rfl), bd_ok s44, e44]
                exact if_pos rfl
              · rw [rl, e44, m_X12_do1_w66]
                exact if_pos rfl
        · have n38 : ¬ Fr' 38 = 0 := by rw [c5.1]; exact nI_ne0 (by omega) (by omega)
          obtain ⟨b, hb⟩ := sign_any (F := Fr') (x := 44)
          refine ⟨nI c, Fc', T, wa', Fr', wt', ?_, ?_, Or.inr (Or.inl ⟨c, s, c1, c2, rfl, c3, c5⟩), fun _ _ => rfl, fH⟩
          · rw [m_X6_readDo_w16, if_neg e4, bd_ok g1, bd_ok p1]
            exact if_neg (nI_ne0 (by omega) (by omega))
          · rw [r5, bd_ok p2]
            dsimp only
            rw [bd_ok hb, m_X12_do1_w66]
            by_cases b0 : b = 0
            · rw [if_pos b0]
            · rw [if_neg b0, if_neg n38]
theorem r_wipe {tp F : Nat → Int32} {p : Nat} {K : Int32 → (Nat → Int32) → (Nat → Int32) → Option ((Nat → Int32) × (Nat → Int32))} (hp : p + 13 ≤ 156) (wt : Nat → Int32) : ∃ r, m_X12_do1_w33 tp K fuelN (nI p) 0 F wt = K (nI p) F r ∧ (∀ j, j < 13 → r (p + j) = nI 0) ∧ ∀ j, j < p → r j = wt j := by
  obtain ⟨r, ⟨h1, h2⟩, h3⟩ := loop_up (fun n i (r : Nat → Int32) => m_X12_do1_w33 tp K n (nI p) i F r) (fun r => K (nI p) F r) 13 (fun i r => (∀ j, j < i → r (p + j) = nI 0) ∧ ∀ j, j < p → r j = wt j) (by
    intro n i r hi hI
    refine ⟨upd r (p + i) 0, ⟨fun j hj => ?_, fun j hj => (upd_ne (by omega)).trans (hI.2 j hj)⟩, ?_⟩
    · by_cases e : j = i
      · rw [e, upd_eq]; rfl
      · rw [upd_ne (by omega)]; exact hI.1 j (by omega)
    · show m_X12_do1_w33 tp K (n + 1) (nI p) (nI i) F r = _
      rw [m_X12_do1_w33, if_neg (show ¬ (13 : Int32) ≤ nI i from nI_ge (b := 13) hi (by decide)), nI_add, wr_nI (by omega) (by decide), nm, show nI i + 1 = nI (i + 1) from nI_1 _]) (by
    intro n r _
    show m_X12_do1_w33 tp K (n + 1) (nI p) (nI 13) F r = _
    rw [m_X12_do1_w33, if_pos (show (13 : Int32) ≤ nI 13 from nI_le (a := 13) (Nat.le_refl _) (by decide))]) fuelN 0 wt (Nat.zero_le _) (by rw [fuel_is]; omega) ⟨fun j hj => absurd hj (Nat.not_lt_zero j), fun _ _ => rfl⟩
  exact ⟨r, h3, h1, h2⟩
theorem cl_do {t : Nat → Nat} {N : Nat} {k : TK} {q : QS} {a tp Fc T wa md Fr mem wt : Nat → Int32} (h : CL t N k q a tp Fc T wa md Fr mem wt) :
    ∃ code Fc' T' wa' Fr' wt', m_X6_readDo Fc T wa a 700 = some (code, Fc', T', wa') ∧ m_X12_clause1_j16 tp (nI 6) Fr mem wt = some (Fr', mem, wt') ∧ REL t N k code Fc' T' wa' md Fr' mem wt' ∧ FRM T' T Fr' Fr := by
  obtain ⟨hX, hY, hk, hC, hR, h38, hq, hc, hr, h0⟩ := h
  obtain ⟨f, o, m, td, dt, ch, W⟩ := q
  have j16 : m_X12_clause1_j16 tp (nI 6) Fr mem wt = bd (m_X12_do1 Fr tp wt) fun u10 => some (u10.1, mem, u10.2) := by
    rw [m_X12_clause1_j16, if_neg (by decide), if_neg (by decide), if_neg (by decide), if_neg (by decide), if_neg (by decide), if_neg (by decide), if_pos (by decide)]
  have hT : T 7 = nI W.length := hc.2.2.2.2.2.2.1.1
  have hT12 : W.length ≤ 12 := hc.2.2.2.2.2.2.1.2.1
  have h42 : Fr 42 = nI W.length := hr.2.2.1
  by_cases c : W.length = 12
  · obtain ⟨x1, x2⟩ := bad_i (F := Fr) (c := 2) hR.2.1
    refine ⟨2, Fc, T, wa, _, wt, ?_, ?_, Or.inr (Or.inl ⟨2, k.2.1, by decide, by decide, rfl, hC.2.2, x1⟩), frm_i x2⟩
    · rw [m_X6_readDo, hT, c]
      exact if_pos rfl
    · have e1 : m_X12_do1 Fr tp wt = some (upd (upd Fr 38 2) 15 (Fr 33), wt) := by
        rw [m_X12_do1, h42, if_pos (show (12 : Int32) ≤ nI W.length from nI_le (a := 12) (by omega) (by omega)), m_X12_do1_j15, bd_ok (w_no h38 (show ¬ (2 : Int32) = 0 by decide))]
        exact if_pos rfl
      rw [j16, bd_ok e1]
      rfl
  · have hl : W.length < 12 := by omega
    obtain ⟨r, y1, y2, y3⟩ := r_wipe (tp := tp) (F := Fr) (p := 13 * W.length) (K := m_X12_do1_j54 tp) (by omega) wt
    have hw : WI W.length wa wt wa r [] := by
      refine ⟨fun _ _ => rfl, fun j hj => ?_, y3, by decide, fun o ho => (by cases ho), y2 0 (by decide), fun j o hj => ?_⟩
      · rw [List.getElem?_nil]
        exact hc.2.2.2.2.2.2.2.1 _ (Nat.le_add_right _ _) hj
      · rw [List.getElem?_nil] at hj; cases hj
    have R1 : RT (upd Fr 42 (nI (W.length + 1))) t k := by
      obtain ⟨t1, t2, t3, t4, t5⟩ := hR
      exact ⟨(upd_ne (by decide)).trans t1, (upd_ne (by decide)).trans t2, (upd_ne (by decide)).trans t3, (upd_ne (by decide)).trans t4, (upd_ne (by decide)).trans t5⟩
    obtain ⟨code, Fc', T', wa', Fr', wt', i1, i2, i3, i4, i5⟩ := do_loop (k := k) (mem := mem) (md := md) hX hY hq hc hr hl 5 fuelN fuelN k [] Fc wa (upd Fr 42 (nI (W.length + 1))) r rfl (by rw [fuel_is]; decide) (by rw [fuel_is]; decide) hw hk h0 (Nat.le_refl _) hC R1 ((upd_ne (by decide)).trans h38) (fun _ _ _ _ _ => rfl) (fun _ _ => rfl)
    refine ⟨code, Fc', T', wa', Fr', wt', ?_, ?_, i3, fun j hj => i4 j (by omega), fun j a b => (i5 j (by omega)).trans (upd_ne (by omega))⟩
    · rw [m_X6_readDo, hT, if_neg (show ¬ nI W.length = (12 : Int32) from fun e => c (nI_inj (b := 12) (by omega) (by decide) e))]
      exact i1
    · have e1 : m_X12_do1 Fr tp wt = some (Fr', wt') := by
        rw [m_X12_do1, h42, if_neg (show ¬ (12 : Int32) ≤ nI W.length from nI_ge (b := 12) hl (by decide)), m_X12_do1_j15, bd_ok (w_ok h38)]
        dsimp only
        rw [if_neg (show ¬ (1 : Int32) = 0 by decide), nm, h42, show (13 : Int32) * nI W.length = nI (13 * W.length) from nI_mulE 13 _, y1, m_X12_do1_j54, nm, h42, nI_1]
        exact i2
      rw [j16, bd_ok e1]
