/-! ===== clauses of a text: what both have read so far (words, sites left out, mode, mode told, data told, chained, waiting) ===== -/
abbrev QS : Type := (Nat → Nat) × Nat × Nat × Nat × Nat × Nat × List OPS
def okQ (q : QS) : Prop := (∀ w, w < 64 → q.1 w ≤ 99) ∧ (∀ b, b < 10 → q.1 (24 + 4 * b) ≤ 1) ∧ q.2.1 < 128 ∧ q.2.2.1 < 2 ∧ q.2.2.2.1 < 2 ∧ q.2.2.2.2.1 < 1024 ∧ q.2.2.2.2.2.1 < 1024
def CP (N : Nat) (F T wa md : Nat → Int32) (q : QS) : Prop := F 3 = nI N ∧ F 8 = nI q.2.2.2.1 ∧ F 9 = nI q.2.2.2.2.1 ∧ F 10 = nI q.2.2.2.2.2.1 ∧ T 9 = nI q.2.2.1 ∧ T 10 = nI q.2.1 ∧ CMw T wa q.2.2.2.2.2.2 ∧ (∀ j, 4 * q.2.2.2.2.2.2.length ≤ j → j < 48 → wa j = 0) ∧ ∀ w, w < 64 → md w = nI (q.1 w)
def RP (N : Nat) (F mem wt : Nat → Int32) (q : QS) : Prop := F 34 = nI N ∧ F 41 = nI q.2.1 ∧ F 42 = nI q.2.2.2.2.2.2.length ∧ F 43 = nI q.2.2.1 ∧ F 44 = nI q.2.2.2.1 ∧ F 45 = nI q.2.2.2.2.2.1 ∧ F 46 = nI q.2.2.2.2.1 ∧ (∀ i ops, q.2.2.2.2.2.2[i]? = some ops → rOps wt (13 * i) ops) ∧ ∀ w, w < 64 → mem w = nI (q.1 w)
theorem CP_fr {N : Nat} {F F' T wa md : Nat → Int32} {q : QS} (h : frD F' F) (hc : CP N F T wa md q) : CP N F' T wa md q := by
  obtain ⟨a, b, c, d, e⟩ := hc
  exact ⟨(h 3 (by decide) (by decide) (by decide) (by decide)).trans a, (h 8 (by decide) (by decide) (by decide) (by decide)).trans b, (h 9 (by decide) (by decide) (by decide) (by decide)).trans c, (h 10 (by decide) (by decide) (by decide) (by decide)).trans d, e⟩
theorem RP_fr {N : Nat} {F F' mem wt : Nat → Int32} {q : QS} (h : frH F' F) (hr : RP N F mem wt q) : RP N F' mem wt q := by
  obtain ⟨a, b, c, d, e, f, g, x⟩ := hr
  exact ⟨(h 34 (by decide)).trans a, (h 41 (by decide)).trans b, (h 42 (by decide)).trans c, (h 43 (by decide)).trans d, (h 44 (by decide)).trans e, (h 45 (by decide)).trans f, (h 46 (by decide)).trans g, x⟩
def REL (t : Nat → Nat) (N : Nat) (k : TK) (code : Int32) (Fc T wa md Fr mem wt : Nat → Int32) : Prop :=
  (∃ q k', okQ q ∧ CP N Fc T wa md q ∧ RP N Fr mem wt q ∧ okT t N k' ∧ CT Fc k' ∧ RT Fr t k' ∧ Fr 38 = 0 ∧ k.2.1 < k'.2.1 ∧ code = 0 ∧ sgB t k' 59 = true)
  ∨ (∃ c s, 1 ≤ c ∧ c ≤ 4 ∧ code = nI c ∧ Fc 6 = nI s ∧ BAD Fr c s)
  ∨ (∃ k', okT t N k' ∧ Fc 6 = nI k'.2.1 ∧ RT Fr t k' ∧ Fr 38 = 0 ∧ code = 1 ∧ sgB t k' 59 = false)
def FRM (T' T Fr' Fr : Nat → Int32) : Prop := (∀ j, ¬ (j = 7 ∨ j = 9 ∨ j = 10) → T' j = T j) ∧ ∀ j, j < 32 → ¬ j = 15 → Fr' j = Fr j
theorem frm_i {T Fr Fr' : Nat → Int32} (h : frH Fr' Fr) : FRM T T Fr' Fr := ⟨fun _ _ => rfl, fun j a b => h j (by omega)⟩
def CL (t : Nat → Nat) (N : Nat) (k : TK) (q : QS) (a tp Fc T wa md Fr mem wt : Nat → Int32) : Prop := TX t N a ∧ TX t N tp ∧ okT t N k ∧ CT Fc k ∧ RT Fr t k ∧ Fr 38 = 0 ∧ okQ q ∧ CP N Fc T wa md q ∧ RP N Fr mem wt q ∧ ¬ k.1 = 0
theorem rel_semi {t : Nat → Nat} {N : Nat} {k k1 : TK} {q : QS} {a Fc T wa md Fr mem wt : Nat → Int32} (hX : TX t N a) (hk1 : okT t N k1) (h01 : ¬ k1.1 = 0) (hle : k.2.1 ≤ k1.2.1) (hC : CT Fc k1) (hR : RT Fr t (tkA t N k1.2.2)) (h38 : Fr 38 = 0) (hq : okQ q) (hc : CP N Fc T wa md q) (hr : RP N Fr mem wt q) :
    ∃ code Fc', m_X6_readSemicolon Fc a 700 = some (code, Fc') ∧ REL t N k code Fc' T wa md Fr mem wt := by
  obtain ⟨F', g1, g2, g3⟩ := c_goOn6 hX hk1.2.1 hc.1 hC.1
  obtain ⟨ok, ge⟩ := tk_ok (t := t) (N := N) hk1.2.1
  have hs : m_X6_isSign F' a 700 59 = some (nI (bN (sgB t (tkA t N k1.2.2) 59))) := c_isSign (b := 59) hX ok g2 (by decide)
  have lt : k1.2.1 < k1.2.2 := (hk1.2.2.2.1.resolve_left h01).1
  rw [m_X6_readSemicolon, bd_ok g1, bd_ok hs]
  cases e : sgB t (tkA t N k1.2.2) 59 with
  | true => exact ⟨0, F', if_neg (by decide), Or.inl ⟨q, _, hq, CP_fr (frD_C g3) hc, hr, ok, g2, hR, h38, by omega, rfl, e⟩⟩
  | false => exact ⟨1, F', if_pos (by decide), Or.inr (Or.inr ⟨_, ok, g2.2.2, hR, h38, rfl, e⟩)⟩
theorem cl_mode {t : Nat → Nat} {N w : Nat} {k : TK} {q : QS} {a tp Fc T wa md Fr mem wt : Nat → Int32} (h : CL t N k q a tp Fc T wa md Fr mem wt) (hw : w < 2) (hwd : wdA t k = some w) :
    ∃ code Fc' T' Fr', m_X6_readMode Fc T a 700 (nI w) = some (code, Fc', T') ∧ m_X12_clause1_j16 tp (nI w) Fr mem wt = some (Fr', mem, wt) ∧ REL t N k code Fc' T' wa md Fr' mem wt ∧ FRM T' T Fr' Fr := by
  obtain ⟨hX, hY, hk, hC, hR, h38, hq, hc, hr, h0⟩ := h
  obtain ⟨f, o, m, td, dt, ch, W⟩ := q
  have j16 : m_X12_clause1_j16 tp (nI w) Fr mem wt = if Fr 44 = 0 then m_X12_clause1_j73 tp 1 Fr mem wt else m_X12_clause1_j73 tp 0 Fr mem wt := by
    obtain rfl | rfl : w = 0 ∨ w = 1 := by omega
    · rw [m_X12_clause1_j16, if_pos (by decide)]
    · rw [m_X12_clause1_j16, if_neg (by decide), if_pos (by decide)]
  have e44 : Fr 44 = nI td := hr.2.2.2.2.1
  have e8 : Fc 8 = nI td := hc.2.1
  have e37 : Fr 37 = nI w := by rw [hR.2.2.2.2, hwd]; rfl
  rw [j16, e44, m_X6_readMode, e8]
  obtain rfl | rfl : td = 0 ∨ td = 1 := by have : td < 2 := hq.2.2.2.2.1; omega
  · have j73 : m_X12_clause1_j73 tp 1 Fr mem wt = m_X12_clause1_j102 tp (nI w) (upd Fr 44 1) mem wt := by
      rw [m_X12_clause1_j73, bd_ok (w_ok h38), if_neg (show ¬ (1 : Int32) = 0 by decide)]
      show (if upd Fr 44 1 37 = 1 then m_X12_clause1_j102 tp 1 (upd Fr 44 1) mem wt else m_X12_clause1_j102 tp 0 (upd Fr 44 1) mem wt) = _
      rw [upd_ne (by decide), e37]
      obtain rfl | rfl : w = 0 ∨ w = 1 := by omega
      · rw [if_neg (by decide)]; rfl
      · rw [if_pos (by decide)]; rfl
    rw [if_pos (by decide), if_pos (by decide), j73]
    have b34 : upd (upd Fr 44 1) 43 (nI w) 34 = nI N := by rw [upd_ne (by decide), upd_ne (by decide)]; exact hr.1
    have b32 : upd (upd Fr 44 1) 43 (nI w) 32 = nI k.2.2 := by rw [upd_ne (by decide), upd_ne (by decide)]; exact hR.1
    obtain ⟨Fr', r1, r2, r3⟩ := r_go hY hk.2.1 b34 b32
    have hc' : CP N (upd Fc 8 1) (upd T 9 (nI w)) wa md (f, o, w, 1, dt, ch, W) := by
      obtain ⟨c1, c2, c3, c4, c5, c6, c7, c8⟩ := hc
      exact ⟨(upd_ne (by decide)).trans c1, upd_eq, (upd_ne (by decide)).trans c3, (upd_ne (by decide)).trans c4, upd_eq, (upd_ne (by decide)).trans c6, ⟨(upd_ne (by decide)).trans c7.1, c7.2⟩, c8⟩
    have hr' : RP N Fr' mem wt (f, o, w, 1, dt, ch, W) := by
      obtain ⟨c1, c2, c3, c4, c5, c6, c7, c8⟩ := hr
      refine RP_fr (frH_G r3) ⟨b34, ?_, ?_, upd_eq, ?_, ?_, ?_, c8⟩
      · rw [upd_ne (by decide), upd_ne (by decide)]; exact c2
      · rw [upd_ne (by decide), upd_ne (by decide)]; exact c3
      · rw [upd_ne (by decide), upd_eq]; rfl
      · rw [upd_ne (by decide), upd_ne (by decide)]; exact c6
      · rw [upd_ne (by decide), upd_ne (by decide)]; exact c7
    have hq' : okQ (f, o, w, 1, dt, ch, W) := by
      obtain ⟨q1, q2, q3, q4, q5, q6⟩ := hq
      exact ⟨q1, q2, q3, hw, (by decide : 1 < 2), q6⟩
    have r38 : Fr' 38 = 0 := by rw [r3 38 (by decide), upd_ne (by decide), upd_ne (by decide)]; exact h38
    have hC' : CT (upd Fc 8 1) k := ⟨(upd_ne (by decide)).trans hC.1, (upd_ne (by decide)).trans hC.2.1, (upd_ne (by decide)).trans hC.2.2⟩
    obtain ⟨code, Fc', s1, s2⟩ := rel_semi (k := k) hX hk h0 (Nat.le_refl _) hC' r2 r38 hq' hc' hr'
    refine ⟨code, Fc', upd T 9 (nI w), Fr', ?_, ?_, s2, fun j hj => upd_ne (by omega), fun j a b => ?_⟩
    · show (bd (m_X6_readSemicolon (upd Fc 8 1) a 700) fun u3 => some (u3.1, u3.2, upd T 9 (nI w))) = _
      rw [bd_ok s1]
    · show (bd (m_X12_go (upd (upd Fr 44 1) 43 (nI w)) tp) fun u4 => some (u4, mem, wt)) = _
      rw [bd_ok r1]
    · rw [r3 j (by omega), upd_ne (by omega), upd_ne (by omega)]
  · rw [if_neg (by decide), if_neg (by decide), m_X12_clause1_j73, bd_ok (w_no h38 (by decide)), if_pos rfl]
    obtain ⟨x1, x2⟩ := bad_i (F := Fr) (c := 4) hR.2.1
    exact ⟨_, _, _, _, rfl, rfl, Or.inr (Or.inl ⟨4, k.2.1, by decide, by decide, rfl, hC.2.2, x1⟩), frm_i x2⟩
/-! a word that is set -/
theorem upd_upN {g : Nat → Int32} {f : Nat → Nat} {a v : Nat} (h : ∀ w, w < 64 → g w = nI (f w)) : ∀ w, w < 64 → upd g a (nI v) w = nI (upN f a v w) := by
  intro w hw
  by_cases c : w = a
  · rw [c, upd_eq, upN_eq]
  · rw [upd_ne c, upN_ne c]; exact h w hw
theorem CP_f {N : Nat} {F T wa md md' : Nat → Int32} {q : QS} {f : Nat → Nat} (h : ∀ w, w < 64 → md' w = nI (f w)) (hc : CP N F T wa md q) : CP N F T wa md' (f, q.2) := by
  obtain ⟨c1, c2, c3, c4, c5, c6, c7, c8, c9⟩ := hc
  exact ⟨c1, c2, c3, c4, c5, c6, c7, c8, h⟩
theorem RP_f {N : Nat} {F mem mem' wt : Nat → Int32} {q : QS} {f : Nat → Nat} (h : ∀ w, w < 64 → mem' w = nI (f w)) (hc : RP N F mem wt q) : RP N F mem' wt (f, q.2) := by
  obtain ⟨c1, c2, c3, c4, c5, c6, c7, c8, c9⟩ := hc
  exact ⟨c1, c2, c3, c4, c5, c6, c7, c8, h⟩
theorem okQ_f {q : QS} {a v : Nat} (hq : okQ q) (hv : v ≤ 99) (h : ∀ b, b < 10 → 24 + 4 * b = a → v ≤ 1) : okQ (upN q.1 a v, q.2) := by
  obtain ⟨q1, q2, q3⟩ := hq
  refine ⟨upN_le q1 hv, fun b hb => ?_, q3⟩
  show upN q.1 a v (24 + 4 * b) ≤ 1
  by_cases c : 24 + 4 * b = a
  · rw [c, upN_eq]; exact h b hb c
  · rw [upN_ne c]; exact q2 b hb
theorem cl_leak {t : Nat → Nat} {N : Nat} {k : TK} {q : QS} {a tp Fc T wa md Fr mem wt : Nat → Int32} (h : CL t N k q a tp Fc T wa md Fr mem wt) :
    ∃ code Fc' md' Fr' mem', m_X6_readLeak Fc md a 700 = some (code, Fc', md') ∧ m_X12_clause1_j16 tp (nI 4) Fr mem wt = some (Fr', mem', wt) ∧ REL t N k code Fc' T wa md' Fr' mem' wt ∧ FRM T T Fr' Fr := by
  obtain ⟨hX, hY, hk, hC, hR, h38, hq, hc, hr, h0⟩ := h
  have j16 : m_X12_clause1_j16 tp (nI 4) Fr mem wt = bd (m_X12_go Fr tp) fun u7 => bd (m_X12_usedHere u7 tp mem) fun u8 => some (u8.2.1, u8.2.2, wt) := by
    rw [m_X12_clause1_j16, if_neg (by decide), if_neg (by decide), if_neg (by decide), if_neg (by decide), if_pos (by decide)]
  obtain ⟨F1, g1, g2, g3⟩ := c_goOn6 hX hk.2.1 hc.1 hC.1
  obtain ⟨G1, r1, r2, r3⟩ := r_go hY hk.2.1 hr.1 hR.1
  obtain ⟨ok, ge⟩ := tk_ok (t := t) (N := N) hk.2.1
  have lt : k.2.1 < k.2.2 := (hk.2.2.2.1.resolve_left h0).1
  obtain ⟨F2, md2, z1, z2, z3⟩ := c_judgeBlock (f := q.1) (md := md) hX ok g2 hc.2.2.2.2.2.2.2.2 hq.1
  have h38' : G1 38 = 0 := (r3 38 (by decide)).trans h38
  have h34' : G1 34 = nI N := (r3 34 (by decide)).trans hr.1
  obtain ⟨y1, y2⟩ := r_usedHere (f := q.1) (mem := mem) hY ok r2 h38' h34' hr.2.2.2.2.2.2.2.2 hq.2.1
  rw [j16, bd_ok r1, m_X6_readLeak, bd_ok g1, bd_ok z1]
  by_cases c : jbA t q.1 (tkA t N k.2.2) = 0
  · obtain ⟨v1, v2, v3⟩ := jb_v c
    obtain ⟨G2, w1, w2, w3, w4⟩ := y1 c
    obtain ⟨p1, p2⟩ := z2 c
    have hc' : CP N F2 T wa md2 (upN q.1 (24 + 4 * vlA t (tkA t N k.2.2)) 1, q.2) := CP_f (by rw [p2]; exact upd_upN hc.2.2.2.2.2.2.2.2) (CP_fr (frD_tr (frD_7 z3) (frD_C g3)) hc)
    have hr' : RP N G2 (upd mem (24 + 4 * vlA t (tkA t N k.2.2)) 1) wt (upN q.1 (24 + 4 * vlA t (tkA t N k.2.2)) 1, q.2) := RP_f (upd_upN hr.2.2.2.2.2.2.2.2) (RP_fr (frH_tr w4 (frH_G r3)) hr)
    obtain ⟨code, Fc', s1, s2⟩ := rel_semi (k := k) hX ok (by omega) (by omega) (CT_7 z3 g2) w2 w3 (okQ_f hq (by decide) (fun _ _ _ => Nat.le_refl _)) hc' hr'
    refine ⟨code, Fc', md2, G2, _, ?_, by rw [bd_ok w1], s2, frm_i (frH_tr w4 (frH_G r3))⟩
    dsimp only
    rw [if_pos (show nI (jbA t q.1 (tkA t N k.2.2)) = 0 by rw [c]; rfl), bd_ok s1]
  · obtain ⟨G2, w1, w2, w3⟩ := y2 c
    have le := jb_le (t := t) (f := q.1) (k := tkA t N k.2.2)
    refine ⟨_, F2, md2, G2, mem, ?_, by rw [bd_ok w1], Or.inr (Or.inl ⟨_, _, by omega, by omega, rfl, (z3 6 (by decide)).trans g2.2.2, w2⟩), frm_i (frH_tr w3 (frH_G r3))⟩
    dsimp only
    rw [if_neg (nI_ne0 (by omega) (by omega))]
theorem shrG {s k : Nat} (hs : s < 1024) (hk : k < 10) : ((nI s >>> (nI k &&& 31)) &&& 1) = nI ((s >>> k) &&& 1) := by
  show ((nI s >>> (nI k &&& nI 31)) &&& nI 1) = _
  rw [nI_and, and31 (by omega), nI_shr (by omega) (by omega), nI_and]
theorem orG {s k : Nat} (hk : k < 10) : (nI s ||| ((1 : Int32) <<< (nI k &&& 31))) = nI (s ||| 1 <<< k) := by
  show nI s ||| (nI 1 <<< (nI k &&& nI 31)) = _
  rw [nI_and, and31 (by omega), nI_shl k (by omega), nI_or]
theorem orN_lt {s k : Nat} (hs : s < 1024) (hk : k < 10) : s ||| 1 <<< k < 1024 := or_lt (n := 10) hs (shl_lt k hk)
theorem and1_le {x : Nat} : x &&& 1 ≤ 1 := Nat.and_le_right
theorem wi_is {v hi : Nat} (hv : v < 2 ^ 31) (hh : hi < 2 ^ 31) : m_X12_within (nI v) 0 (nI hi) = some (nI (bN (decide (v ≤ hi)))) := by
  rw [m_X12_within, if_neg (show ¬ nI v < (0 : Int32) from nI_nlt (a := v) (b := 0) (by omega) hv)]
  by_cases c : v ≤ hi
  · rw [if_neg (nI_nlt c hh), decide_eq_true c]; rfl
  · rw [if_pos (nI_lt (by omega) hv), decide_eq_false c]; rfl
theorem srA_n {t : Nat → Nat} {N : Nat} {k : TK} {F : Nat → Int32} (hk : okT t N k) (hR : RT F t k) : F 35 = 2 ↔ k.1 = 2 := by
  rw [hR.2.2.1]; exact (srA_2 hk).1
