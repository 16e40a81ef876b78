/-! ===== an op of a text ===== -/
theorem jn9 {t : Nat → Nat} {k : TK} {lo hi : Nat} (h : ¬ jnA t k lo hi = 0) : ¬ nI (jnA t k lo hi) = 0 := nI_ne0 (by omega) (by have := jn_le (t := t) (k := k) (lo := lo) (hi := hi); omega)
theorem sign_any {F : Nat → Int32} {x : Int32} : ∃ b, m_X12_isSign F x = some b := by
  rw [m_X12_isSign]
  by_cases c : F 35 = 3
  · rw [if_pos c]
    by_cases d : F 36 = x
    · rw [if_pos d]; exact ⟨_, rfl⟩
    · rw [if_neg d]; exact ⟨_, rfl⟩
  · rw [if_neg c]; exact ⟨_, rfl⟩
def wrO (wt : Nat → Int32) (p i : Nat) (x2 x3 x4 : Int32) : Nat → Int32 := upd (upd (upd (upd wt (p + 3 * i + 1) x2) (p + 3 * i + 2) x3) (p + 3 * i + 3) x4) p (nI (i + 1))
theorem r_j137 {tp F wt : Nat → Int32} {p i : Nat} {x2 x3 x4 : Int32} (hp : p + 13 ≤ 156) (hi : i < 4) (hw : wt p = nI i) : m_X12_op1_j137 tp (nI p) x2 x3 x4 F wt = some (F, wrO wt p i x2 x3 x4) := by
  have e1 : nI p + 3 * nI i + 1 = nI (p + 3 * i + 1) := by rw [show (3 : Int32) = nI 3 from rfl, show (1 : Int32) = nI 1 from rfl, nI_mulE, nI_add, nI_add]
  have e2 : nI p + 3 * nI i + 2 = nI (p + 3 * i + 2) := by rw [show (3 : Int32) = nI 3 from rfl, show (2 : Int32) = nI 2 from rfl, nI_mulE, nI_add, nI_add]
  have e3 : nI p + 3 * nI i + 3 = nI (p + 3 * i + 3) := by rw [show (3 : Int32) = nI 3 from rfl, nI_mulE, nI_add, nI_add]
  rw [m_X12_op1_j137, rd_nI (by omega) (by decide), hw, e1, wr_nI (by omega) (by decide), rd_nI (by omega) (by decide), upd_ne (i := p) (by omega), hw, e2, wr_nI (by omega) (by decide), rd_nI (by omega) (by decide), upd_ne (i := p) (by omega), upd_ne (i := p) (by omega), hw, e3, wr_nI (by omega) (by decide), rd_nI (by omega) (by decide), upd_ne (i := p) (by omega), upd_ne (i := p) (by omega), upd_ne (i := p) (by omega), hw, wr_nI (by omega) (by decide), show nI i + 1 = nI (i + 1) from nI_1 _]
  rfl
def frD (F' F : Nat → Int32) : Prop := ∀ j, ¬ j = 4 → ¬ j = 5 → ¬ j = 6 → ¬ j = 7 → F' j = F j
theorem frD_tr {F G H : Nat → Int32} (h1 : frD F G) (h2 : frD G H) : frD F H := fun j a b c d => (h1 j a b c d).trans (h2 j a b c d)
theorem frD_C {F G : Nat → Int32} (h : frC F G) : frD F G := fun j a b c _ => h j a b c
theorem frD_7 {F G : Nat → Int32} (h : ∀ j, ¬ j = 7 → F j = G j) : frD F G := fun j _ _ _ d => h j d
theorem CT_7 {F G : Nat → Int32} {k : TK} (h : ∀ j, ¬ j = 7 → F j = G j) (hC : CT G k) : CT F k := ⟨(h 4 (by decide)).trans hC.1, (h 5 (by decide)).trans hC.2.1, (h 6 (by decide)).trans hC.2.2⟩
def OPR (t : Nat → Nat) (N : Nat) (k : TK) (wl i : Nat) (wa wt : Nat → Int32) (code : Int32) (Fc wa' Fr wt' : Nat → Int32) : Prop :=
  (∃ o k', code = 0 ∧ Fr 38 = 0 ∧ opOK o ∧ wa' = upd wa (4 * wl + i) (nI (packN o)) ∧ (∃ x3 x4, wt' = wrO wt (13 * wl) i (nI o.1) x3 x4 ∧ (o.1 ≤ 3 → x3 = nI o.2.1) ∧ (o.1 = 0 ∨ o.1 = 2 ∨ o.1 = 3 → x4 = nI o.2.2)) ∧ okT t N k' ∧ CT Fc k' ∧ RT Fr t (tkA t N k'.2.2) ∧ k.2.1 ≤ k'.2.1)
  ∨ (∃ c s, 1 ≤ c ∧ c ≤ 4 ∧ code = nI c ∧ Fc 6 = nI s ∧ BAD Fr c s)
theorem pack1 {v : Nat} {x : Int32} : m_X11_packOp 1 (nI v) x = some (nI (packN (1, v, 0))) := by
  have k1 : K_ARGUMENTS 1 = 1 := rfl
  rw [show (1 : Int32) = nI 1 from rfl, m_X11_packOp, rdK (by decide) k1, if_neg (by decide), m_X11_packOp_j13, rdK (by decide) k1, if_pos (by decide), m_X11_packOp_j28, show nI 1 + 1 = nI 2 from rfl, show (10000 : Int32) = nI 10000 from rfl, show (100 : Int32) = nI 100 from rfl, show (0 : Int32) = nI 0 from rfl, nI_mulE, nI_mulE, nI_add, nI_add]
  rfl
theorem pack4 {x : Int32} : m_X11_packOp 4 0 x = some (nI (packN (4, 0, 0))) := by
  have k1 : K_ARGUMENTS 4 = 0 := rfl
  rw [show (4 : Int32) = nI 4 from rfl, m_X11_packOp, rdK (by decide) k1, if_pos (by decide), m_X11_packOp_j13, rdK (by decide) k1, if_pos (by decide), m_X11_packOp_j28]
  rfl
theorem c_j107 {T a F wa : Nat → Int32} {wl i : Nat} {x2 x4 : Int32} {o : Nat × Nat × Nat} (hT : T 7 = nI wl) (hl : wl < 12) (hi : i < 4) (hp : m_X11_packOp x2 x4 (F 7) = some (nI (packN o))) : m_X6_readOp_j107 T a 700 (nI i) x2 x4 F wa = some (0, F, upd wa (4 * wl + i) (nI (packN o))) := by
  rw [m_X6_readOp_j107, bd_ok hp, hT, show nI wl * 4 + nI i = nI (4 * wl + i) by rw [show (4 : Int32) = nI 4 from rfl, nI_mulE, nI_add, Nat.mul_comm], wr_nI (by omega) (by decide)]
/-- an op of two numbers: the second one, in the class -/
theorem c_second {t : Nat → Nat} {N op sm wl i one : Nat} {k : TK} {T a F wa : Nat → Int32} (hX : TX t N a) (hk : okT t N k) (hC : CT F k) (h3 : F 3 = nI N) (hT : T 7 = nI wl) (hl : wl < 12) (hi : i < 4) (hop : op < 5) (hA : K_ARGUMENTS op = 2) (hS : K_SECOND_MOST op = nI sm) (hsm : sm ≤ 99) (h1 : one ≤ 99) :
    ∃ F', ((jnA t (tkA t N k.2.2) 0 sm = 0 ∧ ¬ (op = 2 ∧ one = vlA t (tkA t N k.2.2)) → m_X6_readOp_j57 T a 700 (nI i) (nI op) 0 (nI one) F wa = some (0, F', upd wa (4 * wl + i) (nI (packN (op, one, vlA t (tkA t N k.2.2)))))) ∧ (jnA t (tkA t N k.2.2) 0 sm = 0 ∧ (op = 2 ∧ one = vlA t (tkA t N k.2.2)) → m_X6_readOp_j57 T a 700 (nI i) (nI op) 0 (nI one) F wa = some (3, F', wa)) ∧ (¬ jnA t (tkA t N k.2.2) 0 sm = 0 → m_X6_readOp_j57 T a 700 (nI i) (nI op) 0 (nI one) F wa = some (nI (jnA t (tkA t N k.2.2) 0 sm), F', wa))) ∧ CT F' (tkA t N k.2.2) ∧ frD F' F := by
  obtain ⟨F1, g1, g2, g3⟩ := c_goOn6 hX hk.2.1 h3 hC.1
  have hk' := (tk_ok (t := t) (N := N) hk.2.1).1
  obtain ⟨F2, z1, z2, z3⟩ := c_judge (lo := 0) (hi := sm) hX hk' g2 (by decide) (by omega)
  have z1 : m_X6_judgeNumber F1 a 700 0 (nI sm) = some (nI (jnA t (tkA t N k.2.2) 0 sm), F2) := z1
  have e0 : m_X6_readOp_j57 T a 700 (nI i) (nI op) 0 (nI one) F wa = m_X6_readOp_j85 T a 700 (nI i) (nI op) (nI (jnA t (tkA t N k.2.2) 0 sm)) (nI one) F2 wa := by
    rw [m_X6_readOp_j57, rdK hop hA, if_neg (by decide), if_pos rfl, bd_ok g1, rdK hop hS, bd_ok z1]
  refine ⟨F2, ⟨fun h => ?_, fun h => ?_, fun h => ?_⟩, CT_7 z3 g2, frD_tr (frD_7 z3) (frD_C g3)⟩
  · have hv := (jn_v h.1).2.1
    rw [e0, m_X6_readOp_j85, if_pos (show nI (jnA t (tkA t N k.2.2) 0 sm) = 0 by rw [h.1]; rfl), z2 h.1]
    have fin : m_X6_readOp_j107 T a 700 (nI i) (nI op) (nI one) F2 wa = some (0, F2, upd wa (4 * wl + i) (nI (packN (op, one, vlA t (tkA t N k.2.2))))) := c_j107 hT hl hi (by rw [z2 h.1]; exact pack2 hA hop)
    by_cases c : op = 2
    · rw [if_pos (show nI op = 2 by rw [c]; rfl), if_neg (fun e => h.2 ⟨c, nI_inj (by omega) (by omega) e⟩), fin]
    · rw [if_neg (show ¬ nI op = 2 from fun e => c (nI_inj (b := 2) (by omega) (by decide) e)), fin]
  · rw [e0, m_X6_readOp_j85, if_pos (show nI (jnA t (tkA t N k.2.2) 0 sm) = 0 by rw [h.1]; rfl), z2 h.1, if_pos (show nI op = 2 by rw [h.2.1]; rfl), if_pos (by rw [h.2.2])]
  · rw [e0, m_X6_readOp_j85, if_neg (jn9 h)]
theorem op_pair {t : Nat → Nat} {N op wl i : Nat} {k : TK} {T a tp Fc Fr wa wt : Nat → Int32} (hX : TX t N a) (hY : TX t N tp) (hk : okT t N k) (hC : CT Fc k) (hR : RT Fr t k) (h3 : Fc 3 = nI N) (h34 : Fr 34 = nI N) (h38 : Fr 38 = 0) (hT : T 7 = nI wl) (hl : wl < 12) (hi : i < 4) (hw : wt (13 * wl) = nI i) (hop : opN t k = some op) :
    ∃ code Fc' wa' Fr' wt', m_X6_readOp Fc T wa a 700 (nI i) = some (code, Fc', wa') ∧ m_X12_op1 Fr tp wt (nI (13 * wl)) = some (Fr', wt') ∧ OPR t N k wl i wa wt code Fc' wa' Fr' wt' ∧ frD Fc' Fc ∧ frH Fr' Fr := by
  have hop5 : op ≤ 4 ∧ wdA t k = some (op + 7) := by
    unfold opN at hop
    cases e : wdA t k with
    | none => rw [e] at hop; cases hop
    | some x =>
      rw [e] at hop
      dsimp only at hop
      by_cases c : 7 ≤ x ∧ x ≤ 11
      · rw [if_pos c] at hop; cases hop; exact ⟨by omega, by rw [show x - 7 + 7 = x by omega]⟩
      · rw [if_neg c] at hop; cases hop
  have e37 : Fr 37 - 7 = nI op := by
    rw [hR.2.2.2.2, hop5.2]
    exact (nI_subE (b := 7) (by omega)).trans (by rw [Nat.add_sub_cancel])
  have hp : 13 * wl + 13 ≤ 156 := by omega
  have p4 : nI i < 4 := nI_lt (b := 4) hi (by decide)
  have eo : m_X6_opTold Fc a 700 = some (nI op) := by rw [c_opTold hX hk hC, hop]; rfl
  obtain ⟨Fr1, g1, g2, g3⟩ := r_go hY hk.2.1 h34 hR.1
  obtain ⟨hk1, hk1s⟩ := tk_ok (t := t) (N := N) hk.2.1
  have q38 : Fr1 38 = 0 := (g3 38 (by decide)).trans h38
  have q34 : Fr1 34 = nI N := (g3 34 (by decide)).trans h34
  have cA : ∀ {y : Int32}, K_ARGUMENTS op = y → m_X6_readOp Fc T wa a 700 (nI i) = if y ≤ 0 then m_X6_readOp_j57 T a 700 (nI i) (nI op) 0 0 Fc wa else bd (m_X6_goOn Fc a 700) fun u9 => rd K_FIRST_LEAST 5 (nI op) fun y10 => rd K_FIRST_MOST 5 (nI op) fun y11 => bd (m_X6_judgeNumber u9 a 700 y10 y11) fun u12 => nm (u12.2 7) fun v13 => m_X6_readOp_j57 T a 700 (nI i) (nI op) u12.1 v13 u12.2 wa := by
    intro y hy
    rw [m_X6_readOp, bd_ok eo, if_neg (nI_m1 (by omega)), if_pos p4, rdK (by omega) hy]
  obtain ⟨Fc1, c1, c2, c3⟩ := c_goOn6 hX hk.2.1 h3 hC.1
  have c33 : Fc1 3 = nI N := (c3 3 (by decide) (by decide) (by decide)).trans h3
  have rA : m_X12_op1 Fr tp wt (nI (13 * wl)) = if 3 ≤ nI op then m_X12_op1_j29 tp (nI (13 * wl)) (nI op) 0 0 Fr1 wt else bd (m_X12_numberHere Fr1 tp 0 3) fun u16 => m_X12_op1_j29 tp (nI (13 * wl)) (nI op) u16.1 0 u16.2 wt := by
    rw [m_X12_op1, nm, e37, bd_ok g1]
  have hks := hk.1
  generalize hkk : tkA t N k.2.2 = k1 at *
  -- what both do once the first number is there
  have two : ∀ (lo hi' sm : Nat), K_ARGUMENTS op = 2 → K_FIRST_LEAST op = nI lo → K_FIRST_MOST op = nI hi' → K_SECOND_MOST op = nI sm → sm ≤ 99 → lo ≤ 99 → hi' ≤ 99 →
      (∀ one, lo ≤ one → one ≤ hi' → ∀ v, v ≤ sm → ¬ (op = 2 ∧ one = v) → opOK (op, one, v)) →
      (¬ jnA t k1 lo hi' = 0 → ∃ Fr', m_X12_op1 Fr tp wt (nI (13 * wl)) = some (Fr', wrO wt (13 * wl) i (nI op) (nI lo) 0) ∧ BAD Fr' (jnA t k1 lo hi') k1.2.1 ∧ frH Fr' Fr) →
      (jnA t k1 lo hi' = 0 → ∃ Fr2, RT Fr2 t (tkA t N k1.2.2) ∧ Fr2 38 = 0 ∧ frH Fr2 Fr ∧ (jnA t (tkA t N k1.2.2) 0 sm = 0 ∧ ¬ (op = 2 ∧ vlA t k1 = vlA t (tkA t N k1.2.2)) → ∃ Fr', m_X12_op1 Fr tp wt (nI (13 * wl)) = some (Fr', wrO wt (13 * wl) i (nI op) (nI (vlA t k1)) (nI (vlA t (tkA t N k1.2.2)))) ∧ RT Fr' t (tkA t N (tkA t N k1.2.2).2.2) ∧ Fr' 38 = 0 ∧ frH Fr' Fr) ∧ (jnA t (tkA t N k1.2.2) 0 sm = 0 ∧ (op = 2 ∧ vlA t k1 = vlA t (tkA t N k1.2.2)) → ∃ Fr' wt', m_X12_op1 Fr tp wt (nI (13 * wl)) = some (Fr', wt') ∧ BAD Fr' 3 (tkA t N k1.2.2).2.1 ∧ frH Fr' Fr) ∧ (¬ jnA t (tkA t N k1.2.2) 0 sm = 0 → ∃ Fr' wt', m_X12_op1 Fr tp wt (nI (13 * wl)) = some (Fr', wt') ∧ BAD Fr' (jnA t (tkA t N k1.2.2) 0 sm) (tkA t N k1.2.2).2.1 ∧ frH Fr' Fr)) →
      ∃ code Fc' wa' Fr' wt', m_X6_readOp Fc T wa a 700 (nI i) = some (code, Fc', wa') ∧ m_X12_op1 Fr tp wt (nI (13 * wl)) = some (Fr', wt') ∧ OPR t N k wl i wa wt code Fc' wa' Fr' wt' ∧ frD Fc' Fc ∧ frH Fr' Fr := by
    intro lo hi' sm kA kL kM kS hsm hlo hhi hok r1 r2
    obtain ⟨Fc2, z1, z2, z3⟩ := c_judge (lo := lo) (hi := hi') hX hk1 c2 (by omega) (by omega)
    have base : m_X6_readOp Fc T wa a 700 (nI i) = m_X6_readOp_j57 T a 700 (nI i) (nI op) (nI (jnA t k1 lo hi')) (Fc2 7) Fc2 wa := by
      rw [cA kA, if_neg (by decide), bd_ok c1, rdK (by omega) kL, rdK (by omega) kM, bd_ok z1, nm]
    have f2 : frD Fc2 Fc := frD_tr (frD_7 z3) (frD_C c3)
    have ct2 : CT Fc2 k1 := CT_7 z3 c2
    by_cases j1 : jnA t k1 lo hi' = 0
    · obtain ⟨v1, v2, _⟩ := jn_v j1
      obtain ⟨Fr2, _, _, _, s1, s2, s3⟩ := r2 j1
      have c3' : Fc2 3 = nI N := (z3 3 (by decide)).trans c33
      obtain ⟨Fc3, ⟨w1, w2, w3⟩, w4, w5⟩ := c_second (wa := wa) (op := op) (sm := sm) (one := vlA t k1) hX hk1 ct2 c3' hT hl hi (by omega) kA kS hsm (by omega)
      obtain ⟨hk2, hk2s⟩ := tk_ok (t := t) (N := N) hk1.2.1
      have base2 : m_X6_readOp Fc T wa a 700 (nI i) = m_X6_readOp_j57 T a 700 (nI i) (nI op) 0 (nI (vlA t k1)) Fc2 wa := by rw [base, j1, z2 j1]; rfl
      have fd := frD_tr w5 f2
      by_cases j2 : jnA t (tkA t N k1.2.2) 0 sm = 0
      · by_cases m : op = 2 ∧ vlA t k1 = vlA t (tkA t N k1.2.2)
        · obtain ⟨Fr', wt', y1, y2, y3⟩ := s2 ⟨j2, m⟩
          exact ⟨_, Fc3, _, Fr', wt', base2.trans (w2 ⟨j2, m⟩), y1, Or.inr ⟨3, _, by decide, by decide, rfl, w4.2.2, y2⟩, fd, y3⟩
        · obtain ⟨Fr', y1, y2, y3, y4⟩ := s1 ⟨j2, m⟩
          obtain ⟨_, u2, _⟩ := jn_v j2
          exact ⟨_, Fc3, _, Fr', _, base2.trans (w1 ⟨j2, m⟩), y1, Or.inl ⟨(op, vlA t k1, vlA t (tkA t N k1.2.2)), tkA t N k1.2.2, rfl, y3, hok _ v1 v2 _ u2 m, rfl, ⟨_, _, rfl, fun _ => rfl, fun _ => rfl⟩, hk2, w4, y2, by have := hk1.1; omega⟩, fd, y4⟩
      · obtain ⟨Fr', wt', y1, y2, y3⟩ := s3 j2
        have hle := jn_le (t := t) (k := tkA t N k1.2.2) (lo := 0) (hi := sm)
        exact ⟨_, Fc3, _, Fr', wt', base2.trans (w3 j2), y1, Or.inr ⟨_, _, by omega, by omega, rfl, w4.2.2, y2⟩, fd, y3⟩
    · obtain ⟨Fr', y1, y2, y3⟩ := r1 j1
      have hle := jn_le (t := t) (k := k1) (lo := lo) (hi := hi')
      refine ⟨_, Fc2, wa, Fr', _, ?_, y1, Or.inr ⟨_, _, by omega, by omega, rfl, ct2.2.2, y2⟩, f2, y3⟩
      rw [base, m_X6_readOp_j57, rdK (by omega) kA, if_neg (by decide), if_neg (jn9 j1), m_X6_readOp_j85, if_neg (jn9 j1)]
  -- the reference's end of an op that is bad already
  have badE : ∀ (G : Nat → Int32) (x3 : Int32) (c s : Nat), BAD G c s → 1 ≤ c → c ≤ 4 → m_X12_op1_j43 tp (nI (13 * wl)) (nI op) x3 0 G wt = some (G, wrO wt (13 * wl) i (nI op) x3 0) := by
    intro G x3 c s hb hc1 hc4
    have n38 : ¬ G 38 = 0 := by rw [hb.1]; exact nI_ne0 (by omega) (by omega)
    rw [m_X12_op1_j43, if_neg n38, m_X12_op1_j112, if_neg n38, r_j137 hp hi hw]
  have n1 := r_num (lo := 0) (hi := 3) hY hk1 g2 q38 q34 (by decide) (by decide)
  have n1a : m_X12_numberHere Fr1 tp (nI 0) (nI 3) = m_X12_numberHere Fr1 tp 0 3 := rfl
  have n2 := r_num (lo := 20) (hi := 63) hY hk1 g2 q38 q34 (by decide) (by decide)
  have n2a : m_X12_numberHere Fr1 tp (nI 20) (nI 63) = m_X12_numberHere Fr1 tp 20 63 := rfl
  have hk2 := (tk_ok (t := t) (N := N) hk1.2.1).1
  rcases (show op = 0 ∨ op = 1 ∨ op = 2 ∨ op = 3 ∨ op = 4 by omega) with rfl | rfl | rfl | rfl | rfl
  · -- new
    refine two 0 3 99 rfl rfl rfl rfl (by decide) (by decide) (by decide) (fun one h1 h2 v h3 _ => ⟨by show 0 ≤ 4; omega, fun _ => h2, fun e => (by cases e), fun e => (by cases e), by show one ≤ 99; omega, by show v ≤ 99; omega⟩) (fun j => ?_) (fun j => ?_)
    · obtain ⟨F', y1, y2, y3⟩ := n1.2 j
      have hle := jn_le (t := t) (k := k1) (lo := 0) (hi := 3)
      refine ⟨F', ?_, y2, frH_tr y3 (frH_G g3)⟩
      rw [rA, if_neg (by decide), ← n1a, bd_ok y1, m_X12_op1_j29, if_neg (by decide)]
      exact badE F' _ _ _ y2 (by omega) (by omega)
    · obtain ⟨F', y1, y2, y3, y4⟩ := n1.1 j
      have y34 : F' 34 = nI N := (y4 34 (by decide)).trans q34
      have fH := frH_tr y4 (frH_G g3)
      have e1 : m_X12_op1 Fr tp wt (nI (13 * wl)) = m_X12_op1_j128 tp (nI (13 * wl)) (nI 0) (nI (vlA t k1)) F' wt := by
        rw [rA, if_neg (by decide), ← n1a, bd_ok y1, m_X12_op1_j29, if_neg (by decide), m_X12_op1_j43, if_pos y3, if_neg (by decide), m_X12_op1_j112, if_pos y3, if_pos (show nI 0 = 0 from rfl)]
      have m2 := r_num (lo := 0) (hi := 99) hY hk2 y2 y3 y34 (by decide) (by decide)
      refine ⟨F', y2, y3, fH, fun h => ?_, fun h => absurd h.2.1 (by decide), fun h => ?_⟩
      · obtain ⟨F2, x1, x2, x3, x4⟩ := m2.1 h.1
        have x1 : m_X12_numberHere F' tp 0 99 = some (nI (vlA t (tkA t N k1.2.2)), F2) := x1
        rw [e1, m_X12_op1_j128, bd_ok x1, r_j137 hp hi hw]
        exact ⟨F2, rfl, x2, x3, frH_tr x4 fH⟩
      · obtain ⟨F2, x1, x2, x4⟩ := m2.2 h
        have x1 : m_X12_numberHere F' tp 0 99 = some (nI 0, F2) := x1
        rw [e1, m_X12_op1_j128, bd_ok x1, r_j137 hp hi hw]
        exact ⟨F2, _, rfl, x2, frH_tr x4 fH⟩
  · -- drop
    obtain ⟨Fc2, z1, z2, z3⟩ := c_judge (lo := 0) (hi := 3) hX hk1 c2 (by decide) (by decide)
    have z1 : m_X6_judgeNumber Fc1 a 700 0 3 = some (nI (jnA t k1 0 3), Fc2) := z1
    have base : m_X6_readOp Fc T wa a 700 (nI i) = m_X6_readOp_j85 T a 700 (nI i) (nI 1) (nI (jnA t k1 0 3)) (Fc2 7) Fc2 wa := by
      rw [cA (show K_ARGUMENTS 1 = 1 from rfl), if_neg (by decide), bd_ok c1, rdK (by decide) (show K_FIRST_LEAST 1 = 0 from rfl), rdK (by decide) (show K_FIRST_MOST 1 = 3 from rfl), bd_ok z1, nm, m_X6_readOp_j57, rdK (by decide) (show K_ARGUMENTS 1 = 1 from rfl), if_pos (by decide)]
    have f2 : frD Fc2 Fc := frD_tr (frD_7 z3) (frD_C c3)
    have ct2 : CT Fc2 k1 := CT_7 z3 c2
    have hle := jn_le (t := t) (k := k1) (lo := 0) (hi := 3)
    by_cases j1 : jnA t k1 0 3 = 0
    · obtain ⟨v1, v2, _⟩ := jn_v j1
      obtain ⟨F', y1, y2, y3, y4⟩ := n1.1 j1
      refine ⟨0, Fc2, upd wa (4 * wl + i) (nI (packN (1, vlA t k1, 0))), F', wrO wt (13 * wl) i (nI 1) (nI (vlA t k1)) 0, ?_, ?_, Or.inl ⟨(1, vlA t k1, 0), k1, rfl, y3, ⟨by show 1 ≤ 4; omega, fun _ => v2, fun e => (by cases e), fun e => (by cases e), by show vlA t k1 ≤ 99; omega, by show 0 ≤ 99; omega⟩, rfl, ⟨_, _, rfl, fun _ => rfl, fun e => (by rcases e with e | e | e <;> cases e)⟩, hk1, ct2, y2, by omega⟩, f2, frH_tr y4 (frH_G g3)⟩
      · rw [base, m_X6_readOp_j85, if_pos (show nI (jnA t k1 0 3) = 0 by rw [j1]; rfl), if_neg (by decide), z2 j1]
        exact c_j107 hT hl hi pack1
      · rw [rA, if_neg (by decide), ← n1a, bd_ok y1, m_X12_op1_j29, if_neg (by decide), m_X12_op1_j43, if_pos y3, if_neg (by decide), m_X12_op1_j112, if_pos y3, if_neg (by decide), if_neg (by decide), r_j137 hp hi hw]
    · obtain ⟨F', y1, y2, y3⟩ := n1.2 j1
      refine ⟨_, Fc2, wa, F', wrO wt (13 * wl) i (nI 1) (nI 0) 0, ?_, ?_, Or.inr ⟨_, _, by omega, by omega, rfl, ct2.2.2, y2⟩, f2, frH_tr y3 (frH_G g3)⟩
      · rw [base, m_X6_readOp_j85, if_neg (jn9 j1)]
      · rw [rA, if_neg (by decide), ← n1a, bd_ok y1, m_X12_op1_j29, if_neg (by decide)]
        exact badE F' _ _ _ y2 (by omega) (by omega)
  · -- move
    refine two 0 3 3 rfl rfl rfl rfl (by decide) (by decide) (by decide) (fun one h1 h2 v h3 _ => ⟨by show 2 ≤ 4; omega, fun _ => h2, fun _ => h3, fun e => (by cases e), by show one ≤ 99; omega, by show v ≤ 99; omega⟩) (fun j => ?_) (fun j => ?_)
    · obtain ⟨F', y1, y2, y3⟩ := n1.2 j
      have hle := jn_le (t := t) (k := k1) (lo := 0) (hi := 3)
      refine ⟨F', ?_, y2, frH_tr y3 (frH_G g3)⟩
      rw [rA, if_neg (by decide), ← n1a, bd_ok y1, m_X12_op1_j29, if_neg (by decide)]
      exact badE F' _ _ _ y2 (by omega) (by omega)
    · obtain ⟨F', y1, y2, y3, y4⟩ := n1.1 j
      obtain ⟨_, va2, _⟩ := jn_v j
      have y34 : F' 34 = nI N := (y4 34 (by decide)).trans q34
      have fH := frH_tr y4 (frH_G g3)
      have s2 := (srA_2 hk2).1
      obtain ⟨t1, t2, t3, t4, t5⟩ := id y2
      have m2 := r_num (lo := 0) (hi := 3) hY hk2 y2 y3 y34 (by decide) (by decide)
      have e0 : m_X12_op1 Fr tp wt (nI (13 * wl)) = if F' 35 = 2 then (bd (m_X12_within (F' 36) 0 3) fun u14 => if u14 = 0 then m_X12_op1_j84 tp (nI (13 * wl)) (nI 2) (nI (vlA t k1)) 0 F' wt else if F' 36 = nI (vlA t k1) then m_X12_op1_j89 tp (nI (13 * wl)) (nI 2) (nI (vlA t k1)) 0 0 F' wt else m_X12_op1_j84 tp (nI (13 * wl)) (nI 2) (nI (vlA t k1)) 0 F' wt) else m_X12_op1_j84 tp (nI (13 * wl)) (nI 2) (nI (vlA t k1)) 0 F' wt := by
        rw [rA, if_neg (by decide), ← n1a, bd_ok y1, m_X12_op1_j29, if_neg (by decide), m_X12_op1_j43, if_pos y3, if_pos (show nI 2 = 2 from rfl)]
      have e84 : m_X12_op1_j84 tp (nI (13 * wl)) (nI 2) (nI (vlA t k1)) 0 F' wt = bd (m_X12_numberHere F' tp 0 3) fun u13 => m_X12_op1_j137 tp (nI (13 * wl)) (nI 2) (nI (vlA t k1)) u13.1 u13.2 wt := by
        rw [m_X12_op1_j84, m_X12_op1_j89, bd_ok (w_ok y3)]
        dsimp only
        rw [if_pos y3]
      refine ⟨F', y2, y3, fH, fun h => ?_, fun h => ?_, fun h => ?_⟩
      · obtain ⟨F2, x1, x2, x3, x4⟩ := m2.1 h.1
        have x1 : m_X12_numberHere F' tp 0 3 = some (nI (vlA t (tkA t N k1.2.2)), F2) := x1
        obtain ⟨_, vb, kb⟩ := jn_v h.1
        have hwi : m_X12_within (nI (vlA t (tkA t N k1.2.2))) 0 3 = some (nI 1) := (r_within (lo := 0) (hi := 3) (by omega) (by omega) (by omega)).trans (by rw [if_pos (by omega)])
        rw [e0, t3, t4, if_pos (s2.mpr kb), bd_ok hwi, if_neg (by decide), if_neg (fun e => h.2 ⟨rfl, (nI_inj (by omega) (by omega) e).symm⟩), e84, bd_ok x1, r_j137 hp hi hw]
        exact ⟨F2, rfl, x2, x3, frH_tr x4 fH⟩
      · obtain ⟨_, vb, kb⟩ := jn_v h.1
        have hwi : m_X12_within (nI (vlA t (tkA t N k1.2.2))) 0 3 = some (nI 1) := (r_within (lo := 0) (hi := 3) (by omega) (by omega) (by omega)).trans (by rw [if_pos (by omega)])
        obtain ⟨bb, bf⟩ := bad_i (F := F') (c := 3) t2
        have bb0 : ¬ upd (upd F' 38 3) 15 (F' 33) 38 = 0 := fun e => absurd (bb.1.symm.trans e) (by decide)
        rw [e0, t3, t4, if_pos (s2.mpr kb), bd_ok hwi, if_neg (by decide), if_pos (by rw [h.2.2]), m_X12_op1_j89, bd_ok (w_no y3 (by decide))]
        dsimp only
        rw [if_neg bb0, r_j137 hp hi hw]
        exact ⟨_, _, rfl, bb, frH_tr bf fH⟩
      · obtain ⟨F2, x1, x2, x4⟩ := m2.2 h
        have x1 : m_X12_numberHere F' tp 0 3 = some (nI 0, F2) := x1
        have e9 : m_X12_op1 Fr tp wt (nI (13 * wl)) = m_X12_op1_j84 tp (nI (13 * wl)) (nI 2) (nI (vlA t k1)) 0 F' wt := by
          rw [e0, t3, t4]
          by_cases kb : (tkA t N k1.2.2).1 = 2
          · obtain ⟨v1, _, _⟩ := vl_le hk2 kb
            have hwi : m_X12_within (nI (vlA t (tkA t N k1.2.2))) 0 3 = some (nI 0) := (r_within (lo := 0) (hi := 3) (by omega) (by omega) (by omega)).trans (by
              rw [if_neg (fun e => h (by unfold jnA; rw [if_pos kb, if_pos e]))])
            rw [if_pos (s2.mpr kb), bd_ok hwi, if_pos (show nI 0 = 0 from rfl)]
          · rw [if_neg (fun e => kb (s2.mp e))]
        rw [e9, e84, bd_ok x1, r_j137 hp hi hw]
        exact ⟨F2, _, rfl, x2, frH_tr x4 fH⟩
  · -- set
    refine two 20 63 99 rfl rfl rfl rfl (by decide) (by decide) (by decide) (fun one h1 h2 v h3 _ => ⟨by show 3 ≤ 4; omega, fun e => absurd (show 3 ≤ 2 from e) (by decide), fun e => (by cases e), fun _ => ⟨h1, by show one < 64; omega⟩, by show one ≤ 99; omega, by show v ≤ 99; omega⟩) (fun j => ?_) (fun j => ?_)
    · obtain ⟨F', y1, y2, y3⟩ := n2.2 j
      have hle := jn_le (t := t) (k := k1) (lo := 20) (hi := 63)
      refine ⟨F', ?_, y2, frH_tr y3 (frH_G g3)⟩
      rw [rA, if_pos (by decide), m_X12_op1_j29, if_pos (show nI 3 = 3 from rfl), ← n2a, bd_ok y1]
      exact badE F' _ _ _ y2 (by omega) (by omega)
    · obtain ⟨F', y1, y2, y3, y4⟩ := n2.1 j
      have y34 : F' 34 = nI N := (y4 34 (by decide)).trans q34
      have fH := frH_tr y4 (frH_G g3)
      have e1 : m_X12_op1 Fr tp wt (nI (13 * wl)) = m_X12_op1_j128 tp (nI (13 * wl)) (nI 3) (nI (vlA t k1)) F' wt := by
        rw [rA, if_pos (by decide), m_X12_op1_j29, if_pos (show nI 3 = 3 from rfl), ← n2a, bd_ok y1, m_X12_op1_j43, if_pos y3, if_neg (by decide), m_X12_op1_j112, if_pos y3, if_neg (by decide), if_pos (show nI 3 = 3 from rfl)]
      have m2 := r_num (lo := 0) (hi := 99) hY hk2 y2 y3 y34 (by decide) (by decide)
      refine ⟨F', y2, y3, fH, fun h => ?_, fun h => absurd h.2.1 (by decide), fun h => ?_⟩
      · obtain ⟨F2, x1, x2, x3, x4⟩ := m2.1 h.1
        have x1 : m_X12_numberHere F' tp 0 99 = some (nI (vlA t (tkA t N k1.2.2)), F2) := x1
        rw [e1, m_X12_op1_j128, bd_ok x1, r_j137 hp hi hw]
        exact ⟨F2, rfl, x2, x3, frH_tr x4 fH⟩
      · obtain ⟨F2, x1, x2, x4⟩ := m2.2 h
        have x1 : m_X12_numberHere F' tp 0 99 = some (nI 0, F2) := x1
        rw [e1, m_X12_op1_j128, bd_ok x1, r_j137 hp hi hw]
        exact ⟨F2, _, rfl, x2, frH_tr x4 fH⟩
  · -- sweep
    refine ⟨0, Fc, upd wa (4 * wl + i) (nI (packN (4, 0, 0))), Fr1, wrO wt (13 * wl) i (nI 4) 0 0, ?_, ?_, Or.inl ⟨(4, 0, 0), k, rfl, q38, ⟨by show 4 ≤ 4; omega, fun e => absurd (show 4 ≤ 2 from e) (by decide), fun e => (by cases e), fun e => (by cases e), by show 0 ≤ 99; omega, by show 0 ≤ 99; omega⟩, rfl, ⟨_, _, rfl, fun e => absurd (show 4 ≤ 3 from e) (by decide), fun e => (by rcases e with e | e | e <;> cases e)⟩, hk, hC, by rw [hkk]; exact g2, Nat.le_refl _⟩, fun _ _ _ _ _ => rfl, frH_G g3⟩
    · rw [cA (show K_ARGUMENTS 4 = 0 from rfl), if_pos (by decide), m_X6_readOp_j57, rdK (by decide) (show K_ARGUMENTS 4 = 0 from rfl), if_pos (by decide), m_X6_readOp_j85, if_pos rfl, if_neg (by decide)]
      exact c_j107 hT hl hi pack4
    · rw [rA, if_pos (by decide), m_X12_op1_j29, if_neg (by decide), m_X12_op1_j43, if_pos q38, if_neg (by decide), m_X12_op1_j112, if_pos q38, if_neg (by decide), if_neg (by decide), r_j137 hp hi hw]
