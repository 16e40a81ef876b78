/-! ===== what may be told ===== -/
theorem inX {x : Int32} {lo hi : Nat} (hl : lo < 2 ^ 31) (hh : hi < 2 ^ 31) : (m_X12_within x (nI lo) (nI hi) = some 1 ∧ ¬ x < nI lo ∧ x ≤ nI hi ∧ ∃ j, x = nI j ∧ lo ≤ j ∧ j ≤ hi) ∨ (m_X12_within x (nI lo) (nI hi) = some 0 ∧ (x < nI lo ∨ (¬ x < nI lo ∧ ¬ x ≤ nI hi))) := by
  rcases r_withinX (x := x) hl hh with ⟨a, j, rfl, b, c⟩ | ⟨a, b⟩
  · exact Or.inl ⟨a, nI_nlt b (by omega), nI_le c hh, j, rfl, b, c⟩
  · refine Or.inr ⟨a, ?_⟩
    by_cases c : x < nI lo
    · exact Or.inl c
    · refine Or.inr ⟨c, fun d => ?_⟩
      have c0 : ¬ x < 0 := fun e => c (neg_lt e hl)
      obtain ⟨j, hj, rfl⟩ := nI_of c0
      have h1 : ¬ j < lo := fun e => c (nI_lt e hl)
      have h2 : j ≤ hi := (nI_leI hj hh).mp d
      exact b j hj rfl ⟨by omega, h2⟩
theorem rdK {f : Nat → Int32} {j : Nat} {α : Type} {k : Int32 → Option α} {v : Int32} (hj : j < 5) (h : f j = v) : rd f 5 (nI j) k = k v := by rw [rd_nI hj (by decide), h]
def toldP (j : Nat) (a2 a3 : Int32) : Prop := (m_X11_isAsTold (nI j) a2 a3 = some 1 ∧ m_X12_isTold (nI j) a2 a3 = some 1 ∧ ∃ one other, opOK (j, one, other) ∧ m_X11_packOp (nI j) a2 a3 = some (nI (packN (j, one, other))) ∧ (j ≤ 3 → a2 = nI one) ∧ (j = 0 ∨ j = 2 ∨ j = 3 → a3 = nI other)) ∨ (m_X11_isAsTold (nI j) a2 a3 = some 0 ∧ m_X12_isTold (nI j) a2 a3 = some 0)
theorem pack2 {j i k : Nat} (hA : K_ARGUMENTS j = 2) (hj : j < 5) : m_X11_packOp (nI j) (nI i) (nI k) = some (nI (packN (j, i, k))) := by
  rw [m_X11_packOp, rdK hj hA, if_neg (by decide), m_X11_packOp_j13, rdK hj hA, if_neg (by decide), m_X11_packOp_j28, show nI j + 1 = nI (j + 1) from nI_1 _, show (10000 : Int32) = nI 10000 from rfl, show (100 : Int32) = nI 100 from rfl, nI_mulE, nI_mulE, nI_add, nI_add]
  rfl
theorem told_0 {a2 a3 : Int32} : toldP 0 a2 a3 := by
  unfold toldP
  have k1 : K_ARGUMENTS 0 = 2 := rfl
  have k2 : K_FIRST_LEAST 0 = nI 0 := rfl
  have k3 : K_FIRST_MOST 0 = nI 3 := rfl
  have k4 : K_SECOND_MOST 0 = nI 99 := rfl
  rcases inX (x := a2) (lo := 0) (hi := 3) (by decide) (by decide) with ⟨p1, p2, p3, i, rfl, p4, p5⟩ | ⟨p1, p2⟩
  · have p1 : m_X12_within (nI i) 0 3 = some 1 := p1
    rcases inX (x := a3) (lo := 0) (hi := 99) (by decide) (by decide) with ⟨q1, q2, q3, m, rfl, q4, q5⟩ | ⟨q1, q2⟩
    · have q1 : m_X12_within (nI m) 0 99 = some 1 := q1
      refine Or.inl ⟨?_, ?_, i, m, ⟨by show 0 ≤ 4; omega, fun _ => by show i ≤ 3; omega, fun e => (by cases e), fun e => (by cases e), by show i ≤ 99; omega, by show m ≤ 99; omega⟩, pack2 k1 (by decide), fun _ => rfl, fun _ => rfl⟩
      · rw [m_X11_isAsTold, rdK (by decide) k1, if_neg (by decide), rdK (by decide) k2, if_neg p2, rdK (by decide) k3, if_pos p3, m_X11_isAsTold_j28, rdK (by decide) k1, if_neg (by decide), if_neg (show ¬ nI m < 0 from q2), rdK (by decide) k4, if_pos q3, m_X11_isAsTold_j52, if_neg (by decide)]
      · rw [m_X12_isTold, if_neg (by decide), if_neg (by decide), bd_ok p1, if_neg (by decide), if_neg (by decide), if_pos (show nI 0 = 0 from rfl), bd_ok q1, if_neg (by decide)]
    · have q1 : m_X12_within a3 0 99 = some 0 := q1
      refine Or.inr ⟨?_, ?_⟩
      · rw [m_X11_isAsTold, rdK (by decide) k1, if_neg (by decide), rdK (by decide) k2, if_neg p2, rdK (by decide) k3, if_pos p3, m_X11_isAsTold_j28, rdK (by decide) k1, if_neg (by decide)]
        rcases q2 with q2 | ⟨q2, q3⟩
        · rw [if_pos (show a3 < 0 from q2)]
        · rw [if_neg (show ¬ a3 < 0 from q2), rdK (by decide) k4, if_neg q3]
      · rw [m_X12_isTold, if_neg (by decide), if_neg (by decide), bd_ok p1, if_neg (by decide), if_neg (by decide), if_pos (show nI 0 = 0 from rfl), bd_ok q1, if_pos rfl]
  · have p1 : m_X12_within a2 0 3 = some 0 := p1
    refine Or.inr ⟨?_, ?_⟩
    · rw [m_X11_isAsTold, rdK (by decide) k1, if_neg (by decide), rdK (by decide) k2]
      rcases p2 with p2 | ⟨p2, p3⟩
      · rw [if_pos p2]
      · rw [if_neg p2, rdK (by decide) k3, if_neg p3]
    · rw [m_X12_isTold, if_neg (by decide), if_neg (by decide), bd_ok p1, if_pos rfl]
theorem told_1 {a2 a3 : Int32} : toldP 1 a2 a3 := by
  unfold toldP
  have k1 : K_ARGUMENTS 1 = 1 := rfl
  have k2 : K_FIRST_LEAST 1 = nI 0 := rfl
  have k3 : K_FIRST_MOST 1 = nI 3 := rfl
  rcases inX (x := a2) (lo := 0) (hi := 3) (by decide) (by decide) with ⟨p1, p2, p3, i, rfl, p4, p5⟩ | ⟨p1, p2⟩
  · have p1 : m_X12_within (nI i) 0 3 = some 1 := p1
    refine Or.inl ⟨?_, ?_, i, 0, ⟨by show 1 ≤ 4; omega, fun _ => by show i ≤ 3; omega, fun e => (by cases e), fun e => (by cases e), by show i ≤ 99; omega, by show 0 ≤ 99; omega⟩, ?_, fun _ => rfl, fun e => (by omega)⟩
    · rw [m_X11_isAsTold, rdK (by decide) k1, if_neg (by decide), rdK (by decide) k2, if_neg p2, rdK (by decide) k3, if_pos p3, m_X11_isAsTold_j28, rdK (by decide) k1, if_pos (by decide), m_X11_isAsTold_j52, if_neg (by decide)]
    · rw [m_X12_isTold, if_neg (by decide), if_neg (by decide), bd_ok p1, if_neg (by decide), if_pos (show nI 1 = 1 from rfl)]
    · rw [m_X11_packOp, rdK (by decide) k1, if_neg (by decide), m_X11_packOp_j13, rdK (by decide) k1, if_pos (by decide), m_X11_packOp_j28, show nI 1 + 1 = nI 2 from rfl, show (10000 : Int32) = nI 10000 from rfl, show (100 : Int32) = nI 100 from rfl, show (0 : Int32) = nI 0 from rfl, nI_mulE, nI_mulE, nI_add, nI_add]
      rfl
  · have p1 : m_X12_within a2 0 3 = some 0 := p1
    refine Or.inr ⟨?_, ?_⟩
    · rw [m_X11_isAsTold, rdK (by decide) k1, if_neg (by decide), rdK (by decide) k2]
      rcases p2 with p2 | ⟨p2, p3⟩
      · rw [if_pos p2]
      · rw [if_neg p2, rdK (by decide) k3, if_neg p3]
    · rw [m_X12_isTold, if_neg (by decide), if_neg (by decide), bd_ok p1, if_pos rfl]
theorem told_2 {a2 a3 : Int32} : toldP 2 a2 a3 := by
  unfold toldP
  have k1 : K_ARGUMENTS 2 = 2 := rfl
  have k2 : K_FIRST_LEAST 2 = nI 0 := rfl
  have k3 : K_FIRST_MOST 2 = nI 3 := rfl
  have k4 : K_SECOND_MOST 2 = nI 3 := rfl
  rcases inX (x := a2) (lo := 0) (hi := 3) (by decide) (by decide) with ⟨p1, p2, p3, i, rfl, p4, p5⟩ | ⟨p1, p2⟩
  · have p1 : m_X12_within (nI i) 0 3 = some 1 := p1
    rcases inX (x := a3) (lo := 0) (hi := 3) (by decide) (by decide) with ⟨q1, q2, q3, m, rfl, q4, q5⟩ | ⟨q1, q2⟩
    · have q1 : m_X12_within (nI m) 0 3 = some 1 := q1
      by_cases c : nI i = nI m
      · refine Or.inr ⟨?_, ?_⟩
        · rw [m_X11_isAsTold, rdK (by decide) k1, if_neg (by decide), rdK (by decide) k2, if_neg p2, rdK (by decide) k3, if_pos p3, m_X11_isAsTold_j28, rdK (by decide) k1, if_neg (by decide), if_neg (show ¬ nI m < 0 from q2), rdK (by decide) k4, if_pos q3, m_X11_isAsTold_j52, if_pos (show nI 2 = 2 from rfl), if_pos c]
        · rw [m_X12_isTold, if_neg (by decide), if_neg (by decide), bd_ok p1, if_neg (by decide), if_neg (by decide), if_neg (by decide), bd_ok q1, if_neg (by decide), if_pos c]
      · refine Or.inl ⟨?_, ?_, i, m, ⟨by show 2 ≤ 4; omega, fun _ => by show i ≤ 3; omega, fun _ => by show m ≤ 3; omega, fun e => (by cases e), by show i ≤ 99; omega, by show m ≤ 99; omega⟩, pack2 k1 (by decide), fun _ => rfl, fun _ => rfl⟩
        · rw [m_X11_isAsTold, rdK (by decide) k1, if_neg (by decide), rdK (by decide) k2, if_neg p2, rdK (by decide) k3, if_pos p3, m_X11_isAsTold_j28, rdK (by decide) k1, if_neg (by decide), if_neg (show ¬ nI m < 0 from q2), rdK (by decide) k4, if_pos q3, m_X11_isAsTold_j52, if_pos (show nI 2 = 2 from rfl), if_neg c]
        · rw [m_X12_isTold, if_neg (by decide), if_neg (by decide), bd_ok p1, if_neg (by decide), if_neg (by decide), if_neg (by decide), bd_ok q1, if_neg (by decide), if_neg c]
    · have q1 : m_X12_within a3 0 3 = some 0 := q1
      refine Or.inr ⟨?_, ?_⟩
      · rw [m_X11_isAsTold, rdK (by decide) k1, if_neg (by decide), rdK (by decide) k2, if_neg p2, rdK (by decide) k3, if_pos p3, m_X11_isAsTold_j28, rdK (by decide) k1, if_neg (by decide)]
        rcases q2 with q2 | ⟨q2, q3⟩
        · rw [if_pos (show a3 < 0 from q2)]
        · rw [if_neg (show ¬ a3 < 0 from q2), rdK (by decide) k4, if_neg q3]
      · rw [m_X12_isTold, if_neg (by decide), if_neg (by decide), bd_ok p1, if_neg (by decide), if_neg (by decide), if_neg (by decide), bd_ok q1, if_pos rfl]
  · have p1 : m_X12_within a2 0 3 = some 0 := p1
    refine Or.inr ⟨?_, ?_⟩
    · rw [m_X11_isAsTold, rdK (by decide) k1, if_neg (by decide), rdK (by decide) k2]
      rcases p2 with p2 | ⟨p2, p3⟩
      · rw [if_pos p2]
      · rw [if_neg p2, rdK (by decide) k3, if_neg p3]
    · rw [m_X12_isTold, if_neg (by decide), if_neg (by decide), bd_ok p1, if_pos rfl]
theorem told_3 {a2 a3 : Int32} : toldP 3 a2 a3 := by
  unfold toldP
  have k1 : K_ARGUMENTS 3 = 2 := rfl
  have k2 : K_FIRST_LEAST 3 = nI 20 := rfl
  have k3 : K_FIRST_MOST 3 = nI 63 := rfl
  have k4 : K_SECOND_MOST 3 = nI 99 := rfl
  rcases inX (x := a2) (lo := 20) (hi := 63) (by decide) (by decide) with ⟨p1, p2, p3, i, rfl, p4, p5⟩ | ⟨p1, p2⟩
  · have p1 : m_X12_within (nI i) 20 63 = some 1 := p1
    rcases inX (x := a3) (lo := 0) (hi := 99) (by decide) (by decide) with ⟨q1, q2, q3, m, rfl, q4, q5⟩ | ⟨q1, q2⟩
    · have q1 : m_X12_within (nI m) 0 99 = some 1 := q1
      refine Or.inl ⟨?_, ?_, i, m, ⟨by show 3 ≤ 4; omega, fun e => (by have e : 3 ≤ 2 := e; omega), fun e => (by cases e), fun _ => by show 20 ≤ i ∧ i < 64; omega, by show i ≤ 99; omega, by show m ≤ 99; omega⟩, pack2 k1 (by decide), fun _ => rfl, fun _ => rfl⟩
      · rw [m_X11_isAsTold, rdK (by decide) k1, if_neg (by decide), rdK (by decide) k2, if_neg p2, rdK (by decide) k3, if_pos p3, m_X11_isAsTold_j28, rdK (by decide) k1, if_neg (by decide), if_neg (show ¬ nI m < 0 from q2), rdK (by decide) k4, if_pos q3, m_X11_isAsTold_j52, if_neg (by decide)]
      · rw [m_X12_isTold, if_neg (by decide), if_pos (show nI 3 = 3 from rfl), bd_ok p1, if_neg (by decide), bd_ok q1, if_neg (by decide)]
    · have q1 : m_X12_within a3 0 99 = some 0 := q1
      refine Or.inr ⟨?_, ?_⟩
      · rw [m_X11_isAsTold, rdK (by decide) k1, if_neg (by decide), rdK (by decide) k2, if_neg p2, rdK (by decide) k3, if_pos p3, m_X11_isAsTold_j28, rdK (by decide) k1, if_neg (by decide)]
        rcases q2 with q2 | ⟨q2, q3⟩
        · rw [if_pos (show a3 < 0 from q2)]
        · rw [if_neg (show ¬ a3 < 0 from q2), rdK (by decide) k4, if_neg q3]
      · rw [m_X12_isTold, if_neg (by decide), if_pos (show nI 3 = 3 from rfl), bd_ok p1, if_neg (by decide), bd_ok q1, if_pos rfl]
  · have p1 : m_X12_within a2 20 63 = some 0 := p1
    refine Or.inr ⟨?_, ?_⟩
    · rw [m_X11_isAsTold, rdK (by decide) k1, if_neg (by decide), rdK (by decide) k2]
      rcases p2 with p2 | ⟨p2, p3⟩
      · rw [if_pos p2]
      · rw [if_neg p2, rdK (by decide) k3, if_neg p3]
    · rw [m_X12_isTold, if_neg (by decide), if_pos (show nI 3 = 3 from rfl), bd_ok p1, if_pos rfl]
theorem told_4 {a2 a3 : Int32} : toldP 4 a2 a3 := by
  unfold toldP
  have k1 : K_ARGUMENTS 4 = 0 := rfl
  refine Or.inl ⟨?_, ?_, 0, 0, ⟨by show 4 ≤ 4; omega, fun e => (by have e : 4 ≤ 2 := e; omega), fun e => (by cases e), fun e => (by cases e), by show 0 ≤ 99; omega, by show 0 ≤ 99; omega⟩, ?_, fun e => (by omega), fun e => (by omega)⟩
  · rw [m_X11_isAsTold, rdK (by decide) k1, if_pos (by decide), m_X11_isAsTold_j28, rdK (by decide) k1, if_pos (by decide), m_X11_isAsTold_j52, if_neg (by decide)]
  · rw [m_X12_isTold, if_pos (show nI 4 = 4 from rfl)]
  · rw [m_X11_packOp, rdK (by decide) k1, if_pos (by decide), m_X11_packOp_j13, rdK (by decide) k1, if_pos (by decide), m_X11_packOp_j28]
    rfl
theorem toldX {j : Nat} {a2 a3 : Int32} (hj : j ≤ 4) : toldP j a2 a3 := by
  rcases (show j = 0 ∨ j = 1 ∨ j = 2 ∨ j = 3 ∨ j = 4 by omega) with rfl | rfl | rfl | rfl | rfl
  · exact told_0
  · exact told_1
  · exact told_2
  · exact told_3
  · exact told_4
theorem lr_later {n : Nat} {S : LwS} (h : LR n S) (a1 a2 a3 a4 a5 : Int32) : ∃ T, sL_later S a1 a2 a3 a4 a5 = some T ∧ LR (n + 1) T := by
  obtain ⟨mode, G, I, b1, b2, b3, b4⟩ := id h
  have hC := LX_cm b1
  have hV := b1.2.1.1
  have hR : RM (S.2.1 1) 0 G.1 := b1.2.2.2.1.1
  have hm2 := b1.1
  have hF : S.2.1 0 12 = nI mode := b1.2.2.2.2
  have h4 : upd (S.2.1 0) 4 0 4 = 0 := upd_eq
  have h41 : upd (upd (S.2.1 0) 4 0) 4 1 4 = 1 := upd_eq
  have hF1 : upd (S.2.1 0) 4 0 12 = nI mode := by rw [upd_ne (by decide)]; exact hF
  have rf : m_X12_refuses (S.2.1 4) 1 = some (-1, upd (S.2.1 4) 1 (S.2.1 4 1 + 1)) := r_refuse (k := 1) (by decide)
  have hw12 := hV.2.2.1.1
  have r777 : ∀ {α : Type} (k : Int32 → Option α), rd (S.2.1 1) 66100 777 k = k (nI (gW G.1).length) := fun k => by
    rw [show (777 : Int32) = nI 777 from rfl, rd_nI (by decide) (by decide), show S.2.1 1 777 = nI (gW G.1).length from hR.2.2.1.1]
  have no : ∀ j : Nat, j ≤ 4 → a1 = nI j → m_X12_within (nI j) 0 4 = some 1 → (12 ≤ (gW G.1).length ∨ ((gW G.1).length < 12 ∧ m_X11_isAsTold (nI j) a2 a3 = some 0 ∧ m_X12_isTold (nI j) a2 a3 = some 0)) → ∃ T, sL_later S a1 a2 a3 a4 a5 = some T ∧ LR (n + 1) T := by
    intro j hj e wa hc
    subst e
    have j48 : m_X11_later_j48 (S.1.1 5) (S.1.1 6) (S.1.1 7) (S.1.1 8) (S.1.1 9) (S.1.1 10) (S.1.1 11) (S.1.1 13) (nI j) a2 a3 (S.1.1 3) (S.1.1 14) (S.1.1 12) (S.1.1 17) S.1.2.1 = some (0, -1, S.1.1 3, S.1.1 14, S.1.1 12, upd (S.1.1 17) 1 (S.1.1 17 1 + 1), S.1.2.1) := by
      rw [m_X11_later_j48, bd_ok c_refuse]
    have j43 : m_X12_later_j43 (nI j) a2 a3 (upd (S.2.1 0) 4 0) (S.2.1 1) (S.2.1 4) = some (-1, upd (S.2.1 0) 4 0, S.2.1 1, upd (S.2.1 4) 1 (S.2.1 4 1 + 1)) := by
      rw [m_X12_later_j43, bd_ok rf]
    obtain ⟨o, ho⟩ := sh_0 (S := S) (a := 11) (b := 432) (K := 1) (x := -1) (C := (upC (upC (upC (upC S.1.1 3 (S.1.1 3)) 14 (S.1.1 14)) 12 (S.1.1 12)) 17 (upd (S.1.1 17) 1 (S.1.1 17 1 + 1)), S.1.2.1, S.1.2.2.1, S.1.2.2.2)) (M := upC (upC (upC S.2.1 0 (upd (S.2.1 0) 4 0)) 1 (S.2.1 1)) 4 (upd (S.2.1 4) 1 (S.2.1 4 1 + 1))) (r := pX_later S.1 (nI j) a2 a3) (p := pM_later S.2.1 (nI j) a2 a3) (by
      unfold pX_later
      rw [m_X11_later, if_neg (show ¬ nI j < 0 from nI_pos (by omega)), if_pos (show nI j < 5 from nI_lt (b := 5) (by omega) (by decide)), hC.2.2.1.1]
      rcases hc with hc | ⟨hc, c1, c2⟩
      · rw [if_pos (show (12 : Int32) ≤ nI (gW G.1).length from nI_le (a := 12) hc (by omega)), j48, bd_ok rfl]
      · rw [if_neg (show ¬ (12 : Int32) ≤ nI (gW G.1).length from nI_ge (b := 12) hc (by decide)), bd_ok c1, if_pos rfl, j48, bd_ok rfl]) (by
      unfold pM_later
      rw [m_X12_later, nm, bd_ok wa, bd_ok (r_right1 h4)]
      dsimp only
      rw [if_neg (show ¬ (1 : Int32) = 0 by decide), r777]
      rcases hc with hc | ⟨hc, c1, c2⟩
      · rw [if_pos (show nI (gW G.1).length = 12 by rw [show (gW G.1).length = 12 by omega]; rfl), j43, bd_ok rfl]
      · rw [if_neg (show ¬ nI (gW G.1).length = 12 from fun e => by have := nI_inj (b := 12) (by omega) (by decide) e; omega), bd_ok c2, if_pos rfl, j43, bd_ok rfl]) h4
    exact ⟨_, ho, lr_refuse (k := 1) h (by decide) ⟨rfl, rfl, rfl, rfl, rfl, rfl, rfl, rfl, rfl, rfl, rfl, rfl, rfl⟩ rfl ⟨rfl, rfl, rfl, rfl, rfl, rfl⟩ fq0 (fun _ _ => rfl) rfl rfl rfl rfl (by omega) (by omega)⟩
  rcases r_withinX (x := a1) (lo := 0) (hi := 4) (by decide) (by decide) with ⟨wa, j, hj, w1, w2⟩ | ⟨wa, wb⟩
  · subst hj
    have wa : m_X12_within (nI j) 0 4 = some 1 := wa
    by_cases c12 : 12 ≤ (gW G.1).length
    · exact no j w2 rfl wa (Or.inl c12)
    · rcases toldX (j := j) (a2 := a2) (a3 := a3) w2 with ⟨c1, c2, one, other, c3, c4, c5, c6⟩ | ⟨c1, c2⟩
      · obtain ⟨F3, wa', q1, q2, q3⟩ := c_addWaiting (o := (j, one, other)) hC c3 (by omega)
        obtain ⟨Fh', hs', k1, k2, k3⟩ := cq_keep (T := (S.1.1 3, S.1.1 5, S.1.1 6, S.1.1 7, S.1.1 8, S.1.1 9, S.1.1 10, S.1.1 11, S.1.1 12, S.1.1 13)) b1.2.2.1.2.1 hV hC
        have k1 : m_keep (S.1.1 14) S.1.2.1 (S.1.1 3, S.1.1 5, S.1.1 6, S.1.1 7, S.1.1 8, S.1.1 9, S.1.1 10, S.1.1 11, S.1.1 12, S.1.1 13) = some (Fh', hs') := k1
        obtain ⟨t, t1, t2, t3⟩ := r_tries hR hV
        obtain ⟨r, g1, g2, g3⟩ := r_waits (b := 786) (op := j) (one := one) (other := other) (p3 := a2) (p4 := a3) t2 hV c3 (by omega) (by decide) c5 c6
        have g1 : m_X12_waits t 786 (nI j) a2 a3 = some r := g1
        have hVf := VM_add hV c3 (by omega)
        have hfrq := frRq g3 t3
        have hRH' : RH (upd (S.2.1 0) 4 0 6) (upd (S.2.1 0) 4 0 5) r 2358 G.2.1 := by
          rw [upd_ne (by decide), upd_ne (by decide)]
          exact RH_fr b1.2.1.2.1 (fun i hi => hfrq _ (by omega)) b1.2.2.2.1.2.1
        have hlen : (gW (addA (j, one, other) G.1)).length = (gW G.1).length + 1 := by
          show (gW G.1 ++ [[(j, one, other)]]).length = _
          rw [List.length_append, List.length_singleton]
        obtain ⟨F2, r2, d1, d2, d3, d4, d5⟩ := r_isDone (re := S.2.1 4) (x := nI ((gW G.1).length + 1)) (mode := mode) (nI_ne1 (by omega)) hRH' b1.2.1.2.1 hV hVf (RM_move hV (fun i hi => hfrq _ (by omega)) hR) g2
        have r1563 : ∀ {α : Type} (k : Int32 → Option α), rd r 66100 1563 k = k (nI ((gW G.1).length + 1)) := fun k => by
          rw [show (1563 : Int32) = nI (786 + 777) from rfl, rd_nI (by decide) (by decide), g2.2.2.1.1, hlen]
        obtain ⟨o, ho⟩ := sh_0 (S := S) (a := 11) (b := 432) (K := 1) (x := nI ((gW G.1).length + 1)) (C := (upC (upC (upC (upC S.1.1 3 F3) 14 Fh') 12 wa') 17 (S.1.1 17), hs', S.1.2.2.1, S.1.2.2.2)) (M := upC (upC (upC S.2.1 0 F2) 1 r2) 4 (S.2.1 4)) (r := pX_later S.1 (nI j) a2 a3) (p := pM_later S.2.1 (nI j) a2 a3) (by
          unfold pX_later
          rw [m_X11_later, if_neg (show ¬ nI j < 0 from nI_pos (by omega)), if_pos (show nI j < 5 from nI_lt (b := 5) (by omega) (by decide)), hC.2.2.1.1, if_neg (show ¬ (12 : Int32) ≤ nI (gW G.1).length from nI_ge (b := 12) (by omega) (by decide)), bd_ok c1, if_neg (by decide), bd_ok k1, bd_ok c4, bd_ok q1]
          dsimp only
          rw [q2, bd_ok rfl]) (by
          unfold pM_later
          rw [m_X12_later, nm, bd_ok wa, bd_ok (r_right1 h4)]
          dsimp only
          rw [if_neg (show ¬ (1 : Int32) = 0 by decide), r777, if_neg (show ¬ nI (gW G.1).length = 12 from fun e => by have := nI_inj (b := 12) (by omega) (by decide) e; omega), bd_ok c2, if_neg (by decide), bd_ok t1, bd_ok g1, r1563, bd_ok d1, bd_ok rfl]) (show F2 4 = 0 by rw [d4 4 (by decide) (by decide)]; exact h4)
        exact ⟨_, ho, lr_act (A := addA (j, one, other) G.1) b1 b2 b3 b4 hVf q3 k2 rfl rfl rfl ⟨rfl, rfl, rfl, rfl, rfl, rfl⟩ k3 d2 d3 (fun i p q => (d4 i (by omega) (by omega)).trans (fq0 i (by omega) q)) (fun i hi => (d5 i hi).trans (hfrq i (by omega))) rfl rfl rfl rfl (by omega) (by omega)⟩
      · exact no j w2 rfl wa (Or.inr ⟨by omega, c1, c2⟩)
  · have wa : m_X12_within a1 0 4 = some 0 := wa
    obtain ⟨o, ho⟩ := sh_1 (S := S) (a := 11) (b := 432) (K := 1) (x := 0) (y := 0) (C := (upC (upC (upC (upC S.1.1 3 (S.1.1 3)) 14 (S.1.1 14)) 12 (S.1.1 12)) 17 (S.1.1 17), S.1.2.1, S.1.2.2.1, S.1.2.2.2)) (M := upC (upC (upC S.2.1 0 (upd (upd (S.2.1 0) 4 0) 4 1)) 1 (S.2.1 1)) 4 (S.2.1 4)) (r := pX_later S.1 a1 a2 a3) (p := pM_later S.2.1 a1 a2 a3) (by decide) (by
      unfold pX_later
      rw [m_X11_later]
      by_cases c : a1 < 0
      · rw [if_pos c, bd_ok rfl]
      · obtain ⟨j, hj, rfl⟩ := nI_of c
        have := wb j hj rfl
        rw [if_neg c, if_neg (show ¬ nI j < 5 from nI_nlt (b := 5) (by omega) hj), bd_ok rfl]) (by
      unfold pM_later
      rw [m_X12_later, nm, bd_ok wa, bd_ok (r_right0 h4 (by decide))]
      dsimp only
      rw [if_pos rfl, bd_ok rfl]) h41
    exact ⟨_, ho, lr_query h ⟨rfl, rfl, rfl, rfl, rfl, rfl, rfl, rfl, rfl, rfl, rfl, rfl, rfl, rfl⟩ ⟨rfl, rfl, rfl, rfl, rfl, rfl⟩ fq1 (fun _ _ => rfl) rfl rfl rfl rfl (by omega) (by omega)⟩
/-! what is seen -/
theorem lr_forget {n : Nat} {S : LwS} (h : LR n S) (a1 a2 a3 a4 a5 : Int32) : ∃ T, sL_forget S a1 a2 a3 a4 a5 = some T ∧ LR (n + 1) T := by
  obtain ⟨mode, G, I, b1, b2, b3, b4⟩ := id h
  have hC := LX_cm b1
  have hV := b1.2.1.1
  have hR : RM (S.2.1 1) 0 G.1 := b1.2.2.2.1.1
  have hm2 := b1.1
  have hF : S.2.1 0 12 = nI mode := b1.2.2.2.2
  have h4 : upd (S.2.1 0) 4 0 4 = 0 := upd_eq
  have h41 : upd (upd (S.2.1 0) 4 0) 4 1 4 = 1 := upd_eq
  have hF1 : upd (S.2.1 0) 4 0 12 = nI mode := by rw [upd_ne (by decide)]; exact hF
  have rf : m_X12_refuses (S.2.1 4) 1 = some (-1, upd (S.2.1 4) 1 (S.2.1 4 1 + 1)) := r_refuse (k := 1) (by decide)
  refine ⟨_, ?_, lr_new (G' := (G.1, G.2.1, [], G.2.2.2)) (C := (upC S.1.1 2 (upd (S.1.1 2) 3 0), S.1.2.1, S.1.2.2.1, S.1.2.2.2)) (M := upC S.2.1 0 (upd (upd (S.2.1 0) 4 0) 7 0)) (o := S.2.2.1) (x := S.2.2.2.1 + 0) (y := S.2.2.2.2 + 0) b1 b2 b3 b4 ⟨hV, b1.2.1.2.1, Nat.zero_le _, fun q hq => (by cases hq)⟩ ⟨b1.2.2.1.1, b1.2.2.1.2.1, ⟨?_, fun k q hk => (by cases hk)⟩, b1.2.2.1.2.2.2⟩ ⟨hR, ?_, ⟨?_, fun k q hk => (by cases hk)⟩, b1.2.2.2.1.2.2.2⟩ ⟨rfl, rfl, rfl, rfl, rfl, rfl⟩ rfl (Nat.le_refl _) (fun i p q => ?_) (fun _ _ => rfl) (fun _ _ => rfl) (fun _ _ => rfl) (fun _ _ => rfl) rfl (by omega) (by omega)⟩
  · unfold sL_forget pX_forget pM_forget
    rw [m_X11_forget, nm, bd_ok rfl, bd_ok rfl, m_X12_forget, nm, nm, bd_ok rfl, bd_ok rfl]
  · show upd (S.1.1 2) 3 0 3 = nI 0
    exact upd_eq
  · show RH (upd (upd (S.2.1 0) 4 0) 7 0 6) (upd (upd (S.2.1 0) 4 0) 7 0 5) (S.2.1 1) 2358 G.2.1
    rw [upd_ne (by decide), upd_ne (by decide), upd_ne (by decide), upd_ne (by decide)]
    exact b1.2.2.2.1.2.1
  · show upd (upd (S.2.1 0) 4 0) 7 0 7 = nI 0
    exact upd_eq
  · show upd (upd (S.2.1 0) 4 0) 7 0 i = _
    rw [upd_ne (by omega), upd_ne (by omega)]
theorem lr_see {n : Nat} {S : LwS} (h : LR n S) (a1 a2 a3 a4 a5 : Int32) : ∃ T, sL_see S a1 a2 a3 a4 a5 = some T ∧ LR (n + 1) T := by
  obtain ⟨mode, G, I, b1, b2, b3, b4⟩ := id h
  have hC := LX_cm b1
  have hV := b1.2.1.1
  have hR : RM (S.2.1 1) 0 G.1 := b1.2.2.2.1.1
  have hm2 := b1.1
  have hF : S.2.1 0 12 = nI mode := b1.2.2.2.2
  have h4 : upd (S.2.1 0) 4 0 4 = 0 := upd_eq
  have h41 : upd (upd (S.2.1 0) 4 0) 4 1 4 = 1 := upd_eq
  have hF1 : upd (S.2.1 0) 4 0 12 = nI mode := by rw [upd_ne (by decide)]; exact hF
  have rf : m_X12_refuses (S.2.1 4) 1 = some (-1, upd (S.2.1 4) 1 (S.2.1 4 1 + 1)) := r_refuse (k := 1) (by decide)
  have hl8 := b1.2.1.2.2.1
  have s1 : S.1.1 2 3 = nI G.2.2.1.length := b1.2.2.1.2.2.1.1
  have s2 : S.2.1 0 7 = nI G.2.2.1.length := b1.2.2.2.1.2.2.1.1
  have s2' : upd (S.2.1 0) 4 0 7 = nI G.2.2.1.length := by rw [upd_ne (by decide)]; exact s2
  have rf2 : m_X12_refuses (S.2.1 4) 2 = some (-1, upd (S.2.1 4) 2 (S.2.1 4 2 + 1)) := r_refuse (k := 2) (by decide)
  have j30 : m_X11_see_j30 a1 a2 (S.1.1 2) (S.1.1 16) (S.1.1 17) = some (-1, S.1.1 2, S.1.1 16, upd (S.1.1 17) 2 (S.1.1 17 2 + 1)) := by
    rw [m_X11_see_j30, show rd (S.1.1 17) 3 2 _ = rd (S.1.1 17) 3 (nI 2) _ from rfl, rd_nI (by decide) (by decide), show wr (S.1.1 17) 3 2 _ _ = wr (S.1.1 17) 3 (nI 2) _ _ from rfl, wr_nI (by decide) (by decide)]
  have j35 : m_X12_see_j35 a1 a2 (upd (S.2.1 0) 4 0) (S.2.1 2) (S.2.1 3) (S.2.1 4) = some (-1, upd (S.2.1 0) 4 0, S.2.1 2, S.2.1 3, upd (S.2.1 4) 2 (S.2.1 4 2 + 1)) := by
    rw [m_X12_see_j35, bd_ok rf2]
  have no : m_X11_see (S.1.1 2) (S.1.1 16) (S.1.1 17) a1 a2 = some (-1, S.1.1 2, S.1.1 16, upd (S.1.1 17) 2 (S.1.1 17 2 + 1)) → m_X12_see (S.2.1 0) (S.2.1 2) (S.2.1 3) (S.2.1 4) a1 a2 = some (-1, upd (S.2.1 0) 4 0, S.2.1 2, S.2.1 3, upd (S.2.1 4) 2 (S.2.1 4 2 + 1)) → ∃ T, sL_see S a1 a2 a3 a4 a5 = some T ∧ LR (n + 1) T := by
    intro e1 e2
    refine ⟨_, ?_, lr_refuse (k := 2) (bt := S.1.2.2.2) (c := upC (upC (upC S.1.1 2 (S.1.1 2)) 16 (S.1.1 16)) 17 (upd (S.1.1 17) 2 (S.1.1 17 2 + 1))) (M := upC (upC (upC (upC S.2.1 0 (upd (S.2.1 0) 4 0)) 2 (S.2.1 2)) 3 (S.2.1 3)) 4 (upd (S.2.1 4) 2 (S.2.1 4 2 + 1))) (o := S.2.2.1) (x := S.2.2.2.1 + 0) (y := S.2.2.2.2 + 0) h (by decide) ⟨rfl, rfl, rfl, rfl, rfl, rfl, rfl, rfl, rfl, rfl, rfl, rfl, rfl⟩ rfl ⟨rfl, rfl, rfl, rfl, rfl, rfl⟩ fq0 (fun _ _ => rfl) rfl rfl rfl rfl (by omega) (by omega)⟩
    unfold sL_see pX_see pM_see
    rw [bd_ok e1, bd_ok rfl, bd_ok e2, bd_ok rfl, if_pos rfl]
  by_cases c8 : G.2.2.1.length = 8
  · refine no ?_ ?_
    · rw [m_X11_see, s1, if_pos (show (8 : Int32) ≤ nI G.2.2.1.length from nI_le (a := 8) (by omega) (by omega)), j30]
    · rw [m_X12_see, nm, if_pos (show upd (S.2.1 0) 4 0 7 = 8 by rw [s2', c8]; rfl), j35]
  · have n8 : ¬ (8 : Int32) ≤ nI G.2.2.1.length := nI_ge (b := 8) (by omega) (by decide)
    have m8 : ¬ upd (S.2.1 0) 4 0 7 = 8 := by rw [s2']; exact fun e => c8 (nI_inj (b := 8) (by omega) (by decide) e)
    rcases c_isWordX (x := a1) with ⟨w1, w, rfl, w2⟩ | ⟨w1, w2⟩
    · have hw : m_X12_within (nI w) 0 63 = some 1 := (r_within (lo := 0) (hi := 63) (by omega) (by decide) (by decide)).trans (by rw [if_pos (by omega)]; rfl)
      rcases inX (x := a2) (lo := 0) (hi := 999) (by decide) (by decide) with ⟨q1, q2, q3, v, rfl, q4, q5⟩ | ⟨q1, q2⟩
      · have q1 : m_X12_within (nI v) 0 999 = some 1 := q1
        have hG' : VG mode (G.1, G.2.1, G.2.2.1 ++ [(w, v)], G.2.2.2) := by
          refine ⟨hV, b1.2.1.2.1, ?_, fun q hq => ?_⟩
          · show (G.2.2.1 ++ [(w, v)]).length ≤ 8
            rw [List.length_append, List.length_singleton]; omega
          · have hq : q ∈ G.2.2.1 ++ [(w, v)] := hq
            rcases List.mem_append.mp hq with hq | hq
            · exact b1.2.1.2.2.2 q hq
            · rw [List.mem_singleton.mp hq]; exact ⟨w2, q5⟩
        refine ⟨_, ?_, lr_new (G' := (G.1, G.2.1, G.2.2.1 ++ [(w, v)], G.2.2.2)) (C := (upC (upC (upC S.1.1 2 (upd (S.1.1 2) 3 (nI (G.2.2.1.length + 1)))) 16 (upd (S.1.1 16) G.2.2.1.length (nI (w * 1000 + v)))) 17 (S.1.1 17), S.1.2.1, S.1.2.2.1, S.1.2.2.2)) (M := upC (upC (upC (upC S.2.1 0 (upd (upd (S.2.1 0) 4 0) 7 (nI (G.2.2.1.length + 1)))) 2 (upd (S.2.1 2) G.2.2.1.length (nI w))) 3 (upd (S.2.1 3) G.2.2.1.length (nI v))) 4 (S.2.1 4)) (o := S.2.2.1) (x := S.2.2.2.1 + 0) (y := S.2.2.2.2 + 0) b1 b2 b3 b4 hG' ⟨b1.2.2.1.1, b1.2.2.1.2.1, ⟨?_, fun k q hk => ?_⟩, b1.2.2.1.2.2.2⟩ ⟨hR, ?_, ⟨?_, fun k q hk => ?_⟩, b1.2.2.2.1.2.2.2⟩ ⟨rfl, rfl, rfl, rfl, rfl, rfl⟩ rfl (Nat.le_refl _) (fun i p q => ?_) (fun _ _ => rfl) (fun k hk => ?_) (fun k hk => ?_) (fun _ _ => rfl) rfl (by omega) (by omega)⟩
        · unfold sL_see pX_see pM_see
          have x1 : m_X11_see (S.1.1 2) (S.1.1 16) (S.1.1 17) (nI w) (nI v) = some (nI (G.2.2.1.length + 1), upd (S.1.1 2) 3 (nI (G.2.2.1.length + 1)), upd (S.1.1 16) G.2.2.1.length (nI (w * 1000 + v)), S.1.1 17) := by
            rw [m_X11_see, s1, if_neg n8, bd_ok w1, if_neg (by decide), if_neg (show ¬ nI v < 0 from q2), if_pos (show nI v ≤ 999 from q3), show (1000 : Int32) = nI 1000 from rfl, nI_mulE, nI_add, wr_nI (by omega) (by decide), nm, show nI G.2.2.1.length + 1 = nI (G.2.2.1.length + 1) from nI_1 _, upd_eq]
          have x2 : m_X12_see (S.2.1 0) (S.2.1 2) (S.2.1 3) (S.2.1 4) (nI w) (nI v) = some (nI (G.2.2.1.length + 1), upd (upd (S.2.1 0) 4 0) 7 (nI (G.2.2.1.length + 1)), upd (S.2.1 2) G.2.2.1.length (nI w), upd (S.2.1 3) G.2.2.1.length (nI v), S.2.1 4) := by
            rw [m_X12_see, nm, if_neg m8, bd_ok hw, if_neg (by decide), bd_ok q1, if_neg (by decide), s2', wr_nI (by omega) (by decide), wr_nI (by omega) (by decide), nm, show nI G.2.2.1.length + 1 = nI (G.2.2.1.length + 1) from nI_1 _, upd_eq]
          rw [bd_ok x1, bd_ok rfl, bd_ok x2, bd_ok rfl, if_pos rfl]
        · show upd (S.1.1 2) 3 (nI (G.2.2.1.length + 1)) 3 = nI (G.2.2.1 ++ [(w, v)]).length
          rw [upd_eq, List.length_append, List.length_singleton]
        · show upd (S.1.1 16) G.2.2.1.length (nI (w * 1000 + v)) k = _
          rcases snoc_get hk with ⟨p1, p2⟩ | ⟨p1, p2⟩
          · rw [upd_ne (by omega)]; exact b1.2.2.1.2.2.1.2 k q p2
          · rw [p1, p2, upd_eq]
        · show RH (upd (upd (S.2.1 0) 4 0) 7 (nI (G.2.2.1.length + 1)) 6) (upd (upd (S.2.1 0) 4 0) 7 (nI (G.2.2.1.length + 1)) 5) (S.2.1 1) 2358 G.2.1
          rw [upd_ne (by decide), upd_ne (by decide), upd_ne (by decide), upd_ne (by decide)]
          exact b1.2.2.2.1.2.1
        · show upd (upd (S.2.1 0) 4 0) 7 (nI (G.2.2.1.length + 1)) 7 = nI (G.2.2.1 ++ [(w, v)]).length
          rw [upd_eq, List.length_append, List.length_singleton]
        · show upd (S.2.1 2) G.2.2.1.length (nI w) (0 + k) = nI q.1 ∧ upd (S.2.1 3) G.2.2.1.length (nI v) (0 + k) = nI q.2
          rw [Nat.zero_add]
          rcases snoc_get hk with ⟨p1, p2⟩ | ⟨p1, p2⟩
          · rw [upd_ne (by omega), upd_ne (by omega)]
            have := b1.2.2.2.1.2.2.1.2 k q p2
            rw [Nat.zero_add] at this; exact this
          · rw [p1, p2, upd_eq, upd_eq]; exact ⟨rfl, rfl⟩
        · show upd (upd (S.2.1 0) 4 0) 7 (nI (G.2.2.1.length + 1)) i = _
          rw [upd_ne (by omega), upd_ne (by omega)]
        · show upd (S.2.1 2) G.2.2.1.length (nI w) k = _
          rw [upd_ne (by omega)]
        · show upd (S.2.1 3) G.2.2.1.length (nI v) k = _
          rw [upd_ne (by omega)]
      · have q1 : m_X12_within a2 0 999 = some 0 := q1
        refine no ?_ ?_
        · rw [m_X11_see, s1, if_neg n8, bd_ok w1, if_neg (by decide)]
          rcases q2 with q2 | ⟨q2, q3⟩
          · rw [if_pos (show a2 < 0 from q2), j30]
          · rw [if_neg (show ¬ a2 < 0 from q2), if_neg (show ¬ a2 ≤ 999 from q3), j30]
        · rw [m_X12_see, nm, if_neg m8, bd_ok hw, if_neg (by decide), bd_ok q1, if_pos rfl, j35]
    · refine no ?_ ?_
      · rw [m_X11_see, s1, if_neg n8, bd_ok w1, if_pos rfl, j30]
      · rcases r_withinX (x := a1) (lo := 0) (hi := 63) (by decide) (by decide) with ⟨a, j, b, c, d⟩ | ⟨a, b⟩
        · exact absurd (show j < 64 by omega) (w2 j (by omega) b)
        · have a : m_X12_within a1 0 63 = some 0 := a
          rw [m_X12_see, nm, if_neg m8, bd_ok a, if_pos rfl, j35]
