/-! ===== the tape ===== -/
theorem and255 (y : Int32) : ∃ t, t < 256 ∧ y &&& 255 = nI t := by
  refine ⟨(y.toBitVec &&& 255#32).toNat, ?_, ?_⟩
  · rw [BitVec.toNat_and]
    exact Nat.lt_of_le_of_lt Nat.and_le_right (by decide)
  · apply Int32.toBitVec_inj.mp
    rw [nI_bv, BitVec.ofNat_toNat, BitVec.setWidth_eq, Int32.toBitVec_and]
    rfl
def byI (x : Int32) (k : Nat) : Int32 := (x >>> (nI (24 - 8 * k) &&& 31)) &&& 255
theorem put_step {x s : Int32} {a F : Nat → Int32} {n fuel : Nat} (h : F 1 = nI n) (hn : n < 700) (hs : ¬ s < 0) : m_X11_putBytes_w3 x (fuel + 1) s F a = m_X11_putBytes_w3 x fuel (s + (-8)) (upd F 1 (nI (n + 1))) (upd a n ((x >>> (s &&& 31)) &&& 255)) := by
  rw [m_X11_putBytes_w3, if_neg hs, h, wr_nI hn (by decide), nm, nm, show nI n + 1 = nI (n + 1) from nI_1 _]
theorem c_putBytes {F a : Nat → Int32} {n : Nat} {x : Int32} (h : F 1 = nI n) (hn : n + 4 ≤ 700) : ∃ F' a', m_X11_putBytes F a x = some (F', a') ∧ F' 1 = nI (n + 4) ∧ (∀ j, ¬ j = 1 → F' j = F j) ∧ (∀ k, k < 4 → a' (n + k) = byI x k) ∧ ∀ j, (j < n ∨ n + 4 ≤ j) → a' j = a j := by
  refine ⟨upd (upd (upd (upd F 1 (nI (n + 1))) 1 (nI (n + 1 + 1))) 1 (nI (n + 2 + 1))) 1 (nI (n + 3 + 1)), upd (upd (upd (upd a n (byI x 0)) (n + 1) (byI x 1)) (n + 2) (byI x 2)) (n + 3) (byI x 3), ?_, upd_eq, fun j hj => ?_, fun k hk => ?_, fun j hj => ?_⟩
  · rw [m_X11_putBytes, show fuelN = 99995 + 1 + 1 + 1 + 1 + 1 from rfl, put_step (n := n) h (by omega) (by decide), show (24 : Int32) + (-8) = 16 from rfl, put_step (n := n + 1) upd_eq (by omega) (by decide), show (16 : Int32) + (-8) = 8 from rfl, put_step (n := n + 2) upd_eq (by omega) (by decide), show (8 : Int32) + (-8) = 0 from rfl, put_step (n := n + 3) upd_eq (by omega) (by decide), m_X11_putBytes_w3, if_pos (by decide)]
    rfl
  · rw [upd_ne hj, upd_ne hj, upd_ne hj, upd_ne hj]
  · rcases (show k = 0 ∨ k = 1 ∨ k = 2 ∨ k = 3 by omega) with rfl | rfl | rfl | rfl
    · rw [upd_ne (by omega), upd_ne (by omega), upd_ne (by omega), Nat.add_zero, upd_eq]
    · rw [upd_ne (by omega), upd_ne (by omega), upd_eq]
    · rw [upd_ne (by omega), upd_eq]
    · rw [upd_eq]
  · rw [upd_ne (by omega), upd_ne (by omega), upd_ne (by omega), upd_ne (by omega)]
def v5 (a b c d e : Int32) (i : Nat) : Int32 := if i = 0 then a else if i = 1 then b else if i = 2 then c else if i = 3 then d else e
theorem c_feed {F a : Nat → Int32} {n : Nat} {p1 p2 p3 p4 p5 : Int32} (h : F 1 = nI n) (hn : n + 20 ≤ 700) : ∃ F' a', m_X11_feed F a p1 p2 p3 p4 p5 = some (nI (n + 20), F', a') ∧ F' 1 = nI (n + 20) ∧ (∀ j, ¬ j = 1 → F' j = F j) ∧ (∀ k, k < 20 → a' (n + k) = byI (v5 p1 p2 p3 p4 p5 (k / 4)) (k % 4)) ∧ ∀ j, (j < n ∨ n + 20 ≤ j) → a' j = a j := by
  obtain ⟨F1, a1, x1, y1, z1, u1, w1⟩ := c_putBytes (a := a) (x := p1) h (by omega)
  obtain ⟨F2, a2, x2, y2, z2, u2, w2⟩ := c_putBytes (a := a1) (x := p2) y1 (by omega)
  obtain ⟨F3, a3, x3, y3, z3, u3, w3⟩ := c_putBytes (a := a2) (x := p3) y2 (by omega)
  obtain ⟨F4, a4, x4, y4, z4, u4, w4⟩ := c_putBytes (a := a3) (x := p4) y3 (by omega)
  obtain ⟨F5, a5, x5, y5, z5, u5, w5⟩ := c_putBytes (a := a4) (x := p5) y4 (by omega)
  refine ⟨F5, a5, ?_, y5, fun j hj => by rw [z5 j hj, z4 j hj, z3 j hj, z2 j hj, z1 j hj], fun k hk => ?_, fun j hj => by rw [w5 j (by omega), w4 j (by omega), w3 j (by omega), w2 j (by omega), w1 j (by omega)]⟩
  · rw [m_X11_feed, h, show (20 : Int32) = nI 20 from rfl, nI_add, if_pos (show nI (n + 20) ≤ 700 from nI_le (b := 700) hn (by decide)), bd_ok x1, bd_ok x2, bd_ok x3, bd_ok x4, bd_ok x5]
    dsimp only
    rw [y5]
  · unfold v5
    rcases (show k / 4 = 0 ∨ k / 4 = 1 ∨ k / 4 = 2 ∨ k / 4 = 3 ∨ k / 4 = 4 by omega) with e | e | e | e | e
    · rw [e, if_pos rfl, w5 _ (by omega), w4 _ (by omega), w3 _ (by omega), w2 _ (by omega), ← u1 (k % 4) (by omega)]
      congr 1; omega
    · rw [e, if_neg (by decide), if_pos rfl, w5 _ (by omega), w4 _ (by omega), w3 _ (by omega), ← u2 (k % 4) (by omega)]
      congr 1; omega
    · rw [e, if_neg (by decide), if_neg (by decide), if_pos rfl, w5 _ (by omega), w4 _ (by omega), ← u3 (k % 4) (by omega)]
      congr 1; omega
    · rw [e, if_neg (by decide), if_neg (by decide), if_neg (by decide), if_pos rfl, w5 _ (by omega), ← u4 (k % 4) (by omega)]
      congr 1; omega
    · rw [e, if_neg (by decide), if_neg (by decide), if_neg (by decide), if_neg (by decide), ← u5 (k % 4) (by omega)]
      congr 1; omega
theorem r_feed {F a : Nat → Int32} {n : Nat} {p1 p2 p3 p4 p5 : Int32} (h : F 14 = nI n) (hn : n + 20 ≤ 700) : ∃ F' a', m_X12_feed F a p1 p2 p3 p4 p5 = some (nI (n + 20), F', a') ∧ F' 14 = nI (n + 20) ∧ (∀ j, ¬ j = 14 → ¬ j = 4 → F' j = F j) ∧ (∀ k, k < 20 → a' (n + k) = byI (v5 p1 p2 p3 p4 p5 (k / 4)) (k % 4)) ∧ ∀ j, (j < n ∨ n + 20 ≤ j) → a' j = a j := by
  have h' : upd F 4 0 14 = nI n := by rw [upd_ne (by decide)]; exact h
  obtain ⟨a', ⟨x1, x2⟩, x3⟩ := loop_up (fun f i r => m_X12_feed_w23 p1 p2 p3 p4 p5 (m_X12_feed_j113 p1 p2 p3 p4 p5) f i (upd F 4 0) r) (fun r => m_X12_feed_j113 p1 p2 p3 p4 p5 (upd F 4 0) r) 20 (fun k r => (∀ i, i < k → r (n + i) = byI (v5 p1 p2 p3 p4 p5 (i / 4)) (i % 4)) ∧ ∀ j, (j < n ∨ n + k ≤ j) → r j = a j) (by
    intro f k r hk hI
    have tail : ∀ x : Int32, x = v5 p1 p2 p3 p4 p5 (k / 4) → m_X12_feed_j76 p1 p2 p3 p4 p5 (m_X12_feed_w23 p1 p2 p3 p4 p5 (m_X12_feed_j113 p1 p2 p3 p4 p5) f) (nI k) x (upd F 4 0) r = m_X12_feed_w23 p1 p2 p3 p4 p5 (m_X12_feed_j113 p1 p2 p3 p4 p5) f (nI (k + 1)) (upd F 4 0) (upd r (n + k) (byI (v5 p1 p2 p3 p4 p5 (k / 4)) (k % 4))) := by
      intro x hx
      have hm : (nI k - nI k / 4 * 4 : Int32) = nI (k % 4) := by rw [show (4 : Int32) = nI 4 from rfl, nI_modE (by omega) (by decide)]
      have hs : (24 - 8 * nI (k % 4) : Int32) = nI (24 - 8 * (k % 4)) := by rw [show (24 : Int32) = nI 24 from rfl, show (8 : Int32) = nI 8 from rfl, nI_mulE, nI_subE (by omega)]
      rw [m_X12_feed_j76, h', nI_add, hm, hs, wr_nI (by omega) (by decide), nm, show nI k + 1 = nI (k + 1) from nI_1 _, hx]
      rfl
    refine ⟨upd r (n + k) (byI (v5 p1 p2 p3 p4 p5 (k / 4)) (k % 4)), ⟨fun i hi => ?_, fun j hj => ?_⟩, ?_⟩
    · by_cases e : i = k
      · rw [e, upd_eq]
      · rw [upd_ne (by omega)]; exact hI.1 i (by omega)
    · rw [upd_ne (by omega)]; exact hI.2 j (by omega)
    · show m_X12_feed_w23 p1 p2 p3 p4 p5 (m_X12_feed_j113 p1 p2 p3 p4 p5) (f + 1) (nI k) (upd F 4 0) r = _
      rw [m_X12_feed_w23, if_neg (show ¬ (20 : Int32) ≤ nI k from nI_ge (b := 20) hk (by decide))]
      by_cases c4 : 4 ≤ k
      · rw [if_pos (show (4 : Int32) ≤ nI k from nI_le (a := 4) c4 (by omega))]
        by_cases c8 : 8 ≤ k
        · rw [if_pos (show (8 : Int32) ≤ nI k from nI_le (a := 8) c8 (by omega))]
          by_cases c12 : 12 ≤ k
          · rw [if_pos (show (12 : Int32) ≤ nI k from nI_le (a := 12) c12 (by omega))]
            by_cases c16 : 16 ≤ k
            · rw [if_pos (show (16 : Int32) ≤ nI k from nI_le (a := 16) c16 (by omega))]
              exact tail p5 (by unfold v5; rw [if_neg (by omega), if_neg (by omega), if_neg (by omega), if_neg (by omega)])
            · rw [if_neg (show ¬ (16 : Int32) ≤ nI k from nI_ge (b := 16) (by omega) (by decide))]
              exact tail p4 (by unfold v5; rw [if_neg (by omega), if_neg (by omega), if_neg (by omega), if_pos (by omega)])
          · rw [if_neg (show ¬ (12 : Int32) ≤ nI k from nI_ge (b := 12) (by omega) (by decide))]
            exact tail p3 (by unfold v5; rw [if_neg (by omega), if_neg (by omega), if_pos (by omega)])
        · rw [if_neg (show ¬ (8 : Int32) ≤ nI k from nI_ge (b := 8) (by omega) (by decide))]
          exact tail p2 (by unfold v5; rw [if_neg (by omega), if_pos (by omega)])
      · rw [if_neg (show ¬ (4 : Int32) ≤ nI k from nI_ge (b := 4) (by omega) (by decide))]
        exact tail p1 (by unfold v5; rw [if_pos (by omega)])) (by
    intro f r _
    show m_X12_feed_w23 p1 p2 p3 p4 p5 (m_X12_feed_j113 p1 p2 p3 p4 p5) (f + 1) (nI 20) (upd F 4 0) r = _
    rw [m_X12_feed_w23, if_pos (show (20 : Int32) ≤ nI 20 from nI_le (a := 20) (Nat.le_refl _) (by decide))]) fuelN 0 a (Nat.zero_le _) (by rw [fuel_is]; omega) ⟨fun i hi => absurd hi (Nat.not_lt_zero i), fun _ _ => rfl⟩
  refine ⟨upd (upd F 4 0) 14 (nI (n + 20)), a', ?_, upd_eq, fun j p q => by rw [upd_ne p, upd_ne q], x1, x2⟩
  rw [m_X12_feed, nm, h', show (nI n + 20 : Int32) = nI (n + 20) by rw [show (20 : Int32) = nI 20 from rfl, nI_add], if_pos (show nI (n + 20) ≤ 700 from nI_le (b := 700) hn (by decide))]
  refine (show _ = m_X12_feed_j113 p1 p2 p3 p4 p5 (upd F 4 0) a' from x3).trans ?_
  rw [m_X12_feed_j113, nm, h', show (nI n + 20 : Int32) = nI (n + 20) by rw [show (20 : Int32) = nI 20 from rfl, nI_add], upd_eq]
theorem lr_feed {n : Nat} {S : LwS} (h : LR n S) (a1 a2 a3 a4 a5 : Int32) : ∃ T, sL_feed S a1 a2 a3 a4 a5 = some T ∧ LR (n + 1) T := by
  obtain ⟨mode, G, I, b1, b2, b3, b4⟩ := id h
  have hC := LX_cm b1
  have hV := b1.2.1.1
  have hR : RM (S.2.1 1) 0 G.1 := b1.2.2.2.1.1
  have hm2 := b1.1
  have hF : S.2.1 0 12 = nI mode := b1.2.2.2.2
  have h4 : upd (S.2.1 0) 4 0 4 = 0 := upd_eq
  have h41 : upd (upd (S.2.1 0) 4 0) 4 1 4 = 1 := upd_eq
  have hF1 : upd (S.2.1 0) 4 0 12 = nI mode := by rw [upd_ne (by decide)]; exact hF
  obtain ⟨⟨m, t, t1, t2, t3, t4⟩, c2, c3⟩ := id b3
  have m1 : upd (S.2.1 0) 4 0 14 = nI m := by rw [upd_ne (by decide)]; exact t3
  by_cases c : m + 20 ≤ 700
  · obtain ⟨F1, u1, x1, x2, x3, x4, x5⟩ := c_feed (a := S.1.1 1) (p1 := a1) (p2 := a2) (p3 := a3) (p4 := a4) (p5 := a5) t2 c
    obtain ⟨F2, u2, y1, y2, y3, y4, y5⟩ := r_feed (a := S.2.1 5) (p1 := a1) (p2 := a2) (p3 := a3) (p4 := a4) (p5 := a5) t3 c
    refine ⟨((upC (upC S.1.1 0 F1) 1 u1, S.1.2.1, S.1.2.2.1, S.1.2.2.2), upC (upC S.2.1 0 F2) 5 u2, S.2.2.1, S.2.2.2.1 + 0, S.2.2.2.2 + 0), ?_, mode, G, I, LX_fr b1 (allOf_key (d := S.1.1) ⟨rfl, rfl, rfl, rfl, rfl, rfl, rfl, rfl, rfl, rfl, rfl, rfl, rfl, rfl⟩) (fun j p q => y3 j (by omega) (by omega)) (fun _ _ => rfl) rfl rfl rfl, LI_fr b2 (x3 5 (by decide)) rfl (fun j p q => y3 j (by omega) (by omega)) (fun _ _ => rfl) (fun _ _ => rfl) (fun _ _ => rfl) (fun _ _ => rfl), ⟨⟨m + 20, fun k => if k < m then t k else (Classical.choose (and255 ((v5 a1 a2 a3 a4 a5 ((k - m) / 4)) >>> (nI (24 - 8 * ((k - m) % 4)) &&& 31)))), c, x2, y2, fun k hk => ?_⟩, ?_, c3⟩, ?_⟩
    · unfold sL_feed pX_feed pM_feed
      rw [bd_ok x1, bd_ok rfl, bd_ok y1, bd_ok rfl, if_pos rfl]
    · show u1 k = _ ∧ u2 k = _ ∧ _
      dsimp only
      by_cases d : k < m
      · rw [if_pos d, x5 k (by omega), y5 k (by omega)]; exact t4 k d
      · rw [if_neg d]
        have e := Classical.choose_spec (and255 ((v5 a1 a2 a3 a4 a5 ((k - m) / 4)) >>> (nI (24 - 8 * ((k - m) % 4)) &&& 31)))
        have ex := x4 (k - m) (by omega)
        have ey := y4 (k - m) (by omega)
        rw [show m + (k - m) = k by omega] at ex ey
        rw [ex, ey]
        exact ⟨e.2, e.2, e.1⟩
    · show F1 2 = F2 15
      rw [x3 2 (by decide), y3 15 (by decide) (by decide)]; exact c2
    · exact ⟨Nat.le_trans b4.1 (by show _ ≤ 107 + 11 * (n + 1) + 11 * cnt40 S.1.2.1 + imC S.1.2.2.1; omega), Nat.le_trans b4.2 (by show _ ≤ 72827 + 432 * (n + 1) + 432 * cnt40 S.1.2.1 + imS S.1.2.2.1; omega)⟩
  · refine ⟨_, ?_, lr_query (bt := S.1.2.2.2) (c := upC (upC S.1.1 0 (S.1.1 0)) 1 (S.1.1 1)) (M := upC (upC S.2.1 0 (upd (S.2.1 0) 4 0)) 5 (S.2.1 5)) (o := S.2.2.1) (x := S.2.2.2.1 + 0) (y := S.2.2.2.2 + 0) h ⟨rfl, rfl, rfl, rfl, rfl, rfl, rfl, rfl, rfl, rfl, rfl, rfl, rfl, rfl⟩ ⟨rfl, rfl, rfl, rfl, rfl, rfl⟩ fq0 (fun _ _ => rfl) rfl rfl rfl rfl (by omega) (by omega)⟩
    unfold sL_feed pX_feed pM_feed
    have e1 : m_X11_feed (S.1.1 0) (S.1.1 1) a1 a2 a3 a4 a5 = some (-1, S.1.1 0, S.1.1 1) := by
      rw [m_X11_feed, t2, show (nI m + 20 : Int32) = nI (m + 20) by rw [show (20 : Int32) = nI 20 from rfl, nI_add], if_neg (show ¬ nI (m + 20) ≤ 700 from nI_ge (a := 700) (by omega) (by omega))]
    have e2 : m_X12_feed (S.2.1 0) (S.2.1 5) a1 a2 a3 a4 a5 = some (-1, upd (S.2.1 0) 4 0, S.2.1 5) := by
      rw [m_X12_feed, nm, m1, show (nI m + 20 : Int32) = nI (m + 20) by rw [show (20 : Int32) = nI 20 from rfl, nI_add], if_neg (show ¬ nI (m + 20) ≤ 700 from nI_ge (a := 700) (by omega) (by omega))]
    rw [bd_ok e1, bd_ok rfl, bd_ok e2, bd_ok rfl, if_pos rfl]
/-! ===== an image of all ===== -/
theorem cq_acopy {S T : ASt} {mode : Nat} {G : GS} (hV : VG mode G) (h : CG T mode G) : ∃ R, m_acopy S T = some R ∧ CG R mode G ∧ cnt40 S.2.2.2.1 ≤ cnt40 R.2.2.2.1 := by
  obtain ⟨h1, h2, h3, h4⟩ := h
  obtain ⟨M, m1, m2⟩ := cq_copyM (S := S.2.1) hV.1 h1
  obtain ⟨F', hs', g1, g2, g3⟩ := c_hcopy2 (F := S.2.2.1) (hs := S.2.2.2.1) h2 hV.2.1
  refine ⟨(upd S.1 3 (T.1 3), M, F', hs', va_cpy T.2.2.2.2.1 S.2.2.2.2.1 0 0 8, va_cpy T.2.2.2.2.2 S.2.2.2.2.2 0 0 3), ?_, ⟨m2, g2, ⟨?_, fun k q hk => ?_⟩, fun k hk => ?_⟩, g3⟩
  · rw [m_acopy, bd_ok m1, bd_ok g1, show (0 : Int32) = nI 0 from rfl, show (8 : Int32) = nI 8 from rfl, show (3 : Int32) = nI 3 from rfl, cp_nI (by decide) (by decide) (by decide) (by decide), nm, cp_nI (by decide) (by decide) (by decide) (by decide)]
  · show upd S.1 3 (T.1 3) 3 = _
    rw [upd_eq]; exact h3.1
  · have hlt := (List.getElem?_eq_some_iff.mp hk).1
    have h8 := hV.2.2.1
    show va_cpy T.2.2.2.2.1 S.2.2.2.2.1 0 0 8 k = _
    rw [cpy0 k (by omega)]; exact h3.2 k q hk
  · show va_cpy T.2.2.2.2.2 S.2.2.2.2.2 0 0 3 k = _
    rw [cpy0 k hk]; exact h4 k hk
theorem r_image {F rows sw sn re : Nat → Int32} : ∃ F' r sw' sn' re', m_X12_image F rows sw sn re = some (F', r, sw', sn', re') ∧ F' 8 = F 5 ∧ F' 9 = F 6 ∧ F' 10 = F 7 ∧ F' 11 = 1 ∧ (∀ j, 5 ≤ j → j ≤ 15 → ¬ (8 ≤ j ∧ j ≤ 11) → F' j = F j) ∧ (∀ j, j < 786 → r (33798 + j) = rows j) ∧ (∀ j, j < 31440 → r (34584 + j) = rows (2358 + j)) ∧ (∀ j, j < 33798 → r j = rows j) ∧ (∀ k, k < 8 → sw' (8 + k) = sw k ∧ sn' (8 + k) = sn k ∧ sw' k = sw k ∧ sn' k = sn k) ∧ ∀ k, k < 3 → re' (3 + k) = re k ∧ re' k = re k := by
  obtain ⟨r1, a1, a2, a3⟩ := r_copies (rows := rows) (a := 0) (b := 33798) (n := 786) (by decide) (by decide) (by decide) (by decide)
  obtain ⟨r2, b1, b2, b3⟩ := r_copies (rows := r1) (a := 2358) (b := 34584) (n := 31440) (by decide) (by decide) (by decide) (by decide)
  have a1 : m_X12_copies rows 0 33798 786 = some r1 := a1
  have b1 : m_X12_copies r1 2358 34584 31440 = some r2 := b1
  generalize hF6 : upd (upd (upd (upd F 4 0) 8 (upd F 4 0 5)) 9 (upd (upd F 4 0) 8 (upd F 4 0 5) 6)) 10 (upd (upd (upd F 4 0) 8 (upd F 4 0 5)) 9 (upd (upd F 4 0) 8 (upd F 4 0 5) 6) 7) = F6
  obtain ⟨s, ⟨c1, c2⟩, c3⟩ := loop_up (fun f i (s : (Nat → Int32) × (Nat → Int32)) => m_X12_image_w55 m_X12_image_j97 f i F6 r2 s.1 s.2 re) (fun s => m_X12_image_j97 F6 r2 s.1 s.2 re) 8 (fun k s => (∀ i, i < k → s.1 (8 + i) = sw i ∧ s.2 (8 + i) = sn i) ∧ ∀ j, j < 8 → s.1 j = sw j ∧ s.2 j = sn j) (by
    intro f k s hk hI
    have e1 := (hI.2 k hk).1
    have e2 := (hI.2 k hk).2
    refine ⟨(upd s.1 (8 + k) (sw k), upd s.2 (8 + k) (sn k)), ⟨fun i hi => ?_, fun j hj => ?_⟩, ?_⟩
    · show upd s.1 (8 + k) (sw k) (8 + i) = _ ∧ upd s.2 (8 + k) (sn k) (8 + i) = _
      by_cases e : i = k
      · rw [e, upd_eq, upd_eq]; exact ⟨rfl, rfl⟩
      · rw [upd_ne (by omega), upd_ne (by omega)]; exact hI.1 i (by omega)
    · show upd s.1 (8 + k) (sw k) j = _ ∧ upd s.2 (8 + k) (sn k) j = _
      rw [upd_ne (by omega), upd_ne (by omega)]; exact hI.2 j hj
    · show m_X12_image_w55 m_X12_image_j97 (f + 1) (nI k) F6 r2 s.1 s.2 re = m_X12_image_w55 m_X12_image_j97 f (nI (k + 1)) F6 r2 (upd s.1 (8 + k) (sw k)) (upd s.2 (8 + k) (sn k)) re
      rw [m_X12_image_w55, if_neg (show ¬ (8 : Int32) ≤ nI k from nI_ge (b := 8) hk (by decide)), show (8 + nI k : Int32) = nI (8 + k) by rw [show (8 : Int32) = nI 8 from rfl, nI_add], rd_nI (by omega) (by decide), wr_nI (by omega) (by decide), rd_nI (by omega) (by decide), wr_nI (by omega) (by decide), nm, show nI k + 1 = nI (k + 1) from nI_1 _, e1, e2]) (by
    intro f s _
    show m_X12_image_w55 m_X12_image_j97 (f + 1) (nI 8) F6 r2 s.1 s.2 re = _
    rw [m_X12_image_w55, if_pos (show (8 : Int32) ≤ nI 8 from nI_le (a := 8) (Nat.le_refl _) (by decide))]) fuelN 0 (sw, sn) (Nat.zero_le _) (by rw [fuel_is]; omega) ⟨fun i hi => absurd hi (Nat.not_lt_zero i), fun _ _ => ⟨rfl, rfl⟩⟩
  obtain ⟨q, ⟨d1, d2⟩, d3⟩ := loop_up (fun f i (q : Nat → Int32) => m_X12_image_w99 m_X12_image_j124 f i F6 r2 s.1 s.2 q) (fun q => m_X12_image_j124 F6 r2 s.1 s.2 q) 3 (fun k q => (∀ i, i < k → q (3 + i) = re i) ∧ ∀ j, j < 3 → q j = re j) (by
    intro f k q hk hI
    have e1 := hI.2 k hk
    refine ⟨upd q (3 + k) (re k), ⟨fun i hi => ?_, fun j hj => ?_⟩, ?_⟩
    · by_cases e : i = k
      · rw [e, upd_eq]
      · rw [upd_ne (by omega)]; exact hI.1 i (by omega)
    · rw [upd_ne (by omega)]; exact hI.2 j hj
    · show m_X12_image_w99 m_X12_image_j124 (f + 1) (nI k) F6 r2 s.1 s.2 q = _
      rw [m_X12_image_w99, if_neg (show ¬ (3 : Int32) ≤ nI k from nI_ge (b := 3) hk (by decide)), show (3 + nI k : Int32) = nI (3 + k) by rw [show (3 : Int32) = nI 3 from rfl, nI_add], rd_nI (by omega) (by decide), wr_nI (by omega) (by decide), nm, show nI k + 1 = nI (k + 1) from nI_1 _, e1]) (by
    intro f q _
    show m_X12_image_w99 m_X12_image_j124 (f + 1) (nI 3) F6 r2 s.1 s.2 q = _
    rw [m_X12_image_w99, if_pos (show (3 : Int32) ≤ nI 3 from nI_le (a := 3) (Nat.le_refl _) (by decide))]) fuelN 0 re (Nat.zero_le _) (by rw [fuel_is]; omega) ⟨fun i hi => absurd hi (Nat.not_lt_zero i), fun _ _ => rfl⟩
  refine ⟨upd F6 11 1, r2, s.1, s.2, q, ?_, ?_, ?_, ?_, upd_eq, fun j p1 p2 p3 => ?_, fun j hj => ?_, fun j hj => ?_, fun j hj => ?_, fun k hk => ⟨(c1 k hk).1, (c1 k hk).2, (c2 k hk).1, (c2 k hk).2⟩, fun k hk => ⟨d1 k hk, d2 k hk⟩⟩
  · rw [m_X12_image, nm, bd_ok a1, bd_ok b1, nm, nm, nm, hF6]
    refine (show _ = m_X12_image_j97 F6 r2 s.1 s.2 re from c3).trans ?_
    rw [m_X12_image_j97]
    refine (show _ = m_X12_image_j124 F6 r2 s.1 s.2 q from d3).trans ?_
    rw [m_X12_image_j124, nm]
  · rw [upd_ne (by decide), ← hF6, upd_ne (by decide), upd_ne (by decide), upd_eq, upd_ne (by decide)]
  · rw [upd_ne (by decide), ← hF6, upd_ne (by decide), upd_eq, upd_ne (by decide), upd_ne (by decide)]
  · rw [upd_ne (by decide), ← hF6, upd_eq, upd_ne (by decide), upd_ne (by decide), upd_ne (by decide)]
  · rw [upd_ne (by omega), ← hF6, upd_ne (by omega), upd_ne (by omega), upd_ne (by omega), upd_ne (by omega)]
  · rw [b3 _ (by omega), a2 j hj, Nat.zero_add]
  · rw [b2 j hj]; exact a3 _ (by omega)
  · rw [b3 _ (by omega)]; exact a3 _ (by omega)
theorem lr_image {n : Nat} {S : LwS} (h : LR n S) (a1 a2 a3 a4 a5 : Int32) : ∃ T, sL_image S a1 a2 a3 a4 a5 = some T ∧ LR (n + 1) T := by
  obtain ⟨mode, G, I, b1, b2, b3, b4⟩ := id h
  have hC := LX_cm b1
  have hV := b1.2.1.1
  have hR : RM (S.2.1 1) 0 G.1 := b1.2.2.2.1.1
  have hm2 := b1.1
  have hF : S.2.1 0 12 = nI mode := b1.2.2.2.2
  have h4 : upd (S.2.1 0) 4 0 4 = 0 := upd_eq
  have h41 : upd (upd (S.2.1 0) 4 0) 4 1 4 = 1 := upd_eq
  have hF1 : upd (S.2.1 0) 4 0 12 = nI mode := by rw [upd_ne (by decide)]; exact hF
  obtain ⟨F', r, sw', sn', re', e1, e2, e3, e4, e5, e6, e7, e8, e9, e10, e11⟩ := r_image (F := S.2.1 0) (rows := S.2.1 1) (sw := S.2.1 2) (sn := S.2.1 3) (re := S.2.1 4)
  have pm : pM_image S.2.1 = some (upC (upC (upC (upC (upC S.2.1 0 F') 1 r) 2 sw') 3 sn') 4 re') := by
    unfold pM_image
    rw [bd_ok e1]
  have hl8 := b1.2.1.2.2.1
  have fin : ∀ (T : ASt) (x y : Nat), CG T mode G → x ≤ 107 + 11 * (n + 1) + 11 * cnt40 S.1.2.1 + imC (some T) → y ≤ 72827 + 432 * (n + 1) + 432 * cnt40 S.1.2.1 + imS (some T) → LR (n + 1) ((upC S.1.1 0 (upd (S.1.1 0) 5 1), S.1.2.1, some T, S.1.2.2.2), upC (upC (upC (upC (upC S.2.1 0 F') 1 r) 2 sw') 3 sn') 4 re', S.2.2.1, x, y) := by
    intro T x y hT hx hy
    refine ⟨mode, G, some G, ⟨hm2, b1.2.1, ?_, ⟨RM_move hV (fun j hj => e9 _ (by omega)) hR, ?_, ⟨?_, fun k q hk => ?_⟩, fun k hk => ?_⟩, (e6 12 (by decide) (by decide) (by decide)).trans hF⟩, ⟨(show upd (S.1.1 0) 5 1 5 = 1 from upd_eq), e5, fun J hJ => ?_⟩, ⟨?_, ?_, b3.2.2⟩, hx, hy⟩
    · have : allOf (upC S.1.1 0 (upd (S.1.1 0) 5 1), S.1.2.1, some T, S.1.2.2.2) = allOf S.1 := allOf_key (d := S.1.1) ⟨rfl, rfl, rfl, rfl, rfl, rfl, rfl, rfl, rfl, rfl, rfl, rfl, rfl, rfl⟩
      rw [this]; exact b1.2.2.1
    · show RH (F' 6) (F' 5) r 2358 G.2.1
      rw [e6 6 (by decide) (by decide) (by decide), e6 5 (by decide) (by decide) (by decide)]
      exact RH_fr b1.2.1.2.1 (fun j hj => e9 _ (by omega)) b1.2.2.2.1.2.1
    · show F' 7 = _
      rw [e6 7 (by decide) (by decide) (by decide)]; exact b1.2.2.2.1.2.2.1.1
    · have hlt := (List.getElem?_eq_some_iff.mp hk).1
      have := b1.2.2.2.1.2.2.1.2 k q hk
      rw [Nat.zero_add] at this ⊢
      show sw' k = _ ∧ sn' k = _
      rw [(e10 k (by omega)).2.2.1, (e10 k (by omega)).2.2.2]; exact this
    · show re' (0 + k) = _
      have := b1.2.2.2.1.2.2.2 k hk
      rw [Nat.zero_add] at this ⊢
      rw [(e11 k hk).2]; exact this
    · cases hJ
      refine ⟨b1.2.1, ⟨T, rfl, hT⟩, RM_move hV (fun j hj => by rw [Nat.zero_add]; exact e7 j hj) hR, ?_, ⟨?_, fun k q hk => ?_⟩, fun k hk => ?_⟩
      · show RH (F' 9) (F' 8) r 34584 G.2.1
        rw [e2, e3]
        exact RH_fr b1.2.1.2.1 e8 b1.2.2.2.1.2.1
      · show F' 10 = _
        rw [e4]; exact b1.2.2.2.1.2.2.1.1
      · have hlt := (List.getElem?_eq_some_iff.mp hk).1
        have := b1.2.2.2.1.2.2.1.2 k q hk
        rw [Nat.zero_add] at this
        show sw' (8 + k) = _ ∧ sn' (8 + k) = _
        rw [(e10 k (by omega)).1, (e10 k (by omega)).2.1]; exact this
      · show re' (3 + k) = _
        have := b1.2.2.2.1.2.2.2 k hk
        rw [Nat.zero_add] at this
        rw [(e11 k hk).1]; exact this
    · show TP (upd (S.1.1 0) 5 1 1) (F' 14) (S.1.1 1) (S.2.1 5)
      rw [upd_ne (by decide), e6 14 (by decide) (by decide) (by decide)]; exact b3.1
    · show upd (S.1.1 0) 5 1 2 = F' 15
      rw [upd_ne (by decide), e6 15 (by decide) (by decide) (by decide)]; exact b3.2.1
  obtain ⟨y1, y2⟩ := b4
  unfold sL_image
  cases hk : S.1.2.2.1 with
  | none =>
    rw [hk] at y1 y2
    obtain ⟨T, t1, t2, t3⟩ := cq_acopy (S := initA) b1.2.1 b1.2.2.1
    refine ⟨_, ?_, fin T (S.2.2.2.1 + (16 + 11 * cnt40 T.2.2.2.1)) (S.2.2.2.2 + (491 + 432 * cnt40 T.2.2.2.1)) t2 ?_ ?_⟩
    · show bd (m_acopy initA (allOf S.1)) _ = _
      rw [bd_ok t1, bd_ok pm]
    · show _ ≤ _ + (16 + 11 * cnt40 T.2.2.2.1)
      have : imC none = 0 := rfl
      omega
    · show _ ≤ _ + (491 + 432 * cnt40 T.2.2.2.1)
      have : imS none = 0 := rfl
      omega
  | some T0 =>
    rw [hk] at y1 y2
    obtain ⟨T, t1, t2, t3⟩ := cq_acopy (S := T0) b1.2.1 b1.2.2.1
    refine ⟨_, ?_, fin T (S.2.2.2.1 + (0 + 11 * (cnt40 T.2.2.2.1 - cnt40 T0.2.2.2.1))) (S.2.2.2.2 + (0 + 432 * (cnt40 T.2.2.2.1 - cnt40 T0.2.2.2.1))) t2 ?_ ?_⟩
    · show bd (m_acopy T0 (allOf S.1)) _ = _
      rw [bd_ok t1, bd_ok pm]
    · show _ ≤ _ + (16 + 11 * cnt40 T.2.2.2.1)
      have : imC (some T0) = 16 + 11 * cnt40 T0.2.2.2.1 := rfl
      omega
    · show _ ≤ _ + (491 + 432 * cnt40 T.2.2.2.1)
      have : imS (some T0) = 491 + 432 * cnt40 T0.2.2.2.1 := rfl
      omega
theorem r_restore {F rows sw sn re : Nat → Int32} (h : ¬ F 11 = 0) : ∃ F' r sw' sn' re', m_X12_restore F rows sw sn re = some (1, F', r, sw', sn', re') ∧ F' 5 = F 8 ∧ F' 6 = F 9 ∧ F' 7 = F 10 ∧ (∀ j, 8 ≤ j → j ≤ 15 → F' j = F j) ∧ (∀ j, j < 786 → r j = rows (33798 + j)) ∧ (∀ j, j < 31440 → r (2358 + j) = rows (34584 + j)) ∧ (∀ j, 33798 ≤ j → r j = rows j) ∧ (∀ k, k < 8 → sw' k = sw (8 + k) ∧ sn' k = sn (8 + k)) ∧ (∀ k, 8 ≤ k → sw' k = sw k ∧ sn' k = sn k) ∧ (∀ k, k < 3 → re' k = re (3 + k)) ∧ ∀ k, 3 ≤ k → re' k = re k := by
  obtain ⟨r1, a1, a2, a3⟩ := r_copies (rows := rows) (a := 33798) (b := 0) (n := 786) (by decide) (by decide) (by decide) (by decide)
  obtain ⟨r2, b1, b2, b3⟩ := r_copies (rows := r1) (a := 34584) (b := 2358) (n := 31440) (by decide) (by decide) (by decide) (by decide)
  have a1 : m_X12_copies rows 33798 0 786 = some r1 := a1
  have b1 : m_X12_copies r1 34584 2358 31440 = some r2 := b1
  generalize hF6 : upd (upd (upd (upd F 4 0) 5 (upd F 4 0 8)) 6 (upd (upd F 4 0) 5 (upd F 4 0 8) 9)) 7 (upd (upd (upd F 4 0) 5 (upd F 4 0 8)) 6 (upd (upd F 4 0) 5 (upd F 4 0 8) 9) 10) = F6
  obtain ⟨s, ⟨c1, c2⟩, c3⟩ := loop_up (fun f i (s : (Nat → Int32) × (Nat → Int32)) => m_X12_restore_w64 m_X12_restore_j106 f i F6 r2 s.1 s.2 re) (fun s => m_X12_restore_j106 F6 r2 s.1 s.2 re) 8 (fun k s => (∀ i, i < k → s.1 i = sw (8 + i) ∧ s.2 i = sn (8 + i)) ∧ ∀ j, 8 ≤ j → s.1 j = sw j ∧ s.2 j = sn j) (by
    intro f k s hk hI
    have e1 := (hI.2 (8 + k) (by omega)).1
    have e2 := (hI.2 (8 + k) (by omega)).2
    refine ⟨(upd s.1 k (sw (8 + k)), upd s.2 k (sn (8 + k))), ⟨fun i hi => ?_, fun j hj => ?_⟩, ?_⟩
    · show upd s.1 k (sw (8 + k)) i = _ ∧ upd s.2 k (sn (8 + k)) i = _
      by_cases e : i = k
      · rw [e, upd_eq, upd_eq]; exact ⟨rfl, rfl⟩
      · rw [upd_ne (by omega), upd_ne (by omega)]; exact hI.1 i (by omega)
    · show upd s.1 k (sw (8 + k)) j = _ ∧ upd s.2 k (sn (8 + k)) j = _
      rw [upd_ne (by omega), upd_ne (by omega)]; exact hI.2 j hj
    · show m_X12_restore_w64 m_X12_restore_j106 (f + 1) (nI k) F6 r2 s.1 s.2 re = m_X12_restore_w64 m_X12_restore_j106 f (nI (k + 1)) F6 r2 (upd s.1 k (sw (8 + k))) (upd s.2 k (sn (8 + k))) re
      rw [m_X12_restore_w64, if_neg (show ¬ (8 : Int32) ≤ nI k from nI_ge (b := 8) hk (by decide)), show (8 + nI k : Int32) = nI (8 + k) by rw [show (8 : Int32) = nI 8 from rfl, nI_add], rd_nI (by omega) (by decide), wr_nI (by omega) (by decide), rd_nI (by omega) (by decide), wr_nI (by omega) (by decide), nm, show nI k + 1 = nI (k + 1) from nI_1 _, e1, e2]) (by
    intro f s _
    show m_X12_restore_w64 m_X12_restore_j106 (f + 1) (nI 8) F6 r2 s.1 s.2 re = _
    rw [m_X12_restore_w64, if_pos (show (8 : Int32) ≤ nI 8 from nI_le (a := 8) (Nat.le_refl _) (by decide))]) fuelN 0 (sw, sn) (Nat.zero_le _) (by rw [fuel_is]; omega) ⟨fun i hi => absurd hi (Nat.not_lt_zero i), fun _ _ => ⟨rfl, rfl⟩⟩
  obtain ⟨q, ⟨d1, d2⟩, d3⟩ := loop_up (fun f i (q : Nat → Int32) => m_X12_restore_w108 f i F6 r2 s.1 s.2 q) (fun q => some (1, F6, r2, s.1, s.2, q)) 3 (fun k q => (∀ i, i < k → q i = re (3 + i)) ∧ ∀ j, 3 ≤ j → q j = re j) (by
    intro f k q hk hI
    have e1 := hI.2 (3 + k) (by omega)
    refine ⟨upd q k (re (3 + k)), ⟨fun i hi => ?_, fun j hj => ?_⟩, ?_⟩
    · by_cases e : i = k
      · rw [e, upd_eq]
      · rw [upd_ne (by omega)]; exact hI.1 i (by omega)
    · rw [upd_ne (by omega)]; exact hI.2 j hj
    · show m_X12_restore_w108 (f + 1) (nI k) F6 r2 s.1 s.2 q = _
      rw [m_X12_restore_w108, if_neg (show ¬ (3 : Int32) ≤ nI k from nI_ge (b := 3) hk (by decide)), show (3 + nI k : Int32) = nI (3 + k) by rw [show (3 : Int32) = nI 3 from rfl, nI_add], rd_nI (by omega) (by decide), wr_nI (by omega) (by decide), nm, show nI k + 1 = nI (k + 1) from nI_1 _, e1]) (by
    intro f q _
    show m_X12_restore_w108 (f + 1) (nI 3) F6 r2 s.1 s.2 q = _
    rw [m_X12_restore_w108, if_pos (show (3 : Int32) ≤ nI 3 from nI_le (a := 3) (Nat.le_refl _) (by decide))]) fuelN 0 re (Nat.zero_le _) (by rw [fuel_is]; omega) ⟨fun i hi => absurd hi (Nat.not_lt_zero i), fun _ _ => rfl⟩
  refine ⟨F6, r2, s.1, s.2, q, ?_, ?_, ?_, ?_, fun j p1 p2 => ?_, fun j hj => ?_, fun j hj => ?_, fun j hj => ?_, c1, c2, d1, d2⟩
  · rw [m_X12_restore, nm, if_neg (show ¬ upd F 4 0 11 = 0 by rw [upd_ne (by decide)]; exact h), bd_ok a1, bd_ok b1, nm, nm, nm, hF6]
    refine (show _ = m_X12_restore_j106 F6 r2 s.1 s.2 re from c3).trans ?_
    rw [m_X12_restore_j106]
    exact d3
  · rw [← hF6, upd_ne (by decide), upd_ne (by decide), upd_eq, upd_ne (by decide)]
  · rw [← hF6, upd_ne (by decide), upd_eq, upd_ne (by decide), upd_ne (by decide)]
  · rw [← hF6, upd_eq, upd_ne (by decide), upd_ne (by decide), upd_ne (by decide)]
  · rw [← hF6, upd_ne (by omega), upd_ne (by omega), upd_ne (by omega), upd_ne (by omega)]
  · have := a2 j hj
    rw [Nat.zero_add] at this
    rw [b3 _ (by omega)]; exact this
  · rw [b2 j hj]; exact a3 _ (by omega)
  · rw [b3 _ (by omega)]; exact a3 _ (by omega)
theorem lr_restore {n : Nat} {S : LwS} (h : LR n S) (a1 a2 a3 a4 a5 : Int32) : ∃ T, sL_restore S a1 a2 a3 a4 a5 = some T ∧ LR (n + 1) T := by
  obtain ⟨mode, G, I, b1, b2, b3, b4⟩ := id h
  have hC := LX_cm b1
  have hV := b1.2.1.1
  have hR : RM (S.2.1 1) 0 G.1 := b1.2.2.2.1.1
  have hm2 := b1.1
  have hF : S.2.1 0 12 = nI mode := b1.2.2.2.2
  have h4 : upd (S.2.1 0) 4 0 4 = 0 := upd_eq
  have h41 : upd (upd (S.2.1 0) 4 0) 4 1 4 = 1 := upd_eq
  have hF1 : upd (S.2.1 0) 4 0 12 = nI mode := by rw [upd_ne (by decide)]; exact hF
  obtain ⟨i1, i2, i3⟩ := id b2
  unfold sL_restore
  cases hI : I with
  | none =>
    rw [hI] at i1 i2
    have i1 : S.1.1 0 5 = 0 := i1
    have i2 : S.2.1 0 11 = 0 := i2
    have pm : pM_restore S.2.1 = some (0, upC (upC (upC (upC (upC S.2.1 0 (upd (S.2.1 0) 4 0)) 1 (S.2.1 1)) 2 (S.2.1 2)) 3 (S.2.1 3)) 4 (S.2.1 4)) := by
      unfold pM_restore
      rw [m_X12_restore, nm, if_pos (show upd (S.2.1 0) 4 0 11 = 0 by rw [upd_ne (by decide)]; exact i2), bd_ok rfl]
    refine ⟨_, ?_, lr_query (bt := S.1.2.2.2) (c := S.1.1) (M := upC (upC (upC (upC (upC S.2.1 0 (upd (S.2.1 0) 4 0)) 1 (S.2.1 1)) 2 (S.2.1 2)) 3 (S.2.1 3)) 4 (S.2.1 4)) (o := S.2.2.1) (x := S.2.2.2.1 + 0) (y := S.2.2.2.2 + 0) h ⟨rfl, rfl, rfl, rfl, rfl, rfl, rfl, rfl, rfl, rfl, rfl, rfl, rfl, rfl⟩ ⟨rfl, rfl, rfl, rfl, rfl, rfl⟩ fq0 (fun _ _ => rfl) rfl rfl rfl rfl (by omega) (by omega)⟩
    rw [if_pos i1, bd_ok pm, if_pos rfl]
  | some J =>
    obtain ⟨j1, ⟨T0, j2, j3⟩, j4, j5, j6, j7⟩ := i3 J hI
    rw [hI] at i1 i2
    have n1 : ¬ S.1.1 0 5 = 0 := by
      rw [i1]
      exact (by decide : ¬ nI 1 = 0)
    have n2 : ¬ S.2.1 0 11 = 0 := by
      rw [i2]
      exact (by decide : ¬ nI 1 = 0)
    obtain ⟨F', r, sw', sn', re', e1, e2, e3, e4, e5, e6, e7, e8, e9, e10, e11, e12⟩ := r_restore (F := S.2.1 0) (rows := S.2.1 1) (sw := S.2.1 2) (sn := S.2.1 3) (re := S.2.1 4) n2
    have pm : pM_restore S.2.1 = some (1, upC (upC (upC (upC (upC S.2.1 0 F') 1 r) 2 sw') 3 sn') 4 re') := by
      unfold pM_restore
      rw [bd_ok e1]
    obtain ⟨T, t1, t2, t3⟩ := cq_acopy (S := allOf S.1) j1 j3
    have hl8 := j1.2.2.1
    obtain ⟨y1, y2⟩ := b4
    refine ⟨(setAll S.1 T, upC (upC (upC (upC (upC S.2.1 0 F') 1 r) 2 sw') 3 sn') 4 re', S.2.2.1, S.2.2.2.1 + (0 + 11 * (cnt40 T.2.2.2.1 - cnt40 (allOf S.1).2.2.2.1)), S.2.2.2.2 + (0 + 432 * (cnt40 T.2.2.2.1 - cnt40 (allOf S.1).2.2.2.1))), ?_, mode, J, some J, ⟨hm2, j1, t2, ⟨RM_move j1.1 (fun j hj => (show r (0 + j) = _ by rw [Nat.zero_add]; exact e6 j hj)) j4, ?_, ⟨?_, fun k q hk => ?_⟩, fun k hk => ?_⟩, (e5 12 (by decide) (by decide)).trans hF⟩, ?_, ⟨?_, ?_, b3.2.2⟩, ?_, ?_⟩
    · rw [if_neg n1, j2]
      show bd (m_acopy (allOf S.1) T0) _ = _
      rw [bd_ok t1, bd_ok pm, if_pos rfl]
    · show RH (F' 6) (F' 5) r 2358 J.2.1
      rw [e2, e3]
      exact RH_fr j1.2.1 e7 j5
    · show F' 7 = _
      rw [e4]; exact j6.1
    · have hlt := (List.getElem?_eq_some_iff.mp hk).1
      show sw' (0 + k) = _ ∧ sn' (0 + k) = _
      rw [Nat.zero_add, (e9 k (by omega)).1, (e9 k (by omega)).2]; exact j6.2 k q hk
    · show re' (0 + k) = _
      rw [Nat.zero_add, e11 k hk]; exact j7 k hk
    · have hb2 : LI S mode (some J) := by rw [← hI]; exact b2
      exact LI_fr hb2 rfl rfl (fun j p q => e5 j p (by omega)) e8 (fun k hk => (e10 k hk).1) (fun k hk => (e10 k hk).2) e12
    · show TP (S.1.1 0 1) (F' 14) (S.1.1 1) (S.2.1 5)
      rw [e5 14 (by decide) (by decide)]; exact b3.1
    · show S.1.1 0 2 = F' 15
      rw [e5 15 (by decide) (by decide)]; exact b3.2.1
    · show _ ≤ 107 + 11 * (n + 1) + 11 * cnt40 T.2.2.2.1 + imC S.1.2.2.1
      have t3 : cnt40 S.1.2.1 ≤ cnt40 T.2.2.2.1 := t3
      have e0 : cnt40 (allOf S.1).2.2.2.1 = cnt40 S.1.2.1 := rfl
      rw [e0]
      show S.2.2.2.1 + (0 + 11 * (cnt40 T.2.2.2.1 - cnt40 S.1.2.1)) ≤ _
      omega
    · show _ ≤ 72827 + 432 * (n + 1) + 432 * cnt40 T.2.2.2.1 + imS S.1.2.2.1
      have t3 : cnt40 S.1.2.1 ≤ cnt40 T.2.2.2.1 := t3
      have e0 : cnt40 (allOf S.1).2.2.2.1 = cnt40 S.1.2.1 := rfl
      rw [e0]
      show S.2.2.2.2 + (0 + 432 * (cnt40 T.2.2.2.1 - cnt40 S.1.2.1)) ≤ _
      omega
/-! ===== shapes ===== -/
def shV (f : Nat → Nat) (j : Nat) : Int32 := if j = 0 then nI (survN f 4).1 else if j = 1 then leakA f else if j = 2 then nI (usedN f 10) else if j = 3 then nI (survN f 4).2.1 else nI (survN f 4).2.2
theorem c_answer {F : Nat → Int32} {f : Nat → Nat} {j : Nat} (hj : j ≤ 4) (h0 : F 0 = nI (survN f 4).1) (h1 : F 1 = leakA f) (h2 : F 2 = nI (usedN f 10)) (h3 : F 3 = nI (survN f 4).2.1) (h4 : F 4 = nI (survN f 4).2.2) : m_X7_answer F (nI j) = some (shV f j) := by
  rw [m_X7_answer]
  unfold shV
  rcases (show j = 0 ∨ j = 1 ∨ j = 2 ∨ j = 3 ∨ j = 4 by omega) with rfl | rfl | rfl | rfl | rfl
  · rw [if_pos (show nI 0 = 0 from rfl), h0, if_pos rfl]
  · rw [if_neg (by decide), if_pos (show nI 1 = 1 from rfl), h1, if_neg (by decide), if_pos rfl]
  · rw [if_neg (by decide), if_neg (by decide), if_pos (show nI 2 = 2 from rfl), h2, if_neg (by decide), if_neg (by decide), if_pos rfl]
  · rw [if_neg (by decide), if_neg (by decide), if_neg (by decide), if_pos (show nI 3 = 3 from rfl), h3, if_neg (by decide), if_neg (by decide), if_neg (by decide), if_pos rfl]
  · rw [if_neg (by decide), if_neg (by decide), if_neg (by decide), if_neg (by decide), h4, if_neg (by decide), if_neg (by decide), if_neg (by decide), if_neg (by decide)]
theorem r_shape86 {rows F mem : Nat → Int32} {p1 : Int32} {f : Nat → Nat} {j : Nat} (hj : j ≤ 4) (ha : ∀ w, w < 64 → mem w = nI (f w)) (hf : ∀ w, w < 64 → f w ≤ 99) : ∃ F', m_X12_shape_j86 rows p1 (nI j) F mem = some (shV f j, F', mem) ∧ ∀ i, i < 20 ∨ 22 < i → F' i = F i := by
  obtain ⟨F', s1, s2, s3, s4, s5⟩ := r_shapes ha hf F
  refine ⟨F', ?_, s5⟩
  rw [m_X12_shape_j86, bd_ok s1, bd_ok (r_usedBlocks ha hf), s2, s3, s4]
  unfold shV
  rcases (show j = 0 ∨ j = 1 ∨ j = 2 ∨ j = 3 ∨ j = 4 by omega) with rfl | rfl | rfl | rfl | rfl
  · rw [if_pos (show nI 0 = 0 from rfl), if_pos rfl]
  · rw [if_neg (by decide), if_pos (show nI 1 = 1 from rfl), if_neg (by decide), if_pos rfl]; rfl
  · rw [if_neg (by decide), if_neg (by decide), if_pos (show nI 2 = 2 from rfl), if_neg (by decide), if_neg (by decide), if_pos rfl]
  · rw [if_neg (by decide), if_neg (by decide), if_neg (by decide), if_pos (show nI 3 = 3 from rfl), if_neg (by decide), if_neg (by decide), if_neg (by decide), if_pos rfl]
  · rw [if_neg (by decide), if_neg (by decide), if_neg (by decide), if_neg (by decide), if_neg (by decide), if_neg (by decide), if_neg (by decide), if_neg (by decide)]
theorem lr_shape {n : Nat} {S : LwS} (h : LR n S) (a1 a2 a3 a4 a5 : Int32) : ∃ T, sL_shape S a1 a2 a3 a4 a5 = some T ∧ LR (n + 1) T := by
  obtain ⟨mode, G, I, b1, b2, b3, b4⟩ := id h
  have hC := LX_cm b1
  have hV := b1.2.1.1
  have hR : RM (S.2.1 1) 0 G.1 := b1.2.2.2.1.1
  have hm2 := b1.1
  have hF : S.2.1 0 12 = nI mode := b1.2.2.2.2
  have h4 : upd (S.2.1 0) 4 0 4 = 0 := upd_eq
  have h41 : upd (upd (S.2.1 0) 4 0) 4 1 4 = 1 := upd_eq
  have hF1 : upd (S.2.1 0) 4 0 12 = nI mode := by rw [upd_ne (by decide)]; exact hF
  have go0 : ∀ (x : Int32) (c28 c19 c25 c26 c27 F' m9 : Nat → Int32), (∀ i, i < 20 ∨ 22 < i → F' i = upd (S.2.1 0) 4 0 i) → pX_shape S.1 a1 a2 = some (0, x, (upC (upC (upC (upC (upC S.1.1 28 c28) 19 c19) 25 c25) 26 c26) 27 c27, S.1.2.1, S.1.2.2.1, S.1.2.2.2)) → pM_shape S.2.1 a1 a2 = some (x, upC (upC S.2.1 0 F') 9 m9) → ∃ T, sL_shape S a1 a2 a3 a4 a5 = some T ∧ LR (n + 1) T := by
    intro x c28 c19 c25 c26 c27 F' m9 hF' e1 e2
    obtain ⟨o, ho⟩ := sh_0 (S := S) (a := 1) (b := 6) (K := 1) e1 e2 (show F' 4 = 0 by rw [hF' 4 (by decide)]; exact h4)
    exact ⟨_, ho, lr_query h ⟨rfl, rfl, rfl, rfl, rfl, rfl, rfl, rfl, rfl, rfl, rfl, rfl, rfl, rfl⟩ ⟨rfl, rfl, rfl, rfl, rfl, rfl⟩ (fun j p q => (hF' j (by omega)).trans (fq0 j p q)) (fun _ _ => rfl) rfl rfl rfl rfl (by omega) (by omega)⟩
  have go1 : pX_shape S.1 a1 a2 = some (1, 0, (upC (upC (upC (upC (upC S.1.1 28 (S.1.1 28)) 19 (S.1.1 19)) 25 (S.1.1 25)) 26 (S.1.1 26)) 27 (S.1.1 27), S.1.2.1, S.1.2.2.1, S.1.2.2.2)) → pM_shape S.2.1 a1 a2 = some (0, upC (upC S.2.1 0 (upd (upd (S.2.1 0) 4 0) 4 1)) 9 (S.2.1 9)) → ∃ T, sL_shape S a1 a2 a3 a4 a5 = some T ∧ LR (n + 1) T := by
    intro e1 e2
    obtain ⟨o, ho⟩ := sh_1 (S := S) (a := 1) (b := 6) (K := 1) (by decide) e1 e2 h41
    exact ⟨_, ho, lr_query h ⟨rfl, rfl, rfl, rfl, rfl, rfl, rfl, rfl, rfl, rfl, rfl, rfl, rfl, rfl⟩ ⟨rfl, rfl, rfl, rfl, rfl, rfl⟩ fq1 (fun _ _ => rfl) rfl rfl rfl rfl (by omega) (by omega)⟩
  have no : m_X12_shape_j28 (S.2.1 1) a1 a2 (upd (S.2.1 0) 4 0) (S.2.1 9) = some (0, upd (upd (S.2.1 0) 4 0) 4 1, S.2.1 9) := by
    rw [m_X12_shape_j28, m_X12_shape_j29, bd_ok (r_right0 h4 (by decide))]
    dsimp only
    rw [if_pos rfl]
  rcases r_withinX (x := a1) (lo := 0) (hi := 2) (by decide) (by decide) with ⟨wa, i, hi, v1, v2⟩ | ⟨wa, wb⟩
  · rcases r_withinX (x := a2) (lo := 0) (hi := 4) (by decide) (by decide) with ⟨wc, j, hj, u1, u2⟩ | ⟨wc, wd⟩
    · subst hi hj
      have wa : m_X12_within (nI i) 0 2 = some 1 := wa
      have wc : m_X12_within (nI j) 0 4 = some 1 := wc
      have n1 : ¬ nI i < 0 := nI_pos (by omega)
      have n2 : ¬ (2 : Int32) < nI i := nI_nlt (a := 2) v2 (by omega)
      have n3 : ¬ nI j < 0 := nI_pos (by omega)
      have n4 : nI j ≤ 4 := nI_le (b := 4) u2 (by decide)
      obtain ⟨me, e1, e2⟩ := r_laysMemory (mem := S.2.1 9) (b := 0) hR.1 (by decide)
      have e1 : m_X12_laysMemory (S.2.1 1) (S.2.1 9) 0 = some me := e1
      have hpm : ∀ R : Option (Int32 × (Nat → Int32) × (Nat → Int32)), (if nI i = 0 then m_X12_shape_w49 (S.2.1 1) (nI i) (nI j) (m_X12_shape_j73 (S.2.1 1) (nI i) (nI j)) fuelN 0 (upd (S.2.1 0) 4 0) me else m_X12_shape_j73 (S.2.1 1) (nI i) (nI j) (upd (S.2.1 0) 4 0) me) = R → m_X12_shape (S.2.1 0) (S.2.1 1) (S.2.1 9) (nI i) (nI j) = R := by
        intro R hR'
        rw [m_X12_shape, nm, bd_ok wa, if_neg (by decide), bd_ok wc, if_neg (by decide), m_X12_shape_j29, bd_ok (r_right1 h4)]
        dsimp only
        rw [if_neg (show ¬ (1 : Int32) = 0 by decide), bd_ok e1]
        exact hR'
      rcases (show i = 0 ∨ i = 1 ∨ i = 2 by omega) with rfl | rfl | rfl
      · obtain ⟨wo, f1, f2⟩ := c_fillWords (w := S.1.1 19) hC.1 hV.1
        obtain ⟨F7, s1, s2, s3, s4, s5, s6⟩ := c_survey f2 (fun w hw => word_le hV.1 hw) (S.1.1 28)
        obtain ⟨m2, p1, p2⟩ := loop_up (fun f i r => m_X12_shape_w49 (S.2.1 1) (nI 0) (nI j) (m_X12_shape_j73 (S.2.1 1) (nI 0) (nI j)) f i (upd (S.2.1 0) 4 0) r) (fun r => m_X12_shape_j73 (S.2.1 1) (nI 0) (nI j) (upd (S.2.1 0) 4 0) r) 64 (fun k r => ∀ w, w < k → r w = nI (wordA (gX G.1) w)) (by
          intro f k r hk hI
          have hwo : m_X12_wordOf (S.2.1 1) 0 (nI k) = _ := r_wordOf (b := 0) hR.1 hV.1 hk (by decide)
          refine ⟨upd r k (nI (wordA (gX G.1) k)), fun w hw => ?_, ?_⟩
          · by_cases e : w = k
            · rw [e, upd_eq]
            · rw [upd_ne e]; exact hI w (by omega)
          · show m_X12_shape_w49 (S.2.1 1) (nI 0) (nI j) (m_X12_shape_j73 (S.2.1 1) (nI 0) (nI j)) (f + 1) (nI k) (upd (S.2.1 0) 4 0) r = _
            rw [m_X12_shape_w49, if_neg (show ¬ (64 : Int32) ≤ nI k from nI_ge (b := 64) hk (by decide)), bd_ok hwo, wr_nI hk (by decide), nm, show nI k + 1 = nI (k + 1) from nI_1 _]) (by
          intro f r _
          show m_X12_shape_w49 (S.2.1 1) (nI 0) (nI j) (m_X12_shape_j73 (S.2.1 1) (nI 0) (nI j)) (f + 1) (nI 64) (upd (S.2.1 0) 4 0) r = _
          rw [m_X12_shape_w49, if_pos (show (64 : Int32) ≤ nI 64 from nI_le (a := 64) (Nat.le_refl _) (by decide))]) fuelN 0 me (Nat.zero_le _) (by rw [fuel_is]; omega) (fun w hw => absurd hw (Nat.not_lt_zero w))
        obtain ⟨F9, q1, q2⟩ := r_shape86 (rows := S.2.1 1) (F := upd (S.2.1 0) 4 0) (p1 := nI 0) u2 p1 (fun w hw => word_le hV.1 hw)
        refine go0 (shV (wordA (gX G.1)) j) F7 wo (S.1.1 25) (S.1.1 26) (S.1.1 27) F9 m2 q2 ?_ ?_
        · unfold pX_shape
          rw [m_X11_shape, if_neg n1, if_neg n2, if_neg n3, if_pos n4, if_pos (show nI 0 = 0 from rfl), bd_ok f1, bd_ok s1, m_X11_shape_j122, bd_ok (c_answer u2 s2 s3 s4 s5 s6), bd_ok rfl]
        · unfold pM_shape
          rw [hpm (some (shV (wordA (gX G.1)) j, F9, m2)) (by
            rw [if_pos (show nI 0 = 0 from rfl)]
            refine (show _ = m_X12_shape_j73 (S.2.1 1) (nI 0) (nI j) (upd (S.2.1 0) 4 0) m2 from p2).trans ?_
            rw [m_X12_shape_j73, if_neg (by decide)]
            exact q1), bd_ok rfl]
      · obtain ⟨W, g1, g2⟩ := c_start (row := S.1.1 25) (pic := S.1.1 26) hC.1
        have g3 : ∀ w, w < 64 → W.2 w = nI ((gX G.1).1 w) := fun w hw => by rw [g2.2.2 w hw]; rfl
        obtain ⟨se, s1, s2⟩ := c_recPic (se := S.1.1 27) g3 hV.1.1 hm2
        obtain ⟨F7, t1, t2, t3, t4, t5, t6⟩ := c_survey g3 hV.1.1 (S.1.1 28)
        obtain ⟨F9, q1, q2⟩ := r_shape86 (rows := S.2.1 1) (F := upd (S.2.1 0) 4 0) (p1 := nI 1) u2 e2 hV.1.1
        refine go0 (shV (gX G.1).1 j) F7 (S.1.1 19) W.1 W.2 se F9 me q2 ?_ ?_
        · unfold pX_shape
          rw [m_X11_shape, if_neg n1, if_neg n2, if_neg n3, if_pos n4, if_neg (by decide), bd_ok g1, hC.2.2.2.2.1, bd_ok s1, if_pos (show nI 1 = 1 from rfl), bd_ok t1, m_X11_shape_j122, bd_ok (c_answer u2 t2 t3 t4 t5 t6), bd_ok rfl]
        · unfold pM_shape
          rw [hpm (some (shV (gX G.1).1 j, F9, me)) (by
            rw [if_neg (by decide), m_X12_shape_j73, if_neg (by decide)]
            exact q1), bd_ok rfl]
      · obtain ⟨W, g1, g2⟩ := c_start (row := S.1.1 25) (pic := S.1.1 26) hC.1
        have g3 : ∀ w, w < 64 → W.2 w = nI ((gX G.1).1 w) := fun w hw => by rw [g2.2.2 w hw]; rfl
        obtain ⟨se, s1, s2⟩ := c_recPic (se := S.1.1 27) g3 hV.1.1 hm2
        obtain ⟨F7, t1, t2, t3, t4, t5, t6⟩ := c_survey s2 (recA_le hV.1.1) (S.1.1 28)
        obtain ⟨m3, k1, k2⟩ := r_recovers (F := upd (S.2.1 0) 4 0) hF1 e2 hV.1.1 hm2
        obtain ⟨F9, q1, q2⟩ := r_shape86 (rows := S.2.1 1) (F := upd (S.2.1 0) 4 0) (p1 := nI 2) u2 k2 (recA_le hV.1.1)
        refine go0 (shV (recA mode (gX G.1).1) j) F7 (S.1.1 19) W.1 W.2 se F9 m3 q2 ?_ ?_
        · unfold pX_shape
          rw [m_X11_shape, if_neg n1, if_neg n2, if_neg n3, if_pos n4, if_neg (by decide), bd_ok g1, hC.2.2.2.2.1, bd_ok s1, if_neg (by decide), bd_ok t1, m_X11_shape_j122, bd_ok (c_answer u2 t2 t3 t4 t5 t6), bd_ok rfl]
        · unfold pM_shape
          rw [hpm (some (shV (recA mode (gX G.1).1) j, F9, m3)) (by
            rw [if_neg (by decide), m_X12_shape_j73, if_pos (show nI 2 = 2 from rfl), bd_ok k1]
            exact q1), bd_ok rfl]
    · subst hi
      have wa : m_X12_within (nI i) 0 2 = some 1 := wa
      have wc : m_X12_within a2 0 4 = some 0 := wc
      refine go1 ?_ ?_
      · unfold pX_shape
        rw [m_X11_shape, if_neg (show ¬ nI i < 0 from nI_pos (by omega)), if_neg (show ¬ (2 : Int32) < nI i from nI_nlt (a := 2) v2 (by omega))]
        by_cases c : a2 < 0
        · rw [if_pos c, bd_ok rfl]
        · obtain ⟨j, hj, rfl⟩ := nI_of c
          have := wd j hj rfl
          rw [if_neg c, if_neg (show ¬ nI j ≤ 4 from nI_ge (a := 4) (by omega) hj), bd_ok rfl]
      · unfold pM_shape
        rw [m_X12_shape, nm, bd_ok wa, if_neg (by decide), bd_ok wc, if_pos rfl, no, bd_ok rfl]
  · have wa : m_X12_within a1 0 2 = some 0 := wa
    refine go1 ?_ ?_
    · unfold pX_shape
      rw [m_X11_shape]
      by_cases c : a1 < 0
      · rw [if_pos c, bd_ok rfl]
      · obtain ⟨j, hj, rfl⟩ := nI_of c
        have := wb j hj rfl
        rw [if_neg c, if_pos (show (2 : Int32) < nI j from nI_lt (a := 2) (by omega) hj), bd_ok rfl]
    · unfold pM_shape
      rw [m_X12_shape, nm, bd_ok wa, if_pos rfl, no, bd_ok rfl]
