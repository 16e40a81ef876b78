/-! ===== acts ===== -/
theorem nI_ne1 {j : Nat} (hj : j < 2 ^ 31) : ¬ nI j = -1 := by
  intro e
  have h1 := congrArg Int32.toInt e
  rw [nI_toInt hj] at h1
  have h2 : (-1 : Int32).toInt = -1 := by decide
  omega
theorem frRq {r t rows : Nat → Int32} (h1 : frR r t 786) (h2 : ∀ j, j < 786 ∨ 1572 ≤ j → t j = rows j) : ∀ j, j < 786 ∨ 2358 ≤ j → r j = rows j := fun j hj => (h1 j (by omega)).trans (h2 j (by omega))
theorem lr_evict {n : Nat} {S : LwS} (h : LR n S) (a1 a2 a3 a4 a5 : Int32) : ∃ T, sL_evict S a1 a2 a3 a4 a5 = some T ∧ LR (n + 1) T := by
  obtain ⟨mode, G, I, b1, b2, b3, b4⟩ := id h
  have hC := LX_cm b1
  have hV := b1.2.1.1
  have hR : RM (S.2.1 1) 0 G.1 := b1.2.2.2.1.1
  have hm2 := b1.1
  have hF : S.2.1 0 12 = nI mode := b1.2.2.2.2
  have h4 : upd (S.2.1 0) 4 0 4 = 0 := upd_eq
  have h41 : upd (upd (S.2.1 0) 4 0) 4 1 4 = 1 := upd_eq
  have hF1 : upd (S.2.1 0) 4 0 12 = nI mode := by rw [upd_ne (by decide)]; exact hF
  have rf : m_X12_refuses (S.2.1 4) 1 = some (-1, upd (S.2.1 4) 1 (S.2.1 4 1 + 1)) := r_refuse (k := 1) (by decide)
  rcases c_isLineX (x := a1) with ⟨w1, l, rfl, hl⟩ | ⟨w1, w2⟩
  · have hw : m_X12_within (nI l) 0 15 = some 1 := (r_within (lo := 0) (hi := 15) (by omega) (by decide) (by decide)).trans (by rw [if_pos (by omega)]; rfl)
    have c1 := hC.1.2.1 l hl
    have r1 := hR.1.2.1 l hl
    have h6 := (hV.1.2 l hl).1
    rw [Nat.zero_add] at r1
    have e64 : (64 + nI l : Int32) = nI (64 + l) := by rw [show (64 : Int32) = nI 64 from rfl, nI_add]
    rcases r_withinX (x := a2) (lo := 1) (hi := ((gX G.1).2.1 l).length) (by decide) (by omega) with ⟨wa, m, rfl, v1, v2⟩ | ⟨wa, wb⟩
    · have wa : m_X12_within (nI m) 1 (nI ((gX G.1).2.1 l).length) = some 1 := wa
      obtain ⟨t, t1, t2, t3⟩ := r_tries hR hV
      obtain ⟨r, g1, g2, g3, g4⟩ := r_ev (b := 786) t2 hV hl v2 (by decide)
      have g1 : m_X12_reaches t 786 (nI l) (nI m) = some r := g1
      obtain ⟨R, q1, q2, q3⟩ := c_ev hC hV hl v2
      obtain ⟨Fh', hs', k1, k2, k3⟩ := cq_keep (T := (S.1.1 3, S.1.1 5, S.1.1 6, S.1.1 7, S.1.1 8, S.1.1 9, S.1.1 10, S.1.1 11, S.1.1 12, S.1.1 13)) b1.2.2.1.2.1 hV hC
      have k1 : m_keep (S.1.1 14) S.1.2.1 (S.1.1 3, S.1.1 5, S.1.1 6, S.1.1 7, S.1.1 8, S.1.1 9, S.1.1 10, S.1.1 11, S.1.1 12, S.1.1 13) = some (Fh', hs') := k1
      have hVe := VM_ev hV hl v2 (by omega)
      have hfrq := frRq g4 t3
      have hRH' : RH (upd (S.2.1 0) 4 0 6) (upd (S.2.1 0) 4 0 5) r 2358 G.2.1 := by
        rw [upd_ne (by decide), upd_ne (by decide)]
        exact RH_fr b1.2.1.2.1 (fun i hi => hfrq _ (by omega)) b1.2.2.2.1.2.1
      obtain ⟨F2, r2, d1, d2, d3, d4, d5⟩ := r_isDone (re := S.2.1 4) (x := nI (((gX G.1).2.1 l).length - m)) (mode := mode) (nI_ne1 (by omega)) hRH' b1.2.1.2.1 hV hVe (RM_move hV (fun i hi => hfrq _ (by omega)) hR) g2
      have e850 : (850 + nI l : Int32) = nI (786 + 64 + l) := by rw [show (850 : Int32) = nI 850 from rfl, nI_add]
      obtain ⟨o, ho⟩ := sh_0 (S := S) (a := 11) (b := 432) (K := 1) (x := nI (((gX G.1).2.1 l).length - m)) (C := (upC (upC (upC (upC (upC (upC S.1.1 14 Fh') 5 R.1) 6 R.2.1) 7 R.2.2.1) 8 R.2.2.2) 17 (S.1.1 17), hs', S.1.2.2.1, S.1.2.2.2)) (M := upC (upC (upC S.2.1 0 F2) 1 r2) 4 (S.2.1 4)) (r := pX_evict S.1 (nI l) (nI m)) (p := pM_evict S.2.1 (nI l) (nI m)) (by
        unfold pX_evict
        rw [m_X11_evict, bd_ok w1, if_neg (by decide), if_neg (show ¬ nI m < 1 from nI_nlt (b := 1) v1 (by omega)), rd_nI hl (by decide), c1, if_pos (nI_le v2 (by omega)), bd_ok k1, bd_ok q1, rd_nI hl (by decide), q2, bd_ok rfl]) (by
        unfold pM_evict
        rw [m_X12_evict, nm, bd_ok hw, bd_ok (r_right1 h4)]
        dsimp only
        rw [if_neg (show ¬ (1 : Int32) = 0 by decide), e64, rd_nI (by omega) (by decide), r1, bd_ok wa, if_neg (by decide), bd_ok t1, bd_ok g1, e850, rd_nI (by omega) (by decide), g3, bd_ok d1, bd_ok rfl]) (show F2 4 = 0 by rw [d4 4 (by decide) (by decide)]; exact h4)
      exact ⟨_, ho, lr_act (A := evA l m G.1) b1 b2 b3 b4 hVe q3 k2 rfl rfl rfl ⟨rfl, rfl, rfl, rfl, rfl, rfl⟩ k3 d2 d3 (fun i p q => (d4 i (by omega) (by omega)).trans (fq0 i (by omega) q)) (fun i hi => (d5 i hi).trans (hfrq i (by omega))) rfl rfl rfl rfl (by omega) (by omega)⟩
    · have wa : m_X12_within a2 1 (nI ((gX G.1).2.1 l).length) = some 0 := wa
      have hj43 : m_X11_evict_j43 (S.1.1 3) (S.1.1 9) (S.1.1 10) (S.1.1 11) (S.1.1 12) (S.1.1 13) (nI l) a2 (S.1.1 14) (S.1.1 5) (S.1.1 6) (S.1.1 7) (S.1.1 8) (S.1.1 17) S.1.2.1 = some (0, -1, S.1.1 14, S.1.1 5, S.1.1 6, S.1.1 7, S.1.1 8, upd (S.1.1 17) 1 (S.1.1 17 1 + 1), S.1.2.1) := by
        rw [m_X11_evict_j43, bd_ok c_refuse]
      obtain ⟨o, ho⟩ := sh_0 (S := S) (a := 11) (b := 432) (K := 1) (x := -1) (C := (upC (upC (upC (upC (upC (upC S.1.1 14 (S.1.1 14)) 5 (S.1.1 5)) 6 (S.1.1 6)) 7 (S.1.1 7)) 8 (S.1.1 8)) 17 (upd (S.1.1 17) 1 (S.1.1 17 1 + 1)), S.1.2.1, S.1.2.2.1, S.1.2.2.2)) (M := upC (upC (upC S.2.1 0 (upd (S.2.1 0) 4 0)) 1 (S.2.1 1)) 4 (upd (S.2.1 4) 1 (S.2.1 4 1 + 1))) (r := pX_evict S.1 (nI l) a2) (p := pM_evict S.2.1 (nI l) a2) (by
        unfold pX_evict
        rw [m_X11_evict, bd_ok w1, if_neg (by decide)]
        by_cases c : a2 < 1
        · rw [if_pos c, hj43, bd_ok rfl]
        · have c0 : ¬ a2 < 0 := fun e => c (neg_lt (n := 1) e (by decide))
          obtain ⟨j, hj, rfl⟩ := nI_of c0
          have h1 : ¬ nI j < nI 1 := c
          have hb := wb j hj rfl
          have h2 : 1 ≤ j := by
            by_cases d : 1 ≤ j
            · exact d
            · exact absurd (nI_lt (a := j) (b := 1) (by omega) (by decide)) h1
          rw [if_neg c, rd_nI hl (by decide), c1, if_neg (nI_ge (by omega) hj), hj43, bd_ok rfl]) (by
        unfold pM_evict
        rw [m_X12_evict, nm, bd_ok hw, bd_ok (r_right1 h4)]
        dsimp only
        rw [if_neg (show ¬ (1 : Int32) = 0 by decide), e64, rd_nI (by omega) (by decide), r1, bd_ok wa, if_pos rfl, bd_ok rf, bd_ok rfl]) h4
      exact ⟨_, ho, lr_refuse (k := 1) h (by decide) ⟨rfl, rfl, rfl, rfl, rfl, rfl, rfl, rfl, rfl, rfl, rfl, rfl, rfl⟩ rfl ⟨rfl, rfl, rfl, rfl, rfl, rfl⟩ fq0 (fun _ _ => rfl) rfl rfl rfl rfl (by omega) (by omega)⟩
  · rcases r_withinX (x := a1) (lo := 0) (hi := 15) (by decide) (by decide) with ⟨a, j, b, c, d⟩ | ⟨a, b⟩
    · exact absurd (show j < 16 by omega) (w2 j (by omega) b)
    · have a : m_X12_within a1 0 15 = some 0 := a
      obtain ⟨o, ho⟩ := sh_1 (S := S) (a := 11) (b := 432) (K := 1) (x := 0) (y := 0) (C := (upC (upC (upC (upC (upC (upC S.1.1 14 (S.1.1 14)) 5 (S.1.1 5)) 6 (S.1.1 6)) 7 (S.1.1 7)) 8 (S.1.1 8)) 17 (S.1.1 17), S.1.2.1, S.1.2.2.1, S.1.2.2.2)) (M := upC (upC (upC S.2.1 0 (upd (upd (S.2.1 0) 4 0) 4 1)) 1 (S.2.1 1)) 4 (S.2.1 4)) (r := pX_evict S.1 a1 a2) (p := pM_evict S.2.1 a1 a2) (by decide) (by
        unfold pX_evict
        rw [m_X11_evict, bd_ok w1, if_pos rfl, bd_ok rfl]) (by
        unfold pM_evict
        rw [m_X12_evict, nm, bd_ok a, bd_ok (r_right0 h4 (by decide))]
        dsimp only
        rw [if_pos rfl, bd_ok rfl]) h41
      exact ⟨_, ho, lr_query h ⟨rfl, rfl, rfl, rfl, rfl, rfl, rfl, rfl, rfl, rfl, rfl, rfl, rfl, rfl⟩ ⟨rfl, rfl, rfl, rfl, rfl, rfl⟩ fq1 (fun _ _ => rfl) rfl rfl rfl rfl (by omega) (by omega)⟩
theorem fateA_le {mode : Nat} {A : MA} {ro : Nat → Nat} : fateA mode A ro ≤ 3 := by
  unfold fateA fateN
  by_cases c : eqB (recA mode (imgA (gX A) ro)) (gB A) 44 = true
  · rw [if_pos c]
    by_cases d : eqB (recA mode (imgA (gX A) ro)) (gA A) 44 = true
    · rw [if_pos d]; omega
    · rw [if_neg d]; omega
  · rw [if_neg c]
    by_cases d : eqB (recA mode (imgA (gX A) ro)) (gA A) 44 = true
    · rw [if_pos d]; omega
    · rw [if_neg d]; omega
theorem lr_crash {n : Nat} {S : LwS} (h : LR n S) (a1 a2 a3 a4 a5 : Int32) : ∃ T, sL_crash S a1 a2 a3 a4 a5 = some T ∧ LR (n + 1) T := by
  obtain ⟨mode, G, I, b1, b2, b3, b4⟩ := id h
  have hC := LX_cm b1
  have hV := b1.2.1.1
  have hR : RM (S.2.1 1) 0 G.1 := b1.2.2.2.1.1
  have hm2 := b1.1
  have hF : S.2.1 0 12 = nI mode := b1.2.2.2.2
  have h4 : upd (S.2.1 0) 4 0 4 = 0 := upd_eq
  have h41 : upd (upd (S.2.1 0) 4 0) 4 1 4 = 1 := upd_eq
  have hF1 : upd (S.2.1 0) 4 0 12 = nI mode := by rw [upd_ne (by decide)]; exact hF
  have rf : m_X12_refuses (S.2.1 4) 1 = some (-1, upd (S.2.1 4) 1 (S.2.1 4 1 + 1)) := r_refuse (k := 1) (by decide)
  have h22 := hV.2.2.2.1
  have r772 : ∀ {α : Type} (k : Int32 → Option α), rd (S.2.1 1) 66100 772 k = k (nI (gS G.1)) := fun k => by
    rw [show (772 : Int32) = nI 772 from rfl, rd_nI (by decide) (by decide), show S.2.1 1 772 = nI (gS G.1) from hR.2.2.2.1]
  have no : pX_crash S.1 a1 = some (-1, (upC (upC (upC (upC (upC (upC (upC (upC (upC (upC (upC (upC S.1.1 3 (S.1.1 3)) 14 (S.1.1 14)) 5 (S.1.1 5)) 7 (S.1.1 7)) 8 (S.1.1 8)) 10 (S.1.1 10)) 11 (S.1.1 11)) 13 (S.1.1 13)) 17 (upd (S.1.1 17) 1 (S.1.1 17 1 + 1))) 25 (S.1.1 25)) 26 (S.1.1 26)) 27 (S.1.1 27), S.1.2.1, S.1.2.2.1, S.1.2.2.2)) → pM_crash S.2.1 a1 = some (-1, upC (upC (upC (upC (upC (upC (upC S.2.1 0 (upd (S.2.1 0) 4 0)) 1 (S.2.1 1)) 4 (upd (S.2.1 4) 1 (S.2.1 4 1 + 1))) 9 (S.2.1 9)) 10 (S.2.1 10)) 11 (S.2.1 11)) 12 (S.2.1 12)) → ∃ T, sL_crash S a1 a2 a3 a4 a5 = some T ∧ LR (n + 1) T := by
    intro e1 e2
    refine ⟨_, ?_, lr_refuse (k := 1) (bt := S.1.2.2.2) (c := upC (upC (upC (upC (upC (upC (upC (upC (upC (upC (upC (upC S.1.1 3 (S.1.1 3)) 14 (S.1.1 14)) 5 (S.1.1 5)) 7 (S.1.1 7)) 8 (S.1.1 8)) 10 (S.1.1 10)) 11 (S.1.1 11)) 13 (S.1.1 13)) 17 (upd (S.1.1 17) 1 (S.1.1 17 1 + 1))) 25 (S.1.1 25)) 26 (S.1.1 26)) 27 (S.1.1 27)) (M := upC (upC (upC (upC (upC (upC (upC S.2.1 0 (upd (S.2.1 0) 4 0)) 1 (S.2.1 1)) 4 (upd (S.2.1 4) 1 (S.2.1 4 1 + 1))) 9 (S.2.1 9)) 10 (S.2.1 10)) 11 (S.2.1 11)) 12 (S.2.1 12)) (o := S.2.2.1) (x := S.2.2.2.1 + 11) (y := S.2.2.2.2 + 432) h (by decide) ⟨rfl, rfl, rfl, rfl, rfl, rfl, rfl, rfl, rfl, rfl, rfl, rfl, rfl⟩ rfl ⟨rfl, rfl, rfl, rfl, rfl, rfl⟩ fq0 (fun _ _ => rfl) rfl rfl rfl rfl (by omega) (by omega)⟩
    unfold sL_crash
    rw [bd_ok e1, bd_ok e2, if_pos rfl]
  by_cases c1 : gS G.1 = 1
  · refine no ?_ ?_
    · unfold pX_crash
      rw [m_X11_crash, if_pos (show S.1.1 3 8 = 1 by rw [hC.2.2.2.1, c1]; rfl), m_X11_crash_j24, bd_ok c_refuse, bd_ok rfl]
    · unfold pM_crash
      rw [m_X12_crash, nm, r772, if_pos (show nI (gS G.1) = 1 by rw [c1]; rfl), m_X12_crash_j25, bd_ok rf, bd_ok rfl]
  · have n1 : ¬ S.1.1 3 8 = 1 := by rw [hC.2.2.2.1]; exact fun e => c1 (nI_inj (b := 1) (by omega) (by decide) e)
    have n2 : ¬ nI (gS G.1) = 1 := fun e => c1 (nI_inj (b := 1) (by omega) (by decide) e)
    rcases ordX (x := a1) hC.1 hR.1 hV.1 with ⟨o1, o2, j, hj, rfl, o3⟩ | ⟨o1, o2⟩
    · obtain ⟨W, g1, g2⟩ := c_open (row := S.1.1 25) (pic := S.1.1 26) (n := j) hC.1 hV.1 hj
      obtain ⟨se, s1, s2⟩ := c_fateBy (se := S.1.1 27) hm2 hV hC.2.2.2.2.1 g2.2.2 hC.2.2.2.2.2.2.2.1 hC.2.2.2.2.2.2.2.2
      obtain ⟨f3, f5, f7, f8, f10, f11, f13, p1, p2⟩ := c_fall hC g2.2.2 s2
      obtain ⟨Fh', hs', k1, k2, k3⟩ := cq_keep (T := (S.1.1 3, S.1.1 5, S.1.1 6, S.1.1 7, S.1.1 8, S.1.1 9, S.1.1 10, S.1.1 11, S.1.1 12, S.1.1 13)) b1.2.2.1.2.1 hV hC
      have k1 : m_keep (S.1.1 14) S.1.2.1 (S.1.1 3, S.1.1 5, S.1.1 6, S.1.1 7, S.1.1 8, S.1.1 9, S.1.1 10, S.1.1 11, S.1.1 12, S.1.1 13) = some (Fh', hs') := k1
      obtain ⟨t, t1, t2, t3⟩ := r_tries hR hV
      obtain ⟨od, d1, d2⟩ := r_laysOrder (ord := S.2.1 10) (b := 786) (n := j) t2.1 hV.1 (by decide) hj
      have d1 : m_X12_laysOrder t (S.2.1 10) 786 (nI j) = some od := d1
      obtain ⟨F', r, me', im', we', q1, q2, q3, q4⟩ := r_crashes (F := upd (S.2.1 0) 4 0) (me := S.2.1 9) (im := S.2.1 11) (we := S.2.1 12) (b := 786) hm2 (by decide) t2 hV hF1 dig_ok d2
      have q1 : m_X12_crashes (upd (S.2.1 0) 4 0) t (S.2.1 9) od (S.2.1 11) (S.2.1 12) 786 = _ := q1
      have hVf := VM_fall (im := imgA (gX G.1) (dig (gX G.1) j)) hV (imgA_le hV.1)
      have hfrq := frRq q4 t3
      have hRH' : RH (F' 6) (F' 5) r 2358 G.2.1 := by
        rw [q3 6 (by decide), q3 5 (by decide), upd_ne (by decide), upd_ne (by decide)]
        exact RH_fr b1.2.1.2.1 (fun i hi => hfrq _ (by omega)) b1.2.2.2.1.2.1
      have hfl := fateA_le (mode := mode) (A := G.1) (ro := dig (gX G.1) j)
      obtain ⟨F2, r2, e1, e2, e3, e4, e5⟩ := r_isDone (re := S.2.1 4) (x := nI (fateA mode G.1 (dig (gX G.1) j))) (mode := mode) (nI_ne1 (by omega)) hRH' b1.2.1.2.1 hV hVf (RM_move hV (fun i hi => hfrq _ (by omega)) hR) q2
      refine ⟨_, ?_, lr_act (A := fallA mode (imgA (gX G.1) (dig (gX G.1) j)) G.1) (bt := S.1.2.2.2) (c := upC (upC (upC (upC (upC (upC (upC (upC (upC (upC (upC (upC S.1.1 3 f3) 14 Fh') 5 f5) 7 f7) 8 f8) 10 f10) 11 f11) 13 f13) 17 (S.1.1 17)) 25 W.1) 26 W.2) 27 se) (hs := hs') (M := upC (upC (upC (upC (upC (upC (upC S.2.1 0 F2) 1 r2) 4 (S.2.1 4)) 9 me') 10 od) 11 im') 12 we') (o := S.2.2.1) (x := S.2.2.2.1 + 11) (y := S.2.2.2.2 + 432) b1 b2 b3 b4 hVf p2 k2 rfl rfl rfl ⟨rfl, rfl, rfl, rfl, rfl, rfl⟩ k3 e2 e3 (fun i p q => (e4 i (by omega) (by omega)).trans ((q3 i (by omega)).trans (fq0 i (by omega) q))) (fun i hi => (e5 i hi).trans (hfrq i (by omega))) rfl rfl rfl rfl (by omega) (by omega)⟩
      unfold sL_crash
      have x1 : pX_crash S.1 (nI j) = some (nI (fateA mode G.1 (dig (gX G.1) j)), (upC (upC (upC (upC (upC (upC (upC (upC (upC (upC (upC (upC S.1.1 3 f3) 14 Fh') 5 f5) 7 f7) 8 f8) 10 f10) 11 f11) 13 f13) 17 (S.1.1 17)) 25 W.1) 26 W.2) 27 se, hs', S.1.2.2.1, S.1.2.2.2)) := by
        unfold pX_crash
        rw [m_X11_crash, if_neg n1, bd_ok o1, if_neg (by decide), bd_ok k1, bd_ok g1, bd_ok s1]
        dsimp only
        rw [bd_ok p1, bd_ok rfl]
      have x2 : pM_crash S.2.1 (nI j) = some (nI (fateA mode G.1 (dig (gX G.1) j)), upC (upC (upC (upC (upC (upC (upC S.2.1 0 F2) 1 r2) 4 (S.2.1 4)) 9 me') 10 od) 11 im') 12 we') := by
        unfold pM_crash
        rw [m_X12_crash, nm, r772, if_neg n2, bd_ok o2, if_neg (by decide), bd_ok t1, bd_ok d1, bd_ok q1]
        dsimp only
        rw [bd_ok e1, bd_ok rfl]
      rw [bd_ok x1, bd_ok x2, if_pos rfl]
    · refine no ?_ ?_
      · unfold pX_crash
        rw [m_X11_crash, if_neg n1, bd_ok o1, if_pos rfl, m_X11_crash_j24, bd_ok c_refuse, bd_ok rfl]
      · unfold pM_crash
        rw [m_X12_crash, nm, r772, if_neg n2, bd_ok o2, if_pos rfl, m_X12_crash_j25, bd_ok rf, bd_ok rfl]
theorem lr_recover {n : Nat} {S : LwS} (h : LR n S) (a1 a2 a3 a4 a5 : Int32) : ∃ T, sL_recover S a1 a2 a3 a4 a5 = some T ∧ LR (n + 1) T := by
  obtain ⟨mode, G, I, b1, b2, b3, b4⟩ := id h
  have hC := LX_cm b1
  have hV := b1.2.1.1
  have hR : RM (S.2.1 1) 0 G.1 := b1.2.2.2.1.1
  have hm2 := b1.1
  have hF : S.2.1 0 12 = nI mode := b1.2.2.2.2
  have h4 : upd (S.2.1 0) 4 0 4 = 0 := upd_eq
  have h41 : upd (upd (S.2.1 0) 4 0) 4 1 4 = 1 := upd_eq
  have hF1 : upd (S.2.1 0) 4 0 12 = nI mode := by rw [upd_ne (by decide)]; exact hF
  have rf : m_X12_refuses (S.2.1 4) 1 = some (-1, upd (S.2.1 4) 1 (S.2.1 4 1 + 1)) := r_refuse (k := 1) (by decide)
  have h22 := hV.2.2.2.1
  have r772 : ∀ {α : Type} (k : Int32 → Option α), rd (S.2.1 1) 66100 772 k = k (nI (gS G.1)) := fun k => by
    rw [show (772 : Int32) = nI 772 from rfl, rd_nI (by decide) (by decide), show S.2.1 1 772 = nI (gS G.1) from hR.2.2.2.1]
  by_cases c1 : gS G.1 = 1
  · obtain ⟨R, p1, p2⟩ := c_beginRecovery (P := S.1.1 18) (ad := S.1.1 20) (nu := S.1.1 21) hm2 hC hV c1
    obtain ⟨Fh', hs', k1, k2, k3⟩ := cq_keep (T := (S.1.1 3, S.1.1 5, S.1.1 6, S.1.1 7, S.1.1 8, S.1.1 9, S.1.1 10, S.1.1 11, S.1.1 12, S.1.1 13)) b1.2.2.1.2.1 hV hC
    have k1 : m_keep (S.1.1 14) S.1.2.1 (S.1.1 3, S.1.1 5, S.1.1 6, S.1.1 7, S.1.1 8, S.1.1 9, S.1.1 10, S.1.1 11, S.1.1 12, S.1.1 13) = some (Fh', hs') := k1
    obtain ⟨t, t1, t2, t3⟩ := r_tries hR hV
    obtain ⟨F', r, ad', nu', me', q1, q2, q3, q4, q5⟩ := r_recovery (F := upd (S.2.1 0) 4 0) (ad := S.2.1 7) (nu := S.2.1 8) (mem := S.2.1 9) (b := 786) hm2 (by decide) t2 hV c1 hF1
    have q1 : m_X12_recovery (upd (S.2.1 0) 4 0) t (S.2.1 7) (S.2.1 8) (S.2.1 9) 786 = _ := q1
    have hVf := VM_recov hV c1
    have hfrq := frRq q4 t3
    have hRH' : RH (F' 6) (F' 5) r 2358 G.2.1 := by
      rw [q3 6 (by omega), q3 5 (by omega), upd_ne (by decide), upd_ne (by decide)]
      exact RH_fr b1.2.1.2.1 (fun i hi => hfrq _ (by omega)) b1.2.2.2.1.2.1
    obtain ⟨ca, cc2, cc3, cc4, cc5, cc6⟩ := p2.2.1
    have hml : m_X4_microsLeft R.1 = some (nI (gM (recovA mode G.1)).length) := by
      rw [m_X4_microsLeft, cc2, cc3, nI_subE (by omega), show ca + (gM (recovA mode G.1)).length - ca = (gM (recovA mode G.1)).length by omega]
    obtain ⟨F2, r2, e1, e2, e3, e4, e5⟩ := r_isDone (re := S.2.1 4) (x := nI (gM (recovA mode G.1)).length) (mode := mode) (nI_ne1 (by omega)) hRH' b1.2.1.2.1 hV hVf (RM_move hV (fun i hi => hfrq _ (by omega)) hR) q2
    refine ⟨_, ?_, lr_act (A := recovA mode G.1) (bt := S.1.2.2.2) (c := upC (upC (upC (upC (upC (upC (upC (upC S.1.1 3 R.1) 14 Fh') 18 R.2.1) 9 R.2.2.1) 13 R.2.2.2.1) 17 (S.1.1 17)) 20 R.2.2.2.2.1) 21 R.2.2.2.2.2) (hs := hs') (M := upC (upC (upC (upC (upC (upC S.2.1 0 F2) 1 r2) 4 (S.2.1 4)) 7 ad') 8 nu') 9 me') (o := S.2.2.1) (x := S.2.2.2.1 + 11) (y := S.2.2.2.2 + 432) b1 b2 b3 b4 hVf p2 k2 rfl rfl rfl ⟨rfl, rfl, rfl, rfl, rfl, rfl⟩ k3 e2 e3 (fun i p q => (e4 i (by omega) (by omega)).trans ((q3 i (by omega)).trans (fq0 i (by omega) q))) (fun i hi => (e5 i hi).trans (hfrq i (by omega))) rfl rfl rfl rfl (by omega) (by omega)⟩
    unfold sL_recover
    have x1 : pX_recover S.1 = some (nI (gM (recovA mode G.1)).length, (upC (upC (upC (upC (upC (upC (upC (upC S.1.1 3 R.1) 14 Fh') 18 R.2.1) 9 R.2.2.1) 13 R.2.2.2.1) 17 (S.1.1 17)) 20 R.2.2.2.2.1) 21 R.2.2.2.2.2, hs', S.1.2.2.1, S.1.2.2.2)) := by
      unfold pX_recover
      rw [m_X11_recover, if_pos (show S.1.1 3 8 = 1 by rw [hC.2.2.2.1, c1]; rfl), bd_ok k1, bd_ok p1, bd_ok hml, bd_ok rfl]
    have x2 : pM_recover S.2.1 = some (nI (gM (recovA mode G.1)).length, upC (upC (upC (upC (upC (upC S.2.1 0 F2) 1 r2) 4 (S.2.1 4)) 7 ad') 8 nu') 9 me') := by
      unfold pM_recover
      rw [m_X12_recover, nm, r772, if_pos (show nI (gS G.1) = 1 by rw [c1]; rfl), bd_ok t1, bd_ok q1]
      dsimp only
      rw [show (1560 : Int32) = nI (786 + 774) from rfl, rd_nI (by decide) (by decide), q5, bd_ok e1, bd_ok rfl]
    rw [bd_ok x1, bd_ok x2, if_pos rfl]
  · have n1 : ¬ S.1.1 3 8 = 1 := by rw [hC.2.2.2.1]; exact fun e => c1 (nI_inj (b := 1) (by omega) (by decide) e)
    have n2 : ¬ nI (gS G.1) = 1 := fun e => c1 (nI_inj (b := 1) (by omega) (by decide) e)
    refine ⟨_, ?_, lr_refuse (k := 1) (bt := S.1.2.2.2) (c := upC (upC (upC (upC (upC (upC (upC (upC S.1.1 3 (S.1.1 3)) 14 (S.1.1 14)) 18 (S.1.1 18)) 9 (S.1.1 9)) 13 (S.1.1 13)) 17 (upd (S.1.1 17) 1 (S.1.1 17 1 + 1))) 20 (S.1.1 20)) 21 (S.1.1 21)) (M := upC (upC (upC (upC (upC (upC S.2.1 0 (upd (S.2.1 0) 4 0)) 1 (S.2.1 1)) 4 (upd (S.2.1 4) 1 (S.2.1 4 1 + 1))) 7 (S.2.1 7)) 8 (S.2.1 8)) 9 (S.2.1 9)) (o := S.2.2.1) (x := S.2.2.2.1 + 11) (y := S.2.2.2.2 + 432) h (by decide) ⟨rfl, rfl, rfl, rfl, rfl, rfl, rfl, rfl, rfl, rfl, rfl, rfl, rfl⟩ rfl ⟨rfl, rfl, rfl, rfl, rfl, rfl⟩ fq0 (fun _ _ => rfl) rfl rfl rfl rfl (by omega) (by omega)⟩
    unfold sL_recover
    have x1 : pX_recover S.1 = some (-1, (upC (upC (upC (upC (upC (upC (upC (upC S.1.1 3 (S.1.1 3)) 14 (S.1.1 14)) 18 (S.1.1 18)) 9 (S.1.1 9)) 13 (S.1.1 13)) 17 (upd (S.1.1 17) 1 (S.1.1 17 1 + 1))) 20 (S.1.1 20)) 21 (S.1.1 21), S.1.2.1, S.1.2.2.1, S.1.2.2.2)) := by
      unfold pX_recover
      rw [m_X11_recover, if_neg n1, bd_ok c_refuse, bd_ok rfl]
    have x2 : pM_recover S.2.1 = some (-1, upC (upC (upC (upC (upC (upC S.2.1 0 (upd (S.2.1 0) 4 0)) 1 (S.2.1 1)) 4 (upd (S.2.1 4) 1 (S.2.1 4 1 + 1))) 7 (S.2.1 7)) 8 (S.2.1 8)) 9 (S.2.1 9)) := by
      unfold pM_recover
      rw [m_X12_recover, nm, r772, if_neg n2, bd_ok rf, bd_ok rfl]
    rw [bd_ok x1, bd_ok x2, if_pos rfl]
/-! sites -/
def siteA (k : Nat) (A : MA) : MA := (gX A, gM A, gW A, gS A, gO A ^^^ 1 <<< k, gT A, gB A, gA A)
theorem nI_xor (a b : Nat) : nI a ^^^ nI b = nI (a ^^^ b) := by
  apply Int32.toBitVec_inj.mp
  rw [Int32.toBitVec_xor, nI_bv, nI_bv, nI_bv, BitVec.ofNat_xor]
theorem xor_lt7 {s k : Nat} (hs : s < 128) (hk : k < 7) : s ^^^ 1 <<< k < 128 := by
  have h1 : 1 <<< k < 2 ^ 7 := by
    have : ∀ k, k < 7 → 1 <<< k < 2 ^ 7 := by decide
    exact this k hk
  exact Nat.xor_lt_two_pow (n := 7) hs h1
theorem VM_site {mode k : Nat} {A : MA} (hV : VM mode A) (hk : k < 7) : VM mode (siteA k A) := by
  obtain ⟨v1, v2, v3, v4, v5, v6⟩ := hV
  exact ⟨v1, v2, v3, v4, xor_lt7 v5 hk, v6⟩
theorem lr_site {n : Nat} {S : LwS} (h : LR n S) (a1 a2 a3 a4 a5 : Int32) : ∃ T, sL_site S a1 a2 a3 a4 a5 = some T ∧ LR (n + 1) T := by
  obtain ⟨mode, G, I, b1, b2, b3, b4⟩ := id h
  have hC := LX_cm b1
  have hV := b1.2.1.1
  have hR : RM (S.2.1 1) 0 G.1 := b1.2.2.2.1.1
  have hm2 := b1.1
  have hF : S.2.1 0 12 = nI mode := b1.2.2.2.2
  have h4 : upd (S.2.1 0) 4 0 4 = 0 := upd_eq
  have h41 : upd (upd (S.2.1 0) 4 0) 4 1 4 = 1 := upd_eq
  have hF1 : upd (S.2.1 0) 4 0 12 = nI mode := by rw [upd_ne (by decide)]; exact hF
  have rf : m_X12_refuses (S.2.1 4) 1 = some (-1, upd (S.2.1 4) 1 (S.2.1 4 1 + 1)) := r_refuse (k := 1) (by decide)
  rcases r_withinX (x := a1) (lo := 0) (hi := 6) (by decide) (by decide) with ⟨wa, j, rfl, w1, w2⟩ | ⟨wa, wb⟩
  · have wa : m_X12_within (nI j) 0 6 = some 1 := wa
    obtain ⟨Fh', hs', k1, k2, k3⟩ := cq_keep (T := (S.1.1 3, S.1.1 5, S.1.1 6, S.1.1 7, S.1.1 8, S.1.1 9, S.1.1 10, S.1.1 11, S.1.1 12, S.1.1 13)) b1.2.2.1.2.1 hV hC
    have k1 : m_keep (S.1.1 14) S.1.2.1 (S.1.1 3, S.1.1 5, S.1.1 6, S.1.1 7, S.1.1 8, S.1.1 9, S.1.1 10, S.1.1 11, S.1.1 12, S.1.1 13) = some (Fh', hs') := k1
    obtain ⟨t, t1, t2, t3⟩ := r_tries hR hV
    have hVf := VM_site (k := j) hV (by omega)
    have hlt := xor_lt7 (k := j) hV.2.2.2.2.1 (by omega)
    have es : ∀ x : Int32, x = nI (gO G.1) → x ^^^ ((1 : Int32) <<< (nI j &&& 31)) = nI (gO G.1 ^^^ 1 <<< j) := by
      intro x hx
      rw [hx]
      show nI (gO G.1) ^^^ (nI 1 <<< (nI j &&& nI 31)) = _
      rw [nI_and, and31 (by omega), nI_shl j (by omega), nI_xor]
    obtain ⟨g1, g2, g3, g4, g5, g6, g7, g8, g9⟩ := id t2
    have hR' : RM (upd t (786 + 773) (nI (gO G.1 ^^^ 1 <<< j))) 786 (siteA j G.1) := by
      refine ⟨RC_fr hV.1 (fun i p q => upd_ne (by omega)) g1, RMm_fr (fun i p q => upd_ne (by omega)) (upd_ne (by omega)) (upd_ne (by omega)) g2, RMw_fr (fun i p q => upd_ne (by omega)) (upd_ne (by omega)) g3, (upd_ne (by omega)).trans g4, upd_eq, (upd_ne (by omega)).trans g6, fun k hk => (upd_ne (by omega)).trans (g7 k hk), ⟨fun e k hk => (upd_ne (by omega)).trans (g8 e k hk), fun e e2 k hk => (upd_ne (by omega)).trans (g9 e e2 k hk)⟩⟩
    have hfrq : ∀ i, i < 786 ∨ 2358 ≤ i → upd t (786 + 773) (nI (gO G.1 ^^^ 1 <<< j)) i = S.2.1 1 i := fun i hi => by rw [upd_ne (by omega)]; exact t3 i (by omega)
    have hRH' : RH (upd (S.2.1 0) 4 0 6) (upd (S.2.1 0) 4 0 5) (upd t (786 + 773) (nI (gO G.1 ^^^ 1 <<< j))) 2358 G.2.1 := by
      rw [upd_ne (by decide), upd_ne (by decide)]
      exact RH_fr b1.2.1.2.1 (fun i hi => hfrq _ (by omega)) b1.2.2.2.1.2.1
    obtain ⟨F2, r2, d1, d2, d3, d4, d5⟩ := r_isDone (re := S.2.1 4) (x := nI (gO G.1 ^^^ 1 <<< j)) (mode := mode) (nI_ne1 (by omega)) hRH' b1.2.1.2.1 hV hVf (RM_move hV (fun i hi => hfrq _ (by omega)) hR) hR'
    have hCs : CM (upd (S.1.1 3) 10 (nI (gO G.1 ^^^ 1 <<< j))) (S.1.1 5) (S.1.1 6) (S.1.1 7) (S.1.1 8) (S.1.1 9) (S.1.1 10) (S.1.1 11) (S.1.1 12) (S.1.1 13) mode (siteA j G.1) := by
      obtain ⟨x1, ⟨a, y1, y2, y3⟩, ⟨z1, z2⟩, x4, x5, x6, x7⟩ := hC
      exact ⟨x1, ⟨a, (upd_ne (by decide)).trans y1, (upd_ne (by decide)).trans y2, y3⟩, ⟨(upd_ne (by decide)).trans z1, z2⟩, (upd_ne (by decide)).trans x4, (upd_ne (by decide)).trans x5, upd_eq, x7⟩
    obtain ⟨o, ho⟩ := sh_0 (S := S) (a := 11) (b := 432) (K := 1) (x := nI (gO G.1 ^^^ 1 <<< j)) (C := (upC (upC S.1.1 3 (upd (S.1.1 3) 10 (nI (gO G.1 ^^^ 1 <<< j)))) 14 Fh', hs', S.1.2.2.1, S.1.2.2.2)) (M := upC (upC (upC S.2.1 0 F2) 1 r2) 4 (S.2.1 4)) (r := pX_site S.1 (nI j)) (p := pM_site S.2.1 (nI j)) (by
      unfold pX_site
      rw [m_X11_site, if_neg (show ¬ nI j < 0 from nI_pos (by omega)), if_pos (show nI j < 7 from nI_lt (b := 7) (by omega) (by decide)), bd_ok k1, nm, es _ hC.2.2.2.2.2.1, upd_eq, bd_ok rfl]) (by
      unfold pM_site
      rw [m_X12_site, nm, bd_ok wa, bd_ok (r_right1 h4)]
      dsimp only
      rw [if_neg (show ¬ (1 : Int32) = 0 by decide), bd_ok t1, show (1559 : Int32) = nI (786 + 773) from rfl, rd_nI (by decide) (by decide), es _ g5, wr_nI (by decide) (by decide), rd_nI (by decide) (by decide), upd_eq, bd_ok d1, bd_ok rfl]) (show F2 4 = 0 by rw [d4 4 (by decide) (by decide)]; exact h4)
    exact ⟨_, ho, lr_act (A := siteA j G.1) b1 b2 b3 b4 hVf hCs k2 rfl rfl rfl ⟨rfl, rfl, rfl, rfl, rfl, rfl⟩ k3 d2 d3 (fun i p q => (d4 i (by omega) (by omega)).trans (fq0 i (by omega) q)) (fun i hi => (d5 i hi).trans (hfrq i (by omega))) rfl rfl rfl rfl (by omega) (by omega)⟩
  · have wa : m_X12_within a1 0 6 = some 0 := wa
    obtain ⟨o, ho⟩ := sh_1 (S := S) (a := 11) (b := 432) (K := 1) (x := 0) (y := 0) (C := (upC (upC S.1.1 3 (S.1.1 3)) 14 (S.1.1 14), S.1.2.1, S.1.2.2.1, S.1.2.2.2)) (M := upC (upC (upC S.2.1 0 (upd (upd (S.2.1 0) 4 0) 4 1)) 1 (S.2.1 1)) 4 (S.2.1 4)) (r := pX_site S.1 a1) (p := pM_site S.2.1 a1) (by decide) (by
      unfold pX_site
      rw [m_X11_site]
      by_cases c : a1 < 0
      · rw [if_pos c, bd_ok rfl]
      · obtain ⟨j, hj, rfl⟩ := nI_of c
        have := wb j hj rfl
        rw [if_neg c, if_neg (show ¬ nI j < 7 from nI_nlt (b := 7) (by omega) hj), bd_ok rfl]) (by
      unfold pM_site
      rw [m_X12_site, nm, bd_ok wa, bd_ok (r_right0 h4 (by decide))]
      dsimp only
      rw [if_pos rfl, bd_ok rfl]) h41
    exact ⟨_, ho, lr_query h ⟨rfl, rfl, rfl, rfl, rfl, rfl, rfl, rfl, rfl, rfl, rfl, rfl, rfl, rfl⟩ ⟨rfl, rfl, rfl, rfl, rfl, rfl⟩ fq1 (fun _ _ => rfl) rfl rfl rfl rfl (by omega) (by omega)⟩
theorem lr_undo {n : Nat} {S : LwS} (h : LR n S) (a1 a2 a3 a4 a5 : Int32) : ∃ T, sL_undo S a1 a2 a3 a4 a5 = some T ∧ LR (n + 1) T := by
  obtain ⟨mode, G, I, b1, b2, b3, b4⟩ := id h
  have hC := LX_cm b1
  have hV := b1.2.1.1
  have hR : RM (S.2.1 1) 0 G.1 := b1.2.2.2.1.1
  have hm2 := b1.1
  have hF : S.2.1 0 12 = nI mode := b1.2.2.2.2
  have h4 : upd (S.2.1 0) 4 0 4 = 0 := upd_eq
  have h41 : upd (upd (S.2.1 0) 4 0) 4 1 4 = 1 := upd_eq
  have hF1 : upd (S.2.1 0) 4 0 12 = nI mode := by rw [upd_ne (by decide)]; exact hF
  have rf : m_X12_refuses (S.2.1 4) 1 = some (-1, upd (S.2.1 4) 1 (S.2.1 4 1 + 1)) := r_refuse (k := 1) (by decide)
  obtain ⟨f, f1, f2, f3, f4, f5⟩ := id b1.2.2.1.2.1
  obtain ⟨g, g1, g2, g3, g4, g5⟩ := id b1.2.2.2.1.2.1
  have f3 : S.1.1 14 2 = nI G.2.1.length := f3
  rcases List.eq_nil_or_concat G.2.1 with e | ⟨H, A, e⟩
  · rw [e] at f3 g3
    refine ⟨_, ?_, lr_query (bt := S.1.2.2.2) (c := upC (upC (upC (upC (upC (upC (upC (upC (upC (upC (upC S.1.1 3 (S.1.1 3)) 14 (S.1.1 14)) 5 (S.1.1 5)) 6 (S.1.1 6)) 7 (S.1.1 7)) 8 (S.1.1 8)) 9 (S.1.1 9)) 10 (S.1.1 10)) 11 (S.1.1 11)) 12 (S.1.1 12)) 13 (S.1.1 13)) (M := upC (upC S.2.1 0 (upd (S.2.1 0) 4 0)) 1 (S.2.1 1)) (o := S.2.2.1) (x := S.2.2.2.1 + 0) (y := S.2.2.2.2 + 0) h ⟨rfl, rfl, rfl, rfl, rfl, rfl, rfl, rfl, rfl, rfl, rfl, rfl, rfl, rfl⟩ ⟨rfl, rfl, rfl, rfl, rfl, rfl⟩ fq0 (fun _ _ => rfl) rfl rfl rfl rfl (by omega) (by omega)⟩
    unfold sL_undo
    have x1 : pX_undo S.1 = some (-1, (upC (upC (upC (upC (upC (upC (upC (upC (upC (upC (upC S.1.1 3 (S.1.1 3)) 14 (S.1.1 14)) 5 (S.1.1 5)) 6 (S.1.1 6)) 7 (S.1.1 7)) 8 (S.1.1 8)) 9 (S.1.1 9)) 10 (S.1.1 10)) 11 (S.1.1 11)) 12 (S.1.1 12)) 13 (S.1.1 13), S.1.2.1, S.1.2.2.1, S.1.2.2.2)) := by
      unfold pX_undo
      rw [m_X11_undo, m_give, if_pos (show S.1.1 14 2 = 0 from f3), bd_ok rfl]
      dsimp only
      rw [if_pos rfl, bd_ok rfl]
    have x2 : pM_undo S.2.1 = some (-1, upC (upC S.2.1 0 (upd (S.2.1 0) 4 0)) 1 (S.2.1 1)) := by
      unfold pM_undo
      rw [m_X12_undo, nm, if_pos (show upd (S.2.1 0) 4 0 5 = 0 by rw [upd_ne (by decide)]; exact g3), bd_ok rfl]
    rw [bd_ok x1, bd_ok x2, if_pos rfl]
  · have e : G.2.1 = H ++ [A] := by rw [e]; simp
    have hVA : VM mode A := b1.2.1.2.1 A (by rw [e]; exact List.mem_append.mpr (Or.inr List.mem_cons_self))
    have hCH : CH (S.1.1 14) S.1.2.1 mode (H ++ [A]) := by have := b1.2.2.1.2.1; rw [e] at this; exact this
    obtain ⟨T, t1, t2, t3⟩ := cq_give (S := (S.1.1 3, S.1.1 5, S.1.1 6, S.1.1 7, S.1.1 8, S.1.1 9, S.1.1 10, S.1.1 11, S.1.1 12, S.1.1 13)) hCH hVA
    rw [e, List.length_append, List.length_singleton] at g3 g4
    have hRA : RM (S.2.1 1) (2358 + 786 * ((g + H.length) % 40)) A := g5 H.length A (by rw [e, List.getElem?_append_right (Nat.le_refl _), Nat.sub_self]; rfl)
    have hmod : (g + H.length) % 40 < 40 := Nat.mod_lt _ (by decide)
    obtain ⟨r, q1, q2, q3⟩ := r_copies (rows := S.2.1 1) (a := 2358 + 786 * ((g + H.length) % 40)) (b := 0) (n := 786) (by omega) (by decide) (by decide) (by omega)
    have q1 : m_X12_copies (S.2.1 1) (nI (2358 + 786 * ((g + H.length) % 40))) 0 786 = some r := q1
    have hG' : VG mode (A, H, G.2.2.1, G.2.2.2) := ⟨hVA, fun B hB => b1.2.1.2.1 B (by rw [e]; exact List.mem_append.mpr (Or.inl hB)), b1.2.1.2.2⟩
    have e5 : upd (upd (S.2.1 0) 4 0) 5 (nI H.length) 5 = nI H.length := upd_eq
    have e6 : upd (upd (S.2.1 0) 4 0) 5 (nI H.length) 6 = nI g := by rw [upd_ne (by decide), upd_ne (by decide)]; exact g2
    refine ⟨_, ?_, lr_new (G' := (A, H, G.2.2.1, G.2.2.2)) (C := (upC (upC (upC (upC (upC (upC (upC (upC (upC (upC (upC S.1.1 3 T.1) 14 (upd (S.1.1 14) 2 (nI H.length))) 5 T.2.1) 6 T.2.2.1) 7 T.2.2.2.1) 8 T.2.2.2.2.1) 9 T.2.2.2.2.2.1) 10 T.2.2.2.2.2.2.1) 11 T.2.2.2.2.2.2.2.1) 12 T.2.2.2.2.2.2.2.2.1) 13 T.2.2.2.2.2.2.2.2.2, S.1.2.1, S.1.2.2.1, S.1.2.2.2)) (M := upC (upC S.2.1 0 (upd (upd (S.2.1 0) 4 0) 5 (nI H.length))) 1 r) (o := S.2.2.1) (x := S.2.2.2.1 + 0) (y := S.2.2.2.2 + 0) b1 b2 b3 b4 hG' ⟨t3, t2, b1.2.2.1.2.2⟩ ⟨RM_move hVA (fun i hi => q2 i hi) hRA, ⟨g, g1, e6, e5, (by show H.length ≤ 40; omega), fun i B hi => ?_⟩, ?_, b1.2.2.2.1.2.2.2⟩ ⟨rfl, rfl, rfl, rfl, rfl, rfl⟩ rfl (Nat.le_refl _) (fun i p q => ?_) (fun i hi => q3 i (by omega)) (fun _ _ => rfl) (fun _ _ => rfl) (fun _ _ => rfl) rfl (by omega) (by omega)⟩
    · unfold sL_undo
      have x1 : pX_undo S.1 = some (nI H.length, (upC (upC (upC (upC (upC (upC (upC (upC (upC (upC (upC S.1.1 3 T.1) 14 (upd (S.1.1 14) 2 (nI H.length))) 5 T.2.1) 6 T.2.2.1) 7 T.2.2.2.1) 8 T.2.2.2.2.1) 9 T.2.2.2.2.2.1) 10 T.2.2.2.2.2.2.1) 11 T.2.2.2.2.2.2.2.1) 12 T.2.2.2.2.2.2.2.2.1) 13 T.2.2.2.2.2.2.2.2.2, S.1.2.1, S.1.2.2.1, S.1.2.2.2)) := by
        unfold pX_undo
        rw [m_X11_undo, bd_ok t1]
        dsimp only
        rw [if_neg (show ¬ (1 : Int32) = 0 by decide), upd_eq, bd_ok rfl]
      have x2 : pM_undo S.2.1 = some (nI H.length, upC (upC S.2.1 0 (upd (upd (S.2.1 0) 4 0) 5 (nI H.length))) 1 r) := by
        unfold pM_undo
        have s5 : upd (S.2.1 0) 4 0 5 = nI (H.length + 1) := by rw [upd_ne (by decide)]; exact g3
        rw [m_X12_undo, nm, if_neg (show ¬ upd (S.2.1 0) 4 0 5 = 0 by rw [s5]; exact nI_ne0 (by omega) (by omega)), nm, s5, show nI (H.length + 1) - 1 = nI H.length from nI_pred _, e5, e6, bd_ok (r_keptAt g1 (by omega)), bd_ok q1, bd_ok rfl]
      rw [bd_ok x1, bd_ok x2, if_pos rfl]
    · have hlt := (List.getElem?_eq_some_iff.mp hi).1
      have hmi : (g + i) % 40 < 40 := Nat.mod_lt _ (by decide)
      refine RM_move (hG'.2.1 B (List.mem_of_getElem? hi)) (fun j hj => q3 _ (by omega)) (g5 i B (by rw [e, List.getElem?_append_left hlt]; exact hi))
    · have r3 := b1.2.2.2.1.2.2.1
      show RSn (upd (upd (S.2.1 0) 4 0) 5 (nI H.length) 7) (S.2.1 2) (S.2.1 3) 0 G.2.2.1
      rw [upd_ne (by decide), upd_ne (by decide)]; exact r3
    · show upd (upd (S.2.1 0) 4 0) 5 (nI H.length) i = _
      rw [upd_ne (by omega), upd_ne (by omega)]
