/-! ===== counts ===== -/
def sumP (X : AC) : Nat → Nat
  | 0 => 0
  | k + 1 => sumP X k + (X.2.1 k).length
theorem c_pending {md st hd ak : Nat → Int32} {X : AC} (hC : CC md st hd ak X) : m_X1_pendingInAll hd = some (nI (sumP X 16)) := by
  obtain ⟨s, h1, h2⟩ := loop_up (fun n i (s : Nat) => m_X1_pendingInAll_w4 hd n (nI s) i) (fun s => some (nI s)) 16 (fun k s => s = sumP X k) (by
    intro n k s hk hI
    subst hI
    refine ⟨_, rfl, ?_⟩
    have e := hC.2.1 k hk
    show m_X1_pendingInAll_w4 hd (n + 1) (nI (sumP X k)) (nI k) = m_X1_pendingInAll_w4 hd n (nI (sumP X (k + 1))) (nI (k + 1))
    rw [m_X1_pendingInAll_w4, if_neg (show ¬ (16 : Int32) ≤ nI k from nI_ge (b := 16) hk (by decide)), rd_nI hk (by decide), e, nm, nm, nI_add, show nI k + 1 = nI (k + 1) from nI_1 _]; rfl) (by
    intro n s _
    show m_X1_pendingInAll_w4 hd (n + 1) (nI s) (nI 16) = some (nI s)
    rw [m_X1_pendingInAll_w4, if_pos (show (16 : Int32) ≤ nI 16 from nI_le (a := 16) (Nat.le_refl _) (by decide))]) fuelN 0 0 (Nat.zero_le _) (by rw [fuel_is]; omega) rfl
  rw [m_X1_pendingInAll]
  exact h2.trans (by rw [h1])
theorem r_pending {rows : Nat → Int32} {X : AC} (hR : RC rows 0 X) : m_X12_pending rows = some (nI (sumP X 16)) := by
  obtain ⟨s, h1, h2⟩ := loop_up (fun n i (s : Nat) => m_X12_pending_w4 rows n (nI s) i) (fun s => some (nI s)) 16 (fun k s => s = sumP X k) (by
    intro n k s hk hI
    subst hI
    refine ⟨_, rfl, ?_⟩
    have e := hR.2.1 k hk
    rw [Nat.zero_add] at e
    show m_X12_pending_w4 rows (n + 1) (nI (sumP X k)) (nI k) = m_X12_pending_w4 rows n (nI (sumP X (k + 1))) (nI (k + 1))
    rw [m_X12_pending_w4, if_neg (show ¬ (16 : Int32) ≤ nI k from nI_ge (b := 16) hk (by decide)), show (64 : Int32) = nI 64 from rfl, nI_add, rd_nI (by omega) (by decide), e, nm, nm, nI_add, show nI k + 1 = nI (k + 1) from nI_1 _]; rfl) (by
    intro n s _
    show m_X12_pending_w4 rows (n + 1) (nI s) (nI 16) = some (nI s)
    rw [m_X12_pending_w4, if_pos (show (16 : Int32) ≤ nI 16 from nI_le (a := 16) (Nat.le_refl _) (by decide))]) fuelN 0 0 (Nat.zero_le _) (by rw [fuel_is]; omega) rfl
  rw [m_X12_pending]
  exact h2.trans (by rw [h1])
set_option maxHeartbeats 1000000 in
theorem lr_count {n : Nat} {S : LwS} (h : LR n S) (a1 a2 a3 a4 a5 : Int32) : ∃ T, sL_count S a1 a2 a3 a4 a5 = some T ∧ LR (n + 1) T := by
  obtain ⟨mode, G, I, b1, b2, b3, b4⟩ := id h
  have hC := LX_cm b1
  have hV := b1.2.1.1
  have hR : RM (S.2.1 1) 0 G.1 := b1.2.2.2.1.1
  have hm2 := b1.1
  have hF : S.2.1 0 12 = nI mode := b1.2.2.2.2
  have h4 : upd (S.2.1 0) 4 0 4 = 0 := upd_eq
  have h41 : upd (upd (S.2.1 0) 4 0) 4 1 4 = 1 := upd_eq
  have go0 : ∀ x : Int32, pX_count S.1 a1 = some (0, x, (S.1.1, S.1.2.1, S.1.2.2.1, S.1.2.2.2)) → pM_count S.2.1 a1 = some (x, upC S.2.1 0 (upd (S.2.1 0) 4 0)) → ∃ T, sL_count S a1 a2 a3 a4 a5 = some T ∧ LR (n + 1) T := by
    intro x e1 e2
    obtain ⟨o, ho⟩ := sh_0 (S := S) (a := 1) (b := 6) (K := 1) e1 e2 h4
    exact ⟨_, ho, lr_query h ⟨rfl, rfl, rfl, rfl, rfl, rfl, rfl, rfl, rfl, rfl, rfl, rfl, rfl, rfl⟩ ⟨rfl, rfl, rfl, rfl, rfl, rfl⟩ fq0 (fun _ _ => rfl) rfl rfl rfl rfl (by omega) (by omega)⟩
  have go1 : pX_count S.1 a1 = some (1, 0, (S.1.1, S.1.2.1, S.1.2.2.1, S.1.2.2.2)) → pM_count S.2.1 a1 = some (0, upC S.2.1 0 (upd (upd (S.2.1 0) 4 0) 4 1)) → ∃ T, sL_count S a1 a2 a3 a4 a5 = some T ∧ LR (n + 1) T := by
    intro e1 e2
    obtain ⟨o, ho⟩ := sh_1 (S := S) (a := 1) (b := 6) (K := 1) (by decide) e1 e2 h41
    exact ⟨_, ho, lr_query h ⟨rfl, rfl, rfl, rfl, rfl, rfl, rfl, rfl, rfl, rfl, rfl, rfl, rfl, rfl⟩ ⟨rfl, rfl, rfl, rfl, rfl, rfl⟩ fq1 (fun _ _ => rfl) rfl rfl rfl rfl (by omega) (by omega)⟩
  obtain ⟨ca, cc2, cc3, cc4, cc5, cc6⟩ := hC.2.1
  obtain ⟨ra, rr5, rr4, rr3, rr6, rr7⟩ := hR.2.1
  rw [Nat.zero_add] at rr5 rr4
  have hml : m_X4_microsLeft (S.1.1 3) = some (nI (gM G.1).length) := by
    rw [m_X4_microsLeft, cc2, cc3, nI_subE (by omega)]
    congr 2; omega
  have hsub : nI (ra + (gM G.1).length) - nI ra = nI (gM G.1).length := by rw [nI_subE (by omega)]; congr 1; omega
  have rdR : ∀ {α : Type} (j : Nat) (k : Int32 → Option α), j < 66100 → rd (S.2.1 1) 66100 (nI j) k = k (S.2.1 1 j) := fun j k hj => rd_nI hj (by decide)
  have pre : ∀ (x : Int32), m_X12_within a1 0 19 = some 1 → (∀ F : Nat → Int32, F = upd (S.2.1 0) 4 0 → F 4 = 0) → True := fun _ _ _ => trivial
  rcases r_withinX (x := a1) (lo := 0) (hi := 19) (by decide) (by decide) with ⟨wa, j, rfl, w1, w2⟩ | ⟨wa, wb⟩
  · have wa : m_X12_within (nI j) 0 19 = some 1 := wa
    rcases (show j = 0 ∨ j = 1 ∨ j = 2 ∨ j = 3 ∨ j = 4 ∨ j = 5 ∨ j = 6 ∨ j = 7 ∨ j = 8 ∨ j = 9 ∨ j = 10 ∨ j = 11 ∨ j = 12 ∨ j = 13 ∨ j = 14 ∨ j = 15 ∨ j = 16 ∨ j = 17 ∨ j = 18 ∨ j = 19 by omega) with rfl | rfl | rfl | rfl | rfl | rfl | rfl | rfl | rfl | rfl | rfl | rfl | rfl | rfl | rfl | rfl | rfl | rfl | rfl | rfl
    · -- 0
      refine go0 (nI (gS G.1)) ?_ ?_
      · unfold pX_count
        rw [m_X11_count, if_pos (show nI 0 = 0 from rfl), hC.2.2.2.1, bd_ok rfl]
      · unfold pM_count
        rw [m_X12_count, nm, bd_ok wa, bd_ok (r_right1 h4)]
        dsimp only
        rw [if_neg (show ¬ (1 : Int32) = 0 by decide), if_pos (show nI 0 = 0 from rfl), show (772 : Int32) = nI 772 from rfl, rdR 772 _ (by decide), show S.2.1 1 772 = nI (gS G.1) from hR.2.2.2.1, bd_ok rfl]
    · -- 1
      refine go0 (nI mode) ?_ ?_
      · unfold pX_count
        rw [m_X11_count, if_neg (show ¬ nI 1 = 0 by decide), if_pos (show nI 1 = 1 from rfl), hC.2.2.2.2.1, bd_ok rfl]
      · unfold pM_count
        rw [m_X12_count, nm, bd_ok wa, bd_ok (r_right1 h4)]
        dsimp only
        rw [if_neg (show ¬ (1 : Int32) = 0 by decide), if_neg (show ¬ nI 1 = 0 by decide), if_pos (show nI 1 = 1 from rfl), upd_ne (by decide), hF, bd_ok rfl]
    · -- 2
      refine go0 (nI (gO G.1)) ?_ ?_
      · unfold pX_count
        rw [m_X11_count, if_neg (show ¬ nI 2 = 0 by decide), if_neg (show ¬ nI 2 = 1 by decide), if_pos (show nI 2 = 2 from rfl), hC.2.2.2.2.2.1, bd_ok rfl]
      · unfold pM_count
        rw [m_X12_count, nm, bd_ok wa, bd_ok (r_right1 h4)]
        dsimp only
        rw [if_neg (show ¬ (1 : Int32) = 0 by decide), if_neg (show ¬ nI 2 = 0 by decide), if_neg (show ¬ nI 2 = 1 by decide), if_pos (show nI 2 = 2 from rfl), show (773 : Int32) = nI 773 from rfl, rdR 773 _ (by decide), show S.2.1 1 773 = nI (gO G.1) from hR.2.2.2.2.1, bd_ok rfl]
    · -- 3
      refine go0 (nI (gW G.1).length) ?_ ?_
      · unfold pX_count
        rw [m_X11_count, if_neg (show ¬ nI 3 = 0 by decide), if_neg (show ¬ nI 3 = 1 by decide), if_neg (show ¬ nI 3 = 2 by decide), if_pos (show nI 3 = 3 from rfl), hC.2.2.1.1, bd_ok rfl]
      · unfold pM_count
        rw [m_X12_count, nm, bd_ok wa, bd_ok (r_right1 h4)]
        dsimp only
        rw [if_neg (show ¬ (1 : Int32) = 0 by decide), if_neg (show ¬ nI 3 = 0 by decide), if_neg (show ¬ nI 3 = 1 by decide), if_neg (show ¬ nI 3 = 2 by decide), if_pos (show nI 3 = 3 from rfl), show (777 : Int32) = nI 777 from rfl, rdR 777 _ (by decide), show S.2.1 1 777 = nI (gW G.1).length from hR.2.2.1.1, bd_ok rfl]
    · -- 4
      refine go0 (nI (gM G.1).length) ?_ ?_
      · unfold pX_count
        rw [m_X11_count, if_neg (show ¬ nI 4 = 0 by decide), if_neg (show ¬ nI 4 = 1 by decide), if_neg (show ¬ nI 4 = 2 by decide), if_neg (show ¬ nI 4 = 3 by decide), if_pos (show nI 4 = 4 from rfl), bd_ok hml, bd_ok rfl]
      · unfold pM_count
        rw [m_X12_count, nm, bd_ok wa, bd_ok (r_right1 h4)]
        dsimp only
        rw [if_neg (show ¬ (1 : Int32) = 0 by decide), if_neg (show ¬ nI 4 = 0 by decide), if_neg (show ¬ nI 4 = 1 by decide), if_neg (show ¬ nI 4 = 2 by decide), if_neg (show ¬ nI 4 = 3 by decide), if_pos (show nI 4 = 4 from rfl), show (774 : Int32) = nI 774 from rfl, show (775 : Int32) = nI 775 from rfl, rdR 774 _ (by decide), rdR 775 _ (by decide), rr4, rr5, hsub, bd_ok rfl]
    · -- 5
      refine go0 (gT G.1 0) ?_ ?_
      · unfold pX_count
        rw [m_X11_count, if_neg (show ¬ nI 5 = 0 by decide), if_neg (show ¬ nI 5 = 1 by decide), if_neg (show ¬ nI 5 = 2 by decide), if_neg (show ¬ nI 5 = 3 by decide), if_neg (show ¬ nI 5 = 4 by decide), if_pos (show nI 5 = 5 from rfl), if_neg (show ¬ nI 5 < 5 by decide), if_neg (show ¬ (13 : Int32) ≤ nI 5 by decide), show (nI 5 - 5 : Int32) = nI 0 from rfl, rd_nI (by decide) (by decide), hC.2.2.2.2.2.2.1 0 (by decide), bd_ok rfl]
      · unfold pM_count
        rw [m_X12_count, nm, bd_ok wa, bd_ok (r_right1 h4)]
        dsimp only
        rw [if_neg (show ¬ (1 : Int32) = 0 by decide), if_neg (show ¬ nI 5 = 0 by decide), if_neg (show ¬ nI 5 = 1 by decide), if_neg (show ¬ nI 5 = 2 by decide), if_neg (show ¬ nI 5 = 3 by decide), if_neg (show ¬ nI 5 = 4 by decide), if_pos (show nI 5 = 5 from rfl), if_pos (show nI 5 ≤ 16 by decide), show ((778 + nI 5) - 5 : Int32) = nI 778 from rfl, rdR 778 _ (by decide), show S.2.1 1 778 = gT G.1 0 from hR.2.2.2.2.2.2.1 0 (by decide), bd_ok rfl]
    · -- 6
      refine go0 (gT G.1 1) ?_ ?_
      · unfold pX_count
        rw [m_X11_count, if_neg (show ¬ nI 6 = 0 by decide), if_neg (show ¬ nI 6 = 1 by decide), if_neg (show ¬ nI 6 = 2 by decide), if_neg (show ¬ nI 6 = 3 by decide), if_neg (show ¬ nI 6 = 4 by decide), if_neg (show ¬ nI 6 = 5 by decide), if_pos (show nI 6 = 6 from rfl), if_neg (show ¬ nI 6 < 5 by decide), if_neg (show ¬ (13 : Int32) ≤ nI 6 by decide), show (nI 6 - 5 : Int32) = nI 1 from rfl, rd_nI (by decide) (by decide), hC.2.2.2.2.2.2.1 1 (by decide), bd_ok rfl]
      · unfold pM_count
        rw [m_X12_count, nm, bd_ok wa, bd_ok (r_right1 h4)]
        dsimp only
        rw [if_neg (show ¬ (1 : Int32) = 0 by decide), if_neg (show ¬ nI 6 = 0 by decide), if_neg (show ¬ nI 6 = 1 by decide), if_neg (show ¬ nI 6 = 2 by decide), if_neg (show ¬ nI 6 = 3 by decide), if_neg (show ¬ nI 6 = 4 by decide), if_neg (show ¬ nI 6 = 5 by decide), if_pos (show nI 6 = 6 from rfl), if_pos (show nI 6 ≤ 16 by decide), show ((778 + nI 6) - 5 : Int32) = nI 779 from rfl, rdR 779 _ (by decide), show S.2.1 1 779 = gT G.1 1 from hR.2.2.2.2.2.2.1 1 (by decide), bd_ok rfl]
    · -- 7
      refine go0 (gT G.1 2) ?_ ?_
      · unfold pX_count
        rw [m_X11_count, if_neg (show ¬ nI 7 = 0 by decide), if_neg (show ¬ nI 7 = 1 by decide), if_neg (show ¬ nI 7 = 2 by decide), if_neg (show ¬ nI 7 = 3 by decide), if_neg (show ¬ nI 7 = 4 by decide), if_neg (show ¬ nI 7 = 5 by decide), if_neg (show ¬ nI 7 = 6 by decide), if_pos (show nI 7 = 7 from rfl), if_neg (show ¬ nI 7 < 5 by decide), if_neg (show ¬ (13 : Int32) ≤ nI 7 by decide), show (nI 7 - 5 : Int32) = nI 2 from rfl, rd_nI (by decide) (by decide), hC.2.2.2.2.2.2.1 2 (by decide), bd_ok rfl]
      · unfold pM_count
        rw [m_X12_count, nm, bd_ok wa, bd_ok (r_right1 h4)]
        dsimp only
        rw [if_neg (show ¬ (1 : Int32) = 0 by decide), if_neg (show ¬ nI 7 = 0 by decide), if_neg (show ¬ nI 7 = 1 by decide), if_neg (show ¬ nI 7 = 2 by decide), if_neg (show ¬ nI 7 = 3 by decide), if_neg (show ¬ nI 7 = 4 by decide), if_neg (show ¬ nI 7 = 5 by decide), if_neg (show ¬ nI 7 = 6 by decide), if_pos (show nI 7 = 7 from rfl), if_pos (show nI 7 ≤ 16 by decide), show ((778 + nI 7) - 5 : Int32) = nI 780 from rfl, rdR 780 _ (by decide), show S.2.1 1 780 = gT G.1 2 from hR.2.2.2.2.2.2.1 2 (by decide), bd_ok rfl]
    · -- 8
      refine go0 (gT G.1 3) ?_ ?_
      · unfold pX_count
        rw [m_X11_count, if_neg (show ¬ nI 8 = 0 by decide), if_neg (show ¬ nI 8 = 1 by decide), if_neg (show ¬ nI 8 = 2 by decide), if_neg (show ¬ nI 8 = 3 by decide), if_neg (show ¬ nI 8 = 4 by decide), if_neg (show ¬ nI 8 = 5 by decide), if_neg (show ¬ nI 8 = 6 by decide), if_neg (show ¬ nI 8 = 7 by decide), if_pos (show nI 8 = 8 from rfl), if_neg (show ¬ nI 8 < 5 by decide), if_neg (show ¬ (13 : Int32) ≤ nI 8 by decide), show (nI 8 - 5 : Int32) = nI 3 from rfl, rd_nI (by decide) (by decide), hC.2.2.2.2.2.2.1 3 (by decide), bd_ok rfl]
      · unfold pM_count
        rw [m_X12_count, nm, bd_ok wa, bd_ok (r_right1 h4)]
        dsimp only
        rw [if_neg (show ¬ (1 : Int32) = 0 by decide), if_neg (show ¬ nI 8 = 0 by decide), if_neg (show ¬ nI 8 = 1 by decide), if_neg (show ¬ nI 8 = 2 by decide), if_neg (show ¬ nI 8 = 3 by decide), if_neg (show ¬ nI 8 = 4 by decide), if_neg (show ¬ nI 8 = 5 by decide), if_neg (show ¬ nI 8 = 6 by decide), if_neg (show ¬ nI 8 = 7 by decide), if_pos (show nI 8 = 8 from rfl), if_pos (show nI 8 ≤ 16 by decide), show ((778 + nI 8) - 5 : Int32) = nI 781 from rfl, rdR 781 _ (by decide), show S.2.1 1 781 = gT G.1 3 from hR.2.2.2.2.2.2.1 3 (by decide), bd_ok rfl]
    · -- 9
      refine go0 (gT G.1 4) ?_ ?_
      · unfold pX_count
        rw [m_X11_count, if_neg (show ¬ nI 9 = 0 by decide), if_neg (show ¬ nI 9 = 1 by decide), if_neg (show ¬ nI 9 = 2 by decide), if_neg (show ¬ nI 9 = 3 by decide), if_neg (show ¬ nI 9 = 4 by decide), if_neg (show ¬ nI 9 = 5 by decide), if_neg (show ¬ nI 9 = 6 by decide), if_neg (show ¬ nI 9 = 7 by decide), if_neg (show ¬ nI 9 = 8 by decide), if_pos (show nI 9 = 9 from rfl), if_neg (show ¬ nI 9 < 5 by decide), if_neg (show ¬ (13 : Int32) ≤ nI 9 by decide), show (nI 9 - 5 : Int32) = nI 4 from rfl, rd_nI (by decide) (by decide), hC.2.2.2.2.2.2.1 4 (by decide), bd_ok rfl]
      · unfold pM_count
        rw [m_X12_count, nm, bd_ok wa, bd_ok (r_right1 h4)]
        dsimp only
        rw [if_neg (show ¬ (1 : Int32) = 0 by decide), if_neg (show ¬ nI 9 = 0 by decide), if_neg (show ¬ nI 9 = 1 by decide), if_neg (show ¬ nI 9 = 2 by decide), if_neg (show ¬ nI 9 = 3 by decide), if_neg (show ¬ nI 9 = 4 by decide), if_neg (show ¬ nI 9 = 5 by decide), if_neg (show ¬ nI 9 = 6 by decide), if_neg (show ¬ nI 9 = 7 by decide), if_neg (show ¬ nI 9 = 8 by decide), if_pos (show nI 9 = 9 from rfl), if_pos (show nI 9 ≤ 16 by decide), show ((778 + nI 9) - 5 : Int32) = nI 782 from rfl, rdR 782 _ (by decide), show S.2.1 1 782 = gT G.1 4 from hR.2.2.2.2.2.2.1 4 (by decide), bd_ok rfl]
    · -- 10
      refine go0 (gT G.1 5) ?_ ?_
      · unfold pX_count
        rw [m_X11_count, if_neg (show ¬ nI 10 = 0 by decide), if_neg (show ¬ nI 10 = 1 by decide), if_neg (show ¬ nI 10 = 2 by decide), if_neg (show ¬ nI 10 = 3 by decide), if_neg (show ¬ nI 10 = 4 by decide), if_neg (show ¬ nI 10 = 5 by decide), if_neg (show ¬ nI 10 = 6 by decide), if_neg (show ¬ nI 10 = 7 by decide), if_neg (show ¬ nI 10 = 8 by decide), if_neg (show ¬ nI 10 = 9 by decide), if_pos (show nI 10 = 10 from rfl), if_neg (show ¬ nI 10 < 5 by decide), if_neg (show ¬ (13 : Int32) ≤ nI 10 by decide), show (nI 10 - 5 : Int32) = nI 5 from rfl, rd_nI (by decide) (by decide), hC.2.2.2.2.2.2.1 5 (by decide), bd_ok rfl]
      · unfold pM_count
        rw [m_X12_count, nm, bd_ok wa, bd_ok (r_right1 h4)]
        dsimp only
        rw [if_neg (show ¬ (1 : Int32) = 0 by decide), if_neg (show ¬ nI 10 = 0 by decide), if_neg (show ¬ nI 10 = 1 by decide), if_neg (show ¬ nI 10 = 2 by decide), if_neg (show ¬ nI 10 = 3 by decide), if_neg (show ¬ nI 10 = 4 by decide), if_neg (show ¬ nI 10 = 5 by decide), if_neg (show ¬ nI 10 = 6 by decide), if_neg (show ¬ nI 10 = 7 by decide), if_neg (show ¬ nI 10 = 8 by decide), if_neg (show ¬ nI 10 = 9 by decide), if_pos (show nI 10 = 10 from rfl), if_pos (show nI 10 ≤ 16 by decide), show ((778 + nI 10) - 5 : Int32) = nI 783 from rfl, rdR 783 _ (by decide), show S.2.1 1 783 = gT G.1 5 from hR.2.2.2.2.2.2.1 5 (by decide), bd_ok rfl]
    · -- 11
      refine go0 (gT G.1 6) ?_ ?_
      · unfold pX_count
        rw [m_X11_count, if_neg (show ¬ nI 11 = 0 by decide), if_neg (show ¬ nI 11 = 1 by decide), if_neg (show ¬ nI 11 = 2 by decide), if_neg (show ¬ nI 11 = 3 by decide), if_neg (show ¬ nI 11 = 4 by decide), if_neg (show ¬ nI 11 = 5 by decide), if_neg (show ¬ nI 11 = 6 by decide), if_neg (show ¬ nI 11 = 7 by decide), if_neg (show ¬ nI 11 = 8 by decide), if_neg (show ¬ nI 11 = 9 by decide), if_neg (show ¬ nI 11 = 10 by decide), if_pos (show nI 11 = 11 from rfl), if_neg (show ¬ nI 11 < 5 by decide), if_neg (show ¬ (13 : Int32) ≤ nI 11 by decide), show (nI 11 - 5 : Int32) = nI 6 from rfl, rd_nI (by decide) (by decide), hC.2.2.2.2.2.2.1 6 (by decide), bd_ok rfl]
      · unfold pM_count
        rw [m_X12_count, nm, bd_ok wa, bd_ok (r_right1 h4)]
        dsimp only
        rw [if_neg (show ¬ (1 : Int32) = 0 by decide), if_neg (show ¬ nI 11 = 0 by decide), if_neg (show ¬ nI 11 = 1 by decide), if_neg (show ¬ nI 11 = 2 by decide), if_neg (show ¬ nI 11 = 3 by decide), if_neg (show ¬ nI 11 = 4 by decide), if_neg (show ¬ nI 11 = 5 by decide), if_neg (show ¬ nI 11 = 6 by decide), if_neg (show ¬ nI 11 = 7 by decide), if_neg (show ¬ nI 11 = 8 by decide), if_neg (show ¬ nI 11 = 9 by decide), if_neg (show ¬ nI 11 = 10 by decide), if_pos (show nI 11 = 11 from rfl), if_pos (show nI 11 ≤ 16 by decide), show ((778 + nI 11) - 5 : Int32) = nI 784 from rfl, rdR 784 _ (by decide), show S.2.1 1 784 = gT G.1 6 from hR.2.2.2.2.2.2.1 6 (by decide), bd_ok rfl]
    · -- 12
      refine go0 (gT G.1 7) ?_ ?_
      · unfold pX_count
        rw [m_X11_count, if_neg (show ¬ nI 12 = 0 by decide), if_neg (show ¬ nI 12 = 1 by decide), if_neg (show ¬ nI 12 = 2 by decide), if_neg (show ¬ nI 12 = 3 by decide), if_neg (show ¬ nI 12 = 4 by decide), if_neg (show ¬ nI 12 = 5 by decide), if_neg (show ¬ nI 12 = 6 by decide), if_neg (show ¬ nI 12 = 7 by decide), if_neg (show ¬ nI 12 = 8 by decide), if_neg (show ¬ nI 12 = 9 by decide), if_neg (show ¬ nI 12 = 10 by decide), if_neg (show ¬ nI 12 = 11 by decide), if_pos (show nI 12 = 12 from rfl), if_neg (show ¬ nI 12 < 5 by decide), if_neg (show ¬ (13 : Int32) ≤ nI 12 by decide), show (nI 12 - 5 : Int32) = nI 7 from rfl, rd_nI (by decide) (by decide), hC.2.2.2.2.2.2.1 7 (by decide), bd_ok rfl]
      · unfold pM_count
        rw [m_X12_count, nm, bd_ok wa, bd_ok (r_right1 h4)]
        dsimp only
        rw [if_neg (show ¬ (1 : Int32) = 0 by decide), if_neg (show ¬ nI 12 = 0 by decide), if_neg (show ¬ nI 12 = 1 by decide), if_neg (show ¬ nI 12 = 2 by decide), if_neg (show ¬ nI 12 = 3 by decide), if_neg (show ¬ nI 12 = 4 by decide), if_neg (show ¬ nI 12 = 5 by decide), if_neg (show ¬ nI 12 = 6 by decide), if_neg (show ¬ nI 12 = 7 by decide), if_neg (show ¬ nI 12 = 8 by decide), if_neg (show ¬ nI 12 = 9 by decide), if_neg (show ¬ nI 12 = 10 by decide), if_neg (show ¬ nI 12 = 11 by decide), if_pos (show nI 12 = 12 from rfl), if_pos (show nI 12 ≤ 16 by decide), show ((778 + nI 12) - 5 : Int32) = nI 785 from rfl, rdR 785 _ (by decide), show S.2.1 1 785 = gT G.1 7 from hR.2.2.2.2.2.2.1 7 (by decide), bd_ok rfl]
    · -- 13
      refine go0 (nI (sumP (gX G.1) 16)) ?_ ?_
      · unfold pX_count
        rw [m_X11_count, if_neg (show ¬ nI 13 = 0 by decide), if_neg (show ¬ nI 13 = 1 by decide), if_neg (show ¬ nI 13 = 2 by decide), if_neg (show ¬ nI 13 = 3 by decide), if_neg (show ¬ nI 13 = 4 by decide), if_neg (show ¬ nI 13 = 5 by decide), if_neg (show ¬ nI 13 = 6 by decide), if_neg (show ¬ nI 13 = 7 by decide), if_neg (show ¬ nI 13 = 8 by decide), if_neg (show ¬ nI 13 = 9 by decide), if_neg (show ¬ nI 13 = 10 by decide), if_neg (show ¬ nI 13 = 11 by decide), if_neg (show ¬ nI 13 = 12 by decide), if_pos (show nI 13 = 13 from rfl), bd_ok (c_pending hC.1), bd_ok rfl]
      · unfold pM_count
        rw [m_X12_count, nm, bd_ok wa, bd_ok (r_right1 h4)]
        dsimp only
        rw [if_neg (show ¬ (1 : Int32) = 0 by decide), if_neg (show ¬ nI 13 = 0 by decide), if_neg (show ¬ nI 13 = 1 by decide), if_neg (show ¬ nI 13 = 2 by decide), if_neg (show ¬ nI 13 = 3 by decide), if_neg (show ¬ nI 13 = 4 by decide), if_neg (show ¬ nI 13 = 5 by decide), if_neg (show ¬ nI 13 = 6 by decide), if_neg (show ¬ nI 13 = 7 by decide), if_neg (show ¬ nI 13 = 8 by decide), if_neg (show ¬ nI 13 = 9 by decide), if_neg (show ¬ nI 13 = 10 by decide), if_neg (show ¬ nI 13 = 11 by decide), if_neg (show ¬ nI 13 = 12 by decide), if_pos (show nI 13 = 13 from rfl), bd_ok (r_pending hR.1), bd_ok rfl]
    · -- 14
      have e14 : S.1.1 14 2 = S.2.1 0 5 := by
        obtain ⟨f, f1, f2, f3, f4⟩ := b1.2.2.1.2.1
        obtain ⟨g, g1, g2, g3, g4⟩ := b1.2.2.2.1.2.1
        exact (show S.1.1 14 2 = _ from f3).trans g3.symm
      refine go0 (S.2.1 0 5) ?_ ?_
      · unfold pX_count
        rw [m_X11_count, if_neg (show ¬ nI 14 = 0 by decide), if_neg (show ¬ nI 14 = 1 by decide), if_neg (show ¬ nI 14 = 2 by decide), if_neg (show ¬ nI 14 = 3 by decide), if_neg (show ¬ nI 14 = 4 by decide), if_neg (show ¬ nI 14 = 5 by decide), if_neg (show ¬ nI 14 = 6 by decide), if_neg (show ¬ nI 14 = 7 by decide), if_neg (show ¬ nI 14 = 8 by decide), if_neg (show ¬ nI 14 = 9 by decide), if_neg (show ¬ nI 14 = 10 by decide), if_neg (show ¬ nI 14 = 11 by decide), if_neg (show ¬ nI 14 = 12 by decide), if_neg (show ¬ nI 14 = 13 by decide), if_pos (show nI 14 = 14 from rfl), e14, bd_ok rfl]
      · unfold pM_count
        rw [m_X12_count, nm, bd_ok wa, bd_ok (r_right1 h4)]
        dsimp only
        rw [if_neg (show ¬ (1 : Int32) = 0 by decide), if_neg (show ¬ nI 14 = 0 by decide), if_neg (show ¬ nI 14 = 1 by decide), if_neg (show ¬ nI 14 = 2 by decide), if_neg (show ¬ nI 14 = 3 by decide), if_neg (show ¬ nI 14 = 4 by decide), if_neg (show ¬ nI 14 = 5 by decide), if_neg (show ¬ nI 14 = 6 by decide), if_neg (show ¬ nI 14 = 7 by decide), if_neg (show ¬ nI 14 = 8 by decide), if_neg (show ¬ nI 14 = 9 by decide), if_neg (show ¬ nI 14 = 10 by decide), if_neg (show ¬ nI 14 = 11 by decide), if_neg (show ¬ nI 14 = 12 by decide), if_neg (show ¬ nI 14 = 13 by decide), if_pos (show nI 14 = 14 from rfl), upd_ne (by decide), bd_ok rfl]
    · -- 15
      have e15 : S.1.1 2 3 = S.2.1 0 7 := (show S.1.1 2 3 = _ from b1.2.2.1.2.2.1.1).trans b1.2.2.2.1.2.2.1.1.symm
      refine go0 (S.2.1 0 7) ?_ ?_
      · unfold pX_count
        rw [m_X11_count, if_neg (show ¬ nI 15 = 0 by decide), if_neg (show ¬ nI 15 = 1 by decide), if_neg (show ¬ nI 15 = 2 by decide), if_neg (show ¬ nI 15 = 3 by decide), if_neg (show ¬ nI 15 = 4 by decide), if_neg (show ¬ nI 15 = 5 by decide), if_neg (show ¬ nI 15 = 6 by decide), if_neg (show ¬ nI 15 = 7 by decide), if_neg (show ¬ nI 15 = 8 by decide), if_neg (show ¬ nI 15 = 9 by decide), if_neg (show ¬ nI 15 = 10 by decide), if_neg (show ¬ nI 15 = 11 by decide), if_neg (show ¬ nI 15 = 12 by decide), if_neg (show ¬ nI 15 = 13 by decide), if_neg (show ¬ nI 15 = 14 by decide), if_pos (show nI 15 = 15 from rfl), e15, bd_ok rfl]
      · unfold pM_count
        rw [m_X12_count, nm, bd_ok wa, bd_ok (r_right1 h4)]
        dsimp only
        rw [if_neg (show ¬ (1 : Int32) = 0 by decide), if_neg (show ¬ nI 15 = 0 by decide), if_neg (show ¬ nI 15 = 1 by decide), if_neg (show ¬ nI 15 = 2 by decide), if_neg (show ¬ nI 15 = 3 by decide), if_neg (show ¬ nI 15 = 4 by decide), if_neg (show ¬ nI 15 = 5 by decide), if_neg (show ¬ nI 15 = 6 by decide), if_neg (show ¬ nI 15 = 7 by decide), if_neg (show ¬ nI 15 = 8 by decide), if_neg (show ¬ nI 15 = 9 by decide), if_neg (show ¬ nI 15 = 10 by decide), if_neg (show ¬ nI 15 = 11 by decide), if_neg (show ¬ nI 15 = 12 by decide), if_neg (show ¬ nI 15 = 13 by decide), if_neg (show ¬ nI 15 = 14 by decide), if_pos (show nI 15 = 15 from rfl), upd_ne (by decide), bd_ok rfl]
    · -- 16
      have e16 : S.1.1 0 1 = S.2.1 0 14 := by
        obtain ⟨k, t, t1, t2, t3, t4⟩ := b3.1
        exact t2.trans t3.symm
      refine go0 (S.2.1 0 14) ?_ ?_
      · unfold pX_count
        rw [m_X11_count, if_neg (show ¬ nI 16 = 0 by decide), if_neg (show ¬ nI 16 = 1 by decide), if_neg (show ¬ nI 16 = 2 by decide), if_neg (show ¬ nI 16 = 3 by decide), if_neg (show ¬ nI 16 = 4 by decide), if_neg (show ¬ nI 16 = 5 by decide), if_neg (show ¬ nI 16 = 6 by decide), if_neg (show ¬ nI 16 = 7 by decide), if_neg (show ¬ nI 16 = 8 by decide), if_neg (show ¬ nI 16 = 9 by decide), if_neg (show ¬ nI 16 = 10 by decide), if_neg (show ¬ nI 16 = 11 by decide), if_neg (show ¬ nI 16 = 12 by decide), if_neg (show ¬ nI 16 = 13 by decide), if_neg (show ¬ nI 16 = 14 by decide), if_neg (show ¬ nI 16 = 15 by decide), if_pos (show nI 16 = 16 from rfl), e16, bd_ok rfl]
      · unfold pM_count
        rw [m_X12_count, nm, bd_ok wa, bd_ok (r_right1 h4)]
        dsimp only
        rw [if_neg (show ¬ (1 : Int32) = 0 by decide), if_neg (show ¬ nI 16 = 0 by decide), if_neg (show ¬ nI 16 = 1 by decide), if_neg (show ¬ nI 16 = 2 by decide), if_neg (show ¬ nI 16 = 3 by decide), if_neg (show ¬ nI 16 = 4 by decide), if_neg (show ¬ nI 16 = 5 by decide), if_neg (show ¬ nI 16 = 6 by decide), if_neg (show ¬ nI 16 = 7 by decide), if_neg (show ¬ nI 16 = 8 by decide), if_neg (show ¬ nI 16 = 9 by decide), if_neg (show ¬ nI 16 = 10 by decide), if_neg (show ¬ nI 16 = 11 by decide), if_neg (show ¬ nI 16 = 12 by decide), if_neg (show ¬ nI 16 = 13 by decide), if_neg (show ¬ nI 16 = 14 by decide), if_neg (show ¬ nI 16 = 15 by decide), if_pos (show nI 16 = 16 from rfl), upd_ne (by decide), bd_ok rfl]
    · -- 17
      have eR17 : S.1.1 17 0 = G.2.2.2 0 := b1.2.2.1.2.2.2 0 (by decide)
      have eQ17 : S.2.1 4 0 = G.2.2.2 0 := (show S.2.1 4 (0 + 0) = _ from b1.2.2.2.1.2.2.2 0 (by decide))
      refine go0 (G.2.2.2 0) ?_ ?_
      · unfold pX_count
        rw [m_X11_count, if_neg (show ¬ nI 17 = 0 by decide), if_neg (show ¬ nI 17 = 1 by decide), if_neg (show ¬ nI 17 = 2 by decide), if_neg (show ¬ nI 17 = 3 by decide), if_neg (show ¬ nI 17 = 4 by decide), if_neg (show ¬ nI 17 = 5 by decide), if_neg (show ¬ nI 17 = 6 by decide), if_neg (show ¬ nI 17 = 7 by decide), if_neg (show ¬ nI 17 = 8 by decide), if_neg (show ¬ nI 17 = 9 by decide), if_neg (show ¬ nI 17 = 10 by decide), if_neg (show ¬ nI 17 = 11 by decide), if_neg (show ¬ nI 17 = 12 by decide), if_neg (show ¬ nI 17 = 13 by decide), if_neg (show ¬ nI 17 = 14 by decide), if_neg (show ¬ nI 17 = 15 by decide), if_neg (show ¬ nI 17 = 16 by decide), if_neg (show ¬ nI 17 < 5 by decide), if_pos (show (13 : Int32) ≤ nI 17 by decide), m_X11_count_j169, if_neg (show ¬ nI 17 < 17 by decide), if_neg (show ¬ (20 : Int32) ≤ nI 17 by decide), show (nI 17 - 17 : Int32) = nI 0 from rfl, rd_nI (by decide) (by decide), eR17, bd_ok rfl]
      · unfold pM_count
        rw [m_X12_count, nm, bd_ok wa, bd_ok (r_right1 h4)]
        dsimp only
        rw [if_neg (show ¬ (1 : Int32) = 0 by decide), if_neg (show ¬ nI 17 = 0 by decide), if_neg (show ¬ nI 17 = 1 by decide), if_neg (show ¬ nI 17 = 2 by decide), if_neg (show ¬ nI 17 = 3 by decide), if_neg (show ¬ nI 17 = 4 by decide), if_neg (show ¬ nI 17 = 5 by decide), if_neg (show ¬ nI 17 = 6 by decide), if_neg (show ¬ nI 17 = 7 by decide), if_neg (show ¬ nI 17 = 8 by decide), if_neg (show ¬ nI 17 = 9 by decide), if_neg (show ¬ nI 17 = 10 by decide), if_neg (show ¬ nI 17 = 11 by decide), if_neg (show ¬ nI 17 = 12 by decide), if_neg (show ¬ nI 17 = 13 by decide), if_neg (show ¬ nI 17 = 14 by decide), if_neg (show ¬ nI 17 = 15 by decide), if_neg (show ¬ nI 17 = 16 by decide), if_neg (show ¬ nI 17 ≤ 16 by decide), show (nI 17 - 17 : Int32) = nI 0 from rfl, rd_nI (by decide) (by decide), eQ17, bd_ok rfl]
    · -- 18
      have eR18 : S.1.1 17 1 = G.2.2.2 1 := b1.2.2.1.2.2.2 1 (by decide)
      have eQ18 : S.2.1 4 1 = G.2.2.2 1 := (show S.2.1 4 (0 + 1) = _ from b1.2.2.2.1.2.2.2 1 (by decide))
      refine go0 (G.2.2.2 1) ?_ ?_
      · unfold pX_count
        rw [m_X11_count, if_neg (show ¬ nI 18 = 0 by decide), if_neg (show ¬ nI 18 = 1 by decide), if_neg (show ¬ nI 18 = 2 by decide), if_neg (show ¬ nI 18 = 3 by decide), if_neg (show ¬ nI 18 = 4 by decide), if_neg (show ¬ nI 18 = 5 by decide), if_neg (show ¬ nI 18 = 6 by decide), if_neg (show ¬ nI 18 = 7 by decide), if_neg (show ¬ nI 18 = 8 by decide), if_neg (show ¬ nI 18 = 9 by decide), if_neg (show ¬ nI 18 = 10 by decide), if_neg (show ¬ nI 18 = 11 by decide), if_neg (show ¬ nI 18 = 12 by decide), if_neg (show ¬ nI 18 = 13 by decide), if_neg (show ¬ nI 18 = 14 by decide), if_neg (show ¬ nI 18 = 15 by decide), if_neg (show ¬ nI 18 = 16 by decide), if_neg (show ¬ nI 18 < 5 by decide), if_pos (show (13 : Int32) ≤ nI 18 by decide), m_X11_count_j169, if_neg (show ¬ nI 18 < 17 by decide), if_neg (show ¬ (20 : Int32) ≤ nI 18 by decide), show (nI 18 - 17 : Int32) = nI 1 from rfl, rd_nI (by decide) (by decide), eR18, bd_ok rfl]
      · unfold pM_count
        rw [m_X12_count, nm, bd_ok wa, bd_ok (r_right1 h4)]
        dsimp only
        rw [if_neg (show ¬ (1 : Int32) = 0 by decide), if_neg (show ¬ nI 18 = 0 by decide), if_neg (show ¬ nI 18 = 1 by decide), if_neg (show ¬ nI 18 = 2 by decide), if_neg (show ¬ nI 18 = 3 by decide), if_neg (show ¬ nI 18 = 4 by decide), if_neg (show ¬ nI 18 = 5 by decide), if_neg (show ¬ nI 18 = 6 by decide), if_neg (show ¬ nI 18 = 7 by decide), if_neg (show ¬ nI 18 = 8 by decide), if_neg (show ¬ nI 18 = 9 by decide), if_neg (show ¬ nI 18 = 10 by decide), if_neg (show ¬ nI 18 = 11 by decide), if_neg (show ¬ nI 18 = 12 by decide), if_neg (show ¬ nI 18 = 13 by decide), if_neg (show ¬ nI 18 = 14 by decide), if_neg (show ¬ nI 18 = 15 by decide), if_neg (show ¬ nI 18 = 16 by decide), if_neg (show ¬ nI 18 ≤ 16 by decide), show (nI 18 - 17 : Int32) = nI 1 from rfl, rd_nI (by decide) (by decide), eQ18, bd_ok rfl]
    · -- 19
      have eR19 : S.1.1 17 2 = G.2.2.2 2 := b1.2.2.1.2.2.2 2 (by decide)
      have eQ19 : S.2.1 4 2 = G.2.2.2 2 := (show S.2.1 4 (0 + 2) = _ from b1.2.2.2.1.2.2.2 2 (by decide))
      refine go0 (G.2.2.2 2) ?_ ?_
      · unfold pX_count
        rw [m_X11_count, if_neg (show ¬ nI 19 = 0 by decide), if_neg (show ¬ nI 19 = 1 by decide), if_neg (show ¬ nI 19 = 2 by decide), if_neg (show ¬ nI 19 = 3 by decide), if_neg (show ¬ nI 19 = 4 by decide), if_neg (show ¬ nI 19 = 5 by decide), if_neg (show ¬ nI 19 = 6 by decide), if_neg (show ¬ nI 19 = 7 by decide), if_neg (show ¬ nI 19 = 8 by decide), if_neg (show ¬ nI 19 = 9 by decide), if_neg (show ¬ nI 19 = 10 by decide), if_neg (show ¬ nI 19 = 11 by decide), if_neg (show ¬ nI 19 = 12 by decide), if_neg (show ¬ nI 19 = 13 by decide), if_neg (show ¬ nI 19 = 14 by decide), if_neg (show ¬ nI 19 = 15 by decide), if_neg (show ¬ nI 19 = 16 by decide), if_neg (show ¬ nI 19 < 5 by decide), if_pos (show (13 : Int32) ≤ nI 19 by decide), m_X11_count_j169, if_neg (show ¬ nI 19 < 17 by decide), if_neg (show ¬ (20 : Int32) ≤ nI 19 by decide), show (nI 19 - 17 : Int32) = nI 2 from rfl, rd_nI (by decide) (by decide), eR19, bd_ok rfl]
      · unfold pM_count
        rw [m_X12_count, nm, bd_ok wa, bd_ok (r_right1 h4)]
        dsimp only
        rw [if_neg (show ¬ (1 : Int32) = 0 by decide), if_neg (show ¬ nI 19 = 0 by decide), if_neg (show ¬ nI 19 = 1 by decide), if_neg (show ¬ nI 19 = 2 by decide), if_neg (show ¬ nI 19 = 3 by decide), if_neg (show ¬ nI 19 = 4 by decide), if_neg (show ¬ nI 19 = 5 by decide), if_neg (show ¬ nI 19 = 6 by decide), if_neg (show ¬ nI 19 = 7 by decide), if_neg (show ¬ nI 19 = 8 by decide), if_neg (show ¬ nI 19 = 9 by decide), if_neg (show ¬ nI 19 = 10 by decide), if_neg (show ¬ nI 19 = 11 by decide), if_neg (show ¬ nI 19 = 12 by decide), if_neg (show ¬ nI 19 = 13 by decide), if_neg (show ¬ nI 19 = 14 by decide), if_neg (show ¬ nI 19 = 15 by decide), if_neg (show ¬ nI 19 = 16 by decide), if_neg (show ¬ nI 19 ≤ 16 by decide), show (nI 19 - 17 : Int32) = nI 2 from rfl, rd_nI (by decide) (by decide), eQ19, bd_ok rfl]
  · have wa : m_X12_within a1 0 19 = some 0 := wa
    have hne : ∀ i : Nat, i ≤ 19 → ¬ a1 = nI i := fun i hi e => wb i (by omega) e (by omega)
    have j169 : m_X11_count_j169 (S.1.1 0) (S.1.1 2) (S.1.1 3) (S.1.1 14) (S.1.1 7) (S.1.1 13) (S.1.1 17) a1 = some (1, 0) := by
      rw [m_X11_count_j169]
      by_cases c : a1 < 17
      · rw [if_pos c]
      · rw [if_neg c]
        have c0 : ¬ a1 < 0 := fun e => c (neg_lt (n := 17) e (by decide))
        obtain ⟨j, hj, rfl⟩ := nI_of c0
        have := wb j hj rfl
        rw [if_pos (show (20 : Int32) ≤ nI j from nI_le (a := 20) (by omega) hj)]
    refine go1 ?_ ?_
    · unfold pX_count
      rw [m_X11_count, if_neg (show ¬ a1 = 0 from hne 0 (by decide)), if_neg (show ¬ a1 = 1 from hne 1 (by decide)), if_neg (show ¬ a1 = 2 from hne 2 (by decide)), if_neg (show ¬ a1 = 3 from hne 3 (by decide)), if_neg (show ¬ a1 = 4 from hne 4 (by decide)), if_neg (show ¬ a1 = 5 from hne 5 (by decide)), if_neg (show ¬ a1 = 6 from hne 6 (by decide)), if_neg (show ¬ a1 = 7 from hne 7 (by decide)), if_neg (show ¬ a1 = 8 from hne 8 (by decide)), if_neg (show ¬ a1 = 9 from hne 9 (by decide)), if_neg (show ¬ a1 = 10 from hne 10 (by decide)), if_neg (show ¬ a1 = 11 from hne 11 (by decide)), if_neg (show ¬ a1 = 12 from hne 12 (by decide)), if_neg (show ¬ a1 = 13 from hne 13 (by decide)), if_neg (show ¬ a1 = 14 from hne 14 (by decide)), if_neg (show ¬ a1 = 15 from hne 15 (by decide)), if_neg (show ¬ a1 = 16 from hne 16 (by decide))]
      by_cases c : a1 < 5
      · rw [if_pos c, j169, bd_ok rfl]
      · rw [if_neg c]
        have c0 : ¬ a1 < 0 := fun e => c (neg_lt (n := 5) e (by decide))
        obtain ⟨j, hj, rfl⟩ := nI_of c0
        have := wb j hj rfl
        rw [if_pos (show (13 : Int32) ≤ nI j from nI_le (a := 13) (by omega) hj), j169, bd_ok rfl]
    · unfold pM_count
      rw [m_X12_count, nm, bd_ok wa, bd_ok (r_right0 h4 (by decide))]
      dsimp only
      rw [if_pos rfl, bd_ok rfl]
theorem ordX {md st hd ak rows : Nat → Int32} {X : AC} {x : Int32} (hC : CC md st hd ak X) (hR : RC rows 0 X) (hV : VC X) : (m_X11_isOrder hd x = some 1 ∧ m_X12_isOrder rows x = some 1 ∧ ∃ j, j < 2 ^ 31 ∧ x = nI j ∧ j < totN X 16) ∨ (m_X11_isOrder hd x = some 0 ∧ m_X12_isOrder rows x = some 0) := by
  have e1 := c_total hC hV
  have e2 : m_X12_ordersOf rows 0 = _ := r_total (b := 0) hR hV (by decide)
  have ht := tot_lt hV
  rw [m_X11_isOrder, m_X12_isOrder]
  by_cases c : x < 0
  · rw [if_pos c, if_pos c]; exact Or.inr ⟨rfl, rfl⟩
  · obtain ⟨j, hj, rfl⟩ := nI_of c
    rw [if_neg c, if_neg c, bd_ok e1, bd_ok e2, nI_l hj]
    by_cases d : totN X 16 ≤ j
    · have : 0 ≤ lg_cmp (lN j) (lN (totN X 16)) := (lg_cmp_ge _ _).mpr ((pk_lLE ht (by omega)).mpr d)
      rw [if_pos this]; exact Or.inr ⟨rfl, rfl⟩
    · have : ¬ 0 ≤ lg_cmp (lN j) (lN (totN X 16)) := fun e => d ((pk_lLE ht (by omega)).mp ((lg_cmp_ge _ _).mp e))
      rw [if_neg this]; exact Or.inl ⟨rfl, rfl, j, hj, rfl, by omega⟩
theorem lr_recovered {n : Nat} {S : LwS} (h : LR n S) (a1 a2 a3 a4 a5 : Int32) : ∃ T, sL_recovered S a1 a2 a3 a4 a5 = some T ∧ LR (n + 1) T := by
  obtain ⟨mode, G, I, b1, b2, b3, b4⟩ := id h
  have hC := LX_cm b1
  have hV := b1.2.1.1
  have hR : RM (S.2.1 1) 0 G.1 := b1.2.2.2.1.1
  have hm2 := b1.1
  have hF : S.2.1 0 12 = nI mode := b1.2.2.2.2
  have h4 : upd (S.2.1 0) 4 0 4 = 0 := upd_eq
  have h41 : upd (upd (S.2.1 0) 4 0) 4 1 4 = 1 := upd_eq
  have h42 : upd (upd (S.2.1 0) 4 0) 4 2 4 = 2 := upd_eq
  rcases c_isWordX (x := a2) with ⟨w1, w, rfl, w2⟩ | ⟨w1, w2⟩
  · rcases ordX (x := a1) hC.1 hR.1 hV.1 with ⟨o1, o2, j, hj, rfl, o3⟩ | ⟨o1, o2⟩
    · obtain ⟨W, g1, g2⟩ := c_open (row := S.1.1 25) (pic := S.1.1 26) (n := j) hC.1 hV.1 hj
      obtain ⟨se, s1, s2⟩ := c_recPic (se := S.1.1 27) g2.2.2 (imgA_le hV.1) hm2
      obtain ⟨od, d1, d2⟩ := r_laysOrder (ord := S.2.1 10) (b := 0) (n := j) hR.1 hV.1 (by decide) hj
      obtain ⟨im, i1, i2⟩ := r_laysImage (im := S.2.1 11) (b := 0) hR.1 hV.1 (by decide) dig_ok d2
      obtain ⟨im2, k1, k2⟩ := r_recovers (F := upd (S.2.1 0) 4 0) (by rw [upd_ne (by decide)]; exact hF) i2 (imgA_le hV.1) hm2
      have d1 : m_X12_laysOrder (S.2.1 1) (S.2.1 10) 0 (nI j) = some od := d1
      have i1 : m_X12_laysImage (S.2.1 1) od (S.2.1 11) 0 = some im := i1
      obtain ⟨o, ho⟩ := sh2_0 (S := S) (a := 1) (b := 6) (x := nI (recA mode (imgA (gX G.1) (dig (gX G.1) j)) w)) (C := (upC (upC (upC S.1.1 25 W.1) 26 W.2) 27 se, S.1.2.1, S.1.2.2.1, S.1.2.2.2)) (M := upC (upC (upC S.2.1 0 (upd (S.2.1 0) 4 0)) 10 od) 11 im2) (r := pX_recovered S.1 (nI j) (nI w)) (p := pM_recovered S.2.1 (nI j) (nI w)) (by
        unfold pX_recovered
        rw [m_X11_recovered, bd_ok w1, if_neg (by decide), bd_ok o1, if_neg (by decide), bd_ok g1, hC.2.2.2.2.1, bd_ok s1, rd_nI w2 (by decide), s2 w w2, bd_ok rfl]) (by
        unfold pM_recovered
        rw [m_X12_recovered, nm, bd_ok (r_isWord1 h4 w2)]
        dsimp only
        rw [if_neg (show ¬ (1 : Int32) = 0 by decide), bd_ok o2, bd_ok (r_right1 h4)]
        dsimp only
        rw [if_neg (show ¬ (1 : Int32) = 0 by decide), bd_ok d1, bd_ok i1, bd_ok k1, rd_nI w2 (by decide), k2 w w2, bd_ok rfl]) h4
      exact ⟨_, ho, lr_query h ⟨rfl, rfl, rfl, rfl, rfl, rfl, rfl, rfl, rfl, rfl, rfl, rfl, rfl, rfl⟩ ⟨rfl, rfl, rfl, rfl, rfl, rfl⟩ fq0 (fun _ _ => rfl) rfl rfl rfl rfl (by omega) (by omega)⟩
    · obtain ⟨o, ho⟩ := sh2_2 (S := S) (a := 1) (b := 6) (x := 0) (y := 0) (C := (upC (upC (upC S.1.1 25 (S.1.1 25)) 26 (S.1.1 26)) 27 (S.1.1 27), S.1.2.1, S.1.2.2.1, S.1.2.2.2)) (M := upC (upC (upC S.2.1 0 (upd (upd (S.2.1 0) 4 0) 4 2)) 10 (S.2.1 10)) 11 (S.2.1 11)) (r := pX_recovered S.1 a1 (nI w)) (p := pM_recovered S.2.1 a1 (nI w)) (by
        unfold pX_recovered
        rw [m_X11_recovered, bd_ok w1, if_neg (by decide), bd_ok o1, if_pos rfl, bd_ok rfl]) (by
        unfold pM_recovered
        rw [m_X12_recovered, nm, bd_ok (r_isWord1 h4 w2)]
        dsimp only
        rw [if_neg (show ¬ (1 : Int32) = 0 by decide), bd_ok o2, bd_ok (r_right0 h4 (by decide))]
        dsimp only
        rw [if_pos rfl, bd_ok rfl]) h42
      exact ⟨_, ho, lr_query h ⟨rfl, rfl, rfl, rfl, rfl, rfl, rfl, rfl, rfl, rfl, rfl, rfl, rfl, rfl⟩ ⟨rfl, rfl, rfl, rfl, rfl, rfl⟩ fq1 (fun _ _ => rfl) rfl rfl rfl rfl (by omega) (by omega)⟩
  · obtain ⟨o, ho⟩ := sh2_1 (S := S) (a := 1) (b := 6) (x := 0) (y := 0) (C := (upC (upC (upC S.1.1 25 (S.1.1 25)) 26 (S.1.1 26)) 27 (S.1.1 27), S.1.2.1, S.1.2.2.1, S.1.2.2.2)) (M := upC (upC (upC S.2.1 0 (upd (upd (S.2.1 0) 4 0) 4 1)) 10 (S.2.1 10)) 11 (S.2.1 11)) (r := pX_recovered S.1 a1 a2) (p := pM_recovered S.2.1 a1 a2) (by
      unfold pX_recovered
      rw [m_X11_recovered, bd_ok w1, if_pos rfl, bd_ok rfl]) (by
      unfold pM_recovered
      rw [m_X12_recovered, nm, bd_ok (r_isWord0 h4 w2)]
      dsimp only
      rw [if_pos rfl, bd_ok rfl]) h41
    exact ⟨_, ho, lr_query h ⟨rfl, rfl, rfl, rfl, rfl, rfl, rfl, rfl, rfl, rfl, rfl, rfl, rfl, rfl⟩ ⟨rfl, rfl, rfl, rfl, rfl, rfl⟩ fq1 (fun _ _ => rfl) rfl rfl rfl rfl (by omega) (by omega)⟩
theorem lr_fate {n : Nat} {S : LwS} (h : LR n S) (a1 a2 a3 a4 a5 : Int32) : ∃ T, sL_fate S a1 a2 a3 a4 a5 = some T ∧ LR (n + 1) T := by
  obtain ⟨mode, G, I, b1, b2, b3, b4⟩ := id h
  have hC := LX_cm b1
  have hV := b1.2.1.1
  have hR : RM (S.2.1 1) 0 G.1 := b1.2.2.2.1.1
  have hm2 := b1.1
  have hF : S.2.1 0 12 = nI mode := b1.2.2.2.2
  have h4 : upd (S.2.1 0) 4 0 4 = 0 := upd_eq
  have h41 : upd (upd (S.2.1 0) 4 0) 4 1 4 = 1 := upd_eq
  rcases ordX (x := a1) hC.1 hR.1 hV.1 with ⟨o1, o2, j, hj, rfl, o3⟩ | ⟨o1, o2⟩
  · obtain ⟨W, g1, g2⟩ := c_open (row := S.1.1 25) (pic := S.1.1 26) (n := j) hC.1 hV.1 hj
    obtain ⟨se, s1, s2⟩ := c_fateBy (se := S.1.1 27) hm2 hV hC.2.2.2.2.1 g2.2.2 hC.2.2.2.2.2.2.2.1 hC.2.2.2.2.2.2.2.2
    obtain ⟨od, d1, d2⟩ := r_laysOrder (ord := S.2.1 10) (b := 0) (n := j) hR.1 hV.1 (by decide) hj
    have d1 : m_X12_laysOrder (S.2.1 1) (S.2.1 10) 0 (nI j) = some od := d1
    obtain ⟨F', me', we', k1, k2, k3⟩ := r_laysWell (F := upd (S.2.1 0) 4 0) (me := S.2.1 9) (we := S.2.1 12) (b := 0) hm2 (by decide) hR hV (by rw [upd_ne (by decide)]; exact hF)
    have k1 : m_X12_laysWell (upd (S.2.1 0) 4 0) (S.2.1 1) (S.2.1 9) (S.2.1 12) 0 = _ := k1
    obtain ⟨im, i1⟩ := r_fateHere (F := F') (im := S.2.1 11) (b := 0) hm2 (by decide) hR hV (by rw [k3 12 (by decide), upd_ne (by decide)]; exact hF) k2 dig_ok d2
    have i1 : m_X12_fateHere F' (S.2.1 1) od (S.2.1 11) we' 0 = _ := i1
    obtain ⟨o, ho⟩ := sh_0 (S := S) (a := 1) (b := 6) (K := 2) (x := nI (fateA mode G.1 (dig (gX G.1) j))) (C := (upC (upC (upC S.1.1 25 W.1) 26 W.2) 27 se, S.1.2.1, S.1.2.2.1, S.1.2.2.2)) (M := upC (upC (upC (upC (upC S.2.1 0 F') 9 me') 10 od) 11 im) 12 we') (r := pX_fate S.1 (nI j)) (p := pM_fate S.2.1 (nI j)) (by
      unfold pX_fate
      rw [m_X11_fate, bd_ok o1, if_neg (by decide), bd_ok g1, bd_ok s1, bd_ok rfl]) (by
      unfold pM_fate
      rw [m_X12_fate, nm, bd_ok o2, bd_ok (r_right1 h4)]
      dsimp only
      rw [if_neg (show ¬ (1 : Int32) = 0 by decide), bd_ok d1, bd_ok k1, bd_ok i1, bd_ok rfl]) (show F' 4 = 0 by rw [k3 4 (by decide)]; exact h4)
    have hFq : ∀ j, 5 ≤ j → j ≤ 15 → F' j = S.2.1 0 j := by
      intro j p q
      rw [k3 j (by omega)]; exact fq0 j p q
    exact ⟨_, ho, lr_query h ⟨rfl, rfl, rfl, rfl, rfl, rfl, rfl, rfl, rfl, rfl, rfl, rfl, rfl, rfl⟩ ⟨rfl, rfl, rfl, rfl, rfl, rfl⟩ hFq (fun _ _ => rfl) rfl rfl rfl rfl (by omega) (by omega)⟩
  · obtain ⟨o, ho⟩ := sh_1 (S := S) (a := 1) (b := 6) (K := 2) (x := 0) (y := 0) (C := (upC (upC (upC S.1.1 25 (S.1.1 25)) 26 (S.1.1 26)) 27 (S.1.1 27), S.1.2.1, S.1.2.2.1, S.1.2.2.2)) (M := upC (upC (upC (upC (upC S.2.1 0 (upd (upd (S.2.1 0) 4 0) 4 1)) 9 (S.2.1 9)) 10 (S.2.1 10)) 11 (S.2.1 11)) 12 (S.2.1 12)) (r := pX_fate S.1 a1) (p := pM_fate S.2.1 a1) (by decide) (by
      unfold pX_fate
      rw [m_X11_fate, bd_ok o1, if_pos rfl, bd_ok rfl]) (by
      unfold pM_fate
      rw [m_X12_fate, nm, bd_ok o2, bd_ok (r_right0 h4 (by decide))]
      dsimp only
      rw [if_pos rfl, bd_ok rfl]) h41
    exact ⟨_, ho, lr_query h ⟨rfl, rfl, rfl, rfl, rfl, rfl, rfl, rfl, rfl, rfl, rfl, rfl, rfl, rfl⟩ ⟨rfl, rfl, rfl, rfl, rfl, rfl⟩ fq1 (fun _ _ => rfl) rfl rfl rfl rfl (by omega) (by omega)⟩
