/-! ===== questions ===== -/
theorem fq0 {F : Nat → Int32} {x : Int32} : ∀ j, 5 ≤ j → j ≤ 15 → upd F 4 x j = F j := fun j a _ => upd_ne (by omega)
theorem fq1 {F : Nat → Int32} {x y : Int32} : ∀ j, 5 ≤ j → j ≤ 15 → upd (upd F 4 x) 4 y j = F j := fun j a _ => by rw [upd_ne (by omega), upd_ne (by omega)]
theorem LX_cm {S : LwS} {mode : Nat} {G : GS} (h : LX S mode G) : CM (S.1.1 3) (S.1.1 5) (S.1.1 6) (S.1.1 7) (S.1.1 8) (S.1.1 9) (S.1.1 10) (S.1.1 11) (S.1.1 12) (S.1.1 13) mode G.1 := h.2.2.1.1
theorem c_wordNow_loop {md st hd ak : Nat → Int32} {X : AC} {w l : Nat} (hC : CC md st hd ak X) (hV : VC X) (hw : w < 64) (hl : l < 16) {K : Option Int32} (hK : K = some (nI (X.1 w))) : ∀ (k fuel : Nat), k ≤ (X.2.1 l).length → k < fuel → m_X1_wordNow_w13 md st hd (nI w) K fuel (nI l) (nI k + (-1)) = some (nI (lastS w (X.1 w) ((X.2.1 l).take k))) := by
  obtain ⟨h6, hak, hst⟩ := hV.2 l hl
  intro k
  induction k with
  | zero =>
    intro fuel _ hf
    obtain ⟨fuel, rfl⟩ : ∃ d, fuel = d + 1 := ⟨fuel - 1, by omega⟩
    rw [show nI 0 + (-1) = -1 from rfl, m_X1_wordNow_w13, if_pos (by decide), hK, List.take_zero]; rfl
  | succ k ih =>
    intro fuel hk hf
    obtain ⟨fuel, rfl⟩ : ∃ d, fuel = d + 1 := ⟨fuel - 1, by omega⟩
    have hlt : k < (X.2.1 l).length := by omega
    have hq : (X.2.1 l)[k]? = some (X.2.1 l)[k] := List.getElem?_eq_getElem hlt
    have hq2 := hst _ (List.getElem_mem hlt)
    generalize (X.2.1 l)[k] = q at hq hq2
    have hq64 : q.1 < 64 := by omega
    have e1 : st (l * 6 + k) = nI (100 * q.1 + q.2) := by rw [← hC.2.2.2 l hl k q hq]; congr 1; omega
    have e2 : (nI (100 * q.1 + q.2) / 100 : Int32) = nI q.1 := by rw [show (100 : Int32) = nI 100 from rfl, nI_divE (by omega) (by decide)]; congr 1; omega
    have e3 : (nI (100 * q.1 + q.2) - nI (100 * q.1 + q.2) / 100 * 100 : Int32) = nI q.2 := by rw [show (100 : Int32) = nI 100 from rfl, nI_modE (by omega) (by decide)]; congr 1; omega
    rw [nI_dn, m_X1_wordNow_w13, if_neg (show ¬ nI k < 0 from nI_pos (by omega)), show (6 : Int32) = nI 6 from rfl, nI_mulE, nI_add, rd_nI (by omega) (by decide), e1, e3, e2, lastS_take hq]
    by_cases c : q.1 = w
    · rw [if_pos c, if_pos (show nI q.1 = nI w by rw [c])]
    · rw [if_neg c, if_neg (fun e => c (nI_inj (by omega) (by omega) e)), nm]
      exact ih fuel (by omega) (by omega)
theorem c_wordNow {md st hd ak : Nat → Int32} {X : AC} {w : Nat} (hC : CC md st hd ak X) (hV : VC X) (hw : w < 64) : m_X1_wordNow md st hd (nI w) = some (nI (wordA X w)) := by
  have h6 := (hV.2 (w / 4) (by omega)).1
  have e := hC.2.1 (w / 4) (by omega)
  have hK : m_X1_wordNow_j51 md st hd (nI w) = some (nI (X.1 w)) := by rw [m_X1_wordNow_j51, rd_nI hw (by decide), hC.1 w hw]
  rw [m_X1_wordNow, nm, show (4 : Int32) = nI 4 from rfl, nI_divE (by omega) (by decide), rd_nI (by omega) (by decide), e, nm, Int32.sub_eq_add_neg, c_wordNow_loop hC hV hw (by omega) hK _ fuelN (Nat.le_refl _) (by rw [fuel_is]; omega), List.take_length]
  rfl
theorem lr_fault {n : Nat} {S : LwS} (h : LR n S) (a1 a2 a3 a4 a5 : Int32) : ∃ T, sL_fault S a1 a2 a3 a4 a5 = some T ∧ LR (n + 1) T := by
  obtain ⟨mode, G, I, b1, b2, b3, b4⟩ := id h
  refine ⟨((S.1.1, S.1.2.1, S.1.2.2.1, S.1.2.2.2), upC S.2.1 0 (upd (S.2.1 0) 4 0), S.2.2.1, S.2.2.2.1 + 0, S.2.2.2.2 + 0), ?_, lr_query h ⟨rfl, rfl, rfl, rfl, rfl, rfl, rfl, rfl, rfl, rfl, rfl, rfl, rfl, rfl⟩ ⟨rfl, rfl, rfl, rfl, rfl, rfl⟩ fq0 (fun _ _ => rfl) rfl rfl rfl rfl (by omega) (by omega)⟩
  unfold sL_fault pX_fault pM_fault
  rw [m_X11_fault, bd_ok rfl, bd_ok rfl, m_X12_fault, nm, bd_ok rfl, bd_ok rfl]
  dsimp only
  rw [if_pos (by rw [upd_ne (by decide)]; exact b3.2.1)]
theorem lr_orders {n : Nat} {S : LwS} (h : LR n S) (a1 a2 a3 a4 a5 : Int32) : ∃ T, sL_orders S a1 a2 a3 a4 a5 = some T ∧ LR (n + 1) T := by
  obtain ⟨mode, G, I, b1, b2, b3, b4⟩ := id h
  refine ⟨((S.1.1, S.1.2.1, S.1.2.2.1, S.1.2.2.2), upC S.2.1 0 (upd (S.2.1 0) 4 0), S.2.2.1, S.2.2.2.1 + 0, S.2.2.2.2 + 0), ?_, lr_query h ⟨rfl, rfl, rfl, rfl, rfl, rfl, rfl, rfl, rfl, rfl, rfl, rfl, rfl, rfl⟩ ⟨rfl, rfl, rfl, rfl, rfl, rfl⟩ fq0 (fun _ _ => rfl) rfl rfl rfl rfl (by omega) (by omega)⟩
  have e1 := c_total (LX_cm b1).1 b1.2.1.1.1
  have e2 : m_X12_ordersOf (S.2.1 1) 0 = _ := r_total (b := 0) b1.2.2.2.1.1.1 b1.2.1.1.1 (by decide)
  unfold sL_orders pX_orders pM_orders
  rw [m_X11_orders, bd_ok e1, bd_ok rfl, bd_ok rfl, m_X12_orders, nm, bd_ok e2, bd_ok rfl, bd_ok rfl]
  dsimp only
  rw [if_pos ((lg_cmp_eq _ _).mpr rfl)]
theorem lr_word {n : Nat} {S : LwS} (h : LR n S) (a1 a2 a3 a4 a5 : Int32) : ∃ T, sL_word S a1 a2 a3 a4 a5 = some T ∧ LR (n + 1) T := by
  obtain ⟨mode, G, I, b1, b2, b3, b4⟩ := id h
  have hC := LX_cm b1
  have hV := b1.2.1.1
  have hR : RM (S.2.1 1) 0 G.1 := b1.2.2.2.1.1
  have key : (∃ o M, (∃ F', M = upC S.2.1 0 F' ∧ ∀ j, 5 ≤ j → j ≤ 15 → F' j = S.2.1 0 j) ∧ sL_word S a1 a2 a3 a4 a5 = some ((S.1.1, S.1.2.1, S.1.2.2.1, S.1.2.2.2), M, o, S.2.2.2.1 + 1, S.2.2.2.2 + 6)) := by
    have h4 : upd (S.2.1 0) 4 0 4 = 0 := upd_eq
    have h41 : upd (upd (S.2.1 0) 4 0) 4 1 4 = 1 := upd_eq
    rcases c_isWordX (x := a1) with ⟨w1, j, rfl, w2⟩ | ⟨w1, w2⟩
    · by_cases c : a2 = 0
      · obtain ⟨o, ho⟩ := sh_0 (S := S) (a := 1) (b := 6) (K := 1) (x := nI (wordA (gX G.1) j)) (C := (S.1.1, S.1.2.1, S.1.2.2.1, S.1.2.2.2)) (M := upC S.2.1 0 (upd (S.2.1 0) 4 0)) (r := pX_word S.1 (nI j) (if a2 = 0 then 0 else 1)) (p := pM_word S.2.1 (nI j) (if a2 = 0 then 0 else 1)) (by
          unfold pX_word
          rw [m_X11_word, bd_ok w1, if_neg (by decide), if_pos c, if_pos rfl, bd_ok (c_wordNow hC.1 hV.1 w2), bd_ok rfl]) (by
          unfold pM_word
          have hwo : m_X12_wordOf (S.2.1 1) 0 (nI j) = _ := r_wordOf (b := 0) hR.1 hV.1 w2 (by decide)
          rw [m_X12_word, nm, bd_ok (r_isWord1 h4 w2), if_pos c]
          dsimp only
          rw [if_neg (show ¬ (1 : Int32) = 0 by decide), if_pos rfl, bd_ok hwo, bd_ok rfl]) h4
        exact ⟨o, _, ⟨_, rfl, fq0⟩, ho⟩
      · obtain ⟨o, ho⟩ := sh_0 (S := S) (a := 1) (b := 6) (K := 1) (x := nI ((gX G.1).1 j)) (C := (S.1.1, S.1.2.1, S.1.2.2.1, S.1.2.2.2)) (M := upC S.2.1 0 (upd (S.2.1 0) 4 0)) (r := pX_word S.1 (nI j) (if a2 = 0 then 0 else 1)) (p := pM_word S.2.1 (nI j) (if a2 = 0 then 0 else 1)) (by
          unfold pX_word
          rw [m_X11_word, bd_ok w1, if_neg (by decide), if_neg c, if_neg (show ¬ (1 : Int32) = 0 by decide), rd_nI w2 (by decide), hC.1.1 j w2, bd_ok rfl]) (by
          unfold pM_word
          have e0 := hR.1.1 j w2
          rw [Nat.zero_add] at e0
          rw [m_X12_word, nm, bd_ok (r_isWord1 h4 w2), if_neg c]
          dsimp only
          rw [if_neg (show ¬ (1 : Int32) = 0 by decide), if_neg (show ¬ (1 : Int32) = 0 by decide), rd_nI (by omega) (by decide), e0, bd_ok rfl]) h4
        exact ⟨o, _, ⟨_, rfl, fq0⟩, ho⟩
    · obtain ⟨o, ho⟩ := sh_1 (S := S) (a := 1) (b := 6) (K := 1) (x := 0) (y := 0) (C := (S.1.1, S.1.2.1, S.1.2.2.1, S.1.2.2.2)) (M := upC S.2.1 0 (upd (upd (S.2.1 0) 4 0) 4 1)) (r := pX_word S.1 a1 (if a2 = 0 then 0 else 1)) (p := pM_word S.2.1 a1 (if a2 = 0 then 0 else 1)) (by decide) (by
        unfold pX_word
        rw [m_X11_word, bd_ok w1, if_pos rfl, bd_ok rfl]) (by
        unfold pM_word
        rw [m_X12_word, nm, bd_ok (r_isWord0 h4 w2)]
        dsimp only
        rw [if_pos rfl, bd_ok rfl]) h41
      exact ⟨o, _, ⟨_, rfl, fq1⟩, ho⟩
  obtain ⟨o, M, ⟨F', rfl, hF⟩, hs⟩ := key
  exact ⟨_, hs, lr_query h ⟨rfl, rfl, rfl, rfl, rfl, rfl, rfl, rfl, rfl, rfl, rfl, rfl, rfl, rfl⟩ ⟨rfl, rfl, rfl, rfl, rfl, rfl⟩ hF (fun _ _ => rfl) rfl rfl rfl rfl (by omega) (by omega)⟩
theorem lr_line {n : Nat} {S : LwS} (h : LR n S) (a1 a2 a3 a4 a5 : Int32) : ∃ T, sL_line S a1 a2 a3 a4 a5 = some T ∧ LR (n + 1) T := by
  obtain ⟨mode, G, I, b1, b2, b3, b4⟩ := id h
  have hC := LX_cm b1
  have hV := b1.2.1.1
  have hR : RM (S.2.1 1) 0 G.1 := b1.2.2.2.1.1
  have key : (∃ o M, (∃ F', M = upC S.2.1 0 F' ∧ ∀ j, 5 ≤ j → j ≤ 15 → F' j = S.2.1 0 j) ∧ sL_line S a1 a2 a3 a4 a5 = some ((S.1.1, S.1.2.1, S.1.2.2.1, S.1.2.2.2), M, o, S.2.2.2.1 + 1, S.2.2.2.2 + 6)) := by
    have h4 : upd (S.2.1 0) 4 0 4 = 0 := upd_eq
    have h41 : upd (upd (S.2.1 0) 4 0) 4 1 4 = 1 := upd_eq
    have go0 : ∀ x : Int32, pX_line S.1 a1 a2 = some (0, x, (S.1.1, S.1.2.1, S.1.2.2.1, S.1.2.2.2)) → pM_line S.2.1 a1 a2 = some (x, upC S.2.1 0 (upd (S.2.1 0) 4 0)) → (∃ o M, (∃ F', M = upC S.2.1 0 F' ∧ ∀ j, 5 ≤ j → j ≤ 15 → F' j = S.2.1 0 j) ∧ sL_line S a1 a2 a3 a4 a5 = some ((S.1.1, S.1.2.1, S.1.2.2.1, S.1.2.2.2), M, o, S.2.2.2.1 + 1, S.2.2.2.2 + 6)) := by
      intro x e1 e2
      obtain ⟨o, ho⟩ := sh_0 (S := S) (a := 1) (b := 6) (K := 1) e1 e2 h4
      exact ⟨o, _, ⟨_, rfl, fq0⟩, ho⟩
    have go1 : pX_line S.1 a1 a2 = some (1, 0, (S.1.1, S.1.2.1, S.1.2.2.1, S.1.2.2.2)) → pM_line S.2.1 a1 a2 = some (0, upC S.2.1 0 (upd (upd (S.2.1 0) 4 0) 4 1)) → (∃ o M, (∃ F', M = upC S.2.1 0 F' ∧ ∀ j, 5 ≤ j → j ≤ 15 → F' j = S.2.1 0 j) ∧ sL_line S a1 a2 a3 a4 a5 = some ((S.1.1, S.1.2.1, S.1.2.2.1, S.1.2.2.2), M, o, S.2.2.2.1 + 1, S.2.2.2.2 + 6)) := by
      intro e1 e2
      obtain ⟨o, ho⟩ := sh_1 (S := S) (a := 1) (b := 6) (K := 1) (by decide) e1 e2 h41
      exact ⟨o, _, ⟨_, rfl, fq1⟩, ho⟩
    rcases c_isLineX (x := a1) with ⟨w1, l, rfl, hl⟩ | ⟨w1, w2⟩
    · have hw : m_X12_within (nI l) 0 15 = some 1 := (r_within (lo := 0) (hi := 15) (by omega) (by decide) (by decide)).trans (by rw [if_pos (by omega)]; rfl)
      have c1 := hC.1.2.1 l hl
      have c2 := hC.1.2.2.1 l hl
      have r1 := hR.1.2.1 l hl
      have r2 := hR.1.2.2.1 l hl
      have h6 := (hV.1.2 l hl).1
      rw [Nat.zero_add] at r1 r2
      have e64 : (64 + nI l : Int32) = nI (64 + l) := by rw [show (64 : Int32) = nI 64 from rfl, nI_add]
      have e80 : (80 + nI l : Int32) = nI (80 + l) := by rw [show (80 : Int32) = nI 80 from rfl, nI_add]
      by_cases d1 : a2 = -1
      · refine go0 (nI ((gX G.1).2.1 l).length) ?_ ?_
        · unfold pX_line
          rw [m_X11_line, bd_ok w1, if_neg (by decide), if_pos d1, rd_nI hl (by decide), c1, bd_ok rfl]
        · unfold pM_line
          rw [m_X12_line, nm, bd_ok hw, bd_ok (r_right1 h4)]
          dsimp only
          rw [if_neg (show ¬ (1 : Int32) = 0 by decide), if_pos d1, e64, rd_nI (by omega) (by decide), r1, bd_ok rfl]
      by_cases d2 : a2 = -2
      · refine go0 (nI ((gX G.1).2.2 l)) ?_ ?_
        · unfold pX_line
          rw [m_X11_line, bd_ok w1, if_neg (by decide), if_neg d1, if_pos d2, rd_nI hl (by decide), c2, bd_ok rfl]
        · unfold pM_line
          rw [m_X12_line, nm, bd_ok hw, bd_ok (r_right1 h4)]
          dsimp only
          rw [if_neg (show ¬ (1 : Int32) = 0 by decide), if_neg d1, if_pos d2, e80, rd_nI (by omega) (by decide), r2, bd_ok rfl]
      by_cases d3 : a2 < 0
      · refine go1 ?_ ?_
        · unfold pX_line
          rw [m_X11_line, bd_ok w1, if_neg (by decide), if_neg d1, if_neg d2, if_pos d3, bd_ok rfl]
        · unfold pM_line
          rw [m_X12_line, nm, bd_ok hw, bd_ok (r_right1 h4)]
          dsimp only
          rw [if_neg (show ¬ (1 : Int32) = 0 by decide), if_neg d1, if_neg d2, if_pos d3, m_X12_line_j75, m_X12_line_j76, bd_ok (r_right0 h4 (by decide))]
          dsimp only
          rw [if_pos rfl, bd_ok rfl]
      obtain ⟨i, hi, rfl⟩ := nI_of d3
      by_cases d4 : i < ((gX G.1).2.1 l).length
      · have hq : ((gX G.1).2.1 l)[i]? = some ((gX G.1).2.1 l)[i] := List.getElem?_eq_getElem d4
        have hq2 := (hV.1.2 l hl).2.2 _ (List.getElem_mem d4)
        generalize ((gX G.1).2.1 l)[i] = q at hq hq2
        have cs : S.1.1 6 (l * 6 + i) = nI (100 * q.1 + q.2) := by rw [← hC.1.2.2.2 l hl i q hq, show l * 6 + i = 6 * l + i by omega]
        obtain ⟨s1, s2⟩ := hR.1.2.2.2 l hl i q hq
        rw [Nat.zero_add] at s1 s2
        refine go0 (nI (100 * q.1 + q.2)) ?_ ?_
        · unfold pX_line
          rw [m_X11_line, bd_ok w1, if_neg (by decide), if_neg d1, if_neg d2, if_neg d3, rd_nI hl (by decide), c1, if_pos (nI_lt d4 (by omega)), show (6 : Int32) = nI 6 from rfl, nI_mulE, nI_add, rd_nI (by omega) (by decide), cs, bd_ok rfl]
        · unfold pM_line
          rw [m_X12_line, nm, bd_ok hw, bd_ok (r_right1 h4)]
          dsimp only
          rw [if_neg (show ¬ (1 : Int32) = 0 by decide), if_neg d1, if_neg d2, if_neg d3, e64, rd_nI (by omega) (by decide), r1, if_neg (nI_ge d4 (by omega)), m_X12_line_j76, bd_ok (r_right1 h4)]
          dsimp only
          rw [if_neg (show ¬ (1 : Int32) = 0 by decide), show (96 : Int32) = nI 96 from rfl, show (12 : Int32) = nI 12 from rfl, show (2 : Int32) = nI 2 from rfl, nI_mulE, nI_mulE, nI_add, nI_add, show nI (96 + 12 * l + 2 * i) + 1 = nI (96 + 12 * l + 2 * i + 1) from nI_1 _, rd_nI (by omega) (by decide), rd_nI (by omega) (by decide), s1, s2, show (100 : Int32) = nI 100 from rfl, nI_mulE, nI_add, bd_ok rfl]
      · refine go1 ?_ ?_
        · unfold pX_line
          rw [m_X11_line, bd_ok w1, if_neg (by decide), if_neg d1, if_neg d2, if_neg d3, rd_nI hl (by decide), c1, if_neg (nI_nlt (by omega) hi), bd_ok rfl]
        · unfold pM_line
          rw [m_X12_line, nm, bd_ok hw, bd_ok (r_right1 h4)]
          dsimp only
          rw [if_neg (show ¬ (1 : Int32) = 0 by decide), if_neg d1, if_neg d2, if_neg d3, e64, rd_nI (by omega) (by decide), r1, if_pos (nI_le (by omega) hi), m_X12_line_j75, m_X12_line_j76, bd_ok (r_right0 h4 (by decide))]
          dsimp only
          rw [if_pos rfl, bd_ok rfl]
    · refine go1 ?_ ?_
      · unfold pX_line
        rw [m_X11_line, bd_ok w1, if_pos rfl, bd_ok rfl]
      · unfold pM_line
        rcases r_withinX (x := a1) (lo := 0) (hi := 15) (by decide) (by decide) with ⟨a, j, b, c, d⟩ | ⟨a, b⟩
        · exact absurd (show j < 16 by omega) (w2 j (by omega) b)
        · have a : m_X12_within a1 0 15 = some 0 := a
          rw [m_X12_line, nm, bd_ok a, bd_ok (r_right0 h4 (by decide))]
          dsimp only
          rw [if_pos rfl, bd_ok rfl]
  obtain ⟨o, M, ⟨F', rfl, hF⟩, hs⟩ := key
  exact ⟨_, hs, lr_query h ⟨rfl, rfl, rfl, rfl, rfl, rfl, rfl, rfl, rfl, rfl, rfl, rfl, rfl, rfl⟩ ⟨rfl, rfl, rfl, rfl, rfl, rfl⟩ hF (fun _ _ => rfl) rfl rfl rfl rfl (by omega) (by omega)⟩
theorem lr_micro {n : Nat} {S : LwS} (h : LR n S) (a1 a2 a3 a4 a5 : Int32) : ∃ T, sL_micro S a1 a2 a3 a4 a5 = some T ∧ LR (n + 1) T := by
  obtain ⟨mode, G, I, b1, b2, b3, b4⟩ := id h
  have hC := LX_cm b1
  have hV := b1.2.1.1
  have hR : RM (S.2.1 1) 0 G.1 := b1.2.2.2.1.1
  have h4 : upd (S.2.1 0) 4 0 4 = 0 := upd_eq
  have h41 : upd (upd (S.2.1 0) 4 0) 4 1 4 = 1 := upd_eq
  have go0 : ∀ x : Int32, pX_micro S.1 a1 a2 = some (0, x, (S.1.1, S.1.2.1, S.1.2.2.1, S.1.2.2.2)) → pM_micro S.2.1 a1 a2 = some (x, upC S.2.1 0 (upd (S.2.1 0) 4 0)) → ∃ T, sL_micro S a1 a2 a3 a4 a5 = some T ∧ LR (n + 1) T := by
    intro x e1 e2
    obtain ⟨o, ho⟩ := sh_0 (S := S) (a := 1) (b := 6) (K := 1) e1 e2 h4
    exact ⟨_, ho, lr_query h ⟨rfl, rfl, rfl, rfl, rfl, rfl, rfl, rfl, rfl, rfl, rfl, rfl, rfl, rfl⟩ ⟨rfl, rfl, rfl, rfl, rfl, rfl⟩ fq0 (fun _ _ => rfl) rfl rfl rfl rfl (by omega) (by omega)⟩
  have go1 : pX_micro S.1 a1 a2 = some (1, 0, (S.1.1, S.1.2.1, S.1.2.2.1, S.1.2.2.2)) → pM_micro S.2.1 a1 a2 = some (0, upC S.2.1 0 (upd (upd (S.2.1 0) 4 0) 4 1)) → ∃ T, sL_micro S a1 a2 a3 a4 a5 = some T ∧ LR (n + 1) T := by
    intro e1 e2
    obtain ⟨o, ho⟩ := sh_1 (S := S) (a := 1) (b := 6) (K := 1) (by decide) e1 e2 h41
    exact ⟨_, ho, lr_query h ⟨rfl, rfl, rfl, rfl, rfl, rfl, rfl, rfl, rfl, rfl, rfl, rfl, rfl, rfl⟩ ⟨rfl, rfl, rfl, rfl, rfl, rfl⟩ fq1 (fun _ _ => rfl) rfl rfl rfl rfl (by omega) (by omega)⟩
  have no : m_X12_micro_j44 (S.2.1 1) a1 a2 (upd (S.2.1 0) 4 0) = some (0, upd (upd (S.2.1 0) 4 0) 4 1) := by
    rw [m_X12_micro_j44, m_X12_micro_j45, bd_ok (r_right0 h4 (by decide))]
    dsimp only
    rw [if_pos rfl]
  obtain ⟨ca, cc2, cc3, cc4, cc5, cc6⟩ := hC.2.1
  obtain ⟨ra, rr5, rr4, rr3, rr6, rr7⟩ := hR.2.1
  rw [Nat.zero_add] at rr5 rr4
  have hml : m_X4_microsLeft (S.1.1 3) = some (nI (gM G.1).length) := by
    rw [m_X4_microsLeft, cc2, cc3, nI_subE (by omega)]
    congr 2; omega
  have hsub : nI (ra + (gM G.1).length) - nI ra = nI (gM G.1).length := by rw [nI_subE (by omega)]; congr 1; omega
  by_cases d1 : a1 < 0
  · refine go1 ?_ ?_
    · unfold pX_micro
      rw [m_X11_micro, if_pos d1, bd_ok rfl]
    · unfold pM_micro
      rw [m_X12_micro, nm, if_pos d1, no, bd_ok rfl]
  obtain ⟨i, hi, rfl⟩ := nI_of d1
  have r774 : ∀ {α : Type} (k : Int32 → Option α), rd (S.2.1 1) 66100 774 k = k (nI (ra + (gM G.1).length)) := fun k => by rw [show (774 : Int32) = nI 774 from rfl, rd_nI (by decide) (by decide), rr4]
  have r775 : ∀ {α : Type} (k : Int32 → Option α), rd (S.2.1 1) 66100 775 k = k (nI ra) := fun k => by rw [show (775 : Int32) = nI 775 from rfl, rd_nI (by decide) (by decide), rr5]
  by_cases d2 : (gM G.1).length ≤ i
  · refine go1 ?_ ?_
    · unfold pX_micro
      rw [m_X11_micro, if_neg d1, bd_ok hml, if_pos (nI_le d2 hi), bd_ok rfl]
    · unfold pM_micro
      rw [m_X12_micro, nm, if_neg d1, r774, r775, hsub, if_pos (nI_le d2 hi), no, bd_ok rfl]
  have hlt : i < (gM G.1).length := by omega
  rcases r_withinX (x := a2) (lo := 0) (hi := 2) (by decide) (by decide) with ⟨wa, j, rfl, w1, w2⟩ | ⟨wa, wb⟩
  · have wa : m_X12_within (nI j) 0 2 = some 1 := wa
    have hq : (gM G.1)[i]? = some (gM G.1)[i] := List.getElem?_eq_getElem hlt
    have hq2 := hV.2.1 _ (List.getElem_mem hlt)
    generalize (gM G.1)[i] = q at hq hq2
    have cm := cc6 i q hq
    obtain ⟨z1, z2, z3⟩ := rr7 i q hq
    rw [Nat.zero_add] at z1 z2 z3
    obtain ⟨v1, v2, v3, v4, v5⟩ := mcN_div hq2
    have e1 : (nI (mcN q) / 10000 : Int32) = nI q.1 := by rw [show (10000 : Int32) = nI 10000 from rfl, nI_divE (by omega) (by decide), v1]
    have e2 : ((nI (mcN q) - nI (mcN q) / 10000 * 10000) / 100 : Int32) = nI q.2.1 := by
      rw [show (10000 : Int32) = nI 10000 from rfl, show (100 : Int32) = nI 100 from rfl, nI_modE (by omega) (by decide), nI_divE (Nat.lt_trans (Nat.mod_lt _ (by decide)) (by decide)) (by decide), v2]
    have e3 : (nI (mcN q) - nI (mcN q) / 100 * 100 : Int32) = nI q.2.2 := by
      rw [show (100 : Int32) = nI 100 from rfl, nI_modE (by omega) (by decide), v3]
    have hx : ∀ x : Int32, x = S.2.1 1 (288 + 3 * (ra + i) + j) → pM_micro S.2.1 (nI i) (nI j) = some (x, upC S.2.1 0 (upd (S.2.1 0) 4 0)) := by
      intro x hx
      unfold pM_micro
      rw [m_X12_micro, nm, if_neg d1, r774, r775, hsub, if_neg (nI_ge hlt (by omega)), bd_ok wa, if_neg (by decide), m_X12_micro_j45, bd_ok (r_right1 h4)]
      dsimp only
      rw [if_neg (show ¬ (1 : Int32) = 0 by decide), r775, show (288 : Int32) = nI 288 from rfl, show (3 : Int32) = nI 3 from rfl, nI_add, nI_mulE, nI_add, nI_add, rd_nI (by omega) (by decide), bd_ok rfl, hx]
    have hcl : ∀ x : Int32, (if nI j = 0 then some ((0 : Int32), nI q.1) else if nI q.1 = 2 then some (0, -1) else if nI q.1 = 1 then (if nI j = 2 then some (0, -1) else m_X11_micro_j86 (S.1.1 3) (S.1.1 9) (nI i) (nI j) (nI (mcN q))) else m_X11_micro_j86 (S.1.1 3) (S.1.1 9) (nI i) (nI j) (nI (mcN q))) = some (0, x) → pX_micro S.1 (nI i) (nI j) = some (0, x, (S.1.1, S.1.2.1, S.1.2.2.1, S.1.2.2.2)) := by
      intro x hx
      unfold pX_micro
      rw [m_X11_micro, if_neg d1, bd_ok hml, if_neg (nI_ge hlt (by omega)), if_neg (show ¬ nI j < 0 from nI_pos (by omega)), if_pos (show nI j ≤ 2 from nI_le (b := 2) w2 (by decide)), cc2, nI_add, rd_nI (by omega) (by decide), cm, nm, e1, hx, bd_ok rfl]
    refine go0 (S.2.1 1 (288 + 3 * (ra + i) + j)) (hcl _ ?_) (hx _ rfl)
    have hj3 : j = 0 ∨ j = 1 ∨ j = 2 := by omega
    have hk3 : q.1 = 0 ∨ q.1 = 1 ∨ q.1 = 2 := by omega
    unfold mcw at z2
    unfold mcv at z3
    rcases hj3 with rfl | rfl | rfl
    · rw [if_pos (show nI 0 = 0 from rfl), Nat.add_zero, z1]
    · rw [if_neg (by decide), z2, m_X11_micro_j86, nm, e2, if_pos (show nI 1 = 1 from rfl), if_neg (show ¬ nI 1 = 2 by decide)]
      rcases hk3 with e | e | e
      · rw [e, if_neg (by decide), if_neg (by decide), if_neg (by decide)]
      · rw [e, if_neg (by decide), if_pos (show nI 1 = 1 from rfl), if_neg (by decide)]
      · rw [e, if_pos (show nI 2 = 2 from rfl), if_pos rfl]
    · rw [if_neg (by decide), z3, m_X11_micro_j86, nm, e3, if_neg (show ¬ nI 2 = 1 by decide), if_pos (show nI 2 = 2 from rfl)]
      rcases hk3 with e | e | e
      · rw [e, if_neg (by decide), if_neg (by decide), if_pos rfl]
      · rw [e, if_neg (by decide), if_pos (show nI 1 = 1 from rfl), if_neg (by decide)]
      · rw [e, if_pos (show nI 2 = 2 from rfl), if_neg (by decide)]
  · have wa : m_X12_within a2 0 2 = some 0 := wa
    refine go1 ?_ ?_
    · unfold pX_micro
      rw [m_X11_micro, if_neg d1, bd_ok hml, if_neg (nI_ge hlt (by omega))]
      by_cases c : a2 < 0
      · rw [if_pos c, bd_ok rfl]
      · obtain ⟨j, hj, rfl⟩ := nI_of c
        have := wb j hj rfl
        rw [if_neg c, if_neg (show ¬ nI j ≤ 2 from nI_ge (a := 2) (by omega) hj), bd_ok rfl]
    · unfold pM_micro
      rw [m_X12_micro, nm, if_neg d1, r774, r775, hsub, if_neg (nI_ge hlt (by omega)), bd_ok wa, if_pos rfl, no, bd_ok rfl]
