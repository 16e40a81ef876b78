/-! ===== heap ===== -/
set_option maxHeartbeats 1000000 in
theorem lr_heap {n : Nat} {S : LwS} (h : LR n S) (a1 a2 a3 a4 a5 : Int32) : ∃ T, sL_heap S a1 a2 a3 a4 a5 = some T ∧ LR (n + 1) T := by
  obtain ⟨mode, G, I, b1, b2, b3, b4⟩ := id h
  have h4 : upd (S.2.1 0) 4 0 4 = 0 := upd_eq
  have h41 : upd (upd (S.2.1 0) 4 0) 4 1 4 = 1 := upd_eq
  obtain ⟨⟨m, t, t1, t2, t3, t4⟩, c2, c3⟩ := id b3
  have m1 : upd (S.2.1 0) 4 0 14 = nI m := by rw [upd_ne (by decide)]; exact t3
  have no : m_X11_heap (S.1.1 0) (S.1.1 2) (S.1.1 3) (S.1.1 14) (S.1.1 76) (S.1.1 77) (S.1.1 1) (S.1.1 5) (S.1.1 6) (S.1.1 7) (S.1.1 8) (S.1.1 9) (S.1.1 10) (S.1.1 11) (S.1.1 12) (S.1.1 13) (S.1.1 17) (S.1.1 79) (S.1.1 80) (S.1.1 81) (S.1.1 82) (S.1.1 83) (S.1.1 84) (S.1.1 85) (S.1.1 86) (S.1.1 87) a1 = some (2, 0, S.1.1 0, S.1.1 2, S.1.1 3, S.1.1 14, S.1.1 76, S.1.1 77, S.1.1 5, S.1.1 6, S.1.1 7, S.1.1 8, S.1.1 9, S.1.1 10, S.1.1 11, S.1.1 12, S.1.1 13, S.1.1 17, S.1.1 79, S.1.1 84, S.1.1 85, S.1.1 86, false) → m_X12_heap (S.2.1 0) (S.2.1 1) (S.2.1 4) (S.2.1 5) (S.2.1 13) (S.2.1 14) a1 = some (0, upd (upd (S.2.1 0) 4 0) 4 1, S.2.1 1, S.2.1 4, S.2.1 13, S.2.1 14) → ∃ T, sL_heap S a1 a2 a3 a4 a5 = some T ∧ LR (n + 1) T := by
    intro e1 e2
    obtain ⟨o, ho⟩ := sh_1 (S := S) (a := 1) (b := 6) (K := 2) (x := 0) (y := 0) (C := ((upC (upC (upC (upC (upC (upC (upC (upC (upC (upC (upC (upC (upC (upC (upC (upC (upC (upC (upC (upC S.1.1 0 (S.1.1 0)) 2 (S.1.1 2)) 3 (S.1.1 3)) 14 (S.1.1 14)) 76 (S.1.1 76)) 77 (S.1.1 77)) 5 (S.1.1 5)) 6 (S.1.1 6)) 7 (S.1.1 7)) 8 (S.1.1 8)) 9 (S.1.1 9)) 10 (S.1.1 10)) 11 (S.1.1 11)) 12 (S.1.1 12)) 13 (S.1.1 13)) 17 (S.1.1 17)) 79 (S.1.1 79)) 84 (S.1.1 84)) 85 (S.1.1 85)) 86 (S.1.1 86)), S.1.2.1, S.1.2.2.1, S.1.2.2.2)) (M := (upC (upC (upC (upC (upC S.2.1 0 (upd (upd (S.2.1 0) 4 0) 4 1)) 1 (S.2.1 1)) 4 (S.2.1 4)) 13 (S.2.1 13)) 14 (S.2.1 14))) (r := pX_heap S.1 a1) (p := pM_heap S.2.1 a1) (by decide) (by
      unfold pX_heap
      rw [bd_ok e1]
      rfl) (by
      unfold pM_heap
      rw [bd_ok e2]) h41
    exact ⟨_, ho, lr_query h ⟨rfl, rfl, rfl, rfl, rfl, rfl, rfl, rfl, rfl, rfl, rfl, rfl, rfl, rfl⟩ ⟨rfl, rfl, rfl, rfl, rfl, rfl⟩ fq1 (fun _ _ => rfl) rfl rfl rfl rfl (by omega) (by omega)⟩
  by_cases cn : a1 < 0
  · refine no ?_ ?_
    · rw [m_X11_heap, if_pos cn]
    · rw [m_X12_heap, nm, if_pos cn, m_X12_heap_j22, m_X12_heap_j23, bd_ok (r_right0 h4 (by decide))]
      exact if_pos rfl
  obtain ⟨N, hN, rfl⟩ := nI_of cn
  by_cases cm : N ≤ m
  case neg =>
    refine no ?_ ?_
    · rw [m_X11_heap, if_neg cn, t2, if_neg (nI_ge (by omega) hN)]
    · rw [m_X12_heap, nm, if_neg cn, m1, if_pos (nI_lt (by omega) hN), m_X12_heap_j22, m_X12_heap_j23, bd_ok (r_right0 h4 (by decide))]
      exact if_pos rfl
  have hX : TX (fun k => if k < m then t k else 0) N (S.1.1 1) := by
    refine ⟨by omega, fun k hk => ?_, fun k => ?_⟩
    · show S.1.1 1 k = nI (if k < m then t k else 0)
      rw [if_pos (show k < m by omega)]; exact (t4 k (by omega)).1
    · by_cases e : k < m
      · show (if k < m then t k else 0) < 256
        rw [if_pos e]; exact (t4 k e).2.2
      · show (if k < m then t k else 0) < 256
        rw [if_neg e]; decide
  have hY : TX (fun k => if k < m then t k else 0) N (S.2.1 5) := by
    refine ⟨hX.1, fun k hk => ?_, hX.2.2⟩
    show S.2.1 5 k = nI (if k < m then t k else 0)
    rw [if_pos (show k < m by omega)]; exact (t4 k (by omega)).2.1
  have rP : m_X12_heap (S.2.1 0) (S.2.1 1) (S.2.1 4) (S.2.1 5) (S.2.1 13) (S.2.1 14) (nI N) = m_X12_heap_w39 (S.2.1 5) (nI N) (m_X12_heap_j58 (S.2.1 5) (nI N)) fuelN 0 (upd (upd (S.2.1 0) 4 0) 14 0) (S.2.1 1) (S.2.1 4) (S.2.1 13) (S.2.1 14) := by
    rw [m_X12_heap, nm, if_neg cn, m1, if_neg (nI_nlt cm (by omega)), m_X12_heap_j23, bd_ok (r_right1 h4)]
    dsimp only
    rw [if_neg (show ¬ (1 : Int32) = 0 by decide), nm]
  have xP : ∀ {r}, m_X6_readText (S.1.1 76) (S.1.1 77) (S.1.1 84) (S.1.1 85) (S.1.1 86) (S.1.1 79) (S.1.1 1) 700 (nI N) = some r → m_X11_heap (S.1.1 0) (S.1.1 2) (S.1.1 3) (S.1.1 14) (S.1.1 76) (S.1.1 77) (S.1.1 1) (S.1.1 5) (S.1.1 6) (S.1.1 7) (S.1.1 8) (S.1.1 9) (S.1.1 10) (S.1.1 11) (S.1.1 12) (S.1.1 13) (S.1.1 17) (S.1.1 79) (S.1.1 80) (S.1.1 81) (S.1.1 82) (S.1.1 83) (S.1.1 84) (S.1.1 85) (S.1.1 86) (S.1.1 87) (nI N) = (if r.1 = 0 then (bd (m_X0_renew (S.1.1 2) (S.1.1 3) (S.1.1 14) r.2.2.1 (S.1.1 5) (S.1.1 6) (S.1.1 7) (S.1.1 8) (S.1.1 9) (S.1.1 10) (S.1.1 11) (S.1.1 12) (S.1.1 13) r.2.2.2.2.2.2 (S.1.1 80) (S.1.1 81) (S.1.1 82) (S.1.1 83) r.2.2.2.1 r.2.2.2.2.1 r.2.2.2.2.2.1 (S.1.1 87)) fun u5 => some (0, 0, upd (upd (upd (S.1.1 0) 1 0) 2 (-1)) 5 0, u5.1, u5.2.1, u5.2.2.1, r.2.1, r.2.2.1, u5.2.2.2.1, u5.2.2.2.2.1, u5.2.2.2.2.2.1, u5.2.2.2.2.2.2.1, u5.2.2.2.2.2.2.2.1, u5.2.2.2.2.2.2.2.2.1, u5.2.2.2.2.2.2.2.2.2.1, u5.2.2.2.2.2.2.2.2.2.2.1, u5.2.2.2.2.2.2.2.2.2.2.2, S.1.1 17, r.2.2.2.2.2.2, r.2.2.2.1, r.2.2.2.2.1, r.2.2.2.2.2.1, true)) else some (0, r.1, upd (upd (S.1.1 0) 1 0) 2 (r.2.1 6), S.1.1 2, S.1.1 3, S.1.1 14, r.2.1, r.2.2.1, S.1.1 5, S.1.1 6, S.1.1 7, S.1.1 8, S.1.1 9, S.1.1 10, S.1.1 11, S.1.1 12, S.1.1 13, upd (S.1.1 17) 0 (S.1.1 17 0 + 1), r.2.2.2.2.2.2, r.2.2.2.1, r.2.2.2.2.1, r.2.2.2.2.2.1, true)) := by
    intro r hr
    rw [m_X11_heap, if_neg cn, t2, if_pos (nI_le cm (by omega)), nm, bd_ok hr, nm, cb_0, nm, nm, hp_rd0 (by decide) (by decide), hp_wr0 (by decide) (by decide)]
  have hfr : ∀ (Fr : Nat → Int32), (∀ j, j < 32 → ¬ j = 15 → Fr j = upd (upd (S.2.1 0) 4 0) 14 0 j) → (∀ j, 5 ≤ j → j ≤ 13 → Fr j = S.2.1 0 j) ∧ Fr 4 = 0 ∧ Fr 14 = 0 := fun Fr hF => ⟨fun j p q => by rw [hF j (by omega) (by omega), upd_ne (by omega), upd_ne (by omega)], (hF 4 (by decide) (by decide)).trans rfl, (hF 14 (by decide) (by decide)).trans rfl⟩
  have b4' : S.2.2.2.1 + 1 ≤ 107 + 11 * (n + 1) + 11 * cnt40 S.1.2.1 + imC S.1.2.2.1 ∧ S.2.2.2.2 + 6 ≤ 72827 + 432 * (n + 1) + 432 * cnt40 S.1.2.1 + imS S.1.2.2.1 := by
    obtain ⟨l1, l2⟩ := b4
    omega
  rcases hp_text (Fc := S.1.1 76) (T := S.1.1 77) (be := S.1.1 84) (af := S.1.1 85) (wa := S.1.1 86) (md := S.1.1 79) (F := upd (upd (S.2.1 0) 4 0) 14 0) (rows := S.2.1 1) (rf := S.2.1 4) (mem := S.2.1 13) (wt := S.2.1 14) hX hY with ⟨q, Fc, T, wa, md, Fr, mem, wt, x1, x2, x3, x4, x5, x6, x7, x8, x9⟩ | ⟨c, s, Fc, T, wa, md, Fr, mem, wt, d1, d2, x1, x2, x3, x4, x8, x9⟩
  · obtain ⟨f, o, md1, td, dt, ch, W⟩ := q
    obtain ⟨e1, e2, e3⟩ := hfr Fr x9
    have hW : W.length ≤ 12 ∧ ∀ ops ∈ W, ops.length ≤ 4 ∧ ∀ o ∈ ops, opOK o := by
      refine ⟨x4.2.2.2.2.2.2.1.2.1, fun ops ho => ?_⟩
      obtain ⟨i, hi⟩ := List.mem_iff_getElem?.mp ho
      have := x4.2.2.2.2.2.2.1.2.2 i ops hi
      exact ⟨this.1, this.2.1⟩
    have hRD : RDm T (S.1.1 81) (S.1.1 82) (S.1.1 87) := by
      obtain ⟨g1, g2, g3, g4⟩ := c3
      exact ⟨(x8 2 (by decide)).trans g1, (x8 3 (by decide)).trans g2, (x8 8 (by decide)).trans g3, g4⟩
    have hV : VM md1 (txA f o W) := VM_tx x3.1 x3.2.2.1 hW
    obtain ⟨R, k1, k2⟩ := c_copyFrom (F' := S.1.1 3) (md' := S.1.1 5) (st' := S.1.1 6) (hd' := S.1.1 7) (ak' := S.1.1 8) (mi' := S.1.1 9) (be' := S.1.1 10) (af' := S.1.1 11) (wa' := S.1.1 12) (ta' := S.1.1 13) hV (CM_tx (be := S.1.1 84) (af := S.1.1 85) (st := S.1.1 80) (mi := S.1.1 83) x4 hRD)
    obtain ⟨r, F', f1, f5, f6, f7, f11, f12, fo, fR⟩ := hp_fin (tp := S.2.1 5) (rows := S.2.1 1) (rf := S.2.1 4) (p := nI N) x5 x6 hW.1
    obtain ⟨oo, ho⟩ := sh_0 (S := S) (a := 1) (b := 6) (K := 2) (x := 0) (C := ((upC (upC (upC (upC (upC (upC (upC (upC (upC (upC (upC (upC (upC (upC (upC (upC (upC (upC (upC (upC S.1.1 0 (upd (upd (upd (S.1.1 0) 1 0) 2 (-1)) 5 0)) 2 (upd (S.1.1 2) 3 0)) 3 R.1) 14 (upd (S.1.1 14) 2 0)) 76 Fc) 77 T) 5 R.2.1) 6 R.2.2.1) 7 R.2.2.2.1) 8 R.2.2.2.2.1) 9 R.2.2.2.2.2.1) 10 R.2.2.2.2.2.2.1) 11 R.2.2.2.2.2.2.2.1) 12 R.2.2.2.2.2.2.2.2.1) 13 R.2.2.2.2.2.2.2.2.2) 17 (S.1.1 17)) 79 md) 84 (va_cpy md (S.1.1 84) 20 0 44)) 85 (va_cpy md (S.1.1 85) 20 0 44)) 86 wa), S.1.2.1, S.1.2.2.1, true)) (M := (upC (upC (upC (upC (upC S.2.1 0 F') 1 r) 4 (S.2.1 4)) 13 mem) 14 wt)) (r := pX_heap S.1 (nI N)) (p := pM_heap S.2.1 (nI N)) (by
      unfold pX_heap
      rw [xP x1]
      dsimp only
      rw [if_pos rfl, m_X0_renew, bd_ok k1, nm, nm, bd_ok rfl, bd_ok rfl]
      rfl) (by
      unfold pM_heap
      rw [rP, x2, bd_ok f1]) ((fo 4 (by decide)).trans e2)
    refine ⟨_, ho, md1, (txA f o W, [], [], G.2.2.2), none, ⟨x3.2.2.2.1, ⟨hV, fun B hB => (by cases hB), (by decide : 0 ≤ 8), fun q hq => (by cases hq)⟩, ⟨k2, ?_, ⟨rfl, fun k q hk => (by cases hk)⟩, b1.2.2.1.2.2.2⟩, ⟨fR, ⟨0, by decide, f6, f5, (by decide : 0 ≤ 40), fun i B hB => (by cases hB)⟩, ⟨f7, fun k q hk => (by cases hk)⟩, b1.2.2.2.1.2.2.2⟩, f12⟩, ⟨rfl, f11, fun J hJ => (by cases hJ)⟩, ⟨⟨0, fun _ => 0, by decide, rfl, (fo 14 (by decide)).trans e3, fun k hk => absurd hk (Nat.not_lt_zero k)⟩, ((fo 15 (by decide)).trans x7).symm, hRD⟩, b4'⟩
    obtain ⟨fi, g1, g2, g3⟩ := b1.2.2.1.2.1
    exact ⟨fi, g1, g2, rfl, (by decide : 0 ≤ 40), fun i B hB => (by cases hB)⟩
  · obtain ⟨e1, e2, e3⟩ := hfr Fr x9
    have n38 : ¬ Fr 38 = 0 := by rw [x4.1]; exact nI_ne0 (by omega) (by omega)
    have hRD : RDm T (S.1.1 81) (S.1.1 82) (S.1.1 87) := by
      obtain ⟨g1, g2, g3, g4⟩ := c3
      exact ⟨(x8 2 (by decide)).trans g1, (x8 3 (by decide)).trans g2, (x8 8 (by decide)).trans g3, g4⟩
    obtain ⟨oo, ho⟩ := sh_0 (S := S) (a := 1) (b := 6) (K := 2) (x := nI c) (C := ((upC (upC (upC (upC (upC (upC (upC (upC (upC (upC (upC (upC (upC (upC (upC (upC (upC (upC (upC (upC S.1.1 0 (upd (upd (S.1.1 0) 1 0) 2 (Fc 6))) 2 (S.1.1 2)) 3 (S.1.1 3)) 14 (S.1.1 14)) 76 Fc) 77 T) 5 (S.1.1 5)) 6 (S.1.1 6)) 7 (S.1.1 7)) 8 (S.1.1 8)) 9 (S.1.1 9)) 10 (S.1.1 10)) 11 (S.1.1 11)) 12 (S.1.1 12)) 13 (S.1.1 13)) 17 (upd (S.1.1 17) 0 (S.1.1 17 0 + 1))) 79 md) 84 (S.1.1 84)) 85 (S.1.1 85)) 86 wa), S.1.2.1, S.1.2.2.1, true)) (M := (upC (upC (upC (upC (upC S.2.1 0 Fr) 1 (S.2.1 1)) 4 (upd (S.2.1 4) 0 (S.2.1 4 0 + 1))) 13 mem) 14 wt)) (r := pX_heap S.1 (nI N)) (p := pM_heap S.2.1 (nI N)) (by
      unfold pX_heap
      rw [xP x1]
      dsimp only
      rw [if_neg (nI_ne0 (by omega) (by omega)), bd_ok rfl]
      rfl) (by
      unfold pM_heap
      rw [rP, x2, m_X12_heap_j158, if_neg n38, hp_rd0 (by decide) (by decide), hp_wr0 (by decide) (by decide), x4.1, bd_ok rfl]) e2
    obtain ⟨l1, l2, l3, l4, l5⟩ := id b1
    obtain ⟨p1, p2, p3, p4⟩ := l3
    obtain ⟨q1, q2, q3, q4⟩ := l4
    refine ⟨_, ho, mode, (G.1, G.2.1, G.2.2.1, upd G.2.2.2 0 (G.2.2.2 0 + 1)), I, ⟨l1, l2, ⟨p1, p2, p3, fun k hk => ?_⟩, ?_, (e1 12 (by decide) (by decide)).trans l5⟩, LI_fr b2 rfl rfl (fun j p q => e1 j (by omega) (by omega)) (fun _ _ => rfl) (fun _ _ => rfl) (fun _ _ => rfl) (fun k hk => upd_ne (by omega)), ⟨⟨0, fun _ => 0, by decide, rfl, e3, fun k hk => absurd hk (Nat.not_lt_zero k)⟩, x3.trans x4.2.symm, hRD⟩, b4'⟩
    · show upd (S.1.1 17) 0 (S.1.1 17 0 + 1) k = upd G.2.2.2 0 (G.2.2.2 0 + 1) k
      have p40 : S.1.1 17 0 = G.2.2.2 0 := p4 0 (by decide)
      by_cases e : k = 0
      · rw [e, upd_eq, upd_eq, p40]
      · rw [upd_ne e, upd_ne e]; exact p4 k hk
    · show RG (S.2.1 1) (S.2.1 2) (S.2.1 3) (upd (S.2.1 4) 0 (S.2.1 4 0 + 1)) 0 2358 0 0 (Fr 5) (Fr 6) (Fr 7) (G.1, G.2.1, G.2.2.1, upd G.2.2.2 0 (G.2.2.2 0 + 1))
      rw [e1 5 (by decide) (by decide), e1 6 (by decide) (by decide), e1 7 (by decide) (by decide)]
      refine ⟨q1, q2, q3, fun k hk => ?_⟩
      show upd (S.2.1 4) 0 (S.2.1 4 0 + 1) (0 + k) = upd G.2.2.2 0 (G.2.2.2 0 + 1) k
      have q40 : S.2.1 4 0 = G.2.2.2 0 := q4 0 (by decide)
      rw [Nat.zero_add]
      by_cases e : k = 0
      · rw [e, upd_eq, upd_eq, q40]
      · rw [upd_ne e, upd_ne e]
        have := q4 k hk
        rw [Nat.zero_add] at this
        exact this
