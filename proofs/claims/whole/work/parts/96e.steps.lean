/-! ===== a new state ===== -/
theorem lr_new {n : Nat} {S : LwS} {mode : Nat} {G G' : GS} {I : Option GS} {C : CS} {M : Nat → Nat → Int32} {o : Nat → Int64} {x y : Nat} (b1 : LX S mode G) (b2 : LI S mode I) (b3 : LT S) (b4 : LB n S) (hVG : VG mode G') (hCG : CG (allOf C) mode G') (hRG : RG (M 1) (M 2) (M 3) (M 4) 0 2358 0 0 (M 0 5) (M 0 6) (M 0 7) G') (hk : keyT C.1 S.1.1) (him : C.2.2.1 = S.1.2.2.1) (hcnt : cnt40 S.1.2.1 ≤ cnt40 C.2.1) (hF : ∀ j, 8 ≤ j → j ≤ 15 → M 0 j = S.2.1 0 j) (hr : ∀ j, 33798 ≤ j → M 1 j = S.2.1 1 j) (hw : ∀ k, 8 ≤ k → M 2 k = S.2.1 2 k) (hn : ∀ k, 8 ≤ k → M 3 k = S.2.1 3 k) (he : ∀ k, 3 ≤ k → M 4 k = S.2.1 4 k) (h5 : M 5 = S.2.1 5) (hx : x ≤ S.2.2.2.1 + 11) (hy : y ≤ S.2.2.2.2 + 432) : LR (n + 1) (C, M, o, x, y) := by
  obtain ⟨a4, a5⟩ := b4
  refine ⟨mode, G', I, ⟨b1.1, hVG, hCG, hRG, (hF 12 (by decide) (by decide)).trans b1.2.2.2.2⟩, LI_fr b2 (congrFun hk.1 5) him (fun j p q => hF j p (by omega)) hr hw hn he, LT_fr b3 hk (hF 14 (by decide) (by decide)) (hF 15 (by decide) (by decide)) h5, ?_, ?_⟩
  · show x ≤ 107 + 11 * (n + 1) + 11 * cnt40 C.2.1 + imC C.2.2.1
    rw [him]; omega
  · show y ≤ 72827 + 432 * (n + 1) + 432 * cnt40 C.2.1 + imS C.2.2.1
    rw [him]; omega
theorem VG_push {mode : Nat} {G : GS} {A : MA} {re : Nat → Int32} (hV : VG mode G) (hA : VM mode A) : VG mode (A, pushH G.2.1 G.1, G.2.2.1, re) := by
  refine ⟨hA, fun B hB => ?_, hV.2.2⟩
  have hB : B ∈ pushH G.2.1 G.1 := hB
  unfold pushH at hB
  by_cases c : G.2.1.length = 40
  · rw [if_pos c] at hB
    rcases List.mem_append.mp hB with h | h
    · exact hV.2.1 B (List.mem_of_mem_tail h)
    · rw [List.mem_singleton.mp h]; exact hV.1
  · rw [if_neg c] at hB
    rcases List.mem_append.mp hB with h | h
    · exact hV.2.1 B h
    · rw [List.mem_singleton.mp h]; exact hV.1
/-- an act is done -/
theorem lr_act {n : Nat} {S : LwS} {mode : Nat} {G : GS} {I : Option GS} {A : MA} {c : Nat → Nat → Int32} {hs : Nat → Option MSt} {bt : Bool} {M : Nat → Nat → Int32} {o : Nat → Int64} {x y : Nat} (b1 : LX S mode G) (b2 : LI S mode I) (b3 : LT S) (b4 : LB n S) (hA : VM mode A) (hCM : CM (c 3) (c 5) (c 6) (c 7) (c 8) (c 9) (c 10) (c 11) (c 12) (c 13) mode A) (hCH : CH (c 14) hs mode (pushH G.2.1 G.1)) (c2 : c 2 = S.1.1 2) (c16 : c 16 = S.1.1 16) (c17 : c 17 = S.1.1 17) (hk : keyT c S.1.1) (hcnt : cnt40 S.1.2.1 ≤ cnt40 hs) (hRM : RM (M 1) 0 A) (hRH : RH (M 0 6) (M 0 5) (M 1) 2358 (pushH G.2.1 G.1)) (hF : ∀ j, 7 ≤ j → j ≤ 15 → M 0 j = S.2.1 0 j) (hr : ∀ j, 33798 ≤ j → M 1 j = S.2.1 1 j) (hw : M 2 = S.2.1 2) (hn : M 3 = S.2.1 3) (he : M 4 = S.2.1 4) (h5 : M 5 = S.2.1 5) (hx : x ≤ S.2.2.2.1 + 11) (hy : y ≤ S.2.2.2.2 + 432) : LR (n + 1) ((c, hs, S.1.2.2.1, bt), M, o, x, y) := by
  obtain ⟨-, -, g3, g4⟩ := b1.2.2.1
  obtain ⟨-, -, r3, r4⟩ := b1.2.2.2.1
  refine lr_new (G' := (A, pushH G.2.1 G.1, G.2.2.1, G.2.2.2)) b1 b2 b3 b4 (VG_push b1.2.1 hA) ⟨hCM, hCH, ?_, fun k hk => ?_⟩ ⟨hRM, hRH, ?_, fun k hk => ?_⟩ hk rfl hcnt (fun j p q => hF j (by omega) q) hr (fun k _ => by rw [hw]) (fun k _ => by rw [hn]) (fun k _ => by rw [he]) h5 hx hy
  · show CSn (c 2 3) (c 16) G.2.2.1
    rw [c2, c16]; exact g3
  · show c 17 k = _
    rw [c17]; exact g4 k hk
  · rw [hF 7 (by decide) (by decide), hw, hn]; exact r3
  · rw [he]; exact r4 k hk
/-- an act is refused -/
theorem lr_refuse {n : Nat} {S : LwS} {c : Nat → Nat → Int32} {bt : Bool} {M : Nat → Nat → Int32} {o : Nat → Int64} {x y k : Nat} (h : LR n S) (hk3 : k < 3) (hc : c 2 = S.1.1 2 ∧ c 3 = S.1.1 3 ∧ c 5 = S.1.1 5 ∧ c 6 = S.1.1 6 ∧ c 7 = S.1.1 7 ∧ c 8 = S.1.1 8 ∧ c 9 = S.1.1 9 ∧ c 10 = S.1.1 10 ∧ c 11 = S.1.1 11 ∧ c 12 = S.1.1 12 ∧ c 13 = S.1.1 13 ∧ c 14 = S.1.1 14 ∧ c 16 = S.1.1 16) (c17 : c 17 = upd (S.1.1 17) k (S.1.1 17 k + 1)) (hk : keyT c S.1.1) (hF : ∀ j, 5 ≤ j → j ≤ 15 → M 0 j = S.2.1 0 j) (hr : ∀ j, j < 786 ∨ 2358 ≤ j → M 1 j = S.2.1 1 j) (hw : M 2 = S.2.1 2) (hn : M 3 = S.2.1 3) (he : M 4 = upd (S.2.1 4) k (S.2.1 4 k + 1)) (h5 : M 5 = S.2.1 5) (hx : x ≤ S.2.2.2.1 + 11) (hy : y ≤ S.2.2.2.2 + 432) : LR (n + 1) ((c, S.1.2.1, S.1.2.2.1, bt), M, o, x, y) := by
  obtain ⟨mode, G, I, b1, b2, b3, b4⟩ := h
  obtain ⟨g1, g2, g3, g4⟩ := b1.2.2.1
  obtain ⟨r1, r2, r3, r4⟩ := b1.2.2.2.1
  obtain ⟨e2, e3, e5, e6, e7, e8, e9, e10, e11, e12, e13, e14, e16⟩ := hc
  refine lr_new (G' := (G.1, G.2.1, G.2.2.1, upd G.2.2.2 k (G.2.2.2 k + 1))) b1 b2 b3 b4 b1.2.1 ⟨?_, ?_, ?_, fun j hj => ?_⟩ ⟨RM_move b1.2.1.1 (fun j hj => hr _ (by omega)) r1, ?_, ?_, fun j hj => ?_⟩ hk rfl (Nat.le_refl _) (fun j p q => hF j (by omega) q) (fun j hj => hr j (by omega)) (fun k _ => by rw [hw]) (fun k _ => by rw [hn]) (fun j hj => by rw [he, upd_ne (by omega)]) h5 hx hy
  · show CM (c 3) (c 5) (c 6) (c 7) (c 8) (c 9) (c 10) (c 11) (c 12) (c 13) mode G.1
    rw [e3, e5, e6, e7, e8, e9, e10, e11, e12, e13]; exact g1
  · show CH (c 14) S.1.2.1 mode G.2.1
    rw [e14]; exact g2
  · show CSn (c 2 3) (c 16) G.2.2.1
    rw [e2, e16]; exact g3
  · show c 17 j = upd G.2.2.2 k (G.2.2.2 k + 1) j
    have g4' : ∀ j, j < 3 → S.1.1 17 j = G.2.2.2 j := g4
    rw [c17]
    by_cases e : j = k
    · rw [e, upd_eq, upd_eq, g4' k hk3]
    · rw [upd_ne e, upd_ne e]; exact g4' j hj
  · rw [hF 6 (by decide) (by decide), hF 5 (by decide) (by decide)]
    exact RH_fr b1.2.1.2.1 (fun j hj => hr _ (by omega)) r2
  · rw [hF 7 (by decide) (by decide), hw, hn]; exact r3
  · show M 4 (0 + j) = upd G.2.2.2 k (G.2.2.2 k + 1) j
    have r4' : ∀ j, j < 3 → S.2.1 4 j = G.2.2.2 j := fun j hj => by have := r4 j hj; rw [Nat.zero_add] at this; exact this
    rw [he, Nat.zero_add]
    by_cases e : j = k
    · rw [e, upd_eq, upd_eq, r4' k hk3]
    · rw [upd_ne e, upd_ne e]; exact r4' j hj
theorem c_refuse {re : Nat → Int32} : m_X11_refuseAct re = some (-1, upd re 1 (re 1 + 1)) := by
  rw [m_X11_refuseAct, show rd re 3 1 _ = rd re 3 (nI 1) _ from rfl, rd_nI (by decide) (by decide), show wr re 3 1 _ _ = wr re 3 (nI 1) _ _ from rfl, wr_nI (by decide) (by decide)]
theorem r_refuse {re : Nat → Int32} {k : Nat} (hk : k < 6) : m_X12_refuses re (nI k) = some (-1, upd re k (re k + 1)) := by
  rw [m_X12_refuses, rd_nI hk (by decide), wr_nI hk (by decide)]
/-! evictions -/
def evA (l m : Nat) (A : MA) : MA := (reachA (gX A) l m, gM A, gW A, gS A, gO A, gT A, gB A, gA A)
theorem VM_ev {mode l m : Nat} {A : MA} (hV : VM mode A) (hl : l < 16) (hm : m ≤ ((gX A).2.1 l).length) (h0 : 0 < ((gX A).2.1 l).length) : VM mode (evA l m A) := by
  obtain ⟨v1, v2, v3, v4, v5, v6, v7, v8, v9, v10, v11⟩ := hV
  have hs : ¬ gS A = 1 := fun e => by rw [(v6 e).2 l hl] at h0; exact absurd h0 (Nat.lt_irrefl 0)
  refine ⟨VC_reach v1 hl hm, v2, v3, v4, v5, fun e => absurd e hs, v7, fun _ k hk => ?_, fun e => absurd e hs, v10, v11⟩
  show finW (gM A) (wordA (reachA (gX A) l m)) (20 + k) = gA A k
  rw [finW_congr _ _ _ (fun w => word_reach v1 hl)]
  exact v8 hs k hk
theorem c_ev {F md st hd ak mi be af wa ta : Nat → Int32} {mode l m : Nat} {A : MA} (h : CM F md st hd ak mi be af wa ta mode A) (hV : VM mode A) (hl : l < 16) (hm : m ≤ ((gX A).2.1 l).length) : ∃ R, m_X1_reach md st hd ak (nI l) (nI m) = some R ∧ R.2.2.1 l = nI (((gX A).2.1 l).length - m) ∧ CM F R.1 R.2.1 R.2.2.1 R.2.2.2 mi be af wa ta mode (evA l m A) := by
  obtain ⟨R, r1, r2⟩ := c_reach h.1 hV.1 hl hm
  refine ⟨R, r1, ?_, r2, h.2⟩
  rw [r2.2.1 l hl]
  show nI (if l = l then ((gX A).2.1 l).drop m else (gX A).2.1 l).length = _
  rw [if_pos rfl, List.length_drop]
theorem r_ev {rows : Nat → Int32} {b mode l m : Nat} {A : MA} (hR : RM rows b A) (hV : VM mode A) (hl : l < 16) (hm : m ≤ ((gX A).2.1 l).length) (hb : b + 786 ≤ 66100) : ∃ r, m_X12_reaches rows (nI b) (nI l) (nI m) = some r ∧ RM r b (evA l m A) ∧ r (b + 64 + l) = nI (((gX A).2.1 l).length - m) ∧ frR r rows b := by
  obtain ⟨k1, k2, k3, k4, k5, k6, k7, k8, k9⟩ := hR
  obtain ⟨r, r1, r2, r3⟩ := r_reaches k1 hV.1 hl hm hb
  refine ⟨r, r1, ⟨r2, RMm_fr (fun j g1 g2 => r3 j (by omega)) (r3 _ (by omega)) (r3 _ (by omega)) k2, RMw_fr (fun j g1 g2 => r3 j (by omega)) (r3 _ (by omega)) k3, (r3 _ (by omega)).trans k4, (r3 _ (by omega)).trans k5, (r3 _ (by omega)).trans k6, fun k hk => (r3 _ (by omega)).trans (k7 k hk), ⟨fun e k hk => (r3 _ (by omega)).trans (k8 e k hk), fun e e2 k hk => (r3 _ (by omega)).trans (k9 e e2 k hk)⟩⟩, ?_, fun j hj => r3 j (by omega)⟩
  rw [r2.2.1 l hl]
  show nI (if l = l then ((gX A).2.1 l).drop m else (gX A).2.1 l).length = _
  rw [if_pos rfl, List.length_drop]
theorem lr_steps {n : Nat} {S : LwS} (h : LR n S) (a1 a2 a3 a4 a5 : Int32) : ∃ T, sL_steps S a1 a2 a3 a4 a5 = some T ∧ LR (n + 1) T := by
  obtain ⟨mode, G, I, b1, b2, b3, b4⟩ := id h
  have hC := LX_cm b1
  have hV := b1.2.1.1
  have hR : RM (S.2.1 1) 0 G.1 := b1.2.2.2.1.1
  have hm2 := b1.1
  have hF : S.2.1 0 12 = nI mode := b1.2.2.2.2
  have h4 : upd (S.2.1 0) 4 0 4 = 0 := upd_eq
  have h41 : upd (upd (S.2.1 0) 4 0) 4 1 4 = 1 := upd_eq
  have hF1 : upd (S.2.1 0) 4 0 12 = nI mode := by rw [upd_ne (by decide)]; exact hF
  have rf : m_X12_refuses (S.2.1 4) 1 = some (-1, upd (S.2.1 4) 1 (S.2.1 4 1 + 1)) := r_refuse (k := 1) (by decide)
  have out : ∀ (c : Nat → Nat → Int32) (M : Nat → Nat → Int32), pX_steps S.1 a1 = some (-1, (c, S.1.2.1, S.1.2.2.1, S.1.2.2.2)) → pM_steps S.2.1 a1 = some (-1, M) → LR (n + 1) ((c, S.1.2.1, S.1.2.2.1, S.1.2.2.2), M, S.2.2.1, S.2.2.2.1 + 11, S.2.2.2.2 + 432) → ∃ T, sL_steps S a1 a2 a3 a4 a5 = some T ∧ LR (n + 1) T := by
    intro c M e1 e2 e3
    refine ⟨_, ?_, e3⟩
    unfold sL_steps
    rw [bd_ok e1, bd_ok e2, if_pos rfl]
  rcases r_withinX (x := a1) (lo := 1) (hi := 50) (by decide) (by decide) with ⟨wa, j, rfl, w1, w2⟩ | ⟨wa, wb⟩
  · have wa : m_X12_within (nI j) 1 50 = some 1 := wa
    obtain ⟨t, t1, t2, t3⟩ := r_tries hR hV
    obtain ⟨F', r, w', ad', nu', g1, g2, g3, g4⟩ := r_goes (F := upd (S.2.1 0) 4 0) (w := S.2.1 6) (ad := S.2.1 7) (nu := S.2.1 8) (b := 786) (many := j) hm2 (by decide) (by omega) t2 hV hF1
    have g1 : m_X12_goes (upd (S.2.1 0) 4 0) t (S.2.1 6) (S.2.1 7) (S.2.1 8) 786 (nI j) = _ := g1
    obtain ⟨P', sh', wd', add', nud', old', q1⟩ := c_canStep (P := S.1.1 18) (sh := S.1.1 23) (w := S.1.1 19) (ad := S.1.1 20) (nu := S.1.1 21) (ol := S.1.1 22) hC hV
    have hfrq : ∀ j, j < 786 ∨ 2358 ≤ j → r j = S.2.1 1 j := fun j hj => (g4 j (by omega)).trans (t3 j (by omega))
    have hFq : ∀ j, 5 ≤ j → j ≤ 15 → F' j = S.2.1 0 j := fun j p q => (g3 j (by omega)).trans (fq0 j p q)
    cases hst : (stepA mode G.1).2 with
    | false =>
      have h0 : (goA mode j G.1).2 = 0 := (goA_0 (by omega)).mpr hst
      rw [hst] at q1
      rw [h0] at g1
      refine out _ _ ?_ ?_ (lr_refuse (k := 1) (c := upC (upC (upC (upC (upC (upC (upC (upC (upC (upC (upC (upC (upC (upC (upC (upC (upC (upC S.1.1 3 (S.1.1 3)) 14 (S.1.1 14)) 18 P') 23 sh') 5 (S.1.1 5)) 6 (S.1.1 6)) 7 (S.1.1 7)) 8 (S.1.1 8)) 9 (S.1.1 9)) 10 (S.1.1 10)) 11 (S.1.1 11)) 12 (S.1.1 12)) 13 (S.1.1 13)) 17 (upd (S.1.1 17) 1 (S.1.1 17 1 + 1))) 19 wd') 20 add') 21 nud') 22 old') (M := upC (upC (upC (upC (upC (upC S.2.1 0 F') 1 r) 4 (upd (S.2.1 4) 1 (S.2.1 4 1 + 1))) 6 w') 7 ad') 8 nu') h (by decide) ⟨rfl, rfl, rfl, rfl, rfl, rfl, rfl, rfl, rfl, rfl, rfl, rfl, rfl⟩ rfl ⟨rfl, rfl, rfl, rfl, rfl, rfl⟩ hFq hfrq rfl rfl rfl rfl (by omega) (by omega))
      · unfold pX_steps
        rw [m_X11_steps, if_neg (show ¬ nI j < 1 from nI_nlt (b := 1) w1 (by omega)), if_neg (show ¬ (50 : Int32) < nI j from nI_nlt (a := 50) w2 (by omega)), bd_ok q1]
        dsimp only
        rw [if_pos (show nI (bN false) = 0 from rfl), m_X11_steps_j30, bd_ok c_refuse, bd_ok rfl]
      · unfold pM_steps
        rw [m_X12_steps, nm, bd_ok wa, if_neg (by decide), bd_ok t1, bd_ok g1]
        dsimp only
        rw [if_pos (show nI 0 = 0 from rfl), m_X12_steps_j44, m_X12_isDone, if_pos rfl, bd_ok rf, bd_ok rfl, bd_ok rfl]
    | true =>
      have h0 : ¬ (goA mode j G.1).2 = 0 := fun e => by rw [(goA_0 (by omega)).mp e] at hst; cases hst
      have hle := goA_le (mode := mode) j G.1
      rw [hst] at q1
      obtain ⟨Fh', hs', k1, k2, k3⟩ := cq_keep (T := (S.1.1 3, S.1.1 5, S.1.1 6, S.1.1 7, S.1.1 8, S.1.1 9, S.1.1 10, S.1.1 11, S.1.1 12, S.1.1 13)) b1.2.2.1.2.1 hV hC
      have k1 : m_keep (S.1.1 14) S.1.2.1 (S.1.1 3, S.1.1 5, S.1.1 6, S.1.1 7, S.1.1 8, S.1.1 9, S.1.1 10, S.1.1 11, S.1.1 12, S.1.1 13) = some (Fh', hs') := k1
      obtain ⟨m3, P2, sh2, m5, m6, m7, m8, m9, m10, m11, m12, m13, w2', ad2, nu2, ol2, s1, s2⟩ := c_steps_loop (Fh := Fh') (re := S.1.1 17) (hs := hs') hm2 (show j < 1000 by omega) j 0 fuelN G.1 (S.1.1 3) P' sh' (S.1.1 5) (S.1.1 6) (S.1.1 7) (S.1.1 8) (S.1.1 9) (S.1.1 10) (S.1.1 11) (S.1.1 12) (S.1.1 13) wd' add' nud' old' (by omega) (by rw [fuel_is]; omega) hC hV
      rw [Nat.zero_add] at s1
      have s1 : m_X11_steps_w48 (nI j) fuelN 0 (S.1.1 3) Fh' P' sh' (S.1.1 5) (S.1.1 6) (S.1.1 7) (S.1.1 8) (S.1.1 9) (S.1.1 10) (S.1.1 11) (S.1.1 12) (S.1.1 13) (S.1.1 17) wd' add' nud' old' hs' = _ := s1
      have hRH' : RH (F' 6) (F' 5) r 2358 G.2.1 := by
        rw [hFq 6 (by decide) (by decide), hFq 5 (by decide) (by decide)]
        exact RH_fr b1.2.1.2.1 (fun i hi => hfrq _ (by omega)) b1.2.2.2.1.2.1
      obtain ⟨F2, r2, d1, d2, d3, d4, d5⟩ := r_isDone (re := S.2.1 4) (x := nI (goA mode j G.1).2) (mode := mode) (fun e => by
        have h1 := congrArg Int32.toInt e
        rw [nI_toInt (by omega)] at h1
        have h2 : (-1 : Int32).toInt = -1 := by decide
        omega) hRH' b1.2.1.2.1 hV (VM_go j G.1 hV) (RM_move hV (fun i hi => hfrq _ (by omega)) hR) g2
      refine ⟨_, ?_, lr_act (A := (goA mode j G.1).1) (c := upC (upC (upC (upC (upC (upC (upC (upC (upC (upC (upC (upC (upC (upC (upC (upC (upC (upC S.1.1 3 m3) 14 Fh') 18 P2) 23 sh2) 5 m5) 6 m6) 7 m7) 8 m8) 9 m9) 10 m10) 11 m11) 12 m12) 13 m13) 17 (S.1.1 17)) 19 w2') 20 ad2) 21 nu2) 22 ol2) (hs := hs') (bt := S.1.2.2.2) (M := upC (upC (upC (upC (upC (upC S.2.1 0 F2) 1 r2) 4 (S.2.1 4)) 6 w') 7 ad') 8 nu') (o := S.2.2.1) (x := S.2.2.2.1 + 11) (y := S.2.2.2.2 + 432) b1 b2 b3 b4 (VM_go j G.1 hV) s2 k2 rfl rfl rfl ⟨rfl, rfl, rfl, rfl, rfl, rfl⟩ k3 d2 d3 (fun i p q => (d4 i (by omega) (by omega)).trans (hFq i (by omega) q)) (fun i hi => (d5 i hi).trans (hfrq i (by omega))) rfl rfl rfl rfl (by omega) (by omega)⟩
      unfold sL_steps
      have e1 : pX_steps S.1 (nI j) = some (nI (goA mode j G.1).2, (upC (upC (upC (upC (upC (upC (upC (upC (upC (upC (upC (upC (upC (upC (upC (upC (upC (upC S.1.1 3 m3) 14 Fh') 18 P2) 23 sh2) 5 m5) 6 m6) 7 m7) 8 m8) 9 m9) 10 m10) 11 m11) 12 m12) 13 m13) 17 (S.1.1 17)) 19 w2') 20 ad2) 21 nu2) 22 ol2, hs', S.1.2.2.1, S.1.2.2.2)) := by
        unfold pX_steps
        rw [m_X11_steps, if_neg (show ¬ nI j < 1 from nI_nlt (b := 1) w1 (by omega)), if_neg (show ¬ (50 : Int32) < nI j from nI_nlt (a := 50) w2 (by omega)), bd_ok q1]
        dsimp only
        rw [if_neg (show ¬ nI (bN true) = 0 by decide), bd_ok k1]
        dsimp only
        rw [s1, bd_ok rfl]
      have e2 : pM_steps S.2.1 (nI j) = some (nI (goA mode j G.1).2, upC (upC (upC (upC (upC (upC S.2.1 0 F2) 1 r2) 4 (S.2.1 4)) 6 w') 7 ad') 8 nu') := by
        unfold pM_steps
        rw [m_X12_steps, nm, bd_ok wa, if_neg (by decide), bd_ok t1, bd_ok g1]
        dsimp only
        rw [if_neg (show ¬ nI (goA mode j G.1).2 = 0 from nI_ne0 (by omega) (by omega)), m_X12_steps_j44, bd_ok d1, bd_ok rfl]
      rw [bd_ok e1, bd_ok e2, if_pos rfl]
  · have wa : m_X12_within a1 1 50 = some 0 := wa
    refine out _ _ ?_ ?_ (lr_refuse (k := 1) (c := upC (upC (upC (upC (upC (upC (upC (upC (upC (upC (upC (upC (upC (upC (upC (upC (upC (upC S.1.1 3 (S.1.1 3)) 14 (S.1.1 14)) 18 (S.1.1 18)) 23 (S.1.1 23)) 5 (S.1.1 5)) 6 (S.1.1 6)) 7 (S.1.1 7)) 8 (S.1.1 8)) 9 (S.1.1 9)) 10 (S.1.1 10)) 11 (S.1.1 11)) 12 (S.1.1 12)) 13 (S.1.1 13)) 17 (upd (S.1.1 17) 1 (S.1.1 17 1 + 1))) 19 (S.1.1 19)) 20 (S.1.1 20)) 21 (S.1.1 21)) 22 (S.1.1 22)) (M := upC (upC (upC (upC (upC (upC S.2.1 0 (upd (S.2.1 0) 4 0)) 1 (S.2.1 1)) 4 (upd (S.2.1 4) 1 (S.2.1 4 1 + 1))) 6 (S.2.1 6)) 7 (S.2.1 7)) 8 (S.2.1 8)) h (by decide) ⟨rfl, rfl, rfl, rfl, rfl, rfl, rfl, rfl, rfl, rfl, rfl, rfl, rfl⟩ rfl ⟨rfl, rfl, rfl, rfl, rfl, rfl⟩ fq0 (fun _ _ => rfl) rfl rfl rfl rfl (by omega) (by omega))
    · unfold pX_steps
      have hj30 : ∀ {P sh w ad nu ol : Nat → Int32}, m_X11_steps_j30 a1 (S.1.1 3) (S.1.1 14) P sh (S.1.1 5) (S.1.1 6) (S.1.1 7) (S.1.1 8) (S.1.1 9) (S.1.1 10) (S.1.1 11) (S.1.1 12) (S.1.1 13) (S.1.1 17) w ad nu ol S.1.2.1 = some (-1, S.1.1 3, S.1.1 14, P, sh, S.1.1 5, S.1.1 6, S.1.1 7, S.1.1 8, S.1.1 9, S.1.1 10, S.1.1 11, S.1.1 12, S.1.1 13, upd (S.1.1 17) 1 (S.1.1 17 1 + 1), w, ad, nu, ol, S.1.2.1) := by
        intro P sh w ad nu ol
        rw [m_X11_steps_j30, bd_ok c_refuse]
      rw [m_X11_steps]
      by_cases c : a1 < 1
      · rw [if_pos c, hj30, bd_ok rfl]
      · have c0 : ¬ a1 < 0 := fun e => c (neg_lt (n := 1) e (by decide))
        obtain ⟨j, hj, rfl⟩ := nI_of c0
        have h1 : ¬ nI j < nI 1 := c
        have := wb j hj rfl
        have h2 : 1 ≤ j := by
          by_cases d : 1 ≤ j
          · exact d
          · exact absurd (nI_lt (a := j) (b := 1) (by omega) (by decide)) h1
        rw [if_neg c, if_pos (show (50 : Int32) < nI j from nI_lt (a := 50) (by omega) hj), hj30, bd_ok rfl]
    · unfold pM_steps
      rw [m_X12_steps, nm, bd_ok wa, if_pos rfl, bd_ok rf, bd_ok rfl]
