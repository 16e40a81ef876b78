/-! ===== the relation of the law's two states ===== -/
abbrev GS : Type := MA × List MA × List (Nat × Nat) × (Nat → Int32)
def VG (mode : Nat) (G : GS) : Prop := VM mode G.1 ∧ (∀ B ∈ G.2.1, VM mode B) ∧ G.2.2.1.length ≤ 8 ∧ ∀ q ∈ G.2.2.1, q.1 < 64 ∧ q.2 ≤ 999
def CSn (sz : Int32) (a : Nat → Int32) (L : List (Nat × Nat)) : Prop := sz = nI L.length ∧ ∀ k q, L[k]? = some q → a k = nI (q.1 * 1000 + q.2)
def RSn (sz : Int32) (sw sn : Nat → Int32) (off : Nat) (L : List (Nat × Nat)) : Prop := sz = nI L.length ∧ ∀ k q, L[k]? = some q → sw (off + k) = nI q.1 ∧ sn (off + k) = nI q.2
def CG (T : ASt) (mode : Nat) (G : GS) : Prop := CMt T.2.1 mode G.1 ∧ CH T.2.2.1 T.2.2.2.1 mode G.2.1 ∧ CSn (T.1 3) T.2.2.2.2.1 G.2.2.1 ∧ ∀ k, k < 3 → T.2.2.2.2.2 k = G.2.2.2 k
def RG (rows sw sn re : Nat → Int32) (b hb off ro : Nat) (ac fi se : Int32) (G : GS) : Prop := RM rows b G.1 ∧ RH fi ac rows hb G.2.1 ∧ RSn se sw sn off G.2.2.1 ∧ ∀ k, k < 3 → re (ro + k) = G.2.2.2 k
def TP (fc fr : Int32) (a b : Nat → Int32) : Prop := ∃ (n : Nat) (t : Nat → Nat), n ≤ 700 ∧ fc = nI n ∧ fr = nI n ∧ ∀ k, k < n → a k = nI (t k) ∧ b k = nI (t k) ∧ t k < 256
def RDm (F hd ak ta : Nat → Int32) : Prop := F 2 = nI 0 ∧ F 3 = nI 0 ∧ F 8 = nI 0 ∧ (∀ k, k < 16 → hd k = nI 0) ∧ (∀ k, k < 16 → ak k = nI 0) ∧ ∀ k, k < 8 → ta k = nI 0
def LX (S : LwS) (mode : Nat) (G : GS) : Prop := mode < 2 ∧ VG mode G ∧ CG (allOf S.1) mode G ∧ RG (S.2.1 1) (S.2.1 2) (S.2.1 3) (S.2.1 4) 0 2358 0 0 (S.2.1 0 5) (S.2.1 0 6) (S.2.1 0 7) G ∧ S.2.1 0 12 = nI mode
def LI (S : LwS) (mode : Nat) (I : Option GS) : Prop := S.1.1 0 5 = nI (bN I.isSome) ∧ S.2.1 0 11 = nI (bN I.isSome) ∧ ∀ J, I = some J → VG mode J ∧ (∃ T, S.1.2.2.1 = some T ∧ CG T mode J) ∧ RG (S.2.1 1) (S.2.1 2) (S.2.1 3) (S.2.1 4) 33798 34584 8 3 (S.2.1 0 8) (S.2.1 0 9) (S.2.1 0 10) J
def LT (S : LwS) : Prop := TP (S.1.1 0 1) (S.2.1 0 14) (S.1.1 1) (S.2.1 5) ∧ S.1.1 0 2 = S.2.1 0 15 ∧ RDm (S.1.1 77) (S.1.1 81) (S.1.1 82) (S.1.1 87)
def imC (o : Option ASt) : Nat := match o with
  | none => 0
  | some T => 16 + 11 * cnt40 T.2.2.2.1
def imS (o : Option ASt) : Nat := match o with
  | none => 0
  | some T => 491 + 432 * cnt40 T.2.2.2.1
def LB (n : Nat) (S : LwS) : Prop := S.2.2.2.1 ≤ 107 + 11 * n + 11 * cnt40 S.1.2.1 + imC S.1.2.2.1 ∧ S.2.2.2.2 ≤ 72827 + 432 * n + 432 * cnt40 S.1.2.1 + imS S.1.2.2.1
def LR (n : Nat) (S : LwS) : Prop := ∃ mode G I, LX S mode G ∧ LI S mode I ∧ LT S ∧ LB n S
def keyA (c d : Nat → Nat → Int32) : Prop := c 2 = d 2 ∧ c 3 = d 3 ∧ c 5 = d 5 ∧ c 6 = d 6 ∧ c 7 = d 7 ∧ c 8 = d 8 ∧ c 9 = d 9 ∧ c 10 = d 10 ∧ c 11 = d 11 ∧ c 12 = d 12 ∧ c 13 = d 13 ∧ c 14 = d 14 ∧ c 16 = d 16 ∧ c 17 = d 17
def keyT (c d : Nat → Nat → Int32) : Prop := c 0 = d 0 ∧ c 1 = d 1 ∧ c 77 = d 77 ∧ c 81 = d 81 ∧ c 82 = d 82 ∧ c 87 = d 87
theorem allOf_key {c d : Nat → Nat → Int32} {hs : Nat → Option MSt} {i j : Option ASt} {x y : Bool} (h : keyA c d) : allOf (c, hs, i, x) = allOf (d, hs, j, y) := by
  obtain ⟨a1, a2, a3, a4, a5, a6, a7, a8, a9, a10, a11, a12, a13, a14⟩ := h
  show (c 2, (c 3, c 5, c 6, c 7, c 8, c 9, c 10, c 11, c 12, c 13), c 14, hs, c 16, c 17) = (d 2, (d 3, d 5, d 6, d 7, d 8, d 9, d 10, d 11, d 12, d 13), d 14, hs, d 16, d 17)
  rw [a1, a2, a3, a4, a5, a6, a7, a8, a9, a10, a11, a12, a13, a14]
theorem RG_fr {rows r sw sn re : Nat → Int32} {b hb off ro mode : Nat} {ac fi se : Int32} {G : GS} (hV : VG mode G) (h1 : ∀ j, j < 786 → r (b + j) = rows (b + j)) (h2 : ∀ j, j < 31440 → r (hb + j) = rows (hb + j)) (h : RG rows sw sn re b hb off ro ac fi se G) : RG r sw sn re b hb off ro ac fi se G := ⟨RM_move hV.1 h1 h.1, RH_fr hV.2.1 h2 h.2.1, h.2.2⟩
theorem LI_fr {S : LwS} {C : CS} {M : Nat → Nat → Int32} {o : Nat → Int64} {x y mode : Nat} {I : Option GS} (h : LI S mode I) (h5 : C.1 0 5 = S.1.1 0 5) (hk : C.2.2.1 = S.1.2.2.1) (hF : ∀ j, 8 ≤ j → j ≤ 11 → M 0 j = S.2.1 0 j) (hr : ∀ j, 33798 ≤ j → M 1 j = S.2.1 1 j) (hw : ∀ k, 8 ≤ k → M 2 k = S.2.1 2 k) (hn : ∀ k, 8 ≤ k → M 3 k = S.2.1 3 k) (he : ∀ k, 3 ≤ k → M 4 k = S.2.1 4 k) : LI (C, M, o, x, y) mode I := by
  obtain ⟨h1, h2, h3⟩ := h
  refine ⟨h5.trans h1, (hF 11 (by decide) (by decide)).trans h2, fun J hJ => ?_⟩
  obtain ⟨j1, ⟨T, j2, j3⟩, j4⟩ := h3 J hJ
  refine ⟨j1, ⟨T, hk.trans j2, j3⟩, ?_⟩
  have e8 : M 0 8 = S.2.1 0 8 := hF 8 (by decide) (by decide)
  have e9 : M 0 9 = S.2.1 0 9 := hF 9 (by decide) (by decide)
  have e10 : M 0 10 = S.2.1 0 10 := hF 10 (by decide) (by decide)
  show RG (M 1) (M 2) (M 3) (M 4) 33798 34584 8 3 (M 0 8) (M 0 9) (M 0 10) J
  rw [e8, e9, e10]
  obtain ⟨g1, g2, ⟨g3, g4⟩, g5⟩ := RG_fr (r := M 1) j1 (fun j hj => hr _ (by omega)) (fun j hj => hr _ (by omega)) j4
  exact ⟨g1, g2, ⟨g3, fun k q hq => by rw [hw _ (by omega), hn _ (by omega)]; exact g4 k q hq⟩, fun k hk => by rw [he _ (by omega)]; exact g5 k hk⟩
theorem LX_fr {S : LwS} {C : CS} {M : Nat → Nat → Int32} {o : Nat → Int64} {x y mode : Nat} {G : GS} (h : LX S mode G) (ha : allOf C = allOf S.1) (hF : ∀ j, 5 ≤ j → j ≤ 12 → M 0 j = S.2.1 0 j) (hr : ∀ j, j < 786 ∨ 2358 ≤ j → M 1 j = S.2.1 1 j) (hw : M 2 = S.2.1 2) (hn : M 3 = S.2.1 3) (he : M 4 = S.2.1 4) : LX (C, M, o, x, y) mode G := by
  obtain ⟨h1, h2, h3, h4, h5⟩ := h
  refine ⟨h1, h2, by show CG (allOf C) mode G; rw [ha]; exact h3, ?_, (hF 12 (by decide) (by decide)).trans h5⟩
  show RG (M 1) (M 2) (M 3) (M 4) 0 2358 0 0 (M 0 5) (M 0 6) (M 0 7) G
  rw [hw, hn, he, hF 5 (by decide) (by decide), hF 6 (by decide) (by decide), hF 7 (by decide) (by decide)]
  exact RG_fr h2 (fun j hj => hr _ (by omega)) (fun j hj => hr _ (by omega)) h4
theorem LT_fr {S : LwS} {C : CS} {M : Nat → Nat → Int32} {o : Nat → Int64} {x y : Nat} (h : LT S) (hk : keyT C.1 S.1.1) (h14 : M 0 14 = S.2.1 0 14) (h15 : M 0 15 = S.2.1 0 15) (h5 : M 5 = S.2.1 5) : LT (C, M, o, x, y) := by
  obtain ⟨k0, k1, k2, k3, k4, k5⟩ := hk
  obtain ⟨a, b, c⟩ := h
  refine ⟨?_, ?_, ?_⟩
  · show TP (C.1 0 1) (M 0 14) (C.1 1) (M 5)
    rw [k0, k1, h14, h5]; exact a
  · show C.1 0 2 = M 0 15
    rw [k0, h15]; exact b
  · show RDm (C.1 77) (C.1 81) (C.1 82) (C.1 87)
    rw [k2, k3, k4, k5]; exact c
theorem lr_query {n : Nat} {S : LwS} {c : Nat → Nat → Int32} {M : Nat → Nat → Int32} {o : Nat → Int64} {x y : Nat} {bt : Bool} (h : LR n S) (hc : keyA c S.1.1) (hk : keyT c S.1.1) (hF : ∀ j, 5 ≤ j → j ≤ 15 → M 0 j = S.2.1 0 j) (hr : ∀ j, j < 786 ∨ 2358 ≤ j → M 1 j = S.2.1 1 j) (hw : M 2 = S.2.1 2) (hn : M 3 = S.2.1 3) (he : M 4 = S.2.1 4) (h5 : M 5 = S.2.1 5) (hx : x ≤ S.2.2.2.1 + 11) (hy : y ≤ S.2.2.2.2 + 432) : LR (n + 1) ((c, S.1.2.1, S.1.2.2.1, bt), M, o, x, y) := by
  obtain ⟨mode, G, I, a1, a2, a3, a4, a5⟩ := h
  refine ⟨mode, G, I, LX_fr a1 (allOf_key (d := S.1.1) hc) (fun j p q => hF j p (by omega)) hr hw hn he, LI_fr a2 (congrFun hk.1 5) rfl (fun j p q => hF j (by omega) (by omega)) (fun j hj => hr j (by omega)) (fun k _ => by rw [hw]) (fun k _ => by rw [hn]) (fun k _ => by rw [he]), LT_fr a3 hk (hF 14 (by decide) (by decide)) (hF 15 (by decide) (by decide)) h5, ?_, ?_⟩
  · show x ≤ 107 + 11 * (n + 1) + 11 * cnt40 S.1.2.1 + imC S.1.2.2.1
    omega
  · show y ≤ 72827 + 432 * (n + 1) + 432 * cnt40 S.1.2.1 + imS S.1.2.2.1
    omega
/-! shapes of the law's cases -/
def shT (S : LwS) (a b : Nat) (h : Option (Int32 × (Nat → Int64) × CS)) (p : Option (Int32 × (Nat → Nat → Int32))) : Option LwS := bd h fun u => bd p fun v => bd (pM_thrown v.2) fun t => if t.1 = u.1 then (if u.1 = 0 then (if lg_cmp (u.2.1 0) v.1.toInt64 = 0 then some (u.2.2, t.2, u.2.1, S.2.2.2.1 + a, S.2.2.2.2 + b) else none) else some (u.2.2, t.2, u.2.1, S.2.2.2.1 + a, S.2.2.2.2 + b)) else none
theorem sh_0 {S : LwS} {a b : Nat} {K x : Int32} {C : CS} {M : Nat → Nat → Int32} {r : Option (Int32 × Int32 × CS)} {p : Option (Int32 × (Nat → Nat → Int32))} (hr : r = some (0, x, C)) (hp : p = some (x, M)) (h4 : M 0 4 = 0) : ∃ o, shT S a b (hH1 K r S.2.2.1) p = some (C, M, o, S.2.2.2.1 + a, S.2.2.2.2 + b) := by
  subst hr hp
  refine ⟨vp_updL S.2.2.1 0 x.toInt64, ?_⟩
  unfold shT hH1
  rw [bd_ok rfl, if_pos rfl, bd_ok rfl, bd_ok rfl, pM_thrown, m_X12_thrown, bd_ok rfl, bd_ok rfl]
  dsimp only
  rw [if_pos h4, if_pos rfl, if_pos ((lg_cmp_eq _ _).mpr (by unfold vp_updL; rw [if_pos rfl]))]
theorem sh_1 {S : LwS} {a b : Nat} {K x y : Int32} {C : CS} {M : Nat → Nat → Int32} {r : Option (Int32 × Int32 × CS)} {p : Option (Int32 × (Nat → Nat → Int32))} (hK : ¬ K = 0) (hr : r = some (K, x, C)) (hp : p = some (y, M)) (h4 : M 0 4 = 1) : ∃ o, shT S a b (hH1 K r S.2.2.1) p = some (C, M, o, S.2.2.2.1 + a, S.2.2.2.2 + b) := by
  subst hr hp
  refine ⟨S.2.2.1, ?_⟩
  unfold shT hH1
  rw [bd_ok rfl, if_neg hK, if_pos rfl, bd_ok rfl, bd_ok rfl, pM_thrown, m_X12_thrown, bd_ok rfl, bd_ok rfl]
  dsimp only
  rw [if_pos h4, if_neg (by decide)]
theorem sh2_0 {S : LwS} {a b : Nat} {x : Int32} {C : CS} {M : Nat → Nat → Int32} {r : Option (Int32 × Int32 × CS)} {p : Option (Int32 × (Nat → Nat → Int32))} (hr : r = some (0, x, C)) (hp : p = some (x, M)) (h4 : M 0 4 = 0) : ∃ o, shT S a b (hH2 r S.2.2.1) p = some (C, M, o, S.2.2.2.1 + a, S.2.2.2.2 + b) := by
  subst hr hp
  refine ⟨vp_updL S.2.2.1 0 x.toInt64, ?_⟩
  unfold shT hH2
  rw [bd_ok rfl, if_pos rfl, bd_ok rfl, bd_ok rfl, pM_thrown, m_X12_thrown, bd_ok rfl, bd_ok rfl]
  dsimp only
  rw [if_pos h4, if_pos rfl, if_pos ((lg_cmp_eq _ _).mpr (by unfold vp_updL; rw [if_pos rfl]))]
theorem sh2_1 {S : LwS} {a b : Nat} {x y : Int32} {C : CS} {M : Nat → Nat → Int32} {r : Option (Int32 × Int32 × CS)} {p : Option (Int32 × (Nat → Nat → Int32))} (hr : r = some (1, x, C)) (hp : p = some (y, M)) (h4 : M 0 4 = 1) : ∃ o, shT S a b (hH2 r S.2.2.1) p = some (C, M, o, S.2.2.2.1 + a, S.2.2.2.2 + b) := by
  subst hr hp
  refine ⟨S.2.2.1, ?_⟩
  unfold shT hH2
  rw [bd_ok rfl]
  dsimp only
  rw [if_neg (show ¬ (1 : Int32) = 0 by decide), if_pos rfl, bd_ok rfl, bd_ok rfl, pM_thrown, m_X12_thrown, bd_ok rfl, bd_ok rfl]
  dsimp only
  rw [if_pos h4, if_neg (by decide)]
theorem sh2_2 {S : LwS} {a b : Nat} {x y : Int32} {C : CS} {M : Nat → Nat → Int32} {r : Option (Int32 × Int32 × CS)} {p : Option (Int32 × (Nat → Nat → Int32))} (hr : r = some (2, x, C)) (hp : p = some (y, M)) (h4 : M 0 4 = 2) : ∃ o, shT S a b (hH2 r S.2.2.1) p = some (C, M, o, S.2.2.2.1 + a, S.2.2.2.2 + b) := by
  subst hr hp
  refine ⟨S.2.2.1, ?_⟩
  unfold shT hH2
  rw [bd_ok rfl]
  dsimp only
  rw [if_neg (show ¬ (2 : Int32) = 0 by decide), if_neg (show ¬ (2 : Int32) = 1 by decide), if_pos rfl, bd_ok rfl, bd_ok rfl, pM_thrown, m_X12_thrown, bd_ok rfl, bd_ok rfl]
  dsimp only
  rw [if_pos h4, if_neg (by decide)]
/-! small words of the reference -/
theorem r_right1 {F : Nat → Int32} {k : Int32} (h : F 4 = 0) : m_X12_right F 1 k = some (1, F) := by
  rw [m_X12_right, if_pos h, if_neg (by decide), m_X12_right_j16, if_pos h]
theorem r_right0 {F : Nat → Int32} {k : Int32} (h : F 4 = 0) (hk : ¬ k = 0) : m_X12_right F 0 k = some (0, upd F 4 k) := by
  rw [m_X12_right, if_pos h, if_pos rfl, nm, m_X12_right_j16, if_neg (by rw [upd_eq]; exact hk)]
theorem neg_lt {x : Int32} {n : Nat} (h : x < 0) (hn : n < 2 ^ 31) : x < nI n := by
  have h1 := Int32.lt_iff_toInt_lt.mp h
  refine Int32.lt_iff_toInt_lt.mpr ?_
  rw [nI_toInt hn]
  have h0 : (0 : Int32).toInt = 0 := rfl
  omega
/-- within, for any number: 1 if it is nI j with lo ≤ j ≤ hi -/
theorem r_withinX {x : Int32} {lo hi : Nat} (hl : lo < 2 ^ 31) (hh : hi < 2 ^ 31) : (m_X12_within x (nI lo) (nI hi) = some 1 ∧ ∃ j, x = nI j ∧ lo ≤ j ∧ j ≤ hi) ∨ (m_X12_within x (nI lo) (nI hi) = some 0 ∧ ∀ j, j < 2 ^ 31 → x = nI j → ¬ (lo ≤ j ∧ j ≤ hi)) := by
  by_cases c : x < 0
  · refine Or.inr ⟨?_, fun j hj e => ?_⟩
    · rw [m_X12_within, if_pos (neg_lt c hl)]
    · rw [e] at c; exact absurd c (nI_pos hj)
  · obtain ⟨j, hj, rfl⟩ := nI_of c
    rw [r_within hj hl hh]
    by_cases d : lo ≤ j ∧ j ≤ hi
    · rw [if_pos d]; exact Or.inl ⟨rfl, j, rfl, d.1, d.2⟩
    · rw [if_neg d]
      refine Or.inr ⟨rfl, fun i hi' e => ?_⟩
      rw [← nI_inj hj hi' e]; exact d
theorem c_isWordX {x : Int32} : (m_X11_isWord x = some 1 ∧ ∃ j, x = nI j ∧ j < 64) ∨ (m_X11_isWord x = some 0 ∧ ∀ j, j < 2 ^ 31 → x = nI j → ¬ j < 64) := by
  rw [m_X11_isWord]
  by_cases c : x < 0
  · rw [if_pos c]
    exact Or.inr ⟨rfl, fun j hj e => by rw [e] at c; exact absurd c (nI_pos hj)⟩
  · rw [if_neg c]
    obtain ⟨j, hj, rfl⟩ := nI_of c
    by_cases d : 64 ≤ j
    · rw [if_pos (show (64 : Int32) ≤ nI j from nI_le (a := 64) d hj)]
      exact Or.inr ⟨rfl, fun i hi e => by rw [← nI_inj hj hi e]; omega⟩
    · rw [if_neg (show ¬ (64 : Int32) ≤ nI j from nI_ge (b := 64) (by omega) (by decide))]
      exact Or.inl ⟨rfl, j, rfl, by omega⟩
theorem c_isLineX {x : Int32} : (m_X11_isLine x = some 1 ∧ ∃ j, x = nI j ∧ j < 16) ∨ (m_X11_isLine x = some 0 ∧ ∀ j, j < 2 ^ 31 → x = nI j → ¬ j < 16) := by
  rw [m_X11_isLine]
  by_cases c : x < 0
  · rw [if_pos c]
    exact Or.inr ⟨rfl, fun j hj e => by rw [e] at c; exact absurd c (nI_pos hj)⟩
  · rw [if_neg c]
    obtain ⟨j, hj, rfl⟩ := nI_of c
    by_cases d : 16 ≤ j
    · rw [if_pos (show (16 : Int32) ≤ nI j from nI_le (a := 16) d hj)]
      exact Or.inr ⟨rfl, fun i hi e => by rw [← nI_inj hj hi e]; omega⟩
    · rw [if_neg (show ¬ (16 : Int32) ≤ nI j from nI_ge (b := 16) (by omega) (by decide))]
      exact Or.inl ⟨rfl, j, rfl, by omega⟩
theorem r_isWord1 {F : Nat → Int32} {j : Nat} (h : F 4 = 0) (hj : j < 64) : m_X12_isWord F (nI j) = some (1, F) := by
  have hw : m_X12_within (nI j) 0 63 = some 1 := (r_within (lo := 0) (hi := 63) (by omega) (by decide) (by decide)).trans (by rw [if_pos (by omega)]; rfl)
  rw [m_X12_isWord, bd_ok hw, bd_ok (r_right1 h), cb_1]
theorem r_isWord0 {F : Nat → Int32} {x : Int32} (h : F 4 = 0) (hx : ∀ j, j < 2 ^ 31 → x = nI j → ¬ j < 64) : m_X12_isWord F x = some (0, upd F 4 1) := by
  rw [m_X12_isWord]
  rcases r_withinX (x := x) (lo := 0) (hi := 63) (by decide) (by decide) with ⟨a, j, b, c, d⟩ | ⟨a, b⟩
  · exact absurd (show j < 64 by omega) (hx j (by omega) b)
  · have a : m_X12_within x 0 63 = some 0 := a
    rw [bd_ok a, bd_ok (r_right0 h (by decide)), cb_0]
