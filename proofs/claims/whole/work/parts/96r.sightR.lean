/-! ===== what may have been: the reference ===== -/
theorem r_seen_loop {F rows sw sn ord im : Nat → Int32} {X : AC} {L : List (Nat × Nat)} {ro : Nat → Nat} (hV : VC X) (h8 : L.length ≤ 8) (hL : ∀ q ∈ L, q.1 < 64 ∧ q.2 ≤ 999) (hS : RSn (F 7) sw sn 0 L) (hi : ∀ w, w < 64 → im w = nI (imgA X ro w)) :
    ∀ (d i fuel : Nat), i + d = L.length → d < fuel → m_X12_isSeen_w7 F rows sw sn ord fuel (nI i) im = some (nI (bN ((L.drop i).all (fun q => decide (imgA X ro q.1 = q.2)))), im) := by
  intro d
  obtain ⟨s1, s2⟩ := hS
  induction d with
  | zero =>
    intro i fuel h1 hf
    obtain ⟨fuel, rfl⟩ : ∃ d, fuel = d + 1 := ⟨fuel - 1, by omega⟩
    rw [m_X12_isSeen_w7, s1, if_pos (nI_le (by omega) (by omega)), List.drop_eq_nil_of_le (by omega)]; rfl
  | succ d ih =>
    intro i fuel h1 hf
    obtain ⟨fuel, rfl⟩ : ∃ d, fuel = d + 1 := ⟨fuel - 1, by omega⟩
    obtain ⟨q, q1, q2, q3⟩ := drop_get (L := L) (i := i) (by omega)
    obtain ⟨b1, b2⟩ := hL q q2
    obtain ⟨s3, s4⟩ := s2 i q q1
    rw [Nat.zero_add] at s3 s4
    have h9 := imgA_le (ro := ro) hV q.1 b1
    rw [m_X12_isSeen_w7, s1, if_neg (nI_ge (by omega) (by omega)), rd_nI (by omega) (by decide), s3, rd_nI b1 (by decide), hi q.1 b1, rd_nI (by omega) (by decide), s4, q3, List.all_cons]
    by_cases c : imgA X ro q.1 = q.2
    · rw [if_pos (by rw [c]), decide_eq_true c, Bool.true_and, nm, show nI i + 1 = nI (i + 1) from nI_1 _]
      exact ih (i + 1) fuel (by omega) (by omega)
    · rw [if_neg (fun e => c (nI_inj (by omega) (by omega) e)), decide_eq_false c, Bool.false_and]; rfl
theorem r_isSeen {F rows sw sn ord im : Nat → Int32} {X : AC} {L : List (Nat × Nat)} {ro : Nat → Nat} (hR : RC rows 0 X) (hV : VC X) (h8 : L.length ≤ 8) (hL : ∀ q ∈ L, q.1 < 64 ∧ q.2 ≤ 999) (hS : RSn (F 7) sw sn 0 L) (hok : okRo X ro) (ho : ∀ l, l < 16 → ord l = nI (ro l)) :
    ∃ im', m_X12_isSeen F rows sw sn ord im = some (nI (bN (fitB X L ro)), im') ∧ ∀ w, w < 64 → im' w = nI (imgA X ro w) := by
  obtain ⟨r, r1, r2⟩ := r_laysImage (im := im) (b := 0) hR hV (by decide) hok ho
  have r1 : m_X12_laysImage rows ord im 0 = some r := r1
  refine ⟨r, ?_, r2⟩
  rw [m_X12_isSeen, bd_ok r1]
  exact r_seen_loop hV h8 hL hS r2 L.length 0 fuelN (by omega) (by rw [fuel_is]; omega)
def encW (o : Option Nat) : Int32 := match o with
  | none => -1
  | some w => nI w
def fvA (X : AC) (o : Option Nat) (k : Nat) : Nat := match o with
  | none => 0
  | some w => imgA X (roK X k) w
def RLs (wb : Nat → Int32) (V : List Nat) : Prop := ∀ i v, V[i]? = some v → wb i = nI v
def frT (F' F : Nat → Int32) : Prop := ∀ j, ¬ j = 48 → F' j = F j
theorem r_fits_loop {rows sw sn : Nat → Int32} {X : AC} {L : List (Nat × Nat)} {ow : Option Nat} {N : Nat} (hN : N ≤ 2000) (hR : RC rows 0 X) (hV : VC X) (h8 : L.length ≤ 8) (hL : ∀ q ∈ L, q.1 < 64 ∧ q.2 ≤ 999) (how : ∀ w, ow = some w → w < 64) :
    ∀ (d k fuel : Nat) (F ord im wb : Nat → Int32), k + d = N → d < fuel → RSn (F 7) sw sn 0 L → (∀ l, l < 16 → ord l = nI (roK X k l)) → F 48 = encL (fP (fun k => fitB X L (roK X k)) k) → RLs wb (lstP (fun k => fitB X L (roK X k)) (fvA X ow) k) →
      ∃ F' ord' im' wb', m_X12_fits_w21 rows sw sn (encW ow) fuel (lN N) (nI (cP (fun k => fitB X L (roK X k)) k)) (nI k) F ord im wb = some (nI (cP (fun k => fitB X L (roK X k)) N), F', ord', im', wb') ∧ frT F' F ∧ F' 48 = encL (fP (fun k => fitB X L (roK X k)) N) ∧ RLs wb' (lstP (fun k => fitB X L (roK X k)) (fvA X ow) N) := by
  intro d
  induction d with
  | zero =>
    intro k fuel F ord im wb hk hf hS ho h48 hw
    obtain ⟨fuel, rfl⟩ : ∃ d, fuel = d + 1 := ⟨fuel - 1, by omega⟩
    have hk2 : k = N := by omega
    subst hk2
    rw [m_X12_fits_w21, nI_l (by omega), if_pos ((lg_cmp_ge _ _).mpr ((lN_le (by omega) (by omega)).mpr (by omega)))]
    exact ⟨F, ord, im, wb, rfl, fun _ _ => rfl, h48, hw⟩
  | succ d ih =>
    intro k fuel F ord im wb hk hf hS ho h48 hw
    obtain ⟨fuel, rfl⟩ : ∃ d, fuel = d + 1 := ⟨fuel - 1, by omega⟩
    obtain ⟨im', f1, f2⟩ := r_isSeen (im := im) hR hV h8 hL hS (roK_ok k) ho
    obtain ⟨od', g1, g2⟩ := r_nextOrder (b := 0) hR hV (by decide) (roK_ok k) ho
    have g1 : m_X12_nextOrder rows ord 0 = some od' := g1
    have hcl := cP_le (P := fun k => fitB X L (roK X k)) k
    have j75 : ∀ (F1 wb1 : Nat → Int32) (x4 : Int32), x4 = nI (cP (fun k => fitB X L (roK X k)) (k + 1)) → frT F1 F → F1 48 = encL (fP (fun k => fitB X L (roK X k)) (k + 1)) → RLs wb1 (lstP (fun k => fitB X L (roK X k)) (fvA X ow) (k + 1)) →
        ∃ F' ord' im'' wb', m_X12_fits_j75 rows sw sn (encW ow) (m_X12_fits_w21 rows sw sn (encW ow) fuel) (lN N) x4 (nI k) F1 ord im' wb1 = some (nI (cP (fun k => fitB X L (roK X k)) N), F', ord', im'', wb') ∧ frT F' F ∧ F' 48 = encL (fP (fun k => fitB X L (roK X k)) N) ∧ RLs wb' (lstP (fun k => fitB X L (roK X k)) (fvA X ow) N) := by
      intro F1 wb1 x4 hx hfr h48' hw'
      rw [m_X12_fits_j75, bd_ok g1, nm, show nI k + 1 = nI (k + 1) from nI_1 _, hx]
      obtain ⟨F', o', i', w', z1, z2, z3, z4⟩ := ih (k + 1) fuel F1 od' im' wb1 (by omega) (by omega) (by rw [hfr 7 (by decide)]; exact hS) g2 h48' hw'
      exact ⟨F', o', i', w', z1, fun j hj => (z2 j hj).trans (hfr j hj), z3, z4⟩
    rw [m_X12_fits_w21, nI_l (by omega), if_neg (fun e => by
      have := (lN_le (by omega) (by omega)).mp ((lg_cmp_ge _ _).mp e)
      omega), bd_ok f1]
    by_cases c : fitB X L (roK X k) = true
    · have ec : cP (fun k => fitB X L (roK X k)) (k + 1) = cP (fun k => fitB X L (roK X k)) k + 1 := by rw [cP, if_pos c]
      have el : lstP (fun k => fitB X L (roK X k)) (fvA X ow) (k + 1) = lstP (fun k => fitB X L (roK X k)) (fvA X ow) k ++ [fvA X ow k] := by rw [lstP, if_pos c]
      have hlen := lstP_len (P := fun k => fitB X L (roK X k)) (f := fvA X ow) k
      have j50 : ∀ F1 : Nat → Int32, frT F1 F → F1 48 = encL (fP (fun k => fitB X L (roK X k)) (k + 1)) → ∃ F' ord' im'' wb', m_X12_fits_j50 rows sw sn (encW ow) (m_X12_fits_w21 rows sw sn (encW ow) fuel) (lN N) (nI (cP (fun k => fitB X L (roK X k)) k)) (nI k) F1 ord im' wb = some (nI (cP (fun k => fitB X L (roK X k)) N), F', ord', im'', wb') ∧ frT F' F ∧ F' 48 = encL (fP (fun k => fitB X L (roK X k)) N) ∧ RLs wb' (lstP (fun k => fitB X L (roK X k)) (fvA X ow) N) := by
        intro F1 hfr h48'
        have fin : ∀ s2 : Int32, s2 = nI (fvA X ow k) → ∃ F' ord' im'' wb', m_X12_fits_j71 rows sw sn (encW ow) (m_X12_fits_w21 rows sw sn (encW ow) fuel) (lN N) (nI (cP (fun k => fitB X L (roK X k)) k)) (nI k) (nI (cP (fun k => fitB X L (roK X k)) k)) s2 F1 ord im' wb = some (nI (cP (fun k => fitB X L (roK X k)) N), F', ord', im'', wb') ∧ frT F' F ∧ F' 48 = encL (fP (fun k => fitB X L (roK X k)) N) ∧ RLs wb' (lstP (fun k => fitB X L (roK X k)) (fvA X ow) N) := by
          intro s2 h2
          rw [m_X12_fits_j71, wr_nI (by omega) (by decide), nm]
          refine j75 _ _ _ (by rw [ec]; exact nI_1 _) hfr h48' (fun i v hi => ?_)
          rw [el] at hi
          rcases snoc_get hi with ⟨a, b⟩ | ⟨a, b⟩
          · rw [upd_ne (by omega)]; exact hw i v b
          · rw [a, hlen, upd_eq, b, h2]
        rw [m_X12_fits_j50]
        cases ow with
        | none =>
          rw [if_pos (show encW none = -1 from rfl)]
          exact fin 0 rfl
        | some w =>
          rw [if_neg (show ¬ encW (some w) = -1 from nI_ne1 (by have := how w rfl; omega)), show encW (some w) = nI w from rfl, rd_nI (how w rfl) (by decide), f2 w (how w rfl)]
          exact fin _ rfl
      rw [c, if_neg (show ¬ nI (bN true) = 0 by decide), h48]
      cases e : fP (fun k => fitB X L (roK X k)) k with
      | none =>
        have e2 : fP (fun k => fitB X L (roK X k)) (k + 1) = some k := by rw [fP, e]; dsimp only; rw [if_pos c]
        rw [if_pos (show encL none = -1 from rfl), nm]
        exact j50 _ (fun j hj => upd_ne hj) (by rw [upd_eq, e2]; rfl)
      | some x =>
        have e2 : fP (fun k => fitB X L (roK X k)) (k + 1) = some x := by rw [fP, e]
        have hx : x < 2 ^ 31 := by
          obtain ⟨y, y1, y2, y3, y4⟩ := fP_ex (P := fun k => fitB X L (roK X k)) k (by
            rcases Decidable.em (∃ i, i < k ∧ fitB X L (roK X i) = true) with hy | hn
            · exact hy
            · rw [fP_none k (fun i hi => Bool.eq_false_iff.mpr (fun z => hn ⟨i, hi, z⟩))] at e; cases e)
          rw [e] at y4; cases y4; omega
        rw [if_neg (show ¬ encL (some x) = -1 from nI_ne1 hx)]
        exact j50 _ (fun _ _ => rfl) (by rw [h48, e, e2])
    · have ec : cP (fun k => fitB X L (roK X k)) (k + 1) = cP (fun k => fitB X L (roK X k)) k := by rw [cP, if_neg c]; rfl
      have el : lstP (fun k => fitB X L (roK X k)) (fvA X ow) (k + 1) = lstP (fun k => fitB X L (roK X k)) (fvA X ow) k := by rw [lstP, if_neg c]
      have e2 : fP (fun k => fitB X L (roK X k)) (k + 1) = fP (fun k => fitB X L (roK X k)) k := by
        rw [fP]
        cases fP (fun k => fitB X L (roK X k)) k with
        | none => dsimp only; rw [if_neg c]
        | some x => rfl
      rw [Bool.eq_false_iff.mpr c, if_pos (show nI (bN false) = 0 from rfl)]
      exact j75 _ _ _ (by rw [ec]) (fun _ _ => rfl) (by rw [e2]; exact h48) (by rw [el]; exact hw)
theorem P_is {X : AC} {L : List (Nat × Nat)} (hL1 : ∀ q ∈ L, q.1 < 64) : cP (fun k => fitB X L (roK X k)) (totN X 16) = prodC X L 16 := by
  rw [← prodC_is]
  exact cP_congr _ (fun k hk => fit_ok hL1 hk)
theorem r_fits {F rows sw sn ord im wb : Nat → Int32} {X : AC} {L : List (Nat × Nat)} {ow : Option Nat} (hN : totN X 16 ≤ 2000) (hR : RC rows 0 X) (hV : VC X) (h8 : L.length ≤ 8) (hL : ∀ q ∈ L, q.1 < 64 ∧ q.2 ≤ 999) (how : ∀ w, ow = some w → w < 64) (hS : RSn (F 7) sw sn 0 L) :
    ∃ F' ord' im' wb', m_X12_fits F rows sw sn ord im wb (encW ow) = some (nI (prodC X L 16), F', ord', im', wb') ∧ frT F' F ∧ F' 48 = encL (fP (fun k => fitB X L (roK X k)) (totN X 16)) ∧ RLs wb' (lstP (fun k => fitB X L (roK X k)) (fvA X ow) (totN X 16)) := by
  have t2 : m_X12_ordersOf rows 0 = some (lN (totN X 16)) := r_total (b := 0) hR hV (by decide)
  obtain ⟨od, o1, o2⟩ := r_firstOrder (ord := ord)
  have h7 : RSn (upd F 48 (-1) 7) sw sn 0 L := by rw [upd_ne (by decide)]; exact hS
  obtain ⟨F', o', i', w', z1, z2, z3, z4⟩ := r_fits_loop (ow := ow) hN hR hV h8 hL how (totN X 16) 0 fuelN (upd F 48 (-1)) od im wb (by omega) (by rw [fuel_is]; omega) h7 o2 upd_eq (fun i v hi => by cases hi)
  rw [P_is (fun q hq => (hL q hq).1)] at z1
  refine ⟨F', o', i', w', ?_, fun j hj => (z2 j hj).trans (upd_ne hj), z3, z4⟩
  rw [m_X12_fits, bd_ok t2, nm, bd_ok o1]
  exact z1
theorem r_unl_in {wb : Nat → Int32} {V : List Nat} {n i : Nat} (hn : V.length ≤ 2000) (hw : RLs wb V) (hv : ∀ v ∈ V, v < 128) (hi : i < V.length) {x2 : Int32} {K : Int32 → Int32 → Int32 → Option Int32} :
    ∀ (d j fuel : Nat), j + d = i → d + 1 < fuel → (V.take j).contains (V.getD i 0) = false → m_X12_unlike_w15 wb (nI n) K fuel x2 (nI i) 1 (nI j) = K x2 (nI i) (nI (if (V.take i).contains (V.getD i 0) = true then 0 else 1)) := by
  intro d
  have gi : V.getD i 0 = V[i] := by rw [List.getD_eq_getElem?_getD, List.getElem?_eq_getElem hi]; rfl
  have wi : wb i = nI (V.getD i 0) := by rw [gi]; exact hw i _ (List.getElem?_eq_getElem hi)
  have li : V.getD i 0 < 128 := by rw [gi]; exact hv _ (List.getElem_mem _)
  induction d with
  | zero =>
    intro j fuel hj hf h0
    obtain ⟨fuel, rfl⟩ : ∃ d, fuel = d + 1 := ⟨fuel - 1, by omega⟩
    have : j = i := by omega
    subst this
    rw [m_X12_unlike_w15, if_pos (nI_le (Nat.le_refl _) (by omega)), h0, if_neg (by decide)]; rfl
  | succ d ih =>
    intro j fuel hj hf h0
    obtain ⟨fuel, rfl⟩ : ∃ d, fuel = d + 1 := ⟨fuel - 1, by omega⟩
    have gj : V.getD j 0 = V[j]'(by omega) := by rw [List.getD_eq_getElem?_getD, List.getElem?_eq_getElem (by omega)]; rfl
    have wj : wb j = nI (V.getD j 0) := by rw [gj]; exact hw j _ (List.getElem?_eq_getElem (by omega))
    have lj : V.getD j 0 < 128 := by rw [gj]; exact hv _ (List.getElem_mem _)
    have ht : V.take (j + 1) = V.take j ++ [V.getD j 0] := by rw [gj]; exact List.take_append_getElem (by omega) |>.symm
    rw [m_X12_unlike_w15, if_neg (nI_ge (by omega) (by omega)), if_neg (by decide), rd_nI (by omega) (by decide), rd_nI (by omega) (by decide), wi, wj]
    by_cases c : V.getD j 0 = V.getD i 0
    · have hc : (V.take i).contains (V.getD i 0) = true := by
        rw [List.contains_iff_mem, ← c]
        exact List.mem_take_iff_getElem.mpr ⟨j, by omega, gj.symm⟩
      rw [if_pos (by rw [c]), m_X12_unlike_j47, nm, show nI j + 1 = nI (j + 1) from nI_1 _, if_pos hc]
      obtain ⟨fuel, rfl⟩ : ∃ d, fuel = d + 1 := ⟨fuel - 1, by omega⟩
      rw [m_X12_unlike_w15]
      by_cases z : nI i ≤ nI (j + 1)
      · rw [if_pos z]; rfl
      · rw [if_neg z, if_pos rfl]; rfl
    · rw [if_neg (fun e => c (nI_inj (by omega) (by omega) e)), m_X12_unlike_j47, nm, show nI j + 1 = nI (j + 1) from nI_1 _]
      refine ih (j + 1) fuel (by omega) (by omega) ?_
      rw [ht, Bool.eq_false_iff]
      intro e
      rcases List.mem_append.mp (List.contains_iff_mem.mp e) with e | e
      · rw [List.contains_iff_mem.mpr e] at h0; cases h0
      · exact c (List.mem_singleton.mp e).symm
theorem disN_le {V : List Nat} : ∀ n, disN V n ≤ n := by
  intro n
  induction n with
  | zero => exact Nat.le_refl _
  | succ n ih => rw [disN]; split <;> omega
theorem r_unl_out {wb : Nat → Int32} {V : List Nat} (hn : V.length ≤ 2000) (hw : RLs wb V) (hv : ∀ v ∈ V, v < 128) :
    ∀ (d i fuel : Nat), i + d = V.length → d < fuel → m_X12_unlike_w4 wb (nI V.length) fuel (nI (disN V i)) (nI i) = some (nI (disN V V.length)) := by
  intro d
  induction d with
  | zero =>
    intro i fuel hi hf
    obtain ⟨fuel, rfl⟩ : ∃ d, fuel = d + 1 := ⟨fuel - 1, by omega⟩
    rw [m_X12_unlike_w4, if_pos (nI_le (by omega) (by omega)), show i = V.length by omega]
  | succ d ih =>
    intro i fuel hi hf
    obtain ⟨fuel, rfl⟩ : ∃ d, fuel = d + 1 := ⟨fuel - 1, by omega⟩
    have e := r_unl_in (n := V.length) (x2 := nI (disN V i)) (K := m_X12_unlike_j55 wb (nI V.length) (m_X12_unlike_w4 wb (nI V.length) fuel)) hn hw hv (i := i) (by omega) i 0 fuelN (by omega) (by rw [fuel_is]; omega) rfl
    have e : m_X12_unlike_w15 wb (nI V.length) (m_X12_unlike_j55 wb (nI V.length) (m_X12_unlike_w4 wb (nI V.length) fuel)) fuelN (nI (disN V i)) (nI i) 1 0 = _ := e
    rw [m_X12_unlike_w4, if_neg (nI_ge (by omega) (by omega)), e, m_X12_unlike_j55]
    have hd : disN V (i + 1) = disN V i + (if (V.take i).contains (V.getD i 0) = true then 0 else 1) := rfl
    by_cases c : (V.take i).contains (V.getD i 0) = true
    · rw [if_pos c] at hd
      rw [if_pos c, if_pos (show nI 0 = 0 from rfl), m_X12_unlike_j63, nm, show nI i + 1 = nI (i + 1) from nI_1 _, show disN V i = disN V (i + 1) by omega]
      exact ih (i + 1) fuel (by omega) (by omega)
    · rw [if_neg c] at hd
      rw [if_neg c, if_neg (show ¬ nI 1 = 0 by decide), nm, m_X12_unlike_j63, nm, show nI i + 1 = nI (i + 1) from nI_1 _, show nI (disN V i) + 1 = nI (disN V (i + 1)) by rw [hd]; exact nI_1 _]
      exact ih (i + 1) fuel (by omega) (by omega)
theorem r_unl {wb : Nat → Int32} {V : List Nat} (hn : V.length ≤ 2000) (hw : RLs wb V) (hv : ∀ v ∈ V, v < 128) : m_X12_unlike wb (nI V.length) = some (nI (cP (fun v => V.contains v) 128)) := by
  have := r_unl_out hn hw hv V.length 0 fuelN (by omega) (by rw [fuel_is]; omega)
  rw [disN_is hv V.length (Nat.le_refl _), List.take_length] at this
  exact this
theorem r_isPending {rows : Nat → Int32} {X : AC} {w : Nat} (hR : RC rows 0 X) (hV : VC X) (hw : w < 64) : m_X12_isPending rows (nI w) = some (nI (bN ((X.2.1 (w / 4)).any (fun q => decide (q.1 = w))))) := by
  have hl4 : w / 4 < 16 := by omega
  obtain ⟨hlen, _, hst⟩ := hV.2 (w / 4) hl4
  have h2 : rows (64 + w / 4) = nI (X.2.1 (w / 4)).length := by have := hR.2.1 (w / 4) hl4; rw [Nat.zero_add] at this; exact this
  have lp : ∀ (d i fuel : Nat), i + d = (X.2.1 (w / 4)).length → d < fuel → m_X12_isPending_w6 rows (nI w) fuel (nI (w / 4)) (nI i) = some (nI (bN (((X.2.1 (w / 4)).drop i).any (fun q => decide (q.1 = w))))) := by
    intro d
    have e0 : (64 : Int32) + nI (w / 4) = nI (64 + w / 4) := nI_add 64 _
    induction d with
    | zero =>
      intro i fuel hi hf
      obtain ⟨fuel, rfl⟩ : ∃ d, fuel = d + 1 := ⟨fuel - 1, by omega⟩
      rw [m_X12_isPending_w6, e0, rd_nI (by omega) (by decide), h2, if_pos (nI_le (by omega) (by omega)), List.drop_eq_nil_of_le (by omega)]; rfl
    | succ d ih =>
      intro i fuel hi hf
      obtain ⟨fuel, rfl⟩ : ∃ d, fuel = d + 1 := ⟨fuel - 1, by omega⟩
      obtain ⟨q, q1, q2, q3⟩ := drop_get (L := X.2.1 (w / 4)) (i := i) (by omega)
      have hq := hst q q2
      have e1 : (96 : Int32) + 12 * nI (w / 4) + 2 * nI i = nI (96 + 12 * (w / 4) + 2 * i) := by
        rw [show (96 : Int32) = nI 96 from rfl, show (12 : Int32) = nI 12 from rfl, show (2 : Int32) = nI 2 from rfl, nI_mulE, nI_mulE, nI_add, nI_add]
      have e2 : rows (96 + 12 * (w / 4) + 2 * i) = nI q.1 := by have := (hR.2.2.2 (w / 4) hl4 i q q1).1; rw [Nat.zero_add] at this; exact this
      rw [m_X12_isPending_w6, e0, rd_nI (by omega) (by decide), h2, if_neg (nI_ge (by omega) (by omega)), e1, rd_nI (by omega) (by decide), e2, q3, List.any_cons]
      by_cases c : q.1 = w
      · rw [if_pos (by rw [c]), decide_eq_true c, Bool.true_or]; rfl
      · rw [if_neg (fun e => c (nI_inj (by omega) (by omega) e)), decide_eq_false c, Bool.false_or, nm, show nI i + 1 = nI (i + 1) from nI_1 _]
        exact ih (i + 1) fuel (by omega) (by omega)
  rw [m_X12_isPending, nm, show nI w / 4 = nI (w / 4) from nI_divE (b := 4) (by omega) (by decide)]
  exact lp (X.2.1 (w / 4)).length 0 fuelN (by omega) (by rw [fuel_is]; omega)
theorem nw_one {X : AC} {L : List (Nat × Nat)} {w : Nat} (hV : VC X) (hw : w < 64) (hp : 0 < prodC X L 16) (hn : (X.2.1 (w / 4)).any (fun q => decide (q.1 = w)) = false) : nwA X L w = 1 := by
  have hc := prodC_pos 16 hp (w / 4) (by omega)
  obtain ⟨r, r1, r2⟩ := (cP_pos _).mp hc
  have ev : ∀ k, valW X w k = X.1 w := fun k => lastS_no _ _ (fun q hq e => by
    have : (X.2.1 (w / 4)).any (fun q => decide (q.1 = w)) = true := List.any_eq_true.mpr ⟨q, List.mem_of_mem_take hq, decide_eq_true e⟩
    rw [this] at hn; cases hn)
  have h9 := hV.1 w hw
  unfold nwA
  rw [cP_one (a := X.1 w) 128 (fun v _ => ?_), if_pos (by omega)]
  unfold mayB
  rw [List.contains_iff_mem, lstP_mem]
  exact ⟨fun ⟨k, _, _, e⟩ => by rw [← e, ev], fun e => ⟨r, r1, r2, by rw [ev, e]⟩⟩
theorem nw_le {X : AC} {L : List (Nat × Nat)} {w : Nat} : nwA X L w ≤ 128 := cP_le 128
/-! the answers -/
theorem pc_explained {C : CS} {a x k : Int32} {po lw : Nat → Int32} (h : m_X11_explained (C.1 2) (C.1 5) (C.1 6) (C.1 7) (C.1 16) (C.1 30) (C.1 31) a = some (k, x, po, lw)) : ∃ c, pX_explained C a = some (k, x, (c, C.2.1, C.2.2.1, C.2.2.2)) ∧ keyA c C.1 ∧ keyT c C.1 := by
  rw [pX_explained, bd_ok h]
  exact ⟨_, rfl, ⟨rfl, rfl, rfl, rfl, rfl, rfl, rfl, rfl, rfl, rfl, rfl, rfl, rfl, rfl⟩, ⟨rfl, rfl, rfl, rfl, rfl, rfl⟩⟩
theorem pc_look {C : CS} {a x k : Int32} {po lw : Nat → Int32} (h : m_X11_look (C.1 2) (C.1 5) (C.1 6) (C.1 7) (C.1 16) (C.1 30) (C.1 31) a = some (k, x, po, lw)) : ∃ c, pX_look C a = some (k, x, (c, C.2.1, C.2.2.1, C.2.2.2)) ∧ keyA c C.1 ∧ keyT c C.1 := by
  rw [pX_look, bd_ok h]
  exact ⟨_, rfl, ⟨rfl, rfl, rfl, rfl, rfl, rfl, rfl, rfl, rfl, rfl, rfl, rfl, rfl, rfl⟩, ⟨rfl, rfl, rfl, rfl, rfl, rfl⟩⟩
theorem pm_explained {M : Nat → Nat → Int32} {a x : Int32} {F ord im wb : Nat → Int32} (h : m_X12_explained (M 0) (M 1) (M 2) (M 3) (M 10) (M 11) (M 15) a = some (x, F, ord, im, wb)) : ∃ M', pM_explained M a = some (x, M') ∧ M' 0 = F ∧ M' 1 = M 1 ∧ M' 2 = M 2 ∧ M' 3 = M 3 ∧ M' 4 = M 4 ∧ M' 5 = M 5 := by
  rw [pM_explained, bd_ok h]
  exact ⟨_, rfl, rfl, rfl, rfl, rfl, rfl, rfl⟩
theorem pm_look {M : Nat → Nat → Int32} {a x : Int32} {F ord im wb : Nat → Int32} (h : m_X12_look (M 0) (M 1) (M 2) (M 3) (M 10) (M 11) (M 15) a = some (x, F, ord, im, wb)) : ∃ M', pM_look M a = some (x, M') ∧ M' 0 = F ∧ M' 1 = M 1 ∧ M' 2 = M 2 ∧ M' 3 = M 3 ∧ M' 4 = M 4 ∧ M' 5 = M 5 := by
  rw [pM_look, bd_ok h]
  exact ⟨_, rfl, rfl, rfl, rfl, rfl, rfl, rfl⟩
def ansX (p : Nat) (X : AC) (L : List (Nat × Nat)) : Int32 := if p = 0 then nI (prodC X L 16) else encL (fP (fun k => fitB X L (roK X k)) (totN X 16))
theorem prod_le {X : AC} {L : List (Nat × Nat)} : prodC X L 16 ≤ totN X 16 := by rw [← prodC_is]; exact cP_le _
theorem fst_is {X : AC} {L : List (Nat × Nat)} (hL1 : ∀ q ∈ L, q.1 < 64) : (prodC X L 16 = 0 → fP (fun k => fitB X L (roK X k)) (totN X 16) = none) ∧ (0 < prodC X L 16 → fP (fun k => fitB X L (roK X k)) (totN X 16) = some (foF X L 16)) := by
  refine ⟨fun h => fP_none _ (fun k hk => ?_), fun h => ?_⟩
  · rw [Bool.eq_false_iff]
    intro e
    have := (cP_pos (P := fun k => fitB X L (roK X k)) (totN X 16)).mpr ⟨k, hk, e⟩
    rw [P_is hL1] at this; omega
  · obtain ⟨a1, a2, a3⟩ := foF_is 16 (prodC_pos 16 h)
    exact fP_some (by rw [fit_ok hL1 a1]; exact a2) (fun y hy => by rw [fit_ok hL1 (by omega)]; exact a3 y hy) _ a1
theorem lr_explained {n : Nat} {S : LwS} (h : LR n S) (a1 a2 a3 a4 a5 : Int32) : ∃ T, sL_explained S a1 a2 a3 a4 a5 = some T ∧ LR (n + 1) T := by
  obtain ⟨mode, G, I, b1, b2, b3, b4⟩ := id h
  have hC := LX_cm b1
  have hV := b1.2.1.1
  have hR : RM (S.2.1 1) 0 G.1 := b1.2.2.2.1.1
  have hm2 := b1.1
  have hF : S.2.1 0 12 = nI mode := b1.2.2.2.2
  have h4 : upd (S.2.1 0) 4 0 4 = 0 := upd_eq
  have h41 : upd (upd (S.2.1 0) 4 0) 4 1 4 = 1 := upd_eq
  have hF1 : upd (S.2.1 0) 4 0 12 = nI mode := (upd_ne (by decide)).trans hF
  have h8 : G.2.2.1.length ≤ 8 := b1.2.1.2.2.1
  have hL : ∀ q ∈ G.2.2.1, q.1 < 64 ∧ q.2 ≤ 999 := b1.2.1.2.2.2
  have hL1 : ∀ q ∈ G.2.2.1, q.1 < 64 := fun q hq => (hL q hq).1
  obtain ⟨s1, s2⟩ : CSn (S.1.1 2 3) (S.1.1 16) G.2.2.1 := b1.2.2.1.2.2.1
  have hRS : RSn (S.2.1 0 7) (S.2.1 2) (S.2.1 3) 0 G.2.2.1 := b1.2.2.2.1.2.2.1
  have hRS1 : RSn (upd (S.2.1 0) 4 0 7) (S.2.1 2) (S.2.1 3) 0 G.2.2.1 := by rw [upd_ne (by decide)]; exact hRS
  rcases r_withinX (x := a1) (lo := 0) (hi := 1) (by decide) (by decide) with ⟨wa, p, rfl, w1, w2⟩ | ⟨wa, wb⟩
  · have wa : m_X12_within (nI p) 0 1 = some 1 := wa
    have n0 : ¬ nI p < 0 := nI_nlt (b := 0) (by omega) (by omega)
    have n1 : nI p ≤ 1 := nI_le (b := 1) w2 (by decide)
    have t1 := c_total hC.1 hV.1
    have t2 : m_X12_ordersOf (S.2.1 1) 0 = some (lN (totN (gX G.1) 16)) := r_total (b := 0) hR.1 hV.1 (by decide)
    have ht := tot_lt hV.1
    by_cases c : totN (gX G.1) 16 ≤ 2000
    · obtain ⟨po, lw, u1, u2⟩ := c_narrow (pos := S.1.1 30) (lw := S.1.1 31) (a := S.1.1 16) hC.1 hV.1 h8 hL s2
      rw [← s1] at u1
      obtain ⟨F', od', im', wb', v1, v2, v3, v4⟩ := r_fits (ow := none) (ord := S.2.1 10) (im := S.2.1 11) (wb := S.2.1 15) c hR.1 hV.1 h8 hL (fun w e => by cases e) hRS1
      have v1 : m_X12_fits (upd (S.2.1 0) 4 0) (S.2.1 1) (S.2.1 2) (S.2.1 3) (S.2.1 10) (S.2.1 11) (S.2.1 15) (-1) = some (nI (prodC (gX G.1) G.2.2.1 16), F', od', im', wb') := v1
      have hpl := prod_le (X := gX G.1) (L := G.2.2.1)
      obtain ⟨f0, f1⟩ := fst_is (X := gX G.1) hL1
      obtain ⟨c', d1, d2, d3⟩ := pc_explained (C := S.1) (a := nI p) (k := 0) (x := ansX p (gX G.1) G.2.2.1) (po := po) (lw := lw) (by
        rw [m_X11_explained, if_neg n0, if_pos n1, bd_ok t1, if_pos ((tot_le ht).mpr c), bd_ok u1, bd_ok (c_left hV.1 u2)]
        unfold ansX
        by_cases z : p = 0
        · rw [if_pos (show nI p = 0 by rw [z]; rfl), if_pos z]
        · rw [if_neg (show ¬ nI p = 0 from nI_ne0 (by omega) (by omega)), if_neg z]
          by_cases y : prodC (gX G.1) G.2.2.1 16 = 0
          · rw [if_pos (by rw [y]; rfl), f0 y]; rfl
          · rw [if_neg (nI_ne0 (by omega) (by omega)), bd_ok (c_first hC.1 hV.1 u2 (prodC_pos 16 (by omega))), f1 (by omega)]; rfl)
      obtain ⟨M', g1, g2⟩ := pm_explained (M := S.2.1) (a := nI p) (x := ansX p (gX G.1) G.2.2.1) (F := F') (ord := od') (im := im') (wb := wb') (by
        rw [m_X12_explained, nm, bd_ok wa, bd_ok (r_right1 h4)]
        dsimp only
        rw [if_neg (show ¬ (1 : Int32) = 0 by decide), bd_ok t2, if_pos ((tot_le ht).mpr c), bd_ok v1]
        unfold ansX
        by_cases z : p = 0
        · rw [if_pos (show nI p = 0 by rw [z]; rfl), if_pos z]
        · rw [if_neg (show ¬ nI p = 0 from nI_ne0 (by omega) (by omega)), if_neg z, ← v3])
      obtain ⟨o, ho⟩ := sh_0 (S := S) (a := 1) (b := 6) (K := 1) d1 g1 (by rw [g2.1, v2 4 (by decide)]; exact h4)
      exact ⟨_, ho, lq_end h d2 d3 g2 (fun j p q => by rw [v2 j (by omega), upd_ne (by omega)]) (fun _ _ => rfl) (by omega) (by omega)⟩
    · obtain ⟨c', d1, d2, d3⟩ := pc_explained (C := S.1) (a := nI p) (k := 0) (x := -2) (po := S.1.1 30) (lw := S.1.1 31) (by
        rw [m_X11_explained, if_neg n0, if_pos n1, bd_ok t1, if_neg (fun e => c ((tot_le ht).mp e))])
      obtain ⟨M', f1, f2⟩ := pm_explained (M := S.2.1) (a := nI p) (x := -2) (F := upd (S.2.1 0) 4 0) (ord := S.2.1 10) (im := S.2.1 11) (wb := S.2.1 15) (by
        rw [m_X12_explained, nm, bd_ok wa, bd_ok (r_right1 h4)]
        dsimp only
        rw [if_neg (show ¬ (1 : Int32) = 0 by decide), bd_ok t2, if_neg (fun e => c ((tot_le ht).mp e))])
      obtain ⟨o, ho⟩ := sh_0 (S := S) (a := 1) (b := 6) (K := 1) d1 f1 (by rw [f2.1]; exact h4)
      exact ⟨_, ho, lq_end h d2 d3 f2 fq0 (fun _ _ => rfl) (by omega) (by omega)⟩
  · have wa : m_X12_within a1 0 1 = some 0 := wa
    obtain ⟨c', d1, d2, d3⟩ := pc_explained (C := S.1) (a := a1) (k := 1) (x := 0) (po := S.1.1 30) (lw := S.1.1 31) (by
      rw [m_X11_explained]
      by_cases c : a1 < 0
      · rw [if_pos c]
      · obtain ⟨j, hj, rfl⟩ := nI_of c
        have := wb j hj rfl
        rw [if_neg c, if_neg (show ¬ nI j ≤ 1 from nI_ge (a := 1) (by omega) hj)])
    obtain ⟨M', f1, f2⟩ := pm_explained (M := S.2.1) (a := a1) (x := 0) (F := upd (upd (S.2.1 0) 4 0) 4 1) (ord := S.2.1 10) (im := S.2.1 11) (wb := S.2.1 15) (by
      rw [m_X12_explained, nm, bd_ok wa, bd_ok (r_right0 h4 (by decide))]
      dsimp only
      rw [if_pos rfl])
    obtain ⟨o, ho⟩ := sh_1 (S := S) (a := 1) (b := 6) (K := 1) (by decide) d1 f1 (by rw [f2.1]; exact h41)
    exact ⟨_, ho, lq_end h d2 d3 f2 fq1 (fun _ _ => rfl) (by omega) (by omega)⟩
/-! look -/
def lkA (X : AC) (L : List (Nat × Nat)) : Nat → Option Nat × Nat
  | 0 => (none, 0)
  | k + 1 => if (lkA X L k).2 < nwA X L k then (some k, nwA X L k) else lkA X L k
theorem lkA_le {X : AC} {L : List (Nat × Nat)} : ∀ k, (lkA X L k).2 ≤ 128 := by
  intro k
  induction k with
  | zero => exact Nat.zero_le _
  | succ k ih => rw [lkA]; split
                 · exact nw_le
                 · exact ih
def ansK (p : Nat) (R : Option Nat × Nat) : Int32 := if p = 0 then encL R.1 else nI R.2
theorem c_look_end {F md st hd a po lw : Nat → Int32} {p : Nat} {R : Option Nat × Nat} (hp : p ≤ 1) : m_X11_look_j121 F md st hd a (nI p) (encL R.1) (nI R.2) po lw = some (0, ansK p R, po, lw) := by
  rw [m_X11_look_j121]
  unfold ansK
  by_cases z : p = 0
  · rw [if_pos (show nI p = 0 by rw [z]; rfl), if_pos z]
  · rw [if_neg (show ¬ nI p = 0 from nI_ne0 (by omega) (by omega)), if_neg z]
theorem c_look_loop {F md st hd ak a po lw : Nat → Int32} {X : AC} {L : List (Nat × Nat)} {p : Nat} (hC : CC md st hd ak X) (hV : VC X) (hpo : CPos po X L) (hp : p ≤ 1) (hpos : 0 < prodC X L 16) (hle : prodC X L 16 ≤ 2000) :
    ∀ (d k fuel : Nat), k + d = 64 → d < fuel → m_X11_look_w72 F md st hd a (nI p) (m_X11_look_j121 F md st hd a (nI p)) fuel (encL (lkA X L k).1) (nI (lkA X L k).2) (nI k) po lw = some (0, ansK p (lkA X L 64), po, lw) := by
  intro d
  induction d with
  | zero =>
    intro k fuel hk hf
    obtain ⟨fuel, rfl⟩ : ∃ d, fuel = d + 1 := ⟨fuel - 1, by omega⟩
    rw [m_X11_look_w72, if_pos (show (64 : Int32) ≤ nI k from nI_le (a := 64) (by omega) (by omega)), c_look_end hp, show k = 64 by omega]
  | succ d ih =>
    intro k fuel hk hf
    obtain ⟨fuel, rfl⟩ : ∃ d, fuel = d + 1 := ⟨fuel - 1, by omega⟩
    have h1 := lkA_le (X := X) (L := L) k
    have h2 := nw_le (X := X) (L := L) (w := k)
    rw [m_X11_look_w72, if_neg (show ¬ (64 : Int32) ≤ nI k from nI_ge (b := 64) (by omega) (by decide)), bd_ok (c_left hV hpo), if_neg (show ¬ nI (prodC X L 16) ≤ 0 from nI_ge (a := 0) (by omega) (by omega)), bd_ok (c_unlike hC hV hpo (by omega))]
    have hs := ih (k + 1) fuel (by omega) (by omega)
    rw [lkA] at hs
    by_cases c : (lkA X L k).2 < nwA X L k
    · rw [if_pos c] at hs
      rw [if_neg (nI_ge c (by omega)), m_X11_look_j115, nm, show nI k + 1 = nI (k + 1) from nI_1 _]
      exact hs
    · rw [if_neg c] at hs
      rw [if_pos (nI_le (by omega) (by omega)), m_X11_look_j115, nm, show nI k + 1 = nI (k + 1) from nI_1 _]
      exact hs
theorem r_look_end {rows sw sn F ord im wb : Nat → Int32} {p : Nat} {R : Option Nat × Nat} (hp : p ≤ 1) : m_X12_look_j101 rows sw sn (nI p) (encL R.1) (nI R.2) F ord im wb = some (ansK p R, F, ord, im, wb) := by
  rw [m_X12_look_j101]
  unfold ansK
  by_cases z : p = 0
  · rw [if_pos (show nI p = 0 by rw [z]; rfl), if_pos z]
  · rw [if_neg (show ¬ nI p = 0 from nI_ne0 (by omega) (by omega)), if_neg z]
theorem r_look_loop {rows sw sn : Nat → Int32} {X : AC} {L : List (Nat × Nat)} {p : Nat} (hN : totN X 16 ≤ 2000) (hR : RC rows 0 X) (hV : VC X) (h8 : L.length ≤ 8) (hL : ∀ q ∈ L, q.1 < 64 ∧ q.2 ≤ 999) (hp : p ≤ 1) (hpos : 0 < prodC X L 16) :
    ∀ (d k fuel : Nat) (F ord im wb : Nat → Int32), k + d = 64 → d < fuel → RSn (F 7) sw sn 0 L → ∃ F' ord' im' wb', m_X12_look_w48 rows sw sn (nI p) (m_X12_look_j101 rows sw sn (nI p)) fuel (encL (lkA X L k).1) (nI (lkA X L k).2) (nI k) F ord im wb = some (ansK p (lkA X L 64), F', ord', im', wb') ∧ frT F' F := by
  intro d
  induction d with
  | zero =>
    intro k fuel F ord im wb hk hf hS
    obtain ⟨fuel, rfl⟩ : ∃ d, fuel = d + 1 := ⟨fuel - 1, by omega⟩
    rw [m_X12_look_w48, if_pos (show (64 : Int32) ≤ nI k from nI_le (a := 64) (by omega) (by omega)), r_look_end hp, show k = 64 by omega]
    exact ⟨F, ord, im, wb, rfl, fun _ _ => rfl⟩
  | succ d ih =>
    intro k fuel F ord im wb hk hf hS
    obtain ⟨fuel, rfl⟩ : ∃ d, fuel = d + 1 := ⟨fuel - 1, by omega⟩
    have h1 := lkA_le (X := X) (L := L) k
    have h2 := nw_le (X := X) (L := L) (w := k)
    have fin : ∀ F1 ord1 im1 wb1 : Nat → Int32, frT F1 F → ∃ F' ord' im' wb', m_X12_look_j78 rows sw sn (nI p) (m_X12_look_w48 rows sw sn (nI p) (m_X12_look_j101 rows sw sn (nI p)) fuel) (encL (lkA X L k).1) (nI (lkA X L k).2) (nI k) (nI (nwA X L k)) F1 ord1 im1 wb1 = some (ansK p (lkA X L 64), F', ord', im', wb') ∧ frT F' F := by
      intro F1 ord1 im1 wb1 hfr
      obtain ⟨F', o', i', w', z1, z2⟩ := ih (k + 1) fuel F1 ord1 im1 wb1 (by omega) (by omega) (by rw [hfr 7 (by decide)]; exact hS)
      refine ⟨F', o', i', w', ?_, fun j hj => (z2 j hj).trans (hfr j hj)⟩
      rw [lkA] at z1
      rw [m_X12_look_j78]
      by_cases c : (lkA X L k).2 < nwA X L k
      · rw [if_pos c] at z1
        rw [if_pos (nI_lt c (by omega)), m_X12_look_j95, nm, show nI k + 1 = nI (k + 1) from nI_1 _]
        exact z1
      · rw [if_neg c] at z1
        rw [if_neg (nI_nlt (by omega) (by omega)), m_X12_look_j95, nm, show nI k + 1 = nI (k + 1) from nI_1 _]
        exact z1
    rw [m_X12_look_w48, if_neg (show ¬ (64 : Int32) ≤ nI k from nI_ge (b := 64) (by omega) (by decide)), bd_ok (r_isPending hR hV (w := k) (by omega))]
    cases e : (X.2.1 (k / 4)).any (fun q => decide (q.1 = k)) with
    | false =>
      rw [if_pos (show nI (bN false) = 0 from rfl)]
      have := fin F ord im wb (fun _ _ => rfl)
      rw [nw_one hV (by omega) hpos e] at this
      exact this
    | true =>
      obtain ⟨F', od', im', wb', v1, v2, v3, v4⟩ := r_fits (ow := some k) (ord := ord) (im := im) (wb := wb) hN hR hV h8 hL (fun w e => by cases e; omega) hS
      have v1 : m_X12_fits F rows sw sn ord im wb (nI k) = some (nI (prodC X L 16), F', od', im', wb') := v1
      have hlen := lstP_len (P := fun k => fitB X L (roK X k)) (f := fvA X (some k)) (totN X 16)
      have hpl := prod_le (X := X) (L := L)
      rw [P_is (fun q hq => (hL q hq).1)] at hlen
      have hu := r_unl (by omega) v4 (fun v hv => by
        obtain ⟨i, _, _, i3⟩ := (lstP_mem _).mp hv
        have : imgA X (roK X i) k ≤ 99 := imgA_le hV k (by omega)
        rw [← i3]
        show imgA X (roK X i) k < 128
        omega)
      have e3 : cP (fun v => (lstP (fun k => fitB X L (roK X k)) (fvA X (some k)) (totN X 16)).contains v) 128 = nwA X L k := by
        unfold nwA
        refine cP_congr _ (fun v _ => ?_)
        rw [← nw_all (X := X) (L := L) (w := k) (v := v) (by omega) hpos, Bool.eq_iff_iff, List.contains_iff_mem, List.contains_iff_mem, lstP_mem, lstP_mem]
        exact ⟨fun ⟨i, a, b, c⟩ => ⟨i, a, by rw [← fit_ok (fun q hq => (hL q hq).1) a]; exact b, c⟩, fun ⟨i, a, b, c⟩ => ⟨i, a, by rw [fit_ok (fun q hq => (hL q hq).1) a]; exact b, c⟩⟩
      rw [hlen, e3] at hu
      rw [if_neg (show ¬ nI (bN true) = 0 by decide), bd_ok v1]
      dsimp only
      rw [bd_ok hu]
      exact fin F' od' im' wb' v2
theorem lr_look {n : Nat} {S : LwS} (h : LR n S) (a1 a2 a3 a4 a5 : Int32) : ∃ T, sL_look S a1 a2 a3 a4 a5 = some T ∧ LR (n + 1) T := by
  obtain ⟨mode, G, I, b1, b2, b3, b4⟩ := id h
  have hC := LX_cm b1
  have hV := b1.2.1.1
  have hR : RM (S.2.1 1) 0 G.1 := b1.2.2.2.1.1
  have hm2 := b1.1
  have hF : S.2.1 0 12 = nI mode := b1.2.2.2.2
  have h4 : upd (S.2.1 0) 4 0 4 = 0 := upd_eq
  have h41 : upd (upd (S.2.1 0) 4 0) 4 1 4 = 1 := upd_eq
  have hF1 : upd (S.2.1 0) 4 0 12 = nI mode := (upd_ne (by decide)).trans hF
  have h8 : G.2.2.1.length ≤ 8 := b1.2.1.2.2.1
  have hL : ∀ q ∈ G.2.2.1, q.1 < 64 ∧ q.2 ≤ 999 := b1.2.1.2.2.2
  have hL1 : ∀ q ∈ G.2.2.1, q.1 < 64 := fun q hq => (hL q hq).1
  obtain ⟨s1, s2⟩ : CSn (S.1.1 2 3) (S.1.1 16) G.2.2.1 := b1.2.2.1.2.2.1
  have hRS : RSn (S.2.1 0 7) (S.2.1 2) (S.2.1 3) 0 G.2.2.1 := b1.2.2.2.1.2.2.1
  have hRS1 : RSn (upd (S.2.1 0) 4 0 7) (S.2.1 2) (S.2.1 3) 0 G.2.2.1 := by rw [upd_ne (by decide)]; exact hRS
  rcases r_withinX (x := a1) (lo := 0) (hi := 1) (by decide) (by decide) with ⟨wa, p, rfl, w1, w2⟩ | ⟨wa, wb⟩
  · have wa : m_X12_within (nI p) 0 1 = some 1 := wa
    have n0 : ¬ nI p < 0 := nI_nlt (b := 0) (by omega) (by omega)
    have n1 : nI p ≤ 1 := nI_le (b := 1) w2 (by decide)
    have t1 := c_total hC.1 hV.1
    have t2 : m_X12_ordersOf (S.2.1 1) 0 = some (lN (totN (gX G.1) 16)) := r_total (b := 0) hR.1 hV.1 (by decide)
    have ht := tot_lt hV.1
    by_cases c : totN (gX G.1) 16 ≤ 2000
    · have nt : ¬ 0 < lg_cmp (lN (totN (gX G.1) 16)) 2000 := fun e => by
        have := (tot_le ht).mpr c
        exact Int32.lt_irrefl (Int32.lt_of_lt_of_le e this)
      obtain ⟨po, lw, u1, u2⟩ := c_narrow (pos := S.1.1 30) (lw := S.1.1 31) (a := S.1.1 16) hC.1 hV.1 h8 hL s2
      rw [← s1] at u1
      obtain ⟨F', od', im', wb', v1, v2, v3, v4⟩ := r_fits (ow := none) (ord := S.2.1 10) (im := S.2.1 11) (wb := S.2.1 15) c hR.1 hV.1 h8 hL (fun w e => by cases e) hRS1
      have v1 : m_X12_fits (upd (S.2.1 0) 4 0) (S.2.1 1) (S.2.1 2) (S.2.1 3) (S.2.1 10) (S.2.1 11) (S.2.1 15) (-1) = some (nI (prodC (gX G.1) G.2.2.1 16), F', od', im', wb') := v1
      have hpl := prod_le (X := gX G.1) (L := G.2.2.1)
      by_cases y : prodC (gX G.1) G.2.2.1 16 = 0
      · obtain ⟨c', d1, d2, d3⟩ := pc_look (C := S.1) (a := nI p) (k := 0) (x := ansK p (none, 0)) (po := po) (lw := lw) (by
          rw [m_X11_look, if_neg n0, if_pos n1, bd_ok t1, if_neg nt, bd_ok u1]
          show m_X11_look_w72 _ _ _ _ _ _ _ (99999 + 1) _ _ 0 _ _ = _
          rw [m_X11_look_w72, if_neg (show ¬ (64 : Int32) ≤ 0 by decide), bd_ok (c_left hV.1 u2), if_pos (show nI (prodC (gX G.1) G.2.2.1 16) ≤ 0 by rw [y]; decide)]
          exact c_look_end (R := (none, 0)) w2)
        obtain ⟨M', g1, g2⟩ := pm_look (M := S.2.1) (a := nI p) (x := ansK p (none, 0)) (F := F') (ord := od') (im := im') (wb := wb') (by
          rw [m_X12_look, nm, bd_ok wa, bd_ok (r_right1 h4)]
          dsimp only
          rw [if_neg (show ¬ (1 : Int32) = 0 by decide), bd_ok t2, if_neg nt, bd_ok v1]
          dsimp only
          rw [if_pos (show nI (prodC (gX G.1) G.2.2.1 16) ≤ 0 by rw [y]; decide)]
          exact r_look_end (R := (none, 0)) w2)
        obtain ⟨o, ho⟩ := sh_0 (S := S) (a := 1) (b := 6) (K := 1) d1 g1 (by rw [g2.1, v2 4 (by decide)]; exact h4)
        exact ⟨_, ho, lq_end h d2 d3 g2 (fun j p q => by rw [v2 j (by omega), upd_ne (by omega)]) (fun _ _ => rfl) (by omega) (by omega)⟩
      · obtain ⟨F2, od2, im2, wb2, x1, x2⟩ := r_look_loop (p := p) c hR.1 hV.1 h8 hL w2 (by omega) 64 0 fuelN F' od' im' wb' (by omega) (by rw [fuel_is]; omega) (by rw [v2 7 (by decide)]; exact hRS1)
        obtain ⟨c', d1, d2, d3⟩ := pc_look (C := S.1) (a := nI p) (k := 0) (x := ansK p (lkA (gX G.1) G.2.2.1 64)) (po := po) (lw := lw) (by
          rw [m_X11_look, if_neg n0, if_pos n1, bd_ok t1, if_neg nt, bd_ok u1]
          exact c_look_loop hC.1 hV.1 u2 w2 (by omega) (by omega) 64 0 fuelN (by omega) (by rw [fuel_is]; omega))
        obtain ⟨M', g1, g2⟩ := pm_look (M := S.2.1) (a := nI p) (x := ansK p (lkA (gX G.1) G.2.2.1 64)) (F := F2) (ord := od2) (im := im2) (wb := wb2) (by
          rw [m_X12_look, nm, bd_ok wa, bd_ok (r_right1 h4)]
          dsimp only
          rw [if_neg (show ¬ (1 : Int32) = 0 by decide), bd_ok t2, if_neg nt, bd_ok v1]
          dsimp only
          rw [if_neg (show ¬ nI (prodC (gX G.1) G.2.2.1 16) ≤ 0 from nI_ge (a := 0) (by omega) (by omega))]
          exact x1)
        obtain ⟨o, ho⟩ := sh_0 (S := S) (a := 1) (b := 6) (K := 1) d1 g1 (by rw [g2.1, x2 4 (by decide), v2 4 (by decide)]; exact h4)
        exact ⟨_, ho, lq_end h d2 d3 g2 (fun j p q => by rw [x2 j (by omega), v2 j (by omega), upd_ne (by omega)]) (fun _ _ => rfl) (by omega) (by omega)⟩
    · have yt : 0 < lg_cmp (lN (totN (gX G.1) 16)) 2000 := Int32.not_le.mp (fun e => c ((tot_le ht).mp e))
      obtain ⟨c', d1, d2, d3⟩ := pc_look (C := S.1) (a := nI p) (k := 0) (x := ansK p (none, 0)) (po := S.1.1 30) (lw := S.1.1 31) (by
        rw [m_X11_look, if_neg n0, if_pos n1, bd_ok t1, if_pos yt]
        exact c_look_end (R := (none, 0)) w2)
      obtain ⟨M', f1, f2⟩ := pm_look (M := S.2.1) (a := nI p) (x := ansK p (none, 0)) (F := upd (S.2.1 0) 4 0) (ord := S.2.1 10) (im := S.2.1 11) (wb := S.2.1 15) (by
        rw [m_X12_look, nm, bd_ok wa, bd_ok (r_right1 h4)]
        dsimp only
        rw [if_neg (show ¬ (1 : Int32) = 0 by decide), bd_ok t2, if_pos yt]
        exact r_look_end (R := (none, 0)) w2)
      obtain ⟨o, ho⟩ := sh_0 (S := S) (a := 1) (b := 6) (K := 1) d1 f1 (by rw [f2.1]; exact h4)
      exact ⟨_, ho, lq_end h d2 d3 f2 fq0 (fun _ _ => rfl) (by omega) (by omega)⟩
  · have wa : m_X12_within a1 0 1 = some 0 := wa
    obtain ⟨c', d1, d2, d3⟩ := pc_look (C := S.1) (a := a1) (k := 1) (x := 0) (po := S.1.1 30) (lw := S.1.1 31) (by
      rw [m_X11_look]
      by_cases c : a1 < 0
      · rw [if_pos c]
      · obtain ⟨j, hj, rfl⟩ := nI_of c
        have := wb j hj rfl
        rw [if_neg c, if_neg (show ¬ nI j ≤ 1 from nI_ge (a := 1) (by omega) hj)])
    obtain ⟨M', f1, f2⟩ := pm_look (M := S.2.1) (a := a1) (x := 0) (F := upd (upd (S.2.1 0) 4 0) 4 1) (ord := S.2.1 10) (im := S.2.1 11) (wb := S.2.1 15) (by
      rw [m_X12_look, nm, bd_ok wa, bd_ok (r_right0 h4 (by decide))]
      dsimp only
      rw [if_pos rfl])
    obtain ⟨o, ho⟩ := sh_1 (S := S) (a := 1) (b := 6) (K := 1) (by decide) d1 f1 (by rw [f2.1]; exact h41)
    exact ⟨_, ho, lq_end h d2 d3 f2 fq1 (fun _ _ => rfl) (by omega) (by omega)⟩
