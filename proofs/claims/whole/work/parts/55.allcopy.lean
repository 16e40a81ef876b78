theorem perm_idxH {α : Type} {S A B C T1 T2 : List α} (idx : List Nat) (n : Nat) (hn : S.length = n) (h : idx.isPerm (List.range n) = true) (hm : idx.map (fun i => S[i]?) = ((A ++ B) ++ C).map some) : (S ++ (T1 ++ T2)).Perm ((A ++ (B ++ (T1 ++ T2))) ++ C) := by
  subst hn
  refine ((perm_idx idx h hm).append_right (T1 ++ T2)).trans ?_
  exact pm_of (fun d x => by simp only [List.count_append]; omega)
/-! ===== an All's own cells (its history's machines apart) ===== -/
abbrev AAd : Type := Nat × (Nat → Nat) × (Nat → Nat) × (Nat → Nat) × (Nat → Nat)
abbrev ASt : Type := (Nat → Int32) × MSt × (Nat → Int32) × (Nat → Option MSt) × (Nat → Int32) × (Nat → Int32)
/-- a: the address, the rows of the object, of its machine, of that one's cache, of its history; A: numbers, machine, history's numbers, history's machines, what is seen, what was refused -/
abbrev aw (D : va_G) (cI : ClassId) (a : AAd) (ad : Nat → MAd) (S : ASt) : va_W := [(a.1, .inr (0, o_X0 a.2.1 S.1))] ++ mw cI (a.2.1 0, a.2.2.1, a.2.2.2.1) S.2.1 ++ hst D (a.2.1 1) a.2.2.2.2 S.2.2.1 (hsf ad S.2.2.2.1) ++ [(a.2.1 2, .inl (cI, 8, .inl S.2.2.2.2.1)), (a.2.1 4, .inl (cI, 3, .inl S.2.2.2.2.2))]
def m_acopy (S T : ASt) : Option ASt :=
  bd (m_copyM S.2.1 T.2.1) fun M =>
  bd (m_hcopy S.2.2.1 T.2.2.1 S.2.2.2.1 T.2.2.2.1) fun h =>
  cp T.2.2.2.2.1 S.2.2.2.2.1 8 8 0 0 8 fun se =>
  nm (upd S.1 3 (T.1 3)) fun F =>
  cp T.2.2.2.2.2 S.2.2.2.2.2 3 3 0 0 3 fun re =>
  some (F, M, h.1, h.2, se, re)
abbrev a2w (D : va_G) (cI : ClassId) (a b : AAd) (ad ao : Nat → MAd) (S T : ASt) : va_W := (aw D cI a ad S ++ aw D cI b ao T) ++ (hw cI ad S.2.2.2.1 ++ hw cI ao T.2.2.2.1)
abbrev rm_acopy (n : Nat) : Room := { frames := 5, cells := 11 * n, slots := 432 * n, locals := 122 }
set_option maxHeartbeats 4000000 in
set_option maxRecDepth 100000 in
theorem c_acopy (l : Launch) (D : va_G) (cI : ClassId) (a b : AAd) (ad ao : Nat → MAd) (S T Rr : ASt) (hf : m_acopy S T = some Rr) : CTn l yX0_copyFrom (Cond.code yX0_copyFrom cX0_copyFrom 2 none) (rm_acopy (cnt40 Rr.2.2.2.1 - cnt40 S.2.2.2.1)) D cI [.ref a.1, .ref b.1] (a2w D cI a b ad ao S T) (fun ad1 => a2w D cI a b ad1 ao Rr T) (11 * (cnt40 Rr.2.2.2.1 - cnt40 S.2.2.2.1)) (432 * (cnt40 Rr.2.2.2.1 - cnt40 S.2.2.2.1)) := by
  obtain ⟨F, MS, hF, hs, se, re⟩ := S
  obtain ⟨G, MT, hG, ho, so, ro⟩ := T
  obtain ⟨RF, RM, RhF, Rhs, Rse, Rre⟩ := Rr
  show CTn l yX0_copyFrom _ (rm_acopy (cnt40 Rhs - cnt40 hs)) D cI _ _ _ (11 * (cnt40 Rhs - cnt40 hs)) (432 * (cnt40 Rhs - cnt40 hs))
  obtain ⟨N, hN⟩ : ∃ N, N = cnt40 Rhs - cnt40 hs := ⟨_, rfl⟩
  rw [← hN]
  refine z_beginM (Qc := fun sz => Rn D (a2w D cI a b ad ao (F, MS, hF, hs, se, re) (G, MT, hG, ho, so, ro)) (fun ad1 => a2w D cI a b ad1 ao (RF, RM, RhF, Rhs, Rse, Rre) (G, MT, hG, ho, so, ro)) sz) (own := RX0) (11 * N) (432 * N) (by decide +kernel) rfl (Nat.le_of_ble_eq_true rfl) ?_
  intro p e s m args below meth c ls A hx hb hr hlocks hml hts hcx hown hK hX hA hAe hP hD hS hl
  have hl : lv_has ls 2 [(0, .ref a.1), (1, .ref b.1)] := hl
  obtain ⟨M1, hM1, hf⟩ := bd_some hf
  obtain ⟨h1, hh1, hf⟩ := bd_some hf
  have hM1 : m_copyM MS MT = some M1 := hM1
  have hh1 : m_hcopy hF hG hs ho = some h1 := hh1
  refine lv_aload_n hx hb dX0_copyFrom_0 rfl (lv_at hl 0 rfl) ?_
  refine z_get (ci := 0) (C := RX0) (T := TX0) (N := 5) (v := .ref (a.2.1 0)) hx hb hts inT_X0 hown hK hP 0 rfl rfl 0 (by decide) tf_X0_12 rfl dX0_copyFrom_1 ?_
  refine lv_aload_n hx hb dX0_copyFrom_4 rfl (lv_at hl 1 rfl) ?_
  refine z_get (ci := 0) (C := RX0) (T := TX0) (N := 5) (v := .ref (b.2.1 0)) hx hb hts inT_X0 hown hK hP 16 rfl rfl 0 (by decide) tf_X0_12 rfl dX0_copyFrom_5 ?_
  refine z_cvF (ws1 := a2w D cI a b ad ao (F, M1, hF, hs, se, re) (G, MT, hG, ho, so, ro)) (fr := List.filterMap (fun i : Nat => (aw D cI a ad (F, MS, hF, hs, se, re) ++ aw D cI b ao (G, MT, hG, ho, so, ro))[i]?) [0, 12, 13, 14, 15, 16, 28, 29, 30, 31] ++ (hw cI ad hs ++ hw cI ao ho)) (z_rVF (rest := []) (fr := List.filterMap (fun i : Nat => (aw D cI a ad (F, MS, hF, hs, se, re) ++ aw D cI b ao (G, MT, hG, ho, so, ro))[i]?) [0, 12, 13, 14, 15, 16, 28, 29, 30, 31] ++ (hw cI ad hs ++ hw cI ao ho)) hx hb hml hown hcx hl.1 (c_copyM l D cI (a.2.1 0, a.2.2.1, a.2.2.2.1) (b.2.1 0, b.2.2.1, b.2.2.2.1) MS MT M1 hM1 _) tl_X0_36 ti_X4_copyFrom tz_X4_copyFrom tn_X4 tc_X4_copyFrom tm_X4_copyFrom rfl rfl ⟨Nat.le_of_ble_eq_true rfl, Nat.le_of_ble_eq_true rfl⟩ hK hX hS hA hP hD (perm_idxT [1, 2, 3, 4, 5, 6, 7, 8, 9, 10, 11, 17, 18, 19, 20, 21, 22, 23, 24, 25, 26, 27, 0, 12, 13, 14, 15, 16, 28, 29, 30, 31] 32 rfl (by decide) rfl) (List.mem_cons_self) rfl rfl rfl (Nat.le_of_ble_eq_true rfl) dX0_copyFrom_8 ⟨Nat.zero_le _, Nat.zero_le _⟩) hP hD hS hA (perm_idxT [1, 2, 3, 4, 5, 6, 7, 8, 9, 10, 11, 17, 18, 19, 20, 21, 22, 23, 24, 25, 26, 27, 0, 12, 13, 14, 15, 16, 28, 29, 30, 31] 32 rfl (by decide) rfl) (perm_idxT [1, 2, 3, 4, 5, 6, 7, 8, 9, 10, 11, 17, 18, 19, 20, 21, 22, 23, 24, 25, 26, 27, 0, 12, 13, 14, 15, 16, 28, 29, 30, 31] 32 rfl (by decide) rfl) (fun H locs hP hD hS => ?_)
  refine lv_aload_n hx hb dX0_copyFrom_11 rfl (lv_at hl 0 rfl) ?_
  refine z_get (ci := 0) (C := RX0) (T := TX0) (N := 5) (v := .ref (a.2.1 1)) hx hb hts inT_X0 hown hK hP 0 rfl rfl 1 (by decide) tf_X0_21 rfl dX0_copyFrom_12 ?_
  refine lv_aload_n hx hb dX0_copyFrom_15 rfl (lv_at hl 1 rfl) ?_
  refine z_get (ci := 0) (C := RX0) (T := TX0) (N := 5) (v := .ref (b.2.1 1)) hx hb hts inT_X0 hown hK hP 16 rfl rfl 1 (by decide) tf_X0_21 rfl dX0_copyFrom_16 ?_
  have hcN : 11 * (cnt40 h1.2 - cnt40 hs) ≤ 11 * N ∧ 432 * (cnt40 h1.2 - cnt40 hs) ≤ 432 * N := by
    obtain ⟨-, -, -, -, -, hf9⟩ := cp_some hf
    unfold nm at hf9
    obtain ⟨-, -, -, -, -, hf9⟩ := cp_some hf9
    have e9 := congrArg (fun z : ASt => z.2.2.2.1) (Option.some.inj hf9)
    have e9 : h1.2 = Rhs := e9
    rw [e9, hN]
    exact ⟨Nat.le_refl _, Nat.le_refl _⟩
  refine z_cnF (ws1 := fun ad1 => a2w D cI a b ad1 ao (F, M1, h1.1, h1.2, se, re) (G, MT, hG, ho, so, ro)) (fr := List.filterMap (fun i : Nat => (aw D cI a ad (F, M1, hF, hs, se, re) ++ aw D cI b ao (G, MT, hG, ho, so, ro))[i]?) [0, 1, 2, 3, 4, 5, 6, 7, 8, 9, 10, 11, 14, 15, 16, 17, 18, 19, 20, 21, 22, 23, 24, 25, 26, 27, 30, 31]) (z_rVF (rest := []) (fr := List.filterMap (fun i : Nat => (aw D cI a ad (F, M1, hF, hs, se, re) ++ aw D cI b ao (G, MT, hG, ho, so, ro))[i]?) [0, 1, 2, 3, 4, 5, 6, 7, 8, 9, 10, 11, 14, 15, 16, 17, 18, 19, 20, 21, 22, 23, 24, 25, 26, 27, 30, 31]) hx hb hml hown hcx hl.1 (c_hcopy l D cI (a.2.1 1) (b.2.1 1) a.2.2.2.2 b.2.2.2.2 hF hG ad ao hs ho h1 hh1 _) tl_X0_40 ti_X3_copyFrom tz_X3_copyFrom tn_X3 tc_X3_copyFrom tm_X3_copyFrom rfl rfl ⟨Nat.le_of_ble_eq_true rfl, Nat.le_of_ble_eq_true rfl⟩ hK hX hS hA hP hD (perm_idxH [12, 13, 28, 29, 0, 1, 2, 3, 4, 5, 6, 7, 8, 9, 10, 11, 14, 15, 16, 17, 18, 19, 20, 21, 22, 23, 24, 25, 26, 27, 30, 31] 32 rfl (by decide) rfl) (List.mem_cons_self) rfl rfl rfl (Nat.le_of_ble_eq_true rfl) dX0_copyFrom_19 (by rw [Nat.zero_add, Nat.zero_add]; exact hcN)) hP hD hS hA (perm_idxH [12, 13, 28, 29, 0, 1, 2, 3, 4, 5, 6, 7, 8, 9, 10, 11, 14, 15, 16, 17, 18, 19, 20, 21, 22, 23, 24, 25, 26, 27, 30, 31] 32 rfl (by decide) rfl) (fun _ => (perm_idxH [12, 13, 28, 29, 0, 1, 2, 3, 4, 5, 6, 7, 8, 9, 10, 11, 14, 15, 16, 17, 18, 19, 20, 21, 22, 23, 24, 25, 26, 27, 30, 31] 32 rfl (by decide) rfl)) (fun ad1 H locs hP hD hS => ?_)
  refine lv_aload_n hx hb dX0_copyFrom_22 rfl (lv_at hl 1 rfl) ?_
  refine z_get (ci := 0) (C := RX0) (T := TX0) (N := 5) (v := .ref (b.2.1 2)) hx hb hts inT_X0 hown hK hP 16 rfl rfl 2 (by decide) tf_X0_25 rfl dX0_copyFrom_23 ?_
  refine lv_iconst (v := 0) hx hb dX0_copyFrom_26 (by decide) ?_
  refine lv_aload_n hx hb dX0_copyFrom_27 rfl (lv_at hl 0 rfl) ?_
  refine z_get (ci := 0) (C := RX0) (T := TX0) (N := 5) (v := .ref (a.2.1 2)) hx hb hts inT_X0 hown hK hP 0 rfl rfl 2 (by decide) tf_X0_25 rfl dX0_copyFrom_28 ?_
  refine lv_iconst (v := 0) hx hb dX0_copyFrom_31 (by decide) ?_
  refine lv_bipush (v := 8) hx hb dX0_copyFrom_32 (by decide) ?_
  refine z_copy (rest := []) hx hb (hml.trans hl.1.symm) hown hts tl_X0_43 tnat_copy ts_copy tn_J10 hK hP hD hS 30 14 rfl rfl (fun z => a2w D cI a b ad1 ao (F, M1, h1.1, h1.2, z, re) (G, MT, hG, ho, so, ro)) (fun _ => rfl) (Nat.le_of_ble_eq_true rfl) (Nat.le_trans (by decide : _ ≤ 122) (Nat.le_refl _)) dX0_copyFrom_34 hf (fun se1 H locs hf hP hD hS => ?_)
  refine lv_aload_n hx hb dX0_copyFrom_37 rfl (lv_at hl 0 rfl) ?_
  refine lv_aload_n hx hb dX0_copyFrom_38 rfl (lv_at hl 1 rfl) ?_
  refine z_get (ci := 0) (C := RX0) (T := TX0) (N := 5) (v := .int (G 3)) hx hb hts inT_X0 hown hK hP 16 rfl rfl 3 (by decide) tf_X0_29 rfl dX0_copyFrom_39 ?_
  refine z_put (ci := 0) (C := RX0) (T := TX0) (N := 5) hx hb hts inT_X0 tyX0 tyX0_ok nmX0 hown hK hP hD hS 0 rfl rfl 3 (by decide) tf_X0_29 rfl (by decide +kernel) (Nat.le_of_ble_eq_true rfl) (o_X0 a.2.1) (o_X0_s3 _ _ _) (fun z => a2w D cI a b ad1 ao (z, M1, h1.1, h1.2, se1, re) (G, MT, hG, ho, so, ro)) (fun _ => rfl) dX0_copyFrom_42 hf (fun F1 H locs hf hP hD hS => ?_)
  refine lv_aload_n hx hb dX0_copyFrom_45 rfl (lv_at hl 1 rfl) ?_
  refine z_get (ci := 0) (C := RX0) (T := TX0) (N := 5) (v := .ref (b.2.1 4)) hx hb hts inT_X0 hown hK hP 16 rfl rfl 4 (by decide) tf_X0_33 rfl dX0_copyFrom_46 ?_
  refine lv_iconst (v := 0) hx hb dX0_copyFrom_49 (by decide) ?_
  refine lv_aload_n hx hb dX0_copyFrom_50 rfl (lv_at hl 0 rfl) ?_
  refine z_get (ci := 0) (C := RX0) (T := TX0) (N := 5) (v := .ref (a.2.1 4)) hx hb hts inT_X0 hown hK hP 0 rfl rfl 4 (by decide) tf_X0_33 rfl dX0_copyFrom_51 ?_
  refine lv_iconst (v := 0) hx hb dX0_copyFrom_54 (by decide) ?_
  refine lv_iconst (v := 3) hx hb dX0_copyFrom_55 (by decide) ?_
  refine z_copy (rest := []) hx hb (hml.trans hl.1.symm) hown hts tl_X0_43 tnat_copy ts_copy tn_J10 hK hP hD hS 31 15 rfl rfl (fun z => a2w D cI a b ad1 ao (F1, M1, h1.1, h1.2, se1, z) (G, MT, hG, ho, so, ro)) (fun _ => rfl) (Nat.le_of_ble_eq_true rfl) (Nat.le_trans (by decide : _ ≤ 122) (Nat.le_refl _)) dX0_copyFrom_56 hf (fun re1 H locs hf hP hD hS => ?_)
  have eR : ((F1, M1, h1.1, h1.2, se1, re1) : ASt) = (RF, RM, RhF, Rhs, Rse, Rre) := Option.some.inj hf
  rw [eR] at hP hD
  subst hAe
  refine W.widen (k := 11 * N) (n := 432 * N) (by rw [Nat.zero_add]; exact hcN.1) (by rw [Nat.zero_add]; exact hcN.2) ?_
  exact W.vret hx hb hr (fun t ht hW => ⟨⟨ad1, rfl, trivial, by rw [ht]; exact hP, hD⟩, hS.F ht⟩) hS.2.2 dX0_copyFrom_59 hlocks
