/-! ===== the machines that a history has made ===== -/
def hw1 (cI : ClassId) (ad : Nat → MAd) (hs : Nat → Option MSt) (i : Nat) : va_W := match hs i with
  | none => []
  | some S => mw cI (ad i) S
def hw (cI : ClassId) (ad : Nat → MAd) (hs : Nat → Option MSt) : va_W := (List.range 40).flatMap (hw1 cI ad hs)
def hwx (cI : ClassId) (ad : Nat → MAd) (hs : Nat → Option MSt) (k : Nat) : va_W := ((List.range 40).erase k).flatMap (hw1 cI ad hs)
def hsf (ad : Nat → MAd) (hs : Nat → Option MSt) : Nat → Option Nat := fun i => (hs i).map (fun _ => (ad i).1)
theorem hw_perm (cI : ClassId) (ad : Nat → MAd) (hs : Nat → Option MSt) {k : Nat} (hk : k < 40) : (hw cI ad hs).Perm (hw1 cI ad hs k ++ hwx cI ad hs k) := by
  have h : (List.range 40).Perm (k :: (List.range 40).erase k) := List.perm_cons_erase (List.mem_range.mpr hk)
  have h2 := h.flatMap_right (hw1 cI ad hs)
  rw [List.flatMap_cons] at h2
  exact h2
theorem hw_some {cI : ClassId} {ad : Nat → MAd} {hs : Nat → Option MSt} {k : Nat} {S : MSt} (hk : k < 40) (h : hs k = some S) : (hw cI ad hs).Perm (mw cI (ad k) S ++ hwx cI ad hs k) := by
  have := hw_perm cI ad hs hk
  rwa [show hw1 cI ad hs k = mw cI (ad k) S by simp only [hw1, h]] at this
theorem hw_none {cI : ClassId} {ad : Nat → MAd} {hs : Nat → Option MSt} {k : Nat} (hk : k < 40) (h : hs k = none) : (hw cI ad hs).Perm (hwx cI ad hs k) := by
  have := hw_perm cI ad hs hk
  rwa [show hw1 cI ad hs k = [] by simp only [hw1, h], List.nil_append] at this
theorem hwx_eq {cI : ClassId} {ad ad1 : Nat → MAd} {hs hs1 : Nat → Option MSt} {k : Nat} (h : ∀ j, j ≠ k → ad1 j = ad j ∧ hs1 j = hs j) : hwx cI ad1 hs1 k = hwx cI ad hs k := by
  unfold hwx
  rw [List.flatMap_def, List.flatMap_def]
  congr 1
  apply List.map_congr_left
  intro j hj
  have hjk : j ≠ k := by
    intro e
    subst e
    exact absurd hj (List.Nodup.not_mem_erase List.nodup_range)
  obtain ⟨h1, h2⟩ := h j hjk
  simp only [hw1, h1, h2]
theorem hw_up {cI : ClassId} {ad : Nat → MAd} {hs : Nat → Option MSt} {k : Nat} (a : MAd) (S : MSt) (hk : k < 40) : (hw cI (va_up ad k a) (va_up hs k (some S))).Perm (mw cI a S ++ hwx cI ad hs k) := by
  have h := hw_some (cI := cI) (ad := va_up ad k a) (hs := va_up hs k (some S)) (S := S) hk (if_pos rfl)
  rw [show va_up ad k a k = a from if_pos rfl, hwx_eq (ad := ad) (ad1 := va_up ad k a) (hs := hs) (hs1 := va_up hs k (some S)) (fun j hj => ⟨if_neg hj, if_neg hj⟩)] at h
  exact h
theorem hw_upS {cI : ClassId} {ad : Nat → MAd} {hs : Nat → Option MSt} {k : Nat} (S : MSt) (hk : k < 40) : (hw cI ad (va_up hs k (some S))).Perm (mw cI (ad k) S ++ hwx cI ad hs k) := by
  have h := hw_some (cI := cI) (ad := ad) (hs := va_up hs k (some S)) (S := S) hk (if_pos rfl)
  rw [hwx_eq (ad := ad) (ad1 := ad) (hs := hs) (hs1 := va_up hs k (some S)) (fun j hj => ⟨rfl, if_neg hj⟩)] at h
  exact h
theorem hsf_up (ad : Nat → MAd) (hs : Nat → Option MSt) (k : Nat) (a : MAd) (S : MSt) : hsf (va_up ad k a) (va_up hs k (some S)) = va_up (hsf ad hs) k (some a.1) := by
  funext j
  by_cases h : j = k
  · subst h; simp [hsf, va_up]
  · simp [hsf, va_up, h]
theorem hsf_upS (ad : Nat → MAd) (hs : Nat → Option MSt) (k : Nat) (S T : MSt) (hk : hs k = some T) : hsf ad (va_up hs k (some S)) = hsf ad hs := by
  funext j
  by_cases h : j = k
  · subst h; simp [hsf, va_up, hk]
  · simp [hsf, va_up, h]
theorem perm_abce {α : Type} (A B C E : List α) : (A ++ (B ++ (C ++ E))).Perm ((C ++ B) ++ (A ++ E)) := by
  have h1 : (B ++ (C ++ E)).Perm ((C ++ B) ++ E) := by
    rw [← List.append_assoc B C E]
    exact List.perm_append_comm.append_right E
  refine (h1.append_left A).trans ?_
  rw [← List.append_assoc A (C ++ B) E, ← List.append_assoc (C ++ B) A E]
  exact List.perm_append_comm.append_right E
theorem perm_rest {α : Type} {A B X Y : List α} (h : X.Perm Y) : (A ++ (B ++ X)).Perm (A ++ (B ++ Y)) := (h.append_left B).append_left A
/-! ===== keep ===== -/
def keepF (F : Nat → Int32) : Nat → Int32 := if F 2 = 40 then upd (upd F 1 ((F 1 + 1) - (F 1 + 1) / 40 * 40)) 2 (upd F 1 ((F 1 + 1) - (F 1 + 1) / 40 * 40) 2 - 1) else F
def m_keep2 (F : Nat → Int32) (hs : Nat → Option MSt) (S : MSt) : Option ((Nat → Int32) × (Nat → Option MSt)) :=
  if pl40 F (F 2) < 0 ∨ 40 ≤ (pl40 F (F 2)).toNatClampNeg then none
  else bd (m_copyM ((hs (pl40 F (F 2)).toNatClampNeg).getD zeroM) S) fun T => some (upd F 2 (F 2 + 1), va_up hs (pl40 F (F 2)).toNatClampNeg (some T))
/-- what is kept behind one act more -/
def m_keep (F : Nat → Int32) (hs : Nat → Option MSt) (S : MSt) : Option ((Nat → Int32) × (Nat → Option MSt)) := m_keep2 (keepF F) hs S
abbrev hwc (D : va_G) (cI : ClassId) (h : Nat) (r : Nat → Nat) (b : MAd) (S : MSt) (F : Nat → Int32) (ad : Nat → MAd) (hs : Nat → Option MSt) : va_W := hst D h r F (hsf ad hs) ++ (mw cI b S ++ hw cI ad hs)
abbrev rm_keep : Room := { frames := 4, cells := 11, slots := 432, locals := 100 }
set_option maxHeartbeats 4000000 in
set_option maxRecDepth 100000 in
theorem c_keep (l : Launch) (D : va_G) (cI : ClassId) (h : Nat) (r : Nat → Nat) (b : MAd) (S : MSt) (F : Nat → Int32) (ad : Nat → MAd) (hs : Nat → Option MSt) (Rr : (Nat → Int32) × (Nat → Option MSt)) (hf : m_keep F hs S = some Rr) : CTn l yX3_keep (Cond.code yX3_keep cX3_keep 2 none) rm_keep D cI [.ref h, .ref b.1] (hwc D cI h r b S F ad hs) (fun ad1 => hwc D cI h r b S Rr.1 ad1 Rr.2) 11 432 := by
  refine z_beginM (Qc := fun sz => Rn D (hwc D cI h r b S F ad hs) (fun ad1 => hwc D cI h r b S Rr.1 ad1 Rr.2) sz) (own := RX3) 11 432 (by decide +kernel) rfl (Nat.le_of_ble_eq_true rfl) ?_
  intro p e s m args below meth c ls A hx hb hr hlocks hml hts hcx hown hK hX hA hAe hP hD hS hl
  have hl : lv_has ls 2 [(0, .ref h), (1, .ref b.1)] := hl
  generalize hQ : MQ below (Rn D (hwc D cI h r b S F ad hs) (fun ad1 => hwc D cI h r b S Rr.1 ad1 Rr.2) s.heap.size) args s 11 432 A = Q
  have L44 : ∀ (F1 : Nat → Int32) (ad1 : Nat → MAd) (hs1 : Nat → Option MSt) (H : Heap) (locs : List Loc) (ls : Array Slot) (k n : Nat), k ≤ 11 → n ≤ 432 → upd F1 2 (F1 2 + 1) = Rr.1 → hs1 = Rr.2 → va_P D vwCl (hwc D cI h r b S F1 ad1 hs1) H → va_D A (hwc D cI h r b S F1 ad1 hs1) → va_S A s.heap H locs → lv_has ls 2 [(0, .ref h), (1, .ref b.1)] → W p l e rm_keep s m args below meth c H locs k n Q (F0 m 44 ls []) := by
    intro F1 ad1 hs1 H locs ls k n hk hn e1 e2 hP hD hS hl
    refine lv_aload_n hx hb dX3_keep_44 rfl (lv_at hl 0 rfl) ?_
    refine lv_dup hx hb dX3_keep_45 rfl ?_
    refine z_get (ci := 3) (C := RX3) (T := TX3) (N := 3) (v := .int (F1 2)) hx hb hts inT_X3 hown hK hP 0 rfl rfl 2 (by decide) tf_X3_21 rfl dX3_keep_46 ?_
    refine lv_iconst (v := 1) hx hb dX3_keep_49 (by decide) ?_
    refine lv_iadd hx hb dX3_keep_50 ?_
    refine z_put (r := upd F1 2 (F1 2 + 1)) (ci := 3) (C := RX3) (T := TX3) (N := 3) hx hb hts inT_X3 tyX3 tyX3_ok nmX3 hown hK hP hD hS 0 rfl rfl 2 (by decide) tf_X3_21 rfl (by decide +kernel) (Nat.le_of_ble_eq_true rfl) (o_X3 r) (o_X3_s2 _ _ _) (fun z => hwc D cI h r b S z ad1 hs1) (fun _ => rfl) dX3_keep_51 (kf := some) rfl (fun F2 H locs hf hP hD hS => ?_)
    have e3 : F2 = upd F1 2 (F1 2 + 1) := Option.some.inj hf
    rw [e3, e1, e2] at hP hD
    subst hAe
    subst hQ
    refine W.widen hk hn ?_
    exact W.vret hx hb hr (fun t ht hW => ⟨⟨ad1, rfl, trivial, by rw [ht]; exact hP, hD⟩, hS.F ht⟩) hS.2.2 dX3_keep_54 hlocks
  have L32 : ∀ (F1 : Nat → Int32) (H : Heap) (locs : List Loc) (ls : Array Slot), m_keep2 F1 hs S = some Rr → va_P D vwCl (hwc D cI h r b S F1 ad hs) H → va_D A (hwc D cI h r b S F1 ad hs) → va_S A s.heap H locs → lv_has ls 2 [(0, .ref h), (1, .ref b.1)] → W p l e rm_keep s m args below meth c H locs 0 0 Q (F0 m 32 ls []) := by
    intro F1 H locs ls hf hP hD hS hl
    unfold m_keep2 at hf
    by_cases hin : pl40 F1 (F1 2) < 0 ∨ 40 ≤ (pl40 F1 (F1 2)).toNatClampNeg
    · rw [if_pos hin] at hf; cases hf
    rw [if_neg hin] at hf
    have hk40 : (pl40 F1 (F1 2)).toNatClampNeg < 40 := Nat.lt_of_not_le (fun q => hin (Or.inr q))
    obtain ⟨T, hT, hf⟩ := bd_some hf
    have hR := Option.some.inj hf
    refine lv_aload_n hx hb dX3_keep_32 rfl (lv_at hl 0 rfl) ?_
    refine lv_aload_n hx hb dX3_keep_33 rfl (lv_at hl 0 rfl) ?_
    refine z_get (ci := 3) (C := RX3) (T := TX3) (N := 3) (v := .int (F1 2)) hx hb hts inT_X3 hown hK hP 0 rfl rfl 2 (by decide) tf_X3_21 rfl dX3_keep_34 ?_
    cases hrow : hs (pl40 F1 (F1 2)).toNatClampNeg with
    | some S0 =>
      rw [hrow] at hT
      have ha : hsf ad hs (pl40 F1 (F1 2)).toNatClampNeg = some (ad (pl40 F1 (F1 2)).toNatClampNeg).1 := by simp [hsf, hrow]
      refine z_cqF (fr := mw cI b S ++ hw cI ad hs) (ws1 := fun _ => hwc D cI h r b S F1 ad hs) (z_rVF (rest := []) (fr := mw cI b S ++ hw cI ad hs) hx hb hml hown hcx hl.1 (c_rowAt_some l D cI h r F1 (hsf ad hs) (F1 2) _ hin ha _) tl_X3_25 ti_X3_rowAt tz_X3_rowAt tn_X3 tc_X3_rowAt tm_X3_rowAt rfl rfl ⟨Nat.le_of_ble_eq_true rfl, Nat.le_of_ble_eq_true rfl⟩ hK hX hS hA hP hD (List.Perm.refl _) (List.mem_cons_self) rfl rfl rfl (Nat.le_of_ble_eq_true rfl) dX3_keep_37 ⟨Nat.zero_le _, Nat.zero_le _⟩) hP hD hS hA (List.Perm.refl _) (fun _ => List.Perm.refl _) (fun _ H locs hP hD hS => ?_)
      refine lv_aload_n hx hb dX3_keep_40 rfl (lv_at hl 1 rfl) ?_
      have hp : (hwc D cI h r b S F1 ad hs).Perm ((mw cI (ad (pl40 F1 (F1 2)).toNatClampNeg) S0 ++ mw cI b S) ++ (hst D h r F1 (hsf ad hs) ++ hwx cI ad hs (pl40 F1 (F1 2)).toNatClampNeg)) := (perm_rest (hw_some hk40 hrow)).trans (perm_abce _ _ _ _)
      have hp1 : (hwc D cI h r b S F1 ad (va_up hs (pl40 F1 (F1 2)).toNatClampNeg (some T))).Perm ((mw cI (ad (pl40 F1 (F1 2)).toNatClampNeg) T ++ mw cI b S) ++ (hst D h r F1 (hsf ad hs) ++ hwx cI ad hs (pl40 F1 (F1 2)).toNatClampNeg)) := by
        unfold hwc
        rw [hsf_upS ad hs _ T S0 hrow]
        exact (perm_rest (hw_upS T hk40)).trans (perm_abce _ _ _ _)
      refine z_cvF (z_rVF (rest := []) hx hb hml hown hcx hl.1 (c_copyM l D cI (ad (pl40 F1 (F1 2)).toNatClampNeg) b S0 S T hT _) tl_X3_29 ti_X4_copyFrom tz_X4_copyFrom tn_X4 tc_X4_copyFrom tm_X4_copyFrom rfl rfl ⟨Nat.le_of_ble_eq_true rfl, Nat.le_of_ble_eq_true rfl⟩ hK hX hS hA hP hD hp (List.mem_cons_self) rfl rfl rfl (Nat.le_of_ble_eq_true rfl) dX3_keep_41 ⟨Nat.zero_le _, Nat.zero_le _⟩) hP hD hS hA hp hp1 (fun H locs hP hD hS => ?_)
      exact L44 F1 ad _ _ _ _ _ _ (Nat.zero_le _) (Nat.zero_le _) (congrArg Prod.fst hR) (congrArg Prod.snd hR) hP hD hS hl
    | none =>
      rw [hrow] at hT
      have ha : hsf ad hs (pl40 F1 (F1 2)).toNatClampNeg = none := by simp [hsf, hrow]
      refine z_cqF (fr := mw cI b S ++ hw cI ad hs) (ws1 := fun a => (hst D h r F1 (va_up (hsf ad hs) (pl40 F1 (F1 2)).toNatClampNeg (some a.1)) ++ mw cI a zeroM) ++ (mw cI b S ++ hw cI ad hs)) (z_rVF (rest := []) (fr := mw cI b S ++ hw cI ad hs) hx hb hml hown hcx hl.1 (c_rowAt_none l D cI h r F1 (hsf ad hs) (F1 2) hin ha _) tl_X3_25 ti_X3_rowAt tz_X3_rowAt tn_X3 tc_X3_rowAt tm_X3_rowAt rfl rfl ⟨Nat.le_of_ble_eq_true rfl, Nat.le_of_ble_eq_true rfl⟩ hK hX hS hA hP hD (List.Perm.refl _) (List.mem_cons_self) rfl rfl rfl (Nat.le_of_ble_eq_true rfl) dX3_keep_37 ⟨Nat.le_of_ble_eq_true rfl, Nat.le_of_ble_eq_true rfl⟩) hP hD hS hA (List.Perm.refl _) (fun _ => List.Perm.refl _) (fun a H locs hP hD hS => ?_)
      refine lv_aload_n hx hb dX3_keep_40 rfl (lv_at hl 1 rfl) ?_
      have hp : ((hst D h r F1 (va_up (hsf ad hs) (pl40 F1 (F1 2)).toNatClampNeg (some a.1)) ++ mw cI a zeroM) ++ (mw cI b S ++ hw cI ad hs)).Perm ((mw cI a zeroM ++ mw cI b S) ++ (hst D h r F1 (va_up (hsf ad hs) (pl40 F1 (F1 2)).toNatClampNeg (some a.1)) ++ hwx cI ad hs (pl40 F1 (F1 2)).toNatClampNeg)) := by
        rw [List.append_assoc, List.append_assoc (mw cI a zeroM)]
        refine List.Perm.trans ?_ (perm_abce (hst D h r F1 (va_up (hsf ad hs) (pl40 F1 (F1 2)).toNatClampNeg (some a.1))) (mw cI b S) (mw cI a zeroM) _ |>.trans (by rw [List.append_assoc]))
        refine List.Perm.append_left _ ?_
        refine List.Perm.trans (perm_rest (hw_none hk40 hrow)) ?_
        rw [← List.append_assoc, ← List.append_assoc]
        exact List.perm_append_comm.append_right _
      have hp1 : (hwc D cI h r b S F1 (va_up ad (pl40 F1 (F1 2)).toNatClampNeg a) (va_up hs (pl40 F1 (F1 2)).toNatClampNeg (some T))).Perm ((mw cI a T ++ mw cI b S) ++ (hst D h r F1 (va_up (hsf ad hs) (pl40 F1 (F1 2)).toNatClampNeg (some a.1)) ++ hwx cI ad hs (pl40 F1 (F1 2)).toNatClampNeg)) := by
        unfold hwc
        rw [hsf_up]
        exact (perm_rest (hw_up a T hk40)).trans (perm_abce _ _ _ _)
      refine z_cvF (z_rVF (rest := []) hx hb hml hown hcx hl.1 (c_copyM l D cI a b zeroM S T hT _) tl_X3_29 ti_X4_copyFrom tz_X4_copyFrom tn_X4 tc_X4_copyFrom tm_X4_copyFrom rfl rfl ⟨Nat.le_of_ble_eq_true rfl, Nat.le_of_ble_eq_true rfl⟩ hK hX hS hA hP hD hp (List.mem_cons_self) rfl rfl rfl (Nat.le_of_ble_eq_true rfl) dX3_keep_41 ⟨Nat.le_of_ble_eq_true rfl, Nat.le_of_ble_eq_true rfl⟩) hP hD hS hA hp hp1 (fun H locs hP hD hS => ?_)
      exact L44 F1 _ _ _ _ _ _ _ (Nat.le_of_ble_eq_true rfl) (Nat.le_of_ble_eq_true rfl) (congrArg Prod.fst hR) (congrArg Prod.snd hR) hP hD hS hl
  unfold m_keep at hf
  refine lv_aload_n hx hb dX3_keep_0 rfl (lv_at hl 0 rfl) ?_
  refine z_get (ci := 3) (C := RX3) (T := TX3) (N := 3) (v := .int (F 2)) hx hb hts inT_X3 hown hK hP 0 rfl rfl 2 (by decide) tf_X3_21 rfl dX3_keep_1 ?_
  refine lv_bipush (v := 40) hx hb dX3_keep_4 (by decide) ?_
  refine lv_icmp_ne (tgt := 32) hx hb dX3_keep_6 (by decide) (fun cc => ?_) (fun cc => ?_)
  · rw [show keepF F = F from if_neg cc] at hf
    exact L32 F _ _ _ hf hP hD hS hl
  · rw [show keepF F = _ from if_pos cc] at hf
    refine lv_aload_n hx hb dX3_keep_9 rfl (lv_at hl 0 rfl) ?_
    refine lv_aload_n hx hb dX3_keep_10 rfl (lv_at hl 0 rfl) ?_
    refine z_get (ci := 3) (C := RX3) (T := TX3) (N := 3) (v := .int (F 1)) hx hb hts inT_X3 hown hK hP 0 rfl rfl 1 (by decide) tf_X3_17 rfl dX3_keep_11 ?_
    refine lv_iconst (v := 1) hx hb dX3_keep_14 (by decide) ?_
    refine lv_iadd hx hb dX3_keep_15 ?_
    refine lv_bipush (v := 40) hx hb dX3_keep_16 (by decide) ?_
    refine lv_irem hx hb dX3_keep_18 (by decide) ?_
    refine z_put (r := upd F 1 ((F 1 + 1) - (F 1 + 1) / 40 * 40)) (ci := 3) (C := RX3) (T := TX3) (N := 3) hx hb hts inT_X3 tyX3 tyX3_ok nmX3 hown hK hP hD hS 0 rfl rfl 1 (by decide) tf_X3_17 rfl (by decide +kernel) (Nat.le_of_ble_eq_true rfl) (o_X3 r) (o_X3_s1 _ _ _) (fun z => hwc D cI h r b S z ad hs) (fun _ => rfl) dX3_keep_19 (kf := some) rfl (fun F2 H locs hf2 hP hD hS => ?_)
    rw [← Option.some.inj hf2] at hf
    refine lv_aload_n hx hb dX3_keep_22 rfl (lv_at hl 0 rfl) ?_
    refine lv_dup hx hb dX3_keep_23 rfl ?_
    refine z_get (ci := 3) (C := RX3) (T := TX3) (N := 3) (v := .int (F2 2)) hx hb hts inT_X3 hown hK hP 0 rfl rfl 2 (by decide) tf_X3_21 rfl dX3_keep_24 ?_
    refine lv_iconst (v := 1) hx hb dX3_keep_27 (by decide) ?_
    refine lv_isub hx hb dX3_keep_28 ?_
    refine z_put (r := upd F2 2 (F2 2 - 1)) (ci := 3) (C := RX3) (T := TX3) (N := 3) hx hb hts inT_X3 tyX3 tyX3_ok nmX3 hown hK hP hD hS 0 rfl rfl 2 (by decide) tf_X3_21 rfl (by decide +kernel) (Nat.le_of_ble_eq_true rfl) (o_X3 r) (o_X3_s2 _ _ _) (fun z => hwc D cI h r b S z ad hs) (fun _ => rfl) dX3_keep_29 (kf := some) rfl (fun F3 H locs hf3 hP hD hS => ?_)
    rw [← Option.some.inj hf3] at hf
    exact L32 F3 _ _ _ hf hP hD hS hl
