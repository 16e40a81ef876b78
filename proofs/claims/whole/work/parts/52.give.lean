/-! ===== giveBack ===== -/
theorem pm_of {α : Type} {l₁ l₂ : List α} (h : ∀ (d : DecidableEq α) (x : α), l₁.count x = l₂.count x) : l₁.Perm l₂ := by
  classical
  exact List.perm_iff_count.mpr (fun x => h _ x)
theorem pm_c {α : Type} {l₁ l₂ : List α} (h : l₁.Perm l₂) (d : DecidableEq α) (x : α) : l₁.count x = l₂.count x := h.count_eq x
/-- the last act is taken back: the answer, the history's numbers, the machine -/
def m_give (F : Nat → Int32) (hs : Nat → Option MSt) (S : MSt) : Option (Int32 × (Nat → Int32) × MSt) :=
  if F 2 = 0 then some (0, F, S)
  else
    if pl40 (upd F 2 (F 2 - 1)) (upd F 2 (F 2 - 1) 2) < 0 ∨ 40 ≤ (pl40 (upd F 2 (F 2 - 1)) (upd F 2 (F 2 - 1) 2)).toNatClampNeg then none
    else bd (hs (pl40 (upd F 2 (F 2 - 1)) (upd F 2 (F 2 - 1) 2)).toNatClampNeg) fun T => bd (m_copyM S T) fun S1 => some (1, upd F 2 (F 2 - 1), S1)
abbrev rm_give : Room := { frames := 3, cells := 0, slots := 0, locals := 90 }
set_option maxHeartbeats 4000000 in
set_option maxRecDepth 100000 in
theorem c_give (l : Launch) (D : va_G) (cI : ClassId) (h : Nat) (r : Nat → Nat) (b : MAd) (S : MSt) (F : Nat → Int32) (ad : Nat → MAd) (hs : Nat → Option MSt) (Rr : Int32 × (Nat → Int32) × MSt) (hf : m_give F hs S = some Rr) : CTi l yX3_giveBack (Cond.code yX3_giveBack cX3_giveBack 2 (some .boolean)) rm_give D cI [.ref h, .ref b.1] (hwc D cI h r b S F ad hs) Rr.1 (hwc D cI h r b Rr.2.2 Rr.2.1 ad hs) := by
  refine z_begin_z (own := RX3) (ρ := Int32 × (Nat → Int32) × MSt) (fun u => hwc D cI h r b u.2.2 u.2.1 ad hs) (fun u => u.1) (by decide +kernel) rfl (Nat.le_of_ble_eq_true rfl) ?_
  intro p e s m args below meth c ls Q A hx hb hml hts hcx hown hK hX hA hP hD hS hl hret
  have hl : lv_has ls 2 [(0, .ref h), (1, .ref b.1)] := hl
  unfold m_give at hf
  refine lv_aload_n hx hb dX3_giveBack_0 rfl (lv_at hl 0 rfl) ?_
  refine z_get (ci := 3) (C := RX3) (T := TX3) (N := 3) (v := .int (F 2)) hx hb hts inT_X3 hown hK hP 0 rfl rfl 2 (by decide) tf_X3_21 rfl dX3_giveBack_1 ?_
  refine z_if_ne (tgt := 9) hx hb dX3_giveBack_4 (by decide) hf (fun hf => ?_) (fun hf => ?_)
  · refine lv_aload_n hx hb dX3_giveBack_9 rfl (lv_at hl 0 rfl) ?_
    refine lv_dup hx hb dX3_giveBack_10 rfl ?_
    refine z_get (ci := 3) (C := RX3) (T := TX3) (N := 3) (v := .int (F 2)) hx hb hts inT_X3 hown hK hP 0 rfl rfl 2 (by decide) tf_X3_21 rfl dX3_giveBack_11 ?_
    refine lv_iconst (v := 1) hx hb dX3_giveBack_14 (by decide) ?_
    refine lv_isub hx hb dX3_giveBack_15 ?_
    refine z_put (r := upd F 2 (F 2 - 1)) (ci := 3) (C := RX3) (T := TX3) (N := 3) hx hb hts inT_X3 tyX3 tyX3_ok nmX3 hown hK hP hD hS 0 rfl rfl 2 (by decide) tf_X3_21 rfl (by decide +kernel) (Nat.le_of_ble_eq_true rfl) (o_X3 r) (o_X3_s2 _ _ _) (fun z => hwc D cI h r b S z ad hs) (fun _ => rfl) dX3_giveBack_16 (kf := some) rfl (fun F1 H locs hf2 hP hD hS => ?_)
    rw [← Option.some.inj hf2] at hf
    by_cases hin : pl40 F1 (F1 2) < 0 ∨ 40 ≤ (pl40 F1 (F1 2)).toNatClampNeg
    · rw [if_pos hin] at hf; cases hf
    rw [if_neg hin] at hf
    have hk40 : (pl40 F1 (F1 2)).toNatClampNeg < 40 := Nat.lt_of_not_le (fun q => hin (Or.inr q))
    obtain ⟨T, hrow, hf⟩ := bd_some hf
    obtain ⟨S1, hS1, hf⟩ := bd_some hf
    refine lv_aload_n hx hb dX3_giveBack_19 rfl (lv_at hl 1 rfl) ?_
    refine lv_aload_n hx hb dX3_giveBack_20 rfl (lv_at hl 0 rfl) ?_
    refine lv_aload_n hx hb dX3_giveBack_21 rfl (lv_at hl 0 rfl) ?_
    refine z_get (ci := 3) (C := RX3) (T := TX3) (N := 3) (v := .int (F1 2)) hx hb hts inT_X3 hown hK hP 0 rfl rfl 2 (by decide) tf_X3_21 rfl dX3_giveBack_22 ?_
    have ha : hsf ad hs (pl40 F1 (F1 2)).toNatClampNeg = some (ad (pl40 F1 (F1 2)).toNatClampNeg).1 := by simp [hsf, hrow]
    refine z_cqF (fr := mw cI b S ++ hw cI ad hs) (ws1 := fun _ => hwc D cI h r b S F1 ad hs) (z_rVF (rest := [.ref b.1]) (fr := mw cI b S ++ hw cI ad hs) hx hb hml hown hcx hl.1 (c_rowAt_some l D cI h r F1 (hsf ad hs) (F1 2) _ hin ha _) tl_X3_25 ti_X3_rowAt tz_X3_rowAt tn_X3 tc_X3_rowAt tm_X3_rowAt rfl rfl ⟨Nat.le_of_ble_eq_true rfl, Nat.le_of_ble_eq_true rfl⟩ hK hX hS hA hP hD (List.Perm.refl _) (List.mem_cons_self) rfl rfl rfl (Nat.le_of_ble_eq_true rfl) dX3_giveBack_25 ⟨Nat.zero_le _, Nat.zero_le _⟩) hP hD hS hA (List.Perm.refl _) (fun _ => List.Perm.refl _) (fun _ H locs hP hD hS => ?_)
    have hw0 := hw_some (cI := cI) (ad := ad) hk40 hrow
    have hp : (hwc D cI h r b S F1 ad hs).Perm ((mw cI b S ++ mw cI (ad (pl40 F1 (F1 2)).toNatClampNeg) T) ++ (hst D h r F1 (hsf ad hs) ++ hwx cI ad hs (pl40 F1 (F1 2)).toNatClampNeg)) := pm_of (fun d x => by have h1 := pm_c hw0 d x; simp only [List.count_append] at h1 ⊢; omega)
    have hp1 : (hwc D cI h r b S1 F1 ad hs).Perm ((mw cI b S1 ++ mw cI (ad (pl40 F1 (F1 2)).toNatClampNeg) T) ++ (hst D h r F1 (hsf ad hs) ++ hwx cI ad hs (pl40 F1 (F1 2)).toNatClampNeg)) := pm_of (fun d x => by have h1 := pm_c hw0 d x; simp only [List.count_append] at h1 ⊢; omega)
    refine z_cvF (z_rVF (rest := []) hx hb hml hown hcx hl.1 (c_copyM l D cI b (ad (pl40 F1 (F1 2)).toNatClampNeg) S T S1 hS1 _) tl_X3_29 ti_X4_copyFrom tz_X4_copyFrom tn_X4 tc_X4_copyFrom tm_X4_copyFrom rfl rfl ⟨Nat.le_of_ble_eq_true rfl, Nat.le_of_ble_eq_true rfl⟩ hK hX hS hA hP hD hp (List.mem_cons_self) rfl rfl rfl (Nat.le_of_ble_eq_true rfl) dX3_giveBack_28 ⟨Nat.zero_le _, Nat.zero_le _⟩) hP hD hS hA hp hp1 (fun H locs hP hD hS => ?_)
    refine lv_iconst (v := 1) hx hb dX3_giveBack_31 (by decide) ?_
    exact hret (1, F1, S1) _ _ _ _ (Or.inr rfl) hf hP hD hS dX3_giveBack_32
  · refine lv_iconst (v := 0) hx hb dX3_giveBack_7 (by decide) ?_
    exact hret (0, F, S) _ _ _ _ (Or.inl rfl) hf hP hD hS dX3_giveBack_8
/-! ===== a history made like another one ===== -/
def cnt40 (hs : Nat → Option MSt) : Nat := (List.range 40).countP (fun i => (hs i).isSome)
theorem cnt_up {hs : Nat → Option MSt} {k : Nat} (T : MSt) (hk : k < 40) : cnt40 (va_up hs k (some T)) = cnt40 hs + (if (hs k).isSome then 0 else 1) := by
  have h : (List.range 40).Perm (k :: (List.range 40).erase k) := List.perm_cons_erase (List.mem_range.mpr hk)
  unfold cnt40
  rw [h.countP_eq, h.countP_eq, List.countP_cons, List.countP_cons]
  have h2 : ((List.range 40).erase k).countP (fun i => (va_up hs k (some T) i).isSome) = ((List.range 40).erase k).countP (fun i => (hs i).isSome) := by
    apply List.countP_congr
    intro j hj
    have hjk : j ≠ k := by
      intro e
      subst e
      exact absurd hj (List.Nodup.not_mem_erase List.nodup_range)
    simp [va_up, hjk]
  rw [h2]
  have h3 : va_up hs k (some T) k = some T := if_pos rfl
  rw [h3]
  cases hs k <;> simp
/-- from the i-th row on -/
def m_hcp (F Fo : Nat → Int32) (ho : Nat → Option MSt) : Nat → Int32 → (Nat → Option MSt) → Option (Nat → Option MSt)
  | 0, _, _ => none
  | n + 1, i, hs =>
    if F 2 ≤ i then some hs
    else
      if pl40 F i < 0 ∨ 40 ≤ (pl40 F i).toNatClampNeg then none
      else
        if pl40 Fo i < 0 ∨ 40 ≤ (pl40 Fo i).toNatClampNeg then none
        else bd (ho (pl40 Fo i).toNatClampNeg) fun T0 => bd (m_copyM ((hs (pl40 F i).toNatClampNeg).getD zeroM) T0) fun T => m_hcp F Fo ho n (i + 1) (va_up hs (pl40 F i).toNatClampNeg (some T))
theorem hcp_mono {F Fo : Nat → Int32} {ho : Nat → Option MSt} : ∀ (n : Nat) (i : Int32) (hs Rr : Nat → Option MSt), m_hcp F Fo ho n i hs = some Rr → cnt40 hs ≤ cnt40 Rr := by
  intro n
  induction n with
  | zero => intro i hs Rr h; cases (show (none : Option _) = some Rr from h)
  | succ n ih =>
    intro i hs Rr h
    have h := (m_hcp.eq_2 _ _ _ _ _ _).symm.trans h
    by_cases c1 : F 2 ≤ i
    · rw [if_pos c1] at h
      rw [Option.some.inj h]
      exact Nat.le_refl _
    · rw [if_neg c1] at h
      by_cases c2 : pl40 F i < 0 ∨ 40 ≤ (pl40 F i).toNatClampNeg
      · rw [if_pos c2] at h; cases h
      · rw [if_neg c2] at h
        by_cases c3 : pl40 Fo i < 0 ∨ 40 ≤ (pl40 Fo i).toNatClampNeg
        · rw [if_pos c3] at h; cases h
        · rw [if_neg c3] at h
          obtain ⟨T0, -, h⟩ := bd_some h
          obtain ⟨T, -, h⟩ := bd_some h
          have h1 := ih _ _ _ h
          rw [cnt_up T (Nat.lt_of_not_le (fun q => c2 (Or.inr q)))] at h1
          omega
def hcpF (F Fo : Nat → Int32) : Nat → Int32 := upd (upd F 1 0) 2 (Fo 2)
/-- the numbers and the rows of a history made like another one -/
def m_hcopy (F Fo : Nat → Int32) (hs ho : Nat → Option MSt) : Option ((Nat → Int32) × (Nat → Option MSt)) := bd (m_hcp (hcpF F Fo) Fo ho fuelN 0 hs) fun hs1 => some (hcpF F Fo, hs1)
abbrev h2w (D : va_G) (cI : ClassId) (h ho : Nat) (r ro : Nat → Nat) (F Fo : Nat → Int32) (ad ao : Nat → MAd) (hs os : Nat → Option MSt) : va_W := hst D h r F (hsf ad hs) ++ (hst D ho ro Fo (hsf ao os) ++ (hw cI ad hs ++ hw cI ao os))
abbrev rm_hcopy (n : Nat) : Room := { frames := 4, cells := 11 * n, slots := 432 * n, locals := 100 }
set_option maxHeartbeats 4000000 in
set_option maxRecDepth 100000 in
theorem c_hcopy (l : Launch) (D : va_G) (cI : ClassId) (h ho : Nat) (r ro : Nat → Nat) (F Fo : Nat → Int32) (ad ao : Nat → MAd) (hs os : Nat → Option MSt) (Rr : (Nat → Int32) × (Nat → Option MSt)) (hf : m_hcopy F Fo hs os = some Rr) : CTn l yX3_copyFrom (Cond.code yX3_copyFrom cX3_copyFrom 3 none) (rm_hcopy (cnt40 Rr.2 - cnt40 hs)) D cI [.ref h, .ref ho] (h2w D cI h ho r ro F Fo ad ao hs os) (fun ad1 => h2w D cI h ho r ro Rr.1 Fo ad1 ao Rr.2 os) (11 * (cnt40 Rr.2 - cnt40 hs)) (432 * (cnt40 Rr.2 - cnt40 hs)) := by
  obtain ⟨hsR, hfm, hRr⟩ := bd_some hf
  have hRr := Option.some.inj hRr
  subst hRr
  obtain ⟨N, hN⟩ : ∃ N, N = cnt40 hsR - cnt40 hs := ⟨_, rfl⟩
  show CTn l yX3_copyFrom _ (rm_hcopy (cnt40 hsR - cnt40 hs)) D cI _ _ _ (11 * (cnt40 hsR - cnt40 hs)) (432 * (cnt40 hsR - cnt40 hs))
  rw [← hN]
  refine z_beginM (Qc := fun sz => Rn D (h2w D cI h ho r ro F Fo ad ao hs os) (fun ad1 => h2w D cI h ho r ro (hcpF F Fo) Fo ad1 ao hsR os) sz) (own := RX3) (11 * N) (432 * N) (by decide +kernel) rfl (Nat.le_of_ble_eq_true rfl) ?_
  intro p e s m args below meth c ls A hx hb hr hlocks hml hts hcx hown hK hX hA hAe hP hD hS hl
  have hl : lv_has ls 3 [(0, .ref h), (1, .ref ho)] := hl
  generalize hQ : MQ below (Rn D (h2w D cI h ho r ro F Fo ad ao hs os) (fun ad1 => h2w D cI h ho r ro (hcpF F Fo) Fo ad1 ao hsR os) s.heap.size) args s (11 * N) (432 * N) A = Q
  have L15 : ∀ (n15 : Nat) (i : Int32) (ad1 : Nat → MAd) (hs1 : Nat → Option MSt) (H : Heap) (locs : List Loc) (ls : Array Slot) (k : Nat), m_hcp (hcpF F Fo) Fo os n15 i hs1 = some hsR → cnt40 hs1 = cnt40 hs + k → va_P D vwCl (h2w D cI h ho r ro (hcpF F Fo) Fo ad1 ao hs1 os) H → va_D A (h2w D cI h ho r ro (hcpF F Fo) Fo ad1 ao hs1 os) → va_S A s.heap H locs → lv_has ls 3 [(0, .ref h), (1, .ref ho), (2, .int i)] → W p l e (rm_hcopy N) s m args below meth c H locs (11 * k) (432 * k) Q (F0 m 15 ls []) := by
    intro n15
    induction n15 with
    | zero => intro i ad1 hs1 H locs ls k hf; cases (show (none : Option _) = some hsR from hf)
    | succ n15 ih15 =>
      intro i ad1 hs1 H locs ls k hf hk hP hD hS hl
      have hmono := hcp_mono _ _ _ _ hf
      have hf := (m_hcp.eq_2 _ _ _ _ _ _).symm.trans hf
      refine lv_iload_n hx hb dX3_copyFrom_15 rfl (lv_at hl 2 rfl) ?_
      refine lv_aload_n hx hb dX3_copyFrom_16 rfl (lv_at hl 0 rfl) ?_
      refine z_get (ci := 3) (C := RX3) (T := TX3) (N := 3) (v := .int (hcpF F Fo 2)) hx hb hts inT_X3 hown hK hP 0 rfl rfl 2 (by decide) tf_X3_21 rfl dX3_copyFrom_17 ?_
      refine z_icmp_ge (tgt := 42) hx hb dX3_copyFrom_20 (by decide) hf (fun hf => ?_) (fun hf => ?_)
      · have e1 := Option.some.inj hf
        subst e1
        subst hAe
        subst hQ
        have hkN : k ≤ N := by omega
        refine W.widen (k := 11 * N) (n := 432 * N) (by omega) (by omega) ?_
        exact W.vret hx hb hr (fun t ht hW => ⟨⟨ad1, rfl, trivial, by rw [ht]; exact hP, hD⟩, hS.F ht⟩) hS.2.2 dX3_copyFrom_42 hlocks
      · by_cases hin : pl40 (hcpF F Fo) i < 0 ∨ 40 ≤ (pl40 (hcpF F Fo) i).toNatClampNeg
        · rw [if_pos hin] at hf; cases hf
        rw [if_neg hin] at hf
        by_cases hino : pl40 Fo i < 0 ∨ 40 ≤ (pl40 Fo i).toNatClampNeg
        · rw [if_pos hino] at hf; cases hf
        rw [if_neg hino] at hf
        have hk40 : (pl40 (hcpF F Fo) i).toNatClampNeg < 40 := Nat.lt_of_not_le (fun q => hin (Or.inr q))
        have ho40 : (pl40 Fo i).toNatClampNeg < 40 := Nat.lt_of_not_le (fun q => hino (Or.inr q))
        obtain ⟨T0, hrowo, hf⟩ := bd_some hf
        obtain ⟨T, hT, hf⟩ := bd_some hf
        obtain ⟨kp, hkp⟩ : ∃ z, z = (pl40 (hcpF F Fo) i).toNatClampNeg := ⟨_, rfl⟩
        obtain ⟨ko, hko⟩ : ∃ z, z = (pl40 Fo i).toNatClampNeg := ⟨_, rfl⟩
        rw [← hkp] at hk40 hT hf
        rw [← hko] at ho40 hrowo
        have hao : hsf ao os (pl40 Fo i).toNatClampNeg = some (ao ko).1 := by rw [← hko]; simp [hsf, hrowo]
        have hwo := hw_some (cI := cI) (ad := ao) ho40 hrowo
        have L28 : ∀ (a : MAd) (H : Heap) (locs : List Loc) (k1 : Nat), cnt40 (va_up hs1 kp (some T)) = cnt40 hs + k1 → va_P D vwCl (hst D h r (hcpF F Fo) (va_up (hsf ad1 hs1) kp (some a.1)) ++ (hst D ho ro Fo (hsf ao os) ++ (mw cI a ((hs1 kp).getD zeroM) ++ (hwx cI ad1 hs1 kp ++ hw cI ao os)))) H → va_D A (hst D h r (hcpF F Fo) (va_up (hsf ad1 hs1) kp (some a.1)) ++ (hst D ho ro Fo (hsf ao os) ++ (mw cI a ((hs1 kp).getD zeroM) ++ (hwx cI ad1 hs1 kp ++ hw cI ao os)))) → va_S A s.heap H locs → W p l e (rm_hcopy N) s m args below meth c H locs (11 * k1) (432 * k1) Q (F0 m 28 ls [.ref a.1]) := by
          intro a H locs k1 hk1 hP hD hS
          have hm1 := hcp_mono _ _ _ _ hf
          have hb1 : 11 * k1 ≤ 11 * N ∧ 432 * k1 ≤ 432 * N := by constructor <;> omega
          refine lv_aload_n hx hb dX3_copyFrom_28 rfl (lv_at hl 1 rfl) ?_
          refine lv_iload_n hx hb dX3_copyFrom_29 rfl (lv_at hl 2 rfl) ?_
          have hp : (hst D h r (hcpF F Fo) (va_up (hsf ad1 hs1) kp (some a.1)) ++ (hst D ho ro Fo (hsf ao os) ++ (mw cI a ((hs1 kp).getD zeroM) ++ (hwx cI ad1 hs1 kp ++ hw cI ao os)))).Perm (hst D ho ro Fo (hsf ao os) ++ (hst D h r (hcpF F Fo) (va_up (hsf ad1 hs1) kp (some a.1)) ++ (mw cI a ((hs1 kp).getD zeroM) ++ (hwx cI ad1 hs1 kp ++ hw cI ao os)))) := pm_of (fun d x => by simp only [List.count_append]; omega)
          refine z_cqF (ws1 := fun _ => hst D h r (hcpF F Fo) (va_up (hsf ad1 hs1) kp (some a.1)) ++ (hst D ho ro Fo (hsf ao os) ++ (mw cI a ((hs1 kp).getD zeroM) ++ (hwx cI ad1 hs1 kp ++ hw cI ao os)))) (z_rVF (rest := [.ref a.1]) hx hb hml hown hcx hl.1 (c_rowAt_some l D cI ho ro Fo (hsf ao os) i _ hino hao _) tl_X3_25 ti_X3_rowAt tz_X3_rowAt tn_X3 tc_X3_rowAt tm_X3_rowAt rfl rfl ⟨Nat.le_of_ble_eq_true rfl, Nat.le_of_ble_eq_true rfl⟩ hK hX hS hA hP hD hp (List.mem_cons_self) rfl rfl rfl (Nat.le_of_ble_eq_true rfl) dX3_copyFrom_30 hb1) hP hD hS hA hp (fun _ => hp) (fun _ H locs hP hD hS => ?_)
          have hp2 : (hst D h r (hcpF F Fo) (va_up (hsf ad1 hs1) kp (some a.1)) ++ (hst D ho ro Fo (hsf ao os) ++ (mw cI a ((hs1 kp).getD zeroM) ++ (hwx cI ad1 hs1 kp ++ hw cI ao os)))).Perm ((mw cI a ((hs1 kp).getD zeroM) ++ mw cI (ao ko) T0) ++ (hst D h r (hcpF F Fo) (va_up (hsf ad1 hs1) kp (some a.1)) ++ (hst D ho ro Fo (hsf ao os) ++ (hwx cI ad1 hs1 kp ++ hwx cI ao os ko)))) := pm_of (fun d x => by have h1 := pm_c hwo d x; simp only [List.count_append] at h1 ⊢; omega)
          have hp3 : (h2w D cI h ho r ro (hcpF F Fo) Fo (va_up ad1 kp a) ao (va_up hs1 kp (some T)) os).Perm ((mw cI a T ++ mw cI (ao ko) T0) ++ (hst D h r (hcpF F Fo) (va_up (hsf ad1 hs1) kp (some a.1)) ++ (hst D ho ro Fo (hsf ao os) ++ (hwx cI ad1 hs1 kp ++ hwx cI ao os ko)))) := by
            unfold h2w
            rw [hsf_up]
            have hwt := hw_up (cI := cI) (ad := ad1) (hs := hs1) a T hk40
            exact pm_of (fun d x => by have h1 := pm_c hwo d x; have h2 := pm_c hwt d x; simp only [List.count_append] at h1 h2 ⊢; omega)
          refine z_cvF (z_rVF (rest := []) hx hb hml hown hcx hl.1 (c_copyM l D cI a (ao ko) ((hs1 kp).getD zeroM) T0 T hT _) tl_X3_29 ti_X4_copyFrom tz_X4_copyFrom tn_X4 tc_X4_copyFrom tm_X4_copyFrom rfl rfl ⟨Nat.le_of_ble_eq_true rfl, Nat.le_of_ble_eq_true rfl⟩ hK hX hS hA hP hD hp2 (List.mem_cons_self) rfl rfl rfl (Nat.le_of_ble_eq_true rfl) dX3_copyFrom_33 hb1) hP hD hS hA hp2 hp3 (fun H locs hP hD hS => ?_)
          refine lv_iinc (v := i + 1) (lv' := [(2, .int (i + 1)), (0, .ref h), (1, .ref ho)]) hx hb dX3_copyFrom_36 hl (k := 2) rfl rfl (by decide) rfl (fun ls hl => ?_)
          refine lv_goto (tgt := 15) hx hb dX3_copyFrom_39 (by decide) ?_
          exact ih15 (i + 1) _ _ _ _ _ k1 hf hk1 hP hD hS (lv_sub hl [1, 2, 0] rfl)
        refine lv_aload_n hx hb dX3_copyFrom_23 rfl (lv_at hl 0 rfl) ?_
        refine lv_iload_n hx hb dX3_copyFrom_24 rfl (lv_at hl 2 rfl) ?_
        have hm1 := hcp_mono _ _ _ _ hf
        have hcu := cnt_up (hs := hs1) T hk40
        cases hrow : hs1 kp with
        | some S0 =>
          rw [hrow] at hcu
          have ha : hsf ad1 hs1 (pl40 (hcpF F Fo) i).toNatClampNeg = some (ad1 kp).1 := by rw [← hkp]; simp [hsf, hrow]
          have hb1 : 11 * k ≤ 11 * N ∧ 432 * k ≤ 432 * N := by constructor <;> omega
          have hfe : va_up (hsf ad1 hs1) kp (some (ad1 kp).1) = hsf ad1 hs1 := by
            funext j
            by_cases hj : j = kp
            · subst hj; simp [va_up, hsf, hrow]
            · simp [va_up, hj]
          have hwt := hw_some (cI := cI) (ad := ad1) hk40 hrow
          have hp1 : (hst D h r (hcpF F Fo) (va_up (hsf ad1 hs1) kp (some (ad1 kp).1)) ++ (hst D ho ro Fo (hsf ao os) ++ (mw cI (ad1 kp) ((hs1 kp).getD zeroM) ++ (hwx cI ad1 hs1 kp ++ hw cI ao os)))).Perm (hst D h r (hcpF F Fo) (hsf ad1 hs1) ++ (hst D ho ro Fo (hsf ao os) ++ (hw cI ad1 hs1 ++ hw cI ao os))) := by
            rw [hfe, hrow]
            exact pm_of (fun d x => by have h1 := pm_c hwt d x; simp only [List.count_append, Option.getD_some] at h1 ⊢; omega)
          refine z_cqF (fr := hst D ho ro Fo (hsf ao os) ++ (hw cI ad1 hs1 ++ hw cI ao os)) (z_rVF (rest := []) (fr := hst D ho ro Fo (hsf ao os) ++ (hw cI ad1 hs1 ++ hw cI ao os)) hx hb hml hown hcx hl.1 (c_rowAt_some l D cI h r (hcpF F Fo) (hsf ad1 hs1) i _ hin ha _) tl_X3_25 ti_X3_rowAt tz_X3_rowAt tn_X3 tc_X3_rowAt tm_X3_rowAt rfl rfl ⟨Nat.le_of_ble_eq_true rfl, Nat.le_of_ble_eq_true rfl⟩ hK hX hS hA hP hD (List.Perm.refl _) (List.mem_cons_self) rfl rfl rfl (Nat.le_of_ble_eq_true rfl) dX3_copyFrom_25 hb1) hP hD hS hA (List.Perm.refl _) (fun _ => hp1) (fun _ H locs hP hD hS => ?_)
          exact L28 (ad1 kp) H locs k (by rw [hcu, hk]; simp) hP hD hS
        | none =>
          rw [hrow] at hcu
          have ha : hsf ad1 hs1 (pl40 (hcpF F Fo) i).toNatClampNeg = none := by rw [← hkp]; simp [hsf, hrow]
          have hcu : cnt40 (va_up hs1 kp (some T)) = cnt40 hs1 + 1 := by simpa using hcu
          have hb1 : 11 * k + 11 ≤ 11 * N ∧ 432 * k + 432 ≤ 432 * N := by constructor <;> omega
          have hwt := hw_none (cI := cI) (ad := ad1) hk40 hrow
          have hp1 : ∀ a : MAd, (hst D h r (hcpF F Fo) (va_up (hsf ad1 hs1) kp (some a.1)) ++ (hst D ho ro Fo (hsf ao os) ++ (mw cI a ((hs1 kp).getD zeroM) ++ (hwx cI ad1 hs1 kp ++ hw cI ao os)))).Perm ((hst D h r (hcpF F Fo) (va_up (hsf ad1 hs1) (pl40 (hcpF F Fo) i).toNatClampNeg (some a.1)) ++ mw cI a zeroM) ++ (hst D ho ro Fo (hsf ao os) ++ (hw cI ad1 hs1 ++ hw cI ao os))) := by
            intro a
            rw [← hkp, hrow]
            exact pm_of (fun d x => by have h1 := pm_c hwt d x; simp only [List.count_append, Option.getD_none] at h1 ⊢; omega)
          refine z_cqF (fr := hst D ho ro Fo (hsf ao os) ++ (hw cI ad1 hs1 ++ hw cI ao os)) (z_rVF (rest := []) (fr := hst D ho ro Fo (hsf ao os) ++ (hw cI ad1 hs1 ++ hw cI ao os)) hx hb hml hown hcx hl.1 (c_rowAt_none l D cI h r (hcpF F Fo) (hsf ad1 hs1) i hin ha _) tl_X3_25 ti_X3_rowAt tz_X3_rowAt tn_X3 tc_X3_rowAt tm_X3_rowAt rfl rfl ⟨Nat.le_of_ble_eq_true rfl, Nat.le_of_ble_eq_true rfl⟩ hK hX hS hA hP hD (List.Perm.refl _) (List.mem_cons_self) rfl rfl rfl (Nat.le_of_ble_eq_true rfl) dX3_copyFrom_25 hb1) hP hD hS hA (List.Perm.refl _) hp1 (fun a H locs hP hD hS => ?_)
          exact L28 a H locs (k + 1) (by rw [hcu, hk]; omega) hP hD hS
  refine lv_aload_n hx hb dX3_copyFrom_0 rfl (lv_at hl 0 rfl) ?_
  refine lv_iconst (v := 0) hx hb dX3_copyFrom_1 (by decide) ?_
  refine z_put (r := upd F 1 0) (ci := 3) (C := RX3) (T := TX3) (N := 3) hx hb hts inT_X3 tyX3 tyX3_ok nmX3 hown hK hP hD hS 0 rfl rfl 1 (by decide) tf_X3_17 rfl (by decide +kernel) (Nat.le_of_ble_eq_true rfl) (o_X3 r) (o_X3_s1 _ _ _) (fun z => h2w D cI h ho r ro z Fo ad ao hs os) (fun _ => rfl) dX3_copyFrom_2 (kf := some) rfl (fun F1 H locs hf2 hP hD hS => ?_)
  have e1 := Option.some.inj hf2
  refine lv_aload_n hx hb dX3_copyFrom_5 rfl (lv_at hl 0 rfl) ?_
  refine lv_aload_n hx hb dX3_copyFrom_6 rfl (lv_at hl 1 rfl) ?_
  refine z_get (ci := 3) (C := RX3) (T := TX3) (N := 3) (v := .int (Fo 2)) hx hb hts inT_X3 hown hK hP 2 rfl rfl 2 (by decide) tf_X3_21 rfl dX3_copyFrom_7 ?_
  refine z_put (r := upd F1 2 (Fo 2)) (ci := 3) (C := RX3) (T := TX3) (N := 3) hx hb hts inT_X3 tyX3 tyX3_ok nmX3 hown hK hP hD hS 0 rfl rfl 2 (by decide) tf_X3_21 rfl (by decide +kernel) (Nat.le_of_ble_eq_true rfl) (o_X3 r) (o_X3_s2 _ _ _) (fun z => h2w D cI h ho r ro z Fo ad ao hs os) (fun _ => rfl) dX3_copyFrom_10 (kf := some) rfl (fun F2 H locs hf3 hP hD hS => ?_)
  have e2 : F2 = hcpF F Fo := by rw [Option.some.inj hf3, e1]; rfl
  subst e2
  refine lv_iconst (v := 0) hx hb dX3_copyFrom_13 (by decide) ?_
  refine lv_istore_n (lv' := [(2, .int 0), (0, .ref h), (1, .ref ho)]) hx hb dX3_copyFrom_14 rfl hl (by decide) rfl (fun ls hl => ?_)
  exact L15 fuelN 0 ad hs _ _ _ 0 hfm rfl hP hD hS (lv_sub hl [1, 2, 0] rfl)
