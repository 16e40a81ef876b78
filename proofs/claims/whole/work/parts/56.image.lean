/-! ===== the image of all: image() and restore() ===== -/
def initA : ASt := (Fi_X0, zeroM, Fi_X3, fun _ => none, fun _ => 0, fun _ => 0)
theorem hw_empty (cI : ClassId) (ad : Nat → MAd) : hw cI ad (fun _ => none) = [] := by
  unfold hw
  rw [List.flatMap_eq_nil_iff]
  intro i _
  rfl
theorem cnt_empty : cnt40 (fun _ => none) = 0 := by decide
/-- the object, its All, the kept All, the machines of both histories -/
abbrev kwS (D : va_G) (cI : ClassId) (h : Nat) (r : Nat → Nat) (F : Nat → Int32) (a b : AAd) (ad ao : Nat → MAd) (S T : ASt) : va_W := [(h, .inr (11, o_X11 r F (some b.1)))] ++ a2w D cI b a ao ad T S
abbrev kwN (D : va_G) (cI : ClassId) (h : Nat) (r : Nat → Nat) (F : Nat → Int32) (a : AAd) (ad : Nat → MAd) (S : ASt) : va_W := [(h, .inr (11, o_X11 r F none))] ++ (aw D cI a ad S ++ hw cI ad S.2.2.2.1)
abbrev kwR (D : va_G) (cI : ClassId) (h : Nat) (r : Nat → Nat) (F : Nat → Int32) (a b : AAd) (ad ao : Nat → MAd) (S T : ASt) : va_W := [(h, .inr (11, o_X11 r F (some b.1)))] ++ a2w D cI a b ad ao S T
abbrev rm_image (n k j : Nat) : Room := { frames := 6, cells := k + 11 * n, slots := j + 432 * n, locals := 150 }
set_option maxHeartbeats 4000000 in
set_option maxRecDepth 100000 in
theorem c_imageS (l : Launch) (D : va_G) (cI : ClassId) (h : Nat) (r : Nat → Nat) (F : Nat → Int32) (r1 : (Nat → Nat) × (Nat → Nat) × (Nat → Nat) × (Nat → Nat)) (b : AAd) (ad ao : Nat → MAd) (S T Rr : ASt) (hf : m_acopy T S = some Rr) : CTn l yX11_image (Cond.code yX11_image cX11_image 1 none) (rm_image (cnt40 Rr.2.2.2.1 - cnt40 T.2.2.2.1) 0 0) D cI [.ref h] (kwS D cI h r F (r 3, r1) b ad ao S T) (fun ao1 => kwS D cI h r (upd F 5 1) (r 3, r1) b ad ao1 S Rr) (0 + 11 * (cnt40 Rr.2.2.2.1 - cnt40 T.2.2.2.1)) (0 + 432 * (cnt40 Rr.2.2.2.1 - cnt40 T.2.2.2.1)) := by
  obtain ⟨N, hN⟩ : ∃ N, N = cnt40 Rr.2.2.2.1 - cnt40 T.2.2.2.1 := ⟨_, rfl⟩
  rw [← hN]
  refine z_beginM (Qc := fun sz => Rn D (kwS D cI h r F (r 3, r1) b ad ao S T) (fun ao1 => kwS D cI h r (upd F 5 1) (r 3, r1) b ad ao1 S Rr) sz) (own := RX11) (0 + 11 * N) (0 + 432 * N) (by decide +kernel) rfl (Nat.le_of_ble_eq_true rfl) ?_
  intro p e s m args below meth c ls A hx hb hr hlocks hml hts hcx hown hK hX hA hAe hP hD hS hl
  have hl : lv_has ls 1 [(0, .ref h)] := hl
  refine lv_aload_n hx hb dX11_image_0 rfl (lv_at hl 0 rfl) ?_
  refine z_get (ci := 11) (C := RX11) (T := TX11) (N := 13) (v := .ref b.1) hx hb hts inT_X11 hown hK hP 0 rfl rfl 4 (by decide) tf_X11_27 rfl dX11_image_1 ?_
  refine lv_ifnonnull (tgt := 18) hx hb dX11_image_4 (by decide) ?_
  refine lv_aload_n hx hb dX11_image_18 rfl (lv_at hl 0 rfl) ?_
  refine z_get (ci := 11) (C := RX11) (T := TX11) (N := 13) (v := .ref b.1) hx hb hts inT_X11 hown hK hP 0 rfl rfl 4 (by decide) tf_X11_27 rfl dX11_image_19 ?_
  refine lv_aload_n hx hb dX11_image_22 rfl (lv_at hl 0 rfl) ?_
  refine z_get (ci := 11) (C := RX11) (T := TX11) (N := 13) (v := .ref (r 3)) hx hb hts inT_X11 hown hK hP 0 rfl rfl 3 (by decide) tf_X11_23 rfl dX11_image_23 ?_
  have hp : ∀ (ao1 : Nat → MAd) (T1 : ASt), (kwS D cI h r F (r 3, r1) b ad ao1 S T1).Perm (a2w D cI b (r 3, r1) ao1 ad T1 S ++ [(h, .inr (11, o_X11 r F (some b.1)))]) := fun ao1 T1 => pm_of (fun d x => by simp only [List.count_append]; omega)
  refine z_cnF (ws1 := fun ao1 => kwS D cI h r F (r 3, r1) b ad ao1 S Rr) (fr := [(h, .inr (11, o_X11 r F (some b.1)))]) (z_rVF (rest := []) (fr := [(h, .inr (11, o_X11 r F (some b.1)))]) hx hb hml hown hcx hl.1 (c_acopy l D cI b (r 3, r1) ao ad T S Rr hf _) tl_X11_387 ti_X0_copyFrom tz_X0_copyFrom tn_X0 tc_X0_copyFrom tm_X0_copyFrom rfl rfl ⟨Nat.le_of_ble_eq_true rfl, Nat.le_of_ble_eq_true rfl⟩ hK hX hS hA hP hD (hp ao T) (List.mem_cons_self) rfl rfl rfl (Nat.le_of_ble_eq_true rfl) dX11_image_26 (by rw [← hN]; exact ⟨Nat.le_refl _, Nat.le_refl _⟩)) hP hD hS hA (hp ao T) (fun ao1 => hp ao1 Rr) (fun ao1 H locs hP hD hS => ?_)
  rw [← hN]
  refine lv_aload_n hx hb dX11_image_29 rfl (lv_at hl 0 rfl) ?_
  refine lv_iconst (v := 1) hx hb dX11_image_30 (by decide) ?_
  refine z_putb (r := upd F 5 1) (ci := 11) (C := RX11) (T := TX11) (N := 13) hx hb hts inT_X11 tyX11 tyX11_ok nmX11 hown hK hP hD hS 0 rfl rfl 5 (by decide) tf_X11_30 rfl (by decide +kernel) (Nat.le_of_ble_eq_true rfl) (fun z => o_X11 r z (some b.1)) (o_X11_s5 _ _ _ _) (fun z => kwS D cI h r z (r 3, r1) b ad ao1 S Rr) (fun _ => rfl) dX11_image_31 (kf := some) rfl (fun F1 H locs hf2 hP hD hS => ?_)
  rw [Option.some.inj hf2] at hP hD
  subst hAe
  exact W.vret hx hb hr (fun t ht hW => ⟨⟨ao1, rfl, trivial, by rw [ht]; exact hP, hD⟩, hS.F ht⟩) hS.2.2 dX11_image_34 hlocks
set_option maxHeartbeats 4000000 in
set_option maxRecDepth 100000 in
theorem c_imageN (l : Launch) (D : va_G) (cI : ClassId) (h : Nat) (r : Nat → Nat) (F : Nat → Int32) (r1 : (Nat → Nat) × (Nat → Nat) × (Nat → Nat) × (Nat → Nat)) (ad : Nat → MAd) (S Rr : ASt) (hf : m_acopy initA S = some Rr) : CTn l yX11_image (Cond.code yX11_image cX11_image 1 none) (rm_image (cnt40 Rr.2.2.2.1) 16 491) D cI [.ref h] (kwN D cI h r F (r 3, r1) ad S) (fun (u : AAd × (Nat → MAd)) => kwS D cI h r (upd F 5 1) (r 3, r1) u.1 ad u.2 S Rr) (16 + 11 * cnt40 Rr.2.2.2.1) (491 + 432 * cnt40 Rr.2.2.2.1) := by
  obtain ⟨N, hN⟩ : ∃ N, N = cnt40 Rr.2.2.2.1 := ⟨_, rfl⟩
  rw [← hN]
  refine z_beginM (Qc := fun sz => Rn D (kwN D cI h r F (r 3, r1) ad S) (fun (u : AAd × (Nat → MAd)) => kwS D cI h r (upd F 5 1) (r 3, r1) u.1 ad u.2 S Rr) sz) (own := RX11) (16 + 11 * N) (491 + 432 * N) (by decide +kernel) rfl (Nat.le_of_ble_eq_true rfl) ?_
  intro p e s m args below meth c ls A hx hb hr hlocks hml hts hcx hown hK hX hA hAe hP hD hS hl
  have hl : lv_has ls 1 [(0, .ref h)] := hl
  refine lv_aload_n hx hb dX11_image_0 rfl (lv_at hl 0 rfl) ?_
  refine z_get (ci := 11) (C := RX11) (T := TX11) (N := 13) (v := .null) hx hb hts inT_X11 hown hK hP 0 rfl rfl 4 (by decide) tf_X11_27 rfl dX11_image_1 ?_
  refine lv_ifnonnullN hx hb dX11_image_4 ?_
  refine lv_aload_n hx hb dX11_image_7 rfl (lv_at hl 0 rfl) ?_
  refine va_new (ci := 0) (fs := dflt_X0) (C := RX0) (T := TX0) (N := 5) hx hb hts inT_X0 tyX0 tyX0_ok hown (hts _ tq_X11_20) (hts _ tu_X0) (hts _ tn_X0) hK.1 hP hD hS hA rfl dfl_X0 (by show 0 + 1 ≤ 16 + 11 * N; omega) (by show 0 + 5 ≤ 491 + 432 * N; omega) dX11_image_8 (fun q H hP hD hS => ?_)
  refine lv_dup hx hb dX11_image_11 rfl ?_
  have hp0 : (kwN D cI h r F (r 3, r1) ad S ++ [(q, (Sum.inr (0, dflt_X0) : va_E))]).Perm ([(q, (Sum.inr (0, dflt_X0) : va_E))] ++ kwN D cI h r F (r 3, r1) ad S) := List.perm_append_comm
  have hrI : va_Run p l e (rm_image N 16 491) s m args below meth c H [] (0 + 1) (0 + 5) 15 486 (F0 m 12 ls [.ref q, .ref q, .ref h]) [.ref q, .ref h] (Rn D [(q, .inr (0, dflt_X0))] (wi_X0 D cI q) H.size (Value.ref q :: []).toArray) (va_A [(q, .inr (0, dflt_X0))] H.size) :=
    va_runIN ⟨hx, hb, hml, hown, hcx⟩ (c_X0_init l D cI q _) ⟨va_cnB 0 hcx (tb_in (tb_c tc_X0_init)) rfl rfl rfl (hK.2.1 _ tl_X11_22) (hcx _ (List.mem_cons_of_mem _ tn_X0)) tm_X0_init.2 ⟨Nat.le_of_ble_eq_true rfl, Nat.le_of_ble_eq_true rfl⟩, rfl, hcx _ (List.mem_cons_of_mem _ ti_X0_init)⟩ ⟨Pz_blind, z_preF hP hD hK hX hS hA hp0⟩ rfl rfl hl.1 rfl (lv_room (Nat.le_of_ble_eq_true rfl)) dX11_image_12 ⟨by show 0 + 1 + 15 ≤ 16 + 11 * N; omega, by show 0 + 5 + 486 ≤ 491 + 432 * N; omega⟩
  refine z_cnF (ws1 := fun u => kwN D cI h r F (r 3, r1) ad S ++ wi_X0 D cI q u) hrI hP hD hS hA hp0 (fun _ => List.perm_append_comm) (fun u H locs hP hD hS => ?_)
  refine va_put (ci := 11) (v := .ref q) (ty := .object "FenceHeap$All") (C := RX11) (T := TX11) (N := 13) hx hb hts inT_X11 tyX11 tyX11_ok nmX11 hown hK.1 hP hD hS 0 rfl rfl 4 (by decide) (hts _ tf_X11_27) (fun _ h9 => h9) rfl (by decide +kernel) rfl rfl (Nat.le_of_ble_eq_true rfl) dX11_image_15 (fun H locs hP hD hS => ?_)
  have hpq : ([(h, (Sum.inr (11, o_X11 r F (some q)) : va_E))] ++ (aw D cI (r 3, r1) ad S ++ hw cI ad S.2.2.2.1) ++ aw D cI (q, u) ad initA).Perm (kwS D cI h r F (r 3, r1) (q, u) ad ad S initA) := by
    refine pm_of (fun d x => ?_)
    simp only [List.count_append]
    rw [show initA.2.2.2.1 = (fun _ => none) from rfl, hw_empty]
    simp only [List.count_nil]
    omega
  have hP : va_P D vwCl ([(h, .inr (11, o_X11 r F (some q)))] ++ (aw D cI (r 3, r1) ad S ++ hw cI ad S.2.2.2.1) ++ aw D cI (q, u) ad initA) H := hP
  have hD : va_D A ([(h, .inr (11, o_X11 r F (some q)))] ++ (aw D cI (r 3, r1) ad S ++ hw cI ad S.2.2.2.1) ++ aw D cI (q, u) ad initA) := hD
  have hP := va_P_perm hpq hP
  have hD := va_D_perm hpq hD
  refine lv_aload_n hx hb dX11_image_18 rfl (lv_at hl 0 rfl) ?_
  refine z_get (ci := 11) (C := RX11) (T := TX11) (N := 13) (v := .ref q) hx hb hts inT_X11 hown hK hP 0 rfl rfl 4 (by decide) tf_X11_27 rfl dX11_image_19 ?_
  refine lv_aload_n hx hb dX11_image_22 rfl (lv_at hl 0 rfl) ?_
  refine z_get (ci := 11) (C := RX11) (T := TX11) (N := 13) (v := .ref (r 3)) hx hb hts inT_X11 hown hK hP 0 rfl rfl 3 (by decide) tf_X11_23 rfl dX11_image_23 ?_
  have hp : ∀ (ao1 : Nat → MAd) (T1 : ASt), (kwS D cI h r F (r 3, r1) (q, u) ad ao1 S T1).Perm (a2w D cI (q, u) (r 3, r1) ao1 ad T1 S ++ [(h, .inr (11, o_X11 r F (some q)))]) := fun ao1 T1 => pm_of (fun d x => by simp only [List.count_append]; omega)
  have hcn : cnt40 initA.2.2.2.1 = 0 := cnt_empty
  refine z_cnF (ws1 := fun ao1 => kwS D cI h r F (r 3, r1) (q, u) ad ao1 S Rr) (fr := [(h, .inr (11, o_X11 r F (some q)))]) (z_rVF (rest := []) (fr := [(h, .inr (11, o_X11 r F (some q)))]) hx hb hml hown hcx hl.1 (c_acopy l D cI (q, u) (r 3, r1) ad ad initA S Rr hf _) tl_X11_387 ti_X0_copyFrom tz_X0_copyFrom tn_X0 tc_X0_copyFrom tm_X0_copyFrom rfl rfl ⟨Nat.le_of_ble_eq_true rfl, Nat.le_of_ble_eq_true rfl⟩ hK hX hS hA hP hD (hp ad initA) (List.mem_cons_self) rfl rfl rfl (Nat.le_of_ble_eq_true rfl) dX11_image_26 (by rw [hcn, ← hN]; constructor <;> (show _ ≤ _ + _ * N; omega))) hP hD hS hA (hp ad initA) (fun ao1 => hp ao1 Rr) (fun ao1 H locs hP hD hS => ?_)
  rw [hcn, ← hN]
  refine lv_aload_n hx hb dX11_image_29 rfl (lv_at hl 0 rfl) ?_
  refine lv_iconst (v := 1) hx hb dX11_image_30 (by decide) ?_
  refine z_putb (r := upd F 5 1) (ci := 11) (C := RX11) (T := TX11) (N := 13) hx hb hts inT_X11 tyX11 tyX11_ok nmX11 hown hK hP hD hS 0 rfl rfl 5 (by decide) tf_X11_30 rfl (by decide +kernel) (Nat.le_of_ble_eq_true rfl) (fun z => o_X11 r z (some q)) (o_X11_s5 _ _ _ _) (fun z => kwS D cI h r z (r 3, r1) (q, u) ad ao1 S Rr) (fun _ => rfl) dX11_image_31 (kf := some) rfl (fun F1 H locs hf2 hP hD hS => ?_)
  rw [Option.some.inj hf2] at hP hD
  subst hAe
  refine W.widen (k := 16 + 11 * N) (n := 491 + 432 * N) (by omega) (by omega) ?_
  exact W.vret hx hb hr (fun t ht hW => ⟨⟨((q, u), ao1), rfl, trivial, by rw [ht]; exact hP, hD⟩, hS.F ht⟩) hS.2.2 dX11_image_34 hlocks
abbrev rm_rest0 : Room := { frames := 0, cells := 0, slots := 0, locals := 0 }
/-- nothing is kept (any more): restore() answers false -/
theorem c_restoreN (l : Launch) (D : va_G) (cI : ClassId) (h : Nat) (r : Nat → Nat) (F : Nat → Int32) (kq : Option Nat) (hF : F 5 = 0) : CTi l yX11_restore (Cond.code yX11_restore cX11_restore 1 (some .boolean)) rm_rest0 D cI [.ref h] [(h, .inr (11, o_X11 r F kq))] 0 [(h, .inr (11, o_X11 r F kq))] := by
  refine z_begin_z (own := RX11) (ρ := Int32) (Rr := 0) (fun u => [(h, .inr (11, o_X11 r F kq))]) (fun u => u) (by decide +kernel) rfl (Nat.le_of_ble_eq_true rfl) ?_
  intro p e s m args below meth c ls Q A hx hb hml hts hcx hown hK hX hA hP hD hS hl hret
  have hl : lv_has ls 1 [(0, .ref h)] := hl
  refine lv_aload_n hx hb dX11_restore_0 rfl (lv_at hl 0 rfl) ?_
  refine z_get (ci := 11) (C := RX11) (T := TX11) (N := 13) (v := .int (F 5)) hx hb hts inT_X11 hown hK hP 0 rfl rfl 5 (by decide) tf_X11_30 rfl dX11_restore_1 ?_
  refine lv_if_eq (tgt := 14) hx hb dX11_restore_4 (by decide) (fun _ => ?_) (fun hc => absurd hF hc)
  refine lv_iconst (v := 0) hx hb dX11_restore_14 (by decide) ?_
  exact hret 0 _ _ _ _ (Or.inl rfl) rfl hP hD hS dX11_restore_15
set_option maxHeartbeats 4000000 in
set_option maxRecDepth 100000 in
theorem c_restoreS (l : Launch) (D : va_G) (cI : ClassId) (h : Nat) (r : Nat → Nat) (F : Nat → Int32) (r1 : (Nat → Nat) × (Nat → Nat) × (Nat → Nat) × (Nat → Nat)) (b : AAd) (ad ao : Nat → MAd) (S T Rr : ASt) (hF : ¬ F 5 = 0) (hf : m_acopy S T = some Rr) (sz : Nat) : Met l yX11_restore (Cond.code yX11_restore cX11_restore 1 (some .boolean) :: TB) (rm_image (cnt40 Rr.2.2.2.1 - cnt40 S.2.2.2.1) 0 0) (Pz D cI [.ref h] (kwR D cI h r F (r 3, r1) b ad ao S T) sz) (Rin D (kwR D cI h r F (r 3, r1) b ad ao S T) 1 (fun ad1 => kwR D cI h r F (r 3, r1) b ad1 ao Rr T) sz) (0 + 11 * (cnt40 Rr.2.2.2.1 - cnt40 S.2.2.2.1)) (0 + 432 * (cnt40 Rr.2.2.2.1 - cnt40 S.2.2.2.1)) (va_A (kwR D cI h r F (r 3, r1) b ad ao S T) sz) := by
  obtain ⟨N, hN⟩ : ∃ N, N = cnt40 Rr.2.2.2.1 - cnt40 S.2.2.2.1 := ⟨_, rfl⟩
  rw [← hN]
  refine z_beginM (Qc := fun sz => Rin D (kwR D cI h r F (r 3, r1) b ad ao S T) 1 (fun ad1 => kwR D cI h r F (r 3, r1) b ad1 ao Rr T) sz) (own := RX11) (0 + 11 * N) (0 + 432 * N) (by decide +kernel) rfl (Nat.le_of_ble_eq_true rfl) ?_ sz
  intro p e s m args below meth c ls A hx hb hr hlocks hml hts hcx hown hK hX hA hAe hP hD hS hl
  have hl : lv_has ls 1 [(0, .ref h)] := hl
  refine lv_aload_n hx hb dX11_restore_0 rfl (lv_at hl 0 rfl) ?_
  refine z_get (ci := 11) (C := RX11) (T := TX11) (N := 13) (v := .int (F 5)) hx hb hts inT_X11 hown hK hP 0 rfl rfl 5 (by decide) tf_X11_30 rfl dX11_restore_1 ?_
  refine lv_if_eq (tgt := 14) hx hb dX11_restore_4 (by decide) (fun hc => absurd hc hF) (fun _ => ?_)
  refine lv_aload_n hx hb dX11_restore_7 rfl (lv_at hl 0 rfl) ?_
  refine z_get (ci := 11) (C := RX11) (T := TX11) (N := 13) (v := .ref b.1) hx hb hts inT_X11 hown hK hP 0 rfl rfl 4 (by decide) tf_X11_27 rfl dX11_restore_8 ?_
  refine lv_ifnonnull (tgt := 16) hx hb dX11_restore_11 (by decide) ?_
  refine lv_aload_n hx hb dX11_restore_16 rfl (lv_at hl 0 rfl) ?_
  refine z_get (ci := 11) (C := RX11) (T := TX11) (N := 13) (v := .ref (r 3)) hx hb hts inT_X11 hown hK hP 0 rfl rfl 3 (by decide) tf_X11_23 rfl dX11_restore_17 ?_
  refine lv_aload_n hx hb dX11_restore_20 rfl (lv_at hl 0 rfl) ?_
  refine z_get (ci := 11) (C := RX11) (T := TX11) (N := 13) (v := .ref b.1) hx hb hts inT_X11 hown hK hP 0 rfl rfl 4 (by decide) tf_X11_27 rfl dX11_restore_21 ?_
  have hp : ∀ (ad1 : Nat → MAd) (S1 : ASt), (kwR D cI h r F (r 3, r1) b ad1 ao S1 T).Perm (a2w D cI (r 3, r1) b ad1 ao S1 T ++ [(h, .inr (11, o_X11 r F (some b.1)))]) := fun ad1 S1 => pm_of (fun d x => by simp only [List.count_append]; omega)
  refine z_cnF (ws1 := fun ad1 => kwR D cI h r F (r 3, r1) b ad1 ao Rr T) (fr := [(h, .inr (11, o_X11 r F (some b.1)))]) (z_rVF (rest := []) (fr := [(h, .inr (11, o_X11 r F (some b.1)))]) hx hb hml hown hcx hl.1 (c_acopy l D cI (r 3, r1) b ad ao S T Rr hf _) tl_X11_387 ti_X0_copyFrom tz_X0_copyFrom tn_X0 tc_X0_copyFrom tm_X0_copyFrom rfl rfl ⟨Nat.le_of_ble_eq_true rfl, Nat.le_of_ble_eq_true rfl⟩ hK hX hS hA hP hD (hp ad S) (List.mem_cons_self) rfl rfl rfl (Nat.le_of_ble_eq_true rfl) dX11_restore_24 (by rw [← hN]; exact ⟨Nat.le_refl _, Nat.le_refl _⟩)) hP hD hS hA (hp ad S) (fun ad1 => hp ad1 Rr) (fun ad1 H locs hP hD hS => ?_)
  rw [← hN]
  refine lv_iconst (v := 1) hx hb dX11_restore_27 (by decide) ?_
  subst hAe
  exact W.zret hx hb hr rfl (fun t ht hW => ⟨⟨1, ad1, rfl, rfl, by rw [ht]; exact hP, hD⟩, hS.F ht⟩) hS.2.2 dX11_restore_28 hlocks
