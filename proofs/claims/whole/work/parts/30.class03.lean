abbrev w_X4_canStep (h_t : Nat) (h_p1 : Nat) (r_t : Nat → Nat) (r_cache : Nat → Nat) (r_p1 : Nat → Nat) (r_p1_shapeNow : Nat → Nat) (F_t : Nat → Int32) (F_p1 : Nat → Int32) (F_p1_shapeNow : Nat → Int32) (cI : ClassId) (a_cache_media : Nat → Int32) (a_cache_stores : Nat → Int32) (a_cache_held : Nat → Int32) (a_waiting : Nat → Int32) (a_p1_words : Nat → Int32) (a_p1_addresses : Nat → Int32) (a_p1_numbers : Nat → Int32) (a_p1_olds : Nat → Int32) : va_W := [(h_t, .inr (4, o_X4 r_t F_t)), ((r_t 0), .inr (1, o_X1 r_cache)), ((r_cache 0), .inl (cI, 64, .inl a_cache_media)), ((r_cache 1), .inl (cI, 96, .inl a_cache_stores)), ((r_cache 2), .inl (cI, 16, .inl a_cache_held)), ((r_t 6), .inl (cI, 48, .inl a_waiting)), (h_p1, .inr (5, o_X5 r_p1 F_p1)), ((r_p1 0), .inl (cI, 64, .inl a_p1_words)), ((r_p1 1), .inl (cI, 8, .inl a_p1_addresses)), ((r_p1 2), .inl (cI, 8, .inl a_p1_numbers)), ((r_p1 3), .inl (cI, 8, .inl a_p1_olds)), ((r_p1 6), .inr (7, o_X7 r_p1_shapeNow F_p1_shapeNow))]
abbrev rm_X4_canStep : Room := { frames := 6, cells := 0, slots := 0, locals := 137 }
def m_X4_canStep (F_t : Nat → Int32) (F_p1 : Nat → Int32) (F_p1_shapeNow : Nat → Int32) (a_cache_media : Nat → Int32) (a_cache_stores : Nat → Int32) (a_cache_held : Nat → Int32) (a_waiting : Nat → Int32) (a_p1_words : Nat → Int32) (a_p1_addresses : Nat → Int32) (a_p1_numbers : Nat → Int32) (a_p1_olds : Nat → Int32) : Option (Int32 × (Nat → Int32) × (Nat → Int32) × (Nat → Int32) × (Nat → Int32) × (Nat → Int32) × (Nat → Int32)) :=
  bd (m_X4_isIdle F_t) fun u1 =>
  if u1 = 0 then (
  some (1, F_p1, F_p1_shapeNow, a_p1_words, a_p1_addresses, a_p1_numbers, a_p1_olds))
  else (
  bd (m_X4_isReady F_t F_p1 F_p1_shapeNow a_cache_media a_cache_stores a_cache_held a_waiting a_p1_words a_p1_addresses a_p1_numbers a_p1_olds) fun u2 =>
  if u2.1 = 0 then (
  some (0, u2.2.1, u2.2.2.1, u2.2.2.2.1, u2.2.2.2.2.1, u2.2.2.2.2.2.1, u2.2.2.2.2.2.2))
  else (
  some (1, u2.2.1, u2.2.2.1, u2.2.2.2.1, u2.2.2.2.2.1, u2.2.2.2.2.2.1, u2.2.2.2.2.2.2)))
set_option maxHeartbeats 4000000 in
set_option maxRecDepth 100000 in
theorem c_X4_canStep (l : Launch) (D : va_G) (cI : ClassId) (h_t : Nat) (h_p1 : Nat) (r_t : Nat → Nat) (r_cache : Nat → Nat) (r_p1 : Nat → Nat) (r_p1_shapeNow : Nat → Nat) (F_t : Nat → Int32) (F_p1 : Nat → Int32) (F_p1_shapeNow : Nat → Int32) (a_cache_media : Nat → Int32) (a_cache_stores : Nat → Int32) (a_cache_held : Nat → Int32) (a_waiting : Nat → Int32) (a_p1_words : Nat → Int32) (a_p1_addresses : Nat → Int32) (a_p1_numbers : Nat → Int32) (a_p1_olds : Nat → Int32) (Rr : Int32 × (Nat → Int32) × (Nat → Int32) × (Nat → Int32) × (Nat → Int32) × (Nat → Int32) × (Nat → Int32)) (hf : m_X4_canStep F_t F_p1 F_p1_shapeNow a_cache_media a_cache_stores a_cache_held a_waiting a_p1_words a_p1_addresses a_p1_numbers a_p1_olds = some Rr) : CTi l yX4_canStep (Cond.code yX4_canStep cX4_canStep 2 (some .boolean)) rm_X4_canStep D cI [.ref h_t, .ref h_p1] (w_X4_canStep h_t h_p1 r_t r_cache r_p1 r_p1_shapeNow F_t F_p1 F_p1_shapeNow cI a_cache_media a_cache_stores a_cache_held a_waiting a_p1_words a_p1_addresses a_p1_numbers a_p1_olds) Rr.1 (w_X4_canStep h_t h_p1 r_t r_cache r_p1 r_p1_shapeNow F_t Rr.2.1 Rr.2.2.1 cI a_cache_media a_cache_stores a_cache_held a_waiting Rr.2.2.2.1 Rr.2.2.2.2.1 Rr.2.2.2.2.2.1 Rr.2.2.2.2.2.2) := by
  refine z_begin_z (own := RX4) (ρ := Int32 × (Nat → Int32) × (Nat → Int32) × (Nat → Int32) × (Nat → Int32) × (Nat → Int32) × (Nat → Int32)) (fun u => w_X4_canStep h_t h_p1 r_t r_cache r_p1 r_p1_shapeNow F_t u.2.1 u.2.2.1 cI a_cache_media a_cache_stores a_cache_held a_waiting u.2.2.2.1 u.2.2.2.2.1 u.2.2.2.2.2.1 u.2.2.2.2.2.2) (fun u => u.1) (by decide +kernel) rfl (Nat.le_of_ble_eq_true rfl) ?_
  intro p e s m args below meth c ls Q A hx hb hml hts hcx hown hK hX hA hP hD hS hl hret
  have hl : lv_has ls 2 [(0, .ref h_t), (1, .ref h_p1)] := hl
  have hf := (m_X4_canStep.eq_1 _ _ _ _ _ _ _ _ _ _ _).symm.trans hf
  refine lv_aload_n hx hb dX4_canStep_0 rfl (lv_at hl 0 rfl) ?_
  obtain ⟨u1, hu1, hf⟩ := bd_some hf
  refine z_ci (ws1 := w_X4_canStep h_t h_p1 r_t r_cache r_p1 r_p1_shapeNow F_t F_p1 F_p1_shapeNow cI a_cache_media a_cache_stores a_cache_held a_waiting a_p1_words a_p1_addresses a_p1_numbers a_p1_olds) (wr := List.filterMap (fun i : Nat => (w_X4_canStep h_t h_p1 r_t r_cache r_p1 r_p1_shapeNow F_t F_p1 F_p1_shapeNow cI a_cache_media a_cache_stores a_cache_held a_waiting a_p1_words a_p1_addresses a_p1_numbers a_p1_olds)[i]?) [1, 2, 3, 4, 5, 6, 7, 8, 9, 10, 11]) (z_rV (rest := []) hx hb hml hown hcx hl.1 (c_X4_isIdle l D cI h_t r_t F_t u1 hu1 _) tl_X4_63 ti_X4_isIdle tz_X4_isIdle tn_X4 tc_X4_isIdle tm_X4_isIdle rfl rfl ⟨Nat.le_of_ble_eq_true rfl, Nat.le_of_ble_eq_true rfl⟩ hK hX hS hA hP hD [0] rfl rfl 0 rfl rfl rfl rfl (Nat.le_of_ble_eq_true rfl) dX4_canStep_1 ⟨Nat.zero_le _, Nat.zero_le _⟩) hP hD hS hA [0] [1, 2, 3, 4, 5, 6, 7, 8, 9, 10, 11] [11, 0, 1, 2, 3, 4, 5, 6, 7, 8, 9, 10] rfl rfl rfl (by decide) rfl rfl (fun H locs hP hD hS => ?_)
  refine z_if_eq (tgt := 15) hx hb dX4_canStep_4 (by decide) hf (fun hf => ?_) (fun hf => ?_)
  · refine lv_iconst (v := 1) hx hb dX4_canStep_15 (by decide) ?_
    refine lv_goto (tgt := 20) hx hb dX4_canStep_16 (by decide) ?_
    exact hret (1, F_p1, F_p1_shapeNow, a_p1_words, a_p1_addresses, a_p1_numbers, a_p1_olds) _ _ _ _ (Or.inr rfl) hf hP hD hS dX4_canStep_20
  · refine lv_aload_n hx hb dX4_canStep_7 rfl (lv_at hl 0 rfl) ?_
    refine lv_aload_n hx hb dX4_canStep_8 rfl (lv_at hl 1 rfl) ?_
    obtain ⟨u2, hu2, hf⟩ := bd_some hf
    refine z_ci (ws1 := w_X4_canStep h_t h_p1 r_t r_cache r_p1 r_p1_shapeNow F_t u2.2.1 u2.2.2.1 cI a_cache_media a_cache_stores a_cache_held a_waiting u2.2.2.2.1 u2.2.2.2.2.1 u2.2.2.2.2.2.1 u2.2.2.2.2.2.2) (wr := List.filterMap (fun i : Nat => (w_X4_canStep h_t h_p1 r_t r_cache r_p1 r_p1_shapeNow F_t F_p1 F_p1_shapeNow cI a_cache_media a_cache_stores a_cache_held a_waiting a_p1_words a_p1_addresses a_p1_numbers a_p1_olds)[i]?) []) (z_rV (rest := []) hx hb hml hown hcx hl.1 (c_X4_isReady l D cI h_t h_p1 r_t r_cache r_p1 r_p1_shapeNow F_t F_p1 F_p1_shapeNow a_cache_media a_cache_stores a_cache_held a_waiting a_p1_words a_p1_addresses a_p1_numbers a_p1_olds u2 hu2 _) tl_X4_73 ti_X4_isReady tz_X4_isReady tn_X4 tc_X4_isReady tm_X4_isReady rfl rfl ⟨Nat.le_of_ble_eq_true rfl, Nat.le_of_ble_eq_true rfl⟩ hK hX hS hA hP hD [0, 1, 2, 3, 4, 5, 6, 7, 8, 9, 10, 11] rfl rfl 0 rfl rfl rfl rfl (Nat.le_of_ble_eq_true rfl) dX4_canStep_9 ⟨Nat.zero_le _, Nat.zero_le _⟩) hP hD hS hA [0, 1, 2, 3, 4, 5, 6, 7, 8, 9, 10, 11] [] [0, 1, 2, 3, 4, 5, 6, 7, 8, 9, 10, 11] rfl rfl rfl (by decide) rfl rfl (fun H locs hP hD hS => ?_)
    refine z_if_eq (tgt := 19) hx hb dX4_canStep_12 (by decide) hf (fun hf => ?_) (fun hf => ?_)
    · refine lv_iconst (v := 0) hx hb dX4_canStep_19 (by decide) ?_
      exact hret (0, u2.2.1, u2.2.2.1, u2.2.2.2.1, u2.2.2.2.2.1, u2.2.2.2.2.2.1, u2.2.2.2.2.2.2) _ _ _ _ (Or.inl rfl) hf hP hD hS dX4_canStep_20
    · refine lv_iconst (v := 1) hx hb dX4_canStep_15 (by decide) ?_
      refine lv_goto (tgt := 20) hx hb dX4_canStep_16 (by decide) ?_
      exact hret (1, u2.2.1, u2.2.2.1, u2.2.2.2.1, u2.2.2.2.2.1, u2.2.2.2.2.2.1, u2.2.2.2.2.2.2) _ _ _ _ (Or.inr rfl) hf hP hD hS dX4_canStep_20
abbrev w_X11_refuseAct (h_t : Nat) (r_t : Nat → Nat) (r_all : Nat → Nat) (F_t : Nat → Int32) (F_all : Nat → Int32) (kq : Option Nat) (cI : ClassId) (a_all_refused : Nat → Int32) : va_W := [(h_t, .inr (11, o_X11 r_t F_t kq)), ((r_t 3), .inr (0, o_X0 r_all F_all)), ((r_all 4), .inl (cI, 3, .inl a_all_refused))]
abbrev rm_X11_refuseAct : Room := { frames := 0, cells := 0, slots := 0, locals := 0 }
def m_X11_refuseAct (a_all_refused : Nat → Int32) : Option (Int32 × (Nat → Int32)) :=
  rd a_all_refused 3 1 fun y1 =>
  wr a_all_refused 3 1 (y1 + 1) fun a2 =>
  some ((-1), a2)
set_option maxHeartbeats 4000000 in
set_option maxRecDepth 100000 in
theorem c_X11_refuseAct (l : Launch) (D : va_G) (cI : ClassId) (h_t : Nat) (r_t : Nat → Nat) (r_all : Nat → Nat) (F_t : Nat → Int32) (F_all : Nat → Int32) (kq : Option Nat) (a_all_refused : Nat → Int32) (Rr : Int32 × (Nat → Int32)) (hf : m_X11_refuseAct a_all_refused = some Rr) : CTi l yX11_refuseAct (Cond.code yX11_refuseAct cX11_refuseAct 1 (some .int)) rm_X11_refuseAct D cI [.ref h_t] (w_X11_refuseAct h_t r_t r_all F_t F_all kq cI a_all_refused) Rr.1 (w_X11_refuseAct h_t r_t r_all F_t F_all kq cI Rr.2) := by
  refine z_begin_i (own := RX11) (ρ := Int32 × (Nat → Int32)) (fun u => w_X11_refuseAct h_t r_t r_all F_t F_all kq cI u.2) (fun u => u.1) (by decide +kernel) rfl (Nat.le_of_ble_eq_true rfl) ?_
  intro p e s m args below meth c ls Q A hx hb hml hts hcx hown hK hX hA hP hD hS hl hret
  have hl : lv_has ls 1 [(0, .ref h_t)] := hl
  have hf := (m_X11_refuseAct.eq_1 _).symm.trans hf
  refine lv_aload_n hx hb dX11_refuseAct_0 rfl (lv_at hl 0 rfl) ?_
  refine z_get (ci := 11) (C := RX11) (T := TX11) (N := 13) (v := .ref (r_t 3)) hx hb hts inT_X11 hown hK hP 0 rfl rfl 3 (by decide) tf_X11_23 rfl dX11_refuseAct_1 ?_
  refine z_get (ci := 0) (C := RX0) (T := TX0) (N := 5) (v := .ref (r_all 4)) hx hb hts inT_X0 hown hK hP 1 rfl rfl 4 (by decide) tf_X11_101 rfl dX11_refuseAct_4 ?_
  refine lv_iconst (v := 1) hx hb dX11_refuseAct_7 (by decide) ?_
  refine lv_dup2_11 hx hb dX11_refuseAct_8 rfl rfl ?_
  refine z_iald hx hb hK hP 2 rfl dX11_refuseAct_9 hf (fun y1 hf => ?_)
  refine lv_iconst (v := 1) hx hb dX11_refuseAct_10 (by decide) ?_
  refine lv_iadd hx hb dX11_refuseAct_11 ?_
  refine z_iast hx hb hK hP hD hS 2 rfl (fun z => w_X11_refuseAct h_t r_t r_all F_t F_all kq cI z) (fun _ => rfl) dX11_refuseAct_12 hf (fun a2 H locs hf hP hD hS => ?_)
  refine lv_iconst (v := (-1)) hx hb dX11_refuseAct_13 (by decide) ?_
  exact hret ((-1), a2) _ _ _ _ hf hP hD hS dX11_refuseAct_14
abbrev w_X4_takeWaiting (h_t : Nat) (r_t : Nat → Nat) (F_t : Nat → Int32) (cI : ClassId) (a_waiting : Nat → Int32) : va_W := [(h_t, .inr (4, o_X4 r_t F_t)), ((r_t 6), .inl (cI, 48, .inl a_waiting))]
abbrev rm_X4_takeWaiting : Room := { frames := 1, cells := 0, slots := 0, locals := 40 }
def m_X4_takeWaiting (F_t : Nat → Int32) (a_waiting : Nat → Int32) : Option ((Nat → Int32) × (Nat → Int32)) :=
  nm (upd F_t 7 ((F_t 7) - 1)) fun F1 =>
  cp a_waiting a_waiting 48 48 4 0 ((F1 7) * 4) fun a2 =>
  some (F1, a2)
set_option maxHeartbeats 4000000 in
set_option maxRecDepth 100000 in
theorem c_X4_takeWaiting (l : Launch) (D : va_G) (cI : ClassId) (h_t : Nat) (r_t : Nat → Nat) (F_t : Nat → Int32) (a_waiting : Nat → Int32) (Rr : (Nat → Int32) × (Nat → Int32)) (hf : m_X4_takeWaiting F_t a_waiting = some Rr) : CTv l yX4_takeWaiting (Cond.code yX4_takeWaiting cX4_takeWaiting 1 none) rm_X4_takeWaiting D cI [.ref h_t] (w_X4_takeWaiting h_t r_t F_t cI a_waiting) (w_X4_takeWaiting h_t r_t Rr.1 cI Rr.2) := by
  refine z_begin_v (own := RX4) (ρ := (Nat → Int32) × (Nat → Int32)) (fun u => w_X4_takeWaiting h_t r_t u.1 cI u.2) (by decide +kernel) rfl (Nat.le_of_ble_eq_true rfl) ?_
  intro p e s m args below meth c ls Q A hx hb hml hts hcx hown hK hX hA hP hD hS hl hret
  have hl : lv_has ls 1 [(0, .ref h_t)] := hl
  have hf := (m_X4_takeWaiting.eq_1 _ _).symm.trans hf
  refine lv_aload_n hx hb dX4_takeWaiting_0 rfl (lv_at hl 0 rfl) ?_
  refine lv_dup hx hb dX4_takeWaiting_1 rfl ?_
  refine z_get (ci := 4) (C := RX4) (T := TX4) (N := 12) (v := .int (F_t 7)) hx hb hts inT_X4 hown hK hP 0 rfl rfl 7 (by decide) tf_X4_38 rfl dX4_takeWaiting_2 ?_
  refine lv_iconst (v := 1) hx hb dX4_takeWaiting_5 (by decide) ?_
  refine lv_isub hx hb dX4_takeWaiting_6 ?_
  refine z_put (ci := 4) (C := RX4) (T := TX4) (N := 12) hx hb hts inT_X4 tyX4 tyX4_ok nmX4 hown hK hP hD hS 0 rfl rfl 7 (by decide) tf_X4_38 rfl (by decide +kernel) (Nat.le_of_ble_eq_true rfl) (o_X4 r_t) (o_X4_s7 _ _ _) (fun z => w_X4_takeWaiting h_t r_t z cI a_waiting) (fun _ => rfl) dX4_takeWaiting_7 hf (fun F1 H locs hf hP hD hS => ?_)
  refine lv_aload_n hx hb dX4_takeWaiting_10 rfl (lv_at hl 0 rfl) ?_
  refine z_get (ci := 4) (C := RX4) (T := TX4) (N := 12) (v := .ref (r_t 6)) hx hb hts inT_X4 hown hK hP 0 rfl rfl 6 (by decide) tf_X4_35 rfl dX4_takeWaiting_11 ?_
  refine lv_iconst (v := 4) hx hb dX4_takeWaiting_14 (by decide) ?_
  refine lv_aload_n hx hb dX4_takeWaiting_15 rfl (lv_at hl 0 rfl) ?_
  refine z_get (ci := 4) (C := RX4) (T := TX4) (N := 12) (v := .ref (r_t 6)) hx hb hts inT_X4 hown hK hP 0 rfl rfl 6 (by decide) tf_X4_35 rfl dX4_takeWaiting_16 ?_
  refine lv_iconst (v := 0) hx hb dX4_takeWaiting_19 (by decide) ?_
  refine lv_aload_n hx hb dX4_takeWaiting_20 rfl (lv_at hl 0 rfl) ?_
  refine z_get (ci := 4) (C := RX4) (T := TX4) (N := 12) (v := .int (F1 7)) hx hb hts inT_X4 hown hK hP 0 rfl rfl 7 (by decide) tf_X4_38 rfl dX4_takeWaiting_21 ?_
  refine lv_iconst (v := 4) hx hb dX4_takeWaiting_24 (by decide) ?_
  refine lv_imul hx hb dX4_takeWaiting_25 ?_
  refine z_copy (rest := []) hx hb (hml.trans hl.1.symm) hown hts tl_X4_57 tnat_copy ts_copy tn_J10 hK hP hD hS 1 1 rfl rfl (fun z => w_X4_takeWaiting h_t r_t F1 cI z) (fun _ => rfl) (Nat.le_of_ble_eq_true rfl) (by decide) dX4_takeWaiting_26 hf (fun a2 H locs hf hP hD hS => ?_)
  exact hret (F1, a2) _ _ _ _ hf hP hD hS dX4_takeWaiting_29
abbrev w_X4_dropMicros (h_t : Nat) (r_t : Nat → Nat) (F_t : Nat → Int32) (cI : ClassId) : va_W := [(h_t, .inr (4, o_X4 r_t F_t))]
abbrev rm_X4_dropMicros : Room := { frames := 0, cells := 0, slots := 0, locals := 0 }
def m_X4_dropMicros (F_t : Nat → Int32) : Option ((Nat → Int32)) :=
  nm (upd F_t 2 0) fun F1 =>
  nm (upd F1 3 0) fun F2 =>
  some F2
set_option maxHeartbeats 4000000 in
set_option maxRecDepth 100000 in
theorem c_X4_dropMicros (l : Launch) (D : va_G) (cI : ClassId) (h_t : Nat) (r_t : Nat → Nat) (F_t : Nat → Int32) (Rr : (Nat → Int32)) (hf : m_X4_dropMicros F_t = some Rr) : CTv l yX4_dropMicros (Cond.code yX4_dropMicros cX4_dropMicros 1 none) rm_X4_dropMicros D cI [.ref h_t] (w_X4_dropMicros h_t r_t F_t cI) (w_X4_dropMicros h_t r_t Rr cI) := by
  refine z_begin_v (own := RX4) (ρ := (Nat → Int32)) (fun u => w_X4_dropMicros h_t r_t u cI) (by decide +kernel) rfl (Nat.le_of_ble_eq_true rfl) ?_
  intro p e s m args below meth c ls Q A hx hb hml hts hcx hown hK hX hA hP hD hS hl hret
  have hl : lv_has ls 1 [(0, .ref h_t)] := hl
  have hf := (m_X4_dropMicros.eq_1 _).symm.trans hf
  refine lv_aload_n hx hb dX4_dropMicros_0 rfl (lv_at hl 0 rfl) ?_
  refine lv_iconst (v := 0) hx hb dX4_dropMicros_1 (by decide) ?_
  refine z_put (ci := 4) (C := RX4) (T := TX4) (N := 12) hx hb hts inT_X4 tyX4 tyX4_ok nmX4 hown hK hP hD hS 0 rfl rfl 2 (by decide) tf_X4_22 rfl (by decide +kernel) (Nat.le_of_ble_eq_true rfl) (o_X4 r_t) (o_X4_s2 _ _ _) (fun z => w_X4_dropMicros h_t r_t z cI) (fun _ => rfl) dX4_dropMicros_2 hf (fun F1 H locs hf hP hD hS => ?_)
  refine lv_aload_n hx hb dX4_dropMicros_5 rfl (lv_at hl 0 rfl) ?_
  refine lv_iconst (v := 0) hx hb dX4_dropMicros_6 (by decide) ?_
  refine z_put (ci := 4) (C := RX4) (T := TX4) (N := 12) hx hb hts inT_X4 tyX4 tyX4_ok nmX4 hown hK hP hD hS 0 rfl rfl 3 (by decide) tf_X4_26 rfl (by decide +kernel) (Nat.le_of_ble_eq_true rfl) (o_X4 r_t) (o_X4_s3 _ _ _) (fun z => w_X4_dropMicros h_t r_t z cI) (fun _ => rfl) dX4_dropMicros_7 hf (fun F2 H locs hf hP hD hS => ?_)
  exact hret F2 _ _ _ _ hf hP hD hS dX4_dropMicros_10
abbrev w_X4_addMicro (h_t : Nat) (r_t : Nat → Nat) (F_t : Nat → Int32) (cI : ClassId) (a_micros : Nat → Int32) : va_W := [(h_t, .inr (4, o_X4 r_t F_t)), ((r_t 1), .inl (cI, 80, .inl a_micros))]
abbrev rm_X4_addMicro : Room := { frames := 0, cells := 0, slots := 0, locals := 0 }
def m_X4_addMicro (F_t : Nat → Int32) (a_micros : Nat → Int32) (p1 : Int32) (p2 : Int32) (p3 : Int32) : Option ((Nat → Int32) × (Nat → Int32)) :=
  if 80 ≤ (F_t 3) then (
  some (F_t, a_micros))
  else (
  wr a_micros 80 (F_t 3) (((p1 * 10000) + (p2 * 100)) + p3) fun a1 =>
  nm (upd F_t 3 ((F_t 3) + 1)) fun F2 =>
  some (F2, a1))
set_option maxHeartbeats 4000000 in
set_option maxRecDepth 100000 in
theorem c_X4_addMicro (l : Launch) (D : va_G) (cI : ClassId) (h_t : Nat) (r_t : Nat → Nat) (F_t : Nat → Int32) (a_micros : Nat → Int32) (p1 : Int32) (p2 : Int32) (p3 : Int32) (Rr : (Nat → Int32) × (Nat → Int32)) (hf : m_X4_addMicro F_t a_micros p1 p2 p3 = some Rr) : CTv l yX4_addMicro (Cond.code yX4_addMicro cX4_addMicro 4 none) rm_X4_addMicro D cI [.ref h_t, .int p1, .int p2, .int p3] (w_X4_addMicro h_t r_t F_t cI a_micros) (w_X4_addMicro h_t r_t Rr.1 cI Rr.2) := by
  refine z_begin_v (own := RX4) (ρ := (Nat → Int32) × (Nat → Int32)) (fun u => w_X4_addMicro h_t r_t u.1 cI u.2) (by decide +kernel) rfl (Nat.le_of_ble_eq_true rfl) ?_
  intro p e s m args below meth c ls Q A hx hb hml hts hcx hown hK hX hA hP hD hS hl hret
  have hl : lv_has ls 4 [(0, .ref h_t), (1, .int p1), (2, .int p2), (3, .int p3)] := hl
  have hf := (m_X4_addMicro.eq_1 _ _ _ _ _).symm.trans hf
  refine lv_aload_n hx hb dX4_addMicro_0 rfl (lv_at hl 0 rfl) ?_
  refine z_get (ci := 4) (C := RX4) (T := TX4) (N := 12) (v := .int (F_t 3)) hx hb hts inT_X4 hown hK hP 0 rfl rfl 3 (by decide) tf_X4_26 rfl dX4_addMicro_1 ?_
  refine lv_bipush (v := 80) hx hb dX4_addMicro_4 (by decide) ?_
  refine z_icmp_ge (tgt := 40) hx hb dX4_addMicro_6 (by decide) hf (fun hf => ?_) (fun hf => ?_)
  · exact hret (F_t, a_micros) _ _ _ _ hf hP hD hS dX4_addMicro_40
  · refine lv_aload_n hx hb dX4_addMicro_9 rfl (lv_at hl 0 rfl) ?_
    refine z_get (ci := 4) (C := RX4) (T := TX4) (N := 12) (v := .ref (r_t 1)) hx hb hts inT_X4 hown hK hP 0 rfl rfl 1 (by decide) tf_X4_18 rfl dX4_addMicro_10 ?_
    refine lv_aload_n hx hb dX4_addMicro_13 rfl (lv_at hl 0 rfl) ?_
    refine z_get (ci := 4) (C := RX4) (T := TX4) (N := 12) (v := .int (F_t 3)) hx hb hts inT_X4 hown hK hP 0 rfl rfl 3 (by decide) tf_X4_26 rfl dX4_addMicro_14 ?_
    refine lv_iload_n hx hb dX4_addMicro_17 rfl (lv_at hl 1 rfl) ?_
    refine lv_sipush (v := 10000) hx hb dX4_addMicro_18 (by decide) ?_
    refine lv_imul hx hb dX4_addMicro_21 ?_
    refine lv_iload_n hx hb dX4_addMicro_22 rfl (lv_at hl 2 rfl) ?_
    refine lv_bipush (v := 100) hx hb dX4_addMicro_23 (by decide) ?_
    refine lv_imul hx hb dX4_addMicro_25 ?_
    refine lv_iadd hx hb dX4_addMicro_26 ?_
    refine lv_iload_n hx hb dX4_addMicro_27 rfl (lv_at hl 3 rfl) ?_
    refine lv_iadd hx hb dX4_addMicro_28 ?_
    refine z_iast hx hb hK hP hD hS 1 rfl (fun z => w_X4_addMicro h_t r_t F_t cI z) (fun _ => rfl) dX4_addMicro_29 hf (fun a1 H locs hf hP hD hS => ?_)
    refine lv_aload_n hx hb dX4_addMicro_30 rfl (lv_at hl 0 rfl) ?_
    refine lv_dup hx hb dX4_addMicro_31 rfl ?_
    refine z_get (ci := 4) (C := RX4) (T := TX4) (N := 12) (v := .int (F_t 3)) hx hb hts inT_X4 hown hK hP 0 rfl rfl 3 (by decide) tf_X4_26 rfl dX4_addMicro_32 ?_
    refine lv_iconst (v := 1) hx hb dX4_addMicro_35 (by decide) ?_
    refine lv_iadd hx hb dX4_addMicro_36 ?_
    refine z_put (ci := 4) (C := RX4) (T := TX4) (N := 12) hx hb hts inT_X4 tyX4 tyX4_ok nmX4 hown hK hP hD hS 0 rfl rfl 3 (by decide) tf_X4_26 rfl (by decide +kernel) (Nat.le_of_ble_eq_true rfl) (o_X4 r_t) (o_X4_s3 _ _ _) (fun z => w_X4_addMicro h_t r_t z cI a1) (fun _ => rfl) dX4_addMicro_37 hf (fun F2 H locs hf hP hD hS => ?_)
    exact hret (F2, a1) _ _ _ _ hf hP hD hS dX4_addMicro_40
abbrev w_X4_isLeftOut (h_t : Nat) (r_t : Nat → Nat) (F_t : Nat → Int32) (cI : ClassId) : va_W := [(h_t, .inr (4, o_X4 r_t F_t))]
abbrev rm_X4_isLeftOut : Room := { frames := 0, cells := 0, slots := 0, locals := 0 }
def m_X4_isLeftOut (F_t : Nat → Int32) (p1 : Int32) : Option (Int32) :=
  if (((F_t 10) >>> (p1 &&& 31)) &&& 1) = 0 then (
  some 0)
  else (
  some 1)
set_option maxHeartbeats 4000000 in
set_option maxRecDepth 100000 in
theorem c_X4_isLeftOut (l : Launch) (D : va_G) (cI : ClassId) (h_t : Nat) (r_t : Nat → Nat) (F_t : Nat → Int32) (p1 : Int32) (Rr : Int32) (hf : m_X4_isLeftOut F_t p1 = some Rr) : CTi l yX4_isLeftOut (Cond.code yX4_isLeftOut cX4_isLeftOut 2 (some .boolean)) rm_X4_isLeftOut D cI [.ref h_t, .int p1] (w_X4_isLeftOut h_t r_t F_t cI) Rr (w_X4_isLeftOut h_t r_t F_t cI) := by
  refine z_begin_z (own := RX4) (ρ := Int32) (fun u => w_X4_isLeftOut h_t r_t F_t cI) (fun u => u) (by decide +kernel) rfl (Nat.le_of_ble_eq_true rfl) ?_
  intro p e s m args below meth c ls Q A hx hb hml hts hcx hown hK hX hA hP hD hS hl hret
  have hl : lv_has ls 2 [(0, .ref h_t), (1, .int p1)] := hl
  have hf := (m_X4_isLeftOut.eq_1 _ _).symm.trans hf
  refine lv_aload_n hx hb dX4_isLeftOut_0 rfl (lv_at hl 0 rfl) ?_
  refine z_get (ci := 4) (C := RX4) (T := TX4) (N := 12) (v := .int (F_t 10)) hx hb hts inT_X4 hown hK hP 0 rfl rfl 10 (by decide) tf_X4_47 rfl dX4_isLeftOut_1 ?_
  refine lv_iload_n hx hb dX4_isLeftOut_4 rfl (lv_at hl 1 rfl) ?_
  refine lv_ishr hx hb dX4_isLeftOut_5 ?_
  refine lv_iconst (v := 1) hx hb dX4_isLeftOut_6 (by decide) ?_
  refine lv_iand hx hb dX4_isLeftOut_7 ?_
  refine z_if_eq (tgt := 15) hx hb dX4_isLeftOut_8 (by decide) hf (fun hf => ?_) (fun hf => ?_)
  · refine lv_iconst (v := 0) hx hb dX4_isLeftOut_15 (by decide) ?_
    exact hret 0 _ _ _ _ (Or.inl rfl) hf hP hD hS dX4_isLeftOut_16
  · refine lv_iconst (v := 1) hx hb dX4_isLeftOut_11 (by decide) ?_
    refine lv_goto (tgt := 16) hx hb dX4_isLeftOut_12 (by decide) ?_
    exact hret 1 _ _ _ _ (Or.inr rfl) hf hP hD hS dX4_isLeftOut_16
abbrev w_X4_addEntry (h_t : Nat) (r_t : Nat → Nat) (F_t : Nat → Int32) (cI : ClassId) (a_micros : Nat → Int32) : va_W := [(h_t, .inr (4, o_X4 r_t F_t)), ((r_t 1), .inl (cI, 80, .inl a_micros))]
abbrev rm_X4_addEntry : Room := { frames := 1, cells := 0, slots := 0, locals := 23 }
def m_X4_addEntry (F_t : Nat → Int32) (a_micros : Nat → Int32) (p1 : Int32) (p2 : Int32) (p3 : Int32) : Option ((Nat → Int32) × (Nat → Int32)) :=
  nm (4 + (2 * p1)) fun v1 =>
  bd (m_X4_addMicro F_t a_micros 0 v1 p2) fun u2 =>
  bd (m_X4_addMicro u2.1 u2.2 0 (v1 + 1) p3) fun u3 =>
  bd (m_X4_isLeftOut u3.1 4) fun u4 =>
  if u4 = 0 then (
  bd (m_X4_addMicro u3.1 u3.2 1 (v1 / 4) 0) fun u5 =>
  some (u5.1, u5.2))
  else (
  some (u3.1, u3.2))
set_option maxHeartbeats 4000000 in
set_option maxRecDepth 100000 in
theorem c_X4_addEntry (l : Launch) (D : va_G) (cI : ClassId) (h_t : Nat) (r_t : Nat → Nat) (F_t : Nat → Int32) (a_micros : Nat → Int32) (p1 : Int32) (p2 : Int32) (p3 : Int32) (Rr : (Nat → Int32) × (Nat → Int32)) (hf : m_X4_addEntry F_t a_micros p1 p2 p3 = some Rr) : CTv l yX4_addEntry (Cond.code yX4_addEntry cX4_addEntry 5 none) rm_X4_addEntry D cI [.ref h_t, .int p1, .int p2, .int p3] (w_X4_addEntry h_t r_t F_t cI a_micros) (w_X4_addEntry h_t r_t Rr.1 cI Rr.2) := by
  refine z_begin_v (own := RX4) (ρ := (Nat → Int32) × (Nat → Int32)) (fun u => w_X4_addEntry h_t r_t u.1 cI u.2) (by decide +kernel) rfl (Nat.le_of_ble_eq_true rfl) ?_
  intro p e s m args below meth c ls Q A hx hb hml hts hcx hown hK hX hA hP hD hS hl hret
  have hl : lv_has ls 5 [(0, .ref h_t), (1, .int p1), (2, .int p2), (3, .int p3)] := hl
  have hf := (m_X4_addEntry.eq_1 _ _ _ _ _).symm.trans hf
  refine lv_iconst (v := 4) hx hb dX4_addEntry_0 (by decide) ?_
  refine lv_iconst (v := 2) hx hb dX4_addEntry_1 (by decide) ?_
  refine lv_iload_n hx hb dX4_addEntry_2 rfl (lv_at hl 1 rfl) ?_
  refine lv_imul hx hb dX4_addEntry_3 ?_
  refine lv_iadd hx hb dX4_addEntry_4 ?_
  refine z_istore (fun z => [(4, .int z), (0, .ref h_t), (1, .int p1), (2, .int p2), (3, .int p3)]) hx hb dX4_addEntry_5 hl (by decide) (fun _ => rfl) hf (fun v1 ls hf hl => ?_)
  refine lv_aload_n hx hb dX4_addEntry_7 rfl (lv_at hl 1 rfl) ?_
  refine lv_iconst (v := 0) hx hb dX4_addEntry_8 (by decide) ?_
  refine lv_iload hx hb dX4_addEntry_9 (lv_at hl 0 rfl) ?_
  refine lv_iload_n hx hb dX4_addEntry_11 rfl (lv_at hl 3 rfl) ?_
  obtain ⟨u2, hu2, hf⟩ := bd_some hf
  refine z_cv (ws1 := w_X4_addEntry h_t r_t u2.1 cI u2.2) (wr := List.filterMap (fun i : Nat => (w_X4_addEntry h_t r_t F_t cI a_micros)[i]?) []) (z_rV (rest := []) hx hb hml hown hcx hl.1 (c_X4_addMicro l D cI h_t r_t F_t a_micros 0 v1 p2 u2 hu2 _) tl_X4_135 ti_X4_addMicro tz_X4_addMicro tn_X4 tc_X4_addMicro tm_X4_addMicro rfl rfl ⟨Nat.le_of_ble_eq_true rfl, Nat.le_of_ble_eq_true rfl⟩ hK hX hS hA hP hD [0, 1] rfl rfl 0 rfl rfl rfl rfl (Nat.le_of_ble_eq_true rfl) dX4_addEntry_12 ⟨Nat.zero_le _, Nat.zero_le _⟩) hP hD hS hA [0, 1] [] [0, 1] rfl rfl rfl (by decide) rfl rfl (fun H locs hP hD hS => ?_)
  refine lv_aload_n hx hb dX4_addEntry_15 rfl (lv_at hl 1 rfl) ?_
  refine lv_iconst (v := 0) hx hb dX4_addEntry_16 (by decide) ?_
  refine lv_iload hx hb dX4_addEntry_17 (lv_at hl 0 rfl) ?_
  refine lv_iconst (v := 1) hx hb dX4_addEntry_19 (by decide) ?_
  refine lv_iadd hx hb dX4_addEntry_20 ?_
  refine lv_iload_n hx hb dX4_addEntry_21 rfl (lv_at hl 4 rfl) ?_
  obtain ⟨u3, hu3, hf⟩ := bd_some hf
  refine z_cv (ws1 := w_X4_addEntry h_t r_t u3.1 cI u3.2) (wr := List.filterMap (fun i : Nat => (w_X4_addEntry h_t r_t u2.1 cI u2.2)[i]?) []) (z_rV (rest := []) hx hb hml hown hcx hl.1 (c_X4_addMicro l D cI h_t r_t u2.1 u2.2 0 (v1 + 1) p3 u3 hu3 _) tl_X4_135 ti_X4_addMicro tz_X4_addMicro tn_X4 tc_X4_addMicro tm_X4_addMicro rfl rfl ⟨Nat.le_of_ble_eq_true rfl, Nat.le_of_ble_eq_true rfl⟩ hK hX hS hA hP hD [0, 1] rfl rfl 0 rfl rfl rfl rfl (Nat.le_of_ble_eq_true rfl) dX4_addEntry_22 ⟨Nat.zero_le _, Nat.zero_le _⟩) hP hD hS hA [0, 1] [] [0, 1] rfl rfl rfl (by decide) rfl rfl (fun H locs hP hD hS => ?_)
  refine lv_aload_n hx hb dX4_addEntry_25 rfl (lv_at hl 1 rfl) ?_
  refine lv_iconst (v := 4) hx hb dX4_addEntry_26 (by decide) ?_
  obtain ⟨u4, hu4, hf⟩ := bd_some hf
  refine z_ci (ws1 := w_X4_addEntry h_t r_t u3.1 cI u3.2) (wr := List.filterMap (fun i : Nat => (w_X4_addEntry h_t r_t u3.1 cI u3.2)[i]?) [1]) (z_rV (rest := []) hx hb hml hown hcx hl.1 (c_X4_isLeftOut l D cI h_t r_t u3.1 4 u4 hu4 _) tl_X4_141 ti_X4_isLeftOut tz_X4_isLeftOut tn_X4 tc_X4_isLeftOut tm_X4_isLeftOut rfl rfl ⟨Nat.le_of_ble_eq_true rfl, Nat.le_of_ble_eq_true rfl⟩ hK hX hS hA hP hD [0] rfl rfl 0 rfl rfl rfl rfl (Nat.le_of_ble_eq_true rfl) dX4_addEntry_27 ⟨Nat.zero_le _, Nat.zero_le _⟩) hP hD hS hA [0] [1] [1, 0] rfl rfl rfl (by decide) rfl rfl (fun H locs hP hD hS => ?_)
  refine z_if_ne (tgt := 43) hx hb dX4_addEntry_30 (by decide) hf (fun hf => ?_) (fun hf => ?_)
  · exact hret (u3.1, u3.2) _ _ _ _ hf hP hD hS dX4_addEntry_43
  · refine lv_aload_n hx hb dX4_addEntry_33 rfl (lv_at hl 1 rfl) ?_
    refine lv_iconst (v := 1) hx hb dX4_addEntry_34 (by decide) ?_
    refine lv_iload hx hb dX4_addEntry_35 (lv_at hl 0 rfl) ?_
    refine lv_iconst (v := 4) hx hb dX4_addEntry_37 (by decide) ?_
    refine lv_idiv hx hb dX4_addEntry_38 (by decide) ?_
    refine lv_iconst (v := 0) hx hb dX4_addEntry_39 (by decide) ?_
    obtain ⟨u5, hu5, hf⟩ := bd_some hf
    refine z_cv (ws1 := w_X4_addEntry h_t r_t u5.1 cI u5.2) (wr := List.filterMap (fun i : Nat => (w_X4_addEntry h_t r_t u3.1 cI u3.2)[i]?) []) (z_rV (rest := []) hx hb hml hown hcx hl.1 (c_X4_addMicro l D cI h_t r_t u3.1 u3.2 1 (v1 / 4) 0 u5 hu5 _) tl_X4_135 ti_X4_addMicro tz_X4_addMicro tn_X4 tc_X4_addMicro tm_X4_addMicro rfl rfl ⟨Nat.le_of_ble_eq_true rfl, Nat.le_of_ble_eq_true rfl⟩ hK hX hS hA hP hD [0, 1] rfl rfl 0 rfl rfl rfl rfl (Nat.le_of_ble_eq_true rfl) dX4_addEntry_40 ⟨Nat.zero_le _, Nat.zero_le _⟩) hP hD hS hA [0, 1] [] [0, 1] rfl rfl rfl (by decide) rfl rfl (fun H locs hP hD hS => ?_)
    exact hret (u5.1, u5.2) _ _ _ _ hf hP hD hS dX4_addEntry_43
abbrev w_X4_addCount (h_t : Nat) (r_t : Nat → Nat) (F_t : Nat → Int32) (cI : ClassId) (a_micros : Nat → Int32) : va_W := [(h_t, .inr (4, o_X4 r_t F_t)), ((r_t 1), .inl (cI, 80, .inl a_micros))]
abbrev rm_X4_addCount : Room := { frames := 1, cells := 0, slots := 0, locals := 23 }
def m_X4_addCount_j37 (p1 : Int32) (p2 : Int32) (p3 : Int32) (F_t : Nat → Int32) (a_micros : Nat → Int32) : Option ((Nat → Int32) × (Nat → Int32)) :=
  bd (m_X4_isLeftOut F_t p3) fun u4 =>
  if u4 = 0 then (
  bd (m_X4_addMicro F_t a_micros 2 0 0) fun u5 =>
  some (u5.1, u5.2))
  else (
  some (F_t, a_micros))
def m_X4_addCount_j15 (p1 : Int32) (p2 : Int32) (p3 : Int32) (F_t : Nat → Int32) (a_micros : Nat → Int32) : Option ((Nat → Int32) × (Nat → Int32)) :=
  bd (m_X4_addMicro F_t a_micros 0 0 p1) fun u2 =>
  bd (m_X4_isLeftOut u2.1 5) fun u3 =>
  if u3 = 0 then (
  bd (m_X4_addMicro u2.1 u2.2 1 0 0) fun u6 =>
  m_X4_addCount_j37 p1 p2 p3 u6.1 u6.2)
  else (
  m_X4_addCount_j37 p1 p2 p3 u2.1 u2.2)
def m_X4_addCount (F_t : Nat → Int32) (a_micros : Nat → Int32) (p1 : Int32) (p2 : Int32) (p3 : Int32) : Option ((Nat → Int32) × (Nat → Int32)) :=
  bd (m_X4_isLeftOut F_t p2) fun u1 =>
  if u1 = 0 then (
  bd (m_X4_addMicro F_t a_micros 2 0 0) fun u7 =>
  m_X4_addCount_j15 p1 p2 p3 u7.1 u7.2)
  else (
  m_X4_addCount_j15 p1 p2 p3 F_t a_micros)
set_option maxHeartbeats 4000000 in
set_option maxRecDepth 100000 in
theorem c_X4_addCount (l : Launch) (D : va_G) (cI : ClassId) (h_t : Nat) (r_t : Nat → Nat) (F_t : Nat → Int32) (a_micros : Nat → Int32) (p1 : Int32) (p2 : Int32) (p3 : Int32) (Rr : (Nat → Int32) × (Nat → Int32)) (hf : m_X4_addCount F_t a_micros p1 p2 p3 = some Rr) : CTv l yX4_addCount (Cond.code yX4_addCount cX4_addCount 4 none) rm_X4_addCount D cI [.ref h_t, .int p1, .int p2, .int p3] (w_X4_addCount h_t r_t F_t cI a_micros) (w_X4_addCount h_t r_t Rr.1 cI Rr.2) := by
  refine z_begin_v (own := RX4) (ρ := (Nat → Int32) × (Nat → Int32)) (fun u => w_X4_addCount h_t r_t u.1 cI u.2) (by decide +kernel) rfl (Nat.le_of_ble_eq_true rfl) ?_
  intro p e s m args below meth c ls Q A hx hb hml hts hcx hown hK hX hA hP hD hS hl hret
  have hl : lv_has ls 4 [(0, .ref h_t), (1, .int p1), (2, .int p2), (3, .int p3)] := hl
  have hf := (m_X4_addCount.eq_1 _ _ _ _ _).symm.trans hf
  have L37 : ∀ (F_t : Nat → Int32) (a_micros : Nat → Int32) (H : Heap) (locs : List Loc) (ls : Array Slot), m_X4_addCount_j37 p1 p2 p3 F_t a_micros = some Rr → va_P D vwCl (w_X4_addCount h_t r_t F_t cI a_micros) H → va_D A (w_X4_addCount h_t r_t F_t cI a_micros) → va_S A s.heap H locs → lv_has ls 4 [(0, .ref h_t), (3, .int p3)] → W p l e rm_X4_addCount s m args below meth c H locs 0 0 Q (F0 m 37 ls []) := by
    intro F_t a_micros H locs ls hf hP hD hS hl
    have hf := (m_X4_addCount_j37.eq_1 _ _ _ _ _).symm.trans hf
    refine lv_aload_n hx hb dX4_addCount_37 rfl (lv_at hl 0 rfl) ?_
    refine lv_iload_n hx hb dX4_addCount_38 rfl (lv_at hl 1 rfl) ?_
    obtain ⟨u4, hu4, hf⟩ := bd_some hf
    refine z_ci (ws1 := w_X4_addCount h_t r_t F_t cI a_micros) (wr := List.filterMap (fun i : Nat => (w_X4_addCount h_t r_t F_t cI a_micros)[i]?) [1]) (z_rV (rest := []) hx hb hml hown hcx hl.1 (c_X4_isLeftOut l D cI h_t r_t F_t p3 u4 hu4 _) tl_X4_141 ti_X4_isLeftOut tz_X4_isLeftOut tn_X4 tc_X4_isLeftOut tm_X4_isLeftOut rfl rfl ⟨Nat.le_of_ble_eq_true rfl, Nat.le_of_ble_eq_true rfl⟩ hK hX hS hA hP hD [0] rfl rfl 0 rfl rfl rfl rfl (Nat.le_of_ble_eq_true rfl) dX4_addCount_39 ⟨Nat.zero_le _, Nat.zero_le _⟩) hP hD hS hA [0] [1] [1, 0] rfl rfl rfl (by decide) rfl rfl (fun H locs hP hD hS => ?_)
    refine z_if_ne (tgt := 52) hx hb dX4_addCount_42 (by decide) hf (fun hf => ?_) (fun hf => ?_)
    · exact hret (F_t, a_micros) _ _ _ _ hf hP hD hS dX4_addCount_52
    · refine lv_aload_n hx hb dX4_addCount_45 rfl (lv_at hl 0 rfl) ?_
      refine lv_iconst (v := 2) hx hb dX4_addCount_46 (by decide) ?_
      refine lv_iconst (v := 0) hx hb dX4_addCount_47 (by decide) ?_
      refine lv_iconst (v := 0) hx hb dX4_addCount_48 (by decide) ?_
      obtain ⟨u5, hu5, hf⟩ := bd_some hf
      refine z_cv (ws1 := w_X4_addCount h_t r_t u5.1 cI u5.2) (wr := List.filterMap (fun i : Nat => (w_X4_addCount h_t r_t F_t cI a_micros)[i]?) []) (z_rV (rest := []) hx hb hml hown hcx hl.1 (c_X4_addMicro l D cI h_t r_t F_t a_micros 2 0 0 u5 hu5 _) tl_X4_135 ti_X4_addMicro tz_X4_addMicro tn_X4 tc_X4_addMicro tm_X4_addMicro rfl rfl ⟨Nat.le_of_ble_eq_true rfl, Nat.le_of_ble_eq_true rfl⟩ hK hX hS hA hP hD [0, 1] rfl rfl 0 rfl rfl rfl rfl (Nat.le_of_ble_eq_true rfl) dX4_addCount_49 ⟨Nat.zero_le _, Nat.zero_le _⟩) hP hD hS hA [0, 1] [] [0, 1] rfl rfl rfl (by decide) rfl rfl (fun H locs hP hD hS => ?_)
      exact hret (u5.1, u5.2) _ _ _ _ hf hP hD hS dX4_addCount_52
  have L15 : ∀ (F_t : Nat → Int32) (a_micros : Nat → Int32) (H : Heap) (locs : List Loc) (ls : Array Slot), m_X4_addCount_j15 p1 p2 p3 F_t a_micros = some Rr → va_P D vwCl (w_X4_addCount h_t r_t F_t cI a_micros) H → va_D A (w_X4_addCount h_t r_t F_t cI a_micros) → va_S A s.heap H locs → lv_has ls 4 [(0, .ref h_t), (1, .int p1), (3, .int p3)] → W p l e rm_X4_addCount s m args below meth c H locs 0 0 Q (F0 m 15 ls []) := by
    intro F_t a_micros H locs ls hf hP hD hS hl
    have hf := (m_X4_addCount_j15.eq_1 _ _ _ _ _).symm.trans hf
    refine lv_aload_n hx hb dX4_addCount_15 rfl (lv_at hl 0 rfl) ?_
    refine lv_iconst (v := 0) hx hb dX4_addCount_16 (by decide) ?_
    refine lv_iconst (v := 0) hx hb dX4_addCount_17 (by decide) ?_
    refine lv_iload_n hx hb dX4_addCount_18 rfl (lv_at hl 1 rfl) ?_
    obtain ⟨u2, hu2, hf⟩ := bd_some hf
    refine z_cv (ws1 := w_X4_addCount h_t r_t u2.1 cI u2.2) (wr := List.filterMap (fun i : Nat => (w_X4_addCount h_t r_t F_t cI a_micros)[i]?) []) (z_rV (rest := []) hx hb hml hown hcx hl.1 (c_X4_addMicro l D cI h_t r_t F_t a_micros 0 0 p1 u2 hu2 _) tl_X4_135 ti_X4_addMicro tz_X4_addMicro tn_X4 tc_X4_addMicro tm_X4_addMicro rfl rfl ⟨Nat.le_of_ble_eq_true rfl, Nat.le_of_ble_eq_true rfl⟩ hK hX hS hA hP hD [0, 1] rfl rfl 0 rfl rfl rfl rfl (Nat.le_of_ble_eq_true rfl) dX4_addCount_19 ⟨Nat.zero_le _, Nat.zero_le _⟩) hP hD hS hA [0, 1] [] [0, 1] rfl rfl rfl (by decide) rfl rfl (fun H locs hP hD hS => ?_)
    refine lv_aload_n hx hb dX4_addCount_22 rfl (lv_at hl 0 rfl) ?_
    refine lv_iconst (v := 5) hx hb dX4_addCount_23 (by decide) ?_
    obtain ⟨u3, hu3, hf⟩ := bd_some hf
    refine z_ci (ws1 := w_X4_addCount h_t r_t u2.1 cI u2.2) (wr := List.filterMap (fun i : Nat => (w_X4_addCount h_t r_t u2.1 cI u2.2)[i]?) [1]) (z_rV (rest := []) hx hb hml hown hcx hl.1 (c_X4_isLeftOut l D cI h_t r_t u2.1 5 u3 hu3 _) tl_X4_141 ti_X4_isLeftOut tz_X4_isLeftOut tn_X4 tc_X4_isLeftOut tm_X4_isLeftOut rfl rfl ⟨Nat.le_of_ble_eq_true rfl, Nat.le_of_ble_eq_true rfl⟩ hK hX hS hA hP hD [0] rfl rfl 0 rfl rfl rfl rfl (Nat.le_of_ble_eq_true rfl) dX4_addCount_24 ⟨Nat.zero_le _, Nat.zero_le _⟩) hP hD hS hA [0] [1] [1, 0] rfl rfl rfl (by decide) rfl rfl (fun H locs hP hD hS => ?_)
    refine z_if_ne (tgt := 37) hx hb dX4_addCount_27 (by decide) hf (fun hf => ?_) (fun hf => ?_)
    · exact L37 u2.1 u2.2 _ _ _ hf hP hD hS (lv_sub hl [0, 2] rfl)
    · refine lv_aload_n hx hb dX4_addCount_30 rfl (lv_at hl 0 rfl) ?_
      refine lv_iconst (v := 1) hx hb dX4_addCount_31 (by decide) ?_
      refine lv_iconst (v := 0) hx hb dX4_addCount_32 (by decide) ?_
      refine lv_iconst (v := 0) hx hb dX4_addCount_33 (by decide) ?_
      obtain ⟨u6, hu6, hf⟩ := bd_some hf
      refine z_cv (ws1 := w_X4_addCount h_t r_t u6.1 cI u6.2) (wr := List.filterMap (fun i : Nat => (w_X4_addCount h_t r_t u2.1 cI u2.2)[i]?) []) (z_rV (rest := []) hx hb hml hown hcx hl.1 (c_X4_addMicro l D cI h_t r_t u2.1 u2.2 1 0 0 u6 hu6 _) tl_X4_135 ti_X4_addMicro tz_X4_addMicro tn_X4 tc_X4_addMicro tm_X4_addMicro rfl rfl ⟨Nat.le_of_ble_eq_true rfl, Nat.le_of_ble_eq_true rfl⟩ hK hX hS hA hP hD [0, 1] rfl rfl 0 rfl rfl rfl rfl (Nat.le_of_ble_eq_true rfl) dX4_addCount_34 ⟨Nat.zero_le _, Nat.zero_le _⟩) hP hD hS hA [0, 1] [] [0, 1] rfl rfl rfl (by decide) rfl rfl (fun H locs hP hD hS => ?_)
      exact L37 u6.1 u6.2 _ _ _ hf hP hD hS (lv_sub hl [0, 2] rfl)
  refine lv_aload_n hx hb dX4_addCount_0 rfl (lv_at hl 0 rfl) ?_
  refine lv_iload_n hx hb dX4_addCount_1 rfl (lv_at hl 2 rfl) ?_
  obtain ⟨u1, hu1, hf⟩ := bd_some hf
  refine z_ci (ws1 := w_X4_addCount h_t r_t F_t cI a_micros) (wr := List.filterMap (fun i : Nat => (w_X4_addCount h_t r_t F_t cI a_micros)[i]?) [1]) (z_rV (rest := []) hx hb hml hown hcx hl.1 (c_X4_isLeftOut l D cI h_t r_t F_t p2 u1 hu1 _) tl_X4_141 ti_X4_isLeftOut tz_X4_isLeftOut tn_X4 tc_X4_isLeftOut tm_X4_isLeftOut rfl rfl ⟨Nat.le_of_ble_eq_true rfl, Nat.le_of_ble_eq_true rfl⟩ hK hX hS hA hP hD [0] rfl rfl 0 rfl rfl rfl rfl (Nat.le_of_ble_eq_true rfl) dX4_addCount_2 ⟨Nat.zero_le _, Nat.zero_le _⟩) hP hD hS hA [0] [1] [1, 0] rfl rfl rfl (by decide) rfl rfl (fun H locs hP hD hS => ?_)
  refine z_if_ne (tgt := 15) hx hb dX4_addCount_5 (by decide) hf (fun hf => ?_) (fun hf => ?_)
  · exact L15 F_t a_micros _ _ _ hf hP hD hS (lv_sub hl [0, 1, 3] rfl)
  · refine lv_aload_n hx hb dX4_addCount_8 rfl (lv_at hl 0 rfl) ?_
    refine lv_iconst (v := 2) hx hb dX4_addCount_9 (by decide) ?_
    refine lv_iconst (v := 0) hx hb dX4_addCount_10 (by decide) ?_
    refine lv_iconst (v := 0) hx hb dX4_addCount_11 (by decide) ?_
    obtain ⟨u7, hu7, hf⟩ := bd_some hf
    refine z_cv (ws1 := w_X4_addCount h_t r_t u7.1 cI u7.2) (wr := List.filterMap (fun i : Nat => (w_X4_addCount h_t r_t F_t cI a_micros)[i]?) []) (z_rV (rest := []) hx hb hml hown hcx hl.1 (c_X4_addMicro l D cI h_t r_t F_t a_micros 2 0 0 u7 hu7 _) tl_X4_135 ti_X4_addMicro tz_X4_addMicro tn_X4 tc_X4_addMicro tm_X4_addMicro rfl rfl ⟨Nat.le_of_ble_eq_true rfl, Nat.le_of_ble_eq_true rfl⟩ hK hX hS hA hP hD [0, 1] rfl rfl 0 rfl rfl rfl rfl (Nat.le_of_ble_eq_true rfl) dX4_addCount_12 ⟨Nat.zero_le _, Nat.zero_le _⟩) hP hD hS hA [0, 1] [] [0, 1] rfl rfl rfl (by decide) rfl rfl (fun H locs hP hD hS => ?_)
    exact L15 u7.1 u7.2 _ _ _ hf hP hD hS (lv_sub hl [0, 1, 3] rfl)
abbrev w_X4_addUndoing (h_t : Nat) (h_p1 : Nat) (r_t : Nat → Nat) (r_p1 : Nat → Nat) (F_t : Nat → Int32) (F_p1 : Nat → Int32) (cI : ClassId) (a_micros : Nat → Int32) (a_p1_addresses : Nat → Int32) (a_p1_numbers : Nat → Int32) (a_p1_olds : Nat → Int32) : va_W := [(h_t, .inr (4, o_X4 r_t F_t)), ((r_t 1), .inl (cI, 80, .inl a_micros)), (h_p1, .inr (5, o_X5 r_p1 F_p1)), ((r_p1 1), .inl (cI, 8, .inl a_p1_addresses)), ((r_p1 2), .inl (cI, 8, .inl a_p1_numbers)), ((r_p1 3), .inl (cI, 8, .inl a_p1_olds))]
abbrev rm_X4_addUndoing : Room := { frames := 2, cells := 0, slots := 0, locals := 47 }
def m_X4_addUndoing_w2 (F_p1 : Nat → Int32) (a_p1_addresses : Nat → Int32) (a_p1_numbers : Nat → Int32) (a_p1_olds : Nat → Int32) : Nat → Int32 → (Nat → Int32) → (Nat → Int32) → Option ((Nat → Int32) × (Nat → Int32))
  | 0, _, _, _ => none
  | n2 + 1, x2, F_t, a_micros =>
    if (F_p1 4) ≤ x2 then (
    some (F_t, a_micros))
    else (
    rd a_p1_addresses 8 x2 fun y1 =>
    rd a_p1_olds 8 x2 fun y2 =>
    bd (m_X4_addEntry F_t a_micros x2 y1 y2) fun u3 =>
    bd (m_X4_addCount u3.1 u3.2 (x2 + 1) 0 1) fun u4 =>
    rd a_p1_addresses 8 x2 fun y5 =>
    rd a_p1_numbers 8 x2 fun y6 =>
    bd (m_X4_addMicro u4.1 u4.2 0 y5 y6) fun u7 =>
    nm (x2 + 1) fun v8 =>
    m_X4_addUndoing_w2 F_p1 a_p1_addresses a_p1_numbers a_p1_olds n2 v8 u7.1 u7.2)
def m_X4_addUndoing (F_t : Nat → Int32) (F_p1 : Nat → Int32) (a_micros : Nat → Int32) (a_p1_addresses : Nat → Int32) (a_p1_numbers : Nat → Int32) (a_p1_olds : Nat → Int32) : Option ((Nat → Int32) × (Nat → Int32)) :=
  m_X4_addUndoing_w2 F_p1 a_p1_addresses a_p1_numbers a_p1_olds fuelN 0 F_t a_micros
set_option maxHeartbeats 4000000 in
set_option maxRecDepth 100000 in
theorem c_X4_addUndoing (l : Launch) (D : va_G) (cI : ClassId) (h_t : Nat) (h_p1 : Nat) (r_t : Nat → Nat) (r_p1 : Nat → Nat) (F_t : Nat → Int32) (F_p1 : Nat → Int32) (a_micros : Nat → Int32) (a_p1_addresses : Nat → Int32) (a_p1_numbers : Nat → Int32) (a_p1_olds : Nat → Int32) (Rr : (Nat → Int32) × (Nat → Int32)) (hf : m_X4_addUndoing F_t F_p1 a_micros a_p1_addresses a_p1_numbers a_p1_olds = some Rr) : CTv l yX4_addUndoing (Cond.code yX4_addUndoing cX4_addUndoing 3 none) rm_X4_addUndoing D cI [.ref h_t, .ref h_p1] (w_X4_addUndoing h_t h_p1 r_t r_p1 F_t F_p1 cI a_micros a_p1_addresses a_p1_numbers a_p1_olds) (w_X4_addUndoing h_t h_p1 r_t r_p1 Rr.1 F_p1 cI Rr.2 a_p1_addresses a_p1_numbers a_p1_olds) := by
  refine z_begin_v (own := RX4) (ρ := (Nat → Int32) × (Nat → Int32)) (fun u => w_X4_addUndoing h_t h_p1 r_t r_p1 u.1 F_p1 cI u.2 a_p1_addresses a_p1_numbers a_p1_olds) (by decide +kernel) rfl (Nat.le_of_ble_eq_true rfl) ?_
  intro p e s m args below meth c ls Q A hx hb hml hts hcx hown hK hX hA hP hD hS hl hret
  have hl : lv_has ls 3 [(0, .ref h_t), (1, .ref h_p1)] := hl
  have hf := (m_X4_addUndoing.eq_1 _ _ _ _ _ _).symm.trans hf
  have L2 : ∀ (n2 : Nat) (x2 : Int32) (F_t : Nat → Int32) (a_micros : Nat → Int32) (H : Heap) (locs : List Loc) (ls : Array Slot), m_X4_addUndoing_w2 F_p1 a_p1_addresses a_p1_numbers a_p1_olds n2 x2 F_t a_micros = some Rr → va_P D vwCl (w_X4_addUndoing h_t h_p1 r_t r_p1 F_t F_p1 cI a_micros a_p1_addresses a_p1_numbers a_p1_olds) H → va_D A (w_X4_addUndoing h_t h_p1 r_t r_p1 F_t F_p1 cI a_micros a_p1_addresses a_p1_numbers a_p1_olds) → va_S A s.heap H locs → lv_has ls 3 [(0, .ref h_t), (1, .ref h_p1), (2, .int x2)] → W p l e rm_X4_addUndoing s m args below meth c H locs 0 0 Q (F0 m 2 ls []) := by
    intro n2
    induction n2 with
    | zero => intro x2 F_t a_micros H locs ls hf; cases (show (none : Option _) = some Rr from hf)
    | succ n2 ih2 =>
      intro x2 F_t a_micros H locs ls hf hP hD hS hl
      have hf := (m_X4_addUndoing_w2.eq_2 _ _ _ _ _ _ _ _).symm.trans hf
      refine lv_iload_n hx hb dX4_addUndoing_2 rfl (lv_at hl 2 rfl) ?_
      refine lv_aload_n hx hb dX4_addUndoing_3 rfl (lv_at hl 1 rfl) ?_
      refine z_get (ci := 5) (C := RX5) (T := TX5) (N := 7) (v := .int (F_p1 4)) hx hb hts inT_X5 hown hK hP 2 rfl rfl 4 (by decide) tf_X4_116 rfl dX4_addUndoing_4 ?_
      refine z_icmp_ge (tgt := 59) hx hb dX4_addUndoing_7 (by decide) hf (fun hf => ?_) (fun hf => ?_)
      · exact hret (F_t, a_micros) _ _ _ _ hf hP hD hS dX4_addUndoing_59
      · refine lv_aload_n hx hb dX4_addUndoing_10 rfl (lv_at hl 0 rfl) ?_
        refine lv_iload_n hx hb dX4_addUndoing_11 rfl (lv_at hl 2 rfl) ?_
        refine lv_aload_n hx hb dX4_addUndoing_12 rfl (lv_at hl 1 rfl) ?_
        refine z_get (ci := 5) (C := RX5) (T := TX5) (N := 7) (v := .ref (r_p1 1)) hx hb hts inT_X5 hown hK hP 2 rfl rfl 1 (by decide) tf_X4_119 rfl dX4_addUndoing_13 ?_
        refine lv_iload_n hx hb dX4_addUndoing_16 rfl (lv_at hl 2 rfl) ?_
        refine z_iald hx hb hK hP 3 rfl dX4_addUndoing_17 hf (fun y1 hf => ?_)
        refine lv_aload_n hx hb dX4_addUndoing_18 rfl (lv_at hl 1 rfl) ?_
        refine z_get (ci := 5) (C := RX5) (T := TX5) (N := 7) (v := .ref (r_p1 3)) hx hb hts inT_X5 hown hK hP 2 rfl rfl 3 (by decide) tf_X4_122 rfl dX4_addUndoing_19 ?_
        refine lv_iload_n hx hb dX4_addUndoing_22 rfl (lv_at hl 2 rfl) ?_
        refine z_iald hx hb hK hP 5 rfl dX4_addUndoing_23 hf (fun y2 hf => ?_)
        obtain ⟨u3, hu3, hf⟩ := bd_some hf
        refine z_cv (ws1 := w_X4_addUndoing h_t h_p1 r_t r_p1 u3.1 F_p1 cI u3.2 a_p1_addresses a_p1_numbers a_p1_olds) (wr := List.filterMap (fun i : Nat => (w_X4_addUndoing h_t h_p1 r_t r_p1 F_t F_p1 cI a_micros a_p1_addresses a_p1_numbers a_p1_olds)[i]?) [2, 3, 4, 5]) (z_rV (rest := []) hx hb hml hown hcx hl.1 (c_X4_addEntry l D cI h_t r_t F_t a_micros x2 y1 y2 u3 hu3 _) tl_X4_125 ti_X4_addEntry tz_X4_addEntry tn_X4 tc_X4_addEntry tm_X4_addEntry rfl rfl ⟨Nat.le_of_ble_eq_true rfl, Nat.le_of_ble_eq_true rfl⟩ hK hX hS hA hP hD [0, 1] rfl rfl 0 rfl rfl rfl rfl (Nat.le_of_ble_eq_true rfl) dX4_addUndoing_24 ⟨Nat.zero_le _, Nat.zero_le _⟩) hP hD hS hA [0, 1] [2, 3, 4, 5] [4, 5, 0, 1, 2, 3] rfl rfl rfl (by decide) rfl rfl (fun H locs hP hD hS => ?_)
        refine lv_aload_n hx hb dX4_addUndoing_27 rfl (lv_at hl 0 rfl) ?_
        refine lv_iload_n hx hb dX4_addUndoing_28 rfl (lv_at hl 2 rfl) ?_
        refine lv_iconst (v := 1) hx hb dX4_addUndoing_29 (by decide) ?_
        refine lv_iadd hx hb dX4_addUndoing_30 ?_
        refine lv_iconst (v := 0) hx hb dX4_addUndoing_31 (by decide) ?_
        refine lv_iconst (v := 1) hx hb dX4_addUndoing_32 (by decide) ?_
        obtain ⟨u4, hu4, hf⟩ := bd_some hf
        refine z_cv (ws1 := w_X4_addUndoing h_t h_p1 r_t r_p1 u4.1 F_p1 cI u4.2 a_p1_addresses a_p1_numbers a_p1_olds) (wr := List.filterMap (fun i : Nat => (w_X4_addUndoing h_t h_p1 r_t r_p1 u3.1 F_p1 cI u3.2 a_p1_addresses a_p1_numbers a_p1_olds)[i]?) [2, 3, 4, 5]) (z_rV (rest := []) hx hb hml hown hcx hl.1 (c_X4_addCount l D cI h_t r_t u3.1 u3.2 (x2 + 1) 0 1 u4 hu4 _) tl_X4_129 ti_X4_addCount tz_X4_addCount tn_X4 tc_X4_addCount tm_X4_addCount rfl rfl ⟨Nat.le_of_ble_eq_true rfl, Nat.le_of_ble_eq_true rfl⟩ hK hX hS hA hP hD [0, 1] rfl rfl 0 rfl rfl rfl rfl (Nat.le_of_ble_eq_true rfl) dX4_addUndoing_33 ⟨Nat.zero_le _, Nat.zero_le _⟩) hP hD hS hA [0, 1] [2, 3, 4, 5] [4, 5, 0, 1, 2, 3] rfl rfl rfl (by decide) rfl rfl (fun H locs hP hD hS => ?_)
        refine lv_aload_n hx hb dX4_addUndoing_36 rfl (lv_at hl 0 rfl) ?_
        refine lv_iconst (v := 0) hx hb dX4_addUndoing_37 (by decide) ?_
        refine lv_aload_n hx hb dX4_addUndoing_38 rfl (lv_at hl 1 rfl) ?_
        refine z_get (ci := 5) (C := RX5) (T := TX5) (N := 7) (v := .ref (r_p1 1)) hx hb hts inT_X5 hown hK hP 2 rfl rfl 1 (by decide) tf_X4_119 rfl dX4_addUndoing_39 ?_
        refine lv_iload_n hx hb dX4_addUndoing_42 rfl (lv_at hl 2 rfl) ?_
        refine z_iald hx hb hK hP 3 rfl dX4_addUndoing_43 hf (fun y5 hf => ?_)
        refine lv_aload_n hx hb dX4_addUndoing_44 rfl (lv_at hl 1 rfl) ?_
        refine z_get (ci := 5) (C := RX5) (T := TX5) (N := 7) (v := .ref (r_p1 2)) hx hb hts inT_X5 hown hK hP 2 rfl rfl 2 (by decide) tf_X4_132 rfl dX4_addUndoing_45 ?_
        refine lv_iload_n hx hb dX4_addUndoing_48 rfl (lv_at hl 2 rfl) ?_
        refine z_iald hx hb hK hP 4 rfl dX4_addUndoing_49 hf (fun y6 hf => ?_)
        obtain ⟨u7, hu7, hf⟩ := bd_some hf
        refine z_cv (ws1 := w_X4_addUndoing h_t h_p1 r_t r_p1 u7.1 F_p1 cI u7.2 a_p1_addresses a_p1_numbers a_p1_olds) (wr := List.filterMap (fun i : Nat => (w_X4_addUndoing h_t h_p1 r_t r_p1 u4.1 F_p1 cI u4.2 a_p1_addresses a_p1_numbers a_p1_olds)[i]?) [2, 3, 4, 5]) (z_rV (rest := []) hx hb hml hown hcx hl.1 (c_X4_addMicro l D cI h_t r_t u4.1 u4.2 0 y5 y6 u7 hu7 _) tl_X4_135 ti_X4_addMicro tz_X4_addMicro tn_X4 tc_X4_addMicro tm_X4_addMicro rfl rfl ⟨Nat.le_of_ble_eq_true rfl, Nat.le_of_ble_eq_true rfl⟩ hK hX hS hA hP hD [0, 1] rfl rfl 0 rfl rfl rfl rfl (Nat.le_of_ble_eq_true rfl) dX4_addUndoing_50 ⟨Nat.zero_le _, Nat.zero_le _⟩) hP hD hS hA [0, 1] [2, 3, 4, 5] [4, 5, 0, 1, 2, 3] rfl rfl rfl (by decide) rfl rfl (fun H locs hP hD hS => ?_)
        refine z_iinc (k0 := 2) (fun z => [(2, .int z), (0, .ref h_t), (1, .ref h_p1)]) hx hb dX4_addUndoing_53 hl rfl (by decide) (by decide) (fun _ => rfl) hf (fun v8 ls hf hl => ?_)
        refine lv_goto (tgt := 2) hx hb dX4_addUndoing_56 (by decide) ?_
        exact ih2 v8 u7.1 u7.2 _ _ _ hf hP hD hS (lv_sub hl [1, 2, 0] rfl)
  refine lv_iconst (v := 0) hx hb dX4_addUndoing_0 (by decide) ?_
  refine lv_istore_n (lv' := [(2, .int 0), (0, .ref h_t), (1, .ref h_p1)]) hx hb dX4_addUndoing_1 rfl hl (by decide) rfl (fun ls hl => ?_)
  exact L2 fuelN 0 F_t a_micros _ _ _ hf hP hD hS (lv_sub hl [1, 2, 0] rfl)
abbrev w_X4_addWrites (h_t : Nat) (h_p1 : Nat) (r_t : Nat → Nat) (r_p1 : Nat → Nat) (F_t : Nat → Int32) (F_p1 : Nat → Int32) (cI : ClassId) (a_micros : Nat → Int32) (a_p1_addresses : Nat → Int32) (a_p1_numbers : Nat → Int32) : va_W := [(h_t, .inr (4, o_X4 r_t F_t)), ((r_t 1), .inl (cI, 80, .inl a_micros)), (h_p1, .inr (5, o_X5 r_p1 F_p1)), ((r_p1 1), .inl (cI, 8, .inl a_p1_addresses)), ((r_p1 2), .inl (cI, 8, .inl a_p1_numbers))]
abbrev rm_X4_addWrites : Room := { frames := 1, cells := 0, slots := 0, locals := 23 }
def m_X4_addWrites_w2 (F_p1 : Nat → Int32) (a_p1_addresses : Nat → Int32) (a_p1_numbers : Nat → Int32) : Nat → Int32 → (Nat → Int32) → (Nat → Int32) → Option ((Nat → Int32) × (Nat → Int32))
  | 0, _, _, _ => none
  | n2 + 1, x2, F_t, a_micros =>
    if (F_p1 4) ≤ x2 then (
    some (F_t, a_micros))
    else (
    rd a_p1_addresses 8 x2 fun y1 =>
    rd a_p1_numbers 8 x2 fun y2 =>
    bd (m_X4_addMicro F_t a_micros 0 y1 y2) fun u3 =>
    nm (x2 + 1) fun v4 =>
    m_X4_addWrites_w2 F_p1 a_p1_addresses a_p1_numbers n2 v4 u3.1 u3.2)
def m_X4_addWrites (F_t : Nat → Int32) (F_p1 : Nat → Int32) (a_micros : Nat → Int32) (a_p1_addresses : Nat → Int32) (a_p1_numbers : Nat → Int32) : Option ((Nat → Int32) × (Nat → Int32)) :=
  m_X4_addWrites_w2 F_p1 a_p1_addresses a_p1_numbers fuelN 0 F_t a_micros
set_option maxHeartbeats 4000000 in
set_option maxRecDepth 100000 in
theorem c_X4_addWrites (l : Launch) (D : va_G) (cI : ClassId) (h_t : Nat) (h_p1 : Nat) (r_t : Nat → Nat) (r_p1 : Nat → Nat) (F_t : Nat → Int32) (F_p1 : Nat → Int32) (a_micros : Nat → Int32) (a_p1_addresses : Nat → Int32) (a_p1_numbers : Nat → Int32) (Rr : (Nat → Int32) × (Nat → Int32)) (hf : m_X4_addWrites F_t F_p1 a_micros a_p1_addresses a_p1_numbers = some Rr) : CTv l yX4_addWrites (Cond.code yX4_addWrites cX4_addWrites 3 none) rm_X4_addWrites D cI [.ref h_t, .ref h_p1] (w_X4_addWrites h_t h_p1 r_t r_p1 F_t F_p1 cI a_micros a_p1_addresses a_p1_numbers) (w_X4_addWrites h_t h_p1 r_t r_p1 Rr.1 F_p1 cI Rr.2 a_p1_addresses a_p1_numbers) := by
  refine z_begin_v (own := RX4) (ρ := (Nat → Int32) × (Nat → Int32)) (fun u => w_X4_addWrites h_t h_p1 r_t r_p1 u.1 F_p1 cI u.2 a_p1_addresses a_p1_numbers) (by decide +kernel) rfl (Nat.le_of_ble_eq_true rfl) ?_
  intro p e s m args below meth c ls Q A hx hb hml hts hcx hown hK hX hA hP hD hS hl hret
  have hl : lv_has ls 3 [(0, .ref h_t), (1, .ref h_p1)] := hl
  have hf := (m_X4_addWrites.eq_1 _ _ _ _ _).symm.trans hf
  have L2 : ∀ (n2 : Nat) (x2 : Int32) (F_t : Nat → Int32) (a_micros : Nat → Int32) (H : Heap) (locs : List Loc) (ls : Array Slot), m_X4_addWrites_w2 F_p1 a_p1_addresses a_p1_numbers n2 x2 F_t a_micros = some Rr → va_P D vwCl (w_X4_addWrites h_t h_p1 r_t r_p1 F_t F_p1 cI a_micros a_p1_addresses a_p1_numbers) H → va_D A (w_X4_addWrites h_t h_p1 r_t r_p1 F_t F_p1 cI a_micros a_p1_addresses a_p1_numbers) → va_S A s.heap H locs → lv_has ls 3 [(0, .ref h_t), (1, .ref h_p1), (2, .int x2)] → W p l e rm_X4_addWrites s m args below meth c H locs 0 0 Q (F0 m 2 ls []) := by
    intro n2
    induction n2 with
    | zero => intro x2 F_t a_micros H locs ls hf; cases (show (none : Option _) = some Rr from hf)
    | succ n2 ih2 =>
      intro x2 F_t a_micros H locs ls hf hP hD hS hl
      have hf := (m_X4_addWrites_w2.eq_2 _ _ _ _ _ _ _).symm.trans hf
      refine lv_iload_n hx hb dX4_addWrites_2 rfl (lv_at hl 2 rfl) ?_
      refine lv_aload_n hx hb dX4_addWrites_3 rfl (lv_at hl 1 rfl) ?_
      refine z_get (ci := 5) (C := RX5) (T := TX5) (N := 7) (v := .int (F_p1 4)) hx hb hts inT_X5 hown hK hP 2 rfl rfl 4 (by decide) tf_X4_116 rfl dX4_addWrites_4 ?_
      refine z_icmp_ge (tgt := 33) hx hb dX4_addWrites_7 (by decide) hf (fun hf => ?_) (fun hf => ?_)
      · exact hret (F_t, a_micros) _ _ _ _ hf hP hD hS dX4_addWrites_33
      · refine lv_aload_n hx hb dX4_addWrites_10 rfl (lv_at hl 0 rfl) ?_
        refine lv_iconst (v := 0) hx hb dX4_addWrites_11 (by decide) ?_
        refine lv_aload_n hx hb dX4_addWrites_12 rfl (lv_at hl 1 rfl) ?_
        refine z_get (ci := 5) (C := RX5) (T := TX5) (N := 7) (v := .ref (r_p1 1)) hx hb hts inT_X5 hown hK hP 2 rfl rfl 1 (by decide) tf_X4_119 rfl dX4_addWrites_13 ?_
        refine lv_iload_n hx hb dX4_addWrites_16 rfl (lv_at hl 2 rfl) ?_
        refine z_iald hx hb hK hP 3 rfl dX4_addWrites_17 hf (fun y1 hf => ?_)
        refine lv_aload_n hx hb dX4_addWrites_18 rfl (lv_at hl 1 rfl) ?_
        refine z_get (ci := 5) (C := RX5) (T := TX5) (N := 7) (v := .ref (r_p1 2)) hx hb hts inT_X5 hown hK hP 2 rfl rfl 2 (by decide) tf_X4_132 rfl dX4_addWrites_19 ?_
        refine lv_iload_n hx hb dX4_addWrites_22 rfl (lv_at hl 2 rfl) ?_
        refine z_iald hx hb hK hP 4 rfl dX4_addWrites_23 hf (fun y2 hf => ?_)
        obtain ⟨u3, hu3, hf⟩ := bd_some hf
        refine z_cv (ws1 := w_X4_addWrites h_t h_p1 r_t r_p1 u3.1 F_p1 cI u3.2 a_p1_addresses a_p1_numbers) (wr := List.filterMap (fun i : Nat => (w_X4_addWrites h_t h_p1 r_t r_p1 F_t F_p1 cI a_micros a_p1_addresses a_p1_numbers)[i]?) [2, 3, 4]) (z_rV (rest := []) hx hb hml hown hcx hl.1 (c_X4_addMicro l D cI h_t r_t F_t a_micros 0 y1 y2 u3 hu3 _) tl_X4_135 ti_X4_addMicro tz_X4_addMicro tn_X4 tc_X4_addMicro tm_X4_addMicro rfl rfl ⟨Nat.le_of_ble_eq_true rfl, Nat.le_of_ble_eq_true rfl⟩ hK hX hS hA hP hD [0, 1] rfl rfl 0 rfl rfl rfl rfl (Nat.le_of_ble_eq_true rfl) dX4_addWrites_24 ⟨Nat.zero_le _, Nat.zero_le _⟩) hP hD hS hA [0, 1] [2, 3, 4] [3, 4, 0, 1, 2] rfl rfl rfl (by decide) rfl rfl (fun H locs hP hD hS => ?_)
        refine z_iinc (k0 := 2) (fun z => [(2, .int z), (0, .ref h_t), (1, .ref h_p1)]) hx hb dX4_addWrites_27 hl rfl (by decide) (by decide) (fun _ => rfl) hf (fun v4 ls hf hl => ?_)
        refine lv_goto (tgt := 2) hx hb dX4_addWrites_30 (by decide) ?_
        exact ih2 v4 u3.1 u3.2 _ _ _ hf hP hD hS (lv_sub hl [1, 2, 0] rfl)
  refine lv_iconst (v := 0) hx hb dX4_addWrites_0 (by decide) ?_
  refine lv_istore_n (lv' := [(2, .int 0), (0, .ref h_t), (1, .ref h_p1)]) hx hb dX4_addWrites_1 rfl hl (by decide) rfl (fun ls hl => ?_)
  exact L2 fuelN 0 F_t a_micros _ _ _ hf hP hD hS (lv_sub hl [1, 2, 0] rfl)
abbrev w_X4_addRedoing (h_t : Nat) (h_p1 : Nat) (r_t : Nat → Nat) (r_p1 : Nat → Nat) (F_t : Nat → Int32) (F_p1 : Nat → Int32) (cI : ClassId) (a_micros : Nat → Int32) (a_p1_addresses : Nat → Int32) (a_p1_numbers : Nat → Int32) : va_W := [(h_t, .inr (4, o_X4 r_t F_t)), ((r_t 1), .inl (cI, 80, .inl a_micros)), (h_p1, .inr (5, o_X5 r_p1 F_p1)), ((r_p1 1), .inl (cI, 8, .inl a_p1_addresses)), ((r_p1 2), .inl (cI, 8, .inl a_p1_numbers))]
abbrev rm_X4_addRedoing : Room := { frames := 2, cells := 0, slots := 0, locals := 47 }
def m_X4_addRedoing_j33 (F_p1 : Nat → Int32) (a_p1_addresses : Nat → Int32) (a_p1_numbers : Nat → Int32) (F_t : Nat → Int32) (a_micros : Nat → Int32) : Option ((Nat → Int32) × (Nat → Int32)) :=
  bd (m_X4_addCount F_t a_micros (F_p1 4) 0 1) fun u1 =>
  bd (m_X4_addWrites u1.1 F_p1 u1.2 a_p1_addresses a_p1_numbers) fun u2 =>
  some (u2.1, u2.2)
def m_X4_addRedoing_w2 (F_p1 : Nat → Int32) (a_p1_addresses : Nat → Int32) (a_p1_numbers : Nat → Int32) (k33 : (Nat → Int32) → (Nat → Int32) → Option ((Nat → Int32) × (Nat → Int32))) : Nat → Int32 → (Nat → Int32) → (Nat → Int32) → Option ((Nat → Int32) × (Nat → Int32))
  | 0, _, _, _ => none
  | n2 + 1, x2, F_t, a_micros =>
    if (F_p1 4) ≤ x2 then (
    k33 F_t a_micros)
    else (
    rd a_p1_addresses 8 x2 fun y3 =>
    rd a_p1_numbers 8 x2 fun y4 =>
    bd (m_X4_addEntry F_t a_micros x2 y3 y4) fun u5 =>
    nm (x2 + 1) fun v6 =>
    m_X4_addRedoing_w2 F_p1 a_p1_addresses a_p1_numbers k33 n2 v6 u5.1 u5.2)
def m_X4_addRedoing (F_t : Nat → Int32) (F_p1 : Nat → Int32) (a_micros : Nat → Int32) (a_p1_addresses : Nat → Int32) (a_p1_numbers : Nat → Int32) : Option ((Nat → Int32) × (Nat → Int32)) :=
  m_X4_addRedoing_w2 F_p1 a_p1_addresses a_p1_numbers (m_X4_addRedoing_j33 F_p1 a_p1_addresses a_p1_numbers) fuelN 0 F_t a_micros
set_option maxHeartbeats 4000000 in
set_option maxRecDepth 100000 in
theorem c_X4_addRedoing (l : Launch) (D : va_G) (cI : ClassId) (h_t : Nat) (h_p1 : Nat) (r_t : Nat → Nat) (r_p1 : Nat → Nat) (F_t : Nat → Int32) (F_p1 : Nat → Int32) (a_micros : Nat → Int32) (a_p1_addresses : Nat → Int32) (a_p1_numbers : Nat → Int32) (Rr : (Nat → Int32) × (Nat → Int32)) (hf : m_X4_addRedoing F_t F_p1 a_micros a_p1_addresses a_p1_numbers = some Rr) : CTv l yX4_addRedoing (Cond.code yX4_addRedoing cX4_addRedoing 3 none) rm_X4_addRedoing D cI [.ref h_t, .ref h_p1] (w_X4_addRedoing h_t h_p1 r_t r_p1 F_t F_p1 cI a_micros a_p1_addresses a_p1_numbers) (w_X4_addRedoing h_t h_p1 r_t r_p1 Rr.1 F_p1 cI Rr.2 a_p1_addresses a_p1_numbers) := by
  refine z_begin_v (own := RX4) (ρ := (Nat → Int32) × (Nat → Int32)) (fun u => w_X4_addRedoing h_t h_p1 r_t r_p1 u.1 F_p1 cI u.2 a_p1_addresses a_p1_numbers) (by decide +kernel) rfl (Nat.le_of_ble_eq_true rfl) ?_
  intro p e s m args below meth c ls Q A hx hb hml hts hcx hown hK hX hA hP hD hS hl hret
  have hl : lv_has ls 3 [(0, .ref h_t), (1, .ref h_p1)] := hl
  have hf := (m_X4_addRedoing.eq_1 _ _ _ _ _).symm.trans hf
  have L33 : ∀ (F_t : Nat → Int32) (a_micros : Nat → Int32) (H : Heap) (locs : List Loc) (ls : Array Slot), m_X4_addRedoing_j33 F_p1 a_p1_addresses a_p1_numbers F_t a_micros = some Rr → va_P D vwCl (w_X4_addRedoing h_t h_p1 r_t r_p1 F_t F_p1 cI a_micros a_p1_addresses a_p1_numbers) H → va_D A (w_X4_addRedoing h_t h_p1 r_t r_p1 F_t F_p1 cI a_micros a_p1_addresses a_p1_numbers) → va_S A s.heap H locs → lv_has ls 3 [(0, .ref h_t), (1, .ref h_p1)] → W p l e rm_X4_addRedoing s m args below meth c H locs 0 0 Q (F0 m 33 ls []) := by
    intro F_t a_micros H locs ls hf hP hD hS hl
    have hf := (m_X4_addRedoing_j33.eq_1 _ _ _ _ _).symm.trans hf
    refine lv_aload_n hx hb dX4_addRedoing_33 rfl (lv_at hl 0 rfl) ?_
    refine lv_aload_n hx hb dX4_addRedoing_34 rfl (lv_at hl 1 rfl) ?_
    refine z_get (ci := 5) (C := RX5) (T := TX5) (N := 7) (v := .int (F_p1 4)) hx hb hts inT_X5 hown hK hP 2 rfl rfl 4 (by decide) tf_X4_116 rfl dX4_addRedoing_35 ?_
    refine lv_iconst (v := 0) hx hb dX4_addRedoing_38 (by decide) ?_
    refine lv_iconst (v := 1) hx hb dX4_addRedoing_39 (by decide) ?_
    obtain ⟨u1, hu1, hf⟩ := bd_some hf
    refine z_cv (ws1 := w_X4_addRedoing h_t h_p1 r_t r_p1 u1.1 F_p1 cI u1.2 a_p1_addresses a_p1_numbers) (wr := List.filterMap (fun i : Nat => (w_X4_addRedoing h_t h_p1 r_t r_p1 F_t F_p1 cI a_micros a_p1_addresses a_p1_numbers)[i]?) [2, 3, 4]) (z_rV (rest := []) hx hb hml hown hcx hl.1 (c_X4_addCount l D cI h_t r_t F_t a_micros (F_p1 4) 0 1 u1 hu1 _) tl_X4_129 ti_X4_addCount tz_X4_addCount tn_X4 tc_X4_addCount tm_X4_addCount rfl rfl ⟨Nat.le_of_ble_eq_true rfl, Nat.le_of_ble_eq_true rfl⟩ hK hX hS hA hP hD [0, 1] rfl rfl 0 rfl rfl rfl rfl (Nat.le_of_ble_eq_true rfl) dX4_addRedoing_40 ⟨Nat.zero_le _, Nat.zero_le _⟩) hP hD hS hA [0, 1] [2, 3, 4] [3, 4, 0, 1, 2] rfl rfl rfl (by decide) rfl rfl (fun H locs hP hD hS => ?_)
    refine lv_aload_n hx hb dX4_addRedoing_43 rfl (lv_at hl 0 rfl) ?_
    refine lv_aload_n hx hb dX4_addRedoing_44 rfl (lv_at hl 1 rfl) ?_
    obtain ⟨u2, hu2, hf⟩ := bd_some hf
    refine z_cv (ws1 := w_X4_addRedoing h_t h_p1 r_t r_p1 u2.1 F_p1 cI u2.2 a_p1_addresses a_p1_numbers) (wr := List.filterMap (fun i : Nat => (w_X4_addRedoing h_t h_p1 r_t r_p1 u1.1 F_p1 cI u1.2 a_p1_addresses a_p1_numbers)[i]?) []) (z_rV (rest := []) hx hb hml hown hcx hl.1 (c_X4_addWrites l D cI h_t h_p1 r_t r_p1 u1.1 F_p1 u1.2 a_p1_addresses a_p1_numbers u2 hu2 _) tl_X4_138 ti_X4_addWrites tz_X4_addWrites tn_X4 tc_X4_addWrites tm_X4_addWrites rfl rfl ⟨Nat.le_of_ble_eq_true rfl, Nat.le_of_ble_eq_true rfl⟩ hK hX hS hA hP hD [0, 1, 2, 3, 4] rfl rfl 0 rfl rfl rfl rfl (Nat.le_of_ble_eq_true rfl) dX4_addRedoing_45 ⟨Nat.zero_le _, Nat.zero_le _⟩) hP hD hS hA [0, 1, 2, 3, 4] [] [0, 1, 2, 3, 4] rfl rfl rfl (by decide) rfl rfl (fun H locs hP hD hS => ?_)
    exact hret (u2.1, u2.2) _ _ _ _ hf hP hD hS dX4_addRedoing_48
  have L2 : ∀ (n2 : Nat) (x2 : Int32) (F_t : Nat → Int32) (a_micros : Nat → Int32) (H : Heap) (locs : List Loc) (ls : Array Slot), m_X4_addRedoing_w2 F_p1 a_p1_addresses a_p1_numbers (m_X4_addRedoing_j33 F_p1 a_p1_addresses a_p1_numbers) n2 x2 F_t a_micros = some Rr → va_P D vwCl (w_X4_addRedoing h_t h_p1 r_t r_p1 F_t F_p1 cI a_micros a_p1_addresses a_p1_numbers) H → va_D A (w_X4_addRedoing h_t h_p1 r_t r_p1 F_t F_p1 cI a_micros a_p1_addresses a_p1_numbers) → va_S A s.heap H locs → lv_has ls 3 [(0, .ref h_t), (1, .ref h_p1), (2, .int x2)] → W p l e rm_X4_addRedoing s m args below meth c H locs 0 0 Q (F0 m 2 ls []) := by
    intro n2
    induction n2 with
    | zero => intro x2 F_t a_micros H locs ls hf; cases (show (none : Option _) = some Rr from hf)
    | succ n2 ih2 =>
      intro x2 F_t a_micros H locs ls hf hP hD hS hl
      have hf := (m_X4_addRedoing_w2.eq_2 _ _ _ _ _ _ _ _).symm.trans hf
      refine lv_iload_n hx hb dX4_addRedoing_2 rfl (lv_at hl 2 rfl) ?_
      refine lv_aload_n hx hb dX4_addRedoing_3 rfl (lv_at hl 1 rfl) ?_
      refine z_get (ci := 5) (C := RX5) (T := TX5) (N := 7) (v := .int (F_p1 4)) hx hb hts inT_X5 hown hK hP 2 rfl rfl 4 (by decide) tf_X4_116 rfl dX4_addRedoing_4 ?_
      refine z_icmp_ge (tgt := 33) hx hb dX4_addRedoing_7 (by decide) hf (fun hf => ?_) (fun hf => ?_)
      · exact L33 F_t a_micros _ _ _ hf hP hD hS (lv_sub hl [0, 1] rfl)
      · refine lv_aload_n hx hb dX4_addRedoing_10 rfl (lv_at hl 0 rfl) ?_
        refine lv_iload_n hx hb dX4_addRedoing_11 rfl (lv_at hl 2 rfl) ?_
        refine lv_aload_n hx hb dX4_addRedoing_12 rfl (lv_at hl 1 rfl) ?_
        refine z_get (ci := 5) (C := RX5) (T := TX5) (N := 7) (v := .ref (r_p1 1)) hx hb hts inT_X5 hown hK hP 2 rfl rfl 1 (by decide) tf_X4_119 rfl dX4_addRedoing_13 ?_
        refine lv_iload_n hx hb dX4_addRedoing_16 rfl (lv_at hl 2 rfl) ?_
        refine z_iald hx hb hK hP 3 rfl dX4_addRedoing_17 hf (fun y3 hf => ?_)
        refine lv_aload_n hx hb dX4_addRedoing_18 rfl (lv_at hl 1 rfl) ?_
        refine z_get (ci := 5) (C := RX5) (T := TX5) (N := 7) (v := .ref (r_p1 2)) hx hb hts inT_X5 hown hK hP 2 rfl rfl 2 (by decide) tf_X4_132 rfl dX4_addRedoing_19 ?_
        refine lv_iload_n hx hb dX4_addRedoing_22 rfl (lv_at hl 2 rfl) ?_
        refine z_iald hx hb hK hP 4 rfl dX4_addRedoing_23 hf (fun y4 hf => ?_)
        obtain ⟨u5, hu5, hf⟩ := bd_some hf
        refine z_cv (ws1 := w_X4_addRedoing h_t h_p1 r_t r_p1 u5.1 F_p1 cI u5.2 a_p1_addresses a_p1_numbers) (wr := List.filterMap (fun i : Nat => (w_X4_addRedoing h_t h_p1 r_t r_p1 F_t F_p1 cI a_micros a_p1_addresses a_p1_numbers)[i]?) [2, 3, 4]) (z_rV (rest := []) hx hb hml hown hcx hl.1 (c_X4_addEntry l D cI h_t r_t F_t a_micros x2 y3 y4 u5 hu5 _) tl_X4_125 ti_X4_addEntry tz_X4_addEntry tn_X4 tc_X4_addEntry tm_X4_addEntry rfl rfl ⟨Nat.le_of_ble_eq_true rfl, Nat.le_of_ble_eq_true rfl⟩ hK hX hS hA hP hD [0, 1] rfl rfl 0 rfl rfl rfl rfl (Nat.le_of_ble_eq_true rfl) dX4_addRedoing_24 ⟨Nat.zero_le _, Nat.zero_le _⟩) hP hD hS hA [0, 1] [2, 3, 4] [3, 4, 0, 1, 2] rfl rfl rfl (by decide) rfl rfl (fun H locs hP hD hS => ?_)
        refine z_iinc (k0 := 2) (fun z => [(2, .int z), (0, .ref h_t), (1, .ref h_p1)]) hx hb dX4_addRedoing_27 hl rfl (by decide) (by decide) (fun _ => rfl) hf (fun v6 ls hf hl => ?_)
        refine lv_goto (tgt := 2) hx hb dX4_addRedoing_30 (by decide) ?_
        exact ih2 v6 u5.1 u5.2 _ _ _ hf hP hD hS (lv_sub hl [1, 2, 0] rfl)
  refine lv_iconst (v := 0) hx hb dX4_addRedoing_0 (by decide) ?_
  refine lv_istore_n (lv' := [(2, .int 0), (0, .ref h_t), (1, .ref h_p1)]) hx hb dX4_addRedoing_1 rfl hl (by decide) rfl (fun ls hl => ?_)
  exact L2 fuelN 0 F_t a_micros _ _ _ hf hP hD hS (lv_sub hl [1, 2, 0] rfl)
abbrev w_X4_addEnding (h_t : Nat) (h_p1 : Nat) (r_t : Nat → Nat) (r_p1 : Nat → Nat) (F_t : Nat → Int32) (F_p1 : Nat → Int32) (cI : ClassId) (a_micros : Nat → Int32) (a_p1_addresses : Nat → Int32) : va_W := [(h_t, .inr (4, o_X4 r_t F_t)), ((r_t 1), .inl (cI, 80, .inl a_micros)), (h_p1, .inr (5, o_X5 r_p1 F_p1)), ((r_p1 1), .inl (cI, 8, .inl a_p1_addresses))]
abbrev rm_X4_addEnding : Room := { frames := 2, cells := 0, slots := 0, locals := 46 }
def m_X4_addEnding_j65 (F_p1 : Nat → Int32) (a_p1_addresses : Nat → Int32) (F_t : Nat → Int32) (a_micros : Nat → Int32) : Option ((Nat → Int32) × (Nat → Int32)) :=
  bd (m_X4_addCount F_t a_micros 0 2 3) fun u2 =>
  some (u2.1, u2.2)
def m_X4_addEnding_j59 (F_p1 : Nat → Int32) (a_p1_addresses : Nat → Int32) (k17 : Int32 → Int32 → (Nat → Int32) → (Nat → Int32) → Option ((Nat → Int32) × (Nat → Int32))) (x2 : Int32) (x3 : Int32) (F_t : Nat → Int32) (a_micros : Nat → Int32) : Option ((Nat → Int32) × (Nat → Int32)) :=
  nm (x3 + 1) fun v5 =>
  k17 x2 v5 F_t a_micros
def m_X4_addEnding_w17 (F_p1 : Nat → Int32) (a_p1_addresses : Nat → Int32) (k65 : (Nat → Int32) → (Nat → Int32) → Option ((Nat → Int32) × (Nat → Int32))) : Nat → Int32 → Int32 → (Nat → Int32) → (Nat → Int32) → Option ((Nat → Int32) × (Nat → Int32))
  | 0, _, _, _, _ => none
  | n17 + 1, x2, x3, F_t, a_micros =>
    if (F_p1 4) ≤ x3 then (
    k65 F_t a_micros)
    else (
    rd a_p1_addresses 8 x3 fun y3 =>
    nm (y3 / 4) fun v4 =>
    if ((x2 >>> (v4 &&& 31)) &&& 1) = 0 then (
    bd (m_X4_addMicro F_t a_micros 1 v4 0) fun u6 =>
    nm (x2 ||| ((1 : Int32) <<< (v4 &&& 31))) fun v7 =>
    m_X4_addEnding_j59 F_p1 a_p1_addresses (m_X4_addEnding_w17 F_p1 a_p1_addresses k65 n17) v7 x3 u6.1 u6.2)
    else (
    m_X4_addEnding_j59 F_p1 a_p1_addresses (m_X4_addEnding_w17 F_p1 a_p1_addresses k65 n17) x2 x3 F_t a_micros))
def m_X4_addEnding_j14 (F_p1 : Nat → Int32) (a_p1_addresses : Nat → Int32) (s0 : Int32) (F_t : Nat → Int32) (a_micros : Nat → Int32) : Option ((Nat → Int32) × (Nat → Int32)) :=
  m_X4_addEnding_w17 F_p1 a_p1_addresses (m_X4_addEnding_j65 F_p1 a_p1_addresses) fuelN s0 0 F_t a_micros
def m_X4_addEnding (F_t : Nat → Int32) (F_p1 : Nat → Int32) (a_micros : Nat → Int32) (a_p1_addresses : Nat → Int32) : Option ((Nat → Int32) × (Nat → Int32)) :=
  bd (m_X4_isLeftOut F_t 6) fun u1 =>
  if u1 = 0 then (
  m_X4_addEnding_j14 F_p1 a_p1_addresses 0 F_t a_micros)
  else (
  m_X4_addEnding_j14 F_p1 a_p1_addresses (-1) F_t a_micros)
set_option maxHeartbeats 4000000 in
set_option maxRecDepth 100000 in
theorem c_X4_addEnding (l : Launch) (D : va_G) (cI : ClassId) (h_t : Nat) (h_p1 : Nat) (r_t : Nat → Nat) (r_p1 : Nat → Nat) (F_t : Nat → Int32) (F_p1 : Nat → Int32) (a_micros : Nat → Int32) (a_p1_addresses : Nat → Int32) (Rr : (Nat → Int32) × (Nat → Int32)) (hf : m_X4_addEnding F_t F_p1 a_micros a_p1_addresses = some Rr) : CTv l yX4_addEnding (Cond.code yX4_addEnding cX4_addEnding 5 none) rm_X4_addEnding D cI [.ref h_t, .ref h_p1] (w_X4_addEnding h_t h_p1 r_t r_p1 F_t F_p1 cI a_micros a_p1_addresses) (w_X4_addEnding h_t h_p1 r_t r_p1 Rr.1 F_p1 cI Rr.2 a_p1_addresses) := by
  refine z_begin_v (own := RX4) (ρ := (Nat → Int32) × (Nat → Int32)) (fun u => w_X4_addEnding h_t h_p1 r_t r_p1 u.1 F_p1 cI u.2 a_p1_addresses) (by decide +kernel) rfl (Nat.le_of_ble_eq_true rfl) ?_
  intro p e s m args below meth c ls Q A hx hb hml hts hcx hown hK hX hA hP hD hS hl hret
  have hl : lv_has ls 5 [(0, .ref h_t), (1, .ref h_p1)] := hl
  have hf := (m_X4_addEnding.eq_1 _ _ _ _).symm.trans hf
  have L65 : ∀ (F_t : Nat → Int32) (a_micros : Nat → Int32) (H : Heap) (locs : List Loc) (ls : Array Slot), m_X4_addEnding_j65 F_p1 a_p1_addresses F_t a_micros = some Rr → va_P D vwCl (w_X4_addEnding h_t h_p1 r_t r_p1 F_t F_p1 cI a_micros a_p1_addresses) H → va_D A (w_X4_addEnding h_t h_p1 r_t r_p1 F_t F_p1 cI a_micros a_p1_addresses) → va_S A s.heap H locs → lv_has ls 5 [(0, .ref h_t)] → W p l e rm_X4_addEnding s m args below meth c H locs 0 0 Q (F0 m 65 ls []) := by
    intro F_t a_micros H locs ls hf hP hD hS hl
    have hf := (m_X4_addEnding_j65.eq_1 _ _ _ _).symm.trans hf
    refine lv_aload_n hx hb dX4_addEnding_65 rfl (lv_at hl 0 rfl) ?_
    refine lv_iconst (v := 0) hx hb dX4_addEnding_66 (by decide) ?_
    refine lv_iconst (v := 2) hx hb dX4_addEnding_67 (by decide) ?_
    refine lv_iconst (v := 3) hx hb dX4_addEnding_68 (by decide) ?_
    obtain ⟨u2, hu2, hf⟩ := bd_some hf
    refine z_cv (ws1 := w_X4_addEnding h_t h_p1 r_t r_p1 u2.1 F_p1 cI u2.2 a_p1_addresses) (wr := List.filterMap (fun i : Nat => (w_X4_addEnding h_t h_p1 r_t r_p1 F_t F_p1 cI a_micros a_p1_addresses)[i]?) [2, 3]) (z_rV (rest := []) hx hb hml hown hcx hl.1 (c_X4_addCount l D cI h_t r_t F_t a_micros 0 2 3 u2 hu2 _) tl_X4_129 ti_X4_addCount tz_X4_addCount tn_X4 tc_X4_addCount tm_X4_addCount rfl rfl ⟨Nat.le_of_ble_eq_true rfl, Nat.le_of_ble_eq_true rfl⟩ hK hX hS hA hP hD [0, 1] rfl rfl 0 rfl rfl rfl rfl (Nat.le_of_ble_eq_true rfl) dX4_addEnding_69 ⟨Nat.zero_le _, Nat.zero_le _⟩) hP hD hS hA [0, 1] [2, 3] [2, 3, 0, 1] rfl rfl rfl (by decide) rfl rfl (fun H locs hP hD hS => ?_)
    exact hret (u2.1, u2.2) _ _ _ _ hf hP hD hS dX4_addEnding_72
  have L17 : ∀ (n17 : Nat) (x2 : Int32) (x3 : Int32) (F_t : Nat → Int32) (a_micros : Nat → Int32) (H : Heap) (locs : List Loc) (ls : Array Slot), m_X4_addEnding_w17 F_p1 a_p1_addresses (m_X4_addEnding_j65 F_p1 a_p1_addresses) n17 x2 x3 F_t a_micros = some Rr → va_P D vwCl (w_X4_addEnding h_t h_p1 r_t r_p1 F_t F_p1 cI a_micros a_p1_addresses) H → va_D A (w_X4_addEnding h_t h_p1 r_t r_p1 F_t F_p1 cI a_micros a_p1_addresses) → va_S A s.heap H locs → lv_has ls 5 [(0, .ref h_t), (1, .ref h_p1), (2, .int x2), (3, .int x3)] → W p l e rm_X4_addEnding s m args below meth c H locs 0 0 Q (F0 m 17 ls []) := by
    intro n17
    induction n17 with
    | zero => intro x2 x3 F_t a_micros H locs ls hf; cases (show (none : Option _) = some Rr from hf)
    | succ n17 ih17 =>
      intro x2 x3 F_t a_micros H locs ls hf hP hD hS hl
      have hf := (m_X4_addEnding_w17.eq_2 _ _ _ _ _ _ _ _).symm.trans hf
      have L59 : ∀ (x2 : Int32) (x3 : Int32) (F_t : Nat → Int32) (a_micros : Nat → Int32) (H : Heap) (locs : List Loc) (ls : Array Slot), m_X4_addEnding_j59 F_p1 a_p1_addresses (m_X4_addEnding_w17 F_p1 a_p1_addresses (m_X4_addEnding_j65 F_p1 a_p1_addresses) n17) x2 x3 F_t a_micros = some Rr → va_P D vwCl (w_X4_addEnding h_t h_p1 r_t r_p1 F_t F_p1 cI a_micros a_p1_addresses) H → va_D A (w_X4_addEnding h_t h_p1 r_t r_p1 F_t F_p1 cI a_micros a_p1_addresses) → va_S A s.heap H locs → lv_has ls 5 [(0, .ref h_t), (1, .ref h_p1), (2, .int x2), (3, .int x3)] → W p l e rm_X4_addEnding s m args below meth c H locs 0 0 Q (F0 m 59 ls []) := by
        intro x2 x3 F_t a_micros H locs ls hf hP hD hS hl
        have hf := (m_X4_addEnding_j59.eq_1 _ _ _ _ _ _ _).symm.trans hf
        refine z_iinc (k0 := 3) (fun z => [(3, .int z), (0, .ref h_t), (1, .ref h_p1), (2, .int x2)]) hx hb dX4_addEnding_59 hl rfl (by decide) (by decide) (fun _ => rfl) hf (fun v5 ls hf hl => ?_)
        refine lv_goto (tgt := 17) hx hb dX4_addEnding_62 (by decide) ?_
        exact ih17 x2 v5 F_t a_micros _ _ _ hf hP hD hS (lv_sub hl [1, 2, 3, 0] rfl)
      refine lv_iload_n hx hb dX4_addEnding_17 rfl (lv_at hl 3 rfl) ?_
      refine lv_aload_n hx hb dX4_addEnding_18 rfl (lv_at hl 1 rfl) ?_
      refine z_get (ci := 5) (C := RX5) (T := TX5) (N := 7) (v := .int (F_p1 4)) hx hb hts inT_X5 hown hK hP 2 rfl rfl 4 (by decide) tf_X4_116 rfl dX4_addEnding_19 ?_
      refine z_icmp_ge (tgt := 65) hx hb dX4_addEnding_22 (by decide) hf (fun hf => ?_) (fun hf => ?_)
      · exact L65 F_t a_micros _ _ _ hf hP hD hS (lv_sub hl [0] rfl)
      · refine lv_aload_n hx hb dX4_addEnding_25 rfl (lv_at hl 1 rfl) ?_
        refine z_get (ci := 5) (C := RX5) (T := TX5) (N := 7) (v := .ref (r_p1 1)) hx hb hts inT_X5 hown hK hP 2 rfl rfl 1 (by decide) tf_X4_119 rfl dX4_addEnding_26 ?_
        refine lv_iload_n hx hb dX4_addEnding_29 rfl (lv_at hl 3 rfl) ?_
        refine z_iald hx hb hK hP 3 rfl dX4_addEnding_30 hf (fun y3 hf => ?_)
        refine lv_iconst (v := 4) hx hb dX4_addEnding_31 (by decide) ?_
        refine lv_idiv hx hb dX4_addEnding_32 (by decide) ?_
        refine z_istore (fun z => [(4, .int z), (0, .ref h_t), (1, .ref h_p1), (2, .int x2), (3, .int x3)]) hx hb dX4_addEnding_33 hl (by decide) (fun _ => rfl) hf (fun v4 ls hf hl => ?_)
        refine lv_iload_n hx hb dX4_addEnding_35 rfl (lv_at hl 3 rfl) ?_
        refine lv_iload hx hb dX4_addEnding_36 (lv_at hl 0 rfl) ?_
        refine lv_ishr hx hb dX4_addEnding_38 ?_
        refine lv_iconst (v := 1) hx hb dX4_addEnding_39 (by decide) ?_
        refine lv_iand hx hb dX4_addEnding_40 ?_
        refine z_if_ne (tgt := 59) hx hb dX4_addEnding_41 (by decide) hf (fun hf => ?_) (fun hf => ?_)
        · exact L59 x2 x3 F_t a_micros _ _ _ hf hP hD hS (lv_sub hl [1, 2, 3, 4] rfl)
        · refine lv_aload_n hx hb dX4_addEnding_44 rfl (lv_at hl 1 rfl) ?_
          refine lv_iconst (v := 1) hx hb dX4_addEnding_45 (by decide) ?_
          refine lv_iload hx hb dX4_addEnding_46 (lv_at hl 0 rfl) ?_
          refine lv_iconst (v := 0) hx hb dX4_addEnding_48 (by decide) ?_
          obtain ⟨u6, hu6, hf⟩ := bd_some hf
          refine z_cv (ws1 := w_X4_addEnding h_t h_p1 r_t r_p1 u6.1 F_p1 cI u6.2 a_p1_addresses) (wr := List.filterMap (fun i : Nat => (w_X4_addEnding h_t h_p1 r_t r_p1 F_t F_p1 cI a_micros a_p1_addresses)[i]?) [2, 3]) (z_rV (rest := []) hx hb hml hown hcx hl.1 (c_X4_addMicro l D cI h_t r_t F_t a_micros 1 v4 0 u6 hu6 _) tl_X4_135 ti_X4_addMicro tz_X4_addMicro tn_X4 tc_X4_addMicro tm_X4_addMicro rfl rfl ⟨Nat.le_of_ble_eq_true rfl, Nat.le_of_ble_eq_true rfl⟩ hK hX hS hA hP hD [0, 1] rfl rfl 0 rfl rfl rfl rfl (Nat.le_of_ble_eq_true rfl) dX4_addEnding_49 ⟨Nat.zero_le _, Nat.zero_le _⟩) hP hD hS hA [0, 1] [2, 3] [2, 3, 0, 1] rfl rfl rfl (by decide) rfl rfl (fun H locs hP hD hS => ?_)
          refine lv_iload_n hx hb dX4_addEnding_52 rfl (lv_at hl 3 rfl) ?_
          refine lv_iconst (v := 1) hx hb dX4_addEnding_53 (by decide) ?_
          refine lv_iload hx hb dX4_addEnding_54 (lv_at hl 0 rfl) ?_
          refine lv_ishl hx hb dX4_addEnding_56 ?_
          refine lv_ior hx hb dX4_addEnding_57 ?_
          refine z_istore_n (fun z => [(2, .int z), (4, .int v4), (0, .ref h_t), (1, .ref h_p1), (3, .int x3)]) hx hb dX4_addEnding_58 rfl hl (by decide) (fun _ => rfl) hf (fun v7 ls hf hl => ?_)
          exact L59 v7 x3 u6.1 u6.2 _ _ _ hf hP hD hS (lv_sub hl [2, 3, 0, 4] rfl)
  have L14 : ∀ (s0 : Int32) (F_t : Nat → Int32) (a_micros : Nat → Int32) (H : Heap) (locs : List Loc) (ls : Array Slot), m_X4_addEnding_j14 F_p1 a_p1_addresses s0 F_t a_micros = some Rr → va_P D vwCl (w_X4_addEnding h_t h_p1 r_t r_p1 F_t F_p1 cI a_micros a_p1_addresses) H → va_D A (w_X4_addEnding h_t h_p1 r_t r_p1 F_t F_p1 cI a_micros a_p1_addresses) → va_S A s.heap H locs → lv_has ls 5 [(0, .ref h_t), (1, .ref h_p1)] → W p l e rm_X4_addEnding s m args below meth c H locs 0 0 Q (F0 m 14 ls [.int s0]) := by
    intro s0 F_t a_micros H locs ls hf hP hD hS hl
    have hf := (m_X4_addEnding_j14.eq_1 _ _ _ _ _).symm.trans hf
    refine lv_istore_n (lv' := [(2, .int s0), (0, .ref h_t), (1, .ref h_p1)]) hx hb dX4_addEnding_14 rfl hl (by decide) rfl (fun ls hl => ?_)
    refine lv_iconst (v := 0) hx hb dX4_addEnding_15 (by decide) ?_
    refine lv_istore_n (lv' := [(3, .int 0), (2, .int s0), (0, .ref h_t), (1, .ref h_p1)]) hx hb dX4_addEnding_16 rfl hl (by decide) rfl (fun ls hl => ?_)
    exact L17 fuelN s0 0 F_t a_micros _ _ _ hf hP hD hS (lv_sub hl [2, 3, 1, 0] rfl)
  refine lv_aload_n hx hb dX4_addEnding_0 rfl (lv_at hl 0 rfl) ?_
  refine lv_bipush (v := 6) hx hb dX4_addEnding_1 (by decide) ?_
  obtain ⟨u1, hu1, hf⟩ := bd_some hf
  refine z_ci (ws1 := w_X4_addEnding h_t h_p1 r_t r_p1 F_t F_p1 cI a_micros a_p1_addresses) (wr := List.filterMap (fun i : Nat => (w_X4_addEnding h_t h_p1 r_t r_p1 F_t F_p1 cI a_micros a_p1_addresses)[i]?) [1, 2, 3]) (z_rV (rest := []) hx hb hml hown hcx hl.1 (c_X4_isLeftOut l D cI h_t r_t F_t 6 u1 hu1 _) tl_X4_141 ti_X4_isLeftOut tz_X4_isLeftOut tn_X4 tc_X4_isLeftOut tm_X4_isLeftOut rfl rfl ⟨Nat.le_of_ble_eq_true rfl, Nat.le_of_ble_eq_true rfl⟩ hK hX hS hA hP hD [0] rfl rfl 0 rfl rfl rfl rfl (Nat.le_of_ble_eq_true rfl) dX4_addEnding_3 ⟨Nat.zero_le _, Nat.zero_le _⟩) hP hD hS hA [0] [1, 2, 3] [3, 0, 1, 2] rfl rfl rfl (by decide) rfl rfl (fun H locs hP hD hS => ?_)
  refine z_if_eq (tgt := 13) hx hb dX4_addEnding_6 (by decide) hf (fun hf => ?_) (fun hf => ?_)
  · refine lv_iconst (v := 0) hx hb dX4_addEnding_13 (by decide) ?_
    exact L14 0 F_t a_micros _ _ _ hf hP hD hS (lv_sub hl [0, 1] rfl)
  · refine lv_iconst (v := (-1)) hx hb dX4_addEnding_9 (by decide) ?_
    refine lv_goto (tgt := 14) hx hb dX4_addEnding_10 (by decide) ?_
    exact L14 (-1) F_t a_micros _ _ _ hf hP hD hS (lv_sub hl [0, 1] rfl)
abbrev w_X4_begin (h_t : Nat) (h_p1 : Nat) (r_t : Nat → Nat) (r_p1 : Nat → Nat) (F_t : Nat → Int32) (F_p1 : Nat → Int32) (cI : ClassId) (a_micros : Nat → Int32) (a_after : Nat → Int32) (a_p1_words : Nat → Int32) (a_p1_addresses : Nat → Int32) (a_p1_numbers : Nat → Int32) (a_p1_olds : Nat → Int32) : va_W := [(h_t, .inr (4, o_X4 r_t F_t)), ((r_t 1), .inl (cI, 80, .inl a_micros)), ((r_t 5), .inl (cI, 44, .inl a_after)), (h_p1, .inr (5, o_X5 r_p1 F_p1)), ((r_p1 0), .inl (cI, 64, .inl a_p1_words)), ((r_p1 1), .inl (cI, 8, .inl a_p1_addresses)), ((r_p1 2), .inl (cI, 8, .inl a_p1_numbers)), ((r_p1 3), .inl (cI, 8, .inl a_p1_olds))]
abbrev rm_X4_begin : Room := { frames := 3, cells := 0, slots := 0, locals := 70 }
def m_X4_begin_j40 (F_p1 : Nat → Int32) (a_p1_words : Nat → Int32) (a_p1_addresses : Nat → Int32) (a_p1_numbers : Nat → Int32) (a_p1_olds : Nat → Int32) (F_t : Nat → Int32) (a_micros : Nat → Int32) (a_after : Nat → Int32) : Option ((Nat → Int32) × (Nat → Int32) × (Nat → Int32)) :=
  bd (m_X4_addEnding F_t F_p1 a_micros a_p1_addresses) fun u4 =>
  some (u4.1, u4.2, a_after)
def m_X4_begin (F_t : Nat → Int32) (F_p1 : Nat → Int32) (a_micros : Nat → Int32) (a_after : Nat → Int32) (a_p1_words : Nat → Int32) (a_p1_addresses : Nat → Int32) (a_p1_numbers : Nat → Int32) (a_p1_olds : Nat → Int32) : Option ((Nat → Int32) × (Nat → Int32) × (Nat → Int32)) :=
  cp a_p1_words a_after 64 44 20 0 44 fun a1 =>
  bd (m_X4_dropMicros F_t) fun u2 =>
  if (u2 9) = 0 then (
  bd (m_X4_addUndoing u2 F_p1 a_micros a_p1_addresses a_p1_numbers a_p1_olds) fun u5 =>
  m_X4_begin_j40 F_p1 a_p1_words a_p1_addresses a_p1_numbers a_p1_olds u5.1 u5.2 a1)
  else (
  bd (m_X4_addRedoing u2 F_p1 a_micros a_p1_addresses a_p1_numbers) fun u3 =>
  m_X4_begin_j40 F_p1 a_p1_words a_p1_addresses a_p1_numbers a_p1_olds u3.1 u3.2 a1)
set_option maxHeartbeats 4000000 in
set_option maxRecDepth 100000 in
theorem c_X4_begin (l : Launch) (D : va_G) (cI : ClassId) (h_t : Nat) (h_p1 : Nat) (r_t : Nat → Nat) (r_p1 : Nat → Nat) (F_t : Nat → Int32) (F_p1 : Nat → Int32) (a_micros : Nat → Int32) (a_after : Nat → Int32) (a_p1_words : Nat → Int32) (a_p1_addresses : Nat → Int32) (a_p1_numbers : Nat → Int32) (a_p1_olds : Nat → Int32) (Rr : (Nat → Int32) × (Nat → Int32) × (Nat → Int32)) (hf : m_X4_begin F_t F_p1 a_micros a_after a_p1_words a_p1_addresses a_p1_numbers a_p1_olds = some Rr) : CTv l yX4_begin (Cond.code yX4_begin cX4_begin 2 none) rm_X4_begin D cI [.ref h_t, .ref h_p1] (w_X4_begin h_t h_p1 r_t r_p1 F_t F_p1 cI a_micros a_after a_p1_words a_p1_addresses a_p1_numbers a_p1_olds) (w_X4_begin h_t h_p1 r_t r_p1 Rr.1 F_p1 cI Rr.2.1 Rr.2.2 a_p1_words a_p1_addresses a_p1_numbers a_p1_olds) := by
  refine z_begin_v (own := RX4) (ρ := (Nat → Int32) × (Nat → Int32) × (Nat → Int32)) (fun u => w_X4_begin h_t h_p1 r_t r_p1 u.1 F_p1 cI u.2.1 u.2.2 a_p1_words a_p1_addresses a_p1_numbers a_p1_olds) (by decide +kernel) rfl (Nat.le_of_ble_eq_true rfl) ?_
  intro p e s m args below meth c ls Q A hx hb hml hts hcx hown hK hX hA hP hD hS hl hret
  have hl : lv_has ls 2 [(0, .ref h_t), (1, .ref h_p1)] := hl
  have hf := (m_X4_begin.eq_1 _ _ _ _ _ _ _ _).symm.trans hf
  have L40 : ∀ (F_t : Nat → Int32) (a_micros : Nat → Int32) (a_after : Nat → Int32) (H : Heap) (locs : List Loc) (ls : Array Slot), m_X4_begin_j40 F_p1 a_p1_words a_p1_addresses a_p1_numbers a_p1_olds F_t a_micros a_after = some Rr → va_P D vwCl (w_X4_begin h_t h_p1 r_t r_p1 F_t F_p1 cI a_micros a_after a_p1_words a_p1_addresses a_p1_numbers a_p1_olds) H → va_D A (w_X4_begin h_t h_p1 r_t r_p1 F_t F_p1 cI a_micros a_after a_p1_words a_p1_addresses a_p1_numbers a_p1_olds) → va_S A s.heap H locs → lv_has ls 2 [(0, .ref h_t), (1, .ref h_p1)] → W p l e rm_X4_begin s m args below meth c H locs 0 0 Q (F0 m 40 ls []) := by
    intro F_t a_micros a_after H locs ls hf hP hD hS hl
    have hf := (m_X4_begin_j40.eq_1 _ _ _ _ _ _ _ _).symm.trans hf
    refine lv_aload_n hx hb dX4_begin_40 rfl (lv_at hl 0 rfl) ?_
    refine lv_aload_n hx hb dX4_begin_41 rfl (lv_at hl 1 rfl) ?_
    obtain ⟨u4, hu4, hf⟩ := bd_some hf
    refine z_cv (ws1 := w_X4_begin h_t h_p1 r_t r_p1 u4.1 F_p1 cI u4.2 a_after a_p1_words a_p1_addresses a_p1_numbers a_p1_olds) (wr := List.filterMap (fun i : Nat => (w_X4_begin h_t h_p1 r_t r_p1 F_t F_p1 cI a_micros a_after a_p1_words a_p1_addresses a_p1_numbers a_p1_olds)[i]?) [2, 4, 6, 7]) (z_rV (rest := []) hx hb hml hown hcx hl.1 (c_X4_addEnding l D cI h_t h_p1 r_t r_p1 F_t F_p1 a_micros a_p1_addresses u4 hu4 _) tl_X4_113 ti_X4_addEnding tz_X4_addEnding tn_X4 tc_X4_addEnding tm_X4_addEnding rfl rfl ⟨Nat.le_of_ble_eq_true rfl, Nat.le_of_ble_eq_true rfl⟩ hK hX hS hA hP hD [0, 1, 3, 5] rfl rfl 0 rfl rfl rfl rfl (Nat.le_of_ble_eq_true rfl) dX4_begin_42 ⟨Nat.zero_le _, Nat.zero_le _⟩) hP hD hS hA [0, 1, 3, 5] [2, 4, 6, 7] [4, 5, 0, 6, 1, 7, 2, 3] rfl rfl rfl (by decide) rfl rfl (fun H locs hP hD hS => ?_)
    exact hret (u4.1, u4.2, a_after) _ _ _ _ hf hP hD hS dX4_begin_45
  refine lv_aload_n hx hb dX4_begin_0 rfl (lv_at hl 1 rfl) ?_
  refine z_get (ci := 5) (C := RX5) (T := TX5) (N := 7) (v := .ref (r_p1 0)) hx hb hts inT_X5 hown hK hP 3 rfl rfl 0 (by decide) tf_X4_101 rfl dX4_begin_1 ?_
  refine lv_bipush (v := 20) hx hb dX4_begin_4 (by decide) ?_
  refine lv_aload_n hx hb dX4_begin_6 rfl (lv_at hl 0 rfl) ?_
  refine z_get (ci := 4) (C := RX4) (T := TX4) (N := 12) (v := .ref (r_t 5)) hx hb hts inT_X4 hown hK hP 0 rfl rfl 5 (by decide) tf_X4_32 rfl dX4_begin_7 ?_
  refine lv_iconst (v := 0) hx hb dX4_begin_10 (by decide) ?_
  refine lv_bipush (v := 44) hx hb dX4_begin_11 (by decide) ?_
  refine z_copy (rest := []) hx hb (hml.trans hl.1.symm) hown hts tl_X4_57 tnat_copy ts_copy tn_J10 hK hP hD hS 4 2 rfl rfl (fun z => w_X4_begin h_t h_p1 r_t r_p1 F_t F_p1 cI a_micros z a_p1_words a_p1_addresses a_p1_numbers a_p1_olds) (fun _ => rfl) (Nat.le_of_ble_eq_true rfl) (by decide) dX4_begin_13 hf (fun a1 H locs hf hP hD hS => ?_)
  refine lv_aload_n hx hb dX4_begin_16 rfl (lv_at hl 0 rfl) ?_
  obtain ⟨u2, hu2, hf⟩ := bd_some hf
  refine z_cv (ws1 := w_X4_begin h_t h_p1 r_t r_p1 u2 F_p1 cI a_micros a1 a_p1_words a_p1_addresses a_p1_numbers a_p1_olds) (wr := List.filterMap (fun i : Nat => (w_X4_begin h_t h_p1 r_t r_p1 F_t F_p1 cI a_micros a1 a_p1_words a_p1_addresses a_p1_numbers a_p1_olds)[i]?) [1, 2, 3, 4, 5, 6, 7]) (z_rV (rest := []) hx hb hml hown hcx hl.1 (c_X4_dropMicros l D cI h_t r_t F_t u2 hu2 _) tl_X4_104 ti_X4_dropMicros tz_X4_dropMicros tn_X4 tc_X4_dropMicros tm_X4_dropMicros rfl rfl ⟨Nat.le_of_ble_eq_true rfl, Nat.le_of_ble_eq_true rfl⟩ hK hX hS hA hP hD [0] rfl rfl 0 rfl rfl rfl rfl (Nat.le_of_ble_eq_true rfl) dX4_begin_17 ⟨Nat.zero_le _, Nat.zero_le _⟩) hP hD hS hA [0] [1, 2, 3, 4, 5, 6, 7] [7, 0, 1, 2, 3, 4, 5, 6] rfl rfl rfl (by decide) rfl rfl (fun H locs hP hD hS => ?_)
  refine lv_aload_n hx hb dX4_begin_20 rfl (lv_at hl 0 rfl) ?_
  refine z_get (ci := 4) (C := RX4) (T := TX4) (N := 12) (v := .int (u2 9)) hx hb hts inT_X4 hown hK hP 0 rfl rfl 9 (by decide) tf_X4_44 rfl dX4_begin_21 ?_
  refine z_if_ne (tgt := 35) hx hb dX4_begin_24 (by decide) hf (fun hf => ?_) (fun hf => ?_)
  · refine lv_aload_n hx hb dX4_begin_35 rfl (lv_at hl 0 rfl) ?_
    refine lv_aload_n hx hb dX4_begin_36 rfl (lv_at hl 1 rfl) ?_
    obtain ⟨u3, hu3, hf⟩ := bd_some hf
    refine z_cv (ws1 := w_X4_begin h_t h_p1 r_t r_p1 u3.1 F_p1 cI u3.2 a1 a_p1_words a_p1_addresses a_p1_numbers a_p1_olds) (wr := List.filterMap (fun i : Nat => (w_X4_begin h_t h_p1 r_t r_p1 u2 F_p1 cI a_micros a1 a_p1_words a_p1_addresses a_p1_numbers a_p1_olds)[i]?) [2, 4, 7]) (z_rV (rest := []) hx hb hml hown hcx hl.1 (c_X4_addRedoing l D cI h_t h_p1 r_t r_p1 u2 F_p1 a_micros a_p1_addresses a_p1_numbers u3 hu3 _) tl_X4_110 ti_X4_addRedoing tz_X4_addRedoing tn_X4 tc_X4_addRedoing tm_X4_addRedoing rfl rfl ⟨Nat.le_of_ble_eq_true rfl, Nat.le_of_ble_eq_true rfl⟩ hK hX hS hA hP hD [0, 1, 3, 5, 6] rfl rfl 0 rfl rfl rfl rfl (Nat.le_of_ble_eq_true rfl) dX4_begin_37 ⟨Nat.zero_le _, Nat.zero_le _⟩) hP hD hS hA [0, 1, 3, 5, 6] [2, 4, 7] [3, 4, 0, 5, 1, 6, 7, 2] rfl rfl rfl (by decide) rfl rfl (fun H locs hP hD hS => ?_)
    exact L40 u3.1 u3.2 a1 _ _ _ hf hP hD hS (lv_sub hl [0, 1] rfl)
  · refine lv_aload_n hx hb dX4_begin_27 rfl (lv_at hl 0 rfl) ?_
    refine lv_aload_n hx hb dX4_begin_28 rfl (lv_at hl 1 rfl) ?_
    obtain ⟨u5, hu5, hf⟩ := bd_some hf
    refine z_cv (ws1 := w_X4_begin h_t h_p1 r_t r_p1 u5.1 F_p1 cI u5.2 a1 a_p1_words a_p1_addresses a_p1_numbers a_p1_olds) (wr := List.filterMap (fun i : Nat => (w_X4_begin h_t h_p1 r_t r_p1 u2 F_p1 cI a_micros a1 a_p1_words a_p1_addresses a_p1_numbers a_p1_olds)[i]?) [2, 4]) (z_rV (rest := []) hx hb hml hown hcx hl.1 (c_X4_addUndoing l D cI h_t h_p1 r_t r_p1 u2 F_p1 a_micros a_p1_addresses a_p1_numbers a_p1_olds u5 hu5 _) tl_X4_107 ti_X4_addUndoing tz_X4_addUndoing tn_X4 tc_X4_addUndoing tm_X4_addUndoing rfl rfl ⟨Nat.le_of_ble_eq_true rfl, Nat.le_of_ble_eq_true rfl⟩ hK hX hS hA hP hD [0, 1, 3, 5, 6, 7] rfl rfl 0 rfl rfl rfl rfl (Nat.le_of_ble_eq_true rfl) dX4_begin_29 ⟨Nat.zero_le _, Nat.zero_le _⟩) hP hD hS hA [0, 1, 3, 5, 6, 7] [2, 4] [2, 3, 0, 4, 1, 5, 6, 7] rfl rfl rfl (by decide) rfl rfl (fun H locs hP hD hS => ?_)
    refine lv_goto (tgt := 40) hx hb dX4_begin_32 (by decide) ?_
    exact L40 u5.1 u5.2 a1 _ _ _ hf hP hD hS (lv_sub hl [0, 1] rfl)
abbrev w_X1_reach (h_t : Nat) (r_t : Nat → Nat) (cI : ClassId) (a_media : Nat → Int32) (a_stores : Nat → Int32) (a_held : Nat → Int32) (a_asked : Nat → Int32) : va_W := [(h_t, .inr (1, o_X1 r_t)), ((r_t 0), .inl (cI, 64, .inl a_media)), ((r_t 1), .inl (cI, 96, .inl a_stores)), ((r_t 2), .inl (cI, 16, .inl a_held)), ((r_t 3), .inl (cI, 16, .inl a_asked))]
abbrev rm_X1_reach : Room := { frames := 1, cells := 0, slots := 0, locals := 40 }
def m_X1_reach_j47 (p1 : Int32) (p2 : Int32) (x3 : Int32) (a_media : Nat → Int32) (a_stores : Nat → Int32) (a_held : Nat → Int32) (a_asked : Nat → Int32) : Option ((Nat → Int32) × (Nat → Int32) × (Nat → Int32) × (Nat → Int32)) :=
  rd a_held 16 p1 fun y2 =>
  wr a_held 16 p1 (y2 - p2) fun a3 =>
  rd a3 16 p1 fun y4 =>
  cp a_stores a_stores 96 96 (x3 + p2) x3 y4 fun a5 =>
  rd a_asked 16 p1 fun y6 =>
  wr a_asked 16 p1 (if 0 < (y6 - p2) then (y6 - p2) else 0) fun a7 =>
  some (a_media, a5, a3, a7)
def m_X1_reach_w8 (p1 : Int32) (p2 : Int32) (k47 : Int32 → (Nat → Int32) → (Nat → Int32) → (Nat → Int32) → (Nat → Int32) → Option ((Nat → Int32) × (Nat → Int32) × (Nat → Int32) × (Nat → Int32))) : Nat → Int32 → Int32 → (Nat → Int32) → (Nat → Int32) → (Nat → Int32) → (Nat → Int32) → Option ((Nat → Int32) × (Nat → Int32) × (Nat → Int32) × (Nat → Int32))
  | 0, _, _, _, _, _, _ => none
  | n8 + 1, x3, x4, a_media, a_stores, a_held, a_asked =>
    if (x3 + p2) ≤ x4 then (
    k47 x3 a_media a_stores a_held a_asked)
    else (
    rd a_stores 96 x4 fun y8 =>
    rd a_stores 96 x4 fun y9 =>
    wr a_media 64 (y8 / 100) (y9 - y9 / 100 * 100) fun a10 =>
    nm (x4 + 1) fun v11 =>
    m_X1_reach_w8 p1 p2 k47 n8 x3 v11 a10 a_stores a_held a_asked)
def m_X1_reach (a_media : Nat → Int32) (a_stores : Nat → Int32) (a_held : Nat → Int32) (a_asked : Nat → Int32) (p1 : Int32) (p2 : Int32) : Option ((Nat → Int32) × (Nat → Int32) × (Nat → Int32) × (Nat → Int32)) :=
  nm (p1 * 6) fun v1 =>
  m_X1_reach_w8 p1 p2 (m_X1_reach_j47 p1 p2) fuelN v1 v1 a_media a_stores a_held a_asked
set_option maxHeartbeats 4000000 in
set_option maxRecDepth 100000 in
theorem c_X1_reach (l : Launch) (D : va_G) (cI : ClassId) (h_t : Nat) (r_t : Nat → Nat) (a_media : Nat → Int32) (a_stores : Nat → Int32) (a_held : Nat → Int32) (a_asked : Nat → Int32) (p1 : Int32) (p2 : Int32) (Rr : (Nat → Int32) × (Nat → Int32) × (Nat → Int32) × (Nat → Int32)) (hf : m_X1_reach a_media a_stores a_held a_asked p1 p2 = some Rr) : CTv l yX1_reach (Cond.code yX1_reach cX1_reach 5 none) rm_X1_reach D cI [.ref h_t, .int p1, .int p2] (w_X1_reach h_t r_t cI a_media a_stores a_held a_asked) (w_X1_reach h_t r_t cI Rr.1 Rr.2.1 Rr.2.2.1 Rr.2.2.2) := by
  refine z_begin_v (own := RX1) (ρ := (Nat → Int32) × (Nat → Int32) × (Nat → Int32) × (Nat → Int32)) (fun u => w_X1_reach h_t r_t cI u.1 u.2.1 u.2.2.1 u.2.2.2) (by decide +kernel) rfl (Nat.le_of_ble_eq_true rfl) ?_
  intro p e s m args below meth c ls Q A hx hb hml hts hcx hown hK hX hA hP hD hS hl hret
  have hl : lv_has ls 5 [(0, .ref h_t), (1, .int p1), (2, .int p2)] := hl
  have hf := (m_X1_reach.eq_1 _ _ _ _ _ _).symm.trans hf
  have L47 : ∀ (x3 : Int32) (a_media : Nat → Int32) (a_stores : Nat → Int32) (a_held : Nat → Int32) (a_asked : Nat → Int32) (H : Heap) (locs : List Loc) (ls : Array Slot), m_X1_reach_j47 p1 p2 x3 a_media a_stores a_held a_asked = some Rr → va_P D vwCl (w_X1_reach h_t r_t cI a_media a_stores a_held a_asked) H → va_D A (w_X1_reach h_t r_t cI a_media a_stores a_held a_asked) → va_S A s.heap H locs → lv_has ls 5 [(0, .ref h_t), (1, .int p1), (2, .int p2), (3, .int x3)] → W p l e rm_X1_reach s m args below meth c H locs 0 0 Q (F0 m 47 ls []) := by
    intro x3 a_media a_stores a_held a_asked H locs ls hf hP hD hS hl
    have hf := (m_X1_reach_j47.eq_1 _ _ _ _ _ _ _).symm.trans hf
    refine lv_aload_n hx hb dX1_reach_47 rfl (lv_at hl 0 rfl) ?_
    refine z_get (ci := 1) (C := RX1) (T := TX1) (N := 4) (v := .ref (r_t 2)) hx hb hts inT_X1 hown hK hP 0 rfl rfl 2 (by decide) tf_X1_18 rfl dX1_reach_48 ?_
    refine lv_iload_n hx hb dX1_reach_51 rfl (lv_at hl 1 rfl) ?_
    refine lv_dup2_11 hx hb dX1_reach_52 rfl rfl ?_
    refine z_iald hx hb hK hP 3 rfl dX1_reach_53 hf (fun y2 hf => ?_)
    refine lv_iload_n hx hb dX1_reach_54 rfl (lv_at hl 2 rfl) ?_
    refine lv_isub hx hb dX1_reach_55 ?_
    refine z_iast hx hb hK hP hD hS 3 rfl (fun z => w_X1_reach h_t r_t cI a_media a_stores z a_asked) (fun _ => rfl) dX1_reach_56 hf (fun a3 H locs hf hP hD hS => ?_)
    refine lv_aload_n hx hb dX1_reach_57 rfl (lv_at hl 0 rfl) ?_
    refine z_get (ci := 1) (C := RX1) (T := TX1) (N := 4) (v := .ref (r_t 1)) hx hb hts inT_X1 hown hK hP 0 rfl rfl 1 (by decide) tf_X1_15 rfl dX1_reach_58 ?_
    refine lv_iload_n hx hb dX1_reach_61 rfl (lv_at hl 3 rfl) ?_
    refine lv_iload_n hx hb dX1_reach_62 rfl (lv_at hl 2 rfl) ?_
    refine lv_iadd hx hb dX1_reach_63 ?_
    refine lv_aload_n hx hb dX1_reach_64 rfl (lv_at hl 0 rfl) ?_
    refine z_get (ci := 1) (C := RX1) (T := TX1) (N := 4) (v := .ref (r_t 1)) hx hb hts inT_X1 hown hK hP 0 rfl rfl 1 (by decide) tf_X1_15 rfl dX1_reach_65 ?_
    refine lv_iload_n hx hb dX1_reach_68 rfl (lv_at hl 3 rfl) ?_
    refine lv_aload_n hx hb dX1_reach_69 rfl (lv_at hl 0 rfl) ?_
    refine z_get (ci := 1) (C := RX1) (T := TX1) (N := 4) (v := .ref (r_t 2)) hx hb hts inT_X1 hown hK hP 0 rfl rfl 2 (by decide) tf_X1_18 rfl dX1_reach_70 ?_
    refine lv_iload_n hx hb dX1_reach_73 rfl (lv_at hl 1 rfl) ?_
    refine z_iald hx hb hK hP 3 rfl dX1_reach_74 hf (fun y4 hf => ?_)
    refine z_copy (rest := []) hx hb (hml.trans hl.1.symm) hown hts tl_X1_24 tnat_copy ts_copy tn_J10 hK hP hD hS 2 2 rfl rfl (fun z => w_X1_reach h_t r_t cI a_media z a3 a_asked) (fun _ => rfl) (Nat.le_of_ble_eq_true rfl) (by decide) dX1_reach_75 hf (fun a5 H locs hf hP hD hS => ?_)
    refine lv_aload_n hx hb dX1_reach_78 rfl (lv_at hl 0 rfl) ?_
    refine z_get (ci := 1) (C := RX1) (T := TX1) (N := 4) (v := .ref (r_t 3)) hx hb hts inT_X1 hown hK hP 0 rfl rfl 3 (by decide) tf_X1_21 rfl dX1_reach_79 ?_
    refine lv_iload_n hx hb dX1_reach_82 rfl (lv_at hl 1 rfl) ?_
    refine lv_iconst (v := 0) hx hb dX1_reach_83 (by decide) ?_
    refine lv_aload_n hx hb dX1_reach_84 rfl (lv_at hl 0 rfl) ?_
    refine z_get (ci := 1) (C := RX1) (T := TX1) (N := 4) (v := .ref (r_t 3)) hx hb hts inT_X1 hown hK hP 0 rfl rfl 3 (by decide) tf_X1_21 rfl dX1_reach_85 ?_
    refine lv_iload_n hx hb dX1_reach_88 rfl (lv_at hl 1 rfl) ?_
    refine z_iald hx hb hK hP 4 rfl dX1_reach_89 hf (fun y6 hf => ?_)
    refine lv_iload_n hx hb dX1_reach_90 rfl (lv_at hl 2 rfl) ?_
    refine lv_isub hx hb dX1_reach_91 ?_
    refine z_max (rest := [.int p1, .ref (r_t 3)]) hx hb (hml.trans hl.1.symm) hown hts tl_X1_40 ts_max tn_J9 tc_max (Nat.le_of_ble_eq_true rfl) (Nat.le_of_ble_eq_true rfl) ⟨Nat.zero_le _, Nat.zero_le _⟩ dX1_reach_92 ?_
    refine z_iast hx hb hK hP hD hS 4 rfl (fun z => w_X1_reach h_t r_t cI a_media a5 a3 z) (fun _ => rfl) dX1_reach_95 hf (fun a7 H locs hf hP hD hS => ?_)
    exact hret (a_media, a5, a3, a7) _ _ _ _ hf hP hD hS dX1_reach_96
  have L8 : ∀ (n8 : Nat) (x3 : Int32) (x4 : Int32) (a_media : Nat → Int32) (a_stores : Nat → Int32) (a_held : Nat → Int32) (a_asked : Nat → Int32) (H : Heap) (locs : List Loc) (ls : Array Slot), m_X1_reach_w8 p1 p2 (m_X1_reach_j47 p1 p2) n8 x3 x4 a_media a_stores a_held a_asked = some Rr → va_P D vwCl (w_X1_reach h_t r_t cI a_media a_stores a_held a_asked) H → va_D A (w_X1_reach h_t r_t cI a_media a_stores a_held a_asked) → va_S A s.heap H locs → lv_has ls 5 [(0, .ref h_t), (1, .int p1), (2, .int p2), (3, .int x3), (4, .int x4)] → W p l e rm_X1_reach s m args below meth c H locs 0 0 Q (F0 m 8 ls []) := by
    intro n8
    induction n8 with
    | zero => intro x3 x4 a_media a_stores a_held a_asked H locs ls hf; cases (show (none : Option _) = some Rr from hf)
    | succ n8 ih8 =>
      intro x3 x4 a_media a_stores a_held a_asked H locs ls hf hP hD hS hl
      have hf := (m_X1_reach_w8.eq_2 _ _ _ _ _ _ _ _ _ _).symm.trans hf
      refine lv_iload hx hb dX1_reach_8 (lv_at hl 4 rfl) ?_
      refine lv_iload_n hx hb dX1_reach_10 rfl (lv_at hl 3 rfl) ?_
      refine lv_iload_n hx hb dX1_reach_11 rfl (lv_at hl 2 rfl) ?_
      refine lv_iadd hx hb dX1_reach_12 ?_
      refine z_icmp_ge (tgt := 47) hx hb dX1_reach_13 (by decide) hf (fun hf => ?_) (fun hf => ?_)
      · exact L47 x3 a_media a_stores a_held a_asked _ _ _ hf hP hD hS (lv_sub hl [0, 1, 2, 3] rfl)
      · refine lv_aload_n hx hb dX1_reach_16 rfl (lv_at hl 0 rfl) ?_
        refine z_get (ci := 1) (C := RX1) (T := TX1) (N := 4) (v := .ref (r_t 0)) hx hb hts inT_X1 hown hK hP 0 rfl rfl 0 (by decide) tf_X1_9 rfl dX1_reach_17 ?_
        refine lv_aload_n hx hb dX1_reach_20 rfl (lv_at hl 0 rfl) ?_
        refine z_get (ci := 1) (C := RX1) (T := TX1) (N := 4) (v := .ref (r_t 1)) hx hb hts inT_X1 hown hK hP 0 rfl rfl 1 (by decide) tf_X1_15 rfl dX1_reach_21 ?_
        refine lv_iload hx hb dX1_reach_24 (lv_at hl 4 rfl) ?_
        refine z_iald hx hb hK hP 2 rfl dX1_reach_26 hf (fun y8 hf => ?_)
        refine lv_bipush (v := 100) hx hb dX1_reach_27 (by decide) ?_
        refine lv_idiv hx hb dX1_reach_29 (by decide) ?_
        refine lv_aload_n hx hb dX1_reach_30 rfl (lv_at hl 0 rfl) ?_
        refine z_get (ci := 1) (C := RX1) (T := TX1) (N := 4) (v := .ref (r_t 1)) hx hb hts inT_X1 hown hK hP 0 rfl rfl 1 (by decide) tf_X1_15 rfl dX1_reach_31 ?_
        refine lv_iload hx hb dX1_reach_34 (lv_at hl 4 rfl) ?_
        refine z_iald hx hb hK hP 2 rfl dX1_reach_36 hf (fun y9 hf => ?_)
        refine lv_bipush (v := 100) hx hb dX1_reach_37 (by decide) ?_
        refine lv_irem hx hb dX1_reach_39 (by decide) ?_
        refine z_iast hx hb hK hP hD hS 1 rfl (fun z => w_X1_reach h_t r_t cI z a_stores a_held a_asked) (fun _ => rfl) dX1_reach_40 hf (fun a10 H locs hf hP hD hS => ?_)
        refine z_iinc (k0 := 4) (fun z => [(4, .int z), (0, .ref h_t), (1, .int p1), (2, .int p2), (3, .int x3)]) hx hb dX1_reach_41 hl rfl (by decide) (by decide) (fun _ => rfl) hf (fun v11 ls hf hl => ?_)
        refine lv_goto (tgt := 8) hx hb dX1_reach_44 (by decide) ?_
        exact ih8 x3 v11 a10 a_stores a_held a_asked _ _ _ hf hP hD hS (lv_sub hl [1, 2, 3, 4, 0] rfl)
  refine lv_iload_n hx hb dX1_reach_0 rfl (lv_at hl 1 rfl) ?_
  refine lv_bipush (v := 6) hx hb dX1_reach_1 (by decide) ?_
  refine lv_imul hx hb dX1_reach_3 ?_
  refine z_istore_n (fun z => [(3, .int z), (0, .ref h_t), (1, .int p1), (2, .int p2)]) hx hb dX1_reach_4 rfl hl (by decide) (fun _ => rfl) hf (fun v1 ls hf hl => ?_)
  refine lv_iload_n hx hb dX1_reach_5 rfl (lv_at hl 0 rfl) ?_
  refine lv_istore (lv' := [(4, .int v1), (3, .int v1), (0, .ref h_t), (1, .int p1), (2, .int p2)]) hx hb dX1_reach_6 hl (by decide) rfl (fun ls hl => ?_)
  exact L8 fuelN v1 v1 a_media a_stores a_held a_asked _ _ _ hf hP hD hS (lv_sub hl [2, 3, 4, 1, 0] rfl)
abbrev w_X1_put (h_t : Nat) (r_t : Nat → Nat) (cI : ClassId) (a_media : Nat → Int32) (a_stores : Nat → Int32) (a_held : Nat → Int32) (a_asked : Nat → Int32) : va_W := [(h_t, .inr (1, o_X1 r_t)), ((r_t 0), .inl (cI, 64, .inl a_media)), ((r_t 1), .inl (cI, 96, .inl a_stores)), ((r_t 2), .inl (cI, 16, .inl a_held)), ((r_t 3), .inl (cI, 16, .inl a_asked))]
abbrev rm_X1_put : Room := { frames := 2, cells := 0, slots := 0, locals := 64 }
def m_X1_put_j21 (p1 : Int32) (p2 : Int32) (x3 : Int32) (a_media : Nat → Int32) (a_stores : Nat → Int32) (a_held : Nat → Int32) (a_asked : Nat → Int32) : Option ((Nat → Int32) × (Nat → Int32) × (Nat → Int32) × (Nat → Int32)) :=
  rd a_held 16 x3 fun y3 =>
  wr a_stores 96 ((x3 * 6) + y3) ((p1 * 100) + p2) fun a4 =>
  rd a_held 16 x3 fun y5 =>
  wr a_held 16 x3 (y5 + 1) fun a6 =>
  some (a_media, a4, a6, a_asked)
def m_X1_put (a_media : Nat → Int32) (a_stores : Nat → Int32) (a_held : Nat → Int32) (a_asked : Nat → Int32) (p1 : Int32) (p2 : Int32) : Option ((Nat → Int32) × (Nat → Int32) × (Nat → Int32) × (Nat → Int32)) :=
  nm (p1 / 4) fun v1 =>
  rd a_held 16 v1 fun y2 =>
  if y2 = 6 then (
  bd (m_X1_reach a_media a_stores a_held a_asked v1 1) fun u7 =>
  m_X1_put_j21 p1 p2 v1 u7.1 u7.2.1 u7.2.2.1 u7.2.2.2)
  else (
  m_X1_put_j21 p1 p2 v1 a_media a_stores a_held a_asked)
set_option maxHeartbeats 4000000 in
set_option maxRecDepth 100000 in
theorem c_X1_put (l : Launch) (D : va_G) (cI : ClassId) (h_t : Nat) (r_t : Nat → Nat) (a_media : Nat → Int32) (a_stores : Nat → Int32) (a_held : Nat → Int32) (a_asked : Nat → Int32) (p1 : Int32) (p2 : Int32) (Rr : (Nat → Int32) × (Nat → Int32) × (Nat → Int32) × (Nat → Int32)) (hf : m_X1_put a_media a_stores a_held a_asked p1 p2 = some Rr) : CTv l yX1_put (Cond.code yX1_put cX1_put 4 none) rm_X1_put D cI [.ref h_t, .int p1, .int p2] (w_X1_put h_t r_t cI a_media a_stores a_held a_asked) (w_X1_put h_t r_t cI Rr.1 Rr.2.1 Rr.2.2.1 Rr.2.2.2) := by
  refine z_begin_v (own := RX1) (ρ := (Nat → Int32) × (Nat → Int32) × (Nat → Int32) × (Nat → Int32)) (fun u => w_X1_put h_t r_t cI u.1 u.2.1 u.2.2.1 u.2.2.2) (by decide +kernel) rfl (Nat.le_of_ble_eq_true rfl) ?_
  intro p e s m args below meth c ls Q A hx hb hml hts hcx hown hK hX hA hP hD hS hl hret
  have hl : lv_has ls 4 [(0, .ref h_t), (1, .int p1), (2, .int p2)] := hl
  have hf := (m_X1_put.eq_1 _ _ _ _ _ _).symm.trans hf
  have L21 : ∀ (x3 : Int32) (a_media : Nat → Int32) (a_stores : Nat → Int32) (a_held : Nat → Int32) (a_asked : Nat → Int32) (H : Heap) (locs : List Loc) (ls : Array Slot), m_X1_put_j21 p1 p2 x3 a_media a_stores a_held a_asked = some Rr → va_P D vwCl (w_X1_put h_t r_t cI a_media a_stores a_held a_asked) H → va_D A (w_X1_put h_t r_t cI a_media a_stores a_held a_asked) → va_S A s.heap H locs → lv_has ls 4 [(0, .ref h_t), (1, .int p1), (2, .int p2), (3, .int x3)] → W p l e rm_X1_put s m args below meth c H locs 0 0 Q (F0 m 21 ls []) := by
    intro x3 a_media a_stores a_held a_asked H locs ls hf hP hD hS hl
    have hf := (m_X1_put_j21.eq_1 _ _ _ _ _ _ _).symm.trans hf
    refine lv_aload_n hx hb dX1_put_21 rfl (lv_at hl 0 rfl) ?_
    refine z_get (ci := 1) (C := RX1) (T := TX1) (N := 4) (v := .ref (r_t 1)) hx hb hts inT_X1 hown hK hP 0 rfl rfl 1 (by decide) tf_X1_15 rfl dX1_put_22 ?_
    refine lv_iload_n hx hb dX1_put_25 rfl (lv_at hl 3 rfl) ?_
    refine lv_bipush (v := 6) hx hb dX1_put_26 (by decide) ?_
    refine lv_imul hx hb dX1_put_28 ?_
    refine lv_aload_n hx hb dX1_put_29 rfl (lv_at hl 0 rfl) ?_
    refine z_get (ci := 1) (C := RX1) (T := TX1) (N := 4) (v := .ref (r_t 2)) hx hb hts inT_X1 hown hK hP 0 rfl rfl 2 (by decide) tf_X1_18 rfl dX1_put_30 ?_
    refine lv_iload_n hx hb dX1_put_33 rfl (lv_at hl 3 rfl) ?_
    refine z_iald hx hb hK hP 3 rfl dX1_put_34 hf (fun y3 hf => ?_)
    refine lv_iadd hx hb dX1_put_35 ?_
    refine lv_iload_n hx hb dX1_put_36 rfl (lv_at hl 1 rfl) ?_
    refine lv_bipush (v := 100) hx hb dX1_put_37 (by decide) ?_
    refine lv_imul hx hb dX1_put_39 ?_
    refine lv_iload_n hx hb dX1_put_40 rfl (lv_at hl 2 rfl) ?_
    refine lv_iadd hx hb dX1_put_41 ?_
    refine z_iast hx hb hK hP hD hS 2 rfl (fun z => w_X1_put h_t r_t cI a_media z a_held a_asked) (fun _ => rfl) dX1_put_42 hf (fun a4 H locs hf hP hD hS => ?_)
    refine lv_aload_n hx hb dX1_put_43 rfl (lv_at hl 0 rfl) ?_
    refine z_get (ci := 1) (C := RX1) (T := TX1) (N := 4) (v := .ref (r_t 2)) hx hb hts inT_X1 hown hK hP 0 rfl rfl 2 (by decide) tf_X1_18 rfl dX1_put_44 ?_
    refine lv_iload_n hx hb dX1_put_47 rfl (lv_at hl 3 rfl) ?_
    refine lv_dup2_11 hx hb dX1_put_48 rfl rfl ?_
    refine z_iald hx hb hK hP 3 rfl dX1_put_49 hf (fun y5 hf => ?_)
    refine lv_iconst (v := 1) hx hb dX1_put_50 (by decide) ?_
    refine lv_iadd hx hb dX1_put_51 ?_
    refine z_iast hx hb hK hP hD hS 3 rfl (fun z => w_X1_put h_t r_t cI a_media a4 z a_asked) (fun _ => rfl) dX1_put_52 hf (fun a6 H locs hf hP hD hS => ?_)
    exact hret (a_media, a4, a6, a_asked) _ _ _ _ hf hP hD hS dX1_put_53
  refine lv_iload_n hx hb dX1_put_0 rfl (lv_at hl 1 rfl) ?_
  refine lv_iconst (v := 4) hx hb dX1_put_1 (by decide) ?_
  refine lv_idiv hx hb dX1_put_2 (by decide) ?_
  refine z_istore_n (fun z => [(3, .int z), (0, .ref h_t), (1, .int p1), (2, .int p2)]) hx hb dX1_put_3 rfl hl (by decide) (fun _ => rfl) hf (fun v1 ls hf hl => ?_)
  refine lv_aload_n hx hb dX1_put_4 rfl (lv_at hl 1 rfl) ?_
  refine z_get (ci := 1) (C := RX1) (T := TX1) (N := 4) (v := .ref (r_t 2)) hx hb hts inT_X1 hown hK hP 0 rfl rfl 2 (by decide) tf_X1_18 rfl dX1_put_5 ?_
  refine lv_iload_n hx hb dX1_put_8 rfl (lv_at hl 0 rfl) ?_
  refine z_iald hx hb hK hP 3 rfl dX1_put_9 hf (fun y2 hf => ?_)
  refine lv_bipush (v := 6) hx hb dX1_put_10 (by decide) ?_
  refine z_icmp_ne (tgt := 21) hx hb dX1_put_12 (by decide) hf (fun hf => ?_) (fun hf => ?_)
  · exact L21 v1 a_media a_stores a_held a_asked _ _ _ hf hP hD hS (lv_sub hl [1, 2, 3, 0] rfl)
  · refine lv_aload_n hx hb dX1_put_15 rfl (lv_at hl 1 rfl) ?_
    refine lv_iload_n hx hb dX1_put_16 rfl (lv_at hl 0 rfl) ?_
    refine lv_iconst (v := 1) hx hb dX1_put_17 (by decide) ?_
    obtain ⟨u7, hu7, hf⟩ := bd_some hf
    refine z_cv (ws1 := w_X1_put h_t r_t cI u7.1 u7.2.1 u7.2.2.1 u7.2.2.2) (wr := List.filterMap (fun i : Nat => (w_X1_put h_t r_t cI a_media a_stores a_held a_asked)[i]?) []) (z_rV (rest := []) hx hb hml hown hcx hl.1 (c_X1_reach l D cI h_t r_t a_media a_stores a_held a_asked v1 1 u7 hu7 _) tl_X1_36 ti_X1_reach tz_X1_reach tn_X1 tc_X1_reach tm_X1_reach rfl rfl ⟨Nat.le_of_ble_eq_true rfl, Nat.le_of_ble_eq_true rfl⟩ hK hX hS hA hP hD [0, 1, 2, 3, 4] rfl rfl 0 rfl rfl rfl rfl (Nat.le_of_ble_eq_true rfl) dX1_put_18 ⟨Nat.zero_le _, Nat.zero_le _⟩) hP hD hS hA [0, 1, 2, 3, 4] [] [0, 1, 2, 3, 4] rfl rfl rfl (by decide) rfl rfl (fun H locs hP hD hS => ?_)
    exact L21 v1 u7.1 u7.2.1 u7.2.2.1 u7.2.2.2 _ _ _ hf hP hD hS (lv_sub hl [1, 2, 3, 0] rfl)
abbrev w_X1_ask (h_t : Nat) (r_t : Nat → Nat) (cI : ClassId) (a_held : Nat → Int32) (a_asked : Nat → Int32) : va_W := [(h_t, .inr (1, o_X1 r_t)), ((r_t 2), .inl (cI, 16, .inl a_held)), ((r_t 3), .inl (cI, 16, .inl a_asked))]
abbrev rm_X1_ask : Room := { frames := 0, cells := 0, slots := 0, locals := 0 }
def m_X1_ask (a_held : Nat → Int32) (a_asked : Nat → Int32) (p1 : Int32) : Option ((Nat → Int32)) :=
  rd a_held 16 p1 fun y1 =>
  wr a_asked 16 p1 y1 fun a2 =>
  some a2
set_option maxHeartbeats 4000000 in
set_option maxRecDepth 100000 in
theorem c_X1_ask (l : Launch) (D : va_G) (cI : ClassId) (h_t : Nat) (r_t : Nat → Nat) (a_held : Nat → Int32) (a_asked : Nat → Int32) (p1 : Int32) (Rr : (Nat → Int32)) (hf : m_X1_ask a_held a_asked p1 = some Rr) : CTv l yX1_ask (Cond.code yX1_ask cX1_ask 2 none) rm_X1_ask D cI [.ref h_t, .int p1] (w_X1_ask h_t r_t cI a_held a_asked) (w_X1_ask h_t r_t cI a_held Rr) := by
  refine z_begin_v (own := RX1) (ρ := (Nat → Int32)) (fun u => w_X1_ask h_t r_t cI a_held u) (by decide +kernel) rfl (Nat.le_of_ble_eq_true rfl) ?_
  intro p e s m args below meth c ls Q A hx hb hml hts hcx hown hK hX hA hP hD hS hl hret
  have hl : lv_has ls 2 [(0, .ref h_t), (1, .int p1)] := hl
  have hf := (m_X1_ask.eq_1 _ _ _).symm.trans hf
  refine lv_aload_n hx hb dX1_ask_0 rfl (lv_at hl 0 rfl) ?_
  refine z_get (ci := 1) (C := RX1) (T := TX1) (N := 4) (v := .ref (r_t 3)) hx hb hts inT_X1 hown hK hP 0 rfl rfl 3 (by decide) tf_X1_21 rfl dX1_ask_1 ?_
  refine lv_iload_n hx hb dX1_ask_4 rfl (lv_at hl 1 rfl) ?_
  refine lv_aload_n hx hb dX1_ask_5 rfl (lv_at hl 0 rfl) ?_
  refine z_get (ci := 1) (C := RX1) (T := TX1) (N := 4) (v := .ref (r_t 2)) hx hb hts inT_X1 hown hK hP 0 rfl rfl 2 (by decide) tf_X1_18 rfl dX1_ask_6 ?_
  refine lv_iload_n hx hb dX1_ask_9 rfl (lv_at hl 1 rfl) ?_
  refine z_iald hx hb hK hP 1 rfl dX1_ask_10 hf (fun y1 hf => ?_)
  refine z_iast hx hb hK hP hD hS 2 rfl (fun z => w_X1_ask h_t r_t cI a_held z) (fun _ => rfl) dX1_ask_11 hf (fun a2 H locs hf hP hD hS => ?_)
  exact hret a2 _ _ _ _ hf hP hD hS dX1_ask_12
abbrev w_X1_await (h_t : Nat) (r_t : Nat → Nat) (cI : ClassId) (a_media : Nat → Int32) (a_stores : Nat → Int32) (a_held : Nat → Int32) (a_asked : Nat → Int32) : va_W := [(h_t, .inr (1, o_X1 r_t)), ((r_t 0), .inl (cI, 64, .inl a_media)), ((r_t 1), .inl (cI, 96, .inl a_stores)), ((r_t 2), .inl (cI, 16, .inl a_held)), ((r_t 3), .inl (cI, 16, .inl a_asked))]
abbrev rm_X1_await : Room := { frames := 2, cells := 0, slots := 0, locals := 64 }
def m_X1_await_w2 : Nat → Int32 → (Nat → Int32) → (Nat → Int32) → (Nat → Int32) → (Nat → Int32) → Option ((Nat → Int32) × (Nat → Int32) × (Nat → Int32) × (Nat → Int32))
  | 0, _, _, _, _, _ => none
  | n2 + 1, x1, a_media, a_stores, a_held, a_asked =>
    if 16 ≤ x1 then (
    some (a_media, a_stores, a_held, a_asked))
    else (
    rd a_asked 16 x1 fun y1 =>
    bd (m_X1_reach a_media a_stores a_held a_asked x1 y1) fun u2 =>
    nm (x1 + 1) fun v3 =>
    m_X1_await_w2 n2 v3 u2.1 u2.2.1 u2.2.2.1 u2.2.2.2)
def m_X1_await (a_media : Nat → Int32) (a_stores : Nat → Int32) (a_held : Nat → Int32) (a_asked : Nat → Int32) : Option ((Nat → Int32) × (Nat → Int32) × (Nat → Int32) × (Nat → Int32)) :=
  m_X1_await_w2 fuelN 0 a_media a_stores a_held a_asked
set_option maxHeartbeats 4000000 in
set_option maxRecDepth 100000 in
theorem c_X1_await (l : Launch) (D : va_G) (cI : ClassId) (h_t : Nat) (r_t : Nat → Nat) (a_media : Nat → Int32) (a_stores : Nat → Int32) (a_held : Nat → Int32) (a_asked : Nat → Int32) (Rr : (Nat → Int32) × (Nat → Int32) × (Nat → Int32) × (Nat → Int32)) (hf : m_X1_await a_media a_stores a_held a_asked = some Rr) : CTv l yX1_await (Cond.code yX1_await cX1_await 2 none) rm_X1_await D cI [.ref h_t] (w_X1_await h_t r_t cI a_media a_stores a_held a_asked) (w_X1_await h_t r_t cI Rr.1 Rr.2.1 Rr.2.2.1 Rr.2.2.2) := by
  refine z_begin_v (own := RX1) (ρ := (Nat → Int32) × (Nat → Int32) × (Nat → Int32) × (Nat → Int32)) (fun u => w_X1_await h_t r_t cI u.1 u.2.1 u.2.2.1 u.2.2.2) (by decide +kernel) rfl (Nat.le_of_ble_eq_true rfl) ?_
  intro p e s m args below meth c ls Q A hx hb hml hts hcx hown hK hX hA hP hD hS hl hret
  have hl : lv_has ls 2 [(0, .ref h_t)] := hl
  have hf := (m_X1_await.eq_1 _ _ _ _).symm.trans hf
  have L2 : ∀ (n2 : Nat) (x1 : Int32) (a_media : Nat → Int32) (a_stores : Nat → Int32) (a_held : Nat → Int32) (a_asked : Nat → Int32) (H : Heap) (locs : List Loc) (ls : Array Slot), m_X1_await_w2 n2 x1 a_media a_stores a_held a_asked = some Rr → va_P D vwCl (w_X1_await h_t r_t cI a_media a_stores a_held a_asked) H → va_D A (w_X1_await h_t r_t cI a_media a_stores a_held a_asked) → va_S A s.heap H locs → lv_has ls 2 [(0, .ref h_t), (1, .int x1)] → W p l e rm_X1_await s m args below meth c H locs 0 0 Q (F0 m 2 ls []) := by
    intro n2
    induction n2 with
    | zero => intro x1 a_media a_stores a_held a_asked H locs ls hf; cases (show (none : Option _) = some Rr from hf)
    | succ n2 ih2 =>
      intro x1 a_media a_stores a_held a_asked H locs ls hf hP hD hS hl
      have hf := (m_X1_await_w2.eq_2 _ _ _ _ _ _).symm.trans hf
      refine lv_iload_n hx hb dX1_await_2 rfl (lv_at hl 1 rfl) ?_
      refine lv_bipush (v := 16) hx hb dX1_await_3 (by decide) ?_
      refine z_icmp_ge (tgt := 25) hx hb dX1_await_5 (by decide) hf (fun hf => ?_) (fun hf => ?_)
      · exact hret (a_media, a_stores, a_held, a_asked) _ _ _ _ hf hP hD hS dX1_await_25
      · refine lv_aload_n hx hb dX1_await_8 rfl (lv_at hl 0 rfl) ?_
        refine lv_iload_n hx hb dX1_await_9 rfl (lv_at hl 1 rfl) ?_
        refine lv_aload_n hx hb dX1_await_10 rfl (lv_at hl 0 rfl) ?_
        refine z_get (ci := 1) (C := RX1) (T := TX1) (N := 4) (v := .ref (r_t 3)) hx hb hts inT_X1 hown hK hP 0 rfl rfl 3 (by decide) tf_X1_21 rfl dX1_await_11 ?_
        refine lv_iload_n hx hb dX1_await_14 rfl (lv_at hl 1 rfl) ?_
        refine z_iald hx hb hK hP 4 rfl dX1_await_15 hf (fun y1 hf => ?_)
        obtain ⟨u2, hu2, hf⟩ := bd_some hf
        refine z_cv (ws1 := w_X1_await h_t r_t cI u2.1 u2.2.1 u2.2.2.1 u2.2.2.2) (wr := List.filterMap (fun i : Nat => (w_X1_await h_t r_t cI a_media a_stores a_held a_asked)[i]?) []) (z_rV (rest := []) hx hb hml hown hcx hl.1 (c_X1_reach l D cI h_t r_t a_media a_stores a_held a_asked x1 y1 u2 hu2 _) tl_X1_36 ti_X1_reach tz_X1_reach tn_X1 tc_X1_reach tm_X1_reach rfl rfl ⟨Nat.le_of_ble_eq_true rfl, Nat.le_of_ble_eq_true rfl⟩ hK hX hS hA hP hD [0, 1, 2, 3, 4] rfl rfl 0 rfl rfl rfl rfl (Nat.le_of_ble_eq_true rfl) dX1_await_16 ⟨Nat.zero_le _, Nat.zero_le _⟩) hP hD hS hA [0, 1, 2, 3, 4] [] [0, 1, 2, 3, 4] rfl rfl rfl (by decide) rfl rfl (fun H locs hP hD hS => ?_)
        refine z_iinc (k0 := 1) (fun z => [(1, .int z), (0, .ref h_t)]) hx hb dX1_await_19 hl rfl (by decide) (by decide) (fun _ => rfl) hf (fun v3 ls hf hl => ?_)
        refine lv_goto (tgt := 2) hx hb dX1_await_22 (by decide) ?_
        exact ih2 v3 u2.1 u2.2.1 u2.2.2.1 u2.2.2.2 _ _ _ hf hP hD hS (lv_sub hl [1, 0] rfl)
  refine lv_iconst (v := 0) hx hb dX1_await_0 (by decide) ?_
  refine lv_istore_n (lv' := [(1, .int 0), (0, .ref h_t)]) hx hb dX1_await_1 rfl hl (by decide) rfl (fun ls hl => ?_)
  exact L2 fuelN 0 a_media a_stores a_held a_asked _ _ _ hf hP hD hS (lv_sub hl [1, 0] rfl)
abbrev w_X4_doMicro (h_t : Nat) (r_t : Nat → Nat) (r_cache : Nat → Nat) (F_t : Nat → Int32) (cI : ClassId) (a_cache_media : Nat → Int32) (a_cache_stores : Nat → Int32) (a_cache_held : Nat → Int32) (a_cache_asked : Nat → Int32) (a_tallies : Nat → Int32) : va_W := [(h_t, .inr (4, o_X4 r_t F_t)), ((r_t 0), .inr (1, o_X1 r_cache)), ((r_cache 0), .inl (cI, 64, .inl a_cache_media)), ((r_cache 1), .inl (cI, 96, .inl a_cache_stores)), ((r_cache 2), .inl (cI, 16, .inl a_cache_held)), ((r_cache 3), .inl (cI, 16, .inl a_cache_asked)), ((r_t 11), .inl (cI, 8, .inl a_tallies))]
abbrev rm_X4_doMicro : Room := { frames := 3, cells := 0, slots := 0, locals := 87 }
def m_X4_doMicro_j57 (p1 : Int32) (x2 : Int32) (a_cache_media : Nat → Int32) (a_cache_stores : Nat → Int32) (a_cache_held : Nat → Int32) (a_cache_asked : Nat → Int32) (a_tallies : Nat → Int32) : Option ((Nat → Int32) × (Nat → Int32) × (Nat → Int32) × (Nat → Int32) × (Nat → Int32)) :=
  rd a_tallies 8 (5 + x2) fun y4 =>
  wr a_tallies 8 (5 + x2) (y4 + 1) fun a5 =>
  some (a_cache_media, a_cache_stores, a_cache_held, a_cache_asked, a5)
def m_X4_doMicro (a_cache_media : Nat → Int32) (a_cache_stores : Nat → Int32) (a_cache_held : Nat → Int32) (a_cache_asked : Nat → Int32) (a_tallies : Nat → Int32) (p1 : Int32) : Option ((Nat → Int32) × (Nat → Int32) × (Nat → Int32) × (Nat → Int32) × (Nat → Int32)) :=
  nm (p1 / 10000) fun v1 =>
  nm ((p1 - p1 / 10000 * 10000) / 100) fun v2 =>
  if v1 = 0 then (
  bd (m_X1_put a_cache_media a_cache_stores a_cache_held a_cache_asked v2 (p1 - p1 / 100 * 100)) fun u7 =>
  m_X4_doMicro_j57 p1 v1 u7.1 u7.2.1 u7.2.2.1 u7.2.2.2 a_tallies)
  else (
  if v1 = 1 then (
  bd (m_X1_ask a_cache_held a_cache_asked v2) fun u6 =>
  m_X4_doMicro_j57 p1 v1 a_cache_media a_cache_stores a_cache_held u6 a_tallies)
  else (
  bd (m_X1_await a_cache_media a_cache_stores a_cache_held a_cache_asked) fun u3 =>
  m_X4_doMicro_j57 p1 v1 u3.1 u3.2.1 u3.2.2.1 u3.2.2.2 a_tallies))
set_option maxHeartbeats 4000000 in
set_option maxRecDepth 100000 in
theorem c_X4_doMicro (l : Launch) (D : va_G) (cI : ClassId) (h_t : Nat) (r_t : Nat → Nat) (r_cache : Nat → Nat) (F_t : Nat → Int32) (a_cache_media : Nat → Int32) (a_cache_stores : Nat → Int32) (a_cache_held : Nat → Int32) (a_cache_asked : Nat → Int32) (a_tallies : Nat → Int32) (p1 : Int32) (Rr : (Nat → Int32) × (Nat → Int32) × (Nat → Int32) × (Nat → Int32) × (Nat → Int32)) (hf : m_X4_doMicro a_cache_media a_cache_stores a_cache_held a_cache_asked a_tallies p1 = some Rr) : CTv l yX4_doMicro (Cond.code yX4_doMicro cX4_doMicro 4 none) rm_X4_doMicro D cI [.ref h_t, .int p1] (w_X4_doMicro h_t r_t r_cache F_t cI a_cache_media a_cache_stores a_cache_held a_cache_asked a_tallies) (w_X4_doMicro h_t r_t r_cache F_t cI Rr.1 Rr.2.1 Rr.2.2.1 Rr.2.2.2.1 Rr.2.2.2.2) := by
  refine z_begin_v (own := RX4) (ρ := (Nat → Int32) × (Nat → Int32) × (Nat → Int32) × (Nat → Int32) × (Nat → Int32)) (fun u => w_X4_doMicro h_t r_t r_cache F_t cI u.1 u.2.1 u.2.2.1 u.2.2.2.1 u.2.2.2.2) (by decide +kernel) rfl (Nat.le_of_ble_eq_true rfl) ?_
  intro p e s m args below meth c ls Q A hx hb hml hts hcx hown hK hX hA hP hD hS hl hret
  have hl : lv_has ls 4 [(0, .ref h_t), (1, .int p1)] := hl
  have hf := (m_X4_doMicro.eq_1 _ _ _ _ _ _).symm.trans hf
  have L57 : ∀ (x2 : Int32) (a_cache_media : Nat → Int32) (a_cache_stores : Nat → Int32) (a_cache_held : Nat → Int32) (a_cache_asked : Nat → Int32) (a_tallies : Nat → Int32) (H : Heap) (locs : List Loc) (ls : Array Slot), m_X4_doMicro_j57 p1 x2 a_cache_media a_cache_stores a_cache_held a_cache_asked a_tallies = some Rr → va_P D vwCl (w_X4_doMicro h_t r_t r_cache F_t cI a_cache_media a_cache_stores a_cache_held a_cache_asked a_tallies) H → va_D A (w_X4_doMicro h_t r_t r_cache F_t cI a_cache_media a_cache_stores a_cache_held a_cache_asked a_tallies) → va_S A s.heap H locs → lv_has ls 4 [(0, .ref h_t), (2, .int x2)] → W p l e rm_X4_doMicro s m args below meth c H locs 0 0 Q (F0 m 57 ls []) := by
    intro x2 a_cache_media a_cache_stores a_cache_held a_cache_asked a_tallies H locs ls hf hP hD hS hl
    have hf := (m_X4_doMicro_j57.eq_1 _ _ _ _ _ _ _).symm.trans hf
    refine lv_aload_n hx hb dX4_doMicro_57 rfl (lv_at hl 0 rfl) ?_
    refine z_get (ci := 4) (C := RX4) (T := TX4) (N := 12) (v := .ref (r_t 11)) hx hb hts inT_X4 hown hK hP 0 rfl rfl 11 (by decide) tf_X4_50 rfl dX4_doMicro_58 ?_
    refine lv_iconst (v := 5) hx hb dX4_doMicro_61 (by decide) ?_
    refine lv_iload_n hx hb dX4_doMicro_62 rfl (lv_at hl 1 rfl) ?_
    refine lv_iadd hx hb dX4_doMicro_63 ?_
    refine lv_dup2_11 hx hb dX4_doMicro_64 rfl rfl ?_
    refine z_iald hx hb hK hP 6 rfl dX4_doMicro_65 hf (fun y4 hf => ?_)
    refine lv_iconst (v := 1) hx hb dX4_doMicro_66 (by decide) ?_
    refine lv_iadd hx hb dX4_doMicro_67 ?_
    refine z_iast hx hb hK hP hD hS 6 rfl (fun z => w_X4_doMicro h_t r_t r_cache F_t cI a_cache_media a_cache_stores a_cache_held a_cache_asked z) (fun _ => rfl) dX4_doMicro_68 hf (fun a5 H locs hf hP hD hS => ?_)
    exact hret (a_cache_media, a_cache_stores, a_cache_held, a_cache_asked, a5) _ _ _ _ hf hP hD hS dX4_doMicro_69
  refine lv_iload_n hx hb dX4_doMicro_0 rfl (lv_at hl 1 rfl) ?_
  refine lv_sipush (v := 10000) hx hb dX4_doMicro_1 (by decide) ?_
  refine lv_idiv hx hb dX4_doMicro_4 (by decide) ?_
  refine z_istore_n (fun z => [(2, .int z), (0, .ref h_t), (1, .int p1)]) hx hb dX4_doMicro_5 rfl hl (by decide) (fun _ => rfl) hf (fun v1 ls hf hl => ?_)
  refine lv_iload_n hx hb dX4_doMicro_6 rfl (lv_at hl 2 rfl) ?_
  refine lv_sipush (v := 10000) hx hb dX4_doMicro_7 (by decide) ?_
  refine lv_irem hx hb dX4_doMicro_10 (by decide) ?_
  refine lv_bipush (v := 100) hx hb dX4_doMicro_11 (by decide) ?_
  refine lv_idiv hx hb dX4_doMicro_13 (by decide) ?_
  refine z_istore_n (fun z => [(3, .int z), (2, .int v1), (0, .ref h_t), (1, .int p1)]) hx hb dX4_doMicro_14 rfl hl (by decide) (fun _ => rfl) hf (fun v2 ls hf hl => ?_)
  refine lv_iload_n hx hb dX4_doMicro_15 rfl (lv_at hl 1 rfl) ?_
  refine z_if_ne (tgt := 34) hx hb dX4_doMicro_16 (by decide) hf (fun hf => ?_) (fun hf => ?_)
  · refine lv_iload_n hx hb dX4_doMicro_34 rfl (lv_at hl 1 rfl) ?_
    refine lv_iconst (v := 1) hx hb dX4_doMicro_35 (by decide) ?_
    refine z_icmp_ne (tgt := 50) hx hb dX4_doMicro_36 (by decide) hf (fun hf => ?_) (fun hf => ?_)
    · refine lv_aload_n hx hb dX4_doMicro_50 rfl (lv_at hl 2 rfl) ?_
      refine z_get (ci := 4) (C := RX4) (T := TX4) (N := 12) (v := .ref (r_t 0)) hx hb hts inT_X4 hown hK hP 0 rfl rfl 0 (by decide) tf_X4_12 rfl dX4_doMicro_51 ?_
      obtain ⟨u3, hu3, hf⟩ := bd_some hf
      refine z_cv (ws1 := w_X4_doMicro h_t r_t r_cache F_t cI u3.1 u3.2.1 u3.2.2.1 u3.2.2.2 a_tallies) (wr := List.filterMap (fun i : Nat => (w_X4_doMicro h_t r_t r_cache F_t cI a_cache_media a_cache_stores a_cache_held a_cache_asked a_tallies)[i]?) [0, 6]) (z_rV (rest := []) hx hb hml hown hcx hl.1 (c_X1_await l D cI (r_t 0) r_cache a_cache_media a_cache_stores a_cache_held a_cache_asked u3 hu3 _) tl_X4_98 ti_X1_await tz_X1_await tn_X1 tc_X1_await tm_X1_await rfl rfl ⟨Nat.le_of_ble_eq_true rfl, Nat.le_of_ble_eq_true rfl⟩ hK hX hS hA hP hD [1, 2, 3, 4, 5] rfl rfl 1 rfl rfl rfl rfl (Nat.le_of_ble_eq_true rfl) dX4_doMicro_54 ⟨Nat.zero_le _, Nat.zero_le _⟩) hP hD hS hA [1, 2, 3, 4, 5] [0, 6] [0, 2, 3, 4, 5, 6, 1] rfl rfl rfl (by decide) rfl rfl (fun H locs hP hD hS => ?_)
      exact L57 v1 u3.1 u3.2.1 u3.2.2.1 u3.2.2.2 a_tallies _ _ _ hf hP hD hS (lv_sub hl [2, 1] rfl)
    · refine lv_aload_n hx hb dX4_doMicro_39 rfl (lv_at hl 2 rfl) ?_
      refine z_get (ci := 4) (C := RX4) (T := TX4) (N := 12) (v := .ref (r_t 0)) hx hb hts inT_X4 hown hK hP 0 rfl rfl 0 (by decide) tf_X4_12 rfl dX4_doMicro_40 ?_
      refine lv_iload_n hx hb dX4_doMicro_43 rfl (lv_at hl 0 rfl) ?_
      obtain ⟨u6, hu6, hf⟩ := bd_some hf
      refine z_cv (ws1 := w_X4_doMicro h_t r_t r_cache F_t cI a_cache_media a_cache_stores a_cache_held u6 a_tallies) (wr := List.filterMap (fun i : Nat => (w_X4_doMicro h_t r_t r_cache F_t cI a_cache_media a_cache_stores a_cache_held a_cache_asked a_tallies)[i]?) [0, 2, 3, 6]) (z_rV (rest := []) hx hb hml hown hcx hl.1 (c_X1_ask l D cI (r_t 0) r_cache a_cache_held a_cache_asked v2 u6 hu6 _) tl_X4_95 ti_X1_ask tz_X1_ask tn_X1 tc_X1_ask tm_X1_ask rfl rfl ⟨Nat.le_of_ble_eq_true rfl, Nat.le_of_ble_eq_true rfl⟩ hK hX hS hA hP hD [1, 4, 5] rfl rfl 1 rfl rfl rfl rfl (Nat.le_of_ble_eq_true rfl) dX4_doMicro_44 ⟨Nat.zero_le _, Nat.zero_le _⟩) hP hD hS hA [1, 4, 5] [0, 2, 3, 6] [0, 4, 1, 2, 5, 6, 3] rfl rfl rfl (by decide) rfl rfl (fun H locs hP hD hS => ?_)
      refine lv_goto (tgt := 57) hx hb dX4_doMicro_47 (by decide) ?_
      exact L57 v1 a_cache_media a_cache_stores a_cache_held u6 a_tallies _ _ _ hf hP hD hS (lv_sub hl [2, 1] rfl)
  · refine lv_aload_n hx hb dX4_doMicro_19 rfl (lv_at hl 2 rfl) ?_
    refine z_get (ci := 4) (C := RX4) (T := TX4) (N := 12) (v := .ref (r_t 0)) hx hb hts inT_X4 hown hK hP 0 rfl rfl 0 (by decide) tf_X4_12 rfl dX4_doMicro_20 ?_
    refine lv_iload_n hx hb dX4_doMicro_23 rfl (lv_at hl 0 rfl) ?_
    refine lv_iload_n hx hb dX4_doMicro_24 rfl (lv_at hl 3 rfl) ?_
    refine lv_bipush (v := 100) hx hb dX4_doMicro_25 (by decide) ?_
    refine lv_irem hx hb dX4_doMicro_27 (by decide) ?_
    obtain ⟨u7, hu7, hf⟩ := bd_some hf
    refine z_cv (ws1 := w_X4_doMicro h_t r_t r_cache F_t cI u7.1 u7.2.1 u7.2.2.1 u7.2.2.2 a_tallies) (wr := List.filterMap (fun i : Nat => (w_X4_doMicro h_t r_t r_cache F_t cI a_cache_media a_cache_stores a_cache_held a_cache_asked a_tallies)[i]?) [0, 6]) (z_rV (rest := []) hx hb hml hown hcx hl.1 (c_X1_put l D cI (r_t 0) r_cache a_cache_media a_cache_stores a_cache_held a_cache_asked v2 (p1 - p1 / 100 * 100) u7 hu7 _) tl_X4_91 ti_X1_put tz_X1_put tn_X1 tc_X1_put tm_X1_put rfl rfl ⟨Nat.le_of_ble_eq_true rfl, Nat.le_of_ble_eq_true rfl⟩ hK hX hS hA hP hD [1, 2, 3, 4, 5] rfl rfl 1 rfl rfl rfl rfl (Nat.le_of_ble_eq_true rfl) dX4_doMicro_28 ⟨Nat.zero_le _, Nat.zero_le _⟩) hP hD hS hA [1, 2, 3, 4, 5] [0, 6] [0, 2, 3, 4, 5, 6, 1] rfl rfl rfl (by decide) rfl rfl (fun H locs hP hD hS => ?_)
    refine lv_goto (tgt := 57) hx hb dX4_doMicro_31 (by decide) ?_
    exact L57 v1 u7.1 u7.2.1 u7.2.2.1 u7.2.2.2 a_tallies _ _ _ hf hP hD hS (lv_sub hl [2, 1] rfl)
abbrev w_X4_finish (h_t : Nat) (r_t : Nat → Nat) (F_t : Nat → Int32) (cI : ClassId) (a_before : Nat → Int32) (a_after : Nat → Int32) (a_tallies : Nat → Int32) : va_W := [(h_t, .inr (4, o_X4 r_t F_t)), ((r_t 4), .inl (cI, 44, .inl a_before)), ((r_t 5), .inl (cI, 44, .inl a_after)), ((r_t 11), .inl (cI, 8, .inl a_tallies))]
abbrev rm_X4_finish : Room := { frames := 1, cells := 0, slots := 0, locals := 40 }
def m_X4_finish_j32 (a_after : Nat → Int32) (F_t : Nat → Int32) (a_before : Nat → Int32) (a_tallies : Nat → Int32) : Option ((Nat → Int32) × (Nat → Int32) × (Nat → Int32)) :=
  nm (upd F_t 8 0) fun F1 =>
  some (F1, a_before, a_tallies)
def m_X4_finish (F_t : Nat → Int32) (a_before : Nat → Int32) (a_after : Nat → Int32) (a_tallies : Nat → Int32) : Option ((Nat → Int32) × (Nat → Int32) × (Nat → Int32)) :=
  if (F_t 8) = 0 then (
  rd a_tallies 8 0 fun y2 =>
  wr a_tallies 8 0 (y2 + 1) fun a3 =>
  cp a_after a_before 44 44 0 0 44 fun a4 =>
  m_X4_finish_j32 a_after F_t a4 a3)
  else (
  m_X4_finish_j32 a_after F_t a_before a_tallies)
set_option maxHeartbeats 4000000 in
set_option maxRecDepth 100000 in
theorem c_X4_finish (l : Launch) (D : va_G) (cI : ClassId) (h_t : Nat) (r_t : Nat → Nat) (F_t : Nat → Int32) (a_before : Nat → Int32) (a_after : Nat → Int32) (a_tallies : Nat → Int32) (Rr : (Nat → Int32) × (Nat → Int32) × (Nat → Int32)) (hf : m_X4_finish F_t a_before a_after a_tallies = some Rr) : CTv l yX4_finish (Cond.code yX4_finish cX4_finish 1 none) rm_X4_finish D cI [.ref h_t] (w_X4_finish h_t r_t F_t cI a_before a_after a_tallies) (w_X4_finish h_t r_t Rr.1 cI Rr.2.1 a_after Rr.2.2) := by
  refine z_begin_v (own := RX4) (ρ := (Nat → Int32) × (Nat → Int32) × (Nat → Int32)) (fun u => w_X4_finish h_t r_t u.1 cI u.2.1 a_after u.2.2) (by decide +kernel) rfl (Nat.le_of_ble_eq_true rfl) ?_
  intro p e s m args below meth c ls Q A hx hb hml hts hcx hown hK hX hA hP hD hS hl hret
  have hl : lv_has ls 1 [(0, .ref h_t)] := hl
  have hf := (m_X4_finish.eq_1 _ _ _ _).symm.trans hf
  have L32 : ∀ (F_t : Nat → Int32) (a_before : Nat → Int32) (a_tallies : Nat → Int32) (H : Heap) (locs : List Loc) (ls : Array Slot), m_X4_finish_j32 a_after F_t a_before a_tallies = some Rr → va_P D vwCl (w_X4_finish h_t r_t F_t cI a_before a_after a_tallies) H → va_D A (w_X4_finish h_t r_t F_t cI a_before a_after a_tallies) → va_S A s.heap H locs → lv_has ls 1 [(0, .ref h_t)] → W p l e rm_X4_finish s m args below meth c H locs 0 0 Q (F0 m 32 ls []) := by
    intro F_t a_before a_tallies H locs ls hf hP hD hS hl
    have hf := (m_X4_finish_j32.eq_1 _ _ _ _).symm.trans hf
    refine lv_aload_n hx hb dX4_finish_32 rfl (lv_at hl 0 rfl) ?_
    refine lv_iconst (v := 0) hx hb dX4_finish_33 (by decide) ?_
    refine z_put (ci := 4) (C := RX4) (T := TX4) (N := 12) hx hb hts inT_X4 tyX4 tyX4_ok nmX4 hown hK hP hD hS 0 rfl rfl 8 (by decide) tf_X4_41 rfl (by decide +kernel) (Nat.le_of_ble_eq_true rfl) (o_X4 r_t) (o_X4_s8 _ _ _) (fun z => w_X4_finish h_t r_t z cI a_before a_after a_tallies) (fun _ => rfl) dX4_finish_34 hf (fun F1 H locs hf hP hD hS => ?_)
    exact hret (F1, a_before, a_tallies) _ _ _ _ hf hP hD hS dX4_finish_37
  refine lv_aload_n hx hb dX4_finish_0 rfl (lv_at hl 0 rfl) ?_
  refine z_get (ci := 4) (C := RX4) (T := TX4) (N := 12) (v := .int (F_t 8)) hx hb hts inT_X4 hown hK hP 0 rfl rfl 8 (by decide) tf_X4_41 rfl dX4_finish_1 ?_
  refine z_if_ne (tgt := 32) hx hb dX4_finish_4 (by decide) hf (fun hf => ?_) (fun hf => ?_)
  · exact L32 F_t a_before a_tallies _ _ _ hf hP hD hS (lv_sub hl [0] rfl)
  · refine lv_aload_n hx hb dX4_finish_7 rfl (lv_at hl 0 rfl) ?_
    refine z_get (ci := 4) (C := RX4) (T := TX4) (N := 12) (v := .ref (r_t 11)) hx hb hts inT_X4 hown hK hP 0 rfl rfl 11 (by decide) tf_X4_50 rfl dX4_finish_8 ?_
    refine lv_iconst (v := 0) hx hb dX4_finish_11 (by decide) ?_
    refine lv_dup2_11 hx hb dX4_finish_12 rfl rfl ?_
    refine z_iald hx hb hK hP 3 rfl dX4_finish_13 hf (fun y2 hf => ?_)
    refine lv_iconst (v := 1) hx hb dX4_finish_14 (by decide) ?_
    refine lv_iadd hx hb dX4_finish_15 ?_
    refine z_iast hx hb hK hP hD hS 3 rfl (fun z => w_X4_finish h_t r_t F_t cI a_before a_after z) (fun _ => rfl) dX4_finish_16 hf (fun a3 H locs hf hP hD hS => ?_)
    refine lv_aload_n hx hb dX4_finish_17 rfl (lv_at hl 0 rfl) ?_
    refine z_get (ci := 4) (C := RX4) (T := TX4) (N := 12) (v := .ref (r_t 5)) hx hb hts inT_X4 hown hK hP 0 rfl rfl 5 (by decide) tf_X4_32 rfl dX4_finish_18 ?_
    refine lv_iconst (v := 0) hx hb dX4_finish_21 (by decide) ?_
    refine lv_aload_n hx hb dX4_finish_22 rfl (lv_at hl 0 rfl) ?_
    refine z_get (ci := 4) (C := RX4) (T := TX4) (N := 12) (v := .ref (r_t 4)) hx hb hts inT_X4 hown hK hP 0 rfl rfl 4 (by decide) tf_X4_29 rfl dX4_finish_23 ?_
    refine lv_iconst (v := 0) hx hb dX4_finish_26 (by decide) ?_
    refine lv_bipush (v := 44) hx hb dX4_finish_27 (by decide) ?_
    refine z_copy (rest := []) hx hb (hml.trans hl.1.symm) hown hts tl_X4_57 tnat_copy ts_copy tn_J10 hK hP hD hS 2 1 rfl rfl (fun z => w_X4_finish h_t r_t F_t cI z a_after a3) (fun _ => rfl) (Nat.le_of_ble_eq_true rfl) (by decide) dX4_finish_29 hf (fun a4 H locs hf hP hD hS => ?_)
    exact L32 F_t a4 a3 _ _ _ hf hP hD hS (lv_sub hl [0] rfl)
abbrev w_X4_step (h_t : Nat) (h_p1 : Nat) (r_t : Nat → Nat) (r_cache : Nat → Nat) (r_p1 : Nat → Nat) (r_p1_shapeNow : Nat → Nat) (F_t : Nat → Int32) (F_p1 : Nat → Int32) (F_p1_shapeNow : Nat → Int32) (cI : ClassId) (a_cache_media : Nat → Int32) (a_cache_stores : Nat → Int32) (a_cache_held : Nat → Int32) (a_cache_asked : Nat → Int32) (a_micros : Nat → Int32) (a_before : Nat → Int32) (a_after : Nat → Int32) (a_waiting : Nat → Int32) (a_tallies : Nat → Int32) (a_p1_words : Nat → Int32) (a_p1_addresses : Nat → Int32) (a_p1_numbers : Nat → Int32) (a_p1_olds : Nat → Int32) : va_W := [(h_t, .inr (4, o_X4 r_t F_t)), ((r_t 0), .inr (1, o_X1 r_cache)), ((r_cache 0), .inl (cI, 64, .inl a_cache_media)), ((r_cache 1), .inl (cI, 96, .inl a_cache_stores)), ((r_cache 2), .inl (cI, 16, .inl a_cache_held)), ((r_cache 3), .inl (cI, 16, .inl a_cache_asked)), ((r_t 1), .inl (cI, 80, .inl a_micros)), ((r_t 4), .inl (cI, 44, .inl a_before)), ((r_t 5), .inl (cI, 44, .inl a_after)), ((r_t 6), .inl (cI, 48, .inl a_waiting)), ((r_t 11), .inl (cI, 8, .inl a_tallies)), (h_p1, .inr (5, o_X5 r_p1 F_p1)), ((r_p1 0), .inl (cI, 64, .inl a_p1_words)), ((r_p1 1), .inl (cI, 8, .inl a_p1_addresses)), ((r_p1 2), .inl (cI, 8, .inl a_p1_numbers)), ((r_p1 3), .inl (cI, 8, .inl a_p1_olds)), ((r_p1 6), .inr (7, o_X7 r_p1_shapeNow F_p1_shapeNow))]
abbrev rm_X4_step : Room := { frames := 5, cells := 0, slots := 0, locals := 115 }
def m_X4_step_j75 (F_t : Nat → Int32) (F_p1 : Nat → Int32) (F_p1_shapeNow : Nat → Int32) (a_cache_media : Nat → Int32) (a_cache_stores : Nat → Int32) (a_cache_held : Nat → Int32) (a_cache_asked : Nat → Int32) (a_micros : Nat → Int32) (a_before : Nat → Int32) (a_after : Nat → Int32) (a_waiting : Nat → Int32) (a_tallies : Nat → Int32) (a_p1_words : Nat → Int32) (a_p1_addresses : Nat → Int32) (a_p1_numbers : Nat → Int32) (a_p1_olds : Nat → Int32) : Option (Int32 × (Nat → Int32) × (Nat → Int32) × (Nat → Int32) × (Nat → Int32) × (Nat → Int32) × (Nat → Int32) × (Nat → Int32) × (Nat → Int32) × (Nat → Int32) × (Nat → Int32) × (Nat → Int32) × (Nat → Int32) × (Nat → Int32) × (Nat → Int32) × (Nat → Int32) × (Nat → Int32)) :=
  bd (m_X4_isIdle F_t) fun u1 =>
  if u1 = 0 then (
  rd a_micros 80 (F_t 2) fun y2 =>
  bd (m_X4_doMicro a_cache_media a_cache_stores a_cache_held a_cache_asked a_tallies y2) fun u3 =>
  nm (upd F_t 2 ((F_t 2) + 1)) fun F4 =>
  rd u3.2.2.2.2 8 4 fun y5 =>
  wr u3.2.2.2.2 8 4 (y5 + 1) fun a6 =>
  bd (m_X4_isIdle F4) fun u7 =>
  if u7 = 0 then (
  some (1, F4, F_p1, F_p1_shapeNow, u3.1, u3.2.1, u3.2.2.1, u3.2.2.2.1, a_micros, a_before, a_after, a_waiting, a6, a_p1_words, a_p1_addresses, a_p1_numbers, a_p1_olds))
  else (
  bd (m_X4_finish F4 a_before a_after a6) fun u8 =>
  some (1, u8.1, F_p1, F_p1_shapeNow, u3.1, u3.2.1, u3.2.2.1, u3.2.2.2.1, a_micros, u8.2.1, a_after, a_waiting, u8.2.2, a_p1_words, a_p1_addresses, a_p1_numbers, a_p1_olds)))
  else (
  some (0, F_t, F_p1, F_p1_shapeNow, a_cache_media, a_cache_stores, a_cache_held, a_cache_asked, a_micros, a_before, a_after, a_waiting, a_tallies, a_p1_words, a_p1_addresses, a_p1_numbers, a_p1_olds))
def m_X4_step_j69 (k2 : Int32 → (Nat → Int32) → (Nat → Int32) → (Nat → Int32) → (Nat → Int32) → (Nat → Int32) → (Nat → Int32) → (Nat → Int32) → (Nat → Int32) → (Nat → Int32) → (Nat → Int32) → (Nat → Int32) → (Nat → Int32) → (Nat → Int32) → (Nat → Int32) → (Nat → Int32) → (Nat → Int32) → Option (Int32 × (Nat → Int32) × (Nat → Int32) × (Nat → Int32) × (Nat → Int32) × (Nat → Int32) × (Nat → Int32) × (Nat → Int32) × (Nat → Int32) × (Nat → Int32) × (Nat → Int32) × (Nat → Int32) × (Nat → Int32) × (Nat → Int32) × (Nat → Int32) × (Nat → Int32) × (Nat → Int32))) (x2 : Int32) (F_t : Nat → Int32) (F_p1 : Nat → Int32) (F_p1_shapeNow : Nat → Int32) (a_cache_media : Nat → Int32) (a_cache_stores : Nat → Int32) (a_cache_held : Nat → Int32) (a_cache_asked : Nat → Int32) (a_micros : Nat → Int32) (a_before : Nat → Int32) (a_after : Nat → Int32) (a_waiting : Nat → Int32) (a_tallies : Nat → Int32) (a_p1_words : Nat → Int32) (a_p1_addresses : Nat → Int32) (a_p1_numbers : Nat → Int32) (a_p1_olds : Nat → Int32) : Option (Int32 × (Nat → Int32) × (Nat → Int32) × (Nat → Int32) × (Nat → Int32) × (Nat → Int32) × (Nat → Int32) × (Nat → Int32) × (Nat → Int32) × (Nat → Int32) × (Nat → Int32) × (Nat → Int32) × (Nat → Int32) × (Nat → Int32) × (Nat → Int32) × (Nat → Int32) × (Nat → Int32)) :=
  nm (x2 + 1) fun v14 =>
  k2 v14 F_t F_p1 F_p1_shapeNow a_cache_media a_cache_stores a_cache_held a_cache_asked a_micros a_before a_after a_waiting a_tallies a_p1_words a_p1_addresses a_p1_numbers a_p1_olds
def m_X4_step_w2 (k75 : (Nat → Int32) → (Nat → Int32) → (Nat → Int32) → (Nat → Int32) → (Nat → Int32) → (Nat → Int32) → (Nat → Int32) → (Nat → Int32) → (Nat → Int32) → (Nat → Int32) → (Nat → Int32) → (Nat → Int32) → (Nat → Int32) → (Nat → Int32) → (Nat → Int32) → (Nat → Int32) → Option (Int32 × (Nat → Int32) × (Nat → Int32) × (Nat → Int32) × (Nat → Int32) × (Nat → Int32) × (Nat → Int32) × (Nat → Int32) × (Nat → Int32) × (Nat → Int32) × (Nat → Int32) × (Nat → Int32) × (Nat → Int32) × (Nat → Int32) × (Nat → Int32) × (Nat → Int32) × (Nat → Int32))) : Nat → Int32 → (Nat → Int32) → (Nat → Int32) → (Nat → Int32) → (Nat → Int32) → (Nat → Int32) → (Nat → Int32) → (Nat → Int32) → (Nat → Int32) → (Nat → Int32) → (Nat → Int32) → (Nat → Int32) → (Nat → Int32) → (Nat → Int32) → (Nat → Int32) → (Nat → Int32) → (Nat → Int32) → Option (Int32 × (Nat → Int32) × (Nat → Int32) × (Nat → Int32) × (Nat → Int32) × (Nat → Int32) × (Nat → Int32) × (Nat → Int32) × (Nat → Int32) × (Nat → Int32) × (Nat → Int32) × (Nat → Int32) × (Nat → Int32) × (Nat → Int32) × (Nat → Int32) × (Nat → Int32) × (Nat → Int32))
  | 0, _, _, _, _, _, _, _, _, _, _, _, _, _, _, _, _, _ => none
  | n2 + 1, x2, F_t, F_p1, F_p1_shapeNow, a_cache_media, a_cache_stores, a_cache_held, a_cache_asked, a_micros, a_before, a_after, a_waiting, a_tallies, a_p1_words, a_p1_addresses, a_p1_numbers, a_p1_olds =>
    if 12 ≤ x2 then (
    k75 F_t F_p1 F_p1_shapeNow a_cache_media a_cache_stores a_cache_held a_cache_asked a_micros a_before a_after a_waiting a_tallies a_p1_words a_p1_addresses a_p1_numbers a_p1_olds)
    else (
    if (F_t 8) = 0 then (
    bd (m_X4_isIdle F_t) fun u9 =>
    if u9 = 0 then (
    k75 F_t F_p1 F_p1_shapeNow a_cache_media a_cache_stores a_cache_held a_cache_asked a_micros a_before a_after a_waiting a_tallies a_p1_words a_p1_addresses a_p1_numbers a_p1_olds)
    else (
    if (F_t 7) ≤ 0 then (
    k75 F_t F_p1 F_p1_shapeNow a_cache_media a_cache_stores a_cache_held a_cache_asked a_micros a_before a_after a_waiting a_tallies a_p1_words a_p1_addresses a_p1_numbers a_p1_olds)
    else (
    bd (m_X5_plan F_p1 F_p1_shapeNow a_p1_words a_p1_addresses a_p1_numbers a_p1_olds a_cache_media a_cache_stores a_cache_held a_waiting 48 0) fun u10 =>
    bd (m_X4_takeWaiting F_t a_waiting) fun u11 =>
    if u10.1 = 0 then (
    rd a_tallies 8 1 fun y12 =>
    wr a_tallies 8 1 (y12 + 1) fun a13 =>
    m_X4_step_j69 (m_X4_step_w2 k75 n2) x2 u11.1 u10.2.1 u10.2.2.1 a_cache_media a_cache_stores a_cache_held a_cache_asked a_micros a_before a_after u11.2 a13 u10.2.2.2.1 u10.2.2.2.2.1 u10.2.2.2.2.2.1 u10.2.2.2.2.2.2)
    else (
    bd (m_X4_begin u11.1 u10.2.1 a_micros a_after u10.2.2.2.1 u10.2.2.2.2.1 u10.2.2.2.2.2.1 u10.2.2.2.2.2.2) fun u15 =>
    m_X4_step_j69 (m_X4_step_w2 k75 n2) x2 u15.1 u10.2.1 u10.2.2.1 a_cache_media a_cache_stores a_cache_held a_cache_asked u15.2.1 a_before u15.2.2 u11.2 a_tallies u10.2.2.2.1 u10.2.2.2.2.1 u10.2.2.2.2.2.1 u10.2.2.2.2.2.2))))
    else (
    k75 F_t F_p1 F_p1_shapeNow a_cache_media a_cache_stores a_cache_held a_cache_asked a_micros a_before a_after a_waiting a_tallies a_p1_words a_p1_addresses a_p1_numbers a_p1_olds))
def m_X4_step (F_t : Nat → Int32) (F_p1 : Nat → Int32) (F_p1_shapeNow : Nat → Int32) (a_cache_media : Nat → Int32) (a_cache_stores : Nat → Int32) (a_cache_held : Nat → Int32) (a_cache_asked : Nat → Int32) (a_micros : Nat → Int32) (a_before : Nat → Int32) (a_after : Nat → Int32) (a_waiting : Nat → Int32) (a_tallies : Nat → Int32) (a_p1_words : Nat → Int32) (a_p1_addresses : Nat → Int32) (a_p1_numbers : Nat → Int32) (a_p1_olds : Nat → Int32) : Option (Int32 × (Nat → Int32) × (Nat → Int32) × (Nat → Int32) × (Nat → Int32) × (Nat → Int32) × (Nat → Int32) × (Nat → Int32) × (Nat → Int32) × (Nat → Int32) × (Nat → Int32) × (Nat → Int32) × (Nat → Int32) × (Nat → Int32) × (Nat → Int32) × (Nat → Int32) × (Nat → Int32)) :=
  m_X4_step_w2 m_X4_step_j75 fuelN 0 F_t F_p1 F_p1_shapeNow a_cache_media a_cache_stores a_cache_held a_cache_asked a_micros a_before a_after a_waiting a_tallies a_p1_words a_p1_addresses a_p1_numbers a_p1_olds
set_option maxHeartbeats 4000000 in
set_option maxRecDepth 100000 in
theorem c_X4_step (l : Launch) (D : va_G) (cI : ClassId) (h_t : Nat) (h_p1 : Nat) (r_t : Nat → Nat) (r_cache : Nat → Nat) (r_p1 : Nat → Nat) (r_p1_shapeNow : Nat → Nat) (F_t : Nat → Int32) (F_p1 : Nat → Int32) (F_p1_shapeNow : Nat → Int32) (a_cache_media : Nat → Int32) (a_cache_stores : Nat → Int32) (a_cache_held : Nat → Int32) (a_cache_asked : Nat → Int32) (a_micros : Nat → Int32) (a_before : Nat → Int32) (a_after : Nat → Int32) (a_waiting : Nat → Int32) (a_tallies : Nat → Int32) (a_p1_words : Nat → Int32) (a_p1_addresses : Nat → Int32) (a_p1_numbers : Nat → Int32) (a_p1_olds : Nat → Int32) (Rr : Int32 × (Nat → Int32) × (Nat → Int32) × (Nat → Int32) × (Nat → Int32) × (Nat → Int32) × (Nat → Int32) × (Nat → Int32) × (Nat → Int32) × (Nat → Int32) × (Nat → Int32) × (Nat → Int32) × (Nat → Int32) × (Nat → Int32) × (Nat → Int32) × (Nat → Int32) × (Nat → Int32)) (hf : m_X4_step F_t F_p1 F_p1_shapeNow a_cache_media a_cache_stores a_cache_held a_cache_asked a_micros a_before a_after a_waiting a_tallies a_p1_words a_p1_addresses a_p1_numbers a_p1_olds = some Rr) : CTi l yX4_step (Cond.code yX4_step cX4_step 4 (some .boolean)) rm_X4_step D cI [.ref h_t, .ref h_p1] (w_X4_step h_t h_p1 r_t r_cache r_p1 r_p1_shapeNow F_t F_p1 F_p1_shapeNow cI a_cache_media a_cache_stores a_cache_held a_cache_asked a_micros a_before a_after a_waiting a_tallies a_p1_words a_p1_addresses a_p1_numbers a_p1_olds) Rr.1 (w_X4_step h_t h_p1 r_t r_cache r_p1 r_p1_shapeNow Rr.2.1 Rr.2.2.1 Rr.2.2.2.1 cI Rr.2.2.2.2.1 Rr.2.2.2.2.2.1 Rr.2.2.2.2.2.2.1 Rr.2.2.2.2.2.2.2.1 Rr.2.2.2.2.2.2.2.2.1 Rr.2.2.2.2.2.2.2.2.2.1 Rr.2.2.2.2.2.2.2.2.2.2.1 Rr.2.2.2.2.2.2.2.2.2.2.2.1 Rr.2.2.2.2.2.2.2.2.2.2.2.2.1 Rr.2.2.2.2.2.2.2.2.2.2.2.2.2.1 Rr.2.2.2.2.2.2.2.2.2.2.2.2.2.2.1 Rr.2.2.2.2.2.2.2.2.2.2.2.2.2.2.2.1 Rr.2.2.2.2.2.2.2.2.2.2.2.2.2.2.2.2) := by
  refine z_begin_z (own := RX4) (ρ := Int32 × (Nat → Int32) × (Nat → Int32) × (Nat → Int32) × (Nat → Int32) × (Nat → Int32) × (Nat → Int32) × (Nat → Int32) × (Nat → Int32) × (Nat → Int32) × (Nat → Int32) × (Nat → Int32) × (Nat → Int32) × (Nat → Int32) × (Nat → Int32) × (Nat → Int32) × (Nat → Int32)) (fun u => w_X4_step h_t h_p1 r_t r_cache r_p1 r_p1_shapeNow u.2.1 u.2.2.1 u.2.2.2.1 cI u.2.2.2.2.1 u.2.2.2.2.2.1 u.2.2.2.2.2.2.1 u.2.2.2.2.2.2.2.1 u.2.2.2.2.2.2.2.2.1 u.2.2.2.2.2.2.2.2.2.1 u.2.2.2.2.2.2.2.2.2.2.1 u.2.2.2.2.2.2.2.2.2.2.2.1 u.2.2.2.2.2.2.2.2.2.2.2.2.1 u.2.2.2.2.2.2.2.2.2.2.2.2.2.1 u.2.2.2.2.2.2.2.2.2.2.2.2.2.2.1 u.2.2.2.2.2.2.2.2.2.2.2.2.2.2.2.1 u.2.2.2.2.2.2.2.2.2.2.2.2.2.2.2.2) (fun u => u.1) (by decide +kernel) rfl (Nat.le_of_ble_eq_true rfl) ?_
  intro p e s m args below meth c ls Q A hx hb hml hts hcx hown hK hX hA hP hD hS hl hret
  have hl : lv_has ls 4 [(0, .ref h_t), (1, .ref h_p1)] := hl
  have hf := (m_X4_step.eq_1 _ _ _ _ _ _ _ _ _ _ _ _ _ _ _ _).symm.trans hf
  have L75 : ∀ (F_t : Nat → Int32) (F_p1 : Nat → Int32) (F_p1_shapeNow : Nat → Int32) (a_cache_media : Nat → Int32) (a_cache_stores : Nat → Int32) (a_cache_held : Nat → Int32) (a_cache_asked : Nat → Int32) (a_micros : Nat → Int32) (a_before : Nat → Int32) (a_after : Nat → Int32) (a_waiting : Nat → Int32) (a_tallies : Nat → Int32) (a_p1_words : Nat → Int32) (a_p1_addresses : Nat → Int32) (a_p1_numbers : Nat → Int32) (a_p1_olds : Nat → Int32) (H : Heap) (locs : List Loc) (ls : Array Slot), m_X4_step_j75 F_t F_p1 F_p1_shapeNow a_cache_media a_cache_stores a_cache_held a_cache_asked a_micros a_before a_after a_waiting a_tallies a_p1_words a_p1_addresses a_p1_numbers a_p1_olds = some Rr → va_P D vwCl (w_X4_step h_t h_p1 r_t r_cache r_p1 r_p1_shapeNow F_t F_p1 F_p1_shapeNow cI a_cache_media a_cache_stores a_cache_held a_cache_asked a_micros a_before a_after a_waiting a_tallies a_p1_words a_p1_addresses a_p1_numbers a_p1_olds) H → va_D A (w_X4_step h_t h_p1 r_t r_cache r_p1 r_p1_shapeNow F_t F_p1 F_p1_shapeNow cI a_cache_media a_cache_stores a_cache_held a_cache_asked a_micros a_before a_after a_waiting a_tallies a_p1_words a_p1_addresses a_p1_numbers a_p1_olds) → va_S A s.heap H locs → lv_has ls 4 [(0, .ref h_t)] → W p l e rm_X4_step s m args below meth c H locs 0 0 Q (F0 m 75 ls []) := by
    intro F_t F_p1 F_p1_shapeNow a_cache_media a_cache_stores a_cache_held a_cache_asked a_micros a_before a_after a_waiting a_tallies a_p1_words a_p1_addresses a_p1_numbers a_p1_olds H locs ls hf hP hD hS hl
    have hf := (m_X4_step_j75.eq_1 _ _ _ _ _ _ _ _ _ _ _ _ _ _ _ _).symm.trans hf
    refine lv_aload_n hx hb dX4_step_75 rfl (lv_at hl 0 rfl) ?_
    obtain ⟨u1, hu1, hf⟩ := bd_some hf
    refine z_ci (ws1 := w_X4_step h_t h_p1 r_t r_cache r_p1 r_p1_shapeNow F_t F_p1 F_p1_shapeNow cI a_cache_media a_cache_stores a_cache_held a_cache_asked a_micros a_before a_after a_waiting a_tallies a_p1_words a_p1_addresses a_p1_numbers a_p1_olds) (wr := List.filterMap (fun i : Nat => (w_X4_step h_t h_p1 r_t r_cache r_p1 r_p1_shapeNow F_t F_p1 F_p1_shapeNow cI a_cache_media a_cache_stores a_cache_held a_cache_asked a_micros a_before a_after a_waiting a_tallies a_p1_words a_p1_addresses a_p1_numbers a_p1_olds)[i]?) [1, 2, 3, 4, 5, 6, 7, 8, 9, 10, 11, 12, 13, 14, 15, 16]) (z_rV (rest := []) hx hb hml hown hcx hl.1 (c_X4_isIdle l D cI h_t r_t F_t u1 hu1 _) tl_X4_63 ti_X4_isIdle tz_X4_isIdle tn_X4 tc_X4_isIdle tm_X4_isIdle rfl rfl ⟨Nat.le_of_ble_eq_true rfl, Nat.le_of_ble_eq_true rfl⟩ hK hX hS hA hP hD [0] rfl rfl 0 rfl rfl rfl rfl (Nat.le_of_ble_eq_true rfl) dX4_step_76 ⟨Nat.zero_le _, Nat.zero_le _⟩) hP hD hS hA [0] [1, 2, 3, 4, 5, 6, 7, 8, 9, 10, 11, 12, 13, 14, 15, 16] [16, 0, 1, 2, 3, 4, 5, 6, 7, 8, 9, 10, 11, 12, 13, 14, 15] rfl rfl rfl (by decide) rfl rfl (fun H locs hP hD hS => ?_)
    refine z_if_eq (tgt := 84) hx hb dX4_step_79 (by decide) hf (fun hf => ?_) (fun hf => ?_)
    · refine lv_aload_n hx hb dX4_step_84 rfl (lv_at hl 0 rfl) ?_
      refine lv_aload_n hx hb dX4_step_85 rfl (lv_at hl 0 rfl) ?_
      refine z_get (ci := 4) (C := RX4) (T := TX4) (N := 12) (v := .ref (r_t 1)) hx hb hts inT_X4 hown hK hP 0 rfl rfl 1 (by decide) tf_X4_18 rfl dX4_step_86 ?_
      refine lv_aload_n hx hb dX4_step_89 rfl (lv_at hl 0 rfl) ?_
      refine z_get (ci := 4) (C := RX4) (T := TX4) (N := 12) (v := .int (F_t 2)) hx hb hts inT_X4 hown hK hP 0 rfl rfl 2 (by decide) tf_X4_22 rfl dX4_step_90 ?_
      refine z_iald hx hb hK hP 6 rfl dX4_step_93 hf (fun y2 hf => ?_)
      obtain ⟨u3, hu3, hf⟩ := bd_some hf
      refine z_cv (ws1 := w_X4_step h_t h_p1 r_t r_cache r_p1 r_p1_shapeNow F_t F_p1 F_p1_shapeNow cI u3.1 u3.2.1 u3.2.2.1 u3.2.2.2.1 a_micros a_before a_after a_waiting u3.2.2.2.2 a_p1_words a_p1_addresses a_p1_numbers a_p1_olds) (wr := List.filterMap (fun i : Nat => (w_X4_step h_t h_p1 r_t r_cache r_p1 r_p1_shapeNow F_t F_p1 F_p1_shapeNow cI a_cache_media a_cache_stores a_cache_held a_cache_asked a_micros a_before a_after a_waiting a_tallies a_p1_words a_p1_addresses a_p1_numbers a_p1_olds)[i]?) [6, 7, 8, 9, 11, 12, 13, 14, 15, 16]) (z_rV (rest := []) hx hb hml hown hcx hl.1 (c_X4_doMicro l D cI h_t r_t r_cache F_t a_cache_media a_cache_stores a_cache_held a_cache_asked a_tallies y2 u3 hu3 _) tl_X4_84 ti_X4_doMicro tz_X4_doMicro tn_X4 tc_X4_doMicro tm_X4_doMicro rfl rfl ⟨Nat.le_of_ble_eq_true rfl, Nat.le_of_ble_eq_true rfl⟩ hK hX hS hA hP hD [0, 1, 2, 3, 4, 5, 10] rfl rfl 0 rfl rfl rfl rfl (Nat.le_of_ble_eq_true rfl) dX4_step_94 ⟨Nat.zero_le _, Nat.zero_le _⟩) hP hD hS hA [0, 1, 2, 3, 4, 5, 10] [6, 7, 8, 9, 11, 12, 13, 14, 15, 16] [10, 11, 12, 13, 14, 15, 0, 1, 2, 3, 16, 4, 5, 6, 7, 8, 9] rfl rfl rfl (by decide) rfl rfl (fun H locs hP hD hS => ?_)
      refine lv_aload_n hx hb dX4_step_97 rfl (lv_at hl 0 rfl) ?_
      refine lv_dup hx hb dX4_step_98 rfl ?_
      refine z_get (ci := 4) (C := RX4) (T := TX4) (N := 12) (v := .int (F_t 2)) hx hb hts inT_X4 hown hK hP 0 rfl rfl 2 (by decide) tf_X4_22 rfl dX4_step_99 ?_
      refine lv_iconst (v := 1) hx hb dX4_step_102 (by decide) ?_
      refine lv_iadd hx hb dX4_step_103 ?_
      refine z_put (ci := 4) (C := RX4) (T := TX4) (N := 12) hx hb hts inT_X4 tyX4 tyX4_ok nmX4 hown hK hP hD hS 0 rfl rfl 2 (by decide) tf_X4_22 rfl (by decide +kernel) (Nat.le_of_ble_eq_true rfl) (o_X4 r_t) (o_X4_s2 _ _ _) (fun z => w_X4_step h_t h_p1 r_t r_cache r_p1 r_p1_shapeNow z F_p1 F_p1_shapeNow cI u3.1 u3.2.1 u3.2.2.1 u3.2.2.2.1 a_micros a_before a_after a_waiting u3.2.2.2.2 a_p1_words a_p1_addresses a_p1_numbers a_p1_olds) (fun _ => rfl) dX4_step_104 hf (fun F4 H locs hf hP hD hS => ?_)
      refine lv_aload_n hx hb dX4_step_107 rfl (lv_at hl 0 rfl) ?_
      refine z_get (ci := 4) (C := RX4) (T := TX4) (N := 12) (v := .ref (r_t 11)) hx hb hts inT_X4 hown hK hP 0 rfl rfl 11 (by decide) tf_X4_50 rfl dX4_step_108 ?_
      refine lv_iconst (v := 4) hx hb dX4_step_111 (by decide) ?_
      refine lv_dup2_11 hx hb dX4_step_112 rfl rfl ?_
      refine z_iald hx hb hK hP 10 rfl dX4_step_113 hf (fun y5 hf => ?_)
      refine lv_iconst (v := 1) hx hb dX4_step_114 (by decide) ?_
      refine lv_iadd hx hb dX4_step_115 ?_
      refine z_iast hx hb hK hP hD hS 10 rfl (fun z => w_X4_step h_t h_p1 r_t r_cache r_p1 r_p1_shapeNow F4 F_p1 F_p1_shapeNow cI u3.1 u3.2.1 u3.2.2.1 u3.2.2.2.1 a_micros a_before a_after a_waiting z a_p1_words a_p1_addresses a_p1_numbers a_p1_olds) (fun _ => rfl) dX4_step_116 hf (fun a6 H locs hf hP hD hS => ?_)
      refine lv_aload_n hx hb dX4_step_117 rfl (lv_at hl 0 rfl) ?_
      obtain ⟨u7, hu7, hf⟩ := bd_some hf
      refine z_ci (ws1 := w_X4_step h_t h_p1 r_t r_cache r_p1 r_p1_shapeNow F4 F_p1 F_p1_shapeNow cI u3.1 u3.2.1 u3.2.2.1 u3.2.2.2.1 a_micros a_before a_after a_waiting a6 a_p1_words a_p1_addresses a_p1_numbers a_p1_olds) (wr := List.filterMap (fun i : Nat => (w_X4_step h_t h_p1 r_t r_cache r_p1 r_p1_shapeNow F4 F_p1 F_p1_shapeNow cI u3.1 u3.2.1 u3.2.2.1 u3.2.2.2.1 a_micros a_before a_after a_waiting a6 a_p1_words a_p1_addresses a_p1_numbers a_p1_olds)[i]?) [1, 2, 3, 4, 5, 6, 7, 8, 9, 10, 11, 12, 13, 14, 15, 16]) (z_rV (rest := []) hx hb hml hown hcx hl.1 (c_X4_isIdle l D cI h_t r_t F4 u7 hu7 _) tl_X4_63 ti_X4_isIdle tz_X4_isIdle tn_X4 tc_X4_isIdle tm_X4_isIdle rfl rfl ⟨Nat.le_of_ble_eq_true rfl, Nat.le_of_ble_eq_true rfl⟩ hK hX hS hA hP hD [0] rfl rfl 0 rfl rfl rfl rfl (Nat.le_of_ble_eq_true rfl) dX4_step_118 ⟨Nat.zero_le _, Nat.zero_le _⟩) hP hD hS hA [0] [1, 2, 3, 4, 5, 6, 7, 8, 9, 10, 11, 12, 13, 14, 15, 16] [16, 0, 1, 2, 3, 4, 5, 6, 7, 8, 9, 10, 11, 12, 13, 14, 15] rfl rfl rfl (by decide) rfl rfl (fun H locs hP hD hS => ?_)
      refine z_if_eq (tgt := 128) hx hb dX4_step_121 (by decide) hf (fun hf => ?_) (fun hf => ?_)
      · refine lv_iconst (v := 1) hx hb dX4_step_128 (by decide) ?_
        exact hret (1, F4, F_p1, F_p1_shapeNow, u3.1, u3.2.1, u3.2.2.1, u3.2.2.2.1, a_micros, a_before, a_after, a_waiting, a6, a_p1_words, a_p1_addresses, a_p1_numbers, a_p1_olds) _ _ _ _ (Or.inr rfl) hf hP hD hS dX4_step_129
      · refine lv_aload_n hx hb dX4_step_124 rfl (lv_at hl 0 rfl) ?_
        obtain ⟨u8, hu8, hf⟩ := bd_some hf
        refine z_cv (ws1 := w_X4_step h_t h_p1 r_t r_cache r_p1 r_p1_shapeNow u8.1 F_p1 F_p1_shapeNow cI u3.1 u3.2.1 u3.2.2.1 u3.2.2.2.1 a_micros u8.2.1 a_after a_waiting u8.2.2 a_p1_words a_p1_addresses a_p1_numbers a_p1_olds) (wr := List.filterMap (fun i : Nat => (w_X4_step h_t h_p1 r_t r_cache r_p1 r_p1_shapeNow F4 F_p1 F_p1_shapeNow cI u3.1 u3.2.1 u3.2.2.1 u3.2.2.2.1 a_micros a_before a_after a_waiting a6 a_p1_words a_p1_addresses a_p1_numbers a_p1_olds)[i]?) [1, 2, 3, 4, 5, 6, 9, 11, 12, 13, 14, 15, 16]) (z_rV (rest := []) hx hb hml hown hcx hl.1 (c_X4_finish l D cI h_t r_t F4 a_before a_after a6 u8 hu8 _) tl_X4_88 ti_X4_finish tz_X4_finish tn_X4 tc_X4_finish tm_X4_finish rfl rfl ⟨Nat.le_of_ble_eq_true rfl, Nat.le_of_ble_eq_true rfl⟩ hK hX hS hA hP hD [0, 7, 8, 10] rfl rfl 0 rfl rfl rfl rfl (Nat.le_of_ble_eq_true rfl) dX4_step_125 ⟨Nat.zero_le _, Nat.zero_le _⟩) hP hD hS hA [0, 7, 8, 10] [1, 2, 3, 4, 5, 6, 9, 11, 12, 13, 14, 15, 16] [13, 0, 1, 2, 3, 4, 5, 14, 15, 6, 16, 7, 8, 9, 10, 11, 12] rfl rfl rfl (by decide) rfl rfl (fun H locs hP hD hS => ?_)
        refine lv_iconst (v := 1) hx hb dX4_step_128 (by decide) ?_
        exact hret (1, u8.1, F_p1, F_p1_shapeNow, u3.1, u3.2.1, u3.2.2.1, u3.2.2.2.1, a_micros, u8.2.1, a_after, a_waiting, u8.2.2, a_p1_words, a_p1_addresses, a_p1_numbers, a_p1_olds) _ _ _ _ (Or.inr rfl) hf hP hD hS dX4_step_129
    · refine lv_iconst (v := 0) hx hb dX4_step_82 (by decide) ?_
      exact hret (0, F_t, F_p1, F_p1_shapeNow, a_cache_media, a_cache_stores, a_cache_held, a_cache_asked, a_micros, a_before, a_after, a_waiting, a_tallies, a_p1_words, a_p1_addresses, a_p1_numbers, a_p1_olds) _ _ _ _ (Or.inl rfl) hf hP hD hS dX4_step_83
  have L2 : ∀ (n2 : Nat) (x2 : Int32) (F_t : Nat → Int32) (F_p1 : Nat → Int32) (F_p1_shapeNow : Nat → Int32) (a_cache_media : Nat → Int32) (a_cache_stores : Nat → Int32) (a_cache_held : Nat → Int32) (a_cache_asked : Nat → Int32) (a_micros : Nat → Int32) (a_before : Nat → Int32) (a_after : Nat → Int32) (a_waiting : Nat → Int32) (a_tallies : Nat → Int32) (a_p1_words : Nat → Int32) (a_p1_addresses : Nat → Int32) (a_p1_numbers : Nat → Int32) (a_p1_olds : Nat → Int32) (H : Heap) (locs : List Loc) (ls : Array Slot), m_X4_step_w2 m_X4_step_j75 n2 x2 F_t F_p1 F_p1_shapeNow a_cache_media a_cache_stores a_cache_held a_cache_asked a_micros a_before a_after a_waiting a_tallies a_p1_words a_p1_addresses a_p1_numbers a_p1_olds = some Rr → va_P D vwCl (w_X4_step h_t h_p1 r_t r_cache r_p1 r_p1_shapeNow F_t F_p1 F_p1_shapeNow cI a_cache_media a_cache_stores a_cache_held a_cache_asked a_micros a_before a_after a_waiting a_tallies a_p1_words a_p1_addresses a_p1_numbers a_p1_olds) H → va_D A (w_X4_step h_t h_p1 r_t r_cache r_p1 r_p1_shapeNow F_t F_p1 F_p1_shapeNow cI a_cache_media a_cache_stores a_cache_held a_cache_asked a_micros a_before a_after a_waiting a_tallies a_p1_words a_p1_addresses a_p1_numbers a_p1_olds) → va_S A s.heap H locs → lv_has ls 4 [(0, .ref h_t), (1, .ref h_p1), (2, .int x2)] → W p l e rm_X4_step s m args below meth c H locs 0 0 Q (F0 m 2 ls []) := by
    intro n2
    induction n2 with
    | zero => intro x2 F_t F_p1 F_p1_shapeNow a_cache_media a_cache_stores a_cache_held a_cache_asked a_micros a_before a_after a_waiting a_tallies a_p1_words a_p1_addresses a_p1_numbers a_p1_olds H locs ls hf; cases (show (none : Option _) = some Rr from hf)
    | succ n2 ih2 =>
      intro x2 F_t F_p1 F_p1_shapeNow a_cache_media a_cache_stores a_cache_held a_cache_asked a_micros a_before a_after a_waiting a_tallies a_p1_words a_p1_addresses a_p1_numbers a_p1_olds H locs ls hf hP hD hS hl
      have hf := (m_X4_step_w2.eq_2 _ _ _ _ _ _ _ _ _ _ _ _ _ _ _ _ _ _ _).symm.trans hf
      have L69 : ∀ (x2 : Int32) (F_t : Nat → Int32) (F_p1 : Nat → Int32) (F_p1_shapeNow : Nat → Int32) (a_cache_media : Nat → Int32) (a_cache_stores : Nat → Int32) (a_cache_held : Nat → Int32) (a_cache_asked : Nat → Int32) (a_micros : Nat → Int32) (a_before : Nat → Int32) (a_after : Nat → Int32) (a_waiting : Nat → Int32) (a_tallies : Nat → Int32) (a_p1_words : Nat → Int32) (a_p1_addresses : Nat → Int32) (a_p1_numbers : Nat → Int32) (a_p1_olds : Nat → Int32) (H : Heap) (locs : List Loc) (ls : Array Slot), m_X4_step_j69 (m_X4_step_w2 m_X4_step_j75 n2) x2 F_t F_p1 F_p1_shapeNow a_cache_media a_cache_stores a_cache_held a_cache_asked a_micros a_before a_after a_waiting a_tallies a_p1_words a_p1_addresses a_p1_numbers a_p1_olds = some Rr → va_P D vwCl (w_X4_step h_t h_p1 r_t r_cache r_p1 r_p1_shapeNow F_t F_p1 F_p1_shapeNow cI a_cache_media a_cache_stores a_cache_held a_cache_asked a_micros a_before a_after a_waiting a_tallies a_p1_words a_p1_addresses a_p1_numbers a_p1_olds) H → va_D A (w_X4_step h_t h_p1 r_t r_cache r_p1 r_p1_shapeNow F_t F_p1 F_p1_shapeNow cI a_cache_media a_cache_stores a_cache_held a_cache_asked a_micros a_before a_after a_waiting a_tallies a_p1_words a_p1_addresses a_p1_numbers a_p1_olds) → va_S A s.heap H locs → lv_has ls 4 [(0, .ref h_t), (1, .ref h_p1), (2, .int x2)] → W p l e rm_X4_step s m args below meth c H locs 0 0 Q (F0 m 69 ls []) := by
        intro x2 F_t F_p1 F_p1_shapeNow a_cache_media a_cache_stores a_cache_held a_cache_asked a_micros a_before a_after a_waiting a_tallies a_p1_words a_p1_addresses a_p1_numbers a_p1_olds H locs ls hf hP hD hS hl
        have hf := (m_X4_step_j69.eq_1 _ _ _ _ _ _ _ _ _ _ _ _ _ _ _ _ _ _).symm.trans hf
        refine z_iinc (k0 := 2) (fun z => [(2, .int z), (0, .ref h_t), (1, .ref h_p1)]) hx hb dX4_step_69 hl rfl (by decide) (by decide) (fun _ => rfl) hf (fun v14 ls hf hl => ?_)
        refine lv_goto (tgt := 2) hx hb dX4_step_72 (by decide) ?_
        exact ih2 v14 F_t F_p1 F_p1_shapeNow a_cache_media a_cache_stores a_cache_held a_cache_asked a_micros a_before a_after a_waiting a_tallies a_p1_words a_p1_addresses a_p1_numbers a_p1_olds _ _ _ hf hP hD hS (lv_sub hl [1, 2, 0] rfl)
      refine lv_iload_n hx hb dX4_step_2 rfl (lv_at hl 2 rfl) ?_
      refine lv_bipush (v := 12) hx hb dX4_step_3 (by decide) ?_
      refine z_icmp_ge (tgt := 75) hx hb dX4_step_5 (by decide) hf (fun hf => ?_) (fun hf => ?_)
      · exact L75 F_t F_p1 F_p1_shapeNow a_cache_media a_cache_stores a_cache_held a_cache_asked a_micros a_before a_after a_waiting a_tallies a_p1_words a_p1_addresses a_p1_numbers a_p1_olds _ _ _ hf hP hD hS (lv_sub hl [0] rfl)
      · refine lv_aload_n hx hb dX4_step_8 rfl (lv_at hl 0 rfl) ?_
        refine z_get (ci := 4) (C := RX4) (T := TX4) (N := 12) (v := .int (F_t 8)) hx hb hts inT_X4 hown hK hP 0 rfl rfl 8 (by decide) tf_X4_41 rfl dX4_step_9 ?_
        refine z_if_ne (tgt := 75) hx hb dX4_step_12 (by decide) hf (fun hf => ?_) (fun hf => ?_)
        · exact L75 F_t F_p1 F_p1_shapeNow a_cache_media a_cache_stores a_cache_held a_cache_asked a_micros a_before a_after a_waiting a_tallies a_p1_words a_p1_addresses a_p1_numbers a_p1_olds _ _ _ hf hP hD hS (lv_sub hl [0] rfl)
        · refine lv_aload_n hx hb dX4_step_15 rfl (lv_at hl 0 rfl) ?_
          obtain ⟨u9, hu9, hf⟩ := bd_some hf
          refine z_ci (ws1 := w_X4_step h_t h_p1 r_t r_cache r_p1 r_p1_shapeNow F_t F_p1 F_p1_shapeNow cI a_cache_media a_cache_stores a_cache_held a_cache_asked a_micros a_before a_after a_waiting a_tallies a_p1_words a_p1_addresses a_p1_numbers a_p1_olds) (wr := List.filterMap (fun i : Nat => (w_X4_step h_t h_p1 r_t r_cache r_p1 r_p1_shapeNow F_t F_p1 F_p1_shapeNow cI a_cache_media a_cache_stores a_cache_held a_cache_asked a_micros a_before a_after a_waiting a_tallies a_p1_words a_p1_addresses a_p1_numbers a_p1_olds)[i]?) [1, 2, 3, 4, 5, 6, 7, 8, 9, 10, 11, 12, 13, 14, 15, 16]) (z_rV (rest := []) hx hb hml hown hcx hl.1 (c_X4_isIdle l D cI h_t r_t F_t u9 hu9 _) tl_X4_63 ti_X4_isIdle tz_X4_isIdle tn_X4 tc_X4_isIdle tm_X4_isIdle rfl rfl ⟨Nat.le_of_ble_eq_true rfl, Nat.le_of_ble_eq_true rfl⟩ hK hX hS hA hP hD [0] rfl rfl 0 rfl rfl rfl rfl (Nat.le_of_ble_eq_true rfl) dX4_step_16 ⟨Nat.zero_le _, Nat.zero_le _⟩) hP hD hS hA [0] [1, 2, 3, 4, 5, 6, 7, 8, 9, 10, 11, 12, 13, 14, 15, 16] [16, 0, 1, 2, 3, 4, 5, 6, 7, 8, 9, 10, 11, 12, 13, 14, 15] rfl rfl rfl (by decide) rfl rfl (fun H locs hP hD hS => ?_)
          refine z_if_eq (tgt := 75) hx hb dX4_step_19 (by decide) hf (fun hf => ?_) (fun hf => ?_)
          · exact L75 F_t F_p1 F_p1_shapeNow a_cache_media a_cache_stores a_cache_held a_cache_asked a_micros a_before a_after a_waiting a_tallies a_p1_words a_p1_addresses a_p1_numbers a_p1_olds _ _ _ hf hP hD hS (lv_sub hl [0] rfl)
          · refine lv_aload_n hx hb dX4_step_22 rfl (lv_at hl 0 rfl) ?_
            refine z_get (ci := 4) (C := RX4) (T := TX4) (N := 12) (v := .int (F_t 7)) hx hb hts inT_X4 hown hK hP 0 rfl rfl 7 (by decide) tf_X4_38 rfl dX4_step_23 ?_
            refine z_if_le (tgt := 75) hx hb dX4_step_26 (by decide) hf (fun hf => ?_) (fun hf => ?_)
            · exact L75 F_t F_p1 F_p1_shapeNow a_cache_media a_cache_stores a_cache_held a_cache_asked a_micros a_before a_after a_waiting a_tallies a_p1_words a_p1_addresses a_p1_numbers a_p1_olds _ _ _ hf hP hD hS (lv_sub hl [0] rfl)
            · refine lv_aload_n hx hb dX4_step_29 rfl (lv_at hl 1 rfl) ?_
              refine lv_aload_n hx hb dX4_step_30 rfl (lv_at hl 0 rfl) ?_
              refine z_get (ci := 4) (C := RX4) (T := TX4) (N := 12) (v := .ref (r_t 0)) hx hb hts inT_X4 hown hK hP 0 rfl rfl 0 (by decide) tf_X4_12 rfl dX4_step_31 ?_
              refine lv_aload_n hx hb dX4_step_34 rfl (lv_at hl 0 rfl) ?_
              refine z_get (ci := 4) (C := RX4) (T := TX4) (N := 12) (v := .ref (r_t 6)) hx hb hts inT_X4 hown hK hP 0 rfl rfl 6 (by decide) tf_X4_35 rfl dX4_step_35 ?_
              refine lv_iconst (v := 0) hx hb dX4_step_38 (by decide) ?_
              obtain ⟨u10, hu10, hf⟩ := bd_some hf
              refine z_ci (ws1 := w_X4_step h_t h_p1 r_t r_cache r_p1 r_p1_shapeNow F_t u10.2.1 u10.2.2.1 cI a_cache_media a_cache_stores a_cache_held a_cache_asked a_micros a_before a_after a_waiting a_tallies u10.2.2.2.1 u10.2.2.2.2.1 u10.2.2.2.2.2.1 u10.2.2.2.2.2.2) (wr := List.filterMap (fun i : Nat => (w_X4_step h_t h_p1 r_t r_cache r_p1 r_p1_shapeNow F_t F_p1 F_p1_shapeNow cI a_cache_media a_cache_stores a_cache_held a_cache_asked a_micros a_before a_after a_waiting a_tallies a_p1_words a_p1_addresses a_p1_numbers a_p1_olds)[i]?) [0, 5, 6, 7, 8, 10]) (z_rV (rest := []) hx hb hml hown hcx hl.1 (c_X5_plan l D cI h_p1 (r_t 0) (r_t 6) r_p1 r_p1_shapeNow r_cache F_p1 F_p1_shapeNow 48 a_p1_words a_p1_addresses a_p1_numbers a_p1_olds a_cache_media a_cache_stores a_cache_held a_waiting 0 u10 hu10 _) tl_X4_67 ti_X5_plan tz_X5_plan tn_X5 tc_X5_plan tm_X5_plan rfl rfl ⟨Nat.le_of_ble_eq_true rfl, Nat.le_of_ble_eq_true rfl⟩ hK hX hS hA hP hD [11, 12, 13, 14, 15, 16, 1, 2, 3, 4, 9] rfl rfl 11 rfl rfl rfl rfl (Nat.le_of_ble_eq_true rfl) dX4_step_39 ⟨Nat.zero_le _, Nat.zero_le _⟩) hP hD hS hA [11, 12, 13, 14, 15, 16, 1, 2, 3, 4, 9] [0, 5, 6, 7, 8, 10] [0, 12, 13, 14, 15, 1, 2, 3, 4, 16, 5, 6, 7, 8, 9, 10, 11] rfl rfl rfl (by decide) rfl rfl (fun H locs hP hD hS => ?_)
              refine lv_istore_n (lv' := [(3, .int u10.1), (0, .ref h_t), (1, .ref h_p1), (2, .int x2)]) hx hb dX4_step_42 rfl hl (by decide) rfl (fun ls hl => ?_)
              refine lv_aload_n hx hb dX4_step_43 rfl (lv_at hl 1 rfl) ?_
              obtain ⟨u11, hu11, hf⟩ := bd_some hf
              refine z_cv (ws1 := w_X4_step h_t h_p1 r_t r_cache r_p1 r_p1_shapeNow u11.1 u10.2.1 u10.2.2.1 cI a_cache_media a_cache_stores a_cache_held a_cache_asked a_micros a_before a_after u11.2 a_tallies u10.2.2.2.1 u10.2.2.2.2.1 u10.2.2.2.2.2.1 u10.2.2.2.2.2.2) (wr := List.filterMap (fun i : Nat => (w_X4_step h_t h_p1 r_t r_cache r_p1 r_p1_shapeNow F_t u10.2.1 u10.2.2.1 cI a_cache_media a_cache_stores a_cache_held a_cache_asked a_micros a_before a_after a_waiting a_tallies u10.2.2.2.1 u10.2.2.2.2.1 u10.2.2.2.2.2.1 u10.2.2.2.2.2.2)[i]?) [1, 2, 3, 4, 5, 6, 7, 8, 10, 11, 12, 13, 14, 15, 16]) (z_rV (rest := []) hx hb hml hown hcx hl.1 (c_X4_takeWaiting l D cI h_t r_t F_t a_waiting u11 hu11 _) tl_X4_77 ti_X4_takeWaiting tz_X4_takeWaiting tn_X4 tc_X4_takeWaiting tm_X4_takeWaiting rfl rfl ⟨Nat.le_of_ble_eq_true rfl, Nat.le_of_ble_eq_true rfl⟩ hK hX hS hA hP hD [0, 9] rfl rfl 0 rfl rfl rfl rfl (Nat.le_of_ble_eq_true rfl) dX4_step_44 ⟨Nat.zero_le _, Nat.zero_le _⟩) hP hD hS hA [0, 9] [1, 2, 3, 4, 5, 6, 7, 8, 10, 11, 12, 13, 14, 15, 16] [15, 0, 1, 2, 3, 4, 5, 6, 7, 16, 8, 9, 10, 11, 12, 13, 14] rfl rfl rfl (by decide) rfl rfl (fun H locs hP hD hS => ?_)
              refine lv_iload_n hx hb dX4_step_47 rfl (lv_at hl 0 rfl) ?_
              refine z_if_eq (tgt := 59) hx hb dX4_step_48 (by decide) hf (fun hf => ?_) (fun hf => ?_)
              · refine lv_aload_n hx hb dX4_step_59 rfl (lv_at hl 1 rfl) ?_
                refine z_get (ci := 4) (C := RX4) (T := TX4) (N := 12) (v := .ref (r_t 11)) hx hb hts inT_X4 hown hK hP 0 rfl rfl 11 (by decide) tf_X4_50 rfl dX4_step_60 ?_
                refine lv_iconst (v := 1) hx hb dX4_step_63 (by decide) ?_
                refine lv_dup2_11 hx hb dX4_step_64 rfl rfl ?_
                refine z_iald hx hb hK hP 10 rfl dX4_step_65 hf (fun y12 hf => ?_)
                refine lv_iconst (v := 1) hx hb dX4_step_66 (by decide) ?_
                refine lv_iadd hx hb dX4_step_67 ?_
                refine z_iast hx hb hK hP hD hS 10 rfl (fun z => w_X4_step h_t h_p1 r_t r_cache r_p1 r_p1_shapeNow u11.1 u10.2.1 u10.2.2.1 cI a_cache_media a_cache_stores a_cache_held a_cache_asked a_micros a_before a_after u11.2 z u10.2.2.2.1 u10.2.2.2.2.1 u10.2.2.2.2.2.1 u10.2.2.2.2.2.2) (fun _ => rfl) dX4_step_68 hf (fun a13 H locs hf hP hD hS => ?_)
                exact L69 x2 u11.1 u10.2.1 u10.2.2.1 a_cache_media a_cache_stores a_cache_held a_cache_asked a_micros a_before a_after u11.2 a13 u10.2.2.2.1 u10.2.2.2.2.1 u10.2.2.2.2.2.1 u10.2.2.2.2.2.2 _ _ _ hf hP hD hS (lv_sub hl [1, 2, 3] rfl)
              · refine lv_aload_n hx hb dX4_step_51 rfl (lv_at hl 1 rfl) ?_
                refine lv_aload_n hx hb dX4_step_52 rfl (lv_at hl 2 rfl) ?_
                obtain ⟨u15, hu15, hf⟩ := bd_some hf
                refine z_cv (ws1 := w_X4_step h_t h_p1 r_t r_cache r_p1 r_p1_shapeNow u15.1 u10.2.1 u10.2.2.1 cI a_cache_media a_cache_stores a_cache_held a_cache_asked u15.2.1 a_before u15.2.2 u11.2 a_tallies u10.2.2.2.1 u10.2.2.2.2.1 u10.2.2.2.2.2.1 u10.2.2.2.2.2.2) (wr := List.filterMap (fun i : Nat => (w_X4_step h_t h_p1 r_t r_cache r_p1 r_p1_shapeNow u11.1 u10.2.1 u10.2.2.1 cI a_cache_media a_cache_stores a_cache_held a_cache_asked a_micros a_before a_after u11.2 a_tallies u10.2.2.2.1 u10.2.2.2.2.1 u10.2.2.2.2.2.1 u10.2.2.2.2.2.2)[i]?) [1, 2, 3, 4, 5, 7, 9, 10, 16]) (z_rV (rest := []) hx hb hml hown hcx hl.1 (c_X4_begin l D cI h_t h_p1 r_t r_p1 u11.1 u10.2.1 a_micros a_after u10.2.2.2.1 u10.2.2.2.2.1 u10.2.2.2.2.2.1 u10.2.2.2.2.2.2 u15 hu15 _) tl_X4_80 ti_X4_begin tz_X4_begin tn_X4 tc_X4_begin tm_X4_begin rfl rfl ⟨Nat.le_of_ble_eq_true rfl, Nat.le_of_ble_eq_true rfl⟩ hK hX hS hA hP hD [0, 6, 8, 11, 12, 13, 14, 15] rfl rfl 0 rfl rfl rfl rfl (Nat.le_of_ble_eq_true rfl) dX4_step_53 ⟨Nat.zero_le _, Nat.zero_le _⟩) hP hD hS hA [0, 6, 8, 11, 12, 13, 14, 15] [1, 2, 3, 4, 5, 7, 9, 10, 16] [9, 0, 1, 2, 3, 4, 10, 5, 11, 6, 7, 12, 13, 14, 15, 16, 8] rfl rfl rfl (by decide) rfl rfl (fun H locs hP hD hS => ?_)
                refine lv_goto (tgt := 69) hx hb dX4_step_56 (by decide) ?_
                exact L69 x2 u15.1 u10.2.1 u10.2.2.1 a_cache_media a_cache_stores a_cache_held a_cache_asked u15.2.1 a_before u15.2.2 u11.2 a_tallies u10.2.2.2.1 u10.2.2.2.2.1 u10.2.2.2.2.2.1 u10.2.2.2.2.2.2 _ _ _ hf hP hD hS (lv_sub hl [1, 2, 3] rfl)
  refine lv_iconst (v := 0) hx hb dX4_step_0 (by decide) ?_
  refine lv_istore_n (lv' := [(2, .int 0), (0, .ref h_t), (1, .ref h_p1)]) hx hb dX4_step_1 rfl hl (by decide) rfl (fun ls hl => ?_)
  exact L2 fuelN 0 F_t F_p1 F_p1_shapeNow a_cache_media a_cache_stores a_cache_held a_cache_asked a_micros a_before a_after a_waiting a_tallies a_p1_words a_p1_addresses a_p1_numbers a_p1_olds _ _ _ hf hP hD hS (lv_sub hl [1, 2, 0] rfl)
abbrev w_X11_isOrder (h_t : Nat) (r_t : Nat → Nat) (r_all : Nat → Nat) (r_all_machine : Nat → Nat) (r_all_machine_cache : Nat → Nat) (F_t : Nat → Int32) (F_all : Nat → Int32) (F_all_machine : Nat → Int32) (kq : Option Nat) (cI : ClassId) (a_all_machine_cache_held : Nat → Int32) : va_W := [(h_t, .inr (11, o_X11 r_t F_t kq)), ((r_t 3), .inr (0, o_X0 r_all F_all)), ((r_all 0), .inr (4, o_X4 r_all_machine F_all_machine)), ((r_all_machine 0), .inr (1, o_X1 r_all_machine_cache)), ((r_all_machine_cache 2), .inl (cI, 16, .inl a_all_machine_cache_held))]
abbrev rm_X11_isOrder : Room := { frames := 1, cells := 0, slots := 0, locals := 23 }
def m_X11_isOrder (a_all_machine_cache_held : Nat → Int32) (p1 : Int32) : Option (Int32) :=
  if p1 < 0 then (
  some 0)
  else (
  bd (m_X1_orderTotal a_all_machine_cache_held) fun u1 =>
  if 0 ≤ (lg_cmp p1.toInt64 u1) then (
  some 0)
  else (
  some 1))
set_option maxHeartbeats 4000000 in
set_option maxRecDepth 100000 in
theorem c_X11_isOrder (l : Launch) (D : va_G) (cI : ClassId) (h_t : Nat) (r_t : Nat → Nat) (r_all : Nat → Nat) (r_all_machine : Nat → Nat) (r_all_machine_cache : Nat → Nat) (F_t : Nat → Int32) (F_all : Nat → Int32) (F_all_machine : Nat → Int32) (kq : Option Nat) (a_all_machine_cache_held : Nat → Int32) (p1 : Int32) (Rr : Int32) (hf : m_X11_isOrder a_all_machine_cache_held p1 = some Rr) : CTi l yX11_isOrder (Cond.code yX11_isOrder cX11_isOrder 2 (some .boolean)) rm_X11_isOrder D cI [.ref h_t, .int p1] (w_X11_isOrder h_t r_t r_all r_all_machine r_all_machine_cache F_t F_all F_all_machine kq cI a_all_machine_cache_held) Rr (w_X11_isOrder h_t r_t r_all r_all_machine r_all_machine_cache F_t F_all F_all_machine kq cI a_all_machine_cache_held) := by
  refine z_begin_z (own := RX11) (ρ := Int32) (fun u => w_X11_isOrder h_t r_t r_all r_all_machine r_all_machine_cache F_t F_all F_all_machine kq cI a_all_machine_cache_held) (fun u => u) (by decide +kernel) rfl (Nat.le_of_ble_eq_true rfl) ?_
  intro p e s m args below meth c ls Q A hx hb hml hts hcx hown hK hX hA hP hD hS hl hret
  have hl : lv_has ls 2 [(0, .ref h_t), (1, .int p1)] := hl
  have hf := (m_X11_isOrder.eq_1 _ _).symm.trans hf
  refine lv_iload_n hx hb dX11_isOrder_0 rfl (lv_at hl 1 rfl) ?_
  refine z_if_lt (tgt := 27) hx hb dX11_isOrder_1 (by decide) hf (fun hf => ?_) (fun hf => ?_)
  · refine lv_iconst (v := 0) hx hb dX11_isOrder_27 (by decide) ?_
    exact hret 0 _ _ _ _ (Or.inl rfl) hf hP hD hS dX11_isOrder_28
  · refine lv_iload_n hx hb dX11_isOrder_4 rfl (lv_at hl 1 rfl) ?_
    refine lv_i2l hx hb dX11_isOrder_5 rfl ?_
    refine lv_aload_n hx hb dX11_isOrder_6 rfl (lv_at hl 0 rfl) ?_
    refine z_get (ci := 11) (C := RX11) (T := TX11) (N := 13) (v := .ref (r_t 3)) hx hb hts inT_X11 hown hK hP 0 rfl rfl 3 (by decide) tf_X11_23 rfl dX11_isOrder_7 ?_
    refine z_get (ci := 0) (C := RX0) (T := TX0) (N := 5) (v := .ref (r_all 0)) hx hb hts inT_X0 hown hK hP 1 rfl rfl 0 (by decide) tf_X11_112 rfl dX11_isOrder_10 ?_
    refine z_get (ci := 4) (C := RX4) (T := TX4) (N := 12) (v := .ref (r_all_machine 0)) hx hb hts inT_X4 hown hK hP 2 rfl rfl 0 (by decide) tf_X11_131 rfl dX11_isOrder_13 ?_
    obtain ⟨u1, hu1, hf⟩ := bd_some hf
    refine z_cl (ws1 := w_X11_isOrder h_t r_t r_all r_all_machine r_all_machine_cache F_t F_all F_all_machine kq cI a_all_machine_cache_held) (wr := List.filterMap (fun i : Nat => (w_X11_isOrder h_t r_t r_all r_all_machine r_all_machine_cache F_t F_all F_all_machine kq cI a_all_machine_cache_held)[i]?) [0, 1, 2]) (z_rV (rest := [.long p1.toInt64]) hx hb hml hown hcx hl.1 (c_X1_orderTotal l D cI (r_all_machine 0) r_all_machine_cache a_all_machine_cache_held u1 hu1 _) tl_X11_197 ti_X1_orderTotal tz_X1_orderTotal tn_X1 tc_X1_orderTotal tm_X1_orderTotal rfl rfl ⟨Nat.le_of_ble_eq_true rfl, Nat.le_of_ble_eq_true rfl⟩ hK hX hS hA hP hD [3, 4] rfl rfl 3 rfl rfl rfl rfl (Nat.le_of_ble_eq_true rfl) dX11_isOrder_16 ⟨Nat.zero_le _, Nat.zero_le _⟩) hP hD hS hA [3, 4] [0, 1, 2] [0, 1, 2, 3, 4] rfl rfl rfl (by decide) rfl rfl (fun H locs hP hD hS => ?_)
    refine W.lcmp hx hb dX11_isOrder_19 ?_
    refine z_if_ge (tgt := 27) hx hb dX11_isOrder_20 (by decide) hf (fun hf => ?_) (fun hf => ?_)
    · refine lv_iconst (v := 0) hx hb dX11_isOrder_27 (by decide) ?_
      exact hret 0 _ _ _ _ (Or.inl rfl) hf hP hD hS dX11_isOrder_28
    · refine lv_iconst (v := 1) hx hb dX11_isOrder_23 (by decide) ?_
      refine lv_goto (tgt := 28) hx hb dX11_isOrder_24 (by decide) ?_
      exact hret 1 _ _ _ _ (Or.inr rfl) hf hP hD hS dX11_isOrder_28
abbrev w_X9_raise (h_t : Nat) (h_p1 : Nat) (r_t : Nat → Nat) (r_p1 : Nat → Nat) (cI : ClassId) (a_row : Nat → Int32) (a_picture : Nat → Int32) (a_p1_stores : Nat → Int32) (a_p1_held : Nat → Int32) : va_W := [(h_t, .inr (9, o_X9 r_t)), ((r_t 0), .inl (cI, 16, .inl a_row)), ((r_t 1), .inl (cI, 64, .inl a_picture)), (h_p1, .inr (1, o_X1 r_p1)), ((r_p1 1), .inl (cI, 96, .inl a_p1_stores)), ((r_p1 2), .inl (cI, 16, .inl a_p1_held))]
abbrev rm_X9_raise : Room := { frames := 0, cells := 0, slots := 0, locals := 0 }
def m_X9_raise_w3 (a_p1_stores : Nat → Int32) (a_p1_held : Nat → Int32) (p2 : Int32) (p3 : Int32) : Nat → Int32 → (Nat → Int32) → (Nat → Int32) → Option ((Nat → Int32) × (Nat → Int32))
  | 0, _, _, _ => none
  | n3 + 1, x4, a_row, a_picture =>
    if p3 ≤ x4 then (
    some (a_row, a_picture))
    else (
    rd a_row 16 p2 fun y1 =>
    rd a_p1_held 16 p2 fun y2 =>
    if y2 ≤ y1 then (
    some (a_row, a_picture))
    else (
    rd a_row 16 p2 fun y3 =>
    rd a_p1_stores 96 ((p2 * 6) + y3) fun y4 =>
    wr a_picture 64 (y4 / 100) (y4 - y4 / 100 * 100) fun a5 =>
    rd a_row 16 p2 fun y6 =>
    wr a_row 16 p2 (y6 + 1) fun a7 =>
    nm (x4 + 1) fun v8 =>
    m_X9_raise_w3 a_p1_stores a_p1_held p2 p3 n3 v8 a7 a5))
def m_X9_raise (a_row : Nat → Int32) (a_picture : Nat → Int32) (a_p1_stores : Nat → Int32) (a_p1_held : Nat → Int32) (p2 : Int32) (p3 : Int32) : Option ((Nat → Int32) × (Nat → Int32)) :=
  m_X9_raise_w3 a_p1_stores a_p1_held p2 p3 fuelN 0 a_row a_picture
set_option maxHeartbeats 4000000 in
set_option maxRecDepth 100000 in
theorem c_X9_raise (l : Launch) (D : va_G) (cI : ClassId) (h_t : Nat) (h_p1 : Nat) (r_t : Nat → Nat) (r_p1 : Nat → Nat) (a_row : Nat → Int32) (a_picture : Nat → Int32) (a_p1_stores : Nat → Int32) (a_p1_held : Nat → Int32) (p2 : Int32) (p3 : Int32) (Rr : (Nat → Int32) × (Nat → Int32)) (hf : m_X9_raise a_row a_picture a_p1_stores a_p1_held p2 p3 = some Rr) : CTv l yX9_raise (Cond.code yX9_raise cX9_raise 6 none) rm_X9_raise D cI [.ref h_t, .ref h_p1, .int p2, .int p3] (w_X9_raise h_t h_p1 r_t r_p1 cI a_row a_picture a_p1_stores a_p1_held) (w_X9_raise h_t h_p1 r_t r_p1 cI Rr.1 Rr.2 a_p1_stores a_p1_held) := by
  refine z_begin_v (own := RX9) (ρ := (Nat → Int32) × (Nat → Int32)) (fun u => w_X9_raise h_t h_p1 r_t r_p1 cI u.1 u.2 a_p1_stores a_p1_held) (by decide +kernel) rfl (Nat.le_of_ble_eq_true rfl) ?_
  intro p e s m args below meth c ls Q A hx hb hml hts hcx hown hK hX hA hP hD hS hl hret
  have hl : lv_has ls 6 [(0, .ref h_t), (1, .ref h_p1), (2, .int p2), (3, .int p3)] := hl
  have hf := (m_X9_raise.eq_1 _ _ _ _ _ _).symm.trans hf
  have L3 : ∀ (n3 : Nat) (x4 : Int32) (a_row : Nat → Int32) (a_picture : Nat → Int32) (H : Heap) (locs : List Loc) (ls : Array Slot), m_X9_raise_w3 a_p1_stores a_p1_held p2 p3 n3 x4 a_row a_picture = some Rr → va_P D vwCl (w_X9_raise h_t h_p1 r_t r_p1 cI a_row a_picture a_p1_stores a_p1_held) H → va_D A (w_X9_raise h_t h_p1 r_t r_p1 cI a_row a_picture a_p1_stores a_p1_held) → va_S A s.heap H locs → lv_has ls 6 [(0, .ref h_t), (1, .ref h_p1), (2, .int p2), (3, .int p3), (4, .int x4)] → W p l e rm_X9_raise s m args below meth c H locs 0 0 Q (F0 m 3 ls []) := by
    intro n3
    induction n3 with
    | zero => intro x4 a_row a_picture H locs ls hf; cases (show (none : Option _) = some Rr from hf)
    | succ n3 ih3 =>
      intro x4 a_row a_picture H locs ls hf hP hD hS hl
      have hf := (m_X9_raise_w3.eq_2 _ _ _ _ _ _ _ _).symm.trans hf
      refine lv_iload hx hb dX9_raise_3 (lv_at hl 4 rfl) ?_
      refine lv_iload_n hx hb dX9_raise_5 rfl (lv_at hl 3 rfl) ?_
      refine z_icmp_ge (tgt := 73) hx hb dX9_raise_6 (by decide) hf (fun hf => ?_) (fun hf => ?_)
      · exact hret (a_row, a_picture) _ _ _ _ hf hP hD hS dX9_raise_73
      · refine lv_aload_n hx hb dX9_raise_9 rfl (lv_at hl 0 rfl) ?_
        refine z_get (ci := 9) (C := RX9) (T := TX9) (N := 3) (v := .ref (r_t 0)) hx hb hts inT_X9 hown hK hP 0 rfl rfl 0 (by decide) tf_X9_9 rfl dX9_raise_10 ?_
        refine lv_iload_n hx hb dX9_raise_13 rfl (lv_at hl 2 rfl) ?_
        refine z_iald hx hb hK hP 1 rfl dX9_raise_14 hf (fun y1 hf => ?_)
        refine lv_aload_n hx hb dX9_raise_15 rfl (lv_at hl 1 rfl) ?_
        refine z_get (ci := 1) (C := RX1) (T := TX1) (N := 4) (v := .ref (r_p1 2)) hx hb hts inT_X1 hown hK hP 3 rfl rfl 2 (by decide) tf_X9_42 rfl dX9_raise_16 ?_
        refine lv_iload_n hx hb dX9_raise_19 rfl (lv_at hl 2 rfl) ?_
        refine z_iald hx hb hK hP 5 rfl dX9_raise_20 hf (fun y2 hf => ?_)
        refine z_icmp_ge (tgt := 73) hx hb dX9_raise_21 (by decide) hf (fun hf => ?_) (fun hf => ?_)
        · exact hret (a_row, a_picture) _ _ _ _ hf hP hD hS dX9_raise_73
        · refine lv_aload_n hx hb dX9_raise_24 rfl (lv_at hl 1 rfl) ?_
          refine z_get (ci := 1) (C := RX1) (T := TX1) (N := 4) (v := .ref (r_p1 1)) hx hb hts inT_X1 hown hK hP 3 rfl rfl 1 (by decide) tf_X9_49 rfl dX9_raise_25 ?_
          refine lv_iload_n hx hb dX9_raise_28 rfl (lv_at hl 2 rfl) ?_
          refine lv_bipush (v := 6) hx hb dX9_raise_29 (by decide) ?_
          refine lv_imul hx hb dX9_raise_31 ?_
          refine lv_aload_n hx hb dX9_raise_32 rfl (lv_at hl 0 rfl) ?_
          refine z_get (ci := 9) (C := RX9) (T := TX9) (N := 3) (v := .ref (r_t 0)) hx hb hts inT_X9 hown hK hP 0 rfl rfl 0 (by decide) tf_X9_9 rfl dX9_raise_33 ?_
          refine lv_iload_n hx hb dX9_raise_36 rfl (lv_at hl 2 rfl) ?_
          refine z_iald hx hb hK hP 1 rfl dX9_raise_37 hf (fun y3 hf => ?_)
          refine lv_iadd hx hb dX9_raise_38 ?_
          refine z_iald hx hb hK hP 4 rfl dX9_raise_39 hf (fun y4 hf => ?_)
          refine lv_istore (lv' := [(5, .int y4), (0, .ref h_t), (1, .ref h_p1), (2, .int p2), (3, .int p3), (4, .int x4)]) hx hb dX9_raise_40 hl (by decide) rfl (fun ls hl => ?_)
          refine lv_aload_n hx hb dX9_raise_42 rfl (lv_at hl 1 rfl) ?_
          refine z_get (ci := 9) (C := RX9) (T := TX9) (N := 3) (v := .ref (r_t 1)) hx hb hts inT_X9 hown hK hP 0 rfl rfl 1 (by decide) tf_X9_15 rfl dX9_raise_43 ?_
          refine lv_iload hx hb dX9_raise_46 (lv_at hl 0 rfl) ?_
          refine lv_bipush (v := 100) hx hb dX9_raise_48 (by decide) ?_
          refine lv_idiv hx hb dX9_raise_50 (by decide) ?_
          refine lv_iload hx hb dX9_raise_51 (lv_at hl 0 rfl) ?_
          refine lv_bipush (v := 100) hx hb dX9_raise_53 (by decide) ?_
          refine lv_irem hx hb dX9_raise_55 (by decide) ?_
          refine z_iast hx hb hK hP hD hS 2 rfl (fun z => w_X9_raise h_t h_p1 r_t r_p1 cI a_row z a_p1_stores a_p1_held) (fun _ => rfl) dX9_raise_56 hf (fun a5 H locs hf hP hD hS => ?_)
          refine lv_aload_n hx hb dX9_raise_57 rfl (lv_at hl 1 rfl) ?_
          refine z_get (ci := 9) (C := RX9) (T := TX9) (N := 3) (v := .ref (r_t 0)) hx hb hts inT_X9 hown hK hP 0 rfl rfl 0 (by decide) tf_X9_9 rfl dX9_raise_58 ?_
          refine lv_iload_n hx hb dX9_raise_61 rfl (lv_at hl 3 rfl) ?_
          refine lv_dup2_11 hx hb dX9_raise_62 rfl rfl ?_
          refine z_iald hx hb hK hP 1 rfl dX9_raise_63 hf (fun y6 hf => ?_)
          refine lv_iconst (v := 1) hx hb dX9_raise_64 (by decide) ?_
          refine lv_iadd hx hb dX9_raise_65 ?_
          refine z_iast hx hb hK hP hD hS 1 rfl (fun z => w_X9_raise h_t h_p1 r_t r_p1 cI z a5 a_p1_stores a_p1_held) (fun _ => rfl) dX9_raise_66 hf (fun a7 H locs hf hP hD hS => ?_)
          refine z_iinc (k0 := 5) (fun z => [(4, .int z), (5, .int y4), (0, .ref h_t), (1, .ref h_p1), (2, .int p2), (3, .int p3)]) hx hb dX9_raise_67 hl rfl (by decide) (by decide) (fun _ => rfl) hf (fun v8 ls hf hl => ?_)
          refine lv_goto (tgt := 3) hx hb dX9_raise_70 (by decide) ?_
          exact ih3 v8 a7 a5 _ _ _ hf hP hD hS (lv_sub hl [2, 3, 4, 5, 0] rfl)
  refine lv_iconst (v := 0) hx hb dX9_raise_0 (by decide) ?_
  refine lv_istore (lv' := [(4, .int 0), (0, .ref h_t), (1, .ref h_p1), (2, .int p2), (3, .int p3)]) hx hb dX9_raise_1 hl (by decide) rfl (fun ls hl => ?_)
  exact L3 fuelN 0 a_row a_picture _ _ _ hf hP hD hS (lv_sub hl [1, 2, 3, 4, 0] rfl)
abbrev w_X9_open (h_t : Nat) (h_p1 : Nat) (r_t : Nat → Nat) (r_p1 : Nat → Nat) (cI : ClassId) (a_row : Nat → Int32) (a_picture : Nat → Int32) (a_p1_media : Nat → Int32) (a_p1_stores : Nat → Int32) (a_p1_held : Nat → Int32) : va_W := [(h_t, .inr (9, o_X9 r_t)), ((r_t 0), .inl (cI, 16, .inl a_row)), ((r_t 1), .inl (cI, 64, .inl a_picture)), (h_p1, .inr (1, o_X1 r_p1)), ((r_p1 0), .inl (cI, 64, .inl a_p1_media)), ((r_p1 1), .inl (cI, 96, .inl a_p1_stores)), ((r_p1 2), .inl (cI, 16, .inl a_p1_held))]
abbrev rm_X9_open : Room := { frames := 2, cells := 0, slots := 0, locals := 61 }
def m_X9_open_w11 (a_p1_media : Nat → Int32) (a_p1_stores : Nat → Int32) (a_p1_held : Nat → Int32) (p2 : Int32) : Nat → Int32 → Int32 → (Nat → Int32) → (Nat → Int32) → Option ((Nat → Int32) × (Nat → Int32))
  | 0, _, _, _, _ => none
  | n11 + 1, x3, x4, a_row, a_picture =>
    if x4 < 0 then (
    some (a_row, a_picture))
    else (
    rd a_p1_held 16 x4 fun y2 =>
    nm (y2 + 1) fun v3 =>
    dz v3 (
    bd (m_X9_raise a_row a_picture a_p1_stores a_p1_held x4 (x3 - x3 / v3 * v3)) fun u4 =>
    dz v3 (
    nm (x3 / v3) fun v5 =>
    nm (x4 + (-1)) fun v6 =>
    m_X9_open_w11 a_p1_media a_p1_stores a_p1_held p2 n11 v5 v6 u4.1 u4.2)))
def m_X9_open (a_row : Nat → Int32) (a_picture : Nat → Int32) (a_p1_media : Nat → Int32) (a_p1_stores : Nat → Int32) (a_p1_held : Nat → Int32) (p2 : Int32) : Option ((Nat → Int32) × (Nat → Int32)) :=
  bd (m_X9_start a_row a_picture a_p1_media) fun u1 =>
  m_X9_open_w11 a_p1_media a_p1_stores a_p1_held p2 fuelN p2 15 u1.1 u1.2
set_option maxHeartbeats 4000000 in
set_option maxRecDepth 100000 in
theorem c_X9_open (l : Launch) (D : va_G) (cI : ClassId) (h_t : Nat) (h_p1 : Nat) (r_t : Nat → Nat) (r_p1 : Nat → Nat) (a_row : Nat → Int32) (a_picture : Nat → Int32) (a_p1_media : Nat → Int32) (a_p1_stores : Nat → Int32) (a_p1_held : Nat → Int32) (p2 : Int32) (Rr : (Nat → Int32) × (Nat → Int32)) (hf : m_X9_open a_row a_picture a_p1_media a_p1_stores a_p1_held p2 = some Rr) : CTv l yX9_open (Cond.code yX9_open cX9_open 6 none) rm_X9_open D cI [.ref h_t, .ref h_p1, .int p2] (w_X9_open h_t h_p1 r_t r_p1 cI a_row a_picture a_p1_media a_p1_stores a_p1_held) (w_X9_open h_t h_p1 r_t r_p1 cI Rr.1 Rr.2 a_p1_media a_p1_stores a_p1_held) := by
  refine z_begin_v (own := RX9) (ρ := (Nat → Int32) × (Nat → Int32)) (fun u => w_X9_open h_t h_p1 r_t r_p1 cI u.1 u.2 a_p1_media a_p1_stores a_p1_held) (by decide +kernel) rfl (Nat.le_of_ble_eq_true rfl) ?_
  intro p e s m args below meth c ls Q A hx hb hml hts hcx hown hK hX hA hP hD hS hl hret
  have hl : lv_has ls 6 [(0, .ref h_t), (1, .ref h_p1), (2, .int p2)] := hl
  have hf := (m_X9_open.eq_1 _ _ _ _ _ _).symm.trans hf
  have L11 : ∀ (n11 : Nat) (x3 : Int32) (x4 : Int32) (a_row : Nat → Int32) (a_picture : Nat → Int32) (H : Heap) (locs : List Loc) (ls : Array Slot), m_X9_open_w11 a_p1_media a_p1_stores a_p1_held p2 n11 x3 x4 a_row a_picture = some Rr → va_P D vwCl (w_X9_open h_t h_p1 r_t r_p1 cI a_row a_picture a_p1_media a_p1_stores a_p1_held) H → va_D A (w_X9_open h_t h_p1 r_t r_p1 cI a_row a_picture a_p1_media a_p1_stores a_p1_held) → va_S A s.heap H locs → lv_has ls 6 [(0, .ref h_t), (1, .ref h_p1), (3, .int x3), (4, .int x4)] → W p l e rm_X9_open s m args below meth c H locs 0 0 Q (F0 m 11 ls []) := by
    intro n11
    induction n11 with
    | zero => intro x3 x4 a_row a_picture H locs ls hf; cases (show (none : Option _) = some Rr from hf)
    | succ n11 ih11 =>
      intro x3 x4 a_row a_picture H locs ls hf hP hD hS hl
      have hf := (m_X9_open_w11.eq_2 _ _ _ _ _ _ _ _ _).symm.trans hf
      refine lv_iload hx hb dX9_open_11 (lv_at hl 3 rfl) ?_
      refine z_if_lt (tgt := 49) hx hb dX9_open_13 (by decide) hf (fun hf => ?_) (fun hf => ?_)
      · exact hret (a_row, a_picture) _ _ _ _ hf hP hD hS dX9_open_49
      · refine lv_aload_n hx hb dX9_open_16 rfl (lv_at hl 1 rfl) ?_
        refine z_get (ci := 1) (C := RX1) (T := TX1) (N := 4) (v := .ref (r_p1 2)) hx hb hts inT_X1 hown hK hP 3 rfl rfl 2 (by decide) tf_X9_42 rfl dX9_open_17 ?_
        refine lv_iload hx hb dX9_open_20 (lv_at hl 3 rfl) ?_
        refine z_iald hx hb hK hP 6 rfl dX9_open_22 hf (fun y2 hf => ?_)
        refine lv_iconst (v := 1) hx hb dX9_open_23 (by decide) ?_
        refine lv_iadd hx hb dX9_open_24 ?_
        refine z_istore (fun z => [(5, .int z), (0, .ref h_t), (1, .ref h_p1), (3, .int x3), (4, .int x4)]) hx hb dX9_open_25 hl (by decide) (fun _ => rfl) hf (fun v3 ls hf hl => ?_)
        refine lv_aload_n hx hb dX9_open_27 rfl (lv_at hl 1 rfl) ?_
        refine lv_aload_n hx hb dX9_open_28 rfl (lv_at hl 2 rfl) ?_
        refine lv_iload hx hb dX9_open_29 (lv_at hl 4 rfl) ?_
        refine lv_iload_n hx hb dX9_open_31 rfl (lv_at hl 3 rfl) ?_
        refine lv_iload hx hb dX9_open_32 (lv_at hl 0 rfl) ?_
        refine z_irem hx hb dX9_open_34 hf (fun hf => ?_)
        obtain ⟨u4, hu4, hf⟩ := bd_some hf
        refine z_cv (ws1 := w_X9_open h_t h_p1 r_t r_p1 cI u4.1 u4.2 a_p1_media a_p1_stores a_p1_held) (wr := List.filterMap (fun i : Nat => (w_X9_open h_t h_p1 r_t r_p1 cI a_row a_picture a_p1_media a_p1_stores a_p1_held)[i]?) [4]) (z_rV (rest := []) hx hb hml hown hcx hl.1 (c_X9_raise l D cI h_t h_p1 r_t r_p1 a_row a_picture a_p1_stores a_p1_held x4 (x3 - x3 / v3 * v3) u4 hu4 _) tl_X9_45 ti_X9_raise tz_X9_raise tn_X9 tc_X9_raise tm_X9_raise rfl rfl ⟨Nat.le_of_ble_eq_true rfl, Nat.le_of_ble_eq_true rfl⟩ hK hX hS hA hP hD [0, 1, 2, 3, 5, 6] rfl rfl 0 rfl rfl rfl rfl (Nat.le_of_ble_eq_true rfl) dX9_open_35 ⟨Nat.zero_le _, Nat.zero_le _⟩) hP hD hS hA [0, 1, 2, 3, 5, 6] [4] [1, 2, 3, 4, 0, 5, 6] rfl rfl rfl (by decide) rfl rfl (fun H locs hP hD hS => ?_)
        refine lv_iload_n hx hb dX9_open_38 rfl (lv_at hl 3 rfl) ?_
        refine lv_iload hx hb dX9_open_39 (lv_at hl 0 rfl) ?_
        refine z_idiv hx hb dX9_open_41 hf (fun hf => ?_)
        refine z_istore_n (fun z => [(3, .int z), (5, .int v3), (0, .ref h_t), (1, .ref h_p1), (4, .int x4)]) hx hb dX9_open_42 rfl hl (by decide) (fun _ => rfl) hf (fun v5 ls hf hl => ?_)
        refine z_iinc (k0 := 4) (fun z => [(4, .int z), (3, .int v5), (5, .int v3), (0, .ref h_t), (1, .ref h_p1)]) hx hb dX9_open_43 hl rfl (by decide) (by decide) (fun _ => rfl) hf (fun v6 ls hf hl => ?_)
        refine lv_goto (tgt := 11) hx hb dX9_open_46 (by decide) ?_
        exact ih11 v5 v6 u4.1 u4.2 _ _ _ hf hP hD hS (lv_sub hl [3, 4, 1, 0] rfl)
  refine lv_aload_n hx hb dX9_open_0 rfl (lv_at hl 0 rfl) ?_
  refine lv_aload_n hx hb dX9_open_1 rfl (lv_at hl 1 rfl) ?_
  obtain ⟨u1, hu1, hf⟩ := bd_some hf
  refine z_cv (ws1 := w_X9_open h_t h_p1 r_t r_p1 cI u1.1 u1.2 a_p1_media a_p1_stores a_p1_held) (wr := List.filterMap (fun i : Nat => (w_X9_open h_t h_p1 r_t r_p1 cI a_row a_picture a_p1_media a_p1_stores a_p1_held)[i]?) [5, 6]) (z_rV (rest := []) hx hb hml hown hcx hl.1 (c_X9_start l D cI h_t h_p1 r_t r_p1 a_row a_picture a_p1_media u1 hu1 _) tl_X9_38 ti_X9_start tz_X9_start tn_X9 tc_X9_start tm_X9_start rfl rfl ⟨Nat.le_of_ble_eq_true rfl, Nat.le_of_ble_eq_true rfl⟩ hK hX hS hA hP hD [0, 1, 2, 3, 4] rfl rfl 0 rfl rfl rfl rfl (Nat.le_of_ble_eq_true rfl) dX9_open_2 ⟨Nat.zero_le _, Nat.zero_le _⟩) hP hD hS hA [0, 1, 2, 3, 4] [5, 6] [2, 3, 4, 5, 6, 0, 1] rfl rfl rfl (by decide) rfl rfl (fun H locs hP hD hS => ?_)
  refine lv_iload_n hx hb dX9_open_5 rfl (lv_at hl 2 rfl) ?_
  refine lv_istore_n (lv' := [(3, .int p2), (0, .ref h_t), (1, .ref h_p1), (2, .int p2)]) hx hb dX9_open_6 rfl hl (by decide) rfl (fun ls hl => ?_)
  refine lv_bipush (v := 15) hx hb dX9_open_7 (by decide) ?_
  refine lv_istore (lv' := [(4, .int 15), (3, .int p2), (0, .ref h_t), (1, .ref h_p1), (2, .int p2)]) hx hb dX9_open_9 hl (by decide) rfl (fun ls hl => ?_)
  exact L11 fuelN p2 15 u1.1 u1.2 _ _ _ hf hP hD hS (lv_sub hl [2, 3, 1, 0] rfl)
abbrev w_X9_fateBy (h_t : Nat) (h_p1 : Nat) (r_t : Nat → Nat) (r_p1 : Nat → Nat) (F_p1 : Nat → Int32) (cI : ClassId) (a_picture : Nat → Int32) (a_settled : Nat → Int32) (a_p1_before : Nat → Int32) (a_p1_after : Nat → Int32) : va_W := [(h_t, .inr (9, o_X9 r_t)), ((r_t 1), .inl (cI, 64, .inl a_picture)), ((r_t 2), .inl (cI, 64, .inl a_settled)), (h_p1, .inr (4, o_X4 r_p1 F_p1)), ((r_p1 4), .inl (cI, 44, .inl a_p1_before)), ((r_p1 5), .inl (cI, 44, .inl a_p1_after))]
abbrev rm_X9_fateBy : Room := { frames := 3, cells := 0, slots := 0, locals := 67 }
def m_X9_fateBy_j92 (F_p1 : Nat → Int32) (a_picture : Nat → Int32) (a_p1_before : Nat → Int32) (a_p1_after : Nat → Int32) (x2 : Int32) (x3 : Int32) (a_settled : Nat → Int32) : Option (Int32 × (Nat → Int32)) :=
  if x2 = 0 then (
  if x3 = 0 then (
  some (3, a_settled))
  else (
  some (1, a_settled)))
  else (
  if x3 = 0 then (
  some (0, a_settled))
  else (
  some (2, a_settled)))
def m_X9_fateBy_j85 (F_p1 : Nat → Int32) (a_picture : Nat → Int32) (a_p1_before : Nat → Int32) (a_p1_after : Nat → Int32) (k15 : Int32 → Int32 → Int32 → (Nat → Int32) → Option (Int32 × (Nat → Int32))) (x2 : Int32) (x4 : Int32) (s0 : Int32) (a_settled : Nat → Int32) : Option (Int32 × (Nat → Int32)) :=
  nm (x4 + 1) fun v3 =>
  k15 x2 s0 v3 a_settled
def m_X9_fateBy_j84 (F_p1 : Nat → Int32) (a_picture : Nat → Int32) (a_p1_before : Nat → Int32) (a_p1_after : Nat → Int32) (k15 : Int32 → Int32 → Int32 → (Nat → Int32) → Option (Int32 × (Nat → Int32))) (x2 : Int32) (x4 : Int32) (a_settled : Nat → Int32) : Option (Int32 × (Nat → Int32)) :=
  m_X9_fateBy_j85 F_p1 a_picture a_p1_before a_p1_after k15 x2 x4 0 a_settled
def m_X9_fateBy_j63 (F_p1 : Nat → Int32) (a_picture : Nat → Int32) (a_p1_before : Nat → Int32) (a_p1_after : Nat → Int32) (k15 : Int32 → Int32 → Int32 → (Nat → Int32) → Option (Int32 × (Nat → Int32))) (x3 : Int32) (x4 : Int32) (x5 : Int32) (s0 : Int32) (a_settled : Nat → Int32) : Option (Int32 × (Nat → Int32)) :=
  if x3 = 0 then (
  m_X9_fateBy_j84 F_p1 a_picture a_p1_before a_p1_after k15 s0 x4 a_settled)
  else (
  rd a_p1_after 44 x4 fun y4 =>
  if x5 = y4 then (
  m_X9_fateBy_j85 F_p1 a_picture a_p1_before a_p1_after k15 s0 x4 1 a_settled)
  else (
  m_X9_fateBy_j84 F_p1 a_picture a_p1_before a_p1_after k15 s0 x4 a_settled))
def m_X9_fateBy_j62 (F_p1 : Nat → Int32) (a_picture : Nat → Int32) (a_p1_before : Nat → Int32) (a_p1_after : Nat → Int32) (k15 : Int32 → Int32 → Int32 → (Nat → Int32) → Option (Int32 × (Nat → Int32))) (x3 : Int32) (x4 : Int32) (x5 : Int32) (a_settled : Nat → Int32) : Option (Int32 × (Nat → Int32)) :=
  m_X9_fateBy_j63 F_p1 a_picture a_p1_before a_p1_after k15 x3 x4 x5 0 a_settled
def m_X9_fateBy_j30 (F_p1 : Nat → Int32) (a_picture : Nat → Int32) (a_p1_before : Nat → Int32) (a_p1_after : Nat → Int32) (k15 : Int32 → Int32 → Int32 → (Nat → Int32) → Option (Int32 × (Nat → Int32))) (x2 : Int32) (x3 : Int32) (x4 : Int32) (a_settled : Nat → Int32) : Option (Int32 × (Nat → Int32)) :=
  rd a_settled 64 (20 + x4) fun y2 =>
  if x2 = 0 then (
  m_X9_fateBy_j62 F_p1 a_picture a_p1_before a_p1_after k15 x3 x4 y2 a_settled)
  else (
  rd a_p1_before 44 x4 fun y5 =>
  if y2 = y5 then (
  m_X9_fateBy_j63 F_p1 a_picture a_p1_before a_p1_after k15 x3 x4 y2 1 a_settled)
  else (
  m_X9_fateBy_j62 F_p1 a_picture a_p1_before a_p1_after k15 x3 x4 y2 a_settled))
def m_X9_fateBy_w15 (F_p1 : Nat → Int32) (a_picture : Nat → Int32) (a_p1_before : Nat → Int32) (a_p1_after : Nat → Int32) (k92 : Int32 → Int32 → (Nat → Int32) → Option (Int32 × (Nat → Int32))) : Nat → Int32 → Int32 → Int32 → (Nat → Int32) → Option (Int32 × (Nat → Int32))
  | 0, _, _, _, _ => none
  | n15 + 1, x2, x3, x4, a_settled =>
    if 44 ≤ x4 then (
    k92 x2 x3 a_settled)
    else (
    if x2 = 0 then (
    if x3 = 0 then (
    k92 x2 x3 a_settled)
    else (
    m_X9_fateBy_j30 F_p1 a_picture a_p1_before a_p1_after (m_X9_fateBy_w15 F_p1 a_picture a_p1_before a_p1_after k92 n15) x2 x3 x4 a_settled))
    else (
    m_X9_fateBy_j30 F_p1 a_picture a_p1_before a_p1_after (m_X9_fateBy_w15 F_p1 a_picture a_p1_before a_p1_after k92 n15) x2 x3 x4 a_settled))
def m_X9_fateBy (F_p1 : Nat → Int32) (a_picture : Nat → Int32) (a_settled : Nat → Int32) (a_p1_before : Nat → Int32) (a_p1_after : Nat → Int32) : Option (Int32 × (Nat → Int32)) :=
  bd (m_X9_recoverPicture a_picture a_settled (F_p1 9)) fun u1 =>
  m_X9_fateBy_w15 F_p1 a_picture a_p1_before a_p1_after (m_X9_fateBy_j92 F_p1 a_picture a_p1_before a_p1_after) fuelN 1 1 0 u1
set_option maxHeartbeats 4000000 in
set_option maxRecDepth 100000 in
theorem c_X9_fateBy (l : Launch) (D : va_G) (cI : ClassId) (h_t : Nat) (h_p1 : Nat) (r_t : Nat → Nat) (r_p1 : Nat → Nat) (F_p1 : Nat → Int32) (a_picture : Nat → Int32) (a_settled : Nat → Int32) (a_p1_before : Nat → Int32) (a_p1_after : Nat → Int32) (Rr : Int32 × (Nat → Int32)) (hf : m_X9_fateBy F_p1 a_picture a_settled a_p1_before a_p1_after = some Rr) : CTi l yX9_fateBy (Cond.code yX9_fateBy cX9_fateBy 6 (some .int)) rm_X9_fateBy D cI [.ref h_t, .ref h_p1] (w_X9_fateBy h_t h_p1 r_t r_p1 F_p1 cI a_picture a_settled a_p1_before a_p1_after) Rr.1 (w_X9_fateBy h_t h_p1 r_t r_p1 F_p1 cI a_picture Rr.2 a_p1_before a_p1_after) := by
  refine z_begin_i (own := RX9) (ρ := Int32 × (Nat → Int32)) (fun u => w_X9_fateBy h_t h_p1 r_t r_p1 F_p1 cI a_picture u.2 a_p1_before a_p1_after) (fun u => u.1) (by decide +kernel) rfl (Nat.le_of_ble_eq_true rfl) ?_
  intro p e s m args below meth c ls Q A hx hb hml hts hcx hown hK hX hA hP hD hS hl hret
  have hl : lv_has ls 6 [(0, .ref h_t), (1, .ref h_p1)] := hl
  have hf := (m_X9_fateBy.eq_1 _ _ _ _ _).symm.trans hf
  have L92 : ∀ (x2 : Int32) (x3 : Int32) (a_settled : Nat → Int32) (H : Heap) (locs : List Loc) (ls : Array Slot), m_X9_fateBy_j92 F_p1 a_picture a_p1_before a_p1_after x2 x3 a_settled = some Rr → va_P D vwCl (w_X9_fateBy h_t h_p1 r_t r_p1 F_p1 cI a_picture a_settled a_p1_before a_p1_after) H → va_D A (w_X9_fateBy h_t h_p1 r_t r_p1 F_p1 cI a_picture a_settled a_p1_before a_p1_after) → va_S A s.heap H locs → lv_has ls 6 [(2, .int x2), (3, .int x3)] → W p l e rm_X9_fateBy s m args below meth c H locs 0 0 Q (F0 m 92 ls []) := by
    intro x2 x3 a_settled H locs ls hf hP hD hS hl
    have hf := (m_X9_fateBy_j92.eq_1 _ _ _ _ _ _ _).symm.trans hf
    refine lv_iload_n hx hb dX9_fateBy_92 rfl (lv_at hl 0 rfl) ?_
    refine z_if_eq (tgt := 106) hx hb dX9_fateBy_93 (by decide) hf (fun hf => ?_) (fun hf => ?_)
    · refine lv_iload_n hx hb dX9_fateBy_106 rfl (lv_at hl 1 rfl) ?_
      refine z_if_eq (tgt := 114) hx hb dX9_fateBy_107 (by decide) hf (fun hf => ?_) (fun hf => ?_)
      · refine lv_iconst (v := 3) hx hb dX9_fateBy_114 (by decide) ?_
        exact hret (3, a_settled) _ _ _ _ hf hP hD hS dX9_fateBy_115
      · refine lv_iconst (v := 1) hx hb dX9_fateBy_110 (by decide) ?_
        refine lv_goto (tgt := 115) hx hb dX9_fateBy_111 (by decide) ?_
        exact hret (1, a_settled) _ _ _ _ hf hP hD hS dX9_fateBy_115
    · refine lv_iload_n hx hb dX9_fateBy_96 rfl (lv_at hl 1 rfl) ?_
      refine z_if_eq (tgt := 104) hx hb dX9_fateBy_97 (by decide) hf (fun hf => ?_) (fun hf => ?_)
      · refine lv_iconst (v := 0) hx hb dX9_fateBy_104 (by decide) ?_
        exact hret (0, a_settled) _ _ _ _ hf hP hD hS dX9_fateBy_105
      · refine lv_iconst (v := 2) hx hb dX9_fateBy_100 (by decide) ?_
        refine lv_goto (tgt := 105) hx hb dX9_fateBy_101 (by decide) ?_
        exact hret (2, a_settled) _ _ _ _ hf hP hD hS dX9_fateBy_105
  have L15 : ∀ (n15 : Nat) (x2 : Int32) (x3 : Int32) (x4 : Int32) (a_settled : Nat → Int32) (H : Heap) (locs : List Loc) (ls : Array Slot), m_X9_fateBy_w15 F_p1 a_picture a_p1_before a_p1_after (m_X9_fateBy_j92 F_p1 a_picture a_p1_before a_p1_after) n15 x2 x3 x4 a_settled = some Rr → va_P D vwCl (w_X9_fateBy h_t h_p1 r_t r_p1 F_p1 cI a_picture a_settled a_p1_before a_p1_after) H → va_D A (w_X9_fateBy h_t h_p1 r_t r_p1 F_p1 cI a_picture a_settled a_p1_before a_p1_after) → va_S A s.heap H locs → lv_has ls 6 [(0, .ref h_t), (1, .ref h_p1), (2, .int x2), (3, .int x3), (4, .int x4)] → W p l e rm_X9_fateBy s m args below meth c H locs 0 0 Q (F0 m 15 ls []) := by
    intro n15
    induction n15 with
    | zero => intro x2 x3 x4 a_settled H locs ls hf; cases (show (none : Option _) = some Rr from hf)
    | succ n15 ih15 =>
      intro x2 x3 x4 a_settled H locs ls hf hP hD hS hl
      have hf := (m_X9_fateBy_w15.eq_2 _ _ _ _ _ _ _ _ _ _).symm.trans hf
      have L85 : ∀ (x2 : Int32) (x4 : Int32) (s0 : Int32) (a_settled : Nat → Int32) (H : Heap) (locs : List Loc) (ls : Array Slot), m_X9_fateBy_j85 F_p1 a_picture a_p1_before a_p1_after (m_X9_fateBy_w15 F_p1 a_picture a_p1_before a_p1_after (m_X9_fateBy_j92 F_p1 a_picture a_p1_before a_p1_after) n15) x2 x4 s0 a_settled = some Rr → va_P D vwCl (w_X9_fateBy h_t h_p1 r_t r_p1 F_p1 cI a_picture a_settled a_p1_before a_p1_after) H → va_D A (w_X9_fateBy h_t h_p1 r_t r_p1 F_p1 cI a_picture a_settled a_p1_before a_p1_after) → va_S A s.heap H locs → lv_has ls 6 [(0, .ref h_t), (1, .ref h_p1), (2, .int x2), (4, .int x4)] → W p l e rm_X9_fateBy s m args below meth c H locs 0 0 Q (F0 m 85 ls [.int s0]) := by
        intro x2 x4 s0 a_settled H locs ls hf hP hD hS hl
        have hf := (m_X9_fateBy_j85.eq_1 _ _ _ _ _ _ _ _ _).symm.trans hf
        refine lv_istore_n (lv' := [(3, .int s0), (0, .ref h_t), (1, .ref h_p1), (2, .int x2), (4, .int x4)]) hx hb dX9_fateBy_85 rfl hl (by decide) rfl (fun ls hl => ?_)
        refine z_iinc (k0 := 4) (fun z => [(4, .int z), (3, .int s0), (0, .ref h_t), (1, .ref h_p1), (2, .int x2)]) hx hb dX9_fateBy_86 hl rfl (by decide) (by decide) (fun _ => rfl) hf (fun v3 ls hf hl => ?_)
        refine lv_goto (tgt := 15) hx hb dX9_fateBy_89 (by decide) ?_
        exact ih15 x2 s0 v3 a_settled _ _ _ hf hP hD hS (lv_sub hl [2, 3, 4, 1, 0] rfl)
      have L84 : ∀ (x2 : Int32) (x4 : Int32) (a_settled : Nat → Int32) (H : Heap) (locs : List Loc) (ls : Array Slot), m_X9_fateBy_j84 F_p1 a_picture a_p1_before a_p1_after (m_X9_fateBy_w15 F_p1 a_picture a_p1_before a_p1_after (m_X9_fateBy_j92 F_p1 a_picture a_p1_before a_p1_after) n15) x2 x4 a_settled = some Rr → va_P D vwCl (w_X9_fateBy h_t h_p1 r_t r_p1 F_p1 cI a_picture a_settled a_p1_before a_p1_after) H → va_D A (w_X9_fateBy h_t h_p1 r_t r_p1 F_p1 cI a_picture a_settled a_p1_before a_p1_after) → va_S A s.heap H locs → lv_has ls 6 [(0, .ref h_t), (1, .ref h_p1), (2, .int x2), (4, .int x4)] → W p l e rm_X9_fateBy s m args below meth c H locs 0 0 Q (F0 m 84 ls []) := by
        intro x2 x4 a_settled H locs ls hf hP hD hS hl
        have hf := (m_X9_fateBy_j84.eq_1 _ _ _ _ _ _ _ _).symm.trans hf
        refine lv_iconst (v := 0) hx hb dX9_fateBy_84 (by decide) ?_
        exact L85 x2 x4 0 a_settled _ _ _ hf hP hD hS (lv_sub hl [0, 1, 2, 3] rfl)
      have L63 : ∀ (x3 : Int32) (x4 : Int32) (x5 : Int32) (s0 : Int32) (a_settled : Nat → Int32) (H : Heap) (locs : List Loc) (ls : Array Slot), m_X9_fateBy_j63 F_p1 a_picture a_p1_before a_p1_after (m_X9_fateBy_w15 F_p1 a_picture a_p1_before a_p1_after (m_X9_fateBy_j92 F_p1 a_picture a_p1_before a_p1_after) n15) x3 x4 x5 s0 a_settled = some Rr → va_P D vwCl (w_X9_fateBy h_t h_p1 r_t r_p1 F_p1 cI a_picture a_settled a_p1_before a_p1_after) H → va_D A (w_X9_fateBy h_t h_p1 r_t r_p1 F_p1 cI a_picture a_settled a_p1_before a_p1_after) → va_S A s.heap H locs → lv_has ls 6 [(0, .ref h_t), (1, .ref h_p1), (3, .int x3), (4, .int x4), (5, .int x5)] → W p l e rm_X9_fateBy s m args below meth c H locs 0 0 Q (F0 m 63 ls [.int s0]) := by
        intro x3 x4 x5 s0 a_settled H locs ls hf hP hD hS hl
        have hf := (m_X9_fateBy_j63.eq_1 _ _ _ _ _ _ _ _ _ _).symm.trans hf
        refine lv_istore_n (lv' := [(2, .int s0), (0, .ref h_t), (1, .ref h_p1), (3, .int x3), (4, .int x4), (5, .int x5)]) hx hb dX9_fateBy_63 rfl hl (by decide) rfl (fun ls hl => ?_)
        refine lv_iload_n hx hb dX9_fateBy_64 rfl (lv_at hl 3 rfl) ?_
        refine z_if_eq (tgt := 84) hx hb dX9_fateBy_65 (by decide) hf (fun hf => ?_) (fun hf => ?_)
        · exact L84 s0 x4 a_settled _ _ _ hf hP hD hS (lv_sub hl [1, 2, 0, 4] rfl)
        · refine lv_iload hx hb dX9_fateBy_68 (lv_at hl 5 rfl) ?_
          refine lv_aload_n hx hb dX9_fateBy_70 rfl (lv_at hl 2 rfl) ?_
          refine z_get (ci := 4) (C := RX4) (T := TX4) (N := 12) (v := .ref (r_p1 5)) hx hb hts inT_X4 hown hK hP 3 rfl rfl 5 (by decide) tf_X9_68 rfl dX9_fateBy_71 ?_
          refine lv_iload hx hb dX9_fateBy_74 (lv_at hl 4 rfl) ?_
          refine z_iald hx hb hK hP 5 rfl dX9_fateBy_76 hf (fun y4 hf => ?_)
          refine z_icmp_ne (tgt := 84) hx hb dX9_fateBy_77 (by decide) hf (fun hf => ?_) (fun hf => ?_)
          · exact L84 s0 x4 a_settled _ _ _ hf hP hD hS (lv_sub hl [1, 2, 0, 4] rfl)
          · refine lv_iconst (v := 1) hx hb dX9_fateBy_80 (by decide) ?_
            refine lv_goto (tgt := 85) hx hb dX9_fateBy_81 (by decide) ?_
            exact L85 s0 x4 1 a_settled _ _ _ hf hP hD hS (lv_sub hl [1, 2, 0, 4] rfl)
      have L62 : ∀ (x3 : Int32) (x4 : Int32) (x5 : Int32) (a_settled : Nat → Int32) (H : Heap) (locs : List Loc) (ls : Array Slot), m_X9_fateBy_j62 F_p1 a_picture a_p1_before a_p1_after (m_X9_fateBy_w15 F_p1 a_picture a_p1_before a_p1_after (m_X9_fateBy_j92 F_p1 a_picture a_p1_before a_p1_after) n15) x3 x4 x5 a_settled = some Rr → va_P D vwCl (w_X9_fateBy h_t h_p1 r_t r_p1 F_p1 cI a_picture a_settled a_p1_before a_p1_after) H → va_D A (w_X9_fateBy h_t h_p1 r_t r_p1 F_p1 cI a_picture a_settled a_p1_before a_p1_after) → va_S A s.heap H locs → lv_has ls 6 [(0, .ref h_t), (1, .ref h_p1), (3, .int x3), (4, .int x4), (5, .int x5)] → W p l e rm_X9_fateBy s m args below meth c H locs 0 0 Q (F0 m 62 ls []) := by
        intro x3 x4 x5 a_settled H locs ls hf hP hD hS hl
        have hf := (m_X9_fateBy_j62.eq_1 _ _ _ _ _ _ _ _ _).symm.trans hf
        refine lv_iconst (v := 0) hx hb dX9_fateBy_62 (by decide) ?_
        exact L63 x3 x4 x5 0 a_settled _ _ _ hf hP hD hS (lv_sub hl [0, 1, 2, 3, 4] rfl)
      have L30 : ∀ (x2 : Int32) (x3 : Int32) (x4 : Int32) (a_settled : Nat → Int32) (H : Heap) (locs : List Loc) (ls : Array Slot), m_X9_fateBy_j30 F_p1 a_picture a_p1_before a_p1_after (m_X9_fateBy_w15 F_p1 a_picture a_p1_before a_p1_after (m_X9_fateBy_j92 F_p1 a_picture a_p1_before a_p1_after) n15) x2 x3 x4 a_settled = some Rr → va_P D vwCl (w_X9_fateBy h_t h_p1 r_t r_p1 F_p1 cI a_picture a_settled a_p1_before a_p1_after) H → va_D A (w_X9_fateBy h_t h_p1 r_t r_p1 F_p1 cI a_picture a_settled a_p1_before a_p1_after) → va_S A s.heap H locs → lv_has ls 6 [(0, .ref h_t), (1, .ref h_p1), (2, .int x2), (3, .int x3), (4, .int x4)] → W p l e rm_X9_fateBy s m args below meth c H locs 0 0 Q (F0 m 30 ls []) := by
        intro x2 x3 x4 a_settled H locs ls hf hP hD hS hl
        have hf := (m_X9_fateBy_j30.eq_1 _ _ _ _ _ _ _ _ _).symm.trans hf
        refine lv_aload_n hx hb dX9_fateBy_30 rfl (lv_at hl 0 rfl) ?_
        refine z_get (ci := 9) (C := RX9) (T := TX9) (N := 3) (v := .ref (r_t 2)) hx hb hts inT_X9 hown hK hP 0 rfl rfl 2 (by decide) tf_X9_18 rfl dX9_fateBy_31 ?_
        refine lv_bipush (v := 20) hx hb dX9_fateBy_34 (by decide) ?_
        refine lv_iload hx hb dX9_fateBy_36 (lv_at hl 4 rfl) ?_
        refine lv_iadd hx hb dX9_fateBy_38 ?_
        refine z_iald hx hb hK hP 2 rfl dX9_fateBy_39 hf (fun y2 hf => ?_)
        refine lv_istore (lv' := [(5, .int y2), (0, .ref h_t), (1, .ref h_p1), (2, .int x2), (3, .int x3), (4, .int x4)]) hx hb dX9_fateBy_40 hl (by decide) rfl (fun ls hl => ?_)
        refine lv_iload_n hx hb dX9_fateBy_42 rfl (lv_at hl 3 rfl) ?_
        refine z_if_eq (tgt := 62) hx hb dX9_fateBy_43 (by decide) hf (fun hf => ?_) (fun hf => ?_)
        · exact L62 x3 x4 y2 a_settled _ _ _ hf hP hD hS (lv_sub hl [1, 2, 4, 5, 0] rfl)
        · refine lv_iload hx hb dX9_fateBy_46 (lv_at hl 0 rfl) ?_
          refine lv_aload_n hx hb dX9_fateBy_48 rfl (lv_at hl 2 rfl) ?_
          refine z_get (ci := 4) (C := RX4) (T := TX4) (N := 12) (v := .ref (r_p1 4)) hx hb hts inT_X4 hown hK hP 3 rfl rfl 4 (by decide) tf_X9_65 rfl dX9_fateBy_49 ?_
          refine lv_iload hx hb dX9_fateBy_52 (lv_at hl 5 rfl) ?_
          refine z_iald hx hb hK hP 4 rfl dX9_fateBy_54 hf (fun y5 hf => ?_)
          refine z_icmp_ne (tgt := 62) hx hb dX9_fateBy_55 (by decide) hf (fun hf => ?_) (fun hf => ?_)
          · exact L62 x3 x4 y2 a_settled _ _ _ hf hP hD hS (lv_sub hl [1, 2, 4, 5, 0] rfl)
          · refine lv_iconst (v := 1) hx hb dX9_fateBy_58 (by decide) ?_
            refine lv_goto (tgt := 63) hx hb dX9_fateBy_59 (by decide) ?_
            exact L63 x3 x4 y2 1 a_settled _ _ _ hf hP hD hS (lv_sub hl [1, 2, 4, 5, 0] rfl)
      refine lv_iload hx hb dX9_fateBy_15 (lv_at hl 4 rfl) ?_
      refine lv_bipush (v := 44) hx hb dX9_fateBy_17 (by decide) ?_
      refine z_icmp_ge (tgt := 92) hx hb dX9_fateBy_19 (by decide) hf (fun hf => ?_) (fun hf => ?_)
      · exact L92 x2 x3 a_settled _ _ _ hf hP hD hS (lv_sub hl [2, 3] rfl)
      · refine lv_iload_n hx hb dX9_fateBy_22 rfl (lv_at hl 2 rfl) ?_
        refine z_if_ne (tgt := 30) hx hb dX9_fateBy_23 (by decide) hf (fun hf => ?_) (fun hf => ?_)
        · exact L30 x2 x3 x4 a_settled _ _ _ hf hP hD hS (lv_sub hl [0, 1, 2, 3, 4] rfl)
        · refine lv_iload_n hx hb dX9_fateBy_26 rfl (lv_at hl 3 rfl) ?_
          refine z_if_eq (tgt := 92) hx hb dX9_fateBy_27 (by decide) hf (fun hf => ?_) (fun hf => ?_)
          · exact L92 x2 x3 a_settled _ _ _ hf hP hD hS (lv_sub hl [2, 3] rfl)
          · exact L30 x2 x3 x4 a_settled _ _ _ hf hP hD hS (lv_sub hl [0, 1, 2, 3, 4] rfl)
  refine lv_aload_n hx hb dX9_fateBy_0 rfl (lv_at hl 0 rfl) ?_
  refine lv_aload_n hx hb dX9_fateBy_1 rfl (lv_at hl 1 rfl) ?_
  refine z_get (ci := 4) (C := RX4) (T := TX4) (N := 12) (v := .int (F_p1 9)) hx hb hts inT_X4 hown hK hP 3 rfl rfl 9 (by decide) tf_X9_55 rfl dX9_fateBy_2 ?_
  obtain ⟨u1, hu1, hf⟩ := bd_some hf
  refine z_cv (ws1 := w_X9_fateBy h_t h_p1 r_t r_p1 F_p1 cI a_picture u1 a_p1_before a_p1_after) (wr := List.filterMap (fun i : Nat => (w_X9_fateBy h_t h_p1 r_t r_p1 F_p1 cI a_picture a_settled a_p1_before a_p1_after)[i]?) [3, 4, 5]) (z_rV (rest := []) hx hb hml hown hcx hl.1 (c_X9_recoverPicture l D cI h_t r_t a_picture a_settled (F_p1 9) u1 hu1 _) tl_X9_61 ti_X9_recoverPicture tz_X9_recoverPicture tn_X9 tc_X9_recoverPicture tm_X9_recoverPicture rfl rfl ⟨Nat.le_of_ble_eq_true rfl, Nat.le_of_ble_eq_true rfl⟩ hK hX hS hA hP hD [0, 1, 2] rfl rfl 0 rfl rfl rfl rfl (Nat.le_of_ble_eq_true rfl) dX9_fateBy_5 ⟨Nat.zero_le _, Nat.zero_le _⟩) hP hD hS hA [0, 1, 2] [3, 4, 5] [3, 4, 5, 0, 1, 2] rfl rfl rfl (by decide) rfl rfl (fun H locs hP hD hS => ?_)
  refine lv_iconst (v := 1) hx hb dX9_fateBy_8 (by decide) ?_
  refine lv_istore_n (lv' := [(2, .int 1), (0, .ref h_t), (1, .ref h_p1)]) hx hb dX9_fateBy_9 rfl hl (by decide) rfl (fun ls hl => ?_)
  refine lv_iconst (v := 1) hx hb dX9_fateBy_10 (by decide) ?_
  refine lv_istore_n (lv' := [(3, .int 1), (2, .int 1), (0, .ref h_t), (1, .ref h_p1)]) hx hb dX9_fateBy_11 rfl hl (by decide) rfl (fun ls hl => ?_)
  refine lv_iconst (v := 0) hx hb dX9_fateBy_12 (by decide) ?_
  refine lv_istore (lv' := [(4, .int 0), (3, .int 1), (2, .int 1), (0, .ref h_t), (1, .ref h_p1)]) hx hb dX9_fateBy_13 hl (by decide) rfl (fun ls hl => ?_)
  exact L15 fuelN 1 1 0 u1 _ _ _ hf hP hD hS (lv_sub hl [3, 4, 2, 1, 0] rfl)
