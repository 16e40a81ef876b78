abbrev w_X1_holdMedia (h_t : Nat) (h_p1 : Nat) (r_t : Nat → Nat) (cI : ClassId) (n_p1 : Nat) (a_media : Nat → Int32) (a_held : Nat → Int32) (a_asked : Nat → Int32) (a_p1 : Nat → Int32) : va_W := [(h_t, .inr (1, o_X1 r_t)), ((r_t 0), .inl (cI, 64, .inl a_media)), ((r_t 2), .inl (cI, 16, .inl a_held)), ((r_t 3), .inl (cI, 16, .inl a_asked)), (h_p1, .inl (cI, n_p1, .inl a_p1))]
abbrev rm_X1_holdMedia : Room := { frames := 1, cells := 0, slots := 0, locals := 40 }
def m_X1_holdMedia (a_media : Nat → Int32) (a_held : Nat → Int32) (a_asked : Nat → Int32) (a_p1 : Nat → Int32) (n_p1 : Nat) : Option ((Nat → Int32) × (Nat → Int32) × (Nat → Int32)) :=
  cp a_p1 a_media n_p1 64 0 0 64 fun a1 =>
  bd (m_J7_fill_53178 a_held 16 0) fun u2 =>
  bd (m_J7_fill_53178 a_asked 16 0) fun u3 =>
  some (a1, u2, u3)
set_option maxHeartbeats 4000000 in
set_option maxRecDepth 100000 in
theorem c_X1_holdMedia (l : Launch) (D : va_G) (cI : ClassId) (h_t : Nat) (h_p1 : Nat) (r_t : Nat → Nat) (n_p1 : Nat) (a_media : Nat → Int32) (a_held : Nat → Int32) (a_asked : Nat → Int32) (a_p1 : Nat → Int32) (Rr : (Nat → Int32) × (Nat → Int32) × (Nat → Int32)) (hf : m_X1_holdMedia a_media a_held a_asked a_p1 n_p1 = some Rr) : CTv l yX1_holdMedia (Cond.code yX1_holdMedia cX1_holdMedia 2 none) rm_X1_holdMedia D cI [.ref h_t, .ref h_p1] (w_X1_holdMedia h_t h_p1 r_t cI n_p1 a_media a_held a_asked a_p1) (w_X1_holdMedia h_t h_p1 r_t cI n_p1 Rr.1 Rr.2.1 Rr.2.2 a_p1) := by
  refine z_begin_v (own := RX1) (ρ := (Nat → Int32) × (Nat → Int32) × (Nat → Int32)) (fun u => w_X1_holdMedia h_t h_p1 r_t cI n_p1 u.1 u.2.1 u.2.2 a_p1) (by decide +kernel) rfl (Nat.le_of_ble_eq_true rfl) ?_
  intro p e s m args below meth c ls Q A hx hb hml hts hcx hown hK hX hA hP hD hS hl hret
  have hl : lv_has ls 2 [(0, .ref h_t), (1, .ref h_p1)] := hl
  have hf := (m_X1_holdMedia.eq_1 _ _ _ _ _).symm.trans hf
  refine lv_aload_n hx hb dX1_holdMedia_0 rfl (lv_at hl 1 rfl) ?_
  refine lv_iconst (v := 0) hx hb dX1_holdMedia_1 (by decide) ?_
  refine lv_aload_n hx hb dX1_holdMedia_2 rfl (lv_at hl 0 rfl) ?_
  refine z_get (ci := 1) (C := RX1) (T := TX1) (N := 4) (v := .ref (r_t 0)) hx hb hts inT_X1 hown hK hP 0 rfl rfl 0 (by decide) tf_X1_9 rfl dX1_holdMedia_3 ?_
  refine lv_iconst (v := 0) hx hb dX1_holdMedia_6 (by decide) ?_
  refine lv_bipush (v := 64) hx hb dX1_holdMedia_7 (by decide) ?_
  refine z_copy (rest := []) hx hb (hml.trans hl.1.symm) hown hts tl_X1_24 tnat_copy ts_copy tn_J10 hK hP hD hS 4 1 rfl rfl (fun z => w_X1_holdMedia h_t h_p1 r_t cI n_p1 z a_held a_asked a_p1) (fun _ => rfl) (Nat.le_of_ble_eq_true rfl) (by decide) dX1_holdMedia_9 hf (fun a1 H locs hf hP hD hS => ?_)
  refine lv_aload_n hx hb dX1_holdMedia_12 rfl (lv_at hl 0 rfl) ?_
  refine z_get (ci := 1) (C := RX1) (T := TX1) (N := 4) (v := .ref (r_t 2)) hx hb hts inT_X1 hown hK hP 0 rfl rfl 2 (by decide) tf_X1_18 rfl dX1_holdMedia_13 ?_
  refine lv_iconst (v := 0) hx hb dX1_holdMedia_16 (by decide) ?_
  obtain ⟨u2, hu2, hf⟩ := bd_some hf
  refine z_cv (ws1 := w_X1_holdMedia h_t h_p1 r_t cI n_p1 a1 u2 a_asked a_p1) (wr := List.filterMap (fun i : Nat => (w_X1_holdMedia h_t h_p1 r_t cI n_p1 a1 a_held a_asked a_p1)[i]?) [0, 1, 3, 4]) (z_rS (rest := []) hx hb hml hown hcx hl.1 (c_J7_fill_53178 l D cI (r_t 2) 16 a_held 0 u2 hu2 _) tl_X1_30 ts_J7_fill_53178 tn_J7 tc_J7_fill_53178 tm_J7_fill_53178 rfl rfl ⟨Nat.le_of_ble_eq_true rfl, Nat.le_of_ble_eq_true rfl⟩ hK hX hS hA hP hD [2] rfl rfl rfl rfl (Nat.le_of_ble_eq_true rfl) dX1_holdMedia_17 ⟨Nat.zero_le _, Nat.zero_le _⟩) hP hD hS hA [2] [0, 1, 3, 4] [0, 1, 4, 2, 3] rfl rfl rfl (by decide) rfl rfl (fun H locs hP hD hS => ?_)
  refine lv_aload_n hx hb dX1_holdMedia_20 rfl (lv_at hl 0 rfl) ?_
  refine z_get (ci := 1) (C := RX1) (T := TX1) (N := 4) (v := .ref (r_t 3)) hx hb hts inT_X1 hown hK hP 0 rfl rfl 3 (by decide) tf_X1_21 rfl dX1_holdMedia_21 ?_
  refine lv_iconst (v := 0) hx hb dX1_holdMedia_24 (by decide) ?_
  obtain ⟨u3, hu3, hf⟩ := bd_some hf
  refine z_cv (ws1 := w_X1_holdMedia h_t h_p1 r_t cI n_p1 a1 u2 u3 a_p1) (wr := List.filterMap (fun i : Nat => (w_X1_holdMedia h_t h_p1 r_t cI n_p1 a1 u2 a_asked a_p1)[i]?) [0, 1, 2, 4]) (z_rS (rest := []) hx hb hml hown hcx hl.1 (c_J7_fill_53178 l D cI (r_t 3) 16 a_asked 0 u3 hu3 _) tl_X1_30 ts_J7_fill_53178 tn_J7 tc_J7_fill_53178 tm_J7_fill_53178 rfl rfl ⟨Nat.le_of_ble_eq_true rfl, Nat.le_of_ble_eq_true rfl⟩ hK hX hS hA hP hD [3] rfl rfl rfl rfl (Nat.le_of_ble_eq_true rfl) dX1_holdMedia_25 ⟨Nat.zero_le _, Nat.zero_le _⟩) hP hD hS hA [3] [0, 1, 2, 4] [0, 1, 2, 4, 3] rfl rfl rfl (by decide) rfl rfl (fun H locs hP hD hS => ?_)
  exact hret (a1, u2, u3) _ _ _ _ hf hP hD hS dX1_holdMedia_28
abbrev w_X4_fall (h_t : Nat) (h_p1 : Nat) (r_t : Nat → Nat) (r_cache : Nat → Nat) (r_p1 : Nat → Nat) (F_t : Nat → Int32) (cI : ClassId) (a_cache_media : Nat → Int32) (a_cache_held : Nat → Int32) (a_cache_asked : Nat → Int32) (a_before : Nat → Int32) (a_after : Nat → Int32) (a_tallies : Nat → Int32) (a_p1_picture : Nat → Int32) (a_p1_settled : Nat → Int32) : va_W := [(h_t, .inr (4, o_X4 r_t F_t)), ((r_t 0), .inr (1, o_X1 r_cache)), ((r_cache 0), .inl (cI, 64, .inl a_cache_media)), ((r_cache 2), .inl (cI, 16, .inl a_cache_held)), ((r_cache 3), .inl (cI, 16, .inl a_cache_asked)), ((r_t 4), .inl (cI, 44, .inl a_before)), ((r_t 5), .inl (cI, 44, .inl a_after)), ((r_t 11), .inl (cI, 8, .inl a_tallies)), (h_p1, .inr (9, o_X9 r_p1)), ((r_p1 1), .inl (cI, 64, .inl a_p1_picture)), ((r_p1 2), .inl (cI, 64, .inl a_p1_settled))]
abbrev rm_X4_fall : Room := { frames := 2, cells := 0, slots := 0, locals := 61 }
def m_X4_fall (F_t : Nat → Int32) (a_cache_media : Nat → Int32) (a_cache_held : Nat → Int32) (a_cache_asked : Nat → Int32) (a_before : Nat → Int32) (a_after : Nat → Int32) (a_tallies : Nat → Int32) (a_p1_picture : Nat → Int32) (a_p1_settled : Nat → Int32) : Option ((Nat → Int32) × (Nat → Int32) × (Nat → Int32) × (Nat → Int32) × (Nat → Int32) × (Nat → Int32) × (Nat → Int32)) :=
  bd (m_X1_holdMedia a_cache_media a_cache_held a_cache_asked a_p1_picture 64) fun u1 =>
  bd (m_X4_settle a_before a_after a_p1_settled 64) fun u2 =>
  bd (m_X4_dropMicros F_t) fun u3 =>
  nm (upd u3 8 1) fun F4 =>
  rd a_tallies 8 2 fun y5 =>
  wr a_tallies 8 2 (y5 + 1) fun a6 =>
  some (F4, u1.1, u1.2.1, u1.2.2, u2.1, u2.2, a6)
set_option maxHeartbeats 4000000 in
set_option maxRecDepth 100000 in
theorem c_X4_fall (l : Launch) (D : va_G) (cI : ClassId) (h_t : Nat) (h_p1 : Nat) (r_t : Nat → Nat) (r_cache : Nat → Nat) (r_p1 : Nat → Nat) (F_t : Nat → Int32) (a_cache_media : Nat → Int32) (a_cache_held : Nat → Int32) (a_cache_asked : Nat → Int32) (a_before : Nat → Int32) (a_after : Nat → Int32) (a_tallies : Nat → Int32) (a_p1_picture : Nat → Int32) (a_p1_settled : Nat → Int32) (Rr : (Nat → Int32) × (Nat → Int32) × (Nat → Int32) × (Nat → Int32) × (Nat → Int32) × (Nat → Int32) × (Nat → Int32)) (hf : m_X4_fall F_t a_cache_media a_cache_held a_cache_asked a_before a_after a_tallies a_p1_picture a_p1_settled = some Rr) : CTv l yX4_fall (Cond.code yX4_fall cX4_fall 2 none) rm_X4_fall D cI [.ref h_t, .ref h_p1] (w_X4_fall h_t h_p1 r_t r_cache r_p1 F_t cI a_cache_media a_cache_held a_cache_asked a_before a_after a_tallies a_p1_picture a_p1_settled) (w_X4_fall h_t h_p1 r_t r_cache r_p1 Rr.1 cI Rr.2.1 Rr.2.2.1 Rr.2.2.2.1 Rr.2.2.2.2.1 Rr.2.2.2.2.2.1 Rr.2.2.2.2.2.2 a_p1_picture a_p1_settled) := by
  refine z_begin_v (own := RX4) (ρ := (Nat → Int32) × (Nat → Int32) × (Nat → Int32) × (Nat → Int32) × (Nat → Int32) × (Nat → Int32) × (Nat → Int32)) (fun u => w_X4_fall h_t h_p1 r_t r_cache r_p1 u.1 cI u.2.1 u.2.2.1 u.2.2.2.1 u.2.2.2.2.1 u.2.2.2.2.2.1 u.2.2.2.2.2.2 a_p1_picture a_p1_settled) (by decide +kernel) rfl (Nat.le_of_ble_eq_true rfl) ?_
  intro p e s m args below meth c ls Q A hx hb hml hts hcx hown hK hX hA hP hD hS hl hret
  have hl : lv_has ls 2 [(0, .ref h_t), (1, .ref h_p1)] := hl
  have hf := (m_X4_fall.eq_1 _ _ _ _ _ _ _ _ _).symm.trans hf
  refine lv_aload_n hx hb dX4_fall_0 rfl (lv_at hl 0 rfl) ?_
  refine z_get (ci := 4) (C := RX4) (T := TX4) (N := 12) (v := .ref (r_t 0)) hx hb hts inT_X4 hown hK hP 0 rfl rfl 0 (by decide) tf_X4_12 rfl dX4_fall_1 ?_
  refine lv_aload_n hx hb dX4_fall_4 rfl (lv_at hl 1 rfl) ?_
  refine z_get (ci := 9) (C := RX9) (T := TX9) (N := 3) (v := .ref (r_p1 1)) hx hb hts inT_X9 hown hK hP 8 rfl rfl 1 (by decide) tf_X4_145 rfl dX4_fall_5 ?_
  obtain ⟨u1, hu1, hf⟩ := bd_some hf
  refine z_cv (ws1 := w_X4_fall h_t h_p1 r_t r_cache r_p1 F_t cI u1.1 u1.2.1 u1.2.2 a_before a_after a_tallies a_p1_picture a_p1_settled) (wr := List.filterMap (fun i : Nat => (w_X4_fall h_t h_p1 r_t r_cache r_p1 F_t cI a_cache_media a_cache_held a_cache_asked a_before a_after a_tallies a_p1_picture a_p1_settled)[i]?) [0, 5, 6, 7, 8, 10]) (z_rV (rest := []) hx hb hml hown hcx hl.1 (c_X1_holdMedia l D cI (r_t 0) (r_p1 1) r_cache 64 a_cache_media a_cache_held a_cache_asked a_p1_picture u1 hu1 _) tl_X4_150 ti_X1_holdMedia tz_X1_holdMedia tn_X1 tc_X1_holdMedia tm_X1_holdMedia rfl rfl ⟨Nat.le_of_ble_eq_true rfl, Nat.le_of_ble_eq_true rfl⟩ hK hX hS hA hP hD [1, 2, 3, 4, 9] rfl rfl 1 rfl rfl rfl rfl (Nat.le_of_ble_eq_true rfl) dX4_fall_8 ⟨Nat.zero_le _, Nat.zero_le _⟩) hP hD hS hA [1, 2, 3, 4, 9] [0, 5, 6, 7, 8, 10] [0, 6, 7, 8, 9, 1, 2, 3, 4, 10, 5] rfl rfl rfl (by decide) rfl rfl (fun H locs hP hD hS => ?_)
  refine lv_aload_n hx hb dX4_fall_11 rfl (lv_at hl 0 rfl) ?_
  refine lv_aload_n hx hb dX4_fall_12 rfl (lv_at hl 1 rfl) ?_
  refine z_get (ci := 9) (C := RX9) (T := TX9) (N := 3) (v := .ref (r_p1 2)) hx hb hts inT_X9 hown hK hP 8 rfl rfl 2 (by decide) tf_X4_154 rfl dX4_fall_13 ?_
  obtain ⟨u2, hu2, hf⟩ := bd_some hf
  refine z_cv (ws1 := w_X4_fall h_t h_p1 r_t r_cache r_p1 F_t cI u1.1 u1.2.1 u1.2.2 u2.1 u2.2 a_tallies a_p1_picture a_p1_settled) (wr := List.filterMap (fun i : Nat => (w_X4_fall h_t h_p1 r_t r_cache r_p1 F_t cI u1.1 u1.2.1 u1.2.2 a_before a_after a_tallies a_p1_picture a_p1_settled)[i]?) [1, 2, 3, 4, 7, 8, 9]) (z_rV (rest := []) hx hb hml hown hcx hl.1 (c_X4_settle l D cI h_t (r_p1 2) r_t F_t 64 a_before a_after a_p1_settled u2 hu2 _) tl_X4_157 ti_X4_settle tz_X4_settle tn_X4 tc_X4_settle tm_X4_settle rfl rfl ⟨Nat.le_of_ble_eq_true rfl, Nat.le_of_ble_eq_true rfl⟩ hK hX hS hA hP hD [0, 5, 6, 10] rfl rfl 0 rfl rfl rfl rfl (Nat.le_of_ble_eq_true rfl) dX4_fall_16 ⟨Nat.zero_le _, Nat.zero_le _⟩) hP hD hS hA [0, 5, 6, 10] [1, 2, 3, 4, 7, 8, 9] [7, 0, 1, 2, 3, 8, 9, 4, 5, 6, 10] rfl rfl rfl (by decide) rfl rfl (fun H locs hP hD hS => ?_)
  refine lv_aload_n hx hb dX4_fall_19 rfl (lv_at hl 0 rfl) ?_
  obtain ⟨u3, hu3, hf⟩ := bd_some hf
  refine z_cv (ws1 := w_X4_fall h_t h_p1 r_t r_cache r_p1 u3 cI u1.1 u1.2.1 u1.2.2 u2.1 u2.2 a_tallies a_p1_picture a_p1_settled) (wr := List.filterMap (fun i : Nat => (w_X4_fall h_t h_p1 r_t r_cache r_p1 F_t cI u1.1 u1.2.1 u1.2.2 u2.1 u2.2 a_tallies a_p1_picture a_p1_settled)[i]?) [1, 2, 3, 4, 5, 6, 7, 8, 9, 10]) (z_rV (rest := []) hx hb hml hown hcx hl.1 (c_X4_dropMicros l D cI h_t r_t F_t u3 hu3 _) tl_X4_104 ti_X4_dropMicros tz_X4_dropMicros tn_X4 tc_X4_dropMicros tm_X4_dropMicros rfl rfl ⟨Nat.le_of_ble_eq_true rfl, Nat.le_of_ble_eq_true rfl⟩ hK hX hS hA hP hD [0] rfl rfl 0 rfl rfl rfl rfl (Nat.le_of_ble_eq_true rfl) dX4_fall_20 ⟨Nat.zero_le _, Nat.zero_le _⟩) hP hD hS hA [0] [1, 2, 3, 4, 5, 6, 7, 8, 9, 10] [10, 0, 1, 2, 3, 4, 5, 6, 7, 8, 9] rfl rfl rfl (by decide) rfl rfl (fun H locs hP hD hS => ?_)
  refine lv_aload_n hx hb dX4_fall_23 rfl (lv_at hl 0 rfl) ?_
  refine lv_iconst (v := 1) hx hb dX4_fall_24 (by decide) ?_
  refine z_put (ci := 4) (C := RX4) (T := TX4) (N := 12) hx hb hts inT_X4 tyX4 tyX4_ok nmX4 hown hK hP hD hS 0 rfl rfl 8 (by decide) tf_X4_41 rfl (by decide +kernel) (Nat.le_of_ble_eq_true rfl) (o_X4 r_t) (o_X4_s8 _ _ _) (fun z => w_X4_fall h_t h_p1 r_t r_cache r_p1 z cI u1.1 u1.2.1 u1.2.2 u2.1 u2.2 a_tallies a_p1_picture a_p1_settled) (fun _ => rfl) dX4_fall_25 hf (fun F4 H locs hf hP hD hS => ?_)
  refine lv_aload_n hx hb dX4_fall_28 rfl (lv_at hl 0 rfl) ?_
  refine z_get (ci := 4) (C := RX4) (T := TX4) (N := 12) (v := .ref (r_t 11)) hx hb hts inT_X4 hown hK hP 0 rfl rfl 11 (by decide) tf_X4_50 rfl dX4_fall_29 ?_
  refine lv_iconst (v := 2) hx hb dX4_fall_32 (by decide) ?_
  refine lv_dup2_11 hx hb dX4_fall_33 rfl rfl ?_
  refine z_iald hx hb hK hP 7 rfl dX4_fall_34 hf (fun y5 hf => ?_)
  refine lv_iconst (v := 1) hx hb dX4_fall_35 (by decide) ?_
  refine lv_iadd hx hb dX4_fall_36 ?_
  refine z_iast hx hb hK hP hD hS 7 rfl (fun z => w_X4_fall h_t h_p1 r_t r_cache r_p1 F4 cI u1.1 u1.2.1 u1.2.2 u2.1 u2.2 z a_p1_picture a_p1_settled) (fun _ => rfl) dX4_fall_37 hf (fun a6 H locs hf hP hD hS => ?_)
  exact hret (F4, u1.1, u1.2.1, u1.2.2, u2.1, u2.2, a6) _ _ _ _ hf hP hD hS dX4_fall_38
abbrev w_X5_planRecovery (h_t : Nat) (h_p1 : Nat) (r_t : Nat → Nat) (F_t : Nat → Int32) (cI : ClassId) (n_p1 : Nat) (a_addresses : Nat → Int32) (a_numbers : Nat → Int32) (a_p1 : Nat → Int32) : va_W := [(h_t, .inr (5, o_X5 r_t F_t)), ((r_t 1), .inl (cI, 8, .inl a_addresses)), ((r_t 2), .inl (cI, 8, .inl a_numbers)), (h_p1, .inl (cI, n_p1, .inl a_p1))]
abbrev rm_X5_planRecovery : Room := { frames := 1, cells := 0, slots := 0, locals := 22 }
def m_X5_planRecovery_j80 (a_p1 : Nat → Int32) (n_p1 : Nat) (p2 : Int32) (k17 : Int32 → Int32 → (Nat → Int32) → (Nat → Int32) → (Nat → Int32) → Option ((Nat → Int32) × (Nat → Int32) × (Nat → Int32))) (x3 : Int32) (x4 : Int32) (F_t : Nat → Int32) (a_addresses : Nat → Int32) (a_numbers : Nat → Int32) : Option ((Nat → Int32) × (Nat → Int32) × (Nat → Int32)) :=
  nm (x4 + 1) fun v7 =>
  k17 x3 v7 F_t a_addresses a_numbers
def m_X5_planRecovery_w17 (a_p1 : Nat → Int32) (n_p1 : Nat) (p2 : Int32) : Nat → Int32 → Int32 → (Nat → Int32) → (Nat → Int32) → (Nat → Int32) → Option ((Nat → Int32) × (Nat → Int32) × (Nat → Int32))
  | 0, _, _, _, _, _ => none
  | n17 + 1, x3, x4, F_t, a_addresses, a_numbers =>
    if x3 ≤ x4 then (
    some (F_t, a_addresses, a_numbers))
    else (
    bd (m_X11_entryPlace x4 x3 p2) fun u4 =>
    rd a_p1 n_p1 u4 fun y5 =>
    bd (m_X11_isHeapAddress y5) fun u6 =>
    if u6 = 0 then (
    m_X5_planRecovery_j80 a_p1 n_p1 p2 (m_X5_planRecovery_w17 a_p1 n_p1 p2 n17) x3 x4 F_t a_addresses a_numbers)
    else (
    rd a_p1 n_p1 u4 fun y8 =>
    wr a_addresses 8 (F_t 4) y8 fun a9 =>
    rd a_p1 n_p1 (u4 + 1) fun y10 =>
    wr a_numbers 8 (F_t 4) y10 fun a11 =>
    nm (upd F_t 4 ((F_t 4) + 1)) fun F12 =>
    m_X5_planRecovery_j80 a_p1 n_p1 p2 (m_X5_planRecovery_w17 a_p1 n_p1 p2 n17) x3 x4 F12 a9 a11))
def m_X5_planRecovery (F_t : Nat → Int32) (a_addresses : Nat → Int32) (a_numbers : Nat → Int32) (a_p1 : Nat → Int32) (n_p1 : Nat) (p2 : Int32) : Option ((Nat → Int32) × (Nat → Int32) × (Nat → Int32)) :=
  rd a_p1 n_p1 0 fun y1 =>
  nm (if 8 < y1 then 8 else y1) fun v2 =>
  nm (upd F_t 4 0) fun F3 =>
  m_X5_planRecovery_w17 a_p1 n_p1 p2 fuelN v2 0 F3 a_addresses a_numbers
set_option maxHeartbeats 4000000 in
set_option maxRecDepth 100000 in
theorem c_X5_planRecovery (l : Launch) (D : va_G) (cI : ClassId) (h_t : Nat) (h_p1 : Nat) (r_t : Nat → Nat) (F_t : Nat → Int32) (n_p1 : Nat) (a_addresses : Nat → Int32) (a_numbers : Nat → Int32) (a_p1 : Nat → Int32) (p2 : Int32) (Rr : (Nat → Int32) × (Nat → Int32) × (Nat → Int32)) (hf : m_X5_planRecovery F_t a_addresses a_numbers a_p1 n_p1 p2 = some Rr) : CTv l yX5_planRecovery (Cond.code yX5_planRecovery cX5_planRecovery 6 none) rm_X5_planRecovery D cI [.ref h_t, .ref h_p1, .int p2] (w_X5_planRecovery h_t h_p1 r_t F_t cI n_p1 a_addresses a_numbers a_p1) (w_X5_planRecovery h_t h_p1 r_t Rr.1 cI n_p1 Rr.2.1 Rr.2.2 a_p1) := by
  refine z_begin_v (own := RX5) (ρ := (Nat → Int32) × (Nat → Int32) × (Nat → Int32)) (fun u => w_X5_planRecovery h_t h_p1 r_t u.1 cI n_p1 u.2.1 u.2.2 a_p1) (by decide +kernel) rfl (Nat.le_of_ble_eq_true rfl) ?_
  intro p e s m args below meth c ls Q A hx hb hml hts hcx hown hK hX hA hP hD hS hl hret
  have hl : lv_has ls 6 [(0, .ref h_t), (1, .ref h_p1), (2, .int p2)] := hl
  have hf := (m_X5_planRecovery.eq_1 _ _ _ _ _ _).symm.trans hf
  have L17 : ∀ (n17 : Nat) (x3 : Int32) (x4 : Int32) (F_t : Nat → Int32) (a_addresses : Nat → Int32) (a_numbers : Nat → Int32) (H : Heap) (locs : List Loc) (ls : Array Slot), m_X5_planRecovery_w17 a_p1 n_p1 p2 n17 x3 x4 F_t a_addresses a_numbers = some Rr → va_P D vwCl (w_X5_planRecovery h_t h_p1 r_t F_t cI n_p1 a_addresses a_numbers a_p1) H → va_D A (w_X5_planRecovery h_t h_p1 r_t F_t cI n_p1 a_addresses a_numbers a_p1) → va_S A s.heap H locs → lv_has ls 6 [(0, .ref h_t), (1, .ref h_p1), (2, .int p2), (3, .int x3), (4, .int x4)] → W p l e rm_X5_planRecovery s m args below meth c H locs 0 0 Q (F0 m 17 ls []) := by
    intro n17
    induction n17 with
    | zero => intro x3 x4 F_t a_addresses a_numbers H locs ls hf; cases (show (none : Option _) = some Rr from hf)
    | succ n17 ih17 =>
      intro x3 x4 F_t a_addresses a_numbers H locs ls hf hP hD hS hl
      have hf := (m_X5_planRecovery_w17.eq_2 _ _ _ _ _ _ _ _ _).symm.trans hf
      have L80 : ∀ (x3 : Int32) (x4 : Int32) (F_t : Nat → Int32) (a_addresses : Nat → Int32) (a_numbers : Nat → Int32) (H : Heap) (locs : List Loc) (ls : Array Slot), m_X5_planRecovery_j80 a_p1 n_p1 p2 (m_X5_planRecovery_w17 a_p1 n_p1 p2 n17) x3 x4 F_t a_addresses a_numbers = some Rr → va_P D vwCl (w_X5_planRecovery h_t h_p1 r_t F_t cI n_p1 a_addresses a_numbers a_p1) H → va_D A (w_X5_planRecovery h_t h_p1 r_t F_t cI n_p1 a_addresses a_numbers a_p1) → va_S A s.heap H locs → lv_has ls 6 [(0, .ref h_t), (1, .ref h_p1), (2, .int p2), (3, .int x3), (4, .int x4)] → W p l e rm_X5_planRecovery s m args below meth c H locs 0 0 Q (F0 m 80 ls []) := by
        intro x3 x4 F_t a_addresses a_numbers H locs ls hf hP hD hS hl
        have hf := (m_X5_planRecovery_j80.eq_1 _ _ _ _ _ _ _ _ _).symm.trans hf
        refine z_iinc (k0 := 4) (fun z => [(4, .int z), (0, .ref h_t), (1, .ref h_p1), (2, .int p2), (3, .int x3)]) hx hb dX5_planRecovery_80 hl rfl (by decide) (by decide) (fun _ => rfl) hf (fun v7 ls hf hl => ?_)
        refine lv_goto (tgt := 17) hx hb dX5_planRecovery_83 (by decide) ?_
        exact ih17 x3 v7 F_t a_addresses a_numbers _ _ _ hf hP hD hS (lv_sub hl [1, 2, 3, 4, 0] rfl)
      refine lv_iload hx hb dX5_planRecovery_17 (lv_at hl 4 rfl) ?_
      refine lv_iload_n hx hb dX5_planRecovery_19 rfl (lv_at hl 3 rfl) ?_
      refine z_icmp_ge (tgt := 86) hx hb dX5_planRecovery_20 (by decide) hf (fun hf => ?_) (fun hf => ?_)
      · exact hret (F_t, a_addresses, a_numbers) _ _ _ _ hf hP hD hS dX5_planRecovery_86
      · refine lv_iload hx hb dX5_planRecovery_23 (lv_at hl 4 rfl) ?_
        refine lv_iload_n hx hb dX5_planRecovery_25 rfl (lv_at hl 3 rfl) ?_
        refine lv_iload_n hx hb dX5_planRecovery_26 rfl (lv_at hl 2 rfl) ?_
        obtain ⟨u4, hu4, hf⟩ := bd_some hf
        refine z_ci (ws1 := w_X5_planRecovery h_t h_p1 r_t F_t cI n_p1 a_addresses a_numbers a_p1) (wr := List.filterMap (fun i : Nat => (w_X5_planRecovery h_t h_p1 r_t F_t cI n_p1 a_addresses a_numbers a_p1)[i]?) [0, 1, 2, 3]) (z_rN (rest := []) hx hb hml hown hcx hl.1 (c_X11_entryPlace l D cI x4 x3 p2 u4 hu4 _) tl_X5_82 ts_X11_entryPlace tn_X11 tc_X11_entryPlace tm_X11_entryPlace rfl rfl ⟨Nat.le_of_ble_eq_true rfl, Nat.le_of_ble_eq_true rfl⟩ hK hX hS hA hP hD [] rfl rfl rfl rfl (Nat.le_of_ble_eq_true rfl) dX5_planRecovery_27 ⟨Nat.zero_le _, Nat.zero_le _⟩) hP hD hS hA [] [0, 1, 2, 3] [0, 1, 2, 3] rfl rfl rfl (by decide) rfl rfl (fun H locs hP hD hS => ?_)
        refine lv_istore (lv' := [(5, .int u4), (0, .ref h_t), (1, .ref h_p1), (2, .int p2), (3, .int x3), (4, .int x4)]) hx hb dX5_planRecovery_30 hl (by decide) rfl (fun ls hl => ?_)
        refine lv_aload_n hx hb dX5_planRecovery_32 rfl (lv_at hl 2 rfl) ?_
        refine lv_iload hx hb dX5_planRecovery_33 (lv_at hl 0 rfl) ?_
        refine z_iald hx hb hK hP 3 rfl dX5_planRecovery_35 hf (fun y5 hf => ?_)
        obtain ⟨u6, hu6, hf⟩ := bd_some hf
        refine z_ci (ws1 := w_X5_planRecovery h_t h_p1 r_t F_t cI n_p1 a_addresses a_numbers a_p1) (wr := List.filterMap (fun i : Nat => (w_X5_planRecovery h_t h_p1 r_t F_t cI n_p1 a_addresses a_numbers a_p1)[i]?) [0, 1, 2, 3]) (z_rN (rest := []) hx hb hml hown hcx hl.1 (c_X11_isHeapAddress l D cI y5 u6 hu6 _) tl_X5_86 ts_X11_isHeapAddress tn_X11 tc_X11_isHeapAddress tm_X11_isHeapAddress rfl rfl ⟨Nat.le_of_ble_eq_true rfl, Nat.le_of_ble_eq_true rfl⟩ hK hX hS hA hP hD [] rfl rfl rfl rfl (Nat.le_of_ble_eq_true rfl) dX5_planRecovery_36 ⟨Nat.zero_le _, Nat.zero_le _⟩) hP hD hS hA [] [0, 1, 2, 3] [0, 1, 2, 3] rfl rfl rfl (by decide) rfl rfl (fun H locs hP hD hS => ?_)
        refine z_if_eq (tgt := 80) hx hb dX5_planRecovery_39 (by decide) hf (fun hf => ?_) (fun hf => ?_)
        · exact L80 x3 x4 F_t a_addresses a_numbers _ _ _ hf hP hD hS (lv_sub hl [1, 2, 3, 4, 5] rfl)
        · refine lv_aload_n hx hb dX5_planRecovery_42 rfl (lv_at hl 1 rfl) ?_
          refine z_get (ci := 5) (C := RX5) (T := TX5) (N := 7) (v := .ref (r_t 1)) hx hb hts inT_X5 hown hK hP 0 rfl rfl 1 (by decide) tf_X5_15 rfl dX5_planRecovery_43 ?_
          refine lv_aload_n hx hb dX5_planRecovery_46 rfl (lv_at hl 1 rfl) ?_
          refine z_get (ci := 5) (C := RX5) (T := TX5) (N := 7) (v := .int (F_t 4)) hx hb hts inT_X5 hown hK hP 0 rfl rfl 4 (by decide) tf_X5_24 rfl dX5_planRecovery_47 ?_
          refine lv_aload_n hx hb dX5_planRecovery_50 rfl (lv_at hl 2 rfl) ?_
          refine lv_iload hx hb dX5_planRecovery_51 (lv_at hl 0 rfl) ?_
          refine z_iald hx hb hK hP 3 rfl dX5_planRecovery_53 hf (fun y8 hf => ?_)
          refine z_iast hx hb hK hP hD hS 1 rfl (fun z => w_X5_planRecovery h_t h_p1 r_t F_t cI n_p1 z a_numbers a_p1) (fun _ => rfl) dX5_planRecovery_54 hf (fun a9 H locs hf hP hD hS => ?_)
          refine lv_aload_n hx hb dX5_planRecovery_55 rfl (lv_at hl 1 rfl) ?_
          refine z_get (ci := 5) (C := RX5) (T := TX5) (N := 7) (v := .ref (r_t 2)) hx hb hts inT_X5 hown hK hP 0 rfl rfl 2 (by decide) tf_X5_18 rfl dX5_planRecovery_56 ?_
          refine lv_aload_n hx hb dX5_planRecovery_59 rfl (lv_at hl 1 rfl) ?_
          refine z_get (ci := 5) (C := RX5) (T := TX5) (N := 7) (v := .int (F_t 4)) hx hb hts inT_X5 hown hK hP 0 rfl rfl 4 (by decide) tf_X5_24 rfl dX5_planRecovery_60 ?_
          refine lv_aload_n hx hb dX5_planRecovery_63 rfl (lv_at hl 2 rfl) ?_
          refine lv_iload hx hb dX5_planRecovery_64 (lv_at hl 0 rfl) ?_
          refine lv_iconst (v := 1) hx hb dX5_planRecovery_66 (by decide) ?_
          refine lv_iadd hx hb dX5_planRecovery_67 ?_
          refine z_iald hx hb hK hP 3 rfl dX5_planRecovery_68 hf (fun y10 hf => ?_)
          refine z_iast hx hb hK hP hD hS 2 rfl (fun z => w_X5_planRecovery h_t h_p1 r_t F_t cI n_p1 a9 z a_p1) (fun _ => rfl) dX5_planRecovery_69 hf (fun a11 H locs hf hP hD hS => ?_)
          refine lv_aload_n hx hb dX5_planRecovery_70 rfl (lv_at hl 1 rfl) ?_
          refine lv_dup hx hb dX5_planRecovery_71 rfl ?_
          refine z_get (ci := 5) (C := RX5) (T := TX5) (N := 7) (v := .int (F_t 4)) hx hb hts inT_X5 hown hK hP 0 rfl rfl 4 (by decide) tf_X5_24 rfl dX5_planRecovery_72 ?_
          refine lv_iconst (v := 1) hx hb dX5_planRecovery_75 (by decide) ?_
          refine lv_iadd hx hb dX5_planRecovery_76 ?_
          refine z_put (ci := 5) (C := RX5) (T := TX5) (N := 7) hx hb hts inT_X5 tyX5 tyX5_ok nmX5 hown hK hP hD hS 0 rfl rfl 4 (by decide) tf_X5_24 rfl (by decide +kernel) (Nat.le_of_ble_eq_true rfl) (o_X5 r_t) (o_X5_s4 _ _ _) (fun z => w_X5_planRecovery h_t h_p1 r_t z cI n_p1 a9 a11 a_p1) (fun _ => rfl) dX5_planRecovery_77 hf (fun F12 H locs hf hP hD hS => ?_)
          exact L80 x3 x4 F12 a9 a11 _ _ _ hf hP hD hS (lv_sub hl [1, 2, 3, 4, 5] rfl)
  refine lv_aload_n hx hb dX5_planRecovery_0 rfl (lv_at hl 1 rfl) ?_
  refine lv_iconst (v := 0) hx hb dX5_planRecovery_1 (by decide) ?_
  refine z_iald hx hb hK hP 3 rfl dX5_planRecovery_2 hf (fun y1 hf => ?_)
  refine lv_bipush (v := 8) hx hb dX5_planRecovery_3 (by decide) ?_
  refine z_min (rest := []) hx hb (hml.trans hl.1.symm) hown hts tl_X5_76 ts_min tn_J9 tc_min (Nat.le_of_ble_eq_true rfl) (Nat.le_of_ble_eq_true rfl) ⟨Nat.zero_le _, Nat.zero_le _⟩ dX5_planRecovery_5 ?_
  refine z_istore_n (fun z => [(3, .int z), (0, .ref h_t), (1, .ref h_p1), (2, .int p2)]) hx hb dX5_planRecovery_8 rfl hl (by decide) (fun _ => rfl) hf (fun v2 ls hf hl => ?_)
  refine lv_aload_n hx hb dX5_planRecovery_9 rfl (lv_at hl 1 rfl) ?_
  refine lv_iconst (v := 0) hx hb dX5_planRecovery_10 (by decide) ?_
  refine z_put (ci := 5) (C := RX5) (T := TX5) (N := 7) hx hb hts inT_X5 tyX5 tyX5_ok nmX5 hown hK hP hD hS 0 rfl rfl 4 (by decide) tf_X5_24 rfl (by decide +kernel) (Nat.le_of_ble_eq_true rfl) (o_X5 r_t) (o_X5_s4 _ _ _) (fun z => w_X5_planRecovery h_t h_p1 r_t z cI n_p1 a_addresses a_numbers a_p1) (fun _ => rfl) dX5_planRecovery_11 hf (fun F3 H locs hf hP hD hS => ?_)
  refine lv_iconst (v := 0) hx hb dX5_planRecovery_14 (by decide) ?_
  refine lv_istore (lv' := [(4, .int 0), (3, .int v2), (0, .ref h_t), (1, .ref h_p1), (2, .int p2)]) hx hb dX5_planRecovery_15 hl (by decide) rfl (fun ls hl => ?_)
  exact L17 fuelN v2 0 F3 a_addresses a_numbers _ _ _ hf hP hD hS (lv_sub hl [2, 3, 4, 1, 0] rfl)
abbrev w_X4_beginRecovery (h_t : Nat) (h_p1 : Nat) (r_t : Nat → Nat) (r_cache : Nat → Nat) (r_p1 : Nat → Nat) (F_t : Nat → Int32) (F_p1 : Nat → Int32) (cI : ClassId) (a_cache_media : Nat → Int32) (a_micros : Nat → Int32) (a_tallies : Nat → Int32) (a_p1_addresses : Nat → Int32) (a_p1_numbers : Nat → Int32) : va_W := [(h_t, .inr (4, o_X4 r_t F_t)), ((r_t 0), .inr (1, o_X1 r_cache)), ((r_cache 0), .inl (cI, 64, .inl a_cache_media)), ((r_t 1), .inl (cI, 80, .inl a_micros)), ((r_t 11), .inl (cI, 8, .inl a_tallies)), (h_p1, .inr (5, o_X5 r_p1 F_p1)), ((r_p1 1), .inl (cI, 8, .inl a_p1_addresses)), ((r_p1 2), .inl (cI, 8, .inl a_p1_numbers))]
abbrev rm_X4_beginRecovery : Room := { frames := 3, cells := 0, slots := 0, locals := 70 }
def m_X4_beginRecovery (F_t : Nat → Int32) (F_p1 : Nat → Int32) (a_cache_media : Nat → Int32) (a_micros : Nat → Int32) (a_tallies : Nat → Int32) (a_p1_addresses : Nat → Int32) (a_p1_numbers : Nat → Int32) : Option ((Nat → Int32) × (Nat → Int32) × (Nat → Int32) × (Nat → Int32) × (Nat → Int32) × (Nat → Int32)) :=
  rd a_tallies 8 3 fun y1 =>
  wr a_tallies 8 3 (y1 + 1) fun a2 =>
  nm (upd F_t 8 0) fun F3 =>
  rd a_cache_media 64 0 fun y4 =>
  if y4 = 0 then (
  some (F3, F_p1, a_micros, a2, a_p1_addresses, a_p1_numbers))
  else (
  nm (upd F3 8 2) fun F5 =>
  bd (m_X5_planRecovery F_p1 a_p1_addresses a_p1_numbers a_cache_media 64 (F5 9)) fun u6 =>
  bd (m_X4_addWrites F5 u6.1 a_micros u6.2.1 u6.2.2) fun u7 =>
  bd (m_X4_addEnding u7.1 u6.1 u7.2 u6.2.1) fun u8 =>
  some (u8.1, u6.1, u8.2, a2, u6.2.1, u6.2.2))
set_option maxHeartbeats 4000000 in
set_option maxRecDepth 100000 in
theorem c_X4_beginRecovery (l : Launch) (D : va_G) (cI : ClassId) (h_t : Nat) (h_p1 : Nat) (r_t : Nat → Nat) (r_cache : Nat → Nat) (r_p1 : Nat → Nat) (F_t : Nat → Int32) (F_p1 : Nat → Int32) (a_cache_media : Nat → Int32) (a_micros : Nat → Int32) (a_tallies : Nat → Int32) (a_p1_addresses : Nat → Int32) (a_p1_numbers : Nat → Int32) (Rr : (Nat → Int32) × (Nat → Int32) × (Nat → Int32) × (Nat → Int32) × (Nat → Int32) × (Nat → Int32)) (hf : m_X4_beginRecovery F_t F_p1 a_cache_media a_micros a_tallies a_p1_addresses a_p1_numbers = some Rr) : CTv l yX4_beginRecovery (Cond.code yX4_beginRecovery cX4_beginRecovery 2 none) rm_X4_beginRecovery D cI [.ref h_t, .ref h_p1] (w_X4_beginRecovery h_t h_p1 r_t r_cache r_p1 F_t F_p1 cI a_cache_media a_micros a_tallies a_p1_addresses a_p1_numbers) (w_X4_beginRecovery h_t h_p1 r_t r_cache r_p1 Rr.1 Rr.2.1 cI a_cache_media Rr.2.2.1 Rr.2.2.2.1 Rr.2.2.2.2.1 Rr.2.2.2.2.2) := by
  refine z_begin_v (own := RX4) (ρ := (Nat → Int32) × (Nat → Int32) × (Nat → Int32) × (Nat → Int32) × (Nat → Int32) × (Nat → Int32)) (fun u => w_X4_beginRecovery h_t h_p1 r_t r_cache r_p1 u.1 u.2.1 cI a_cache_media u.2.2.1 u.2.2.2.1 u.2.2.2.2.1 u.2.2.2.2.2) (by decide +kernel) rfl (Nat.le_of_ble_eq_true rfl) ?_
  intro p e s m args below meth c ls Q A hx hb hml hts hcx hown hK hX hA hP hD hS hl hret
  have hl : lv_has ls 2 [(0, .ref h_t), (1, .ref h_p1)] := hl
  have hf := (m_X4_beginRecovery.eq_1 _ _ _ _ _ _ _).symm.trans hf
  refine lv_aload_n hx hb dX4_beginRecovery_0 rfl (lv_at hl 0 rfl) ?_
  refine z_get (ci := 4) (C := RX4) (T := TX4) (N := 12) (v := .ref (r_t 11)) hx hb hts inT_X4 hown hK hP 0 rfl rfl 11 (by decide) tf_X4_50 rfl dX4_beginRecovery_1 ?_
  refine lv_iconst (v := 3) hx hb dX4_beginRecovery_4 (by decide) ?_
  refine lv_dup2_11 hx hb dX4_beginRecovery_5 rfl rfl ?_
  refine z_iald hx hb hK hP 4 rfl dX4_beginRecovery_6 hf (fun y1 hf => ?_)
  refine lv_iconst (v := 1) hx hb dX4_beginRecovery_7 (by decide) ?_
  refine lv_iadd hx hb dX4_beginRecovery_8 ?_
  refine z_iast hx hb hK hP hD hS 4 rfl (fun z => w_X4_beginRecovery h_t h_p1 r_t r_cache r_p1 F_t F_p1 cI a_cache_media a_micros z a_p1_addresses a_p1_numbers) (fun _ => rfl) dX4_beginRecovery_9 hf (fun a2 H locs hf hP hD hS => ?_)
  refine lv_aload_n hx hb dX4_beginRecovery_10 rfl (lv_at hl 0 rfl) ?_
  refine lv_iconst (v := 0) hx hb dX4_beginRecovery_11 (by decide) ?_
  refine z_put (ci := 4) (C := RX4) (T := TX4) (N := 12) hx hb hts inT_X4 tyX4 tyX4_ok nmX4 hown hK hP hD hS 0 rfl rfl 8 (by decide) tf_X4_41 rfl (by decide +kernel) (Nat.le_of_ble_eq_true rfl) (o_X4 r_t) (o_X4_s8 _ _ _) (fun z => w_X4_beginRecovery h_t h_p1 r_t r_cache r_p1 z F_p1 cI a_cache_media a_micros a2 a_p1_addresses a_p1_numbers) (fun _ => rfl) dX4_beginRecovery_12 hf (fun F3 H locs hf hP hD hS => ?_)
  refine lv_aload_n hx hb dX4_beginRecovery_15 rfl (lv_at hl 0 rfl) ?_
  refine z_get (ci := 4) (C := RX4) (T := TX4) (N := 12) (v := .ref (r_t 0)) hx hb hts inT_X4 hown hK hP 0 rfl rfl 0 (by decide) tf_X4_12 rfl dX4_beginRecovery_16 ?_
  refine z_get (ci := 1) (C := RX1) (T := TX1) (N := 4) (v := .ref (r_cache 0)) hx hb hts inT_X1 hown hK hP 1 rfl rfl 0 (by decide) tf_X4_160 rfl dX4_beginRecovery_19 ?_
  refine lv_iconst (v := 0) hx hb dX4_beginRecovery_22 (by decide) ?_
  refine z_iald hx hb hK hP 2 rfl dX4_beginRecovery_23 hf (fun y4 hf => ?_)
  refine z_if_eq (tgt := 57) hx hb dX4_beginRecovery_24 (by decide) hf (fun hf => ?_) (fun hf => ?_)
  · exact hret (F3, F_p1, a_micros, a2, a_p1_addresses, a_p1_numbers) _ _ _ _ hf hP hD hS dX4_beginRecovery_57
  · refine lv_aload_n hx hb dX4_beginRecovery_27 rfl (lv_at hl 0 rfl) ?_
    refine lv_iconst (v := 2) hx hb dX4_beginRecovery_28 (by decide) ?_
    refine z_put (ci := 4) (C := RX4) (T := TX4) (N := 12) hx hb hts inT_X4 tyX4 tyX4_ok nmX4 hown hK hP hD hS 0 rfl rfl 8 (by decide) tf_X4_41 rfl (by decide +kernel) (Nat.le_of_ble_eq_true rfl) (o_X4 r_t) (o_X4_s8 _ _ _) (fun z => w_X4_beginRecovery h_t h_p1 r_t r_cache r_p1 z F_p1 cI a_cache_media a_micros a2 a_p1_addresses a_p1_numbers) (fun _ => rfl) dX4_beginRecovery_29 hf (fun F5 H locs hf hP hD hS => ?_)
    refine lv_aload_n hx hb dX4_beginRecovery_32 rfl (lv_at hl 1 rfl) ?_
    refine lv_aload_n hx hb dX4_beginRecovery_33 rfl (lv_at hl 0 rfl) ?_
    refine z_get (ci := 4) (C := RX4) (T := TX4) (N := 12) (v := .ref (r_t 0)) hx hb hts inT_X4 hown hK hP 0 rfl rfl 0 (by decide) tf_X4_12 rfl dX4_beginRecovery_34 ?_
    refine z_get (ci := 1) (C := RX1) (T := TX1) (N := 4) (v := .ref (r_cache 0)) hx hb hts inT_X1 hown hK hP 1 rfl rfl 0 (by decide) tf_X4_160 rfl dX4_beginRecovery_37 ?_
    refine lv_aload_n hx hb dX4_beginRecovery_40 rfl (lv_at hl 0 rfl) ?_
    refine z_get (ci := 4) (C := RX4) (T := TX4) (N := 12) (v := .int (F5 9)) hx hb hts inT_X4 hown hK hP 0 rfl rfl 9 (by decide) tf_X4_44 rfl dX4_beginRecovery_41 ?_
    obtain ⟨u6, hu6, hf⟩ := bd_some hf
    refine z_cv (ws1 := w_X4_beginRecovery h_t h_p1 r_t r_cache r_p1 F5 u6.1 cI a_cache_media a_micros a2 u6.2.1 u6.2.2) (wr := List.filterMap (fun i : Nat => (w_X4_beginRecovery h_t h_p1 r_t r_cache r_p1 F5 F_p1 cI a_cache_media a_micros a2 a_p1_addresses a_p1_numbers)[i]?) [0, 1, 3, 4]) (z_rV (rest := []) hx hb hml hown hcx hl.1 (c_X5_planRecovery l D cI h_p1 (r_cache 0) r_p1 F_p1 64 a_p1_addresses a_p1_numbers a_cache_media (F5 9) u6 hu6 _) tl_X4_163 ti_X5_planRecovery tz_X5_planRecovery tn_X5 tc_X5_planRecovery tm_X5_planRecovery rfl rfl ⟨Nat.le_of_ble_eq_true rfl, Nat.le_of_ble_eq_true rfl⟩ hK hX hS hA hP hD [5, 6, 7, 2] rfl rfl 5 rfl rfl rfl rfl (Nat.le_of_ble_eq_true rfl) dX4_beginRecovery_44 ⟨Nat.zero_le _, Nat.zero_le _⟩) hP hD hS hA [5, 6, 7, 2] [0, 1, 3, 4] [0, 1, 7, 2, 3, 4, 5, 6] rfl rfl rfl (by decide) rfl rfl (fun H locs hP hD hS => ?_)
    refine lv_aload_n hx hb dX4_beginRecovery_47 rfl (lv_at hl 0 rfl) ?_
    refine lv_aload_n hx hb dX4_beginRecovery_48 rfl (lv_at hl 1 rfl) ?_
    obtain ⟨u7, hu7, hf⟩ := bd_some hf
    refine z_cv (ws1 := w_X4_beginRecovery h_t h_p1 r_t r_cache r_p1 u7.1 u6.1 cI a_cache_media u7.2 a2 u6.2.1 u6.2.2) (wr := List.filterMap (fun i : Nat => (w_X4_beginRecovery h_t h_p1 r_t r_cache r_p1 F5 u6.1 cI a_cache_media a_micros a2 u6.2.1 u6.2.2)[i]?) [1, 2, 4]) (z_rV (rest := []) hx hb hml hown hcx hl.1 (c_X4_addWrites l D cI h_t h_p1 r_t r_p1 F5 u6.1 a_micros u6.2.1 u6.2.2 u7 hu7 _) tl_X4_138 ti_X4_addWrites tz_X4_addWrites tn_X4 tc_X4_addWrites tm_X4_addWrites rfl rfl ⟨Nat.le_of_ble_eq_true rfl, Nat.le_of_ble_eq_true rfl⟩ hK hX hS hA hP hD [0, 3, 5, 6, 7] rfl rfl 0 rfl rfl rfl rfl (Nat.le_of_ble_eq_true rfl) dX4_beginRecovery_49 ⟨Nat.zero_le _, Nat.zero_le _⟩) hP hD hS hA [0, 3, 5, 6, 7] [1, 2, 4] [3, 0, 1, 4, 2, 5, 6, 7] rfl rfl rfl (by decide) rfl rfl (fun H locs hP hD hS => ?_)
    refine lv_aload_n hx hb dX4_beginRecovery_52 rfl (lv_at hl 0 rfl) ?_
    refine lv_aload_n hx hb dX4_beginRecovery_53 rfl (lv_at hl 1 rfl) ?_
    obtain ⟨u8, hu8, hf⟩ := bd_some hf
    refine z_cv (ws1 := w_X4_beginRecovery h_t h_p1 r_t r_cache r_p1 u8.1 u6.1 cI a_cache_media u8.2 a2 u6.2.1 u6.2.2) (wr := List.filterMap (fun i : Nat => (w_X4_beginRecovery h_t h_p1 r_t r_cache r_p1 u7.1 u6.1 cI a_cache_media u7.2 a2 u6.2.1 u6.2.2)[i]?) [1, 2, 4, 7]) (z_rV (rest := []) hx hb hml hown hcx hl.1 (c_X4_addEnding l D cI h_t h_p1 r_t r_p1 u7.1 u6.1 u7.2 u6.2.1 u8 hu8 _) tl_X4_113 ti_X4_addEnding tz_X4_addEnding tn_X4 tc_X4_addEnding tm_X4_addEnding rfl rfl ⟨Nat.le_of_ble_eq_true rfl, Nat.le_of_ble_eq_true rfl⟩ hK hX hS hA hP hD [0, 3, 5, 6] rfl rfl 0 rfl rfl rfl rfl (Nat.le_of_ble_eq_true rfl) dX4_beginRecovery_54 ⟨Nat.zero_le _, Nat.zero_le _⟩) hP hD hS hA [0, 3, 5, 6] [1, 2, 4, 7] [4, 0, 1, 5, 2, 6, 7, 3] rfl rfl rfl (by decide) rfl rfl (fun H locs hP hD hS => ?_)
    exact hret (u8.1, u6.1, u8.2, a2, u6.2.1, u6.2.2) _ _ _ _ hf hP hD hS dX4_beginRecovery_57
abbrev w_X11_isAsTold (cI : ClassId) : va_W := []
abbrev rm_X11_isAsTold : Room := { frames := 0, cells := 0, slots := 0, locals := 0 }
def m_X11_isAsTold_j52 (p0 : Int32) (p1 : Int32) (p2 : Int32) : Option (Int32) :=
  if p0 = 2 then (
  if p1 = p2 then (
  some 0)
  else (
  some 1))
  else (
  some 1)
def m_X11_isAsTold_j28 (p0 : Int32) (p1 : Int32) (p2 : Int32) : Option (Int32) :=
  rd K_ARGUMENTS 5 p0 fun y2 =>
  if y2 ≤ 1 then (
  m_X11_isAsTold_j52 p0 p1 p2)
  else (
  if p2 < 0 then (
  some 0)
  else (
  rd K_SECOND_MOST 5 p0 fun y3 =>
  if p2 ≤ y3 then (
  m_X11_isAsTold_j52 p0 p1 p2)
  else (
  some 0)))
def m_X11_isAsTold (p0 : Int32) (p1 : Int32) (p2 : Int32) : Option (Int32) :=
  rd K_ARGUMENTS 5 p0 fun y1 =>
  if y1 ≤ 0 then (
  m_X11_isAsTold_j28 p0 p1 p2)
  else (
  rd K_FIRST_LEAST 5 p0 fun y4 =>
  if p1 < y4 then (
  some 0)
  else (
  rd K_FIRST_MOST 5 p0 fun y5 =>
  if p1 ≤ y5 then (
  m_X11_isAsTold_j28 p0 p1 p2)
  else (
  some 0)))
set_option maxHeartbeats 4000000 in
set_option maxRecDepth 100000 in
theorem c_X11_isAsTold (l : Launch) (D : va_G) (cI : ClassId) (p0 : Int32) (p1 : Int32) (p2 : Int32) (Rr : Int32) (hf : m_X11_isAsTold p0 p1 p2 = some Rr) : CTi l yX11_isAsTold (Cond.code yX11_isAsTold cX11_isAsTold 3 (some .boolean)) rm_X11_isAsTold D cI [.int p0, .int p1, .int p2] (w_X11_isAsTold cI) Rr (w_X11_isAsTold cI) := by
  refine z_begin_z (own := RX11) (ρ := Int32) (fun u => w_X11_isAsTold cI) (fun u => u) (by decide +kernel) rfl (Nat.le_of_ble_eq_true rfl) ?_
  intro p e s m args below meth c ls Q A hx hb hml hts hcx hown hK hX hA hP hD hS hl hret
  obtain ⟨t_ARGUMENTS, hZ_ARGUMENTS, hT_ARGUMENTS⟩ := hX.1
  obtain ⟨t_FIRST_LEAST, hZ_FIRST_LEAST, hT_FIRST_LEAST⟩ := hX.2.1
  obtain ⟨t_FIRST_MOST, hZ_FIRST_MOST, hT_FIRST_MOST⟩ := hX.2.2.1
  obtain ⟨t_SECOND_MOST, hZ_SECOND_MOST, hT_SECOND_MOST⟩ := hX.2.2.2.1
  have hl : lv_has ls 3 [(0, .int p0), (1, .int p1), (2, .int p2)] := hl
  have hf := (m_X11_isAsTold.eq_1 _ _ _).symm.trans hf
  have L52 : ∀ (H : Heap) (locs : List Loc) (ls : Array Slot), m_X11_isAsTold_j52 p0 p1 p2 = some Rr → va_P D vwCl (w_X11_isAsTold cI) H → va_D A (w_X11_isAsTold cI) → va_S A s.heap H locs → lv_has ls 3 [(0, .int p0), (1, .int p1), (2, .int p2)] → W p l e rm_X11_isAsTold s m args below meth c H locs 0 0 Q (F0 m 52 ls []) := by
    intro  H locs ls hf hP hD hS hl
    have hf := (m_X11_isAsTold_j52.eq_1 _ _ _).symm.trans hf
    refine lv_iload_n hx hb dX11_isAsTold_52 rfl (lv_at hl 0 rfl) ?_
    refine lv_iconst (v := 2) hx hb dX11_isAsTold_53 (by decide) ?_
    refine z_icmp_ne (tgt := 62) hx hb dX11_isAsTold_54 (by decide) hf (fun hf => ?_) (fun hf => ?_)
    · refine lv_iconst (v := 1) hx hb dX11_isAsTold_62 (by decide) ?_
      refine lv_goto (tgt := 67) hx hb dX11_isAsTold_63 (by decide) ?_
      exact hret 1 _ _ _ _ (Or.inr rfl) hf hP hD hS dX11_isAsTold_67
    · refine lv_iload_n hx hb dX11_isAsTold_57 rfl (lv_at hl 1 rfl) ?_
      refine lv_iload_n hx hb dX11_isAsTold_58 rfl (lv_at hl 2 rfl) ?_
      refine z_icmp_eq (tgt := 66) hx hb dX11_isAsTold_59 (by decide) hf (fun hf => ?_) (fun hf => ?_)
      · refine lv_iconst (v := 0) hx hb dX11_isAsTold_66 (by decide) ?_
        exact hret 0 _ _ _ _ (Or.inl rfl) hf hP hD hS dX11_isAsTold_67
      · refine lv_iconst (v := 1) hx hb dX11_isAsTold_62 (by decide) ?_
        refine lv_goto (tgt := 67) hx hb dX11_isAsTold_63 (by decide) ?_
        exact hret 1 _ _ _ _ (Or.inr rfl) hf hP hD hS dX11_isAsTold_67
  have L28 : ∀ (H : Heap) (locs : List Loc) (ls : Array Slot), m_X11_isAsTold_j28 p0 p1 p2 = some Rr → va_P D vwCl (w_X11_isAsTold cI) H → va_D A (w_X11_isAsTold cI) → va_S A s.heap H locs → lv_has ls 3 [(0, .int p0), (1, .int p1), (2, .int p2)] → W p l e rm_X11_isAsTold s m args below meth c H locs 0 0 Q (F0 m 28 ls []) := by
    intro  H locs ls hf hP hD hS hl
    have hf := (m_X11_isAsTold_j28.eq_1 _ _ _).symm.trans hf
    refine z_gets hx hb hts hZ_ARGUMENTS hS hown tf_X11_277 dX11_isAsTold_28 ?_
    refine lv_iload_n hx hb dX11_isAsTold_31 rfl (lv_at hl 0 rfl) ?_
    refine z_tald hx hb hT_ARGUMENTS hS dX11_isAsTold_32 hf (fun y2 hf => ?_)
    refine lv_iconst (v := 1) hx hb dX11_isAsTold_33 (by decide) ?_
    refine z_icmp_le (tgt := 52) hx hb dX11_isAsTold_34 (by decide) hf (fun hf => ?_) (fun hf => ?_)
    · exact L52 _ _ _ hf hP hD hS (lv_sub hl [0, 1, 2] rfl)
    · refine lv_iload_n hx hb dX11_isAsTold_37 rfl (lv_at hl 2 rfl) ?_
      refine z_if_lt (tgt := 50) hx hb dX11_isAsTold_38 (by decide) hf (fun hf => ?_) (fun hf => ?_)
      · refine lv_iconst (v := 0) hx hb dX11_isAsTold_50 (by decide) ?_
        exact hret 0 _ _ _ _ (Or.inl rfl) hf hP hD hS dX11_isAsTold_51
      · refine lv_iload_n hx hb dX11_isAsTold_41 rfl (lv_at hl 2 rfl) ?_
        refine z_gets hx hb hts hZ_SECOND_MOST hS hown tf_X11_286 dX11_isAsTold_42 ?_
        refine lv_iload_n hx hb dX11_isAsTold_45 rfl (lv_at hl 0 rfl) ?_
        refine z_tald hx hb hT_SECOND_MOST hS dX11_isAsTold_46 hf (fun y3 hf => ?_)
        refine z_icmp_le (tgt := 52) hx hb dX11_isAsTold_47 (by decide) hf (fun hf => ?_) (fun hf => ?_)
        · exact L52 _ _ _ hf hP hD hS (lv_sub hl [0, 1, 2] rfl)
        · refine lv_iconst (v := 0) hx hb dX11_isAsTold_50 (by decide) ?_
          exact hret 0 _ _ _ _ (Or.inl rfl) hf hP hD hS dX11_isAsTold_51
  refine z_gets hx hb hts hZ_ARGUMENTS hS hown tf_X11_277 dX11_isAsTold_0 ?_
  refine lv_iload_n hx hb dX11_isAsTold_3 rfl (lv_at hl 0 rfl) ?_
  refine z_tald hx hb hT_ARGUMENTS hS dX11_isAsTold_4 hf (fun y1 hf => ?_)
  refine z_if_le (tgt := 28) hx hb dX11_isAsTold_5 (by decide) hf (fun hf => ?_) (fun hf => ?_)
  · exact L28 _ _ _ hf hP hD hS (lv_sub hl [0, 1, 2] rfl)
  · refine lv_iload_n hx hb dX11_isAsTold_8 rfl (lv_at hl 1 rfl) ?_
    refine z_gets hx hb hts hZ_FIRST_LEAST hS hown tf_X11_280 dX11_isAsTold_9 ?_
    refine lv_iload_n hx hb dX11_isAsTold_12 rfl (lv_at hl 0 rfl) ?_
    refine z_tald hx hb hT_FIRST_LEAST hS dX11_isAsTold_13 hf (fun y4 hf => ?_)
    refine z_icmp_lt (tgt := 26) hx hb dX11_isAsTold_14 (by decide) hf (fun hf => ?_) (fun hf => ?_)
    · refine lv_iconst (v := 0) hx hb dX11_isAsTold_26 (by decide) ?_
      exact hret 0 _ _ _ _ (Or.inl rfl) hf hP hD hS dX11_isAsTold_27
    · refine lv_iload_n hx hb dX11_isAsTold_17 rfl (lv_at hl 1 rfl) ?_
      refine z_gets hx hb hts hZ_FIRST_MOST hS hown tf_X11_283 dX11_isAsTold_18 ?_
      refine lv_iload_n hx hb dX11_isAsTold_21 rfl (lv_at hl 0 rfl) ?_
      refine z_tald hx hb hT_FIRST_MOST hS dX11_isAsTold_22 hf (fun y5 hf => ?_)
      refine z_icmp_le (tgt := 28) hx hb dX11_isAsTold_23 (by decide) hf (fun hf => ?_) (fun hf => ?_)
      · exact L28 _ _ _ hf hP hD hS (lv_sub hl [0, 1, 2] rfl)
      · refine lv_iconst (v := 0) hx hb dX11_isAsTold_26 (by decide) ?_
        exact hret 0 _ _ _ _ (Or.inl rfl) hf hP hD hS dX11_isAsTold_27
abbrev w_X4_addWaiting (h_t : Nat) (r_t : Nat → Nat) (F_t : Nat → Int32) (cI : ClassId) (a_waiting : Nat → Int32) : va_W := [(h_t, .inr (4, o_X4 r_t F_t)), ((r_t 6), .inl (cI, 48, .inl a_waiting))]
abbrev rm_X4_addWaiting : Room := { frames := 0, cells := 0, slots := 0, locals := 0 }
def m_X4_addWaiting_j44 (p1 : Int32) (F_t : Nat → Int32) (a_waiting : Nat → Int32) : Option ((Nat → Int32) × (Nat → Int32)) :=
  nm (upd F_t 7 ((F_t 7) + 1)) fun F1 =>
  some (F1, a_waiting)
def m_X4_addWaiting_j37 (p1 : Int32) (k11 : Int32 → (Nat → Int32) → (Nat → Int32) → Option ((Nat → Int32) × (Nat → Int32))) (x2 : Int32) (s1 : Int32) (s2 : Int32) (F_t : Nat → Int32) (a_waiting : Nat → Int32) : Option ((Nat → Int32) × (Nat → Int32)) :=
  wr a_waiting 48 s1 s2 fun a2 =>
  nm (x2 + 1) fun v3 =>
  k11 v3 F_t a2
def m_X4_addWaiting_w11 (p1 : Int32) (k44 : (Nat → Int32) → (Nat → Int32) → Option ((Nat → Int32) × (Nat → Int32))) : Nat → Int32 → (Nat → Int32) → (Nat → Int32) → Option ((Nat → Int32) × (Nat → Int32))
  | 0, _, _, _ => none
  | n11 + 1, x2, F_t, a_waiting =>
    if 4 ≤ x2 then (
    k44 F_t a_waiting)
    else (
    if x2 = 0 then (
    m_X4_addWaiting_j37 p1 (m_X4_addWaiting_w11 p1 k44 n11) x2 (((F_t 7) * 4) + x2) p1 F_t a_waiting)
    else (
    m_X4_addWaiting_j37 p1 (m_X4_addWaiting_w11 p1 k44 n11) x2 (((F_t 7) * 4) + x2) 0 F_t a_waiting))
def m_X4_addWaiting (F_t : Nat → Int32) (a_waiting : Nat → Int32) (p1 : Int32) : Option ((Nat → Int32) × (Nat → Int32)) :=
  if 12 ≤ (F_t 7) then (
  some (F_t, a_waiting))
  else (
  m_X4_addWaiting_w11 p1 (m_X4_addWaiting_j44 p1) fuelN 0 F_t a_waiting)
set_option maxHeartbeats 4000000 in
set_option maxRecDepth 100000 in
theorem c_X4_addWaiting (l : Launch) (D : va_G) (cI : ClassId) (h_t : Nat) (r_t : Nat → Nat) (F_t : Nat → Int32) (a_waiting : Nat → Int32) (p1 : Int32) (Rr : (Nat → Int32) × (Nat → Int32)) (hf : m_X4_addWaiting F_t a_waiting p1 = some Rr) : CTv l yX4_addWaiting (Cond.code yX4_addWaiting cX4_addWaiting 3 none) rm_X4_addWaiting D cI [.ref h_t, .int p1] (w_X4_addWaiting h_t r_t F_t cI a_waiting) (w_X4_addWaiting h_t r_t Rr.1 cI Rr.2) := by
  refine z_begin_v (own := RX4) (ρ := (Nat → Int32) × (Nat → Int32)) (fun u => w_X4_addWaiting h_t r_t u.1 cI u.2) (by decide +kernel) rfl (Nat.le_of_ble_eq_true rfl) ?_
  intro p e s m args below meth c ls Q A hx hb hml hts hcx hown hK hX hA hP hD hS hl hret
  have hl : lv_has ls 3 [(0, .ref h_t), (1, .int p1)] := hl
  have hf := (m_X4_addWaiting.eq_1 _ _ _).symm.trans hf
  have L44 : ∀ (F_t : Nat → Int32) (a_waiting : Nat → Int32) (H : Heap) (locs : List Loc) (ls : Array Slot), m_X4_addWaiting_j44 p1 F_t a_waiting = some Rr → va_P D vwCl (w_X4_addWaiting h_t r_t F_t cI a_waiting) H → va_D A (w_X4_addWaiting h_t r_t F_t cI a_waiting) → va_S A s.heap H locs → lv_has ls 3 [(0, .ref h_t)] → W p l e rm_X4_addWaiting s m args below meth c H locs 0 0 Q (F0 m 44 ls []) := by
    intro F_t a_waiting H locs ls hf hP hD hS hl
    have hf := (m_X4_addWaiting_j44.eq_1 _ _ _).symm.trans hf
    refine lv_aload_n hx hb dX4_addWaiting_44 rfl (lv_at hl 0 rfl) ?_
    refine lv_dup hx hb dX4_addWaiting_45 rfl ?_
    refine z_get (ci := 4) (C := RX4) (T := TX4) (N := 12) (v := .int (F_t 7)) hx hb hts inT_X4 hown hK hP 0 rfl rfl 7 (by decide) tf_X4_38 rfl dX4_addWaiting_46 ?_
    refine lv_iconst (v := 1) hx hb dX4_addWaiting_49 (by decide) ?_
    refine lv_iadd hx hb dX4_addWaiting_50 ?_
    refine z_put (ci := 4) (C := RX4) (T := TX4) (N := 12) hx hb hts inT_X4 tyX4 tyX4_ok nmX4 hown hK hP hD hS 0 rfl rfl 7 (by decide) tf_X4_38 rfl (by decide +kernel) (Nat.le_of_ble_eq_true rfl) (o_X4 r_t) (o_X4_s7 _ _ _) (fun z => w_X4_addWaiting h_t r_t z cI a_waiting) (fun _ => rfl) dX4_addWaiting_51 hf (fun F1 H locs hf hP hD hS => ?_)
    exact hret (F1, a_waiting) _ _ _ _ hf hP hD hS dX4_addWaiting_54
  have L11 : ∀ (n11 : Nat) (x2 : Int32) (F_t : Nat → Int32) (a_waiting : Nat → Int32) (H : Heap) (locs : List Loc) (ls : Array Slot), m_X4_addWaiting_w11 p1 (m_X4_addWaiting_j44 p1) n11 x2 F_t a_waiting = some Rr → va_P D vwCl (w_X4_addWaiting h_t r_t F_t cI a_waiting) H → va_D A (w_X4_addWaiting h_t r_t F_t cI a_waiting) → va_S A s.heap H locs → lv_has ls 3 [(0, .ref h_t), (1, .int p1), (2, .int x2)] → W p l e rm_X4_addWaiting s m args below meth c H locs 0 0 Q (F0 m 11 ls []) := by
    intro n11
    induction n11 with
    | zero => intro x2 F_t a_waiting H locs ls hf; cases (show (none : Option _) = some Rr from hf)
    | succ n11 ih11 =>
      intro x2 F_t a_waiting H locs ls hf hP hD hS hl
      have hf := (m_X4_addWaiting_w11.eq_2 _ _ _ _ _ _).symm.trans hf
      have L37 : ∀ (x2 : Int32) (s1 : Int32) (s2 : Int32) (F_t : Nat → Int32) (a_waiting : Nat → Int32) (H : Heap) (locs : List Loc) (ls : Array Slot), m_X4_addWaiting_j37 p1 (m_X4_addWaiting_w11 p1 (m_X4_addWaiting_j44 p1) n11) x2 s1 s2 F_t a_waiting = some Rr → va_P D vwCl (w_X4_addWaiting h_t r_t F_t cI a_waiting) H → va_D A (w_X4_addWaiting h_t r_t F_t cI a_waiting) → va_S A s.heap H locs → lv_has ls 3 [(0, .ref h_t), (1, .int p1), (2, .int x2)] → W p l e rm_X4_addWaiting s m args below meth c H locs 0 0 Q (F0 m 37 ls [.int s2, .int s1, .ref (r_t 6)]) := by
        intro x2 s1 s2 F_t a_waiting H locs ls hf hP hD hS hl
        have hf := (m_X4_addWaiting_j37.eq_1 _ _ _ _ _ _ _).symm.trans hf
        refine z_iast hx hb hK hP hD hS 1 rfl (fun z => w_X4_addWaiting h_t r_t F_t cI z) (fun _ => rfl) dX4_addWaiting_37 hf (fun a2 H locs hf hP hD hS => ?_)
        refine z_iinc (k0 := 2) (fun z => [(2, .int z), (0, .ref h_t), (1, .int p1)]) hx hb dX4_addWaiting_38 hl rfl (by decide) (by decide) (fun _ => rfl) hf (fun v3 ls hf hl => ?_)
        refine lv_goto (tgt := 11) hx hb dX4_addWaiting_41 (by decide) ?_
        exact ih11 v3 F_t a2 _ _ _ hf hP hD hS (lv_sub hl [1, 2, 0] rfl)
      refine lv_iload_n hx hb dX4_addWaiting_11 rfl (lv_at hl 2 rfl) ?_
      refine lv_iconst (v := 4) hx hb dX4_addWaiting_12 (by decide) ?_
      refine z_icmp_ge (tgt := 44) hx hb dX4_addWaiting_13 (by decide) hf (fun hf => ?_) (fun hf => ?_)
      · exact L44 F_t a_waiting _ _ _ hf hP hD hS (lv_sub hl [0] rfl)
      · refine lv_aload_n hx hb dX4_addWaiting_16 rfl (lv_at hl 0 rfl) ?_
        refine z_get (ci := 4) (C := RX4) (T := TX4) (N := 12) (v := .ref (r_t 6)) hx hb hts inT_X4 hown hK hP 0 rfl rfl 6 (by decide) tf_X4_35 rfl dX4_addWaiting_17 ?_
        refine lv_aload_n hx hb dX4_addWaiting_20 rfl (lv_at hl 0 rfl) ?_
        refine z_get (ci := 4) (C := RX4) (T := TX4) (N := 12) (v := .int (F_t 7)) hx hb hts inT_X4 hown hK hP 0 rfl rfl 7 (by decide) tf_X4_38 rfl dX4_addWaiting_21 ?_
        refine lv_iconst (v := 4) hx hb dX4_addWaiting_24 (by decide) ?_
        refine lv_imul hx hb dX4_addWaiting_25 ?_
        refine lv_iload_n hx hb dX4_addWaiting_26 rfl (lv_at hl 2 rfl) ?_
        refine lv_iadd hx hb dX4_addWaiting_27 ?_
        refine lv_iload_n hx hb dX4_addWaiting_28 rfl (lv_at hl 2 rfl) ?_
        refine z_if_ne (tgt := 36) hx hb dX4_addWaiting_29 (by decide) hf (fun hf => ?_) (fun hf => ?_)
        · refine lv_iconst (v := 0) hx hb dX4_addWaiting_36 (by decide) ?_
          exact L37 x2 (((F_t 7) * 4) + x2) 0 F_t a_waiting _ _ _ hf hP hD hS (lv_sub hl [0, 1, 2] rfl)
        · refine lv_iload_n hx hb dX4_addWaiting_32 rfl (lv_at hl 1 rfl) ?_
          refine lv_goto (tgt := 37) hx hb dX4_addWaiting_33 (by decide) ?_
          exact L37 x2 (((F_t 7) * 4) + x2) p1 F_t a_waiting _ _ _ hf hP hD hS (lv_sub hl [0, 1, 2] rfl)
  refine lv_aload_n hx hb dX4_addWaiting_0 rfl (lv_at hl 0 rfl) ?_
  refine z_get (ci := 4) (C := RX4) (T := TX4) (N := 12) (v := .int (F_t 7)) hx hb hts inT_X4 hown hK hP 0 rfl rfl 7 (by decide) tf_X4_38 rfl dX4_addWaiting_1 ?_
  refine lv_bipush (v := 12) hx hb dX4_addWaiting_4 (by decide) ?_
  refine z_icmp_ge (tgt := 54) hx hb dX4_addWaiting_6 (by decide) hf (fun hf => ?_) (fun hf => ?_)
  · exact hret (F_t, a_waiting) _ _ _ _ hf hP hD hS dX4_addWaiting_54
  · refine lv_iconst (v := 0) hx hb dX4_addWaiting_9 (by decide) ?_
    refine lv_istore_n (lv' := [(2, .int 0), (0, .ref h_t), (1, .int p1)]) hx hb dX4_addWaiting_10 rfl hl (by decide) rfl (fun ls hl => ?_)
    exact L11 fuelN 0 F_t a_waiting _ _ _ hf hP hD hS (lv_sub hl [1, 2, 0] rfl)
abbrev w_X9_goOn (h_t : Nat) (h_p1 : Nat) (r_t : Nat → Nat) (r_p1 : Nat → Nat) (cI : ClassId) (a_row : Nat → Int32) (a_picture : Nat → Int32) (a_p1_media : Nat → Int32) (a_p1_stores : Nat → Int32) (a_p1_held : Nat → Int32) : va_W := [(h_t, .inr (9, o_X9 r_t)), ((r_t 0), .inl (cI, 16, .inl a_row)), ((r_t 1), .inl (cI, 64, .inl a_picture)), (h_p1, .inr (1, o_X1 r_p1)), ((r_p1 0), .inl (cI, 64, .inl a_p1_media)), ((r_p1 1), .inl (cI, 96, .inl a_p1_stores)), ((r_p1 2), .inl (cI, 16, .inl a_p1_held))]
abbrev rm_X9_goOn : Room := { frames := 1, cells := 0, slots := 0, locals := 40 }
def m_X9_goOn_j64 (a_p1_media : Nat → Int32) (a_p1_stores : Nat → Int32) (a_p1_held : Nat → Int32) (k3 : Int32 → (Nat → Int32) → (Nat → Int32) → Option ((Nat → Int32) × (Nat → Int32))) (x2 : Int32) (a_row : Nat → Int32) (a_picture : Nat → Int32) : Option ((Nat → Int32) × (Nat → Int32)) :=
  nm (x2 + (-1)) fun v4 =>
  k3 v4 a_row a_picture
def m_X9_goOn_j22 (a_p1_media : Nat → Int32) (a_p1_stores : Nat → Int32) (a_p1_held : Nat → Int32) (x2 : Int32) (a_row : Nat → Int32) (a_picture : Nat → Int32) : Option ((Nat → Int32) × (Nat → Int32)) :=
  bd (m_X9_raise a_row a_picture a_p1_stores a_p1_held x2 1) fun u7 =>
  some (u7.1, u7.2)
def m_X9_goOn_w3 (a_p1_media : Nat → Int32) (a_p1_stores : Nat → Int32) (a_p1_held : Nat → Int32) (k22 : Int32 → (Nat → Int32) → (Nat → Int32) → Option ((Nat → Int32) × (Nat → Int32))) : Nat → Int32 → (Nat → Int32) → (Nat → Int32) → Option ((Nat → Int32) × (Nat → Int32))
  | 0, _, _, _ => none
  | n3 + 1, x2, a_row, a_picture =>
    if x2 < 0 then (
    some (a_row, a_picture))
    else (
    rd a_row 16 x2 fun y1 =>
    rd a_p1_held 16 x2 fun y2 =>
    if y2 ≤ y1 then (
    rd a_row 16 x2 fun y3 =>
    if y3 ≤ 0 then (
    m_X9_goOn_j64 a_p1_media a_p1_stores a_p1_held (m_X9_goOn_w3 a_p1_media a_p1_stores a_p1_held k22 n3) x2 a_row a_picture)
    else (
    wr a_row 16 x2 0 fun a5 =>
    cp a_p1_media a_picture 64 64 (x2 * 4) (x2 * 4) 4 fun a6 =>
    m_X9_goOn_j64 a_p1_media a_p1_stores a_p1_held (m_X9_goOn_w3 a_p1_media a_p1_stores a_p1_held k22 n3) x2 a5 a6))
    else (
    k22 x2 a_row a_picture))
def m_X9_goOn (a_row : Nat → Int32) (a_picture : Nat → Int32) (a_p1_media : Nat → Int32) (a_p1_stores : Nat → Int32) (a_p1_held : Nat → Int32) : Option ((Nat → Int32) × (Nat → Int32)) :=
  m_X9_goOn_w3 a_p1_media a_p1_stores a_p1_held (m_X9_goOn_j22 a_p1_media a_p1_stores a_p1_held) fuelN 15 a_row a_picture
set_option maxHeartbeats 4000000 in
set_option maxRecDepth 100000 in
theorem c_X9_goOn (l : Launch) (D : va_G) (cI : ClassId) (h_t : Nat) (h_p1 : Nat) (r_t : Nat → Nat) (r_p1 : Nat → Nat) (a_row : Nat → Int32) (a_picture : Nat → Int32) (a_p1_media : Nat → Int32) (a_p1_stores : Nat → Int32) (a_p1_held : Nat → Int32) (Rr : (Nat → Int32) × (Nat → Int32)) (hf : m_X9_goOn a_row a_picture a_p1_media a_p1_stores a_p1_held = some Rr) : CTv l yX9_goOn (Cond.code yX9_goOn cX9_goOn 3 none) rm_X9_goOn D cI [.ref h_t, .ref h_p1] (w_X9_goOn h_t h_p1 r_t r_p1 cI a_row a_picture a_p1_media a_p1_stores a_p1_held) (w_X9_goOn h_t h_p1 r_t r_p1 cI Rr.1 Rr.2 a_p1_media a_p1_stores a_p1_held) := by
  refine z_begin_v (own := RX9) (ρ := (Nat → Int32) × (Nat → Int32)) (fun u => w_X9_goOn h_t h_p1 r_t r_p1 cI u.1 u.2 a_p1_media a_p1_stores a_p1_held) (by decide +kernel) rfl (Nat.le_of_ble_eq_true rfl) ?_
  intro p e s m args below meth c ls Q A hx hb hml hts hcx hown hK hX hA hP hD hS hl hret
  have hl : lv_has ls 3 [(0, .ref h_t), (1, .ref h_p1)] := hl
  have hf := (m_X9_goOn.eq_1 _ _ _ _ _).symm.trans hf
  have L22 : ∀ (x2 : Int32) (a_row : Nat → Int32) (a_picture : Nat → Int32) (H : Heap) (locs : List Loc) (ls : Array Slot), m_X9_goOn_j22 a_p1_media a_p1_stores a_p1_held x2 a_row a_picture = some Rr → va_P D vwCl (w_X9_goOn h_t h_p1 r_t r_p1 cI a_row a_picture a_p1_media a_p1_stores a_p1_held) H → va_D A (w_X9_goOn h_t h_p1 r_t r_p1 cI a_row a_picture a_p1_media a_p1_stores a_p1_held) → va_S A s.heap H locs → lv_has ls 3 [(0, .ref h_t), (1, .ref h_p1), (2, .int x2)] → W p l e rm_X9_goOn s m args below meth c H locs 0 0 Q (F0 m 22 ls []) := by
    intro x2 a_row a_picture H locs ls hf hP hD hS hl
    have hf := (m_X9_goOn_j22.eq_1 _ _ _ _ _ _).symm.trans hf
    refine lv_aload_n hx hb dX9_goOn_22 rfl (lv_at hl 0 rfl) ?_
    refine lv_aload_n hx hb dX9_goOn_23 rfl (lv_at hl 1 rfl) ?_
    refine lv_iload_n hx hb dX9_goOn_24 rfl (lv_at hl 2 rfl) ?_
    refine lv_iconst (v := 1) hx hb dX9_goOn_25 (by decide) ?_
    obtain ⟨u7, hu7, hf⟩ := bd_some hf
    refine z_cv (ws1 := w_X9_goOn h_t h_p1 r_t r_p1 cI u7.1 u7.2 a_p1_media a_p1_stores a_p1_held) (wr := List.filterMap (fun i : Nat => (w_X9_goOn h_t h_p1 r_t r_p1 cI a_row a_picture a_p1_media a_p1_stores a_p1_held)[i]?) [4]) (z_rV (rest := []) hx hb hml hown hcx hl.1 (c_X9_raise l D cI h_t h_p1 r_t r_p1 a_row a_picture a_p1_stores a_p1_held x2 1 u7 hu7 _) tl_X9_45 ti_X9_raise tz_X9_raise tn_X9 tc_X9_raise tm_X9_raise rfl rfl ⟨Nat.le_of_ble_eq_true rfl, Nat.le_of_ble_eq_true rfl⟩ hK hX hS hA hP hD [0, 1, 2, 3, 5, 6] rfl rfl 0 rfl rfl rfl rfl (Nat.le_of_ble_eq_true rfl) dX9_goOn_26 ⟨Nat.zero_le _, Nat.zero_le _⟩) hP hD hS hA [0, 1, 2, 3, 5, 6] [4] [1, 2, 3, 4, 0, 5, 6] rfl rfl rfl (by decide) rfl rfl (fun H locs hP hD hS => ?_)
    exact hret (u7.1, u7.2) _ _ _ _ hf hP hD hS dX9_goOn_29
  have L3 : ∀ (n3 : Nat) (x2 : Int32) (a_row : Nat → Int32) (a_picture : Nat → Int32) (H : Heap) (locs : List Loc) (ls : Array Slot), m_X9_goOn_w3 a_p1_media a_p1_stores a_p1_held (m_X9_goOn_j22 a_p1_media a_p1_stores a_p1_held) n3 x2 a_row a_picture = some Rr → va_P D vwCl (w_X9_goOn h_t h_p1 r_t r_p1 cI a_row a_picture a_p1_media a_p1_stores a_p1_held) H → va_D A (w_X9_goOn h_t h_p1 r_t r_p1 cI a_row a_picture a_p1_media a_p1_stores a_p1_held) → va_S A s.heap H locs → lv_has ls 3 [(0, .ref h_t), (1, .ref h_p1), (2, .int x2)] → W p l e rm_X9_goOn s m args below meth c H locs 0 0 Q (F0 m 3 ls []) := by
    intro n3
    induction n3 with
    | zero => intro x2 a_row a_picture H locs ls hf; cases (show (none : Option _) = some Rr from hf)
    | succ n3 ih3 =>
      intro x2 a_row a_picture H locs ls hf hP hD hS hl
      have hf := (m_X9_goOn_w3.eq_2 _ _ _ _ _ _ _ _).symm.trans hf
      have L64 : ∀ (x2 : Int32) (a_row : Nat → Int32) (a_picture : Nat → Int32) (H : Heap) (locs : List Loc) (ls : Array Slot), m_X9_goOn_j64 a_p1_media a_p1_stores a_p1_held (m_X9_goOn_w3 a_p1_media a_p1_stores a_p1_held (m_X9_goOn_j22 a_p1_media a_p1_stores a_p1_held) n3) x2 a_row a_picture = some Rr → va_P D vwCl (w_X9_goOn h_t h_p1 r_t r_p1 cI a_row a_picture a_p1_media a_p1_stores a_p1_held) H → va_D A (w_X9_goOn h_t h_p1 r_t r_p1 cI a_row a_picture a_p1_media a_p1_stores a_p1_held) → va_S A s.heap H locs → lv_has ls 3 [(0, .ref h_t), (1, .ref h_p1), (2, .int x2)] → W p l e rm_X9_goOn s m args below meth c H locs 0 0 Q (F0 m 64 ls []) := by
        intro x2 a_row a_picture H locs ls hf hP hD hS hl
        have hf := (m_X9_goOn_j64.eq_1 _ _ _ _ _ _ _).symm.trans hf
        refine z_iinc (k0 := 2) (fun z => [(2, .int z), (0, .ref h_t), (1, .ref h_p1)]) hx hb dX9_goOn_64 hl rfl (by decide) (by decide) (fun _ => rfl) hf (fun v4 ls hf hl => ?_)
        refine lv_goto (tgt := 3) hx hb dX9_goOn_67 (by decide) ?_
        exact ih3 v4 a_row a_picture _ _ _ hf hP hD hS (lv_sub hl [1, 2, 0] rfl)
      refine lv_iload_n hx hb dX9_goOn_3 rfl (lv_at hl 2 rfl) ?_
      refine z_if_lt (tgt := 70) hx hb dX9_goOn_4 (by decide) hf (fun hf => ?_) (fun hf => ?_)
      · exact hret (a_row, a_picture) _ _ _ _ hf hP hD hS dX9_goOn_70
      · refine lv_aload_n hx hb dX9_goOn_7 rfl (lv_at hl 0 rfl) ?_
        refine z_get (ci := 9) (C := RX9) (T := TX9) (N := 3) (v := .ref (r_t 0)) hx hb hts inT_X9 hown hK hP 0 rfl rfl 0 (by decide) tf_X9_9 rfl dX9_goOn_8 ?_
        refine lv_iload_n hx hb dX9_goOn_11 rfl (lv_at hl 2 rfl) ?_
        refine z_iald hx hb hK hP 1 rfl dX9_goOn_12 hf (fun y1 hf => ?_)
        refine lv_aload_n hx hb dX9_goOn_13 rfl (lv_at hl 1 rfl) ?_
        refine z_get (ci := 1) (C := RX1) (T := TX1) (N := 4) (v := .ref (r_p1 2)) hx hb hts inT_X1 hown hK hP 3 rfl rfl 2 (by decide) tf_X9_42 rfl dX9_goOn_14 ?_
        refine lv_iload_n hx hb dX9_goOn_17 rfl (lv_at hl 2 rfl) ?_
        refine z_iald hx hb hK hP 6 rfl dX9_goOn_18 hf (fun y2 hf => ?_)
        refine z_icmp_ge (tgt := 30) hx hb dX9_goOn_19 (by decide) hf (fun hf => ?_) (fun hf => ?_)
        · refine lv_aload_n hx hb dX9_goOn_30 rfl (lv_at hl 0 rfl) ?_
          refine z_get (ci := 9) (C := RX9) (T := TX9) (N := 3) (v := .ref (r_t 0)) hx hb hts inT_X9 hown hK hP 0 rfl rfl 0 (by decide) tf_X9_9 rfl dX9_goOn_31 ?_
          refine lv_iload_n hx hb dX9_goOn_34 rfl (lv_at hl 2 rfl) ?_
          refine z_iald hx hb hK hP 1 rfl dX9_goOn_35 hf (fun y3 hf => ?_)
          refine z_if_le (tgt := 64) hx hb dX9_goOn_36 (by decide) hf (fun hf => ?_) (fun hf => ?_)
          · exact L64 x2 a_row a_picture _ _ _ hf hP hD hS (lv_sub hl [0, 1, 2] rfl)
          · refine lv_aload_n hx hb dX9_goOn_39 rfl (lv_at hl 0 rfl) ?_
            refine z_get (ci := 9) (C := RX9) (T := TX9) (N := 3) (v := .ref (r_t 0)) hx hb hts inT_X9 hown hK hP 0 rfl rfl 0 (by decide) tf_X9_9 rfl dX9_goOn_40 ?_
            refine lv_iload_n hx hb dX9_goOn_43 rfl (lv_at hl 2 rfl) ?_
            refine lv_iconst (v := 0) hx hb dX9_goOn_44 (by decide) ?_
            refine z_iast hx hb hK hP hD hS 1 rfl (fun z => w_X9_goOn h_t h_p1 r_t r_p1 cI z a_picture a_p1_media a_p1_stores a_p1_held) (fun _ => rfl) dX9_goOn_45 hf (fun a5 H locs hf hP hD hS => ?_)
            refine lv_aload_n hx hb dX9_goOn_46 rfl (lv_at hl 1 rfl) ?_
            refine z_get (ci := 1) (C := RX1) (T := TX1) (N := 4) (v := .ref (r_p1 0)) hx hb hts inT_X1 hown hK hP 3 rfl rfl 0 (by decide) tf_X9_27 rfl dX9_goOn_47 ?_
            refine lv_iload_n hx hb dX9_goOn_50 rfl (lv_at hl 2 rfl) ?_
            refine lv_iconst (v := 4) hx hb dX9_goOn_51 (by decide) ?_
            refine lv_imul hx hb dX9_goOn_52 ?_
            refine lv_aload_n hx hb dX9_goOn_53 rfl (lv_at hl 0 rfl) ?_
            refine z_get (ci := 9) (C := RX9) (T := TX9) (N := 3) (v := .ref (r_t 1)) hx hb hts inT_X9 hown hK hP 0 rfl rfl 1 (by decide) tf_X9_15 rfl dX9_goOn_54 ?_
            refine lv_iload_n hx hb dX9_goOn_57 rfl (lv_at hl 2 rfl) ?_
            refine lv_iconst (v := 4) hx hb dX9_goOn_58 (by decide) ?_
            refine lv_imul hx hb dX9_goOn_59 ?_
            refine lv_iconst (v := 4) hx hb dX9_goOn_60 (by decide) ?_
            refine z_copy (rest := []) hx hb (hml.trans hl.1.symm) hown hts tl_X9_32 tnat_copy ts_copy tn_J10 hK hP hD hS 4 2 rfl rfl (fun z => w_X9_goOn h_t h_p1 r_t r_p1 cI a5 z a_p1_media a_p1_stores a_p1_held) (fun _ => rfl) (Nat.le_of_ble_eq_true rfl) (by decide) dX9_goOn_61 hf (fun a6 H locs hf hP hD hS => ?_)
            exact L64 x2 a5 a6 _ _ _ hf hP hD hS (lv_sub hl [0, 1, 2] rfl)
        · exact L22 x2 a_row a_picture _ _ _ hf hP hD hS (lv_sub hl [0, 1, 2] rfl)
  refine lv_bipush (v := 15) hx hb dX9_goOn_0 (by decide) ?_
  refine lv_istore_n (lv' := [(2, .int 15), (0, .ref h_t), (1, .ref h_p1)]) hx hb dX9_goOn_2 rfl hl (by decide) rfl (fun ls hl => ?_)
  exact L3 fuelN 15 a_row a_picture _ _ _ hf hP hD hS (lv_sub hl [1, 2, 0] rfl)
abbrev w_X2_countBad (h_t : Nat) (r_t : Nat → Nat) (r_trial : Nat → Nat) (r_trial_cache : Nat → Nat) (r_walk : Nat → Nat) (F_t : Nat → Int32) (F_trial : Nat → Int32) (cI : ClassId) (a_trial_cache_media : Nat → Int32) (a_trial_cache_stores : Nat → Int32) (a_trial_cache_held : Nat → Int32) (a_trial_before : Nat → Int32) (a_trial_after : Nat → Int32) (a_walk_row : Nat → Int32) (a_walk_picture : Nat → Int32) (a_walk_settled : Nat → Int32) : va_W := [(h_t, .inr (2, o_X2 r_t F_t)), ((r_t 0), .inr (4, o_X4 r_trial F_trial)), ((r_trial 0), .inr (1, o_X1 r_trial_cache)), ((r_trial_cache 0), .inl (cI, 64, .inl a_trial_cache_media)), ((r_trial_cache 1), .inl (cI, 96, .inl a_trial_cache_stores)), ((r_trial_cache 2), .inl (cI, 16, .inl a_trial_cache_held)), ((r_trial 4), .inl (cI, 44, .inl a_trial_before)), ((r_trial 5), .inl (cI, 44, .inl a_trial_after)), ((r_t 2), .inr (9, o_X9 r_walk)), ((r_walk 0), .inl (cI, 16, .inl a_walk_row)), ((r_walk 1), .inl (cI, 64, .inl a_walk_picture)), ((r_walk 2), .inl (cI, 64, .inl a_walk_settled))]
abbrev rm_X2_countBad : Room := { frames := 4, cells := 0, slots := 0, locals := 92 }
def m_X2_countBad_j83 (F_trial : Nat → Int32) (a_trial_cache_media : Nat → Int32) (a_trial_cache_stores : Nat → Int32) (a_trial_cache_held : Nat → Int32) (a_trial_before : Nat → Int32) (a_trial_after : Nat → Int32) (p1 : Int32) (p2 : Int32) (k29 : Int32 → Int32 → (Nat → Int32) → (Nat → Int32) → (Nat → Int32) → (Nat → Int32) → Option ((Nat → Int32) × (Nat → Int32) × (Nat → Int32) × (Nat → Int32))) (x3 : Int32) (x4 : Int32) (F_t : Nat → Int32) (a_walk_row : Nat → Int32) (a_walk_picture : Nat → Int32) (a_walk_settled : Nat → Int32) : Option ((Nat → Int32) × (Nat → Int32) × (Nat → Int32) × (Nat → Int32)) :=
  bd (m_X9_goOn a_walk_row a_walk_picture a_trial_cache_media a_trial_cache_stores a_trial_cache_held) fun u4 =>
  nm (x4 + 1) fun v5 =>
  k29 x3 v5 F_t u4.1 u4.2 a_walk_settled
def m_X2_countBad_j68 (F_trial : Nat → Int32) (a_trial_cache_media : Nat → Int32) (a_trial_cache_stores : Nat → Int32) (a_trial_cache_held : Nat → Int32) (a_trial_before : Nat → Int32) (a_trial_after : Nat → Int32) (p1 : Int32) (p2 : Int32) (k29 : Int32 → Int32 → (Nat → Int32) → (Nat → Int32) → (Nat → Int32) → (Nat → Int32) → Option ((Nat → Int32) × (Nat → Int32) × (Nat → Int32) × (Nat → Int32))) (x3 : Int32) (x4 : Int32) (F_t : Nat → Int32) (a_walk_row : Nat → Int32) (a_walk_picture : Nat → Int32) (a_walk_settled : Nat → Int32) : Option ((Nat → Int32) × (Nat → Int32) × (Nat → Int32) × (Nat → Int32)) :=
  nm (upd F_t 3 ((F_t 3) + 1)) fun F6 =>
  if p2 = 0 then (
  m_X2_countBad_j83 F_trial a_trial_cache_media a_trial_cache_stores a_trial_cache_held a_trial_before a_trial_after p1 p2 k29 x3 x4 F6 a_walk_row a_walk_picture a_walk_settled)
  else (
  some (F6, a_walk_row, a_walk_picture, a_walk_settled))
def m_X2_countBad_w29 (F_trial : Nat → Int32) (a_trial_cache_media : Nat → Int32) (a_trial_cache_stores : Nat → Int32) (a_trial_cache_held : Nat → Int32) (a_trial_before : Nat → Int32) (a_trial_after : Nat → Int32) (p1 : Int32) (p2 : Int32) : Nat → Int32 → Int32 → (Nat → Int32) → (Nat → Int32) → (Nat → Int32) → (Nat → Int32) → Option ((Nat → Int32) × (Nat → Int32) × (Nat → Int32) × (Nat → Int32))
  | 0, _, _, _, _, _, _ => none
  | n29 + 1, x3, x4, F_t, a_walk_row, a_walk_picture, a_walk_settled =>
    if x3 ≤ x4 then (
    some (F_t, a_walk_row, a_walk_picture, a_walk_settled))
    else (
    bd (m_X9_fateBy F_trial a_walk_picture a_walk_settled a_trial_before a_trial_after) fun u3 =>
    if u3.1 = 3 then (
    if (F_t 3) = 0 then (
    nm (upd F_t 4 p1) fun F7 =>
    nm (upd F7 5 x4) fun F8 =>
    m_X2_countBad_j68 F_trial a_trial_cache_media a_trial_cache_stores a_trial_cache_held a_trial_before a_trial_after p1 p2 (m_X2_countBad_w29 F_trial a_trial_cache_media a_trial_cache_stores a_trial_cache_held a_trial_before a_trial_after p1 p2 n29) x3 x4 F8 a_walk_row a_walk_picture u3.2)
    else (
    m_X2_countBad_j68 F_trial a_trial_cache_media a_trial_cache_stores a_trial_cache_held a_trial_before a_trial_after p1 p2 (m_X2_countBad_w29 F_trial a_trial_cache_media a_trial_cache_stores a_trial_cache_held a_trial_before a_trial_after p1 p2 n29) x3 x4 F_t a_walk_row a_walk_picture u3.2))
    else (
    m_X2_countBad_j83 F_trial a_trial_cache_media a_trial_cache_stores a_trial_cache_held a_trial_before a_trial_after p1 p2 (m_X2_countBad_w29 F_trial a_trial_cache_media a_trial_cache_stores a_trial_cache_held a_trial_before a_trial_after p1 p2 n29) x3 x4 F_t a_walk_row a_walk_picture u3.2))
def m_X2_countBad (F_t : Nat → Int32) (F_trial : Nat → Int32) (a_trial_cache_media : Nat → Int32) (a_trial_cache_stores : Nat → Int32) (a_trial_cache_held : Nat → Int32) (a_trial_before : Nat → Int32) (a_trial_after : Nat → Int32) (a_walk_row : Nat → Int32) (a_walk_picture : Nat → Int32) (a_walk_settled : Nat → Int32) (p1 : Int32) (p2 : Int32) : Option ((Nat → Int32) × (Nat → Int32) × (Nat → Int32) × (Nat → Int32)) :=
  bd (m_X1_orderTotal a_trial_cache_held) fun u1 =>
  bd (m_X9_start a_walk_row a_walk_picture a_trial_cache_media) fun u2 =>
  m_X2_countBad_w29 F_trial a_trial_cache_media a_trial_cache_stores a_trial_cache_held a_trial_before a_trial_after p1 p2 fuelN u1.toInt32 0 F_t u2.1 u2.2 a_walk_settled
set_option maxHeartbeats 4000000 in
set_option maxRecDepth 100000 in
theorem c_X2_countBad (l : Launch) (D : va_G) (cI : ClassId) (h_t : Nat) (r_t : Nat → Nat) (r_trial : Nat → Nat) (r_trial_cache : Nat → Nat) (r_walk : Nat → Nat) (F_t : Nat → Int32) (F_trial : Nat → Int32) (a_trial_cache_media : Nat → Int32) (a_trial_cache_stores : Nat → Int32) (a_trial_cache_held : Nat → Int32) (a_trial_before : Nat → Int32) (a_trial_after : Nat → Int32) (a_walk_row : Nat → Int32) (a_walk_picture : Nat → Int32) (a_walk_settled : Nat → Int32) (p1 : Int32) (p2 : Int32) (Rr : (Nat → Int32) × (Nat → Int32) × (Nat → Int32) × (Nat → Int32)) (hf : m_X2_countBad F_t F_trial a_trial_cache_media a_trial_cache_stores a_trial_cache_held a_trial_before a_trial_after a_walk_row a_walk_picture a_walk_settled p1 p2 = some Rr) : CTv l yX2_countBad (Cond.code yX2_countBad cX2_countBad 5 none) rm_X2_countBad D cI [.ref h_t, .int p1, .int p2] (w_X2_countBad h_t r_t r_trial r_trial_cache r_walk F_t F_trial cI a_trial_cache_media a_trial_cache_stores a_trial_cache_held a_trial_before a_trial_after a_walk_row a_walk_picture a_walk_settled) (w_X2_countBad h_t r_t r_trial r_trial_cache r_walk Rr.1 F_trial cI a_trial_cache_media a_trial_cache_stores a_trial_cache_held a_trial_before a_trial_after Rr.2.1 Rr.2.2.1 Rr.2.2.2) := by
  refine z_begin_v (own := RX2) (ρ := (Nat → Int32) × (Nat → Int32) × (Nat → Int32) × (Nat → Int32)) (fun u => w_X2_countBad h_t r_t r_trial r_trial_cache r_walk u.1 F_trial cI a_trial_cache_media a_trial_cache_stores a_trial_cache_held a_trial_before a_trial_after u.2.1 u.2.2.1 u.2.2.2) (by decide +kernel) rfl (Nat.le_of_ble_eq_true rfl) ?_
  intro p e s m args below meth c ls Q A hx hb hml hts hcx hown hK hX hA hP hD hS hl hret
  have hl : lv_has ls 5 [(0, .ref h_t), (1, .int p1), (2, .int p2)] := hl
  have hf := (m_X2_countBad.eq_1 _ _ _ _ _ _ _ _ _ _ _ _).symm.trans hf
  have L29 : ∀ (n29 : Nat) (x3 : Int32) (x4 : Int32) (F_t : Nat → Int32) (a_walk_row : Nat → Int32) (a_walk_picture : Nat → Int32) (a_walk_settled : Nat → Int32) (H : Heap) (locs : List Loc) (ls : Array Slot), m_X2_countBad_w29 F_trial a_trial_cache_media a_trial_cache_stores a_trial_cache_held a_trial_before a_trial_after p1 p2 n29 x3 x4 F_t a_walk_row a_walk_picture a_walk_settled = some Rr → va_P D vwCl (w_X2_countBad h_t r_t r_trial r_trial_cache r_walk F_t F_trial cI a_trial_cache_media a_trial_cache_stores a_trial_cache_held a_trial_before a_trial_after a_walk_row a_walk_picture a_walk_settled) H → va_D A (w_X2_countBad h_t r_t r_trial r_trial_cache r_walk F_t F_trial cI a_trial_cache_media a_trial_cache_stores a_trial_cache_held a_trial_before a_trial_after a_walk_row a_walk_picture a_walk_settled) → va_S A s.heap H locs → lv_has ls 5 [(0, .ref h_t), (1, .int p1), (2, .int p2), (3, .int x3), (4, .int x4)] → W p l e rm_X2_countBad s m args below meth c H locs 0 0 Q (F0 m 29 ls []) := by
    intro n29
    induction n29 with
    | zero => intro x3 x4 F_t a_walk_row a_walk_picture a_walk_settled H locs ls hf; cases (show (none : Option _) = some Rr from hf)
    | succ n29 ih29 =>
      intro x3 x4 F_t a_walk_row a_walk_picture a_walk_settled H locs ls hf hP hD hS hl
      have hf := (m_X2_countBad_w29.eq_2 _ _ _ _ _ _ _ _ _ _ _ _ _ _ _).symm.trans hf
      have L83 : ∀ (x3 : Int32) (x4 : Int32) (F_t : Nat → Int32) (a_walk_row : Nat → Int32) (a_walk_picture : Nat → Int32) (a_walk_settled : Nat → Int32) (H : Heap) (locs : List Loc) (ls : Array Slot), m_X2_countBad_j83 F_trial a_trial_cache_media a_trial_cache_stores a_trial_cache_held a_trial_before a_trial_after p1 p2 (m_X2_countBad_w29 F_trial a_trial_cache_media a_trial_cache_stores a_trial_cache_held a_trial_before a_trial_after p1 p2 n29) x3 x4 F_t a_walk_row a_walk_picture a_walk_settled = some Rr → va_P D vwCl (w_X2_countBad h_t r_t r_trial r_trial_cache r_walk F_t F_trial cI a_trial_cache_media a_trial_cache_stores a_trial_cache_held a_trial_before a_trial_after a_walk_row a_walk_picture a_walk_settled) H → va_D A (w_X2_countBad h_t r_t r_trial r_trial_cache r_walk F_t F_trial cI a_trial_cache_media a_trial_cache_stores a_trial_cache_held a_trial_before a_trial_after a_walk_row a_walk_picture a_walk_settled) → va_S A s.heap H locs → lv_has ls 5 [(0, .ref h_t), (1, .int p1), (2, .int p2), (3, .int x3), (4, .int x4)] → W p l e rm_X2_countBad s m args below meth c H locs 0 0 Q (F0 m 83 ls []) := by
        intro x3 x4 F_t a_walk_row a_walk_picture a_walk_settled H locs ls hf hP hD hS hl
        have hf := (m_X2_countBad_j83.eq_1 _ _ _ _ _ _ _ _ _ _ _ _ _ _ _).symm.trans hf
        refine lv_aload_n hx hb dX2_countBad_83 rfl (lv_at hl 0 rfl) ?_
        refine z_get (ci := 2) (C := RX2) (T := TX2) (N := 7) (v := .ref (r_t 2)) hx hb hts inT_X2 hown hK hP 0 rfl rfl 2 (by decide) tf_X2_28 rfl dX2_countBad_84 ?_
        refine lv_aload_n hx hb dX2_countBad_87 rfl (lv_at hl 0 rfl) ?_
        refine z_get (ci := 2) (C := RX2) (T := TX2) (N := 7) (v := .ref (r_t 0)) hx hb hts inT_X2 hown hK hP 0 rfl rfl 0 (by decide) tf_X2_12 rfl dX2_countBad_88 ?_
        refine z_get (ci := 4) (C := RX4) (T := TX4) (N := 12) (v := .ref (r_trial 0)) hx hb hts inT_X4 hown hK hP 1 rfl rfl 0 (by decide) tf_X2_64 rfl dX2_countBad_91 ?_
        obtain ⟨u4, hu4, hf⟩ := bd_some hf
        refine z_cv (ws1 := w_X2_countBad h_t r_t r_trial r_trial_cache r_walk F_t F_trial cI a_trial_cache_media a_trial_cache_stores a_trial_cache_held a_trial_before a_trial_after u4.1 u4.2 a_walk_settled) (wr := List.filterMap (fun i : Nat => (w_X2_countBad h_t r_t r_trial r_trial_cache r_walk F_t F_trial cI a_trial_cache_media a_trial_cache_stores a_trial_cache_held a_trial_before a_trial_after a_walk_row a_walk_picture a_walk_settled)[i]?) [0, 1, 6, 7, 11]) (z_rV (rest := []) hx hb hml hown hcx hl.1 (c_X9_goOn l D cI (r_t 2) (r_trial 0) r_walk r_trial_cache a_walk_row a_walk_picture a_trial_cache_media a_trial_cache_stores a_trial_cache_held u4 hu4 _) tl_X2_92 ti_X9_goOn tz_X9_goOn tn_X9 tc_X9_goOn tm_X9_goOn rfl rfl ⟨Nat.le_of_ble_eq_true rfl, Nat.le_of_ble_eq_true rfl⟩ hK hX hS hA hP hD [8, 9, 10, 2, 3, 4, 5] rfl rfl 8 rfl rfl rfl rfl (Nat.le_of_ble_eq_true rfl) dX2_countBad_94 ⟨Nat.zero_le _, Nat.zero_le _⟩) hP hD hS hA [8, 9, 10, 2, 3, 4, 5] [0, 1, 6, 7, 11] [0, 1, 8, 9, 10, 11, 2, 3, 5, 6, 7, 4] rfl rfl rfl (by decide) rfl rfl (fun H locs hP hD hS => ?_)
        refine z_iinc (k0 := 4) (fun z => [(4, .int z), (0, .ref h_t), (1, .int p1), (2, .int p2), (3, .int x3)]) hx hb dX2_countBad_97 hl rfl (by decide) (by decide) (fun _ => rfl) hf (fun v5 ls hf hl => ?_)
        refine lv_goto (tgt := 29) hx hb dX2_countBad_100 (by decide) ?_
        exact ih29 x3 v5 F_t u4.1 u4.2 a_walk_settled _ _ _ hf hP hD hS (lv_sub hl [1, 2, 3, 4, 0] rfl)
      have L68 : ∀ (x3 : Int32) (x4 : Int32) (F_t : Nat → Int32) (a_walk_row : Nat → Int32) (a_walk_picture : Nat → Int32) (a_walk_settled : Nat → Int32) (H : Heap) (locs : List Loc) (ls : Array Slot), m_X2_countBad_j68 F_trial a_trial_cache_media a_trial_cache_stores a_trial_cache_held a_trial_before a_trial_after p1 p2 (m_X2_countBad_w29 F_trial a_trial_cache_media a_trial_cache_stores a_trial_cache_held a_trial_before a_trial_after p1 p2 n29) x3 x4 F_t a_walk_row a_walk_picture a_walk_settled = some Rr → va_P D vwCl (w_X2_countBad h_t r_t r_trial r_trial_cache r_walk F_t F_trial cI a_trial_cache_media a_trial_cache_stores a_trial_cache_held a_trial_before a_trial_after a_walk_row a_walk_picture a_walk_settled) H → va_D A (w_X2_countBad h_t r_t r_trial r_trial_cache r_walk F_t F_trial cI a_trial_cache_media a_trial_cache_stores a_trial_cache_held a_trial_before a_trial_after a_walk_row a_walk_picture a_walk_settled) → va_S A s.heap H locs → lv_has ls 5 [(0, .ref h_t), (1, .int p1), (2, .int p2), (3, .int x3), (4, .int x4)] → W p l e rm_X2_countBad s m args below meth c H locs 0 0 Q (F0 m 68 ls []) := by
        intro x3 x4 F_t a_walk_row a_walk_picture a_walk_settled H locs ls hf hP hD hS hl
        have hf := (m_X2_countBad_j68.eq_1 _ _ _ _ _ _ _ _ _ _ _ _ _ _ _).symm.trans hf
        refine lv_aload_n hx hb dX2_countBad_68 rfl (lv_at hl 0 rfl) ?_
        refine lv_dup hx hb dX2_countBad_69 rfl ?_
        refine z_get (ci := 2) (C := RX2) (T := TX2) (N := 7) (v := .int (F_t 3)) hx hb hts inT_X2 hown hK hP 0 rfl rfl 3 (by decide) tf_X2_32 rfl dX2_countBad_70 ?_
        refine lv_iconst (v := 1) hx hb dX2_countBad_73 (by decide) ?_
        refine lv_iadd hx hb dX2_countBad_74 ?_
        refine z_put (ci := 2) (C := RX2) (T := TX2) (N := 7) hx hb hts inT_X2 tyX2 tyX2_ok nmX2 hown hK hP hD hS 0 rfl rfl 3 (by decide) tf_X2_32 rfl (by decide +kernel) (Nat.le_of_ble_eq_true rfl) (o_X2 r_t) (o_X2_s3 _ _ _) (fun z => w_X2_countBad h_t r_t r_trial r_trial_cache r_walk z F_trial cI a_trial_cache_media a_trial_cache_stores a_trial_cache_held a_trial_before a_trial_after a_walk_row a_walk_picture a_walk_settled) (fun _ => rfl) dX2_countBad_75 hf (fun F6 H locs hf hP hD hS => ?_)
        refine lv_iload_n hx hb dX2_countBad_78 rfl (lv_at hl 2 rfl) ?_
        refine z_if_eq (tgt := 83) hx hb dX2_countBad_79 (by decide) hf (fun hf => ?_) (fun hf => ?_)
        · exact L83 x3 x4 F6 a_walk_row a_walk_picture a_walk_settled _ _ _ hf hP hD hS (lv_sub hl [0, 1, 2, 3, 4] rfl)
        · exact hret (F6, a_walk_row, a_walk_picture, a_walk_settled) _ _ _ _ hf hP hD hS dX2_countBad_82
      refine lv_iload hx hb dX2_countBad_29 (lv_at hl 4 rfl) ?_
      refine lv_iload_n hx hb dX2_countBad_31 rfl (lv_at hl 3 rfl) ?_
      refine z_icmp_ge (tgt := 103) hx hb dX2_countBad_32 (by decide) hf (fun hf => ?_) (fun hf => ?_)
      · exact hret (F_t, a_walk_row, a_walk_picture, a_walk_settled) _ _ _ _ hf hP hD hS dX2_countBad_103
      · refine lv_aload_n hx hb dX2_countBad_35 rfl (lv_at hl 0 rfl) ?_
        refine z_get (ci := 2) (C := RX2) (T := TX2) (N := 7) (v := .ref (r_t 2)) hx hb hts inT_X2 hown hK hP 0 rfl rfl 2 (by decide) tf_X2_28 rfl dX2_countBad_36 ?_
        refine lv_aload_n hx hb dX2_countBad_39 rfl (lv_at hl 0 rfl) ?_
        refine z_get (ci := 2) (C := RX2) (T := TX2) (N := 7) (v := .ref (r_t 0)) hx hb hts inT_X2 hown hK hP 0 rfl rfl 0 (by decide) tf_X2_12 rfl dX2_countBad_40 ?_
        obtain ⟨u3, hu3, hf⟩ := bd_some hf
        refine z_ci (ws1 := w_X2_countBad h_t r_t r_trial r_trial_cache r_walk F_t F_trial cI a_trial_cache_media a_trial_cache_stores a_trial_cache_held a_trial_before a_trial_after a_walk_row a_walk_picture u3.2) (wr := List.filterMap (fun i : Nat => (w_X2_countBad h_t r_t r_trial r_trial_cache r_walk F_t F_trial cI a_trial_cache_media a_trial_cache_stores a_trial_cache_held a_trial_before a_trial_after a_walk_row a_walk_picture a_walk_settled)[i]?) [0, 2, 3, 4, 5, 9]) (z_rV (rest := []) hx hb hml hown hcx hl.1 (c_X9_fateBy l D cI (r_t 2) (r_t 0) r_walk r_trial F_trial a_walk_picture a_walk_settled a_trial_before a_trial_after u3 hu3 _) tl_X2_88 ti_X9_fateBy tz_X9_fateBy tn_X9 tc_X9_fateBy tm_X9_fateBy rfl rfl ⟨Nat.le_of_ble_eq_true rfl, Nat.le_of_ble_eq_true rfl⟩ hK hX hS hA hP hD [8, 10, 11, 1, 6, 7] rfl rfl 8 rfl rfl rfl rfl (Nat.le_of_ble_eq_true rfl) dX2_countBad_43 ⟨Nat.zero_le _, Nat.zero_le _⟩) hP hD hS hA [8, 10, 11, 1, 6, 7] [0, 2, 3, 4, 5, 9] [0, 9, 1, 2, 3, 4, 10, 11, 6, 5, 7, 8] rfl rfl rfl (by decide) rfl rfl (fun H locs hP hD hS => ?_)
        refine lv_iconst (v := 3) hx hb dX2_countBad_46 (by decide) ?_
        refine z_icmp_ne (tgt := 83) hx hb dX2_countBad_47 (by decide) hf (fun hf => ?_) (fun hf => ?_)
        · exact L83 x3 x4 F_t a_walk_row a_walk_picture u3.2 _ _ _ hf hP hD hS (lv_sub hl [0, 1, 2, 3, 4] rfl)
        · refine lv_aload_n hx hb dX2_countBad_50 rfl (lv_at hl 0 rfl) ?_
          refine z_get (ci := 2) (C := RX2) (T := TX2) (N := 7) (v := .int (F_t 3)) hx hb hts inT_X2 hown hK hP 0 rfl rfl 3 (by decide) tf_X2_32 rfl dX2_countBad_51 ?_
          refine z_if_ne (tgt := 68) hx hb dX2_countBad_54 (by decide) hf (fun hf => ?_) (fun hf => ?_)
          · exact L68 x3 x4 F_t a_walk_row a_walk_picture u3.2 _ _ _ hf hP hD hS (lv_sub hl [0, 1, 2, 3, 4] rfl)
          · refine lv_aload_n hx hb dX2_countBad_57 rfl (lv_at hl 0 rfl) ?_
            refine lv_iload_n hx hb dX2_countBad_58 rfl (lv_at hl 1 rfl) ?_
            refine z_put (ci := 2) (C := RX2) (T := TX2) (N := 7) hx hb hts inT_X2 tyX2 tyX2_ok nmX2 hown hK hP hD hS 0 rfl rfl 4 (by decide) tf_X2_36 rfl (by decide +kernel) (Nat.le_of_ble_eq_true rfl) (o_X2 r_t) (o_X2_s4 _ _ _) (fun z => w_X2_countBad h_t r_t r_trial r_trial_cache r_walk z F_trial cI a_trial_cache_media a_trial_cache_stores a_trial_cache_held a_trial_before a_trial_after a_walk_row a_walk_picture u3.2) (fun _ => rfl) dX2_countBad_59 hf (fun F7 H locs hf hP hD hS => ?_)
            refine lv_aload_n hx hb dX2_countBad_62 rfl (lv_at hl 0 rfl) ?_
            refine lv_iload hx hb dX2_countBad_63 (lv_at hl 4 rfl) ?_
            refine z_put (ci := 2) (C := RX2) (T := TX2) (N := 7) hx hb hts inT_X2 tyX2 tyX2_ok nmX2 hown hK hP hD hS 0 rfl rfl 5 (by decide) tf_X2_39 rfl (by decide +kernel) (Nat.le_of_ble_eq_true rfl) (o_X2 r_t) (o_X2_s5 _ _ _) (fun z => w_X2_countBad h_t r_t r_trial r_trial_cache r_walk z F_trial cI a_trial_cache_media a_trial_cache_stores a_trial_cache_held a_trial_before a_trial_after a_walk_row a_walk_picture u3.2) (fun _ => rfl) dX2_countBad_65 hf (fun F8 H locs hf hP hD hS => ?_)
            exact L68 x3 x4 F8 a_walk_row a_walk_picture u3.2 _ _ _ hf hP hD hS (lv_sub hl [0, 1, 2, 3, 4] rfl)
  refine lv_aload_n hx hb dX2_countBad_0 rfl (lv_at hl 0 rfl) ?_
  refine z_get (ci := 2) (C := RX2) (T := TX2) (N := 7) (v := .ref (r_t 0)) hx hb hts inT_X2 hown hK hP 0 rfl rfl 0 (by decide) tf_X2_12 rfl dX2_countBad_1 ?_
  refine z_get (ci := 4) (C := RX4) (T := TX4) (N := 12) (v := .ref (r_trial 0)) hx hb hts inT_X4 hown hK hP 1 rfl rfl 0 (by decide) tf_X2_64 rfl dX2_countBad_4 ?_
  obtain ⟨u1, hu1, hf⟩ := bd_some hf
  refine z_cl (ws1 := w_X2_countBad h_t r_t r_trial r_trial_cache r_walk F_t F_trial cI a_trial_cache_media a_trial_cache_stores a_trial_cache_held a_trial_before a_trial_after a_walk_row a_walk_picture a_walk_settled) (wr := List.filterMap (fun i : Nat => (w_X2_countBad h_t r_t r_trial r_trial_cache r_walk F_t F_trial cI a_trial_cache_media a_trial_cache_stores a_trial_cache_held a_trial_before a_trial_after a_walk_row a_walk_picture a_walk_settled)[i]?) [0, 1, 3, 4, 6, 7, 8, 9, 10, 11]) (z_rV (rest := []) hx hb hml hown hcx hl.1 (c_X1_orderTotal l D cI (r_trial 0) r_trial_cache a_trial_cache_held u1 hu1 _) tl_X2_68 ti_X1_orderTotal tz_X1_orderTotal tn_X1 tc_X1_orderTotal tm_X1_orderTotal rfl rfl ⟨Nat.le_of_ble_eq_true rfl, Nat.le_of_ble_eq_true rfl⟩ hK hX hS hA hP hD [2, 5] rfl rfl 2 rfl rfl rfl rfl (Nat.le_of_ble_eq_true rfl) dX2_countBad_7 ⟨Nat.zero_le _, Nat.zero_le _⟩) hP hD hS hA [2, 5] [0, 1, 3, 4, 6, 7, 8, 9, 10, 11] [0, 1, 10, 2, 3, 11, 4, 5, 6, 7, 8, 9] rfl rfl rfl (by decide) rfl rfl (fun H locs hP hD hS => ?_)
  refine lv_l2i hx hb dX2_countBad_10 rfl ?_
  refine lv_istore_n (lv' := [(3, .int u1.toInt32), (0, .ref h_t), (1, .int p1), (2, .int p2)]) hx hb dX2_countBad_11 rfl hl (by decide) rfl (fun ls hl => ?_)
  refine lv_aload_n hx hb dX2_countBad_12 rfl (lv_at hl 1 rfl) ?_
  refine z_get (ci := 2) (C := RX2) (T := TX2) (N := 7) (v := .ref (r_t 2)) hx hb hts inT_X2 hown hK hP 0 rfl rfl 2 (by decide) tf_X2_28 rfl dX2_countBad_13 ?_
  refine lv_aload_n hx hb dX2_countBad_16 rfl (lv_at hl 1 rfl) ?_
  refine z_get (ci := 2) (C := RX2) (T := TX2) (N := 7) (v := .ref (r_t 0)) hx hb hts inT_X2 hown hK hP 0 rfl rfl 0 (by decide) tf_X2_12 rfl dX2_countBad_17 ?_
  refine z_get (ci := 4) (C := RX4) (T := TX4) (N := 12) (v := .ref (r_trial 0)) hx hb hts inT_X4 hown hK hP 1 rfl rfl 0 (by decide) tf_X2_64 rfl dX2_countBad_20 ?_
  obtain ⟨u2, hu2, hf⟩ := bd_some hf
  refine z_cv (ws1 := w_X2_countBad h_t r_t r_trial r_trial_cache r_walk F_t F_trial cI a_trial_cache_media a_trial_cache_stores a_trial_cache_held a_trial_before a_trial_after u2.1 u2.2 a_walk_settled) (wr := List.filterMap (fun i : Nat => (w_X2_countBad h_t r_t r_trial r_trial_cache r_walk F_t F_trial cI a_trial_cache_media a_trial_cache_stores a_trial_cache_held a_trial_before a_trial_after a_walk_row a_walk_picture a_walk_settled)[i]?) [0, 1, 4, 5, 6, 7, 11]) (z_rV (rest := []) hx hb hml hown hcx hl.1 (c_X9_start l D cI (r_t 2) (r_trial 0) r_walk r_trial_cache a_walk_row a_walk_picture a_trial_cache_media u2 hu2 _) tl_X2_84 ti_X9_start tz_X9_start tn_X9 tc_X9_start tm_X9_start rfl rfl ⟨Nat.le_of_ble_eq_true rfl, Nat.le_of_ble_eq_true rfl⟩ hK hX hS hA hP hD [8, 9, 10, 2, 3] rfl rfl 8 rfl rfl rfl rfl (Nat.le_of_ble_eq_true rfl) dX2_countBad_23 ⟨Nat.zero_le _, Nat.zero_le _⟩) hP hD hS hA [8, 9, 10, 2, 3] [0, 1, 4, 5, 6, 7, 11] [0, 1, 10, 11, 2, 3, 4, 5, 7, 8, 9, 6] rfl rfl rfl (by decide) rfl rfl (fun H locs hP hD hS => ?_)
  refine lv_iconst (v := 0) hx hb dX2_countBad_26 (by decide) ?_
  refine lv_istore (lv' := [(4, .int 0), (3, .int u1.toInt32), (0, .ref h_t), (1, .int p1), (2, .int p2)]) hx hb dX2_countBad_27 hl (by decide) rfl (fun ls hl => ?_)
  exact L29 fuelN u1.toInt32 0 F_t u2.1 u2.2 a_walk_settled _ _ _ hf hP hD hS (lv_sub hl [2, 3, 4, 1, 0] rfl)
abbrev w_X2_run (h_t : Nat) (h_p1 : Nat) (r_t : Nat → Nat) (r_trial : Nat → Nat) (r_trial_cache : Nat → Nat) (r_planner : Nat → Nat) (r_planner_shapeNow : Nat → Nat) (r_walk : Nat → Nat) (r_p1 : Nat → Nat) (r_p1_cache : Nat → Nat) (F_t : Nat → Int32) (F_trial : Nat → Int32) (F_planner : Nat → Int32) (F_planner_shapeNow : Nat → Int32) (F_p1 : Nat → Int32) (cI : ClassId) (a_trial_cache_media : Nat → Int32) (a_trial_cache_stores : Nat → Int32) (a_trial_cache_held : Nat → Int32) (a_trial_cache_asked : Nat → Int32) (a_trial_micros : Nat → Int32) (a_trial_before : Nat → Int32) (a_trial_after : Nat → Int32) (a_trial_waiting : Nat → Int32) (a_trial_tallies : Nat → Int32) (a_planner_words : Nat → Int32) (a_planner_addresses : Nat → Int32) (a_planner_numbers : Nat → Int32) (a_planner_olds : Nat → Int32) (a_walk_row : Nat → Int32) (a_walk_picture : Nat → Int32) (a_walk_settled : Nat → Int32) (a_p1_cache_media : Nat → Int32) (a_p1_cache_stores : Nat → Int32) (a_p1_cache_held : Nat → Int32) (a_p1_cache_asked : Nat → Int32) (a_p1_micros : Nat → Int32) (a_p1_before : Nat → Int32) (a_p1_after : Nat → Int32) (a_p1_waiting : Nat → Int32) (a_p1_tallies : Nat → Int32) : va_W := [(h_t, .inr (2, o_X2 r_t F_t)), ((r_t 0), .inr (4, o_X4 r_trial F_trial)), ((r_trial 0), .inr (1, o_X1 r_trial_cache)), ((r_trial_cache 0), .inl (cI, 64, .inl a_trial_cache_media)), ((r_trial_cache 1), .inl (cI, 96, .inl a_trial_cache_stores)), ((r_trial_cache 2), .inl (cI, 16, .inl a_trial_cache_held)), ((r_trial_cache 3), .inl (cI, 16, .inl a_trial_cache_asked)), ((r_trial 1), .inl (cI, 80, .inl a_trial_micros)), ((r_trial 4), .inl (cI, 44, .inl a_trial_before)), ((r_trial 5), .inl (cI, 44, .inl a_trial_after)), ((r_trial 6), .inl (cI, 48, .inl a_trial_waiting)), ((r_trial 11), .inl (cI, 8, .inl a_trial_tallies)), ((r_t 1), .inr (5, o_X5 r_planner F_planner)), ((r_planner 0), .inl (cI, 64, .inl a_planner_words)), ((r_planner 1), .inl (cI, 8, .inl a_planner_addresses)), ((r_planner 2), .inl (cI, 8, .inl a_planner_numbers)), ((r_planner 3), .inl (cI, 8, .inl a_planner_olds)), ((r_planner 6), .inr (7, o_X7 r_planner_shapeNow F_planner_shapeNow)), ((r_t 2), .inr (9, o_X9 r_walk)), ((r_walk 0), .inl (cI, 16, .inl a_walk_row)), ((r_walk 1), .inl (cI, 64, .inl a_walk_picture)), ((r_walk 2), .inl (cI, 64, .inl a_walk_settled)), (h_p1, .inr (4, o_X4 r_p1 F_p1)), ((r_p1 0), .inr (1, o_X1 r_p1_cache)), ((r_p1_cache 0), .inl (cI, 64, .inl a_p1_cache_media)), ((r_p1_cache 1), .inl (cI, 96, .inl a_p1_cache_stores)), ((r_p1_cache 2), .inl (cI, 16, .inl a_p1_cache_held)), ((r_p1_cache 3), .inl (cI, 16, .inl a_p1_cache_asked)), ((r_p1 1), .inl (cI, 80, .inl a_p1_micros)), ((r_p1 4), .inl (cI, 44, .inl a_p1_before)), ((r_p1 5), .inl (cI, 44, .inl a_p1_after)), ((r_p1 6), .inl (cI, 48, .inl a_p1_waiting)), ((r_p1 11), .inl (cI, 8, .inl a_p1_tallies))]
abbrev rm_X2_run : Room := { frames := 6, cells := 0, slots := 0, locals := 138 }
def m_X2_run_j175 (F_p1 : Nat → Int32) (a_p1_cache_media : Nat → Int32) (a_p1_cache_stores : Nat → Int32) (a_p1_cache_held : Nat → Int32) (a_p1_cache_asked : Nat → Int32) (a_p1_micros : Nat → Int32) (a_p1_before : Nat → Int32) (a_p1_after : Nat → Int32) (a_p1_waiting : Nat → Int32) (a_p1_tallies : Nat → Int32) (p2 : Int32) (p3 : Int32) (k95 : Int32 → Int32 → (Nat → Int32) → (Nat → Int32) → (Nat → Int32) → (Nat → Int32) → (Nat → Int32) → (Nat → Int32) → (Nat → Int32) → (Nat → Int32) → (Nat → Int32) → (Nat → Int32) → (Nat → Int32) → (Nat → Int32) → (Nat → Int32) → (Nat → Int32) → (Nat → Int32) → (Nat → Int32) → (Nat → Int32) → (Nat → Int32) → (Nat → Int32) → (Nat → Int32) → Option ((Nat → Int32) × (Nat → Int32) × (Nat → Int32) × (Nat → Int32) × (Nat → Int32) × (Nat → Int32) × (Nat → Int32) × (Nat → Int32) × (Nat → Int32) × (Nat → Int32) × (Nat → Int32) × (Nat → Int32) × (Nat → Int32) × (Nat → Int32) × (Nat → Int32) × (Nat → Int32) × (Nat → Int32) × (Nat → Int32) × (Nat → Int32) × (Nat → Int32))) (x5 : Int32) (x6 : Int32) (F_t : Nat → Int32) (F_trial : Nat → Int32) (F_planner : Nat → Int32) (F_planner_shapeNow : Nat → Int32) (a_trial_cache_media : Nat → Int32) (a_trial_cache_stores : Nat → Int32) (a_trial_cache_held : Nat → Int32) (a_trial_cache_asked : Nat → Int32) (a_trial_micros : Nat → Int32) (a_trial_before : Nat → Int32) (a_trial_after : Nat → Int32) (a_trial_waiting : Nat → Int32) (a_trial_tallies : Nat → Int32) (a_planner_words : Nat → Int32) (a_planner_addresses : Nat → Int32) (a_planner_numbers : Nat → Int32) (a_planner_olds : Nat → Int32) (a_walk_row : Nat → Int32) (a_walk_picture : Nat → Int32) (a_walk_settled : Nat → Int32) : Option ((Nat → Int32) × (Nat → Int32) × (Nat → Int32) × (Nat → Int32) × (Nat → Int32) × (Nat → Int32) × (Nat → Int32) × (Nat → Int32) × (Nat → Int32) × (Nat → Int32) × (Nat → Int32) × (Nat → Int32) × (Nat → Int32) × (Nat → Int32) × (Nat → Int32) × (Nat → Int32) × (Nat → Int32) × (Nat → Int32) × (Nat → Int32) × (Nat → Int32)) :=
  bd (m_X4_step F_trial F_planner F_planner_shapeNow a_trial_cache_media a_trial_cache_stores a_trial_cache_held a_trial_cache_asked a_trial_micros a_trial_before a_trial_after a_trial_waiting a_trial_tallies a_planner_words a_planner_addresses a_planner_numbers a_planner_olds) fun u9 =>
  if u9.1 = 0 then (
  some (F_t, u9.2.1, u9.2.2.1, u9.2.2.2.1, u9.2.2.2.2.1, u9.2.2.2.2.2.1, u9.2.2.2.2.2.2.1, u9.2.2.2.2.2.2.2.1, u9.2.2.2.2.2.2.2.2.1, u9.2.2.2.2.2.2.2.2.2.1, u9.2.2.2.2.2.2.2.2.2.2.1, u9.2.2.2.2.2.2.2.2.2.2.2.1, u9.2.2.2.2.2.2.2.2.2.2.2.2.1, u9.2.2.2.2.2.2.2.2.2.2.2.2.2.1, u9.2.2.2.2.2.2.2.2.2.2.2.2.2.2.1, u9.2.2.2.2.2.2.2.2.2.2.2.2.2.2.2.1, u9.2.2.2.2.2.2.2.2.2.2.2.2.2.2.2.2, a_walk_row, a_walk_picture, a_walk_settled))
  else (
  nm (x6 + 1) fun v10 =>
  k95 x5 v10 F_t u9.2.1 u9.2.2.1 u9.2.2.2.1 u9.2.2.2.2.1 u9.2.2.2.2.2.1 u9.2.2.2.2.2.2.1 u9.2.2.2.2.2.2.2.1 u9.2.2.2.2.2.2.2.2.1 u9.2.2.2.2.2.2.2.2.2.1 u9.2.2.2.2.2.2.2.2.2.2.1 u9.2.2.2.2.2.2.2.2.2.2.2.1 u9.2.2.2.2.2.2.2.2.2.2.2.2.1 u9.2.2.2.2.2.2.2.2.2.2.2.2.2.1 u9.2.2.2.2.2.2.2.2.2.2.2.2.2.2.1 u9.2.2.2.2.2.2.2.2.2.2.2.2.2.2.2.1 u9.2.2.2.2.2.2.2.2.2.2.2.2.2.2.2.2 a_walk_row a_walk_picture a_walk_settled)
def m_X2_run_j157 (F_p1 : Nat → Int32) (a_p1_cache_media : Nat → Int32) (a_p1_cache_stores : Nat → Int32) (a_p1_cache_held : Nat → Int32) (a_p1_cache_asked : Nat → Int32) (a_p1_micros : Nat → Int32) (a_p1_before : Nat → Int32) (a_p1_after : Nat → Int32) (a_p1_waiting : Nat → Int32) (a_p1_tallies : Nat → Int32) (p2 : Int32) (p3 : Int32) (k95 : Int32 → Int32 → (Nat → Int32) → (Nat → Int32) → (Nat → Int32) → (Nat → Int32) → (Nat → Int32) → (Nat → Int32) → (Nat → Int32) → (Nat → Int32) → (Nat → Int32) → (Nat → Int32) → (Nat → Int32) → (Nat → Int32) → (Nat → Int32) → (Nat → Int32) → (Nat → Int32) → (Nat → Int32) → (Nat → Int32) → (Nat → Int32) → (Nat → Int32) → (Nat → Int32) → Option ((Nat → Int32) × (Nat → Int32) × (Nat → Int32) × (Nat → Int32) × (Nat → Int32) × (Nat → Int32) × (Nat → Int32) × (Nat → Int32) × (Nat → Int32) × (Nat → Int32) × (Nat → Int32) × (Nat → Int32) × (Nat → Int32) × (Nat → Int32) × (Nat → Int32) × (Nat → Int32) × (Nat → Int32) × (Nat → Int32) × (Nat → Int32) × (Nat → Int32))) (x5 : Int32) (x6 : Int32) (s0 : Int32) (F_t : Nat → Int32) (F_trial : Nat → Int32) (F_planner : Nat → Int32) (F_planner_shapeNow : Nat → Int32) (a_trial_cache_media : Nat → Int32) (a_trial_cache_stores : Nat → Int32) (a_trial_cache_held : Nat → Int32) (a_trial_cache_asked : Nat → Int32) (a_trial_micros : Nat → Int32) (a_trial_before : Nat → Int32) (a_trial_after : Nat → Int32) (a_trial_waiting : Nat → Int32) (a_trial_tallies : Nat → Int32) (a_planner_words : Nat → Int32) (a_planner_addresses : Nat → Int32) (a_planner_numbers : Nat → Int32) (a_planner_olds : Nat → Int32) (a_walk_row : Nat → Int32) (a_walk_picture : Nat → Int32) (a_walk_settled : Nat → Int32) : Option ((Nat → Int32) × (Nat → Int32) × (Nat → Int32) × (Nat → Int32) × (Nat → Int32) × (Nat → Int32) × (Nat → Int32) × (Nat → Int32) × (Nat → Int32) × (Nat → Int32) × (Nat → Int32) × (Nat → Int32) × (Nat → Int32) × (Nat → Int32) × (Nat → Int32) × (Nat → Int32) × (Nat → Int32) × (Nat → Int32) × (Nat → Int32) × (Nat → Int32)) :=
  if s0 = 0 then (
  if p3 = 0 then (
  m_X2_run_j175 F_p1 a_p1_cache_media a_p1_cache_stores a_p1_cache_held a_p1_cache_asked a_p1_micros a_p1_before a_p1_after a_p1_waiting a_p1_tallies p2 p3 k95 x5 x6 F_t F_trial F_planner F_planner_shapeNow a_trial_cache_media a_trial_cache_stores a_trial_cache_held a_trial_cache_asked a_trial_micros a_trial_before a_trial_after a_trial_waiting a_trial_tallies a_planner_words a_planner_addresses a_planner_numbers a_planner_olds a_walk_row a_walk_picture a_walk_settled)
  else (
  if 0 < (F_t 3) then (
  some (F_t, F_trial, F_planner, F_planner_shapeNow, a_trial_cache_media, a_trial_cache_stores, a_trial_cache_held, a_trial_cache_asked, a_trial_micros, a_trial_before, a_trial_after, a_trial_waiting, a_trial_tallies, a_planner_words, a_planner_addresses, a_planner_numbers, a_planner_olds, a_walk_row, a_walk_picture, a_walk_settled))
  else (
  m_X2_run_j175 F_p1 a_p1_cache_media a_p1_cache_stores a_p1_cache_held a_p1_cache_asked a_p1_micros a_p1_before a_p1_after a_p1_waiting a_p1_tallies p2 p3 k95 x5 x6 F_t F_trial F_planner F_planner_shapeNow a_trial_cache_media a_trial_cache_stores a_trial_cache_held a_trial_cache_asked a_trial_micros a_trial_before a_trial_after a_trial_waiting a_trial_tallies a_planner_words a_planner_addresses a_planner_numbers a_planner_olds a_walk_row a_walk_picture a_walk_settled)))
  else (
  some (F_t, F_trial, F_planner, F_planner_shapeNow, a_trial_cache_media, a_trial_cache_stores, a_trial_cache_held, a_trial_cache_asked, a_trial_micros, a_trial_before, a_trial_after, a_trial_waiting, a_trial_tallies, a_planner_words, a_planner_addresses, a_planner_numbers, a_planner_olds, a_walk_row, a_walk_picture, a_walk_settled))
def m_X2_run_j152 (F_p1 : Nat → Int32) (a_p1_cache_media : Nat → Int32) (a_p1_cache_stores : Nat → Int32) (a_p1_cache_held : Nat → Int32) (a_p1_cache_asked : Nat → Int32) (a_p1_micros : Nat → Int32) (a_p1_before : Nat → Int32) (a_p1_after : Nat → Int32) (a_p1_waiting : Nat → Int32) (a_p1_tallies : Nat → Int32) (p2 : Int32) (p3 : Int32) (k95 : Int32 → Int32 → (Nat → Int32) → (Nat → Int32) → (Nat → Int32) → (Nat → Int32) → (Nat → Int32) → (Nat → Int32) → (Nat → Int32) → (Nat → Int32) → (Nat → Int32) → (Nat → Int32) → (Nat → Int32) → (Nat → Int32) → (Nat → Int32) → (Nat → Int32) → (Nat → Int32) → (Nat → Int32) → (Nat → Int32) → (Nat → Int32) → (Nat → Int32) → (Nat → Int32) → Option ((Nat → Int32) × (Nat → Int32) × (Nat → Int32) × (Nat → Int32) × (Nat → Int32) × (Nat → Int32) × (Nat → Int32) × (Nat → Int32) × (Nat → Int32) × (Nat → Int32) × (Nat → Int32) × (Nat → Int32) × (Nat → Int32) × (Nat → Int32) × (Nat → Int32) × (Nat → Int32) × (Nat → Int32) × (Nat → Int32) × (Nat → Int32) × (Nat → Int32))) (x5 : Int32) (x6 : Int32) (F_t : Nat → Int32) (F_trial : Nat → Int32) (F_planner : Nat → Int32) (F_planner_shapeNow : Nat → Int32) (a_trial_cache_media : Nat → Int32) (a_trial_cache_stores : Nat → Int32) (a_trial_cache_held : Nat → Int32) (a_trial_cache_asked : Nat → Int32) (a_trial_micros : Nat → Int32) (a_trial_before : Nat → Int32) (a_trial_after : Nat → Int32) (a_trial_waiting : Nat → Int32) (a_trial_tallies : Nat → Int32) (a_planner_words : Nat → Int32) (a_planner_addresses : Nat → Int32) (a_planner_numbers : Nat → Int32) (a_planner_olds : Nat → Int32) (a_walk_row : Nat → Int32) (a_walk_picture : Nat → Int32) (a_walk_settled : Nat → Int32) : Option ((Nat → Int32) × (Nat → Int32) × (Nat → Int32) × (Nat → Int32) × (Nat → Int32) × (Nat → Int32) × (Nat → Int32) × (Nat → Int32) × (Nat → Int32) × (Nat → Int32) × (Nat → Int32) × (Nat → Int32) × (Nat → Int32) × (Nat → Int32) × (Nat → Int32) × (Nat → Int32) × (Nat → Int32) × (Nat → Int32) × (Nat → Int32) × (Nat → Int32)) :=
  m_X2_run_j157 F_p1 a_p1_cache_media a_p1_cache_stores a_p1_cache_held a_p1_cache_asked a_p1_micros a_p1_before a_p1_after a_p1_waiting a_p1_tallies p2 p3 k95 x5 x6 1 F_t F_trial F_planner F_planner_shapeNow a_trial_cache_media a_trial_cache_stores a_trial_cache_held a_trial_cache_asked a_trial_micros a_trial_before a_trial_after a_trial_waiting a_trial_tallies a_planner_words a_planner_addresses a_planner_numbers a_planner_olds a_walk_row a_walk_picture a_walk_settled
def m_X2_run_j156 (F_p1 : Nat → Int32) (a_p1_cache_media : Nat → Int32) (a_p1_cache_stores : Nat → Int32) (a_p1_cache_held : Nat → Int32) (a_p1_cache_asked : Nat → Int32) (a_p1_micros : Nat → Int32) (a_p1_before : Nat → Int32) (a_p1_after : Nat → Int32) (a_p1_waiting : Nat → Int32) (a_p1_tallies : Nat → Int32) (p2 : Int32) (p3 : Int32) (k95 : Int32 → Int32 → (Nat → Int32) → (Nat → Int32) → (Nat → Int32) → (Nat → Int32) → (Nat → Int32) → (Nat → Int32) → (Nat → Int32) → (Nat → Int32) → (Nat → Int32) → (Nat → Int32) → (Nat → Int32) → (Nat → Int32) → (Nat → Int32) → (Nat → Int32) → (Nat → Int32) → (Nat → Int32) → (Nat → Int32) → (Nat → Int32) → (Nat → Int32) → (Nat → Int32) → Option ((Nat → Int32) × (Nat → Int32) × (Nat → Int32) × (Nat → Int32) × (Nat → Int32) × (Nat → Int32) × (Nat → Int32) × (Nat → Int32) × (Nat → Int32) × (Nat → Int32) × (Nat → Int32) × (Nat → Int32) × (Nat → Int32) × (Nat → Int32) × (Nat → Int32) × (Nat → Int32) × (Nat → Int32) × (Nat → Int32) × (Nat → Int32) × (Nat → Int32))) (x5 : Int32) (x6 : Int32) (F_t : Nat → Int32) (F_trial : Nat → Int32) (F_planner : Nat → Int32) (F_planner_shapeNow : Nat → Int32) (a_trial_cache_media : Nat → Int32) (a_trial_cache_stores : Nat → Int32) (a_trial_cache_held : Nat → Int32) (a_trial_cache_asked : Nat → Int32) (a_trial_micros : Nat → Int32) (a_trial_before : Nat → Int32) (a_trial_after : Nat → Int32) (a_trial_waiting : Nat → Int32) (a_trial_tallies : Nat → Int32) (a_planner_words : Nat → Int32) (a_planner_addresses : Nat → Int32) (a_planner_numbers : Nat → Int32) (a_planner_olds : Nat → Int32) (a_walk_row : Nat → Int32) (a_walk_picture : Nat → Int32) (a_walk_settled : Nat → Int32) : Option ((Nat → Int32) × (Nat → Int32) × (Nat → Int32) × (Nat → Int32) × (Nat → Int32) × (Nat → Int32) × (Nat → Int32) × (Nat → Int32) × (Nat → Int32) × (Nat → Int32) × (Nat → Int32) × (Nat → Int32) × (Nat → Int32) × (Nat → Int32) × (Nat → Int32) × (Nat → Int32) × (Nat → Int32) × (Nat → Int32) × (Nat → Int32) × (Nat → Int32)) :=
  m_X2_run_j157 F_p1 a_p1_cache_media a_p1_cache_stores a_p1_cache_held a_p1_cache_asked a_p1_micros a_p1_before a_p1_after a_p1_waiting a_p1_tallies p2 p3 k95 x5 x6 0 F_t F_trial F_planner F_planner_shapeNow a_trial_cache_media a_trial_cache_stores a_trial_cache_held a_trial_cache_asked a_trial_micros a_trial_before a_trial_after a_trial_waiting a_trial_tallies a_planner_words a_planner_addresses a_planner_numbers a_planner_olds a_walk_row a_walk_picture a_walk_settled
def m_X2_run_j119 (F_p1 : Nat → Int32) (a_p1_cache_media : Nat → Int32) (a_p1_cache_stores : Nat → Int32) (a_p1_cache_held : Nat → Int32) (a_p1_cache_asked : Nat → Int32) (a_p1_micros : Nat → Int32) (a_p1_before : Nat → Int32) (a_p1_after : Nat → Int32) (a_p1_waiting : Nat → Int32) (a_p1_tallies : Nat → Int32) (p2 : Int32) (p3 : Int32) (F_t : Nat → Int32) (F_trial : Nat → Int32) (F_planner : Nat → Int32) (F_planner_shapeNow : Nat → Int32) (a_trial_cache_media : Nat → Int32) (a_trial_cache_stores : Nat → Int32) (a_trial_cache_held : Nat → Int32) (a_trial_cache_asked : Nat → Int32) (a_trial_micros : Nat → Int32) (a_trial_before : Nat → Int32) (a_trial_after : Nat → Int32) (a_trial_waiting : Nat → Int32) (a_trial_tallies : Nat → Int32) (a_planner_words : Nat → Int32) (a_planner_addresses : Nat → Int32) (a_planner_numbers : Nat → Int32) (a_planner_olds : Nat → Int32) (a_walk_row : Nat → Int32) (a_walk_picture : Nat → Int32) (a_walk_settled : Nat → Int32) : Option ((Nat → Int32) × (Nat → Int32) × (Nat → Int32) × (Nat → Int32) × (Nat → Int32) × (Nat → Int32) × (Nat → Int32) × (Nat → Int32) × (Nat → Int32) × (Nat → Int32) × (Nat → Int32) × (Nat → Int32) × (Nat → Int32) × (Nat → Int32) × (Nat → Int32) × (Nat → Int32) × (Nat → Int32) × (Nat → Int32) × (Nat → Int32) × (Nat → Int32)) :=
  cb 1 (
  nm (upd F_t 6 1) fun F12 =>
  some (F12, F_trial, F_planner, F_planner_shapeNow, a_trial_cache_media, a_trial_cache_stores, a_trial_cache_held, a_trial_cache_asked, a_trial_micros, a_trial_before, a_trial_after, a_trial_waiting, a_trial_tallies, a_planner_words, a_planner_addresses, a_planner_numbers, a_planner_olds, a_walk_row, a_walk_picture, a_walk_settled))
def m_X2_run_w95 (F_p1 : Nat → Int32) (a_p1_cache_media : Nat → Int32) (a_p1_cache_stores : Nat → Int32) (a_p1_cache_held : Nat → Int32) (a_p1_cache_asked : Nat → Int32) (a_p1_micros : Nat → Int32) (a_p1_before : Nat → Int32) (a_p1_after : Nat → Int32) (a_p1_waiting : Nat → Int32) (a_p1_tallies : Nat → Int32) (p2 : Int32) (p3 : Int32) (k119 : (Nat → Int32) → (Nat → Int32) → (Nat → Int32) → (Nat → Int32) → (Nat → Int32) → (Nat → Int32) → (Nat → Int32) → (Nat → Int32) → (Nat → Int32) → (Nat → Int32) → (Nat → Int32) → (Nat → Int32) → (Nat → Int32) → (Nat → Int32) → (Nat → Int32) → (Nat → Int32) → (Nat → Int32) → (Nat → Int32) → (Nat → Int32) → (Nat → Int32) → Option ((Nat → Int32) × (Nat → Int32) × (Nat → Int32) × (Nat → Int32) × (Nat → Int32) × (Nat → Int32) × (Nat → Int32) × (Nat → Int32) × (Nat → Int32) × (Nat → Int32) × (Nat → Int32) × (Nat → Int32) × (Nat → Int32) × (Nat → Int32) × (Nat → Int32) × (Nat → Int32) × (Nat → Int32) × (Nat → Int32) × (Nat → Int32) × (Nat → Int32))) : Nat → Int32 → Int32 → (Nat → Int32) → (Nat → Int32) → (Nat → Int32) → (Nat → Int32) → (Nat → Int32) → (Nat → Int32) → (Nat → Int32) → (Nat → Int32) → (Nat → Int32) → (Nat → Int32) → (Nat → Int32) → (Nat → Int32) → (Nat → Int32) → (Nat → Int32) → (Nat → Int32) → (Nat → Int32) → (Nat → Int32) → (Nat → Int32) → (Nat → Int32) → (Nat → Int32) → Option ((Nat → Int32) × (Nat → Int32) × (Nat → Int32) × (Nat → Int32) × (Nat → Int32) × (Nat → Int32) × (Nat → Int32) × (Nat → Int32) × (Nat → Int32) × (Nat → Int32) × (Nat → Int32) × (Nat → Int32) × (Nat → Int32) × (Nat → Int32) × (Nat → Int32) × (Nat → Int32) × (Nat → Int32) × (Nat → Int32) × (Nat → Int32) × (Nat → Int32))
  | 0, _, _, _, _, _, _, _, _, _, _, _, _, _, _, _, _, _, _, _, _, _, _ => none
  | n95 + 1, x5, x6, F_t, F_trial, F_planner, F_planner_shapeNow, a_trial_cache_media, a_trial_cache_stores, a_trial_cache_held, a_trial_cache_asked, a_trial_micros, a_trial_before, a_trial_after, a_trial_waiting, a_trial_tallies, a_planner_words, a_planner_addresses, a_planner_numbers, a_planner_olds, a_walk_row, a_walk_picture, a_walk_settled =>
    if 80 < x6 then (
    some (F_t, F_trial, F_planner, F_planner_shapeNow, a_trial_cache_media, a_trial_cache_stores, a_trial_cache_held, a_trial_cache_asked, a_trial_micros, a_trial_before, a_trial_after, a_trial_waiting, a_trial_tallies, a_planner_words, a_planner_addresses, a_planner_numbers, a_planner_olds, a_walk_row, a_walk_picture, a_walk_settled))
    else (
    bd (m_X1_orderTotal a_trial_cache_held) fun u7 =>
    if (lg_cmp u7 2000) ≤ 0 then (
    bd (m_X2_countBad F_t F_trial a_trial_cache_media a_trial_cache_stores a_trial_cache_held a_trial_before a_trial_after a_walk_row a_walk_picture a_walk_settled x6 p3) fun u8 =>
    if x5 = 0 then (
    if x6 ≤ 0 then (
    m_X2_run_j156 F_p1 a_p1_cache_media a_p1_cache_stores a_p1_cache_held a_p1_cache_asked a_p1_micros a_p1_before a_p1_after a_p1_waiting a_p1_tallies p2 p3 (m_X2_run_w95 F_p1 a_p1_cache_media a_p1_cache_stores a_p1_cache_held a_p1_cache_asked a_p1_micros a_p1_before a_p1_after a_p1_waiting a_p1_tallies p2 p3 k119 n95) x5 x6 u8.1 F_trial F_planner F_planner_shapeNow a_trial_cache_media a_trial_cache_stores a_trial_cache_held a_trial_cache_asked a_trial_micros a_trial_before a_trial_after a_trial_waiting a_trial_tallies a_planner_words a_planner_addresses a_planner_numbers a_planner_olds u8.2.1 u8.2.2.1 u8.2.2.2)
    else (
    bd (m_X4_isIdle F_trial) fun u11 =>
    if u11 = 0 then (
    m_X2_run_j156 F_p1 a_p1_cache_media a_p1_cache_stores a_p1_cache_held a_p1_cache_asked a_p1_micros a_p1_before a_p1_after a_p1_waiting a_p1_tallies p2 p3 (m_X2_run_w95 F_p1 a_p1_cache_media a_p1_cache_stores a_p1_cache_held a_p1_cache_asked a_p1_micros a_p1_before a_p1_after a_p1_waiting a_p1_tallies p2 p3 k119 n95) x5 x6 u8.1 F_trial F_planner F_planner_shapeNow a_trial_cache_media a_trial_cache_stores a_trial_cache_held a_trial_cache_asked a_trial_micros a_trial_before a_trial_after a_trial_waiting a_trial_tallies a_planner_words a_planner_addresses a_planner_numbers a_planner_olds u8.2.1 u8.2.2.1 u8.2.2.2)
    else (
    m_X2_run_j152 F_p1 a_p1_cache_media a_p1_cache_stores a_p1_cache_held a_p1_cache_asked a_p1_micros a_p1_before a_p1_after a_p1_waiting a_p1_tallies p2 p3 (m_X2_run_w95 F_p1 a_p1_cache_media a_p1_cache_stores a_p1_cache_held a_p1_cache_asked a_p1_micros a_p1_before a_p1_after a_p1_waiting a_p1_tallies p2 p3 k119 n95) x5 x6 u8.1 F_trial F_planner F_planner_shapeNow a_trial_cache_media a_trial_cache_stores a_trial_cache_held a_trial_cache_asked a_trial_micros a_trial_before a_trial_after a_trial_waiting a_trial_tallies a_planner_words a_planner_addresses a_planner_numbers a_planner_olds u8.2.1 u8.2.2.1 u8.2.2.2)))
    else (
    m_X2_run_j152 F_p1 a_p1_cache_media a_p1_cache_stores a_p1_cache_held a_p1_cache_asked a_p1_micros a_p1_before a_p1_after a_p1_waiting a_p1_tallies p2 p3 (m_X2_run_w95 F_p1 a_p1_cache_media a_p1_cache_stores a_p1_cache_held a_p1_cache_asked a_p1_micros a_p1_before a_p1_after a_p1_waiting a_p1_tallies p2 p3 k119 n95) x5 x6 u8.1 F_trial F_planner F_planner_shapeNow a_trial_cache_media a_trial_cache_stores a_trial_cache_held a_trial_cache_asked a_trial_micros a_trial_before a_trial_after a_trial_waiting a_trial_tallies a_planner_words a_planner_addresses a_planner_numbers a_planner_olds u8.2.1 u8.2.2.1 u8.2.2.2))
    else (
    k119 F_t F_trial F_planner F_planner_shapeNow a_trial_cache_media a_trial_cache_stores a_trial_cache_held a_trial_cache_asked a_trial_micros a_trial_before a_trial_after a_trial_waiting a_trial_tallies a_planner_words a_planner_addresses a_planner_numbers a_planner_olds a_walk_row a_walk_picture a_walk_settled))
def m_X2_run_j90 (F_p1 : Nat → Int32) (a_p1_cache_media : Nat → Int32) (a_p1_cache_stores : Nat → Int32) (a_p1_cache_held : Nat → Int32) (a_p1_cache_asked : Nat → Int32) (a_p1_micros : Nat → Int32) (a_p1_before : Nat → Int32) (a_p1_after : Nat → Int32) (a_p1_waiting : Nat → Int32) (a_p1_tallies : Nat → Int32) (p2 : Int32) (p3 : Int32) (s0 : Int32) (F_t : Nat → Int32) (F_trial : Nat → Int32) (F_planner : Nat → Int32) (F_planner_shapeNow : Nat → Int32) (a_trial_cache_media : Nat → Int32) (a_trial_cache_stores : Nat → Int32) (a_trial_cache_held : Nat → Int32) (a_trial_cache_asked : Nat → Int32) (a_trial_micros : Nat → Int32) (a_trial_before : Nat → Int32) (a_trial_after : Nat → Int32) (a_trial_waiting : Nat → Int32) (a_trial_tallies : Nat → Int32) (a_planner_words : Nat → Int32) (a_planner_addresses : Nat → Int32) (a_planner_numbers : Nat → Int32) (a_planner_olds : Nat → Int32) (a_walk_row : Nat → Int32) (a_walk_picture : Nat → Int32) (a_walk_settled : Nat → Int32) : Option ((Nat → Int32) × (Nat → Int32) × (Nat → Int32) × (Nat → Int32) × (Nat → Int32) × (Nat → Int32) × (Nat → Int32) × (Nat → Int32) × (Nat → Int32) × (Nat → Int32) × (Nat → Int32) × (Nat → Int32) × (Nat → Int32) × (Nat → Int32) × (Nat → Int32) × (Nat → Int32) × (Nat → Int32) × (Nat → Int32) × (Nat → Int32) × (Nat → Int32)) :=
  m_X2_run_w95 F_p1 a_p1_cache_media a_p1_cache_stores a_p1_cache_held a_p1_cache_asked a_p1_micros a_p1_before a_p1_after a_p1_waiting a_p1_tallies p2 p3 (m_X2_run_j119 F_p1 a_p1_cache_media a_p1_cache_stores a_p1_cache_held a_p1_cache_asked a_p1_micros a_p1_before a_p1_after a_p1_waiting a_p1_tallies p2 p3) fuelN s0 0 F_t F_trial F_planner F_planner_shapeNow a_trial_cache_media a_trial_cache_stores a_trial_cache_held a_trial_cache_asked a_trial_micros a_trial_before a_trial_after a_trial_waiting a_trial_tallies a_planner_words a_planner_addresses a_planner_numbers a_planner_olds a_walk_row a_walk_picture a_walk_settled
def m_X2_run_j89 (F_p1 : Nat → Int32) (a_p1_cache_media : Nat → Int32) (a_p1_cache_stores : Nat → Int32) (a_p1_cache_held : Nat → Int32) (a_p1_cache_asked : Nat → Int32) (a_p1_micros : Nat → Int32) (a_p1_before : Nat → Int32) (a_p1_after : Nat → Int32) (a_p1_waiting : Nat → Int32) (a_p1_tallies : Nat → Int32) (p2 : Int32) (p3 : Int32) (F_t : Nat → Int32) (F_trial : Nat → Int32) (F_planner : Nat → Int32) (F_planner_shapeNow : Nat → Int32) (a_trial_cache_media : Nat → Int32) (a_trial_cache_stores : Nat → Int32) (a_trial_cache_held : Nat → Int32) (a_trial_cache_asked : Nat → Int32) (a_trial_micros : Nat → Int32) (a_trial_before : Nat → Int32) (a_trial_after : Nat → Int32) (a_trial_waiting : Nat → Int32) (a_trial_tallies : Nat → Int32) (a_planner_words : Nat → Int32) (a_planner_addresses : Nat → Int32) (a_planner_numbers : Nat → Int32) (a_planner_olds : Nat → Int32) (a_walk_row : Nat → Int32) (a_walk_picture : Nat → Int32) (a_walk_settled : Nat → Int32) : Option ((Nat → Int32) × (Nat → Int32) × (Nat → Int32) × (Nat → Int32) × (Nat → Int32) × (Nat → Int32) × (Nat → Int32) × (Nat → Int32) × (Nat → Int32) × (Nat → Int32) × (Nat → Int32) × (Nat → Int32) × (Nat → Int32) × (Nat → Int32) × (Nat → Int32) × (Nat → Int32) × (Nat → Int32) × (Nat → Int32) × (Nat → Int32) × (Nat → Int32)) :=
  m_X2_run_j90 F_p1 a_p1_cache_media a_p1_cache_stores a_p1_cache_held a_p1_cache_asked a_p1_micros a_p1_before a_p1_after a_p1_waiting a_p1_tallies p2 p3 0 F_t F_trial F_planner F_planner_shapeNow a_trial_cache_media a_trial_cache_stores a_trial_cache_held a_trial_cache_asked a_trial_micros a_trial_before a_trial_after a_trial_waiting a_trial_tallies a_planner_words a_planner_addresses a_planner_numbers a_planner_olds a_walk_row a_walk_picture a_walk_settled
def m_X2_run_j70 (F_p1 : Nat → Int32) (a_p1_cache_media : Nat → Int32) (a_p1_cache_stores : Nat → Int32) (a_p1_cache_held : Nat → Int32) (a_p1_cache_asked : Nat → Int32) (a_p1_micros : Nat → Int32) (a_p1_before : Nat → Int32) (a_p1_after : Nat → Int32) (a_p1_waiting : Nat → Int32) (a_p1_tallies : Nat → Int32) (p2 : Int32) (p3 : Int32) (x4 : Int32) (F_t : Nat → Int32) (F_trial : Nat → Int32) (F_planner : Nat → Int32) (F_planner_shapeNow : Nat → Int32) (a_trial_cache_media : Nat → Int32) (a_trial_cache_stores : Nat → Int32) (a_trial_cache_held : Nat → Int32) (a_trial_cache_asked : Nat → Int32) (a_trial_micros : Nat → Int32) (a_trial_before : Nat → Int32) (a_trial_after : Nat → Int32) (a_trial_waiting : Nat → Int32) (a_trial_tallies : Nat → Int32) (a_planner_words : Nat → Int32) (a_planner_addresses : Nat → Int32) (a_planner_numbers : Nat → Int32) (a_planner_olds : Nat → Int32) (a_walk_row : Nat → Int32) (a_walk_picture : Nat → Int32) (a_walk_settled : Nat → Int32) : Option ((Nat → Int32) × (Nat → Int32) × (Nat → Int32) × (Nat → Int32) × (Nat → Int32) × (Nat → Int32) × (Nat → Int32) × (Nat → Int32) × (Nat → Int32) × (Nat → Int32) × (Nat → Int32) × (Nat → Int32) × (Nat → Int32) × (Nat → Int32) × (Nat → Int32) × (Nat → Int32) × (Nat → Int32) × (Nat → Int32) × (Nat → Int32) × (Nat → Int32)) :=
  if x4 = 0 then (
  m_X2_run_j89 F_p1 a_p1_cache_media a_p1_cache_stores a_p1_cache_held a_p1_cache_asked a_p1_micros a_p1_before a_p1_after a_p1_waiting a_p1_tallies p2 p3 F_t F_trial F_planner F_planner_shapeNow a_trial_cache_media a_trial_cache_stores a_trial_cache_held a_trial_cache_asked a_trial_micros a_trial_before a_trial_after a_trial_waiting a_trial_tallies a_planner_words a_planner_addresses a_planner_numbers a_planner_olds a_walk_row a_walk_picture a_walk_settled)
  else (
  bd (m_X4_isIdle F_trial) fun u13 =>
  if u13 = 0 then (
  m_X2_run_j89 F_p1 a_p1_cache_media a_p1_cache_stores a_p1_cache_held a_p1_cache_asked a_p1_micros a_p1_before a_p1_after a_p1_waiting a_p1_tallies p2 p3 F_t F_trial F_planner F_planner_shapeNow a_trial_cache_media a_trial_cache_stores a_trial_cache_held a_trial_cache_asked a_trial_micros a_trial_before a_trial_after a_trial_waiting a_trial_tallies a_planner_words a_planner_addresses a_planner_numbers a_planner_olds a_walk_row a_walk_picture a_walk_settled)
  else (
  m_X2_run_j90 F_p1 a_p1_cache_media a_p1_cache_stores a_p1_cache_held a_p1_cache_asked a_p1_micros a_p1_before a_p1_after a_p1_waiting a_p1_tallies p2 p3 1 F_t F_trial F_planner F_planner_shapeNow a_trial_cache_media a_trial_cache_stores a_trial_cache_held a_trial_cache_asked a_trial_micros a_trial_before a_trial_after a_trial_waiting a_trial_tallies a_planner_words a_planner_addresses a_planner_numbers a_planner_olds a_walk_row a_walk_picture a_walk_settled))
def m_X2_run_j52 (F_p1 : Nat → Int32) (a_p1_cache_media : Nat → Int32) (a_p1_cache_stores : Nat → Int32) (a_p1_cache_held : Nat → Int32) (a_p1_cache_asked : Nat → Int32) (a_p1_micros : Nat → Int32) (a_p1_before : Nat → Int32) (a_p1_after : Nat → Int32) (a_p1_waiting : Nat → Int32) (a_p1_tallies : Nat → Int32) (p2 : Int32) (p3 : Int32) (s0 : Int32) (F_t : Nat → Int32) (F_trial : Nat → Int32) (F_planner : Nat → Int32) (F_planner_shapeNow : Nat → Int32) (a_trial_cache_media : Nat → Int32) (a_trial_cache_stores : Nat → Int32) (a_trial_cache_held : Nat → Int32) (a_trial_cache_asked : Nat → Int32) (a_trial_micros : Nat → Int32) (a_trial_before : Nat → Int32) (a_trial_after : Nat → Int32) (a_trial_waiting : Nat → Int32) (a_trial_tallies : Nat → Int32) (a_planner_words : Nat → Int32) (a_planner_addresses : Nat → Int32) (a_planner_numbers : Nat → Int32) (a_planner_olds : Nat → Int32) (a_walk_row : Nat → Int32) (a_walk_picture : Nat → Int32) (a_walk_settled : Nat → Int32) : Option ((Nat → Int32) × (Nat → Int32) × (Nat → Int32) × (Nat → Int32) × (Nat → Int32) × (Nat → Int32) × (Nat → Int32) × (Nat → Int32) × (Nat → Int32) × (Nat → Int32) × (Nat → Int32) × (Nat → Int32) × (Nat → Int32) × (Nat → Int32) × (Nat → Int32) × (Nat → Int32) × (Nat → Int32) × (Nat → Int32) × (Nat → Int32) × (Nat → Int32)) :=
  if s0 = 0 then (
  m_X2_run_j70 F_p1 a_p1_cache_media a_p1_cache_stores a_p1_cache_held a_p1_cache_asked a_p1_micros a_p1_before a_p1_after a_p1_waiting a_p1_tallies p2 p3 s0 F_t F_trial F_planner F_planner_shapeNow a_trial_cache_media a_trial_cache_stores a_trial_cache_held a_trial_cache_asked a_trial_micros a_trial_before a_trial_after a_trial_waiting a_trial_tallies a_planner_words a_planner_addresses a_planner_numbers a_planner_olds a_walk_row a_walk_picture a_walk_settled)
  else (
  bd (m_X4_beginRecovery F_trial F_planner a_trial_cache_media a_trial_micros a_trial_tallies a_planner_addresses a_planner_numbers) fun u14 =>
  m_X2_run_j70 F_p1 a_p1_cache_media a_p1_cache_stores a_p1_cache_held a_p1_cache_asked a_p1_micros a_p1_before a_p1_after a_p1_waiting a_p1_tallies p2 p3 s0 F_t u14.1 u14.2.1 F_planner_shapeNow a_trial_cache_media a_trial_cache_stores a_trial_cache_held a_trial_cache_asked u14.2.2.1 a_trial_before a_trial_after a_trial_waiting u14.2.2.2.1 a_planner_words u14.2.2.2.2.1 u14.2.2.2.2.2 a_planner_olds a_walk_row a_walk_picture a_walk_settled)
def m_X2_run (F_t : Nat → Int32) (F_trial : Nat → Int32) (F_planner : Nat → Int32) (F_planner_shapeNow : Nat → Int32) (F_p1 : Nat → Int32) (a_trial_cache_media : Nat → Int32) (a_trial_cache_stores : Nat → Int32) (a_trial_cache_held : Nat → Int32) (a_trial_cache_asked : Nat → Int32) (a_trial_micros : Nat → Int32) (a_trial_before : Nat → Int32) (a_trial_after : Nat → Int32) (a_trial_waiting : Nat → Int32) (a_trial_tallies : Nat → Int32) (a_planner_words : Nat → Int32) (a_planner_addresses : Nat → Int32) (a_planner_numbers : Nat → Int32) (a_planner_olds : Nat → Int32) (a_walk_row : Nat → Int32) (a_walk_picture : Nat → Int32) (a_walk_settled : Nat → Int32) (a_p1_cache_media : Nat → Int32) (a_p1_cache_stores : Nat → Int32) (a_p1_cache_held : Nat → Int32) (a_p1_cache_asked : Nat → Int32) (a_p1_micros : Nat → Int32) (a_p1_before : Nat → Int32) (a_p1_after : Nat → Int32) (a_p1_waiting : Nat → Int32) (a_p1_tallies : Nat → Int32) (p2 : Int32) (p3 : Int32) : Option ((Nat → Int32) × (Nat → Int32) × (Nat → Int32) × (Nat → Int32) × (Nat → Int32) × (Nat → Int32) × (Nat → Int32) × (Nat → Int32) × (Nat → Int32) × (Nat → Int32) × (Nat → Int32) × (Nat → Int32) × (Nat → Int32) × (Nat → Int32) × (Nat → Int32) × (Nat → Int32) × (Nat → Int32) × (Nat → Int32) × (Nat → Int32) × (Nat → Int32)) :=
  bd (m_X4_copyFrom F_trial F_p1 a_trial_cache_media a_trial_cache_stores a_trial_cache_held a_trial_cache_asked a_trial_micros a_trial_before a_trial_after a_trial_waiting a_trial_tallies a_p1_cache_media a_p1_cache_stores a_p1_cache_held a_p1_cache_asked a_p1_micros a_p1_before a_p1_after a_p1_waiting a_p1_tallies) fun u1 =>
  nm (upd u1.1 10 p2) fun F2 =>
  nm (upd F_t 3 0) fun F3 =>
  nm (upd F3 4 (-1)) fun F4 =>
  nm (upd F4 5 (-1)) fun F5 =>
  cb 0 (
  nm (upd F5 6 0) fun F6 =>
  if (F2 8) = 1 then (
  m_X2_run_j52 F_p1 a_p1_cache_media a_p1_cache_stores a_p1_cache_held a_p1_cache_asked a_p1_micros a_p1_before a_p1_after a_p1_waiting a_p1_tallies p2 p3 1 F6 F2 F_planner F_planner_shapeNow u1.2.1 u1.2.2.1 u1.2.2.2.1 u1.2.2.2.2.1 u1.2.2.2.2.2.1 u1.2.2.2.2.2.2.1 u1.2.2.2.2.2.2.2.1 u1.2.2.2.2.2.2.2.2.1 u1.2.2.2.2.2.2.2.2.2 a_planner_words a_planner_addresses a_planner_numbers a_planner_olds a_walk_row a_walk_picture a_walk_settled)
  else (
  m_X2_run_j52 F_p1 a_p1_cache_media a_p1_cache_stores a_p1_cache_held a_p1_cache_asked a_p1_micros a_p1_before a_p1_after a_p1_waiting a_p1_tallies p2 p3 0 F6 F2 F_planner F_planner_shapeNow u1.2.1 u1.2.2.1 u1.2.2.2.1 u1.2.2.2.2.1 u1.2.2.2.2.2.1 u1.2.2.2.2.2.2.1 u1.2.2.2.2.2.2.2.1 u1.2.2.2.2.2.2.2.2.1 u1.2.2.2.2.2.2.2.2.2 a_planner_words a_planner_addresses a_planner_numbers a_planner_olds a_walk_row a_walk_picture a_walk_settled))
set_option maxHeartbeats 4000000 in
set_option maxRecDepth 100000 in
theorem c_X2_run (l : Launch) (D : va_G) (cI : ClassId) (h_t : Nat) (h_p1 : Nat) (r_t : Nat → Nat) (r_trial : Nat → Nat) (r_trial_cache : Nat → Nat) (r_planner : Nat → Nat) (r_planner_shapeNow : Nat → Nat) (r_walk : Nat → Nat) (r_p1 : Nat → Nat) (r_p1_cache : Nat → Nat) (F_t : Nat → Int32) (F_trial : Nat → Int32) (F_planner : Nat → Int32) (F_planner_shapeNow : Nat → Int32) (F_p1 : Nat → Int32) (a_trial_cache_media : Nat → Int32) (a_trial_cache_stores : Nat → Int32) (a_trial_cache_held : Nat → Int32) (a_trial_cache_asked : Nat → Int32) (a_trial_micros : Nat → Int32) (a_trial_before : Nat → Int32) (a_trial_after : Nat → Int32) (a_trial_waiting : Nat → Int32) (a_trial_tallies : Nat → Int32) (a_planner_words : Nat → Int32) (a_planner_addresses : Nat → Int32) (a_planner_numbers : Nat → Int32) (a_planner_olds : Nat → Int32) (a_walk_row : Nat → Int32) (a_walk_picture : Nat → Int32) (a_walk_settled : Nat → Int32) (a_p1_cache_media : Nat → Int32) (a_p1_cache_stores : Nat → Int32) (a_p1_cache_held : Nat → Int32) (a_p1_cache_asked : Nat → Int32) (a_p1_micros : Nat → Int32) (a_p1_before : Nat → Int32) (a_p1_after : Nat → Int32) (a_p1_waiting : Nat → Int32) (a_p1_tallies : Nat → Int32) (p2 : Int32) (p3 : Int32) (Rr : (Nat → Int32) × (Nat → Int32) × (Nat → Int32) × (Nat → Int32) × (Nat → Int32) × (Nat → Int32) × (Nat → Int32) × (Nat → Int32) × (Nat → Int32) × (Nat → Int32) × (Nat → Int32) × (Nat → Int32) × (Nat → Int32) × (Nat → Int32) × (Nat → Int32) × (Nat → Int32) × (Nat → Int32) × (Nat → Int32) × (Nat → Int32) × (Nat → Int32)) (hf : m_X2_run F_t F_trial F_planner F_planner_shapeNow F_p1 a_trial_cache_media a_trial_cache_stores a_trial_cache_held a_trial_cache_asked a_trial_micros a_trial_before a_trial_after a_trial_waiting a_trial_tallies a_planner_words a_planner_addresses a_planner_numbers a_planner_olds a_walk_row a_walk_picture a_walk_settled a_p1_cache_media a_p1_cache_stores a_p1_cache_held a_p1_cache_asked a_p1_micros a_p1_before a_p1_after a_p1_waiting a_p1_tallies p2 p3 = some Rr) : CTv l yX2_run (Cond.code yX2_run cX2_run 8 none) rm_X2_run D cI [.ref h_t, .ref h_p1, .int p2, .int p3] (w_X2_run h_t h_p1 r_t r_trial r_trial_cache r_planner r_planner_shapeNow r_walk r_p1 r_p1_cache F_t F_trial F_planner F_planner_shapeNow F_p1 cI a_trial_cache_media a_trial_cache_stores a_trial_cache_held a_trial_cache_asked a_trial_micros a_trial_before a_trial_after a_trial_waiting a_trial_tallies a_planner_words a_planner_addresses a_planner_numbers a_planner_olds a_walk_row a_walk_picture a_walk_settled a_p1_cache_media a_p1_cache_stores a_p1_cache_held a_p1_cache_asked a_p1_micros a_p1_before a_p1_after a_p1_waiting a_p1_tallies) (w_X2_run h_t h_p1 r_t r_trial r_trial_cache r_planner r_planner_shapeNow r_walk r_p1 r_p1_cache Rr.1 Rr.2.1 Rr.2.2.1 Rr.2.2.2.1 F_p1 cI Rr.2.2.2.2.1 Rr.2.2.2.2.2.1 Rr.2.2.2.2.2.2.1 Rr.2.2.2.2.2.2.2.1 Rr.2.2.2.2.2.2.2.2.1 Rr.2.2.2.2.2.2.2.2.2.1 Rr.2.2.2.2.2.2.2.2.2.2.1 Rr.2.2.2.2.2.2.2.2.2.2.2.1 Rr.2.2.2.2.2.2.2.2.2.2.2.2.1 Rr.2.2.2.2.2.2.2.2.2.2.2.2.2.1 Rr.2.2.2.2.2.2.2.2.2.2.2.2.2.2.1 Rr.2.2.2.2.2.2.2.2.2.2.2.2.2.2.2.1 Rr.2.2.2.2.2.2.2.2.2.2.2.2.2.2.2.2.1 Rr.2.2.2.2.2.2.2.2.2.2.2.2.2.2.2.2.2.1 Rr.2.2.2.2.2.2.2.2.2.2.2.2.2.2.2.2.2.2.1 Rr.2.2.2.2.2.2.2.2.2.2.2.2.2.2.2.2.2.2.2 a_p1_cache_media a_p1_cache_stores a_p1_cache_held a_p1_cache_asked a_p1_micros a_p1_before a_p1_after a_p1_waiting a_p1_tallies) := by
  refine z_begin_v (own := RX2) (ρ := (Nat → Int32) × (Nat → Int32) × (Nat → Int32) × (Nat → Int32) × (Nat → Int32) × (Nat → Int32) × (Nat → Int32) × (Nat → Int32) × (Nat → Int32) × (Nat → Int32) × (Nat → Int32) × (Nat → Int32) × (Nat → Int32) × (Nat → Int32) × (Nat → Int32) × (Nat → Int32) × (Nat → Int32) × (Nat → Int32) × (Nat → Int32) × (Nat → Int32)) (fun u => w_X2_run h_t h_p1 r_t r_trial r_trial_cache r_planner r_planner_shapeNow r_walk r_p1 r_p1_cache u.1 u.2.1 u.2.2.1 u.2.2.2.1 F_p1 cI u.2.2.2.2.1 u.2.2.2.2.2.1 u.2.2.2.2.2.2.1 u.2.2.2.2.2.2.2.1 u.2.2.2.2.2.2.2.2.1 u.2.2.2.2.2.2.2.2.2.1 u.2.2.2.2.2.2.2.2.2.2.1 u.2.2.2.2.2.2.2.2.2.2.2.1 u.2.2.2.2.2.2.2.2.2.2.2.2.1 u.2.2.2.2.2.2.2.2.2.2.2.2.2.1 u.2.2.2.2.2.2.2.2.2.2.2.2.2.2.1 u.2.2.2.2.2.2.2.2.2.2.2.2.2.2.2.1 u.2.2.2.2.2.2.2.2.2.2.2.2.2.2.2.2.1 u.2.2.2.2.2.2.2.2.2.2.2.2.2.2.2.2.2.1 u.2.2.2.2.2.2.2.2.2.2.2.2.2.2.2.2.2.2.1 u.2.2.2.2.2.2.2.2.2.2.2.2.2.2.2.2.2.2.2 a_p1_cache_media a_p1_cache_stores a_p1_cache_held a_p1_cache_asked a_p1_micros a_p1_before a_p1_after a_p1_waiting a_p1_tallies) (by decide +kernel) rfl (Nat.le_of_ble_eq_true rfl) ?_
  intro p e s m args below meth c ls Q A hx hb hml hts hcx hown hK hX hA hP hD hS hl hret
  have hl : lv_has ls 8 [(0, .ref h_t), (1, .ref h_p1), (2, .int p2), (3, .int p3)] := hl
  have hf := (m_X2_run.eq_1 _ _ _ _ _ _ _ _ _ _ _ _ _ _ _ _ _ _ _ _ _ _ _ _ _ _ _ _ _ _ _ _).symm.trans hf
  have L119 : ∀ (F_t : Nat → Int32) (F_trial : Nat → Int32) (F_planner : Nat → Int32) (F_planner_shapeNow : Nat → Int32) (a_trial_cache_media : Nat → Int32) (a_trial_cache_stores : Nat → Int32) (a_trial_cache_held : Nat → Int32) (a_trial_cache_asked : Nat → Int32) (a_trial_micros : Nat → Int32) (a_trial_before : Nat → Int32) (a_trial_after : Nat → Int32) (a_trial_waiting : Nat → Int32) (a_trial_tallies : Nat → Int32) (a_planner_words : Nat → Int32) (a_planner_addresses : Nat → Int32) (a_planner_numbers : Nat → Int32) (a_planner_olds : Nat → Int32) (a_walk_row : Nat → Int32) (a_walk_picture : Nat → Int32) (a_walk_settled : Nat → Int32) (H : Heap) (locs : List Loc) (ls : Array Slot), m_X2_run_j119 F_p1 a_p1_cache_media a_p1_cache_stores a_p1_cache_held a_p1_cache_asked a_p1_micros a_p1_before a_p1_after a_p1_waiting a_p1_tallies p2 p3 F_t F_trial F_planner F_planner_shapeNow a_trial_cache_media a_trial_cache_stores a_trial_cache_held a_trial_cache_asked a_trial_micros a_trial_before a_trial_after a_trial_waiting a_trial_tallies a_planner_words a_planner_addresses a_planner_numbers a_planner_olds a_walk_row a_walk_picture a_walk_settled = some Rr → va_P D vwCl (w_X2_run h_t h_p1 r_t r_trial r_trial_cache r_planner r_planner_shapeNow r_walk r_p1 r_p1_cache F_t F_trial F_planner F_planner_shapeNow F_p1 cI a_trial_cache_media a_trial_cache_stores a_trial_cache_held a_trial_cache_asked a_trial_micros a_trial_before a_trial_after a_trial_waiting a_trial_tallies a_planner_words a_planner_addresses a_planner_numbers a_planner_olds a_walk_row a_walk_picture a_walk_settled a_p1_cache_media a_p1_cache_stores a_p1_cache_held a_p1_cache_asked a_p1_micros a_p1_before a_p1_after a_p1_waiting a_p1_tallies) H → va_D A (w_X2_run h_t h_p1 r_t r_trial r_trial_cache r_planner r_planner_shapeNow r_walk r_p1 r_p1_cache F_t F_trial F_planner F_planner_shapeNow F_p1 cI a_trial_cache_media a_trial_cache_stores a_trial_cache_held a_trial_cache_asked a_trial_micros a_trial_before a_trial_after a_trial_waiting a_trial_tallies a_planner_words a_planner_addresses a_planner_numbers a_planner_olds a_walk_row a_walk_picture a_walk_settled a_p1_cache_media a_p1_cache_stores a_p1_cache_held a_p1_cache_asked a_p1_micros a_p1_before a_p1_after a_p1_waiting a_p1_tallies) → va_S A s.heap H locs → lv_has ls 8 [(0, .ref h_t)] → W p l e rm_X2_run s m args below meth c H locs 0 0 Q (F0 m 119 ls []) := by
    intro F_t F_trial F_planner F_planner_shapeNow a_trial_cache_media a_trial_cache_stores a_trial_cache_held a_trial_cache_asked a_trial_micros a_trial_before a_trial_after a_trial_waiting a_trial_tallies a_planner_words a_planner_addresses a_planner_numbers a_planner_olds a_walk_row a_walk_picture a_walk_settled H locs ls hf hP hD hS hl
    have hf := (m_X2_run_j119.eq_1 _ _ _ _ _ _ _ _ _ _ _ _ _ _ _ _ _ _ _ _ _ _ _ _ _ _ _ _ _ _ _ _).symm.trans hf
    refine lv_aload_n hx hb dX2_run_119 rfl (lv_at hl 0 rfl) ?_
    refine lv_iconst (v := 1) hx hb dX2_run_120 (by decide) ?_
    refine z_putb (ci := 2) (C := RX2) (T := TX2) (N := 7) hx hb hts inT_X2 tyX2 tyX2_ok nmX2 hown hK hP hD hS 0 rfl rfl 6 (by decide) tf_X2_42 rfl (by decide +kernel) (Nat.le_of_ble_eq_true rfl) (o_X2 r_t) (o_X2_s6 _ _ _) (fun z => w_X2_run h_t h_p1 r_t r_trial r_trial_cache r_planner r_planner_shapeNow r_walk r_p1 r_p1_cache z F_trial F_planner F_planner_shapeNow F_p1 cI a_trial_cache_media a_trial_cache_stores a_trial_cache_held a_trial_cache_asked a_trial_micros a_trial_before a_trial_after a_trial_waiting a_trial_tallies a_planner_words a_planner_addresses a_planner_numbers a_planner_olds a_walk_row a_walk_picture a_walk_settled a_p1_cache_media a_p1_cache_stores a_p1_cache_held a_p1_cache_asked a_p1_micros a_p1_before a_p1_after a_p1_waiting a_p1_tallies) (fun _ => rfl) dX2_run_121 hf (fun F12 H locs hf hP hD hS => ?_)
    exact hret (F12, F_trial, F_planner, F_planner_shapeNow, a_trial_cache_media, a_trial_cache_stores, a_trial_cache_held, a_trial_cache_asked, a_trial_micros, a_trial_before, a_trial_after, a_trial_waiting, a_trial_tallies, a_planner_words, a_planner_addresses, a_planner_numbers, a_planner_olds, a_walk_row, a_walk_picture, a_walk_settled) _ _ _ _ hf hP hD hS dX2_run_124
  have L95 : ∀ (n95 : Nat) (x5 : Int32) (x6 : Int32) (F_t : Nat → Int32) (F_trial : Nat → Int32) (F_planner : Nat → Int32) (F_planner_shapeNow : Nat → Int32) (a_trial_cache_media : Nat → Int32) (a_trial_cache_stores : Nat → Int32) (a_trial_cache_held : Nat → Int32) (a_trial_cache_asked : Nat → Int32) (a_trial_micros : Nat → Int32) (a_trial_before : Nat → Int32) (a_trial_after : Nat → Int32) (a_trial_waiting : Nat → Int32) (a_trial_tallies : Nat → Int32) (a_planner_words : Nat → Int32) (a_planner_addresses : Nat → Int32) (a_planner_numbers : Nat → Int32) (a_planner_olds : Nat → Int32) (a_walk_row : Nat → Int32) (a_walk_picture : Nat → Int32) (a_walk_settled : Nat → Int32) (H : Heap) (locs : List Loc) (ls : Array Slot), m_X2_run_w95 F_p1 a_p1_cache_media a_p1_cache_stores a_p1_cache_held a_p1_cache_asked a_p1_micros a_p1_before a_p1_after a_p1_waiting a_p1_tallies p2 p3 (m_X2_run_j119 F_p1 a_p1_cache_media a_p1_cache_stores a_p1_cache_held a_p1_cache_asked a_p1_micros a_p1_before a_p1_after a_p1_waiting a_p1_tallies p2 p3) n95 x5 x6 F_t F_trial F_planner F_planner_shapeNow a_trial_cache_media a_trial_cache_stores a_trial_cache_held a_trial_cache_asked a_trial_micros a_trial_before a_trial_after a_trial_waiting a_trial_tallies a_planner_words a_planner_addresses a_planner_numbers a_planner_olds a_walk_row a_walk_picture a_walk_settled = some Rr → va_P D vwCl (w_X2_run h_t h_p1 r_t r_trial r_trial_cache r_planner r_planner_shapeNow r_walk r_p1 r_p1_cache F_t F_trial F_planner F_planner_shapeNow F_p1 cI a_trial_cache_media a_trial_cache_stores a_trial_cache_held a_trial_cache_asked a_trial_micros a_trial_before a_trial_after a_trial_waiting a_trial_tallies a_planner_words a_planner_addresses a_planner_numbers a_planner_olds a_walk_row a_walk_picture a_walk_settled a_p1_cache_media a_p1_cache_stores a_p1_cache_held a_p1_cache_asked a_p1_micros a_p1_before a_p1_after a_p1_waiting a_p1_tallies) H → va_D A (w_X2_run h_t h_p1 r_t r_trial r_trial_cache r_planner r_planner_shapeNow r_walk r_p1 r_p1_cache F_t F_trial F_planner F_planner_shapeNow F_p1 cI a_trial_cache_media a_trial_cache_stores a_trial_cache_held a_trial_cache_asked a_trial_micros a_trial_before a_trial_after a_trial_waiting a_trial_tallies a_planner_words a_planner_addresses a_planner_numbers a_planner_olds a_walk_row a_walk_picture a_walk_settled a_p1_cache_media a_p1_cache_stores a_p1_cache_held a_p1_cache_asked a_p1_micros a_p1_before a_p1_after a_p1_waiting a_p1_tallies) → va_S A s.heap H locs → lv_has ls 8 [(0, .ref h_t), (3, .int p3), (5, .int x5), (6, .int x6)] → W p l e rm_X2_run s m args below meth c H locs 0 0 Q (F0 m 95 ls []) := by
    intro n95
    induction n95 with
    | zero => intro x5 x6 F_t F_trial F_planner F_planner_shapeNow a_trial_cache_media a_trial_cache_stores a_trial_cache_held a_trial_cache_asked a_trial_micros a_trial_before a_trial_after a_trial_waiting a_trial_tallies a_planner_words a_planner_addresses a_planner_numbers a_planner_olds a_walk_row a_walk_picture a_walk_settled H locs ls hf; cases (show (none : Option _) = some Rr from hf)
    | succ n95 ih95 =>
      intro x5 x6 F_t F_trial F_planner F_planner_shapeNow a_trial_cache_media a_trial_cache_stores a_trial_cache_held a_trial_cache_asked a_trial_micros a_trial_before a_trial_after a_trial_waiting a_trial_tallies a_planner_words a_planner_addresses a_planner_numbers a_planner_olds a_walk_row a_walk_picture a_walk_settled H locs ls hf hP hD hS hl
      have hf := (m_X2_run_w95.eq_2 _ _ _ _ _ _ _ _ _ _ _ _ _ _ _ _ _ _ _ _ _ _ _ _ _ _ _ _ _ _ _ _ _ _ _ _).symm.trans hf
      have L175 : ∀ (x5 : Int32) (x6 : Int32) (F_t : Nat → Int32) (F_trial : Nat → Int32) (F_planner : Nat → Int32) (F_planner_shapeNow : Nat → Int32) (a_trial_cache_media : Nat → Int32) (a_trial_cache_stores : Nat → Int32) (a_trial_cache_held : Nat → Int32) (a_trial_cache_asked : Nat → Int32) (a_trial_micros : Nat → Int32) (a_trial_before : Nat → Int32) (a_trial_after : Nat → Int32) (a_trial_waiting : Nat → Int32) (a_trial_tallies : Nat → Int32) (a_planner_words : Nat → Int32) (a_planner_addresses : Nat → Int32) (a_planner_numbers : Nat → Int32) (a_planner_olds : Nat → Int32) (a_walk_row : Nat → Int32) (a_walk_picture : Nat → Int32) (a_walk_settled : Nat → Int32) (H : Heap) (locs : List Loc) (ls : Array Slot), m_X2_run_j175 F_p1 a_p1_cache_media a_p1_cache_stores a_p1_cache_held a_p1_cache_asked a_p1_micros a_p1_before a_p1_after a_p1_waiting a_p1_tallies p2 p3 (m_X2_run_w95 F_p1 a_p1_cache_media a_p1_cache_stores a_p1_cache_held a_p1_cache_asked a_p1_micros a_p1_before a_p1_after a_p1_waiting a_p1_tallies p2 p3 (m_X2_run_j119 F_p1 a_p1_cache_media a_p1_cache_stores a_p1_cache_held a_p1_cache_asked a_p1_micros a_p1_before a_p1_after a_p1_waiting a_p1_tallies p2 p3) n95) x5 x6 F_t F_trial F_planner F_planner_shapeNow a_trial_cache_media a_trial_cache_stores a_trial_cache_held a_trial_cache_asked a_trial_micros a_trial_before a_trial_after a_trial_waiting a_trial_tallies a_planner_words a_planner_addresses a_planner_numbers a_planner_olds a_walk_row a_walk_picture a_walk_settled = some Rr → va_P D vwCl (w_X2_run h_t h_p1 r_t r_trial r_trial_cache r_planner r_planner_shapeNow r_walk r_p1 r_p1_cache F_t F_trial F_planner F_planner_shapeNow F_p1 cI a_trial_cache_media a_trial_cache_stores a_trial_cache_held a_trial_cache_asked a_trial_micros a_trial_before a_trial_after a_trial_waiting a_trial_tallies a_planner_words a_planner_addresses a_planner_numbers a_planner_olds a_walk_row a_walk_picture a_walk_settled a_p1_cache_media a_p1_cache_stores a_p1_cache_held a_p1_cache_asked a_p1_micros a_p1_before a_p1_after a_p1_waiting a_p1_tallies) H → va_D A (w_X2_run h_t h_p1 r_t r_trial r_trial_cache r_planner r_planner_shapeNow r_walk r_p1 r_p1_cache F_t F_trial F_planner F_planner_shapeNow F_p1 cI a_trial_cache_media a_trial_cache_stores a_trial_cache_held a_trial_cache_asked a_trial_micros a_trial_before a_trial_after a_trial_waiting a_trial_tallies a_planner_words a_planner_addresses a_planner_numbers a_planner_olds a_walk_row a_walk_picture a_walk_settled a_p1_cache_media a_p1_cache_stores a_p1_cache_held a_p1_cache_asked a_p1_micros a_p1_before a_p1_after a_p1_waiting a_p1_tallies) → va_S A s.heap H locs → lv_has ls 8 [(0, .ref h_t), (3, .int p3), (5, .int x5), (6, .int x6)] → W p l e rm_X2_run s m args below meth c H locs 0 0 Q (F0 m 175 ls []) := by
        intro x5 x6 F_t F_trial F_planner F_planner_shapeNow a_trial_cache_media a_trial_cache_stores a_trial_cache_held a_trial_cache_asked a_trial_micros a_trial_before a_trial_after a_trial_waiting a_trial_tallies a_planner_words a_planner_addresses a_planner_numbers a_planner_olds a_walk_row a_walk_picture a_walk_settled H locs ls hf hP hD hS hl
        have hf := (m_X2_run_j175.eq_1 _ _ _ _ _ _ _ _ _ _ _ _ _ _ _ _ _ _ _ _ _ _ _ _ _ _ _ _ _ _ _ _ _ _ _).symm.trans hf
        refine lv_aload_n hx hb dX2_run_175 rfl (lv_at hl 0 rfl) ?_
        refine z_get (ci := 2) (C := RX2) (T := TX2) (N := 7) (v := .ref (r_t 0)) hx hb hts inT_X2 hown hK hP 0 rfl rfl 0 (by decide) tf_X2_12 rfl dX2_run_176 ?_
        refine lv_aload_n hx hb dX2_run_179 rfl (lv_at hl 0 rfl) ?_
        refine z_get (ci := 2) (C := RX2) (T := TX2) (N := 7) (v := .ref (r_t 1)) hx hb hts inT_X2 hown hK hP 0 rfl rfl 1 (by decide) tf_X2_21 rfl dX2_run_180 ?_
        obtain ⟨u9, hu9, hf⟩ := bd_some hf
        refine z_ci (ws1 := w_X2_run h_t h_p1 r_t r_trial r_trial_cache r_planner r_planner_shapeNow r_walk r_p1 r_p1_cache F_t u9.2.1 u9.2.2.1 u9.2.2.2.1 F_p1 cI u9.2.2.2.2.1 u9.2.2.2.2.2.1 u9.2.2.2.2.2.2.1 u9.2.2.2.2.2.2.2.1 u9.2.2.2.2.2.2.2.2.1 u9.2.2.2.2.2.2.2.2.2.1 u9.2.2.2.2.2.2.2.2.2.2.1 u9.2.2.2.2.2.2.2.2.2.2.2.1 u9.2.2.2.2.2.2.2.2.2.2.2.2.1 u9.2.2.2.2.2.2.2.2.2.2.2.2.2.1 u9.2.2.2.2.2.2.2.2.2.2.2.2.2.2.1 u9.2.2.2.2.2.2.2.2.2.2.2.2.2.2.2.1 u9.2.2.2.2.2.2.2.2.2.2.2.2.2.2.2.2 a_walk_row a_walk_picture a_walk_settled a_p1_cache_media a_p1_cache_stores a_p1_cache_held a_p1_cache_asked a_p1_micros a_p1_before a_p1_after a_p1_waiting a_p1_tallies) (wr := List.filterMap (fun i : Nat => (w_X2_run h_t h_p1 r_t r_trial r_trial_cache r_planner r_planner_shapeNow r_walk r_p1 r_p1_cache F_t F_trial F_planner F_planner_shapeNow F_p1 cI a_trial_cache_media a_trial_cache_stores a_trial_cache_held a_trial_cache_asked a_trial_micros a_trial_before a_trial_after a_trial_waiting a_trial_tallies a_planner_words a_planner_addresses a_planner_numbers a_planner_olds a_walk_row a_walk_picture a_walk_settled a_p1_cache_media a_p1_cache_stores a_p1_cache_held a_p1_cache_asked a_p1_micros a_p1_before a_p1_after a_p1_waiting a_p1_tallies)[i]?) [0, 18, 19, 20, 21, 22, 23, 24, 25, 26, 27, 28, 29, 30, 31, 32]) (z_rV (rest := []) hx hb hml hown hcx hl.1 (c_X4_step l D cI (r_t 0) (r_t 1) r_trial r_trial_cache r_planner r_planner_shapeNow F_trial F_planner F_planner_shapeNow a_trial_cache_media a_trial_cache_stores a_trial_cache_held a_trial_cache_asked a_trial_micros a_trial_before a_trial_after a_trial_waiting a_trial_tallies a_planner_words a_planner_addresses a_planner_numbers a_planner_olds u9 hu9 _) tl_X2_80 ti_X4_step tz_X4_step tn_X4 tc_X4_step tm_X4_step rfl rfl ⟨Nat.le_of_ble_eq_true rfl, Nat.le_of_ble_eq_true rfl⟩ hK hX hS hA hP hD [1, 2, 3, 4, 5, 6, 7, 8, 9, 10, 11, 12, 13, 14, 15, 16, 17] rfl rfl 1 rfl rfl rfl rfl (Nat.le_of_ble_eq_true rfl) dX2_run_183 ⟨Nat.zero_le _, Nat.zero_le _⟩) hP hD hS hA [1, 2, 3, 4, 5, 6, 7, 8, 9, 10, 11, 12, 13, 14, 15, 16, 17] [0, 18, 19, 20, 21, 22, 23, 24, 25, 26, 27, 28, 29, 30, 31, 32] [0, 16, 17, 18, 19, 20, 21, 22, 23, 24, 25, 26, 27, 28, 29, 30, 31, 32, 1, 2, 3, 4, 5, 6, 7, 8, 9, 10, 11, 12, 13, 14, 15] rfl rfl rfl (by decide) rfl rfl (fun H locs hP hD hS => ?_)
        refine z_if_ne (tgt := 190) hx hb dX2_run_186 (by decide) hf (fun hf => ?_) (fun hf => ?_)
        · refine z_iinc (k0 := 3) (fun z => [(6, .int z), (0, .ref h_t), (3, .int p3), (5, .int x5)]) hx hb dX2_run_190 hl rfl (by decide) (by decide) (fun _ => rfl) hf (fun v10 ls hf hl => ?_)
          refine lv_goto (tgt := 95) hx hb dX2_run_193 (by decide) ?_
          exact ih95 x5 v10 F_t u9.2.1 u9.2.2.1 u9.2.2.2.1 u9.2.2.2.2.1 u9.2.2.2.2.2.1 u9.2.2.2.2.2.2.1 u9.2.2.2.2.2.2.2.1 u9.2.2.2.2.2.2.2.2.1 u9.2.2.2.2.2.2.2.2.2.1 u9.2.2.2.2.2.2.2.2.2.2.1 u9.2.2.2.2.2.2.2.2.2.2.2.1 u9.2.2.2.2.2.2.2.2.2.2.2.2.1 u9.2.2.2.2.2.2.2.2.2.2.2.2.2.1 u9.2.2.2.2.2.2.2.2.2.2.2.2.2.2.1 u9.2.2.2.2.2.2.2.2.2.2.2.2.2.2.2.1 u9.2.2.2.2.2.2.2.2.2.2.2.2.2.2.2.2 a_walk_row a_walk_picture a_walk_settled _ _ _ hf hP hD hS (lv_sub hl [1, 2, 3, 0] rfl)
        · exact hret (F_t, u9.2.1, u9.2.2.1, u9.2.2.2.1, u9.2.2.2.2.1, u9.2.2.2.2.2.1, u9.2.2.2.2.2.2.1, u9.2.2.2.2.2.2.2.1, u9.2.2.2.2.2.2.2.2.1, u9.2.2.2.2.2.2.2.2.2.1, u9.2.2.2.2.2.2.2.2.2.2.1, u9.2.2.2.2.2.2.2.2.2.2.2.1, u9.2.2.2.2.2.2.2.2.2.2.2.2.1, u9.2.2.2.2.2.2.2.2.2.2.2.2.2.1, u9.2.2.2.2.2.2.2.2.2.2.2.2.2.2.1, u9.2.2.2.2.2.2.2.2.2.2.2.2.2.2.2.1, u9.2.2.2.2.2.2.2.2.2.2.2.2.2.2.2.2, a_walk_row, a_walk_picture, a_walk_settled) _ _ _ _ hf hP hD hS dX2_run_189
      have L157 : ∀ (x5 : Int32) (x6 : Int32) (s0 : Int32) (F_t : Nat → Int32) (F_trial : Nat → Int32) (F_planner : Nat → Int32) (F_planner_shapeNow : Nat → Int32) (a_trial_cache_media : Nat → Int32) (a_trial_cache_stores : Nat → Int32) (a_trial_cache_held : Nat → Int32) (a_trial_cache_asked : Nat → Int32) (a_trial_micros : Nat → Int32) (a_trial_before : Nat → Int32) (a_trial_after : Nat → Int32) (a_trial_waiting : Nat → Int32) (a_trial_tallies : Nat → Int32) (a_planner_words : Nat → Int32) (a_planner_addresses : Nat → Int32) (a_planner_numbers : Nat → Int32) (a_planner_olds : Nat → Int32) (a_walk_row : Nat → Int32) (a_walk_picture : Nat → Int32) (a_walk_settled : Nat → Int32) (H : Heap) (locs : List Loc) (ls : Array Slot), m_X2_run_j157 F_p1 a_p1_cache_media a_p1_cache_stores a_p1_cache_held a_p1_cache_asked a_p1_micros a_p1_before a_p1_after a_p1_waiting a_p1_tallies p2 p3 (m_X2_run_w95 F_p1 a_p1_cache_media a_p1_cache_stores a_p1_cache_held a_p1_cache_asked a_p1_micros a_p1_before a_p1_after a_p1_waiting a_p1_tallies p2 p3 (m_X2_run_j119 F_p1 a_p1_cache_media a_p1_cache_stores a_p1_cache_held a_p1_cache_asked a_p1_micros a_p1_before a_p1_after a_p1_waiting a_p1_tallies p2 p3) n95) x5 x6 s0 F_t F_trial F_planner F_planner_shapeNow a_trial_cache_media a_trial_cache_stores a_trial_cache_held a_trial_cache_asked a_trial_micros a_trial_before a_trial_after a_trial_waiting a_trial_tallies a_planner_words a_planner_addresses a_planner_numbers a_planner_olds a_walk_row a_walk_picture a_walk_settled = some Rr → va_P D vwCl (w_X2_run h_t h_p1 r_t r_trial r_trial_cache r_planner r_planner_shapeNow r_walk r_p1 r_p1_cache F_t F_trial F_planner F_planner_shapeNow F_p1 cI a_trial_cache_media a_trial_cache_stores a_trial_cache_held a_trial_cache_asked a_trial_micros a_trial_before a_trial_after a_trial_waiting a_trial_tallies a_planner_words a_planner_addresses a_planner_numbers a_planner_olds a_walk_row a_walk_picture a_walk_settled a_p1_cache_media a_p1_cache_stores a_p1_cache_held a_p1_cache_asked a_p1_micros a_p1_before a_p1_after a_p1_waiting a_p1_tallies) H → va_D A (w_X2_run h_t h_p1 r_t r_trial r_trial_cache r_planner r_planner_shapeNow r_walk r_p1 r_p1_cache F_t F_trial F_planner F_planner_shapeNow F_p1 cI a_trial_cache_media a_trial_cache_stores a_trial_cache_held a_trial_cache_asked a_trial_micros a_trial_before a_trial_after a_trial_waiting a_trial_tallies a_planner_words a_planner_addresses a_planner_numbers a_planner_olds a_walk_row a_walk_picture a_walk_settled a_p1_cache_media a_p1_cache_stores a_p1_cache_held a_p1_cache_asked a_p1_micros a_p1_before a_p1_after a_p1_waiting a_p1_tallies) → va_S A s.heap H locs → lv_has ls 8 [(0, .ref h_t), (3, .int p3), (5, .int x5), (6, .int x6)] → W p l e rm_X2_run s m args below meth c H locs 0 0 Q (F0 m 157 ls [.int s0]) := by
        intro x5 x6 s0 F_t F_trial F_planner F_planner_shapeNow a_trial_cache_media a_trial_cache_stores a_trial_cache_held a_trial_cache_asked a_trial_micros a_trial_before a_trial_after a_trial_waiting a_trial_tallies a_planner_words a_planner_addresses a_planner_numbers a_planner_olds a_walk_row a_walk_picture a_walk_settled H locs ls hf hP hD hS hl
        have hf := (m_X2_run_j157.eq_1 _ _ _ _ _ _ _ _ _ _ _ _ _ _ _ _ _ _ _ _ _ _ _ _ _ _ _ _ _ _ _ _ _ _ _ _).symm.trans hf
        refine lv_istore (lv' := [(7, .int s0), (0, .ref h_t), (3, .int p3), (5, .int x5), (6, .int x6)]) hx hb dX2_run_157 hl (by decide) rfl (fun ls hl => ?_)
        refine lv_iload hx hb dX2_run_159 (lv_at hl 0 rfl) ?_
        refine z_if_ne (tgt := 189) hx hb dX2_run_161 (by decide) hf (fun hf => ?_) (fun hf => ?_)
        · exact hret (F_t, F_trial, F_planner, F_planner_shapeNow, a_trial_cache_media, a_trial_cache_stores, a_trial_cache_held, a_trial_cache_asked, a_trial_micros, a_trial_before, a_trial_after, a_trial_waiting, a_trial_tallies, a_planner_words, a_planner_addresses, a_planner_numbers, a_planner_olds, a_walk_row, a_walk_picture, a_walk_settled) _ _ _ _ hf hP hD hS dX2_run_189
        · refine lv_iload_n hx hb dX2_run_164 rfl (lv_at hl 2 rfl) ?_
          refine z_if_eq (tgt := 175) hx hb dX2_run_165 (by decide) hf (fun hf => ?_) (fun hf => ?_)
          · exact L175 x5 x6 F_t F_trial F_planner F_planner_shapeNow a_trial_cache_media a_trial_cache_stores a_trial_cache_held a_trial_cache_asked a_trial_micros a_trial_before a_trial_after a_trial_waiting a_trial_tallies a_planner_words a_planner_addresses a_planner_numbers a_planner_olds a_walk_row a_walk_picture a_walk_settled _ _ _ hf hP hD hS (lv_sub hl [1, 2, 3, 4] rfl)
          · refine lv_aload_n hx hb dX2_run_168 rfl (lv_at hl 1 rfl) ?_
            refine z_get (ci := 2) (C := RX2) (T := TX2) (N := 7) (v := .int (F_t 3)) hx hb hts inT_X2 hown hK hP 0 rfl rfl 3 (by decide) tf_X2_32 rfl dX2_run_169 ?_
            refine z_if_gt (tgt := 189) hx hb dX2_run_172 (by decide) hf (fun hf => ?_) (fun hf => ?_)
            · exact hret (F_t, F_trial, F_planner, F_planner_shapeNow, a_trial_cache_media, a_trial_cache_stores, a_trial_cache_held, a_trial_cache_asked, a_trial_micros, a_trial_before, a_trial_after, a_trial_waiting, a_trial_tallies, a_planner_words, a_planner_addresses, a_planner_numbers, a_planner_olds, a_walk_row, a_walk_picture, a_walk_settled) _ _ _ _ hf hP hD hS dX2_run_189
            · exact L175 x5 x6 F_t F_trial F_planner F_planner_shapeNow a_trial_cache_media a_trial_cache_stores a_trial_cache_held a_trial_cache_asked a_trial_micros a_trial_before a_trial_after a_trial_waiting a_trial_tallies a_planner_words a_planner_addresses a_planner_numbers a_planner_olds a_walk_row a_walk_picture a_walk_settled _ _ _ hf hP hD hS (lv_sub hl [1, 2, 3, 4] rfl)
      have L152 : ∀ (x5 : Int32) (x6 : Int32) (F_t : Nat → Int32) (F_trial : Nat → Int32) (F_planner : Nat → Int32) (F_planner_shapeNow : Nat → Int32) (a_trial_cache_media : Nat → Int32) (a_trial_cache_stores : Nat → Int32) (a_trial_cache_held : Nat → Int32) (a_trial_cache_asked : Nat → Int32) (a_trial_micros : Nat → Int32) (a_trial_before : Nat → Int32) (a_trial_after : Nat → Int32) (a_trial_waiting : Nat → Int32) (a_trial_tallies : Nat → Int32) (a_planner_words : Nat → Int32) (a_planner_addresses : Nat → Int32) (a_planner_numbers : Nat → Int32) (a_planner_olds : Nat → Int32) (a_walk_row : Nat → Int32) (a_walk_picture : Nat → Int32) (a_walk_settled : Nat → Int32) (H : Heap) (locs : List Loc) (ls : Array Slot), m_X2_run_j152 F_p1 a_p1_cache_media a_p1_cache_stores a_p1_cache_held a_p1_cache_asked a_p1_micros a_p1_before a_p1_after a_p1_waiting a_p1_tallies p2 p3 (m_X2_run_w95 F_p1 a_p1_cache_media a_p1_cache_stores a_p1_cache_held a_p1_cache_asked a_p1_micros a_p1_before a_p1_after a_p1_waiting a_p1_tallies p2 p3 (m_X2_run_j119 F_p1 a_p1_cache_media a_p1_cache_stores a_p1_cache_held a_p1_cache_asked a_p1_micros a_p1_before a_p1_after a_p1_waiting a_p1_tallies p2 p3) n95) x5 x6 F_t F_trial F_planner F_planner_shapeNow a_trial_cache_media a_trial_cache_stores a_trial_cache_held a_trial_cache_asked a_trial_micros a_trial_before a_trial_after a_trial_waiting a_trial_tallies a_planner_words a_planner_addresses a_planner_numbers a_planner_olds a_walk_row a_walk_picture a_walk_settled = some Rr → va_P D vwCl (w_X2_run h_t h_p1 r_t r_trial r_trial_cache r_planner r_planner_shapeNow r_walk r_p1 r_p1_cache F_t F_trial F_planner F_planner_shapeNow F_p1 cI a_trial_cache_media a_trial_cache_stores a_trial_cache_held a_trial_cache_asked a_trial_micros a_trial_before a_trial_after a_trial_waiting a_trial_tallies a_planner_words a_planner_addresses a_planner_numbers a_planner_olds a_walk_row a_walk_picture a_walk_settled a_p1_cache_media a_p1_cache_stores a_p1_cache_held a_p1_cache_asked a_p1_micros a_p1_before a_p1_after a_p1_waiting a_p1_tallies) H → va_D A (w_X2_run h_t h_p1 r_t r_trial r_trial_cache r_planner r_planner_shapeNow r_walk r_p1 r_p1_cache F_t F_trial F_planner F_planner_shapeNow F_p1 cI a_trial_cache_media a_trial_cache_stores a_trial_cache_held a_trial_cache_asked a_trial_micros a_trial_before a_trial_after a_trial_waiting a_trial_tallies a_planner_words a_planner_addresses a_planner_numbers a_planner_olds a_walk_row a_walk_picture a_walk_settled a_p1_cache_media a_p1_cache_stores a_p1_cache_held a_p1_cache_asked a_p1_micros a_p1_before a_p1_after a_p1_waiting a_p1_tallies) → va_S A s.heap H locs → lv_has ls 8 [(0, .ref h_t), (3, .int p3), (5, .int x5), (6, .int x6)] → W p l e rm_X2_run s m args below meth c H locs 0 0 Q (F0 m 152 ls []) := by
        intro x5 x6 F_t F_trial F_planner F_planner_shapeNow a_trial_cache_media a_trial_cache_stores a_trial_cache_held a_trial_cache_asked a_trial_micros a_trial_before a_trial_after a_trial_waiting a_trial_tallies a_planner_words a_planner_addresses a_planner_numbers a_planner_olds a_walk_row a_walk_picture a_walk_settled H locs ls hf hP hD hS hl
        have hf := (m_X2_run_j152.eq_1 _ _ _ _ _ _ _ _ _ _ _ _ _ _ _ _ _ _ _ _ _ _ _ _ _ _ _ _ _ _ _ _ _ _ _).symm.trans hf
        refine lv_iconst (v := 1) hx hb dX2_run_152 (by decide) ?_
        refine lv_goto (tgt := 157) hx hb dX2_run_153 (by decide) ?_
        exact L157 x5 x6 1 F_t F_trial F_planner F_planner_shapeNow a_trial_cache_media a_trial_cache_stores a_trial_cache_held a_trial_cache_asked a_trial_micros a_trial_before a_trial_after a_trial_waiting a_trial_tallies a_planner_words a_planner_addresses a_planner_numbers a_planner_olds a_walk_row a_walk_picture a_walk_settled _ _ _ hf hP hD hS (lv_sub hl [0, 1, 2, 3] rfl)
      have L156 : ∀ (x5 : Int32) (x6 : Int32) (F_t : Nat → Int32) (F_trial : Nat → Int32) (F_planner : Nat → Int32) (F_planner_shapeNow : Nat → Int32) (a_trial_cache_media : Nat → Int32) (a_trial_cache_stores : Nat → Int32) (a_trial_cache_held : Nat → Int32) (a_trial_cache_asked : Nat → Int32) (a_trial_micros : Nat → Int32) (a_trial_before : Nat → Int32) (a_trial_after : Nat → Int32) (a_trial_waiting : Nat → Int32) (a_trial_tallies : Nat → Int32) (a_planner_words : Nat → Int32) (a_planner_addresses : Nat → Int32) (a_planner_numbers : Nat → Int32) (a_planner_olds : Nat → Int32) (a_walk_row : Nat → Int32) (a_walk_picture : Nat → Int32) (a_walk_settled : Nat → Int32) (H : Heap) (locs : List Loc) (ls : Array Slot), m_X2_run_j156 F_p1 a_p1_cache_media a_p1_cache_stores a_p1_cache_held a_p1_cache_asked a_p1_micros a_p1_before a_p1_after a_p1_waiting a_p1_tallies p2 p3 (m_X2_run_w95 F_p1 a_p1_cache_media a_p1_cache_stores a_p1_cache_held a_p1_cache_asked a_p1_micros a_p1_before a_p1_after a_p1_waiting a_p1_tallies p2 p3 (m_X2_run_j119 F_p1 a_p1_cache_media a_p1_cache_stores a_p1_cache_held a_p1_cache_asked a_p1_micros a_p1_before a_p1_after a_p1_waiting a_p1_tallies p2 p3) n95) x5 x6 F_t F_trial F_planner F_planner_shapeNow a_trial_cache_media a_trial_cache_stores a_trial_cache_held a_trial_cache_asked a_trial_micros a_trial_before a_trial_after a_trial_waiting a_trial_tallies a_planner_words a_planner_addresses a_planner_numbers a_planner_olds a_walk_row a_walk_picture a_walk_settled = some Rr → va_P D vwCl (w_X2_run h_t h_p1 r_t r_trial r_trial_cache r_planner r_planner_shapeNow r_walk r_p1 r_p1_cache F_t F_trial F_planner F_planner_shapeNow F_p1 cI a_trial_cache_media a_trial_cache_stores a_trial_cache_held a_trial_cache_asked a_trial_micros a_trial_before a_trial_after a_trial_waiting a_trial_tallies a_planner_words a_planner_addresses a_planner_numbers a_planner_olds a_walk_row a_walk_picture a_walk_settled a_p1_cache_media a_p1_cache_stores a_p1_cache_held a_p1_cache_asked a_p1_micros a_p1_before a_p1_after a_p1_waiting a_p1_tallies) H → va_D A (w_X2_run h_t h_p1 r_t r_trial r_trial_cache r_planner r_planner_shapeNow r_walk r_p1 r_p1_cache F_t F_trial F_planner F_planner_shapeNow F_p1 cI a_trial_cache_media a_trial_cache_stores a_trial_cache_held a_trial_cache_asked a_trial_micros a_trial_before a_trial_after a_trial_waiting a_trial_tallies a_planner_words a_planner_addresses a_planner_numbers a_planner_olds a_walk_row a_walk_picture a_walk_settled a_p1_cache_media a_p1_cache_stores a_p1_cache_held a_p1_cache_asked a_p1_micros a_p1_before a_p1_after a_p1_waiting a_p1_tallies) → va_S A s.heap H locs → lv_has ls 8 [(0, .ref h_t), (3, .int p3), (5, .int x5), (6, .int x6)] → W p l e rm_X2_run s m args below meth c H locs 0 0 Q (F0 m 156 ls []) := by
        intro x5 x6 F_t F_trial F_planner F_planner_shapeNow a_trial_cache_media a_trial_cache_stores a_trial_cache_held a_trial_cache_asked a_trial_micros a_trial_before a_trial_after a_trial_waiting a_trial_tallies a_planner_words a_planner_addresses a_planner_numbers a_planner_olds a_walk_row a_walk_picture a_walk_settled H locs ls hf hP hD hS hl
        have hf := (m_X2_run_j156.eq_1 _ _ _ _ _ _ _ _ _ _ _ _ _ _ _ _ _ _ _ _ _ _ _ _ _ _ _ _ _ _ _ _ _ _ _).symm.trans hf
        refine lv_iconst (v := 0) hx hb dX2_run_156 (by decide) ?_
        exact L157 x5 x6 0 F_t F_trial F_planner F_planner_shapeNow a_trial_cache_media a_trial_cache_stores a_trial_cache_held a_trial_cache_asked a_trial_micros a_trial_before a_trial_after a_trial_waiting a_trial_tallies a_planner_words a_planner_addresses a_planner_numbers a_planner_olds a_walk_row a_walk_picture a_walk_settled _ _ _ hf hP hD hS (lv_sub hl [0, 1, 2, 3] rfl)
      refine lv_iload hx hb dX2_run_95 (lv_at hl 3 rfl) ?_
      refine lv_bipush (v := 80) hx hb dX2_run_97 (by decide) ?_
      refine z_icmp_gt (tgt := 196) hx hb dX2_run_99 (by decide) hf (fun hf => ?_) (fun hf => ?_)
      · exact hret (F_t, F_trial, F_planner, F_planner_shapeNow, a_trial_cache_media, a_trial_cache_stores, a_trial_cache_held, a_trial_cache_asked, a_trial_micros, a_trial_before, a_trial_after, a_trial_waiting, a_trial_tallies, a_planner_words, a_planner_addresses, a_planner_numbers, a_planner_olds, a_walk_row, a_walk_picture, a_walk_settled) _ _ _ _ hf hP hD hS dX2_run_196
      · refine lv_aload_n hx hb dX2_run_102 rfl (lv_at hl 0 rfl) ?_
        refine z_get (ci := 2) (C := RX2) (T := TX2) (N := 7) (v := .ref (r_t 0)) hx hb hts inT_X2 hown hK hP 0 rfl rfl 0 (by decide) tf_X2_12 rfl dX2_run_103 ?_
        refine z_get (ci := 4) (C := RX4) (T := TX4) (N := 12) (v := .ref (r_trial 0)) hx hb hts inT_X4 hown hK hP 1 rfl rfl 0 (by decide) tf_X2_64 rfl dX2_run_106 ?_
        obtain ⟨u7, hu7, hf⟩ := bd_some hf
        refine z_cl (ws1 := w_X2_run h_t h_p1 r_t r_trial r_trial_cache r_planner r_planner_shapeNow r_walk r_p1 r_p1_cache F_t F_trial F_planner F_planner_shapeNow F_p1 cI a_trial_cache_media a_trial_cache_stores a_trial_cache_held a_trial_cache_asked a_trial_micros a_trial_before a_trial_after a_trial_waiting a_trial_tallies a_planner_words a_planner_addresses a_planner_numbers a_planner_olds a_walk_row a_walk_picture a_walk_settled a_p1_cache_media a_p1_cache_stores a_p1_cache_held a_p1_cache_asked a_p1_micros a_p1_before a_p1_after a_p1_waiting a_p1_tallies) (wr := List.filterMap (fun i : Nat => (w_X2_run h_t h_p1 r_t r_trial r_trial_cache r_planner r_planner_shapeNow r_walk r_p1 r_p1_cache F_t F_trial F_planner F_planner_shapeNow F_p1 cI a_trial_cache_media a_trial_cache_stores a_trial_cache_held a_trial_cache_asked a_trial_micros a_trial_before a_trial_after a_trial_waiting a_trial_tallies a_planner_words a_planner_addresses a_planner_numbers a_planner_olds a_walk_row a_walk_picture a_walk_settled a_p1_cache_media a_p1_cache_stores a_p1_cache_held a_p1_cache_asked a_p1_micros a_p1_before a_p1_after a_p1_waiting a_p1_tallies)[i]?) [0, 1, 3, 4, 6, 7, 8, 9, 10, 11, 12, 13, 14, 15, 16, 17, 18, 19, 20, 21, 22, 23, 24, 25, 26, 27, 28, 29, 30, 31, 32]) (z_rV (rest := []) hx hb hml hown hcx hl.1 (c_X1_orderTotal l D cI (r_trial 0) r_trial_cache a_trial_cache_held u7 hu7 _) tl_X2_68 ti_X1_orderTotal tz_X1_orderTotal tn_X1 tc_X1_orderTotal tm_X1_orderTotal rfl rfl ⟨Nat.le_of_ble_eq_true rfl, Nat.le_of_ble_eq_true rfl⟩ hK hX hS hA hP hD [2, 5] rfl rfl 2 rfl rfl rfl rfl (Nat.le_of_ble_eq_true rfl) dX2_run_109 ⟨Nat.zero_le _, Nat.zero_le _⟩) hP hD hS hA [2, 5] [0, 1, 3, 4, 6, 7, 8, 9, 10, 11, 12, 13, 14, 15, 16, 17, 18, 19, 20, 21, 22, 23, 24, 25, 26, 27, 28, 29, 30, 31, 32] [0, 1, 31, 2, 3, 32, 4, 5, 6, 7, 8, 9, 10, 11, 12, 13, 14, 15, 16, 17, 18, 19, 20, 21, 22, 23, 24, 25, 26, 27, 28, 29, 30] rfl rfl rfl (by decide) rfl rfl (fun H locs hP hD hS => ?_)
        refine lv_ldc2 hx hb hown (hts _ tk_X2_74) dX2_run_112 ?_
        refine W.lcmp hx hb dX2_run_115 ?_
        refine z_if_le (tgt := 125) hx hb dX2_run_116 (by decide) hf (fun hf => ?_) (fun hf => ?_)
        · refine lv_aload_n hx hb dX2_run_125 rfl (lv_at hl 0 rfl) ?_
          refine lv_iload hx hb dX2_run_126 (lv_at hl 3 rfl) ?_
          refine lv_iload_n hx hb dX2_run_128 rfl (lv_at hl 1 rfl) ?_
          obtain ⟨u8, hu8, hf⟩ := bd_some hf
          refine z_cv (ws1 := w_X2_run h_t h_p1 r_t r_trial r_trial_cache r_planner r_planner_shapeNow r_walk r_p1 r_p1_cache u8.1 F_trial F_planner F_planner_shapeNow F_p1 cI a_trial_cache_media a_trial_cache_stores a_trial_cache_held a_trial_cache_asked a_trial_micros a_trial_before a_trial_after a_trial_waiting a_trial_tallies a_planner_words a_planner_addresses a_planner_numbers a_planner_olds u8.2.1 u8.2.2.1 u8.2.2.2 a_p1_cache_media a_p1_cache_stores a_p1_cache_held a_p1_cache_asked a_p1_micros a_p1_before a_p1_after a_p1_waiting a_p1_tallies) (wr := List.filterMap (fun i : Nat => (w_X2_run h_t h_p1 r_t r_trial r_trial_cache r_planner r_planner_shapeNow r_walk r_p1 r_p1_cache F_t F_trial F_planner F_planner_shapeNow F_p1 cI a_trial_cache_media a_trial_cache_stores a_trial_cache_held a_trial_cache_asked a_trial_micros a_trial_before a_trial_after a_trial_waiting a_trial_tallies a_planner_words a_planner_addresses a_planner_numbers a_planner_olds a_walk_row a_walk_picture a_walk_settled a_p1_cache_media a_p1_cache_stores a_p1_cache_held a_p1_cache_asked a_p1_micros a_p1_before a_p1_after a_p1_waiting a_p1_tallies)[i]?) [6, 7, 10, 11, 12, 13, 14, 15, 16, 17, 22, 23, 24, 25, 26, 27, 28, 29, 30, 31, 32]) (z_rV (rest := []) hx hb hml hown hcx hl.1 (c_X2_countBad l D cI h_t r_t r_trial r_trial_cache r_walk F_t F_trial a_trial_cache_media a_trial_cache_stores a_trial_cache_held a_trial_before a_trial_after a_walk_row a_walk_picture a_walk_settled x6 p3 u8 hu8 _) tl_X2_76 ti_X2_countBad tz_X2_countBad tn_X2 tc_X2_countBad tm_X2_countBad rfl rfl ⟨Nat.le_of_ble_eq_true rfl, Nat.le_of_ble_eq_true rfl⟩ hK hX hS hA hP hD [0, 1, 2, 3, 4, 5, 8, 9, 18, 19, 20, 21] rfl rfl 0 rfl rfl rfl rfl (Nat.le_of_ble_eq_true rfl) dX2_run_129 ⟨Nat.zero_le _, Nat.zero_le _⟩) hP hD hS hA [0, 1, 2, 3, 4, 5, 8, 9, 18, 19, 20, 21] [6, 7, 10, 11, 12, 13, 14, 15, 16, 17, 22, 23, 24, 25, 26, 27, 28, 29, 30, 31, 32] [21, 22, 23, 24, 25, 26, 0, 1, 27, 28, 2, 3, 4, 5, 6, 7, 8, 9, 29, 30, 31, 32, 10, 11, 12, 13, 14, 15, 16, 17, 18, 19, 20] rfl rfl rfl (by decide) rfl rfl (fun H locs hP hD hS => ?_)
          refine lv_iload hx hb dX2_run_132 (lv_at hl 2 rfl) ?_
          refine z_if_ne (tgt := 152) hx hb dX2_run_134 (by decide) hf (fun hf => ?_) (fun hf => ?_)
          · exact L152 x5 x6 u8.1 F_trial F_planner F_planner_shapeNow a_trial_cache_media a_trial_cache_stores a_trial_cache_held a_trial_cache_asked a_trial_micros a_trial_before a_trial_after a_trial_waiting a_trial_tallies a_planner_words a_planner_addresses a_planner_numbers a_planner_olds u8.2.1 u8.2.2.1 u8.2.2.2 _ _ _ hf hP hD hS (lv_sub hl [0, 1, 2, 3] rfl)
          · refine lv_iload hx hb dX2_run_137 (lv_at hl 3 rfl) ?_
            refine z_if_le (tgt := 156) hx hb dX2_run_139 (by decide) hf (fun hf => ?_) (fun hf => ?_)
            · exact L156 x5 x6 u8.1 F_trial F_planner F_planner_shapeNow a_trial_cache_media a_trial_cache_stores a_trial_cache_held a_trial_cache_asked a_trial_micros a_trial_before a_trial_after a_trial_waiting a_trial_tallies a_planner_words a_planner_addresses a_planner_numbers a_planner_olds u8.2.1 u8.2.2.1 u8.2.2.2 _ _ _ hf hP hD hS (lv_sub hl [0, 1, 2, 3] rfl)
            · refine lv_aload_n hx hb dX2_run_142 rfl (lv_at hl 0 rfl) ?_
              refine z_get (ci := 2) (C := RX2) (T := TX2) (N := 7) (v := .ref (r_t 0)) hx hb hts inT_X2 hown hK hP 0 rfl rfl 0 (by decide) tf_X2_12 rfl dX2_run_143 ?_
              obtain ⟨u11, hu11, hf⟩ := bd_some hf
              refine z_ci (ws1 := w_X2_run h_t h_p1 r_t r_trial r_trial_cache r_planner r_planner_shapeNow r_walk r_p1 r_p1_cache u8.1 F_trial F_planner F_planner_shapeNow F_p1 cI a_trial_cache_media a_trial_cache_stores a_trial_cache_held a_trial_cache_asked a_trial_micros a_trial_before a_trial_after a_trial_waiting a_trial_tallies a_planner_words a_planner_addresses a_planner_numbers a_planner_olds u8.2.1 u8.2.2.1 u8.2.2.2 a_p1_cache_media a_p1_cache_stores a_p1_cache_held a_p1_cache_asked a_p1_micros a_p1_before a_p1_after a_p1_waiting a_p1_tallies) (wr := List.filterMap (fun i : Nat => (w_X2_run h_t h_p1 r_t r_trial r_trial_cache r_planner r_planner_shapeNow r_walk r_p1 r_p1_cache u8.1 F_trial F_planner F_planner_shapeNow F_p1 cI a_trial_cache_media a_trial_cache_stores a_trial_cache_held a_trial_cache_asked a_trial_micros a_trial_before a_trial_after a_trial_waiting a_trial_tallies a_planner_words a_planner_addresses a_planner_numbers a_planner_olds u8.2.1 u8.2.2.1 u8.2.2.2 a_p1_cache_media a_p1_cache_stores a_p1_cache_held a_p1_cache_asked a_p1_micros a_p1_before a_p1_after a_p1_waiting a_p1_tallies)[i]?) [0, 2, 3, 4, 5, 6, 7, 8, 9, 10, 11, 12, 13, 14, 15, 16, 17, 18, 19, 20, 21, 22, 23, 24, 25, 26, 27, 28, 29, 30, 31, 32]) (z_rV (rest := []) hx hb hml hown hcx hl.1 (c_X4_isIdle l D cI (r_t 0) r_trial F_trial u11 hu11 _) tl_X2_60 ti_X4_isIdle tz_X4_isIdle tn_X4 tc_X4_isIdle tm_X4_isIdle rfl rfl ⟨Nat.le_of_ble_eq_true rfl, Nat.le_of_ble_eq_true rfl⟩ hK hX hS hA hP hD [1] rfl rfl 1 rfl rfl rfl rfl (Nat.le_of_ble_eq_true rfl) dX2_run_146 ⟨Nat.zero_le _, Nat.zero_le _⟩) hP hD hS hA [1] [0, 2, 3, 4, 5, 6, 7, 8, 9, 10, 11, 12, 13, 14, 15, 16, 17, 18, 19, 20, 21, 22, 23, 24, 25, 26, 27, 28, 29, 30, 31, 32] [0, 32, 1, 2, 3, 4, 5, 6, 7, 8, 9, 10, 11, 12, 13, 14, 15, 16, 17, 18, 19, 20, 21, 22, 23, 24, 25, 26, 27, 28, 29, 30, 31] rfl rfl rfl (by decide) rfl rfl (fun H locs hP hD hS => ?_)
              refine z_if_eq (tgt := 156) hx hb dX2_run_149 (by decide) hf (fun hf => ?_) (fun hf => ?_)
              · exact L156 x5 x6 u8.1 F_trial F_planner F_planner_shapeNow a_trial_cache_media a_trial_cache_stores a_trial_cache_held a_trial_cache_asked a_trial_micros a_trial_before a_trial_after a_trial_waiting a_trial_tallies a_planner_words a_planner_addresses a_planner_numbers a_planner_olds u8.2.1 u8.2.2.1 u8.2.2.2 _ _ _ hf hP hD hS (lv_sub hl [0, 1, 2, 3] rfl)
              · exact L152 x5 x6 u8.1 F_trial F_planner F_planner_shapeNow a_trial_cache_media a_trial_cache_stores a_trial_cache_held a_trial_cache_asked a_trial_micros a_trial_before a_trial_after a_trial_waiting a_trial_tallies a_planner_words a_planner_addresses a_planner_numbers a_planner_olds u8.2.1 u8.2.2.1 u8.2.2.2 _ _ _ hf hP hD hS (lv_sub hl [0, 1, 2, 3] rfl)
        · exact L119 F_t F_trial F_planner F_planner_shapeNow a_trial_cache_media a_trial_cache_stores a_trial_cache_held a_trial_cache_asked a_trial_micros a_trial_before a_trial_after a_trial_waiting a_trial_tallies a_planner_words a_planner_addresses a_planner_numbers a_planner_olds a_walk_row a_walk_picture a_walk_settled _ _ _ hf hP hD hS (lv_sub hl [0] rfl)
  have L90 : ∀ (s0 : Int32) (F_t : Nat → Int32) (F_trial : Nat → Int32) (F_planner : Nat → Int32) (F_planner_shapeNow : Nat → Int32) (a_trial_cache_media : Nat → Int32) (a_trial_cache_stores : Nat → Int32) (a_trial_cache_held : Nat → Int32) (a_trial_cache_asked : Nat → Int32) (a_trial_micros : Nat → Int32) (a_trial_before : Nat → Int32) (a_trial_after : Nat → Int32) (a_trial_waiting : Nat → Int32) (a_trial_tallies : Nat → Int32) (a_planner_words : Nat → Int32) (a_planner_addresses : Nat → Int32) (a_planner_numbers : Nat → Int32) (a_planner_olds : Nat → Int32) (a_walk_row : Nat → Int32) (a_walk_picture : Nat → Int32) (a_walk_settled : Nat → Int32) (H : Heap) (locs : List Loc) (ls : Array Slot), m_X2_run_j90 F_p1 a_p1_cache_media a_p1_cache_stores a_p1_cache_held a_p1_cache_asked a_p1_micros a_p1_before a_p1_after a_p1_waiting a_p1_tallies p2 p3 s0 F_t F_trial F_planner F_planner_shapeNow a_trial_cache_media a_trial_cache_stores a_trial_cache_held a_trial_cache_asked a_trial_micros a_trial_before a_trial_after a_trial_waiting a_trial_tallies a_planner_words a_planner_addresses a_planner_numbers a_planner_olds a_walk_row a_walk_picture a_walk_settled = some Rr → va_P D vwCl (w_X2_run h_t h_p1 r_t r_trial r_trial_cache r_planner r_planner_shapeNow r_walk r_p1 r_p1_cache F_t F_trial F_planner F_planner_shapeNow F_p1 cI a_trial_cache_media a_trial_cache_stores a_trial_cache_held a_trial_cache_asked a_trial_micros a_trial_before a_trial_after a_trial_waiting a_trial_tallies a_planner_words a_planner_addresses a_planner_numbers a_planner_olds a_walk_row a_walk_picture a_walk_settled a_p1_cache_media a_p1_cache_stores a_p1_cache_held a_p1_cache_asked a_p1_micros a_p1_before a_p1_after a_p1_waiting a_p1_tallies) H → va_D A (w_X2_run h_t h_p1 r_t r_trial r_trial_cache r_planner r_planner_shapeNow r_walk r_p1 r_p1_cache F_t F_trial F_planner F_planner_shapeNow F_p1 cI a_trial_cache_media a_trial_cache_stores a_trial_cache_held a_trial_cache_asked a_trial_micros a_trial_before a_trial_after a_trial_waiting a_trial_tallies a_planner_words a_planner_addresses a_planner_numbers a_planner_olds a_walk_row a_walk_picture a_walk_settled a_p1_cache_media a_p1_cache_stores a_p1_cache_held a_p1_cache_asked a_p1_micros a_p1_before a_p1_after a_p1_waiting a_p1_tallies) → va_S A s.heap H locs → lv_has ls 8 [(0, .ref h_t), (3, .int p3)] → W p l e rm_X2_run s m args below meth c H locs 0 0 Q (F0 m 90 ls [.int s0]) := by
    intro s0 F_t F_trial F_planner F_planner_shapeNow a_trial_cache_media a_trial_cache_stores a_trial_cache_held a_trial_cache_asked a_trial_micros a_trial_before a_trial_after a_trial_waiting a_trial_tallies a_planner_words a_planner_addresses a_planner_numbers a_planner_olds a_walk_row a_walk_picture a_walk_settled H locs ls hf hP hD hS hl
    have hf := (m_X2_run_j90.eq_1 _ _ _ _ _ _ _ _ _ _ _ _ _ _ _ _ _ _ _ _ _ _ _ _ _ _ _ _ _ _ _ _ _).symm.trans hf
    refine lv_istore (lv' := [(5, .int s0), (0, .ref h_t), (3, .int p3)]) hx hb dX2_run_90 hl (by decide) rfl (fun ls hl => ?_)
    refine lv_iconst (v := 0) hx hb dX2_run_92 (by decide) ?_
    refine lv_istore (lv' := [(6, .int 0), (5, .int s0), (0, .ref h_t), (3, .int p3)]) hx hb dX2_run_93 hl (by decide) rfl (fun ls hl => ?_)
    exact L95 fuelN s0 0 F_t F_trial F_planner F_planner_shapeNow a_trial_cache_media a_trial_cache_stores a_trial_cache_held a_trial_cache_asked a_trial_micros a_trial_before a_trial_after a_trial_waiting a_trial_tallies a_planner_words a_planner_addresses a_planner_numbers a_planner_olds a_walk_row a_walk_picture a_walk_settled _ _ _ hf hP hD hS (lv_sub hl [2, 3, 1, 0] rfl)
  have L89 : ∀ (F_t : Nat → Int32) (F_trial : Nat → Int32) (F_planner : Nat → Int32) (F_planner_shapeNow : Nat → Int32) (a_trial_cache_media : Nat → Int32) (a_trial_cache_stores : Nat → Int32) (a_trial_cache_held : Nat → Int32) (a_trial_cache_asked : Nat → Int32) (a_trial_micros : Nat → Int32) (a_trial_before : Nat → Int32) (a_trial_after : Nat → Int32) (a_trial_waiting : Nat → Int32) (a_trial_tallies : Nat → Int32) (a_planner_words : Nat → Int32) (a_planner_addresses : Nat → Int32) (a_planner_numbers : Nat → Int32) (a_planner_olds : Nat → Int32) (a_walk_row : Nat → Int32) (a_walk_picture : Nat → Int32) (a_walk_settled : Nat → Int32) (H : Heap) (locs : List Loc) (ls : Array Slot), m_X2_run_j89 F_p1 a_p1_cache_media a_p1_cache_stores a_p1_cache_held a_p1_cache_asked a_p1_micros a_p1_before a_p1_after a_p1_waiting a_p1_tallies p2 p3 F_t F_trial F_planner F_planner_shapeNow a_trial_cache_media a_trial_cache_stores a_trial_cache_held a_trial_cache_asked a_trial_micros a_trial_before a_trial_after a_trial_waiting a_trial_tallies a_planner_words a_planner_addresses a_planner_numbers a_planner_olds a_walk_row a_walk_picture a_walk_settled = some Rr → va_P D vwCl (w_X2_run h_t h_p1 r_t r_trial r_trial_cache r_planner r_planner_shapeNow r_walk r_p1 r_p1_cache F_t F_trial F_planner F_planner_shapeNow F_p1 cI a_trial_cache_media a_trial_cache_stores a_trial_cache_held a_trial_cache_asked a_trial_micros a_trial_before a_trial_after a_trial_waiting a_trial_tallies a_planner_words a_planner_addresses a_planner_numbers a_planner_olds a_walk_row a_walk_picture a_walk_settled a_p1_cache_media a_p1_cache_stores a_p1_cache_held a_p1_cache_asked a_p1_micros a_p1_before a_p1_after a_p1_waiting a_p1_tallies) H → va_D A (w_X2_run h_t h_p1 r_t r_trial r_trial_cache r_planner r_planner_shapeNow r_walk r_p1 r_p1_cache F_t F_trial F_planner F_planner_shapeNow F_p1 cI a_trial_cache_media a_trial_cache_stores a_trial_cache_held a_trial_cache_asked a_trial_micros a_trial_before a_trial_after a_trial_waiting a_trial_tallies a_planner_words a_planner_addresses a_planner_numbers a_planner_olds a_walk_row a_walk_picture a_walk_settled a_p1_cache_media a_p1_cache_stores a_p1_cache_held a_p1_cache_asked a_p1_micros a_p1_before a_p1_after a_p1_waiting a_p1_tallies) → va_S A s.heap H locs → lv_has ls 8 [(0, .ref h_t), (3, .int p3)] → W p l e rm_X2_run s m args below meth c H locs 0 0 Q (F0 m 89 ls []) := by
    intro F_t F_trial F_planner F_planner_shapeNow a_trial_cache_media a_trial_cache_stores a_trial_cache_held a_trial_cache_asked a_trial_micros a_trial_before a_trial_after a_trial_waiting a_trial_tallies a_planner_words a_planner_addresses a_planner_numbers a_planner_olds a_walk_row a_walk_picture a_walk_settled H locs ls hf hP hD hS hl
    have hf := (m_X2_run_j89.eq_1 _ _ _ _ _ _ _ _ _ _ _ _ _ _ _ _ _ _ _ _ _ _ _ _ _ _ _ _ _ _ _ _).symm.trans hf
    refine lv_iconst (v := 0) hx hb dX2_run_89 (by decide) ?_
    exact L90 0 F_t F_trial F_planner F_planner_shapeNow a_trial_cache_media a_trial_cache_stores a_trial_cache_held a_trial_cache_asked a_trial_micros a_trial_before a_trial_after a_trial_waiting a_trial_tallies a_planner_words a_planner_addresses a_planner_numbers a_planner_olds a_walk_row a_walk_picture a_walk_settled _ _ _ hf hP hD hS (lv_sub hl [0, 1] rfl)
  have L70 : ∀ (x4 : Int32) (F_t : Nat → Int32) (F_trial : Nat → Int32) (F_planner : Nat → Int32) (F_planner_shapeNow : Nat → Int32) (a_trial_cache_media : Nat → Int32) (a_trial_cache_stores : Nat → Int32) (a_trial_cache_held : Nat → Int32) (a_trial_cache_asked : Nat → Int32) (a_trial_micros : Nat → Int32) (a_trial_before : Nat → Int32) (a_trial_after : Nat → Int32) (a_trial_waiting : Nat → Int32) (a_trial_tallies : Nat → Int32) (a_planner_words : Nat → Int32) (a_planner_addresses : Nat → Int32) (a_planner_numbers : Nat → Int32) (a_planner_olds : Nat → Int32) (a_walk_row : Nat → Int32) (a_walk_picture : Nat → Int32) (a_walk_settled : Nat → Int32) (H : Heap) (locs : List Loc) (ls : Array Slot), m_X2_run_j70 F_p1 a_p1_cache_media a_p1_cache_stores a_p1_cache_held a_p1_cache_asked a_p1_micros a_p1_before a_p1_after a_p1_waiting a_p1_tallies p2 p3 x4 F_t F_trial F_planner F_planner_shapeNow a_trial_cache_media a_trial_cache_stores a_trial_cache_held a_trial_cache_asked a_trial_micros a_trial_before a_trial_after a_trial_waiting a_trial_tallies a_planner_words a_planner_addresses a_planner_numbers a_planner_olds a_walk_row a_walk_picture a_walk_settled = some Rr → va_P D vwCl (w_X2_run h_t h_p1 r_t r_trial r_trial_cache r_planner r_planner_shapeNow r_walk r_p1 r_p1_cache F_t F_trial F_planner F_planner_shapeNow F_p1 cI a_trial_cache_media a_trial_cache_stores a_trial_cache_held a_trial_cache_asked a_trial_micros a_trial_before a_trial_after a_trial_waiting a_trial_tallies a_planner_words a_planner_addresses a_planner_numbers a_planner_olds a_walk_row a_walk_picture a_walk_settled a_p1_cache_media a_p1_cache_stores a_p1_cache_held a_p1_cache_asked a_p1_micros a_p1_before a_p1_after a_p1_waiting a_p1_tallies) H → va_D A (w_X2_run h_t h_p1 r_t r_trial r_trial_cache r_planner r_planner_shapeNow r_walk r_p1 r_p1_cache F_t F_trial F_planner F_planner_shapeNow F_p1 cI a_trial_cache_media a_trial_cache_stores a_trial_cache_held a_trial_cache_asked a_trial_micros a_trial_before a_trial_after a_trial_waiting a_trial_tallies a_planner_words a_planner_addresses a_planner_numbers a_planner_olds a_walk_row a_walk_picture a_walk_settled a_p1_cache_media a_p1_cache_stores a_p1_cache_held a_p1_cache_asked a_p1_micros a_p1_before a_p1_after a_p1_waiting a_p1_tallies) → va_S A s.heap H locs → lv_has ls 8 [(0, .ref h_t), (3, .int p3), (4, .int x4)] → W p l e rm_X2_run s m args below meth c H locs 0 0 Q (F0 m 70 ls []) := by
    intro x4 F_t F_trial F_planner F_planner_shapeNow a_trial_cache_media a_trial_cache_stores a_trial_cache_held a_trial_cache_asked a_trial_micros a_trial_before a_trial_after a_trial_waiting a_trial_tallies a_planner_words a_planner_addresses a_planner_numbers a_planner_olds a_walk_row a_walk_picture a_walk_settled H locs ls hf hP hD hS hl
    have hf := (m_X2_run_j70.eq_1 _ _ _ _ _ _ _ _ _ _ _ _ _ _ _ _ _ _ _ _ _ _ _ _ _ _ _ _ _ _ _ _ _).symm.trans hf
    refine lv_iload hx hb dX2_run_70 (lv_at hl 2 rfl) ?_
    refine z_if_eq (tgt := 89) hx hb dX2_run_72 (by decide) hf (fun hf => ?_) (fun hf => ?_)
    · exact L89 F_t F_trial F_planner F_planner_shapeNow a_trial_cache_media a_trial_cache_stores a_trial_cache_held a_trial_cache_asked a_trial_micros a_trial_before a_trial_after a_trial_waiting a_trial_tallies a_planner_words a_planner_addresses a_planner_numbers a_planner_olds a_walk_row a_walk_picture a_walk_settled _ _ _ hf hP hD hS (lv_sub hl [0, 1] rfl)
    · refine lv_aload_n hx hb dX2_run_75 rfl (lv_at hl 0 rfl) ?_
      refine z_get (ci := 2) (C := RX2) (T := TX2) (N := 7) (v := .ref (r_t 0)) hx hb hts inT_X2 hown hK hP 0 rfl rfl 0 (by decide) tf_X2_12 rfl dX2_run_76 ?_
      obtain ⟨u13, hu13, hf⟩ := bd_some hf
      refine z_ci (ws1 := w_X2_run h_t h_p1 r_t r_trial r_trial_cache r_planner r_planner_shapeNow r_walk r_p1 r_p1_cache F_t F_trial F_planner F_planner_shapeNow F_p1 cI a_trial_cache_media a_trial_cache_stores a_trial_cache_held a_trial_cache_asked a_trial_micros a_trial_before a_trial_after a_trial_waiting a_trial_tallies a_planner_words a_planner_addresses a_planner_numbers a_planner_olds a_walk_row a_walk_picture a_walk_settled a_p1_cache_media a_p1_cache_stores a_p1_cache_held a_p1_cache_asked a_p1_micros a_p1_before a_p1_after a_p1_waiting a_p1_tallies) (wr := List.filterMap (fun i : Nat => (w_X2_run h_t h_p1 r_t r_trial r_trial_cache r_planner r_planner_shapeNow r_walk r_p1 r_p1_cache F_t F_trial F_planner F_planner_shapeNow F_p1 cI a_trial_cache_media a_trial_cache_stores a_trial_cache_held a_trial_cache_asked a_trial_micros a_trial_before a_trial_after a_trial_waiting a_trial_tallies a_planner_words a_planner_addresses a_planner_numbers a_planner_olds a_walk_row a_walk_picture a_walk_settled a_p1_cache_media a_p1_cache_stores a_p1_cache_held a_p1_cache_asked a_p1_micros a_p1_before a_p1_after a_p1_waiting a_p1_tallies)[i]?) [0, 2, 3, 4, 5, 6, 7, 8, 9, 10, 11, 12, 13, 14, 15, 16, 17, 18, 19, 20, 21, 22, 23, 24, 25, 26, 27, 28, 29, 30, 31, 32]) (z_rV (rest := []) hx hb hml hown hcx hl.1 (c_X4_isIdle l D cI (r_t 0) r_trial F_trial u13 hu13 _) tl_X2_60 ti_X4_isIdle tz_X4_isIdle tn_X4 tc_X4_isIdle tm_X4_isIdle rfl rfl ⟨Nat.le_of_ble_eq_true rfl, Nat.le_of_ble_eq_true rfl⟩ hK hX hS hA hP hD [1] rfl rfl 1 rfl rfl rfl rfl (Nat.le_of_ble_eq_true rfl) dX2_run_79 ⟨Nat.zero_le _, Nat.zero_le _⟩) hP hD hS hA [1] [0, 2, 3, 4, 5, 6, 7, 8, 9, 10, 11, 12, 13, 14, 15, 16, 17, 18, 19, 20, 21, 22, 23, 24, 25, 26, 27, 28, 29, 30, 31, 32] [0, 32, 1, 2, 3, 4, 5, 6, 7, 8, 9, 10, 11, 12, 13, 14, 15, 16, 17, 18, 19, 20, 21, 22, 23, 24, 25, 26, 27, 28, 29, 30, 31] rfl rfl rfl (by decide) rfl rfl (fun H locs hP hD hS => ?_)
      refine z_if_eq (tgt := 89) hx hb dX2_run_82 (by decide) hf (fun hf => ?_) (fun hf => ?_)
      · exact L89 F_t F_trial F_planner F_planner_shapeNow a_trial_cache_media a_trial_cache_stores a_trial_cache_held a_trial_cache_asked a_trial_micros a_trial_before a_trial_after a_trial_waiting a_trial_tallies a_planner_words a_planner_addresses a_planner_numbers a_planner_olds a_walk_row a_walk_picture a_walk_settled _ _ _ hf hP hD hS (lv_sub hl [0, 1] rfl)
      · refine lv_iconst (v := 1) hx hb dX2_run_85 (by decide) ?_
        refine lv_goto (tgt := 90) hx hb dX2_run_86 (by decide) ?_
        exact L90 1 F_t F_trial F_planner F_planner_shapeNow a_trial_cache_media a_trial_cache_stores a_trial_cache_held a_trial_cache_asked a_trial_micros a_trial_before a_trial_after a_trial_waiting a_trial_tallies a_planner_words a_planner_addresses a_planner_numbers a_planner_olds a_walk_row a_walk_picture a_walk_settled _ _ _ hf hP hD hS (lv_sub hl [0, 1] rfl)
  have L52 : ∀ (s0 : Int32) (F_t : Nat → Int32) (F_trial : Nat → Int32) (F_planner : Nat → Int32) (F_planner_shapeNow : Nat → Int32) (a_trial_cache_media : Nat → Int32) (a_trial_cache_stores : Nat → Int32) (a_trial_cache_held : Nat → Int32) (a_trial_cache_asked : Nat → Int32) (a_trial_micros : Nat → Int32) (a_trial_before : Nat → Int32) (a_trial_after : Nat → Int32) (a_trial_waiting : Nat → Int32) (a_trial_tallies : Nat → Int32) (a_planner_words : Nat → Int32) (a_planner_addresses : Nat → Int32) (a_planner_numbers : Nat → Int32) (a_planner_olds : Nat → Int32) (a_walk_row : Nat → Int32) (a_walk_picture : Nat → Int32) (a_walk_settled : Nat → Int32) (H : Heap) (locs : List Loc) (ls : Array Slot), m_X2_run_j52 F_p1 a_p1_cache_media a_p1_cache_stores a_p1_cache_held a_p1_cache_asked a_p1_micros a_p1_before a_p1_after a_p1_waiting a_p1_tallies p2 p3 s0 F_t F_trial F_planner F_planner_shapeNow a_trial_cache_media a_trial_cache_stores a_trial_cache_held a_trial_cache_asked a_trial_micros a_trial_before a_trial_after a_trial_waiting a_trial_tallies a_planner_words a_planner_addresses a_planner_numbers a_planner_olds a_walk_row a_walk_picture a_walk_settled = some Rr → va_P D vwCl (w_X2_run h_t h_p1 r_t r_trial r_trial_cache r_planner r_planner_shapeNow r_walk r_p1 r_p1_cache F_t F_trial F_planner F_planner_shapeNow F_p1 cI a_trial_cache_media a_trial_cache_stores a_trial_cache_held a_trial_cache_asked a_trial_micros a_trial_before a_trial_after a_trial_waiting a_trial_tallies a_planner_words a_planner_addresses a_planner_numbers a_planner_olds a_walk_row a_walk_picture a_walk_settled a_p1_cache_media a_p1_cache_stores a_p1_cache_held a_p1_cache_asked a_p1_micros a_p1_before a_p1_after a_p1_waiting a_p1_tallies) H → va_D A (w_X2_run h_t h_p1 r_t r_trial r_trial_cache r_planner r_planner_shapeNow r_walk r_p1 r_p1_cache F_t F_trial F_planner F_planner_shapeNow F_p1 cI a_trial_cache_media a_trial_cache_stores a_trial_cache_held a_trial_cache_asked a_trial_micros a_trial_before a_trial_after a_trial_waiting a_trial_tallies a_planner_words a_planner_addresses a_planner_numbers a_planner_olds a_walk_row a_walk_picture a_walk_settled a_p1_cache_media a_p1_cache_stores a_p1_cache_held a_p1_cache_asked a_p1_micros a_p1_before a_p1_after a_p1_waiting a_p1_tallies) → va_S A s.heap H locs → lv_has ls 8 [(0, .ref h_t), (3, .int p3)] → W p l e rm_X2_run s m args below meth c H locs 0 0 Q (F0 m 52 ls [.int s0]) := by
    intro s0 F_t F_trial F_planner F_planner_shapeNow a_trial_cache_media a_trial_cache_stores a_trial_cache_held a_trial_cache_asked a_trial_micros a_trial_before a_trial_after a_trial_waiting a_trial_tallies a_planner_words a_planner_addresses a_planner_numbers a_planner_olds a_walk_row a_walk_picture a_walk_settled H locs ls hf hP hD hS hl
    have hf := (m_X2_run_j52.eq_1 _ _ _ _ _ _ _ _ _ _ _ _ _ _ _ _ _ _ _ _ _ _ _ _ _ _ _ _ _ _ _ _ _).symm.trans hf
    refine lv_istore (lv' := [(4, .int s0), (0, .ref h_t), (3, .int p3)]) hx hb dX2_run_52 hl (by decide) rfl (fun ls hl => ?_)
    refine lv_iload hx hb dX2_run_54 (lv_at hl 0 rfl) ?_
    refine z_if_eq (tgt := 70) hx hb dX2_run_56 (by decide) hf (fun hf => ?_) (fun hf => ?_)
    · exact L70 s0 F_t F_trial F_planner F_planner_shapeNow a_trial_cache_media a_trial_cache_stores a_trial_cache_held a_trial_cache_asked a_trial_micros a_trial_before a_trial_after a_trial_waiting a_trial_tallies a_planner_words a_planner_addresses a_planner_numbers a_planner_olds a_walk_row a_walk_picture a_walk_settled _ _ _ hf hP hD hS (lv_sub hl [1, 2, 0] rfl)
    · refine lv_aload_n hx hb dX2_run_59 rfl (lv_at hl 1 rfl) ?_
      refine z_get (ci := 2) (C := RX2) (T := TX2) (N := 7) (v := .ref (r_t 0)) hx hb hts inT_X2 hown hK hP 0 rfl rfl 0 (by decide) tf_X2_12 rfl dX2_run_60 ?_
      refine lv_aload_n hx hb dX2_run_63 rfl (lv_at hl 1 rfl) ?_
      refine z_get (ci := 2) (C := RX2) (T := TX2) (N := 7) (v := .ref (r_t 1)) hx hb hts inT_X2 hown hK hP 0 rfl rfl 1 (by decide) tf_X2_21 rfl dX2_run_64 ?_
      obtain ⟨u14, hu14, hf⟩ := bd_some hf
      refine z_cv (ws1 := w_X2_run h_t h_p1 r_t r_trial r_trial_cache r_planner r_planner_shapeNow r_walk r_p1 r_p1_cache F_t u14.1 u14.2.1 F_planner_shapeNow F_p1 cI a_trial_cache_media a_trial_cache_stores a_trial_cache_held a_trial_cache_asked u14.2.2.1 a_trial_before a_trial_after a_trial_waiting u14.2.2.2.1 a_planner_words u14.2.2.2.2.1 u14.2.2.2.2.2 a_planner_olds a_walk_row a_walk_picture a_walk_settled a_p1_cache_media a_p1_cache_stores a_p1_cache_held a_p1_cache_asked a_p1_micros a_p1_before a_p1_after a_p1_waiting a_p1_tallies) (wr := List.filterMap (fun i : Nat => (w_X2_run h_t h_p1 r_t r_trial r_trial_cache r_planner r_planner_shapeNow r_walk r_p1 r_p1_cache F_t F_trial F_planner F_planner_shapeNow F_p1 cI a_trial_cache_media a_trial_cache_stores a_trial_cache_held a_trial_cache_asked a_trial_micros a_trial_before a_trial_after a_trial_waiting a_trial_tallies a_planner_words a_planner_addresses a_planner_numbers a_planner_olds a_walk_row a_walk_picture a_walk_settled a_p1_cache_media a_p1_cache_stores a_p1_cache_held a_p1_cache_asked a_p1_micros a_p1_before a_p1_after a_p1_waiting a_p1_tallies)[i]?) [0, 4, 5, 6, 8, 9, 10, 13, 16, 17, 18, 19, 20, 21, 22, 23, 24, 25, 26, 27, 28, 29, 30, 31, 32]) (z_rV (rest := []) hx hb hml hown hcx hl.1 (c_X4_beginRecovery l D cI (r_t 0) (r_t 1) r_trial r_trial_cache r_planner F_trial F_planner a_trial_cache_media a_trial_micros a_trial_tallies a_planner_addresses a_planner_numbers u14 hu14 _) tl_X2_56 ti_X4_beginRecovery tz_X4_beginRecovery tn_X4 tc_X4_beginRecovery tm_X4_beginRecovery rfl rfl ⟨Nat.le_of_ble_eq_true rfl, Nat.le_of_ble_eq_true rfl⟩ hK hX hS hA hP hD [1, 2, 3, 7, 11, 12, 14, 15] rfl rfl 1 rfl rfl rfl rfl (Nat.le_of_ble_eq_true rfl) dX2_run_67 ⟨Nat.zero_le _, Nat.zero_le _⟩) hP hD hS hA [1, 2, 3, 7, 11, 12, 14, 15] [0, 4, 5, 6, 8, 9, 10, 13, 16, 17, 18, 19, 20, 21, 22, 23, 24, 25, 26, 27, 28, 29, 30, 31, 32] [0, 25, 26, 27, 1, 2, 3, 28, 4, 5, 6, 29, 30, 7, 31, 32, 8, 9, 10, 11, 12, 13, 14, 15, 16, 17, 18, 19, 20, 21, 22, 23, 24] rfl rfl rfl (by decide) rfl rfl (fun H locs hP hD hS => ?_)
      exact L70 s0 F_t u14.1 u14.2.1 F_planner_shapeNow a_trial_cache_media a_trial_cache_stores a_trial_cache_held a_trial_cache_asked u14.2.2.1 a_trial_before a_trial_after a_trial_waiting u14.2.2.2.1 a_planner_words u14.2.2.2.2.1 u14.2.2.2.2.2 a_planner_olds a_walk_row a_walk_picture a_walk_settled _ _ _ hf hP hD hS (lv_sub hl [1, 2, 0] rfl)
  refine lv_aload_n hx hb dX2_run_0 rfl (lv_at hl 0 rfl) ?_
  refine z_get (ci := 2) (C := RX2) (T := TX2) (N := 7) (v := .ref (r_t 0)) hx hb hts inT_X2 hown hK hP 0 rfl rfl 0 (by decide) tf_X2_12 rfl dX2_run_1 ?_
  refine lv_aload_n hx hb dX2_run_4 rfl (lv_at hl 1 rfl) ?_
  obtain ⟨u1, hu1, hf⟩ := bd_some hf
  refine z_cv (ws1 := w_X2_run h_t h_p1 r_t r_trial r_trial_cache r_planner r_planner_shapeNow r_walk r_p1 r_p1_cache F_t u1.1 F_planner F_planner_shapeNow F_p1 cI u1.2.1 u1.2.2.1 u1.2.2.2.1 u1.2.2.2.2.1 u1.2.2.2.2.2.1 u1.2.2.2.2.2.2.1 u1.2.2.2.2.2.2.2.1 u1.2.2.2.2.2.2.2.2.1 u1.2.2.2.2.2.2.2.2.2 a_planner_words a_planner_addresses a_planner_numbers a_planner_olds a_walk_row a_walk_picture a_walk_settled a_p1_cache_media a_p1_cache_stores a_p1_cache_held a_p1_cache_asked a_p1_micros a_p1_before a_p1_after a_p1_waiting a_p1_tallies) (wr := List.filterMap (fun i : Nat => (w_X2_run h_t h_p1 r_t r_trial r_trial_cache r_planner r_planner_shapeNow r_walk r_p1 r_p1_cache F_t F_trial F_planner F_planner_shapeNow F_p1 cI a_trial_cache_media a_trial_cache_stores a_trial_cache_held a_trial_cache_asked a_trial_micros a_trial_before a_trial_after a_trial_waiting a_trial_tallies a_planner_words a_planner_addresses a_planner_numbers a_planner_olds a_walk_row a_walk_picture a_walk_settled a_p1_cache_media a_p1_cache_stores a_p1_cache_held a_p1_cache_asked a_p1_micros a_p1_before a_p1_after a_p1_waiting a_p1_tallies)[i]?) [0, 12, 13, 14, 15, 16, 17, 18, 19, 20, 21]) (z_rV (rest := []) hx hb hml hown hcx hl.1 (c_X4_copyFrom l D cI (r_t 0) h_p1 r_trial r_trial_cache r_p1 r_p1_cache F_trial F_p1 a_trial_cache_media a_trial_cache_stores a_trial_cache_held a_trial_cache_asked a_trial_micros a_trial_before a_trial_after a_trial_waiting a_trial_tallies a_p1_cache_media a_p1_cache_stores a_p1_cache_held a_p1_cache_asked a_p1_micros a_p1_before a_p1_after a_p1_waiting a_p1_tallies u1 hu1 _) tl_X2_46 ti_X4_copyFrom tz_X4_copyFrom tn_X4 tc_X4_copyFrom tm_X4_copyFrom rfl rfl ⟨Nat.le_of_ble_eq_true rfl, Nat.le_of_ble_eq_true rfl⟩ hK hX hS hA hP hD [1, 2, 3, 4, 5, 6, 7, 8, 9, 10, 11, 22, 23, 24, 25, 26, 27, 28, 29, 30, 31, 32] rfl rfl 1 rfl rfl rfl rfl (Nat.le_of_ble_eq_true rfl) dX2_run_5 ⟨Nat.zero_le _, Nat.zero_le _⟩) hP hD hS hA [1, 2, 3, 4, 5, 6, 7, 8, 9, 10, 11, 22, 23, 24, 25, 26, 27, 28, 29, 30, 31, 32] [0, 12, 13, 14, 15, 16, 17, 18, 19, 20, 21] [0, 11, 12, 13, 14, 15, 16, 17, 18, 19, 20, 21, 1, 2, 3, 4, 5, 6, 7, 8, 9, 10, 22, 23, 24, 25, 26, 27, 28, 29, 30, 31, 32] rfl rfl rfl (by decide) rfl rfl (fun H locs hP hD hS => ?_)
  refine lv_aload_n hx hb dX2_run_8 rfl (lv_at hl 0 rfl) ?_
  refine z_get (ci := 2) (C := RX2) (T := TX2) (N := 7) (v := .ref (r_t 0)) hx hb hts inT_X2 hown hK hP 0 rfl rfl 0 (by decide) tf_X2_12 rfl dX2_run_9 ?_
  refine lv_iload_n hx hb dX2_run_12 rfl (lv_at hl 2 rfl) ?_
  refine z_put (ci := 4) (C := RX4) (T := TX4) (N := 12) hx hb hts inT_X4 tyX4 tyX4_ok nmX4 hown hK hP hD hS 1 rfl rfl 10 (by decide) tf_X2_50 rfl (by decide +kernel) (Nat.le_of_ble_eq_true rfl) (o_X4 r_trial) (o_X4_s10 _ _ _) (fun z => w_X2_run h_t h_p1 r_t r_trial r_trial_cache r_planner r_planner_shapeNow r_walk r_p1 r_p1_cache F_t z F_planner F_planner_shapeNow F_p1 cI u1.2.1 u1.2.2.1 u1.2.2.2.1 u1.2.2.2.2.1 u1.2.2.2.2.2.1 u1.2.2.2.2.2.2.1 u1.2.2.2.2.2.2.2.1 u1.2.2.2.2.2.2.2.2.1 u1.2.2.2.2.2.2.2.2.2 a_planner_words a_planner_addresses a_planner_numbers a_planner_olds a_walk_row a_walk_picture a_walk_settled a_p1_cache_media a_p1_cache_stores a_p1_cache_held a_p1_cache_asked a_p1_micros a_p1_before a_p1_after a_p1_waiting a_p1_tallies) (fun _ => rfl) dX2_run_13 hf (fun F2 H locs hf hP hD hS => ?_)
  refine lv_aload_n hx hb dX2_run_16 rfl (lv_at hl 0 rfl) ?_
  refine lv_iconst (v := 0) hx hb dX2_run_17 (by decide) ?_
  refine z_put (ci := 2) (C := RX2) (T := TX2) (N := 7) hx hb hts inT_X2 tyX2 tyX2_ok nmX2 hown hK hP hD hS 0 rfl rfl 3 (by decide) tf_X2_32 rfl (by decide +kernel) (Nat.le_of_ble_eq_true rfl) (o_X2 r_t) (o_X2_s3 _ _ _) (fun z => w_X2_run h_t h_p1 r_t r_trial r_trial_cache r_planner r_planner_shapeNow r_walk r_p1 r_p1_cache z F2 F_planner F_planner_shapeNow F_p1 cI u1.2.1 u1.2.2.1 u1.2.2.2.1 u1.2.2.2.2.1 u1.2.2.2.2.2.1 u1.2.2.2.2.2.2.1 u1.2.2.2.2.2.2.2.1 u1.2.2.2.2.2.2.2.2.1 u1.2.2.2.2.2.2.2.2.2 a_planner_words a_planner_addresses a_planner_numbers a_planner_olds a_walk_row a_walk_picture a_walk_settled a_p1_cache_media a_p1_cache_stores a_p1_cache_held a_p1_cache_asked a_p1_micros a_p1_before a_p1_after a_p1_waiting a_p1_tallies) (fun _ => rfl) dX2_run_18 hf (fun F3 H locs hf hP hD hS => ?_)
  refine lv_aload_n hx hb dX2_run_21 rfl (lv_at hl 0 rfl) ?_
  refine lv_iconst (v := (-1)) hx hb dX2_run_22 (by decide) ?_
  refine z_put (ci := 2) (C := RX2) (T := TX2) (N := 7) hx hb hts inT_X2 tyX2 tyX2_ok nmX2 hown hK hP hD hS 0 rfl rfl 4 (by decide) tf_X2_36 rfl (by decide +kernel) (Nat.le_of_ble_eq_true rfl) (o_X2 r_t) (o_X2_s4 _ _ _) (fun z => w_X2_run h_t h_p1 r_t r_trial r_trial_cache r_planner r_planner_shapeNow r_walk r_p1 r_p1_cache z F2 F_planner F_planner_shapeNow F_p1 cI u1.2.1 u1.2.2.1 u1.2.2.2.1 u1.2.2.2.2.1 u1.2.2.2.2.2.1 u1.2.2.2.2.2.2.1 u1.2.2.2.2.2.2.2.1 u1.2.2.2.2.2.2.2.2.1 u1.2.2.2.2.2.2.2.2.2 a_planner_words a_planner_addresses a_planner_numbers a_planner_olds a_walk_row a_walk_picture a_walk_settled a_p1_cache_media a_p1_cache_stores a_p1_cache_held a_p1_cache_asked a_p1_micros a_p1_before a_p1_after a_p1_waiting a_p1_tallies) (fun _ => rfl) dX2_run_23 hf (fun F4 H locs hf hP hD hS => ?_)
  refine lv_aload_n hx hb dX2_run_26 rfl (lv_at hl 0 rfl) ?_
  refine lv_iconst (v := (-1)) hx hb dX2_run_27 (by decide) ?_
  refine z_put (ci := 2) (C := RX2) (T := TX2) (N := 7) hx hb hts inT_X2 tyX2 tyX2_ok nmX2 hown hK hP hD hS 0 rfl rfl 5 (by decide) tf_X2_39 rfl (by decide +kernel) (Nat.le_of_ble_eq_true rfl) (o_X2 r_t) (o_X2_s5 _ _ _) (fun z => w_X2_run h_t h_p1 r_t r_trial r_trial_cache r_planner r_planner_shapeNow r_walk r_p1 r_p1_cache z F2 F_planner F_planner_shapeNow F_p1 cI u1.2.1 u1.2.2.1 u1.2.2.2.1 u1.2.2.2.2.1 u1.2.2.2.2.2.1 u1.2.2.2.2.2.2.1 u1.2.2.2.2.2.2.2.1 u1.2.2.2.2.2.2.2.2.1 u1.2.2.2.2.2.2.2.2.2 a_planner_words a_planner_addresses a_planner_numbers a_planner_olds a_walk_row a_walk_picture a_walk_settled a_p1_cache_media a_p1_cache_stores a_p1_cache_held a_p1_cache_asked a_p1_micros a_p1_before a_p1_after a_p1_waiting a_p1_tallies) (fun _ => rfl) dX2_run_28 hf (fun F5 H locs hf hP hD hS => ?_)
  refine lv_aload_n hx hb dX2_run_31 rfl (lv_at hl 0 rfl) ?_
  refine lv_iconst (v := 0) hx hb dX2_run_32 (by decide) ?_
  refine z_putb (ci := 2) (C := RX2) (T := TX2) (N := 7) hx hb hts inT_X2 tyX2 tyX2_ok nmX2 hown hK hP hD hS 0 rfl rfl 6 (by decide) tf_X2_42 rfl (by decide +kernel) (Nat.le_of_ble_eq_true rfl) (o_X2 r_t) (o_X2_s6 _ _ _) (fun z => w_X2_run h_t h_p1 r_t r_trial r_trial_cache r_planner r_planner_shapeNow r_walk r_p1 r_p1_cache z F2 F_planner F_planner_shapeNow F_p1 cI u1.2.1 u1.2.2.1 u1.2.2.2.1 u1.2.2.2.2.1 u1.2.2.2.2.2.1 u1.2.2.2.2.2.2.1 u1.2.2.2.2.2.2.2.1 u1.2.2.2.2.2.2.2.2.1 u1.2.2.2.2.2.2.2.2.2 a_planner_words a_planner_addresses a_planner_numbers a_planner_olds a_walk_row a_walk_picture a_walk_settled a_p1_cache_media a_p1_cache_stores a_p1_cache_held a_p1_cache_asked a_p1_micros a_p1_before a_p1_after a_p1_waiting a_p1_tallies) (fun _ => rfl) dX2_run_33 hf (fun F6 H locs hf hP hD hS => ?_)
  refine lv_aload_n hx hb dX2_run_36 rfl (lv_at hl 0 rfl) ?_
  refine z_get (ci := 2) (C := RX2) (T := TX2) (N := 7) (v := .ref (r_t 0)) hx hb hts inT_X2 hown hK hP 0 rfl rfl 0 (by decide) tf_X2_12 rfl dX2_run_37 ?_
  refine z_get (ci := 4) (C := RX4) (T := TX4) (N := 12) (v := .int (F2 8)) hx hb hts inT_X4 hown hK hP 1 rfl rfl 8 (by decide) tf_X2_53 rfl dX2_run_40 ?_
  refine lv_iconst (v := 1) hx hb dX2_run_43 (by decide) ?_
  refine z_icmp_ne (tgt := 51) hx hb dX2_run_44 (by decide) hf (fun hf => ?_) (fun hf => ?_)
  · refine lv_iconst (v := 0) hx hb dX2_run_51 (by decide) ?_
    exact L52 0 F6 F2 F_planner F_planner_shapeNow u1.2.1 u1.2.2.1 u1.2.2.2.1 u1.2.2.2.2.1 u1.2.2.2.2.2.1 u1.2.2.2.2.2.2.1 u1.2.2.2.2.2.2.2.1 u1.2.2.2.2.2.2.2.2.1 u1.2.2.2.2.2.2.2.2.2 a_planner_words a_planner_addresses a_planner_numbers a_planner_olds a_walk_row a_walk_picture a_walk_settled _ _ _ hf hP hD hS (lv_sub hl [0, 3] rfl)
  · refine lv_iconst (v := 1) hx hb dX2_run_47 (by decide) ?_
    refine lv_goto (tgt := 52) hx hb dX2_run_48 (by decide) ?_
    exact L52 1 F6 F2 F_planner F_planner_shapeNow u1.2.1 u1.2.2.1 u1.2.2.2.1 u1.2.2.2.2.1 u1.2.2.2.2.2.1 u1.2.2.2.2.2.2.1 u1.2.2.2.2.2.2.2.1 u1.2.2.2.2.2.2.2.2.1 u1.2.2.2.2.2.2.2.2.2 a_planner_words a_planner_addresses a_planner_numbers a_planner_olds a_walk_row a_walk_picture a_walk_settled _ _ _ hf hP hD hS (lv_sub hl [0, 3] rfl)
abbrev w_X2_isSound (h_t : Nat) (r_t : Nat → Nat) (F_t : Nat → Int32) (cI : ClassId) : va_W := [(h_t, .inr (2, o_X2 r_t F_t))]
abbrev rm_X2_isSound : Room := { frames := 0, cells := 0, slots := 0, locals := 0 }
def m_X2_isSound (F_t : Nat → Int32) : Option (Int32) :=
  if (F_t 3) = 0 then (
  if (F_t 6) = 0 then (
  some 1)
  else (
  some 0))
  else (
  some 0)
set_option maxHeartbeats 4000000 in
set_option maxRecDepth 100000 in
theorem c_X2_isSound (l : Launch) (D : va_G) (cI : ClassId) (h_t : Nat) (r_t : Nat → Nat) (F_t : Nat → Int32) (Rr : Int32) (hf : m_X2_isSound F_t = some Rr) : CTi l yX2_isSound (Cond.code yX2_isSound cX2_isSound 1 (some .boolean)) rm_X2_isSound D cI [.ref h_t] (w_X2_isSound h_t r_t F_t cI) Rr (w_X2_isSound h_t r_t F_t cI) := by
  refine z_begin_z (own := RX2) (ρ := Int32) (fun u => w_X2_isSound h_t r_t F_t cI) (fun u => u) (by decide +kernel) rfl (Nat.le_of_ble_eq_true rfl) ?_
  intro p e s m args below meth c ls Q A hx hb hml hts hcx hown hK hX hA hP hD hS hl hret
  have hl : lv_has ls 1 [(0, .ref h_t)] := hl
  have hf := (m_X2_isSound.eq_1 _).symm.trans hf
  refine lv_aload_n hx hb dX2_isSound_0 rfl (lv_at hl 0 rfl) ?_
  refine z_get (ci := 2) (C := RX2) (T := TX2) (N := 7) (v := .int (F_t 3)) hx hb hts inT_X2 hown hK hP 0 rfl rfl 3 (by decide) tf_X2_32 rfl dX2_isSound_1 ?_
  refine z_if_ne (tgt := 18) hx hb dX2_isSound_4 (by decide) hf (fun hf => ?_) (fun hf => ?_)
  · refine lv_iconst (v := 0) hx hb dX2_isSound_18 (by decide) ?_
    exact hret 0 _ _ _ _ (Or.inl rfl) hf hP hD hS dX2_isSound_19
  · refine lv_aload_n hx hb dX2_isSound_7 rfl (lv_at hl 0 rfl) ?_
    refine z_get (ci := 2) (C := RX2) (T := TX2) (N := 7) (v := .int (F_t 6)) hx hb hts inT_X2 hown hK hP 0 rfl rfl 6 (by decide) tf_X2_42 rfl dX2_isSound_8 ?_
    refine z_if_ne (tgt := 18) hx hb dX2_isSound_11 (by decide) hf (fun hf => ?_) (fun hf => ?_)
    · refine lv_iconst (v := 0) hx hb dX2_isSound_18 (by decide) ?_
      exact hret 0 _ _ _ _ (Or.inl rfl) hf hP hD hS dX2_isSound_19
    · refine lv_iconst (v := 1) hx hb dX2_isSound_14 (by decide) ?_
      refine lv_goto (tgt := 19) hx hb dX2_isSound_15 (by decide) ?_
      exact hret 1 _ _ _ _ (Or.inr rfl) hf hP hD hS dX2_isSound_19
abbrev w_X11_needless (h_t : Nat) (r_t : Nat → Nat) (r_all : Nat → Nat) (r_all_machine : Nat → Nat) (r_all_machine_cache : Nat → Nat) (r_planner : Nat → Nat) (r_planner_shapeNow : Nat → Nat) (r_checker : Nat → Nat) (r_checker_trial : Nat → Nat) (r_checker_trial_cache : Nat → Nat) (r_checker_planner : Nat → Nat) (r_checker_planner_shapeNow : Nat → Nat) (r_checker_walk : Nat → Nat) (F_t : Nat → Int32) (F_all : Nat → Int32) (F_all_machine : Nat → Int32) (F_planner : Nat → Int32) (F_planner_shapeNow : Nat → Int32) (F_checker : Nat → Int32) (F_checker_trial : Nat → Int32) (F_checker_planner : Nat → Int32) (F_checker_planner_shapeNow : Nat → Int32) (kq : Option Nat) (cI : ClassId) (a_all_machine_cache_media : Nat → Int32) (a_all_machine_cache_stores : Nat → Int32) (a_all_machine_cache_held : Nat → Int32) (a_all_machine_cache_asked : Nat → Int32) (a_all_machine_micros : Nat → Int32) (a_all_machine_before : Nat → Int32) (a_all_machine_after : Nat → Int32) (a_all_machine_waiting : Nat → Int32) (a_all_machine_tallies : Nat → Int32) (a_planner_words : Nat → Int32) (a_planner_addresses : Nat → Int32) (a_planner_numbers : Nat → Int32) (a_planner_olds : Nat → Int32) (a_checker_trial_cache_media : Nat → Int32) (a_checker_trial_cache_stores : Nat → Int32) (a_checker_trial_cache_held : Nat → Int32) (a_checker_trial_cache_asked : Nat → Int32) (a_checker_trial_micros : Nat → Int32) (a_checker_trial_before : Nat → Int32) (a_checker_trial_after : Nat → Int32) (a_checker_trial_waiting : Nat → Int32) (a_checker_trial_tallies : Nat → Int32) (a_checker_planner_words : Nat → Int32) (a_checker_planner_addresses : Nat → Int32) (a_checker_planner_numbers : Nat → Int32) (a_checker_planner_olds : Nat → Int32) (a_checker_walk_row : Nat → Int32) (a_checker_walk_picture : Nat → Int32) (a_checker_walk_settled : Nat → Int32) : va_W := [(h_t, .inr (11, o_X11 r_t F_t kq)), ((r_t 3), .inr (0, o_X0 r_all F_all)), ((r_all 0), .inr (4, o_X4 r_all_machine F_all_machine)), ((r_all_machine 0), .inr (1, o_X1 r_all_machine_cache)), ((r_all_machine_cache 0), .inl (cI, 64, .inl a_all_machine_cache_media)), ((r_all_machine_cache 1), .inl (cI, 96, .inl a_all_machine_cache_stores)), ((r_all_machine_cache 2), .inl (cI, 16, .inl a_all_machine_cache_held)), ((r_all_machine_cache 3), .inl (cI, 16, .inl a_all_machine_cache_asked)), ((r_all_machine 1), .inl (cI, 80, .inl a_all_machine_micros)), ((r_all_machine 4), .inl (cI, 44, .inl a_all_machine_before)), ((r_all_machine 5), .inl (cI, 44, .inl a_all_machine_after)), ((r_all_machine 6), .inl (cI, 48, .inl a_all_machine_waiting)), ((r_all_machine 11), .inl (cI, 8, .inl a_all_machine_tallies)), ((r_t 6), .inr (5, o_X5 r_planner F_planner)), ((r_planner 0), .inl (cI, 64, .inl a_planner_words)), ((r_planner 1), .inl (cI, 8, .inl a_planner_addresses)), ((r_planner 2), .inl (cI, 8, .inl a_planner_numbers)), ((r_planner 3), .inl (cI, 8, .inl a_planner_olds)), ((r_planner 6), .inr (7, o_X7 r_planner_shapeNow F_planner_shapeNow)), ((r_t 10), .inr (2, o_X2 r_checker F_checker)), ((r_checker 0), .inr (4, o_X4 r_checker_trial F_checker_trial)), ((r_checker_trial 0), .inr (1, o_X1 r_checker_trial_cache)), ((r_checker_trial_cache 0), .inl (cI, 64, .inl a_checker_trial_cache_media)), ((r_checker_trial_cache 1), .inl (cI, 96, .inl a_checker_trial_cache_stores)), ((r_checker_trial_cache 2), .inl (cI, 16, .inl a_checker_trial_cache_held)), ((r_checker_trial_cache 3), .inl (cI, 16, .inl a_checker_trial_cache_asked)), ((r_checker_trial 1), .inl (cI, 80, .inl a_checker_trial_micros)), ((r_checker_trial 4), .inl (cI, 44, .inl a_checker_trial_before)), ((r_checker_trial 5), .inl (cI, 44, .inl a_checker_trial_after)), ((r_checker_trial 6), .inl (cI, 48, .inl a_checker_trial_waiting)), ((r_checker_trial 11), .inl (cI, 8, .inl a_checker_trial_tallies)), ((r_checker 1), .inr (5, o_X5 r_checker_planner F_checker_planner)), ((r_checker_planner 0), .inl (cI, 64, .inl a_checker_planner_words)), ((r_checker_planner 1), .inl (cI, 8, .inl a_checker_planner_addresses)), ((r_checker_planner 2), .inl (cI, 8, .inl a_checker_planner_numbers)), ((r_checker_planner 3), .inl (cI, 8, .inl a_checker_planner_olds)), ((r_checker_planner 6), .inr (7, o_X7 r_checker_planner_shapeNow F_checker_planner_shapeNow)), ((r_checker 2), .inr (9, o_X9 r_checker_walk)), ((r_checker_walk 0), .inl (cI, 16, .inl a_checker_walk_row)), ((r_checker_walk 1), .inl (cI, 64, .inl a_checker_walk_picture)), ((r_checker_walk 2), .inl (cI, 64, .inl a_checker_walk_settled))]
abbrev rm_X11_needless : Room := { frames := 7, cells := 0, slots := 0, locals := 165 }
def m_X11_needless_j81 (F_all_machine : Nat → Int32) (a_all_machine_cache_media : Nat → Int32) (a_all_machine_cache_stores : Nat → Int32) (a_all_machine_cache_held : Nat → Int32) (a_all_machine_cache_asked : Nat → Int32) (a_all_machine_micros : Nat → Int32) (a_all_machine_before : Nat → Int32) (a_all_machine_after : Nat → Int32) (a_all_machine_waiting : Nat → Int32) (a_all_machine_tallies : Nat → Int32) (k25 : Int32 → Int32 → (Nat → Int32) → (Nat → Int32) → (Nat → Int32) → (Nat → Int32) → (Nat → Int32) → (Nat → Int32) → (Nat → Int32) → (Nat → Int32) → (Nat → Int32) → (Nat → Int32) → (Nat → Int32) → (Nat → Int32) → (Nat → Int32) → (Nat → Int32) → (Nat → Int32) → (Nat → Int32) → (Nat → Int32) → (Nat → Int32) → (Nat → Int32) → (Nat → Int32) → (Nat → Int32) → (Nat → Int32) → (Nat → Int32) → (Nat → Int32) → (Nat → Int32) → (Nat → Int32) → Option (Int32 × (Nat → Int32) × (Nat → Int32) × (Nat → Int32) × (Nat → Int32) × (Nat → Int32) × (Nat → Int32) × (Nat → Int32) × (Nat → Int32) × (Nat → Int32) × (Nat → Int32) × (Nat → Int32) × (Nat → Int32) × (Nat → Int32) × (Nat → Int32) × (Nat → Int32) × (Nat → Int32) × (Nat → Int32) × (Nat → Int32) × (Nat → Int32) × (Nat → Int32) × (Nat → Int32) × (Nat → Int32) × (Nat → Int32) × (Nat → Int32) × (Nat → Int32) × (Nat → Int32))) (x2 : Int32) (x3 : Int32) (F_planner : Nat → Int32) (F_planner_shapeNow : Nat → Int32) (F_checker : Nat → Int32) (F_checker_trial : Nat → Int32) (F_checker_planner : Nat → Int32) (F_checker_planner_shapeNow : Nat → Int32) (a_planner_words : Nat → Int32) (a_planner_addresses : Nat → Int32) (a_planner_numbers : Nat → Int32) (a_planner_olds : Nat → Int32) (a_checker_trial_cache_media : Nat → Int32) (a_checker_trial_cache_stores : Nat → Int32) (a_checker_trial_cache_held : Nat → Int32) (a_checker_trial_cache_asked : Nat → Int32) (a_checker_trial_micros : Nat → Int32) (a_checker_trial_before : Nat → Int32) (a_checker_trial_after : Nat → Int32) (a_checker_trial_waiting : Nat → Int32) (a_checker_trial_tallies : Nat → Int32) (a_checker_planner_words : Nat → Int32) (a_checker_planner_addresses : Nat → Int32) (a_checker_planner_numbers : Nat → Int32) (a_checker_planner_olds : Nat → Int32) (a_checker_walk_row : Nat → Int32) (a_checker_walk_picture : Nat → Int32) (a_checker_walk_settled : Nat → Int32) : Option (Int32 × (Nat → Int32) × (Nat → Int32) × (Nat → Int32) × (Nat → Int32) × (Nat → Int32) × (Nat → Int32) × (Nat → Int32) × (Nat → Int32) × (Nat → Int32) × (Nat → Int32) × (Nat → Int32) × (Nat → Int32) × (Nat → Int32) × (Nat → Int32) × (Nat → Int32) × (Nat → Int32) × (Nat → Int32) × (Nat → Int32) × (Nat → Int32) × (Nat → Int32) × (Nat → Int32) × (Nat → Int32) × (Nat → Int32) × (Nat → Int32) × (Nat → Int32) × (Nat → Int32)) :=
  nm (x3 + 1) fun v3 =>
  k25 x2 v3 F_planner F_planner_shapeNow F_checker F_checker_trial F_checker_planner F_checker_planner_shapeNow a_planner_words a_planner_addresses a_planner_numbers a_planner_olds a_checker_trial_cache_media a_checker_trial_cache_stores a_checker_trial_cache_held a_checker_trial_cache_asked a_checker_trial_micros a_checker_trial_before a_checker_trial_after a_checker_trial_waiting a_checker_trial_tallies a_checker_planner_words a_checker_planner_addresses a_checker_planner_numbers a_checker_planner_olds a_checker_walk_row a_checker_walk_picture a_checker_walk_settled
def m_X11_needless_j79 (F_all_machine : Nat → Int32) (a_all_machine_cache_media : Nat → Int32) (a_all_machine_cache_stores : Nat → Int32) (a_all_machine_cache_held : Nat → Int32) (a_all_machine_cache_asked : Nat → Int32) (a_all_machine_micros : Nat → Int32) (a_all_machine_before : Nat → Int32) (a_all_machine_after : Nat → Int32) (a_all_machine_waiting : Nat → Int32) (a_all_machine_tallies : Nat → Int32) (k25 : Int32 → Int32 → (Nat → Int32) → (Nat → Int32) → (Nat → Int32) → (Nat → Int32) → (Nat → Int32) → (Nat → Int32) → (Nat → Int32) → (Nat → Int32) → (Nat → Int32) → (Nat → Int32) → (Nat → Int32) → (Nat → Int32) → (Nat → Int32) → (Nat → Int32) → (Nat → Int32) → (Nat → Int32) → (Nat → Int32) → (Nat → Int32) → (Nat → Int32) → (Nat → Int32) → (Nat → Int32) → (Nat → Int32) → (Nat → Int32) → (Nat → Int32) → (Nat → Int32) → (Nat → Int32) → Option (Int32 × (Nat → Int32) × (Nat → Int32) × (Nat → Int32) × (Nat → Int32) × (Nat → Int32) × (Nat → Int32) × (Nat → Int32) × (Nat → Int32) × (Nat → Int32) × (Nat → Int32) × (Nat → Int32) × (Nat → Int32) × (Nat → Int32) × (Nat → Int32) × (Nat → Int32) × (Nat → Int32) × (Nat → Int32) × (Nat → Int32) × (Nat → Int32) × (Nat → Int32) × (Nat → Int32) × (Nat → Int32) × (Nat → Int32) × (Nat → Int32) × (Nat → Int32) × (Nat → Int32))) (x3 : Int32) (s0 : Int32) (s1 : Int32) (F_planner : Nat → Int32) (F_planner_shapeNow : Nat → Int32) (F_checker : Nat → Int32) (F_checker_trial : Nat → Int32) (F_checker_planner : Nat → Int32) (F_checker_planner_shapeNow : Nat → Int32) (a_planner_words : Nat → Int32) (a_planner_addresses : Nat → Int32) (a_planner_numbers : Nat → Int32) (a_planner_olds : Nat → Int32) (a_checker_trial_cache_media : Nat → Int32) (a_checker_trial_cache_stores : Nat → Int32) (a_checker_trial_cache_held : Nat → Int32) (a_checker_trial_cache_asked : Nat → Int32) (a_checker_trial_micros : Nat → Int32) (a_checker_trial_before : Nat → Int32) (a_checker_trial_after : Nat → Int32) (a_checker_trial_waiting : Nat → Int32) (a_checker_trial_tallies : Nat → Int32) (a_checker_planner_words : Nat → Int32) (a_checker_planner_addresses : Nat → Int32) (a_checker_planner_numbers : Nat → Int32) (a_checker_planner_olds : Nat → Int32) (a_checker_walk_row : Nat → Int32) (a_checker_walk_picture : Nat → Int32) (a_checker_walk_settled : Nat → Int32) : Option (Int32 × (Nat → Int32) × (Nat → Int32) × (Nat → Int32) × (Nat → Int32) × (Nat → Int32) × (Nat → Int32) × (Nat → Int32) × (Nat → Int32) × (Nat → Int32) × (Nat → Int32) × (Nat → Int32) × (Nat → Int32) × (Nat → Int32) × (Nat → Int32) × (Nat → Int32) × (Nat → Int32) × (Nat → Int32) × (Nat → Int32) × (Nat → Int32) × (Nat → Int32) × (Nat → Int32) × (Nat → Int32) × (Nat → Int32) × (Nat → Int32) × (Nat → Int32) × (Nat → Int32)) :=
  nm (s0 ||| s1) fun v6 =>
  m_X11_needless_j81 F_all_machine a_all_machine_cache_media a_all_machine_cache_stores a_all_machine_cache_held a_all_machine_cache_asked a_all_machine_micros a_all_machine_before a_all_machine_after a_all_machine_waiting a_all_machine_tallies k25 v6 x3 F_planner F_planner_shapeNow F_checker F_checker_trial F_checker_planner F_checker_planner_shapeNow a_planner_words a_planner_addresses a_planner_numbers a_planner_olds a_checker_trial_cache_media a_checker_trial_cache_stores a_checker_trial_cache_held a_checker_trial_cache_asked a_checker_trial_micros a_checker_trial_before a_checker_trial_after a_checker_trial_waiting a_checker_trial_tallies a_checker_planner_words a_checker_planner_addresses a_checker_planner_numbers a_checker_planner_olds a_checker_walk_row a_checker_walk_picture a_checker_walk_settled
def m_X11_needless_w25 (F_all_machine : Nat → Int32) (a_all_machine_cache_media : Nat → Int32) (a_all_machine_cache_stores : Nat → Int32) (a_all_machine_cache_held : Nat → Int32) (a_all_machine_cache_asked : Nat → Int32) (a_all_machine_micros : Nat → Int32) (a_all_machine_before : Nat → Int32) (a_all_machine_after : Nat → Int32) (a_all_machine_waiting : Nat → Int32) (a_all_machine_tallies : Nat → Int32) : Nat → Int32 → Int32 → (Nat → Int32) → (Nat → Int32) → (Nat → Int32) → (Nat → Int32) → (Nat → Int32) → (Nat → Int32) → (Nat → Int32) → (Nat → Int32) → (Nat → Int32) → (Nat → Int32) → (Nat → Int32) → (Nat → Int32) → (Nat → Int32) → (Nat → Int32) → (Nat → Int32) → (Nat → Int32) → (Nat → Int32) → (Nat → Int32) → (Nat → Int32) → (Nat → Int32) → (Nat → Int32) → (Nat → Int32) → (Nat → Int32) → (Nat → Int32) → (Nat → Int32) → (Nat → Int32) → Option (Int32 × (Nat → Int32) × (Nat → Int32) × (Nat → Int32) × (Nat → Int32) × (Nat → Int32) × (Nat → Int32) × (Nat → Int32) × (Nat → Int32) × (Nat → Int32) × (Nat → Int32) × (Nat → Int32) × (Nat → Int32) × (Nat → Int32) × (Nat → Int32) × (Nat → Int32) × (Nat → Int32) × (Nat → Int32) × (Nat → Int32) × (Nat → Int32) × (Nat → Int32) × (Nat → Int32) × (Nat → Int32) × (Nat → Int32) × (Nat → Int32) × (Nat → Int32) × (Nat → Int32))
  | 0, _, _, _, _, _, _, _, _, _, _, _, _, _, _, _, _, _, _, _, _, _, _, _, _, _, _, _, _ => none
  | n25 + 1, x2, x3, F_planner, F_planner_shapeNow, F_checker, F_checker_trial, F_checker_planner, F_checker_planner_shapeNow, a_planner_words, a_planner_addresses, a_planner_numbers, a_planner_olds, a_checker_trial_cache_media, a_checker_trial_cache_stores, a_checker_trial_cache_held, a_checker_trial_cache_asked, a_checker_trial_micros, a_checker_trial_before, a_checker_trial_after, a_checker_trial_waiting, a_checker_trial_tallies, a_checker_planner_words, a_checker_planner_addresses, a_checker_planner_numbers, a_checker_planner_olds, a_checker_walk_row, a_checker_walk_picture, a_checker_walk_settled =>
    if 7 ≤ x3 then (
    some (x2, F_planner, F_planner_shapeNow, F_checker, F_checker_trial, F_checker_planner, F_checker_planner_shapeNow, a_planner_words, a_planner_addresses, a_planner_numbers, a_planner_olds, a_checker_trial_cache_media, a_checker_trial_cache_stores, a_checker_trial_cache_held, a_checker_trial_cache_asked, a_checker_trial_micros, a_checker_trial_before, a_checker_trial_after, a_checker_trial_waiting, a_checker_trial_tallies, a_checker_planner_words, a_checker_planner_addresses, a_checker_planner_numbers, a_checker_planner_olds, a_checker_walk_row, a_checker_walk_picture, a_checker_walk_settled))
    else (
    nm ((F_all_machine 10) ||| ((1 : Int32) <<< (x3 &&& 31))) fun v2 =>
    if v2 = (F_all_machine 10) then (
    m_X11_needless_j81 F_all_machine a_all_machine_cache_media a_all_machine_cache_stores a_all_machine_cache_held a_all_machine_cache_asked a_all_machine_micros a_all_machine_before a_all_machine_after a_all_machine_waiting a_all_machine_tallies (m_X11_needless_w25 F_all_machine a_all_machine_cache_media a_all_machine_cache_stores a_all_machine_cache_held a_all_machine_cache_asked a_all_machine_micros a_all_machine_before a_all_machine_after a_all_machine_waiting a_all_machine_tallies n25) x2 x3 F_planner F_planner_shapeNow F_checker F_checker_trial F_checker_planner F_checker_planner_shapeNow a_planner_words a_planner_addresses a_planner_numbers a_planner_olds a_checker_trial_cache_media a_checker_trial_cache_stores a_checker_trial_cache_held a_checker_trial_cache_asked a_checker_trial_micros a_checker_trial_before a_checker_trial_after a_checker_trial_waiting a_checker_trial_tallies a_checker_planner_words a_checker_planner_addresses a_checker_planner_numbers a_checker_planner_olds a_checker_walk_row a_checker_walk_picture a_checker_walk_settled)
    else (
    bd (m_X2_run F_checker F_checker_trial F_checker_planner F_checker_planner_shapeNow F_all_machine a_checker_trial_cache_media a_checker_trial_cache_stores a_checker_trial_cache_held a_checker_trial_cache_asked a_checker_trial_micros a_checker_trial_before a_checker_trial_after a_checker_trial_waiting a_checker_trial_tallies a_checker_planner_words a_checker_planner_addresses a_checker_planner_numbers a_checker_planner_olds a_checker_walk_row a_checker_walk_picture a_checker_walk_settled a_all_machine_cache_media a_all_machine_cache_stores a_all_machine_cache_held a_all_machine_cache_asked a_all_machine_micros a_all_machine_before a_all_machine_after a_all_machine_waiting a_all_machine_tallies v2 1) fun u4 =>
    bd (m_X2_isSound u4.1) fun u5 =>
    if u5 = 0 then (
    m_X11_needless_j79 F_all_machine a_all_machine_cache_media a_all_machine_cache_stores a_all_machine_cache_held a_all_machine_cache_asked a_all_machine_micros a_all_machine_before a_all_machine_after a_all_machine_waiting a_all_machine_tallies (m_X11_needless_w25 F_all_machine a_all_machine_cache_media a_all_machine_cache_stores a_all_machine_cache_held a_all_machine_cache_asked a_all_machine_micros a_all_machine_before a_all_machine_after a_all_machine_waiting a_all_machine_tallies n25) x3 x2 0 F_planner F_planner_shapeNow u4.1 u4.2.1 u4.2.2.1 u4.2.2.2.1 a_planner_words a_planner_addresses a_planner_numbers a_planner_olds u4.2.2.2.2.1 u4.2.2.2.2.2.1 u4.2.2.2.2.2.2.1 u4.2.2.2.2.2.2.2.1 u4.2.2.2.2.2.2.2.2.1 u4.2.2.2.2.2.2.2.2.2.1 u4.2.2.2.2.2.2.2.2.2.2.1 u4.2.2.2.2.2.2.2.2.2.2.2.1 u4.2.2.2.2.2.2.2.2.2.2.2.2.1 u4.2.2.2.2.2.2.2.2.2.2.2.2.2.1 u4.2.2.2.2.2.2.2.2.2.2.2.2.2.2.1 u4.2.2.2.2.2.2.2.2.2.2.2.2.2.2.2.1 u4.2.2.2.2.2.2.2.2.2.2.2.2.2.2.2.2.1 u4.2.2.2.2.2.2.2.2.2.2.2.2.2.2.2.2.2.1 u4.2.2.2.2.2.2.2.2.2.2.2.2.2.2.2.2.2.2.1 u4.2.2.2.2.2.2.2.2.2.2.2.2.2.2.2.2.2.2.2)
    else (
    m_X11_needless_j79 F_all_machine a_all_machine_cache_media a_all_machine_cache_stores a_all_machine_cache_held a_all_machine_cache_asked a_all_machine_micros a_all_machine_before a_all_machine_after a_all_machine_waiting a_all_machine_tallies (m_X11_needless_w25 F_all_machine a_all_machine_cache_media a_all_machine_cache_stores a_all_machine_cache_held a_all_machine_cache_asked a_all_machine_micros a_all_machine_before a_all_machine_after a_all_machine_waiting a_all_machine_tallies n25) x3 x2 ((1 : Int32) <<< (x3 &&& 31)) F_planner F_planner_shapeNow u4.1 u4.2.1 u4.2.2.1 u4.2.2.2.1 a_planner_words a_planner_addresses a_planner_numbers a_planner_olds u4.2.2.2.2.1 u4.2.2.2.2.2.1 u4.2.2.2.2.2.2.1 u4.2.2.2.2.2.2.2.1 u4.2.2.2.2.2.2.2.2.1 u4.2.2.2.2.2.2.2.2.2.1 u4.2.2.2.2.2.2.2.2.2.2.1 u4.2.2.2.2.2.2.2.2.2.2.2.1 u4.2.2.2.2.2.2.2.2.2.2.2.2.1 u4.2.2.2.2.2.2.2.2.2.2.2.2.2.1 u4.2.2.2.2.2.2.2.2.2.2.2.2.2.2.1 u4.2.2.2.2.2.2.2.2.2.2.2.2.2.2.2.1 u4.2.2.2.2.2.2.2.2.2.2.2.2.2.2.2.2.1 u4.2.2.2.2.2.2.2.2.2.2.2.2.2.2.2.2.2.1 u4.2.2.2.2.2.2.2.2.2.2.2.2.2.2.2.2.2.2.1 u4.2.2.2.2.2.2.2.2.2.2.2.2.2.2.2.2.2.2.2)))
def m_X11_needless (F_all_machine : Nat → Int32) (F_planner : Nat → Int32) (F_planner_shapeNow : Nat → Int32) (F_checker : Nat → Int32) (F_checker_trial : Nat → Int32) (F_checker_planner : Nat → Int32) (F_checker_planner_shapeNow : Nat → Int32) (a_all_machine_cache_media : Nat → Int32) (a_all_machine_cache_stores : Nat → Int32) (a_all_machine_cache_held : Nat → Int32) (a_all_machine_cache_asked : Nat → Int32) (a_all_machine_micros : Nat → Int32) (a_all_machine_before : Nat → Int32) (a_all_machine_after : Nat → Int32) (a_all_machine_waiting : Nat → Int32) (a_all_machine_tallies : Nat → Int32) (a_planner_words : Nat → Int32) (a_planner_addresses : Nat → Int32) (a_planner_numbers : Nat → Int32) (a_planner_olds : Nat → Int32) (a_checker_trial_cache_media : Nat → Int32) (a_checker_trial_cache_stores : Nat → Int32) (a_checker_trial_cache_held : Nat → Int32) (a_checker_trial_cache_asked : Nat → Int32) (a_checker_trial_micros : Nat → Int32) (a_checker_trial_before : Nat → Int32) (a_checker_trial_after : Nat → Int32) (a_checker_trial_waiting : Nat → Int32) (a_checker_trial_tallies : Nat → Int32) (a_checker_planner_words : Nat → Int32) (a_checker_planner_addresses : Nat → Int32) (a_checker_planner_numbers : Nat → Int32) (a_checker_planner_olds : Nat → Int32) (a_checker_walk_row : Nat → Int32) (a_checker_walk_picture : Nat → Int32) (a_checker_walk_settled : Nat → Int32) : Option (Int32 × (Nat → Int32) × (Nat → Int32) × (Nat → Int32) × (Nat → Int32) × (Nat → Int32) × (Nat → Int32) × (Nat → Int32) × (Nat → Int32) × (Nat → Int32) × (Nat → Int32) × (Nat → Int32) × (Nat → Int32) × (Nat → Int32) × (Nat → Int32) × (Nat → Int32) × (Nat → Int32) × (Nat → Int32) × (Nat → Int32) × (Nat → Int32) × (Nat → Int32) × (Nat → Int32) × (Nat → Int32) × (Nat → Int32) × (Nat → Int32) × (Nat → Int32) × (Nat → Int32)) :=
  bd (m_X4_isReady F_all_machine F_planner F_planner_shapeNow a_all_machine_cache_media a_all_machine_cache_stores a_all_machine_cache_held a_all_machine_waiting a_planner_words a_planner_addresses a_planner_numbers a_planner_olds) fun u1 =>
  if u1.1 = 0 then (
  some ((-1), u1.2.1, u1.2.2.1, F_checker, F_checker_trial, F_checker_planner, F_checker_planner_shapeNow, u1.2.2.2.1, u1.2.2.2.2.1, u1.2.2.2.2.2.1, u1.2.2.2.2.2.2, a_checker_trial_cache_media, a_checker_trial_cache_stores, a_checker_trial_cache_held, a_checker_trial_cache_asked, a_checker_trial_micros, a_checker_trial_before, a_checker_trial_after, a_checker_trial_waiting, a_checker_trial_tallies, a_checker_planner_words, a_checker_planner_addresses, a_checker_planner_numbers, a_checker_planner_olds, a_checker_walk_row, a_checker_walk_picture, a_checker_walk_settled))
  else (
  m_X11_needless_w25 F_all_machine a_all_machine_cache_media a_all_machine_cache_stores a_all_machine_cache_held a_all_machine_cache_asked a_all_machine_micros a_all_machine_before a_all_machine_after a_all_machine_waiting a_all_machine_tallies fuelN 0 0 u1.2.1 u1.2.2.1 F_checker F_checker_trial F_checker_planner F_checker_planner_shapeNow u1.2.2.2.1 u1.2.2.2.2.1 u1.2.2.2.2.2.1 u1.2.2.2.2.2.2 a_checker_trial_cache_media a_checker_trial_cache_stores a_checker_trial_cache_held a_checker_trial_cache_asked a_checker_trial_micros a_checker_trial_before a_checker_trial_after a_checker_trial_waiting a_checker_trial_tallies a_checker_planner_words a_checker_planner_addresses a_checker_planner_numbers a_checker_planner_olds a_checker_walk_row a_checker_walk_picture a_checker_walk_settled)
set_option maxHeartbeats 4000000 in
set_option maxRecDepth 100000 in
theorem c_X11_needless (l : Launch) (D : va_G) (cI : ClassId) (h_t : Nat) (r_t : Nat → Nat) (r_all : Nat → Nat) (r_all_machine : Nat → Nat) (r_all_machine_cache : Nat → Nat) (r_planner : Nat → Nat) (r_planner_shapeNow : Nat → Nat) (r_checker : Nat → Nat) (r_checker_trial : Nat → Nat) (r_checker_trial_cache : Nat → Nat) (r_checker_planner : Nat → Nat) (r_checker_planner_shapeNow : Nat → Nat) (r_checker_walk : Nat → Nat) (F_t : Nat → Int32) (F_all : Nat → Int32) (F_all_machine : Nat → Int32) (F_planner : Nat → Int32) (F_planner_shapeNow : Nat → Int32) (F_checker : Nat → Int32) (F_checker_trial : Nat → Int32) (F_checker_planner : Nat → Int32) (F_checker_planner_shapeNow : Nat → Int32) (kq : Option Nat) (a_all_machine_cache_media : Nat → Int32) (a_all_machine_cache_stores : Nat → Int32) (a_all_machine_cache_held : Nat → Int32) (a_all_machine_cache_asked : Nat → Int32) (a_all_machine_micros : Nat → Int32) (a_all_machine_before : Nat → Int32) (a_all_machine_after : Nat → Int32) (a_all_machine_waiting : Nat → Int32) (a_all_machine_tallies : Nat → Int32) (a_planner_words : Nat → Int32) (a_planner_addresses : Nat → Int32) (a_planner_numbers : Nat → Int32) (a_planner_olds : Nat → Int32) (a_checker_trial_cache_media : Nat → Int32) (a_checker_trial_cache_stores : Nat → Int32) (a_checker_trial_cache_held : Nat → Int32) (a_checker_trial_cache_asked : Nat → Int32) (a_checker_trial_micros : Nat → Int32) (a_checker_trial_before : Nat → Int32) (a_checker_trial_after : Nat → Int32) (a_checker_trial_waiting : Nat → Int32) (a_checker_trial_tallies : Nat → Int32) (a_checker_planner_words : Nat → Int32) (a_checker_planner_addresses : Nat → Int32) (a_checker_planner_numbers : Nat → Int32) (a_checker_planner_olds : Nat → Int32) (a_checker_walk_row : Nat → Int32) (a_checker_walk_picture : Nat → Int32) (a_checker_walk_settled : Nat → Int32) (Rr : Int32 × (Nat → Int32) × (Nat → Int32) × (Nat → Int32) × (Nat → Int32) × (Nat → Int32) × (Nat → Int32) × (Nat → Int32) × (Nat → Int32) × (Nat → Int32) × (Nat → Int32) × (Nat → Int32) × (Nat → Int32) × (Nat → Int32) × (Nat → Int32) × (Nat → Int32) × (Nat → Int32) × (Nat → Int32) × (Nat → Int32) × (Nat → Int32) × (Nat → Int32) × (Nat → Int32) × (Nat → Int32) × (Nat → Int32) × (Nat → Int32) × (Nat → Int32) × (Nat → Int32)) (hf : m_X11_needless F_all_machine F_planner F_planner_shapeNow F_checker F_checker_trial F_checker_planner F_checker_planner_shapeNow a_all_machine_cache_media a_all_machine_cache_stores a_all_machine_cache_held a_all_machine_cache_asked a_all_machine_micros a_all_machine_before a_all_machine_after a_all_machine_waiting a_all_machine_tallies a_planner_words a_planner_addresses a_planner_numbers a_planner_olds a_checker_trial_cache_media a_checker_trial_cache_stores a_checker_trial_cache_held a_checker_trial_cache_asked a_checker_trial_micros a_checker_trial_before a_checker_trial_after a_checker_trial_waiting a_checker_trial_tallies a_checker_planner_words a_checker_planner_addresses a_checker_planner_numbers a_checker_planner_olds a_checker_walk_row a_checker_walk_picture a_checker_walk_settled = some Rr) : CTi l yX11_needless (Cond.code yX11_needless cX11_needless 5 (some .int)) rm_X11_needless D cI [.ref h_t] (w_X11_needless h_t r_t r_all r_all_machine r_all_machine_cache r_planner r_planner_shapeNow r_checker r_checker_trial r_checker_trial_cache r_checker_planner r_checker_planner_shapeNow r_checker_walk F_t F_all F_all_machine F_planner F_planner_shapeNow F_checker F_checker_trial F_checker_planner F_checker_planner_shapeNow kq cI a_all_machine_cache_media a_all_machine_cache_stores a_all_machine_cache_held a_all_machine_cache_asked a_all_machine_micros a_all_machine_before a_all_machine_after a_all_machine_waiting a_all_machine_tallies a_planner_words a_planner_addresses a_planner_numbers a_planner_olds a_checker_trial_cache_media a_checker_trial_cache_stores a_checker_trial_cache_held a_checker_trial_cache_asked a_checker_trial_micros a_checker_trial_before a_checker_trial_after a_checker_trial_waiting a_checker_trial_tallies a_checker_planner_words a_checker_planner_addresses a_checker_planner_numbers a_checker_planner_olds a_checker_walk_row a_checker_walk_picture a_checker_walk_settled) Rr.1 (w_X11_needless h_t r_t r_all r_all_machine r_all_machine_cache r_planner r_planner_shapeNow r_checker r_checker_trial r_checker_trial_cache r_checker_planner r_checker_planner_shapeNow r_checker_walk F_t F_all F_all_machine Rr.2.1 Rr.2.2.1 Rr.2.2.2.1 Rr.2.2.2.2.1 Rr.2.2.2.2.2.1 Rr.2.2.2.2.2.2.1 kq cI a_all_machine_cache_media a_all_machine_cache_stores a_all_machine_cache_held a_all_machine_cache_asked a_all_machine_micros a_all_machine_before a_all_machine_after a_all_machine_waiting a_all_machine_tallies Rr.2.2.2.2.2.2.2.1 Rr.2.2.2.2.2.2.2.2.1 Rr.2.2.2.2.2.2.2.2.2.1 Rr.2.2.2.2.2.2.2.2.2.2.1 Rr.2.2.2.2.2.2.2.2.2.2.2.1 Rr.2.2.2.2.2.2.2.2.2.2.2.2.1 Rr.2.2.2.2.2.2.2.2.2.2.2.2.2.1 Rr.2.2.2.2.2.2.2.2.2.2.2.2.2.2.1 Rr.2.2.2.2.2.2.2.2.2.2.2.2.2.2.2.1 Rr.2.2.2.2.2.2.2.2.2.2.2.2.2.2.2.2.1 Rr.2.2.2.2.2.2.2.2.2.2.2.2.2.2.2.2.2.1 Rr.2.2.2.2.2.2.2.2.2.2.2.2.2.2.2.2.2.2.1 Rr.2.2.2.2.2.2.2.2.2.2.2.2.2.2.2.2.2.2.2.1 Rr.2.2.2.2.2.2.2.2.2.2.2.2.2.2.2.2.2.2.2.2.1 Rr.2.2.2.2.2.2.2.2.2.2.2.2.2.2.2.2.2.2.2.2.2.1 Rr.2.2.2.2.2.2.2.2.2.2.2.2.2.2.2.2.2.2.2.2.2.2.1 Rr.2.2.2.2.2.2.2.2.2.2.2.2.2.2.2.2.2.2.2.2.2.2.2.1 Rr.2.2.2.2.2.2.2.2.2.2.2.2.2.2.2.2.2.2.2.2.2.2.2.2.1 Rr.2.2.2.2.2.2.2.2.2.2.2.2.2.2.2.2.2.2.2.2.2.2.2.2.2.1 Rr.2.2.2.2.2.2.2.2.2.2.2.2.2.2.2.2.2.2.2.2.2.2.2.2.2.2) := by
  refine z_begin_i (own := RX11) (ρ := Int32 × (Nat → Int32) × (Nat → Int32) × (Nat → Int32) × (Nat → Int32) × (Nat → Int32) × (Nat → Int32) × (Nat → Int32) × (Nat → Int32) × (Nat → Int32) × (Nat → Int32) × (Nat → Int32) × (Nat → Int32) × (Nat → Int32) × (Nat → Int32) × (Nat → Int32) × (Nat → Int32) × (Nat → Int32) × (Nat → Int32) × (Nat → Int32) × (Nat → Int32) × (Nat → Int32) × (Nat → Int32) × (Nat → Int32) × (Nat → Int32) × (Nat → Int32) × (Nat → Int32)) (fun u => w_X11_needless h_t r_t r_all r_all_machine r_all_machine_cache r_planner r_planner_shapeNow r_checker r_checker_trial r_checker_trial_cache r_checker_planner r_checker_planner_shapeNow r_checker_walk F_t F_all F_all_machine u.2.1 u.2.2.1 u.2.2.2.1 u.2.2.2.2.1 u.2.2.2.2.2.1 u.2.2.2.2.2.2.1 kq cI a_all_machine_cache_media a_all_machine_cache_stores a_all_machine_cache_held a_all_machine_cache_asked a_all_machine_micros a_all_machine_before a_all_machine_after a_all_machine_waiting a_all_machine_tallies u.2.2.2.2.2.2.2.1 u.2.2.2.2.2.2.2.2.1 u.2.2.2.2.2.2.2.2.2.1 u.2.2.2.2.2.2.2.2.2.2.1 u.2.2.2.2.2.2.2.2.2.2.2.1 u.2.2.2.2.2.2.2.2.2.2.2.2.1 u.2.2.2.2.2.2.2.2.2.2.2.2.2.1 u.2.2.2.2.2.2.2.2.2.2.2.2.2.2.1 u.2.2.2.2.2.2.2.2.2.2.2.2.2.2.2.1 u.2.2.2.2.2.2.2.2.2.2.2.2.2.2.2.2.1 u.2.2.2.2.2.2.2.2.2.2.2.2.2.2.2.2.2.1 u.2.2.2.2.2.2.2.2.2.2.2.2.2.2.2.2.2.2.1 u.2.2.2.2.2.2.2.2.2.2.2.2.2.2.2.2.2.2.2.1 u.2.2.2.2.2.2.2.2.2.2.2.2.2.2.2.2.2.2.2.2.1 u.2.2.2.2.2.2.2.2.2.2.2.2.2.2.2.2.2.2.2.2.2.1 u.2.2.2.2.2.2.2.2.2.2.2.2.2.2.2.2.2.2.2.2.2.2.1 u.2.2.2.2.2.2.2.2.2.2.2.2.2.2.2.2.2.2.2.2.2.2.2.1 u.2.2.2.2.2.2.2.2.2.2.2.2.2.2.2.2.2.2.2.2.2.2.2.2.1 u.2.2.2.2.2.2.2.2.2.2.2.2.2.2.2.2.2.2.2.2.2.2.2.2.2.1 u.2.2.2.2.2.2.2.2.2.2.2.2.2.2.2.2.2.2.2.2.2.2.2.2.2.2) (fun u => u.1) (by decide +kernel) rfl (Nat.le_of_ble_eq_true rfl) ?_
  intro p e s m args below meth c ls Q A hx hb hml hts hcx hown hK hX hA hP hD hS hl hret
  have hl : lv_has ls 5 [(0, .ref h_t)] := hl
  have hf := (m_X11_needless.eq_1 _ _ _ _ _ _ _ _ _ _ _ _ _ _ _ _ _ _ _ _ _ _ _ _ _ _ _ _ _ _ _ _ _ _ _ _).symm.trans hf
  have L25 : ∀ (n25 : Nat) (x2 : Int32) (x3 : Int32) (F_planner : Nat → Int32) (F_planner_shapeNow : Nat → Int32) (F_checker : Nat → Int32) (F_checker_trial : Nat → Int32) (F_checker_planner : Nat → Int32) (F_checker_planner_shapeNow : Nat → Int32) (a_planner_words : Nat → Int32) (a_planner_addresses : Nat → Int32) (a_planner_numbers : Nat → Int32) (a_planner_olds : Nat → Int32) (a_checker_trial_cache_media : Nat → Int32) (a_checker_trial_cache_stores : Nat → Int32) (a_checker_trial_cache_held : Nat → Int32) (a_checker_trial_cache_asked : Nat → Int32) (a_checker_trial_micros : Nat → Int32) (a_checker_trial_before : Nat → Int32) (a_checker_trial_after : Nat → Int32) (a_checker_trial_waiting : Nat → Int32) (a_checker_trial_tallies : Nat → Int32) (a_checker_planner_words : Nat → Int32) (a_checker_planner_addresses : Nat → Int32) (a_checker_planner_numbers : Nat → Int32) (a_checker_planner_olds : Nat → Int32) (a_checker_walk_row : Nat → Int32) (a_checker_walk_picture : Nat → Int32) (a_checker_walk_settled : Nat → Int32) (H : Heap) (locs : List Loc) (ls : Array Slot), m_X11_needless_w25 F_all_machine a_all_machine_cache_media a_all_machine_cache_stores a_all_machine_cache_held a_all_machine_cache_asked a_all_machine_micros a_all_machine_before a_all_machine_after a_all_machine_waiting a_all_machine_tallies n25 x2 x3 F_planner F_planner_shapeNow F_checker F_checker_trial F_checker_planner F_checker_planner_shapeNow a_planner_words a_planner_addresses a_planner_numbers a_planner_olds a_checker_trial_cache_media a_checker_trial_cache_stores a_checker_trial_cache_held a_checker_trial_cache_asked a_checker_trial_micros a_checker_trial_before a_checker_trial_after a_checker_trial_waiting a_checker_trial_tallies a_checker_planner_words a_checker_planner_addresses a_checker_planner_numbers a_checker_planner_olds a_checker_walk_row a_checker_walk_picture a_checker_walk_settled = some Rr → va_P D vwCl (w_X11_needless h_t r_t r_all r_all_machine r_all_machine_cache r_planner r_planner_shapeNow r_checker r_checker_trial r_checker_trial_cache r_checker_planner r_checker_planner_shapeNow r_checker_walk F_t F_all F_all_machine F_planner F_planner_shapeNow F_checker F_checker_trial F_checker_planner F_checker_planner_shapeNow kq cI a_all_machine_cache_media a_all_machine_cache_stores a_all_machine_cache_held a_all_machine_cache_asked a_all_machine_micros a_all_machine_before a_all_machine_after a_all_machine_waiting a_all_machine_tallies a_planner_words a_planner_addresses a_planner_numbers a_planner_olds a_checker_trial_cache_media a_checker_trial_cache_stores a_checker_trial_cache_held a_checker_trial_cache_asked a_checker_trial_micros a_checker_trial_before a_checker_trial_after a_checker_trial_waiting a_checker_trial_tallies a_checker_planner_words a_checker_planner_addresses a_checker_planner_numbers a_checker_planner_olds a_checker_walk_row a_checker_walk_picture a_checker_walk_settled) H → va_D A (w_X11_needless h_t r_t r_all r_all_machine r_all_machine_cache r_planner r_planner_shapeNow r_checker r_checker_trial r_checker_trial_cache r_checker_planner r_checker_planner_shapeNow r_checker_walk F_t F_all F_all_machine F_planner F_planner_shapeNow F_checker F_checker_trial F_checker_planner F_checker_planner_shapeNow kq cI a_all_machine_cache_media a_all_machine_cache_stores a_all_machine_cache_held a_all_machine_cache_asked a_all_machine_micros a_all_machine_before a_all_machine_after a_all_machine_waiting a_all_machine_tallies a_planner_words a_planner_addresses a_planner_numbers a_planner_olds a_checker_trial_cache_media a_checker_trial_cache_stores a_checker_trial_cache_held a_checker_trial_cache_asked a_checker_trial_micros a_checker_trial_before a_checker_trial_after a_checker_trial_waiting a_checker_trial_tallies a_checker_planner_words a_checker_planner_addresses a_checker_planner_numbers a_checker_planner_olds a_checker_walk_row a_checker_walk_picture a_checker_walk_settled) → va_S A s.heap H locs → lv_has ls 5 [(0, .ref h_t), (1, .ref (r_all 0)), (2, .int x2), (3, .int x3)] → W p l e rm_X11_needless s m args below meth c H locs 0 0 Q (F0 m 25 ls []) := by
    intro n25
    induction n25 with
    | zero => intro x2 x3 F_planner F_planner_shapeNow F_checker F_checker_trial F_checker_planner F_checker_planner_shapeNow a_planner_words a_planner_addresses a_planner_numbers a_planner_olds a_checker_trial_cache_media a_checker_trial_cache_stores a_checker_trial_cache_held a_checker_trial_cache_asked a_checker_trial_micros a_checker_trial_before a_checker_trial_after a_checker_trial_waiting a_checker_trial_tallies a_checker_planner_words a_checker_planner_addresses a_checker_planner_numbers a_checker_planner_olds a_checker_walk_row a_checker_walk_picture a_checker_walk_settled H locs ls hf; cases (show (none : Option _) = some Rr from hf)
    | succ n25 ih25 =>
      intro x2 x3 F_planner F_planner_shapeNow F_checker F_checker_trial F_checker_planner F_checker_planner_shapeNow a_planner_words a_planner_addresses a_planner_numbers a_planner_olds a_checker_trial_cache_media a_checker_trial_cache_stores a_checker_trial_cache_held a_checker_trial_cache_asked a_checker_trial_micros a_checker_trial_before a_checker_trial_after a_checker_trial_waiting a_checker_trial_tallies a_checker_planner_words a_checker_planner_addresses a_checker_planner_numbers a_checker_planner_olds a_checker_walk_row a_checker_walk_picture a_checker_walk_settled H locs ls hf hP hD hS hl
      have hf := (m_X11_needless_w25.eq_2 _ _ _ _ _ _ _ _ _ _ _ _ _ _ _ _ _ _ _ _ _ _ _ _ _ _ _ _ _ _ _ _ _ _ _ _ _ _ _).symm.trans hf
      have L81 : ∀ (x2 : Int32) (x3 : Int32) (F_planner : Nat → Int32) (F_planner_shapeNow : Nat → Int32) (F_checker : Nat → Int32) (F_checker_trial : Nat → Int32) (F_checker_planner : Nat → Int32) (F_checker_planner_shapeNow : Nat → Int32) (a_planner_words : Nat → Int32) (a_planner_addresses : Nat → Int32) (a_planner_numbers : Nat → Int32) (a_planner_olds : Nat → Int32) (a_checker_trial_cache_media : Nat → Int32) (a_checker_trial_cache_stores : Nat → Int32) (a_checker_trial_cache_held : Nat → Int32) (a_checker_trial_cache_asked : Nat → Int32) (a_checker_trial_micros : Nat → Int32) (a_checker_trial_before : Nat → Int32) (a_checker_trial_after : Nat → Int32) (a_checker_trial_waiting : Nat → Int32) (a_checker_trial_tallies : Nat → Int32) (a_checker_planner_words : Nat → Int32) (a_checker_planner_addresses : Nat → Int32) (a_checker_planner_numbers : Nat → Int32) (a_checker_planner_olds : Nat → Int32) (a_checker_walk_row : Nat → Int32) (a_checker_walk_picture : Nat → Int32) (a_checker_walk_settled : Nat → Int32) (H : Heap) (locs : List Loc) (ls : Array Slot), m_X11_needless_j81 F_all_machine a_all_machine_cache_media a_all_machine_cache_stores a_all_machine_cache_held a_all_machine_cache_asked a_all_machine_micros a_all_machine_before a_all_machine_after a_all_machine_waiting a_all_machine_tallies (m_X11_needless_w25 F_all_machine a_all_machine_cache_media a_all_machine_cache_stores a_all_machine_cache_held a_all_machine_cache_asked a_all_machine_micros a_all_machine_before a_all_machine_after a_all_machine_waiting a_all_machine_tallies n25) x2 x3 F_planner F_planner_shapeNow F_checker F_checker_trial F_checker_planner F_checker_planner_shapeNow a_planner_words a_planner_addresses a_planner_numbers a_planner_olds a_checker_trial_cache_media a_checker_trial_cache_stores a_checker_trial_cache_held a_checker_trial_cache_asked a_checker_trial_micros a_checker_trial_before a_checker_trial_after a_checker_trial_waiting a_checker_trial_tallies a_checker_planner_words a_checker_planner_addresses a_checker_planner_numbers a_checker_planner_olds a_checker_walk_row a_checker_walk_picture a_checker_walk_settled = some Rr → va_P D vwCl (w_X11_needless h_t r_t r_all r_all_machine r_all_machine_cache r_planner r_planner_shapeNow r_checker r_checker_trial r_checker_trial_cache r_checker_planner r_checker_planner_shapeNow r_checker_walk F_t F_all F_all_machine F_planner F_planner_shapeNow F_checker F_checker_trial F_checker_planner F_checker_planner_shapeNow kq cI a_all_machine_cache_media a_all_machine_cache_stores a_all_machine_cache_held a_all_machine_cache_asked a_all_machine_micros a_all_machine_before a_all_machine_after a_all_machine_waiting a_all_machine_tallies a_planner_words a_planner_addresses a_planner_numbers a_planner_olds a_checker_trial_cache_media a_checker_trial_cache_stores a_checker_trial_cache_held a_checker_trial_cache_asked a_checker_trial_micros a_checker_trial_before a_checker_trial_after a_checker_trial_waiting a_checker_trial_tallies a_checker_planner_words a_checker_planner_addresses a_checker_planner_numbers a_checker_planner_olds a_checker_walk_row a_checker_walk_picture a_checker_walk_settled) H → va_D A (w_X11_needless h_t r_t r_all r_all_machine r_all_machine_cache r_planner r_planner_shapeNow r_checker r_checker_trial r_checker_trial_cache r_checker_planner r_checker_planner_shapeNow r_checker_walk F_t F_all F_all_machine F_planner F_planner_shapeNow F_checker F_checker_trial F_checker_planner F_checker_planner_shapeNow kq cI a_all_machine_cache_media a_all_machine_cache_stores a_all_machine_cache_held a_all_machine_cache_asked a_all_machine_micros a_all_machine_before a_all_machine_after a_all_machine_waiting a_all_machine_tallies a_planner_words a_planner_addresses a_planner_numbers a_planner_olds a_checker_trial_cache_media a_checker_trial_cache_stores a_checker_trial_cache_held a_checker_trial_cache_asked a_checker_trial_micros a_checker_trial_before a_checker_trial_after a_checker_trial_waiting a_checker_trial_tallies a_checker_planner_words a_checker_planner_addresses a_checker_planner_numbers a_checker_planner_olds a_checker_walk_row a_checker_walk_picture a_checker_walk_settled) → va_S A s.heap H locs → lv_has ls 5 [(0, .ref h_t), (1, .ref (r_all 0)), (2, .int x2), (3, .int x3)] → W p l e rm_X11_needless s m args below meth c H locs 0 0 Q (F0 m 81 ls []) := by
        intro x2 x3 F_planner F_planner_shapeNow F_checker F_checker_trial F_checker_planner F_checker_planner_shapeNow a_planner_words a_planner_addresses a_planner_numbers a_planner_olds a_checker_trial_cache_media a_checker_trial_cache_stores a_checker_trial_cache_held a_checker_trial_cache_asked a_checker_trial_micros a_checker_trial_before a_checker_trial_after a_checker_trial_waiting a_checker_trial_tallies a_checker_planner_words a_checker_planner_addresses a_checker_planner_numbers a_checker_planner_olds a_checker_walk_row a_checker_walk_picture a_checker_walk_settled H locs ls hf hP hD hS hl
        have hf := (m_X11_needless_j81.eq_1 _ _ _ _ _ _ _ _ _ _ _ _ _ _ _ _ _ _ _ _ _ _ _ _ _ _ _ _ _ _ _ _ _ _ _ _ _ _ _).symm.trans hf
        refine z_iinc (k0 := 3) (fun z => [(3, .int z), (0, .ref h_t), (1, .ref (r_all 0)), (2, .int x2)]) hx hb dX11_needless_81 hl rfl (by decide) (by decide) (fun _ => rfl) hf (fun v3 ls hf hl => ?_)
        refine lv_goto (tgt := 25) hx hb dX11_needless_84 (by decide) ?_
        exact ih25 x2 v3 F_planner F_planner_shapeNow F_checker F_checker_trial F_checker_planner F_checker_planner_shapeNow a_planner_words a_planner_addresses a_planner_numbers a_planner_olds a_checker_trial_cache_media a_checker_trial_cache_stores a_checker_trial_cache_held a_checker_trial_cache_asked a_checker_trial_micros a_checker_trial_before a_checker_trial_after a_checker_trial_waiting a_checker_trial_tallies a_checker_planner_words a_checker_planner_addresses a_checker_planner_numbers a_checker_planner_olds a_checker_walk_row a_checker_walk_picture a_checker_walk_settled _ _ _ hf hP hD hS (lv_sub hl [1, 2, 3, 0] rfl)
      have L79 : ∀ (x3 : Int32) (s0 : Int32) (s1 : Int32) (F_planner : Nat → Int32) (F_planner_shapeNow : Nat → Int32) (F_checker : Nat → Int32) (F_checker_trial : Nat → Int32) (F_checker_planner : Nat → Int32) (F_checker_planner_shapeNow : Nat → Int32) (a_planner_words : Nat → Int32) (a_planner_addresses : Nat → Int32) (a_planner_numbers : Nat → Int32) (a_planner_olds : Nat → Int32) (a_checker_trial_cache_media : Nat → Int32) (a_checker_trial_cache_stores : Nat → Int32) (a_checker_trial_cache_held : Nat → Int32) (a_checker_trial_cache_asked : Nat → Int32) (a_checker_trial_micros : Nat → Int32) (a_checker_trial_before : Nat → Int32) (a_checker_trial_after : Nat → Int32) (a_checker_trial_waiting : Nat → Int32) (a_checker_trial_tallies : Nat → Int32) (a_checker_planner_words : Nat → Int32) (a_checker_planner_addresses : Nat → Int32) (a_checker_planner_numbers : Nat → Int32) (a_checker_planner_olds : Nat → Int32) (a_checker_walk_row : Nat → Int32) (a_checker_walk_picture : Nat → Int32) (a_checker_walk_settled : Nat → Int32) (H : Heap) (locs : List Loc) (ls : Array Slot), m_X11_needless_j79 F_all_machine a_all_machine_cache_media a_all_machine_cache_stores a_all_machine_cache_held a_all_machine_cache_asked a_all_machine_micros a_all_machine_before a_all_machine_after a_all_machine_waiting a_all_machine_tallies (m_X11_needless_w25 F_all_machine a_all_machine_cache_media a_all_machine_cache_stores a_all_machine_cache_held a_all_machine_cache_asked a_all_machine_micros a_all_machine_before a_all_machine_after a_all_machine_waiting a_all_machine_tallies n25) x3 s0 s1 F_planner F_planner_shapeNow F_checker F_checker_trial F_checker_planner F_checker_planner_shapeNow a_planner_words a_planner_addresses a_planner_numbers a_planner_olds a_checker_trial_cache_media a_checker_trial_cache_stores a_checker_trial_cache_held a_checker_trial_cache_asked a_checker_trial_micros a_checker_trial_before a_checker_trial_after a_checker_trial_waiting a_checker_trial_tallies a_checker_planner_words a_checker_planner_addresses a_checker_planner_numbers a_checker_planner_olds a_checker_walk_row a_checker_walk_picture a_checker_walk_settled = some Rr → va_P D vwCl (w_X11_needless h_t r_t r_all r_all_machine r_all_machine_cache r_planner r_planner_shapeNow r_checker r_checker_trial r_checker_trial_cache r_checker_planner r_checker_planner_shapeNow r_checker_walk F_t F_all F_all_machine F_planner F_planner_shapeNow F_checker F_checker_trial F_checker_planner F_checker_planner_shapeNow kq cI a_all_machine_cache_media a_all_machine_cache_stores a_all_machine_cache_held a_all_machine_cache_asked a_all_machine_micros a_all_machine_before a_all_machine_after a_all_machine_waiting a_all_machine_tallies a_planner_words a_planner_addresses a_planner_numbers a_planner_olds a_checker_trial_cache_media a_checker_trial_cache_stores a_checker_trial_cache_held a_checker_trial_cache_asked a_checker_trial_micros a_checker_trial_before a_checker_trial_after a_checker_trial_waiting a_checker_trial_tallies a_checker_planner_words a_checker_planner_addresses a_checker_planner_numbers a_checker_planner_olds a_checker_walk_row a_checker_walk_picture a_checker_walk_settled) H → va_D A (w_X11_needless h_t r_t r_all r_all_machine r_all_machine_cache r_planner r_planner_shapeNow r_checker r_checker_trial r_checker_trial_cache r_checker_planner r_checker_planner_shapeNow r_checker_walk F_t F_all F_all_machine F_planner F_planner_shapeNow F_checker F_checker_trial F_checker_planner F_checker_planner_shapeNow kq cI a_all_machine_cache_media a_all_machine_cache_stores a_all_machine_cache_held a_all_machine_cache_asked a_all_machine_micros a_all_machine_before a_all_machine_after a_all_machine_waiting a_all_machine_tallies a_planner_words a_planner_addresses a_planner_numbers a_planner_olds a_checker_trial_cache_media a_checker_trial_cache_stores a_checker_trial_cache_held a_checker_trial_cache_asked a_checker_trial_micros a_checker_trial_before a_checker_trial_after a_checker_trial_waiting a_checker_trial_tallies a_checker_planner_words a_checker_planner_addresses a_checker_planner_numbers a_checker_planner_olds a_checker_walk_row a_checker_walk_picture a_checker_walk_settled) → va_S A s.heap H locs → lv_has ls 5 [(0, .ref h_t), (1, .ref (r_all 0)), (3, .int x3)] → W p l e rm_X11_needless s m args below meth c H locs 0 0 Q (F0 m 79 ls [.int s1, .int s0]) := by
        intro x3 s0 s1 F_planner F_planner_shapeNow F_checker F_checker_trial F_checker_planner F_checker_planner_shapeNow a_planner_words a_planner_addresses a_planner_numbers a_planner_olds a_checker_trial_cache_media a_checker_trial_cache_stores a_checker_trial_cache_held a_checker_trial_cache_asked a_checker_trial_micros a_checker_trial_before a_checker_trial_after a_checker_trial_waiting a_checker_trial_tallies a_checker_planner_words a_checker_planner_addresses a_checker_planner_numbers a_checker_planner_olds a_checker_walk_row a_checker_walk_picture a_checker_walk_settled H locs ls hf hP hD hS hl
        have hf := (m_X11_needless_j79.eq_1 _ _ _ _ _ _ _ _ _ _ _ _ _ _ _ _ _ _ _ _ _ _ _ _ _ _ _ _ _ _ _ _ _ _ _ _ _ _ _ _).symm.trans hf
        refine lv_ior hx hb dX11_needless_79 ?_
        refine z_istore_n (fun z => [(2, .int z), (0, .ref h_t), (1, .ref (r_all 0)), (3, .int x3)]) hx hb dX11_needless_80 rfl hl (by decide) (fun _ => rfl) hf (fun v6 ls hf hl => ?_)
        exact L81 v6 x3 F_planner F_planner_shapeNow F_checker F_checker_trial F_checker_planner F_checker_planner_shapeNow a_planner_words a_planner_addresses a_planner_numbers a_planner_olds a_checker_trial_cache_media a_checker_trial_cache_stores a_checker_trial_cache_held a_checker_trial_cache_asked a_checker_trial_micros a_checker_trial_before a_checker_trial_after a_checker_trial_waiting a_checker_trial_tallies a_checker_planner_words a_checker_planner_addresses a_checker_planner_numbers a_checker_planner_olds a_checker_walk_row a_checker_walk_picture a_checker_walk_settled _ _ _ hf hP hD hS (lv_sub hl [1, 2, 0, 3] rfl)
      refine lv_iload_n hx hb dX11_needless_25 rfl (lv_at hl 3 rfl) ?_
      refine lv_bipush (v := 7) hx hb dX11_needless_26 (by decide) ?_
      refine z_icmp_ge (tgt := 87) hx hb dX11_needless_28 (by decide) hf (fun hf => ?_) (fun hf => ?_)
      · refine lv_iload_n hx hb dX11_needless_87 rfl (lv_at hl 2 rfl) ?_
        exact hret (x2, F_planner, F_planner_shapeNow, F_checker, F_checker_trial, F_checker_planner, F_checker_planner_shapeNow, a_planner_words, a_planner_addresses, a_planner_numbers, a_planner_olds, a_checker_trial_cache_media, a_checker_trial_cache_stores, a_checker_trial_cache_held, a_checker_trial_cache_asked, a_checker_trial_micros, a_checker_trial_before, a_checker_trial_after, a_checker_trial_waiting, a_checker_trial_tallies, a_checker_planner_words, a_checker_planner_addresses, a_checker_planner_numbers, a_checker_planner_olds, a_checker_walk_row, a_checker_walk_picture, a_checker_walk_settled) _ _ _ _ hf hP hD hS dX11_needless_88
      · refine lv_aload_n hx hb dX11_needless_31 rfl (lv_at hl 1 rfl) ?_
        refine z_get (ci := 4) (C := RX4) (T := TX4) (N := 12) (v := .int (F_all_machine 10)) hx hb hts inT_X4 hown hK hP 2 rfl rfl 10 (by decide) tf_X11_121 rfl dX11_needless_32 ?_
        refine lv_iconst (v := 1) hx hb dX11_needless_35 (by decide) ?_
        refine lv_iload_n hx hb dX11_needless_36 rfl (lv_at hl 3 rfl) ?_
        refine lv_ishl hx hb dX11_needless_37 ?_
        refine lv_ior hx hb dX11_needless_38 ?_
        refine z_istore (fun z => [(4, .int z), (0, .ref h_t), (1, .ref (r_all 0)), (2, .int x2), (3, .int x3)]) hx hb dX11_needless_39 hl (by decide) (fun _ => rfl) hf (fun v2 ls hf hl => ?_)
        refine lv_iload hx hb dX11_needless_41 (lv_at hl 0 rfl) ?_
        refine lv_aload_n hx hb dX11_needless_43 rfl (lv_at hl 2 rfl) ?_
        refine z_get (ci := 4) (C := RX4) (T := TX4) (N := 12) (v := .int (F_all_machine 10)) hx hb hts inT_X4 hown hK hP 2 rfl rfl 10 (by decide) tf_X11_121 rfl dX11_needless_44 ?_
        refine z_icmp_eq (tgt := 81) hx hb dX11_needless_47 (by decide) hf (fun hf => ?_) (fun hf => ?_)
        · exact L81 x2 x3 F_planner F_planner_shapeNow F_checker F_checker_trial F_checker_planner F_checker_planner_shapeNow a_planner_words a_planner_addresses a_planner_numbers a_planner_olds a_checker_trial_cache_media a_checker_trial_cache_stores a_checker_trial_cache_held a_checker_trial_cache_asked a_checker_trial_micros a_checker_trial_before a_checker_trial_after a_checker_trial_waiting a_checker_trial_tallies a_checker_planner_words a_checker_planner_addresses a_checker_planner_numbers a_checker_planner_olds a_checker_walk_row a_checker_walk_picture a_checker_walk_settled _ _ _ hf hP hD hS (lv_sub hl [1, 2, 3, 4] rfl)
        · refine lv_aload_n hx hb dX11_needless_50 rfl (lv_at hl 1 rfl) ?_
          refine z_get (ci := 11) (C := RX11) (T := TX11) (N := 13) (v := .ref (r_t 10)) hx hb hts inT_X11 hown hK hP 0 rfl rfl 10 (by decide) tf_X11_65 rfl dX11_needless_51 ?_
          refine lv_aload_n hx hb dX11_needless_54 rfl (lv_at hl 2 rfl) ?_
          refine lv_iload hx hb dX11_needless_55 (lv_at hl 0 rfl) ?_
          refine lv_iconst (v := 1) hx hb dX11_needless_57 (by decide) ?_
          obtain ⟨u4, hu4, hf⟩ := bd_some hf
          refine z_cv (ws1 := w_X11_needless h_t r_t r_all r_all_machine r_all_machine_cache r_planner r_planner_shapeNow r_checker r_checker_trial r_checker_trial_cache r_checker_planner r_checker_planner_shapeNow r_checker_walk F_t F_all F_all_machine F_planner F_planner_shapeNow u4.1 u4.2.1 u4.2.2.1 u4.2.2.2.1 kq cI a_all_machine_cache_media a_all_machine_cache_stores a_all_machine_cache_held a_all_machine_cache_asked a_all_machine_micros a_all_machine_before a_all_machine_after a_all_machine_waiting a_all_machine_tallies a_planner_words a_planner_addresses a_planner_numbers a_planner_olds u4.2.2.2.2.1 u4.2.2.2.2.2.1 u4.2.2.2.2.2.2.1 u4.2.2.2.2.2.2.2.1 u4.2.2.2.2.2.2.2.2.1 u4.2.2.2.2.2.2.2.2.2.1 u4.2.2.2.2.2.2.2.2.2.2.1 u4.2.2.2.2.2.2.2.2.2.2.2.1 u4.2.2.2.2.2.2.2.2.2.2.2.2.1 u4.2.2.2.2.2.2.2.2.2.2.2.2.2.1 u4.2.2.2.2.2.2.2.2.2.2.2.2.2.2.1 u4.2.2.2.2.2.2.2.2.2.2.2.2.2.2.2.1 u4.2.2.2.2.2.2.2.2.2.2.2.2.2.2.2.2.1 u4.2.2.2.2.2.2.2.2.2.2.2.2.2.2.2.2.2.1 u4.2.2.2.2.2.2.2.2.2.2.2.2.2.2.2.2.2.2.1 u4.2.2.2.2.2.2.2.2.2.2.2.2.2.2.2.2.2.2.2) (wr := List.filterMap (fun i : Nat => (w_X11_needless h_t r_t r_all r_all_machine r_all_machine_cache r_planner r_planner_shapeNow r_checker r_checker_trial r_checker_trial_cache r_checker_planner r_checker_planner_shapeNow r_checker_walk F_t F_all F_all_machine F_planner F_planner_shapeNow F_checker F_checker_trial F_checker_planner F_checker_planner_shapeNow kq cI a_all_machine_cache_media a_all_machine_cache_stores a_all_machine_cache_held a_all_machine_cache_asked a_all_machine_micros a_all_machine_before a_all_machine_after a_all_machine_waiting a_all_machine_tallies a_planner_words a_planner_addresses a_planner_numbers a_planner_olds a_checker_trial_cache_media a_checker_trial_cache_stores a_checker_trial_cache_held a_checker_trial_cache_asked a_checker_trial_micros a_checker_trial_before a_checker_trial_after a_checker_trial_waiting a_checker_trial_tallies a_checker_planner_words a_checker_planner_addresses a_checker_planner_numbers a_checker_planner_olds a_checker_walk_row a_checker_walk_picture a_checker_walk_settled)[i]?) [0, 1, 13, 14, 15, 16, 17, 18]) (z_rV (rest := []) hx hb hml hown hcx hl.1 (c_X2_run l D cI (r_t 10) (r_all 0) r_checker r_checker_trial r_checker_trial_cache r_checker_planner r_checker_planner_shapeNow r_checker_walk r_all_machine r_all_machine_cache F_checker F_checker_trial F_checker_planner F_checker_planner_shapeNow F_all_machine a_checker_trial_cache_media a_checker_trial_cache_stores a_checker_trial_cache_held a_checker_trial_cache_asked a_checker_trial_micros a_checker_trial_before a_checker_trial_after a_checker_trial_waiting a_checker_trial_tallies a_checker_planner_words a_checker_planner_addresses a_checker_planner_numbers a_checker_planner_olds a_checker_walk_row a_checker_walk_picture a_checker_walk_settled a_all_machine_cache_media a_all_machine_cache_stores a_all_machine_cache_held a_all_machine_cache_asked a_all_machine_micros a_all_machine_before a_all_machine_after a_all_machine_waiting a_all_machine_tallies v2 1 u4 hu4 _) tl_X11_299 ti_X2_run tz_X2_run tn_X2 tc_X2_run tm_X2_run rfl rfl ⟨Nat.le_of_ble_eq_true rfl, Nat.le_of_ble_eq_true rfl⟩ hK hX hS hA hP hD [19, 20, 21, 22, 23, 24, 25, 26, 27, 28, 29, 30, 31, 32, 33, 34, 35, 36, 37, 38, 39, 40, 2, 3, 4, 5, 6, 7, 8, 9, 10, 11, 12] rfl rfl 19 rfl rfl rfl rfl (Nat.le_of_ble_eq_true rfl) dX11_needless_58 ⟨Nat.zero_le _, Nat.zero_le _⟩) hP hD hS hA [19, 20, 21, 22, 23, 24, 25, 26, 27, 28, 29, 30, 31, 32, 33, 34, 35, 36, 37, 38, 39, 40, 2, 3, 4, 5, 6, 7, 8, 9, 10, 11, 12] [0, 1, 13, 14, 15, 16, 17, 18] [0, 1, 30, 31, 32, 33, 34, 35, 36, 37, 38, 39, 40, 2, 3, 4, 5, 6, 7, 8, 9, 10, 11, 12, 13, 14, 15, 16, 17, 18, 19, 20, 21, 22, 23, 24, 25, 26, 27, 28, 29] rfl rfl rfl (by decide) rfl rfl (fun H locs hP hD hS => ?_)
          refine lv_iload_n hx hb dX11_needless_61 rfl (lv_at hl 3 rfl) ?_
          refine lv_aload_n hx hb dX11_needless_62 rfl (lv_at hl 1 rfl) ?_
          refine z_get (ci := 11) (C := RX11) (T := TX11) (N := 13) (v := .ref (r_t 10)) hx hb hts inT_X11 hown hK hP 0 rfl rfl 10 (by decide) tf_X11_65 rfl dX11_needless_63 ?_
          obtain ⟨u5, hu5, hf⟩ := bd_some hf
          refine z_ci (ws1 := w_X11_needless h_t r_t r_all r_all_machine r_all_machine_cache r_planner r_planner_shapeNow r_checker r_checker_trial r_checker_trial_cache r_checker_planner r_checker_planner_shapeNow r_checker_walk F_t F_all F_all_machine F_planner F_planner_shapeNow u4.1 u4.2.1 u4.2.2.1 u4.2.2.2.1 kq cI a_all_machine_cache_media a_all_machine_cache_stores a_all_machine_cache_held a_all_machine_cache_asked a_all_machine_micros a_all_machine_before a_all_machine_after a_all_machine_waiting a_all_machine_tallies a_planner_words a_planner_addresses a_planner_numbers a_planner_olds u4.2.2.2.2.1 u4.2.2.2.2.2.1 u4.2.2.2.2.2.2.1 u4.2.2.2.2.2.2.2.1 u4.2.2.2.2.2.2.2.2.1 u4.2.2.2.2.2.2.2.2.2.1 u4.2.2.2.2.2.2.2.2.2.2.1 u4.2.2.2.2.2.2.2.2.2.2.2.1 u4.2.2.2.2.2.2.2.2.2.2.2.2.1 u4.2.2.2.2.2.2.2.2.2.2.2.2.2.1 u4.2.2.2.2.2.2.2.2.2.2.2.2.2.2.1 u4.2.2.2.2.2.2.2.2.2.2.2.2.2.2.2.1 u4.2.2.2.2.2.2.2.2.2.2.2.2.2.2.2.2.1 u4.2.2.2.2.2.2.2.2.2.2.2.2.2.2.2.2.2.1 u4.2.2.2.2.2.2.2.2.2.2.2.2.2.2.2.2.2.2.1 u4.2.2.2.2.2.2.2.2.2.2.2.2.2.2.2.2.2.2.2) (wr := List.filterMap (fun i : Nat => (w_X11_needless h_t r_t r_all r_all_machine r_all_machine_cache r_planner r_planner_shapeNow r_checker r_checker_trial r_checker_trial_cache r_checker_planner r_checker_planner_shapeNow r_checker_walk F_t F_all F_all_machine F_planner F_planner_shapeNow u4.1 u4.2.1 u4.2.2.1 u4.2.2.2.1 kq cI a_all_machine_cache_media a_all_machine_cache_stores a_all_machine_cache_held a_all_machine_cache_asked a_all_machine_micros a_all_machine_before a_all_machine_after a_all_machine_waiting a_all_machine_tallies a_planner_words a_planner_addresses a_planner_numbers a_planner_olds u4.2.2.2.2.1 u4.2.2.2.2.2.1 u4.2.2.2.2.2.2.1 u4.2.2.2.2.2.2.2.1 u4.2.2.2.2.2.2.2.2.1 u4.2.2.2.2.2.2.2.2.2.1 u4.2.2.2.2.2.2.2.2.2.2.1 u4.2.2.2.2.2.2.2.2.2.2.2.1 u4.2.2.2.2.2.2.2.2.2.2.2.2.1 u4.2.2.2.2.2.2.2.2.2.2.2.2.2.1 u4.2.2.2.2.2.2.2.2.2.2.2.2.2.2.1 u4.2.2.2.2.2.2.2.2.2.2.2.2.2.2.2.1 u4.2.2.2.2.2.2.2.2.2.2.2.2.2.2.2.2.1 u4.2.2.2.2.2.2.2.2.2.2.2.2.2.2.2.2.2.1 u4.2.2.2.2.2.2.2.2.2.2.2.2.2.2.2.2.2.2.1 u4.2.2.2.2.2.2.2.2.2.2.2.2.2.2.2.2.2.2.2)[i]?) [0, 1, 2, 3, 4, 5, 6, 7, 8, 9, 10, 11, 12, 13, 14, 15, 16, 17, 18, 20, 21, 22, 23, 24, 25, 26, 27, 28, 29, 30, 31, 32, 33, 34, 35, 36, 37, 38, 39, 40]) (z_rV (rest := [.int x2]) hx hb hml hown hcx hl.1 (c_X2_isSound l D cI (r_t 10) r_checker u4.1 u5 hu5 _) tl_X11_318 ti_X2_isSound tz_X2_isSound tn_X2 tc_X2_isSound tm_X2_isSound rfl rfl ⟨Nat.le_of_ble_eq_true rfl, Nat.le_of_ble_eq_true rfl⟩ hK hX hS hA hP hD [19] rfl rfl 19 rfl rfl rfl rfl (Nat.le_of_ble_eq_true rfl) dX11_needless_66 ⟨Nat.zero_le _, Nat.zero_le _⟩) hP hD hS hA [19] [0, 1, 2, 3, 4, 5, 6, 7, 8, 9, 10, 11, 12, 13, 14, 15, 16, 17, 18, 20, 21, 22, 23, 24, 25, 26, 27, 28, 29, 30, 31, 32, 33, 34, 35, 36, 37, 38, 39, 40] [0, 1, 2, 3, 4, 5, 6, 7, 8, 9, 10, 11, 12, 13, 14, 15, 16, 17, 18, 40, 19, 20, 21, 22, 23, 24, 25, 26, 27, 28, 29, 30, 31, 32, 33, 34, 35, 36, 37, 38, 39] rfl rfl rfl (by decide) rfl rfl (fun H locs hP hD hS => ?_)
          refine z_if_eq (tgt := 78) hx hb dX11_needless_69 (by decide) hf (fun hf => ?_) (fun hf => ?_)
          · refine lv_iconst (v := 0) hx hb dX11_needless_78 (by decide) ?_
            exact L79 x3 x2 0 F_planner F_planner_shapeNow u4.1 u4.2.1 u4.2.2.1 u4.2.2.2.1 a_planner_words a_planner_addresses a_planner_numbers a_planner_olds u4.2.2.2.2.1 u4.2.2.2.2.2.1 u4.2.2.2.2.2.2.1 u4.2.2.2.2.2.2.2.1 u4.2.2.2.2.2.2.2.2.1 u4.2.2.2.2.2.2.2.2.2.1 u4.2.2.2.2.2.2.2.2.2.2.1 u4.2.2.2.2.2.2.2.2.2.2.2.1 u4.2.2.2.2.2.2.2.2.2.2.2.2.1 u4.2.2.2.2.2.2.2.2.2.2.2.2.2.1 u4.2.2.2.2.2.2.2.2.2.2.2.2.2.2.1 u4.2.2.2.2.2.2.2.2.2.2.2.2.2.2.2.1 u4.2.2.2.2.2.2.2.2.2.2.2.2.2.2.2.2.1 u4.2.2.2.2.2.2.2.2.2.2.2.2.2.2.2.2.2.1 u4.2.2.2.2.2.2.2.2.2.2.2.2.2.2.2.2.2.2.1 u4.2.2.2.2.2.2.2.2.2.2.2.2.2.2.2.2.2.2.2 _ _ _ hf hP hD hS (lv_sub hl [1, 2, 4] rfl)
          · refine lv_iconst (v := 1) hx hb dX11_needless_72 (by decide) ?_
            refine lv_iload_n hx hb dX11_needless_73 rfl (lv_at hl 4 rfl) ?_
            refine lv_ishl hx hb dX11_needless_74 ?_
            refine lv_goto (tgt := 79) hx hb dX11_needless_75 (by decide) ?_
            exact L79 x3 x2 ((1 : Int32) <<< (x3 &&& 31)) F_planner F_planner_shapeNow u4.1 u4.2.1 u4.2.2.1 u4.2.2.2.1 a_planner_words a_planner_addresses a_planner_numbers a_planner_olds u4.2.2.2.2.1 u4.2.2.2.2.2.1 u4.2.2.2.2.2.2.1 u4.2.2.2.2.2.2.2.1 u4.2.2.2.2.2.2.2.2.1 u4.2.2.2.2.2.2.2.2.2.1 u4.2.2.2.2.2.2.2.2.2.2.1 u4.2.2.2.2.2.2.2.2.2.2.2.1 u4.2.2.2.2.2.2.2.2.2.2.2.2.1 u4.2.2.2.2.2.2.2.2.2.2.2.2.2.1 u4.2.2.2.2.2.2.2.2.2.2.2.2.2.2.1 u4.2.2.2.2.2.2.2.2.2.2.2.2.2.2.2.1 u4.2.2.2.2.2.2.2.2.2.2.2.2.2.2.2.2.1 u4.2.2.2.2.2.2.2.2.2.2.2.2.2.2.2.2.2.1 u4.2.2.2.2.2.2.2.2.2.2.2.2.2.2.2.2.2.2.1 u4.2.2.2.2.2.2.2.2.2.2.2.2.2.2.2.2.2.2.2 _ _ _ hf hP hD hS (lv_sub hl [1, 2, 4] rfl)
  refine lv_aload_n hx hb dX11_needless_0 rfl (lv_at hl 0 rfl) ?_
  refine z_get (ci := 11) (C := RX11) (T := TX11) (N := 13) (v := .ref (r_t 3)) hx hb hts inT_X11 hown hK hP 0 rfl rfl 3 (by decide) tf_X11_23 rfl dX11_needless_1 ?_
  refine z_get (ci := 0) (C := RX0) (T := TX0) (N := 5) (v := .ref (r_all 0)) hx hb hts inT_X0 hown hK hP 1 rfl rfl 0 (by decide) tf_X11_112 rfl dX11_needless_4 ?_
  refine lv_astore_n (lv' := [(1, .ref (r_all 0)), (0, .ref h_t)]) hx hb dX11_needless_7 rfl hl (by decide) rfl (fun ls hl => ?_)
  refine lv_aload_n hx hb dX11_needless_8 rfl (lv_at hl 0 rfl) ?_
  refine lv_aload_n hx hb dX11_needless_9 rfl (lv_at hl 1 rfl) ?_
  refine z_get (ci := 11) (C := RX11) (T := TX11) (N := 13) (v := .ref (r_t 6)) hx hb hts inT_X11 hown hK hP 0 rfl rfl 6 (by decide) tf_X11_37 rfl dX11_needless_10 ?_
  obtain ⟨u1, hu1, hf⟩ := bd_some hf
  refine z_ci (ws1 := w_X11_needless h_t r_t r_all r_all_machine r_all_machine_cache r_planner r_planner_shapeNow r_checker r_checker_trial r_checker_trial_cache r_checker_planner r_checker_planner_shapeNow r_checker_walk F_t F_all F_all_machine u1.2.1 u1.2.2.1 F_checker F_checker_trial F_checker_planner F_checker_planner_shapeNow kq cI a_all_machine_cache_media a_all_machine_cache_stores a_all_machine_cache_held a_all_machine_cache_asked a_all_machine_micros a_all_machine_before a_all_machine_after a_all_machine_waiting a_all_machine_tallies u1.2.2.2.1 u1.2.2.2.2.1 u1.2.2.2.2.2.1 u1.2.2.2.2.2.2 a_checker_trial_cache_media a_checker_trial_cache_stores a_checker_trial_cache_held a_checker_trial_cache_asked a_checker_trial_micros a_checker_trial_before a_checker_trial_after a_checker_trial_waiting a_checker_trial_tallies a_checker_planner_words a_checker_planner_addresses a_checker_planner_numbers a_checker_planner_olds a_checker_walk_row a_checker_walk_picture a_checker_walk_settled) (wr := List.filterMap (fun i : Nat => (w_X11_needless h_t r_t r_all r_all_machine r_all_machine_cache r_planner r_planner_shapeNow r_checker r_checker_trial r_checker_trial_cache r_checker_planner r_checker_planner_shapeNow r_checker_walk F_t F_all F_all_machine F_planner F_planner_shapeNow F_checker F_checker_trial F_checker_planner F_checker_planner_shapeNow kq cI a_all_machine_cache_media a_all_machine_cache_stores a_all_machine_cache_held a_all_machine_cache_asked a_all_machine_micros a_all_machine_before a_all_machine_after a_all_machine_waiting a_all_machine_tallies a_planner_words a_planner_addresses a_planner_numbers a_planner_olds a_checker_trial_cache_media a_checker_trial_cache_stores a_checker_trial_cache_held a_checker_trial_cache_asked a_checker_trial_micros a_checker_trial_before a_checker_trial_after a_checker_trial_waiting a_checker_trial_tallies a_checker_planner_words a_checker_planner_addresses a_checker_planner_numbers a_checker_planner_olds a_checker_walk_row a_checker_walk_picture a_checker_walk_settled)[i]?) [0, 1, 7, 8, 9, 10, 12, 19, 20, 21, 22, 23, 24, 25, 26, 27, 28, 29, 30, 31, 32, 33, 34, 35, 36, 37, 38, 39, 40]) (z_rV (rest := []) hx hb hml hown hcx hl.1 (c_X4_isReady l D cI (r_all 0) (r_t 6) r_all_machine r_all_machine_cache r_planner r_planner_shapeNow F_all_machine F_planner F_planner_shapeNow a_all_machine_cache_media a_all_machine_cache_stores a_all_machine_cache_held a_all_machine_waiting a_planner_words a_planner_addresses a_planner_numbers a_planner_olds u1 hu1 _) tl_X11_315 ti_X4_isReady tz_X4_isReady tn_X4 tc_X4_isReady tm_X4_isReady rfl rfl ⟨Nat.le_of_ble_eq_true rfl, Nat.le_of_ble_eq_true rfl⟩ hK hX hS hA hP hD [2, 3, 4, 5, 6, 11, 13, 14, 15, 16, 17, 18] rfl rfl 2 rfl rfl rfl rfl (Nat.le_of_ble_eq_true rfl) dX11_needless_13 ⟨Nat.zero_le _, Nat.zero_le _⟩) hP hD hS hA [2, 3, 4, 5, 6, 11, 13, 14, 15, 16, 17, 18] [0, 1, 7, 8, 9, 10, 12, 19, 20, 21, 22, 23, 24, 25, 26, 27, 28, 29, 30, 31, 32, 33, 34, 35, 36, 37, 38, 39, 40] [0, 1, 29, 30, 31, 32, 33, 2, 3, 4, 5, 34, 6, 35, 36, 37, 38, 39, 40, 7, 8, 9, 10, 11, 12, 13, 14, 15, 16, 17, 18, 19, 20, 21, 22, 23, 24, 25, 26, 27, 28] rfl rfl rfl (by decide) rfl rfl (fun H locs hP hD hS => ?_)
  refine z_if_ne (tgt := 21) hx hb dX11_needless_16 (by decide) hf (fun hf => ?_) (fun hf => ?_)
  · refine lv_iconst (v := 0) hx hb dX11_needless_21 (by decide) ?_
    refine lv_istore_n (lv' := [(2, .int 0), (1, .ref (r_all 0)), (0, .ref h_t)]) hx hb dX11_needless_22 rfl hl (by decide) rfl (fun ls hl => ?_)
    refine lv_iconst (v := 0) hx hb dX11_needless_23 (by decide) ?_
    refine lv_istore_n (lv' := [(3, .int 0), (2, .int 0), (1, .ref (r_all 0)), (0, .ref h_t)]) hx hb dX11_needless_24 rfl hl (by decide) rfl (fun ls hl => ?_)
    exact L25 fuelN 0 0 u1.2.1 u1.2.2.1 F_checker F_checker_trial F_checker_planner F_checker_planner_shapeNow u1.2.2.2.1 u1.2.2.2.2.1 u1.2.2.2.2.2.1 u1.2.2.2.2.2.2 a_checker_trial_cache_media a_checker_trial_cache_stores a_checker_trial_cache_held a_checker_trial_cache_asked a_checker_trial_micros a_checker_trial_before a_checker_trial_after a_checker_trial_waiting a_checker_trial_tallies a_checker_planner_words a_checker_planner_addresses a_checker_planner_numbers a_checker_planner_olds a_checker_walk_row a_checker_walk_picture a_checker_walk_settled _ _ _ hf hP hD hS (lv_sub hl [3, 2, 1, 0] rfl)
  · refine lv_iconst (v := (-1)) hx hb dX11_needless_19 (by decide) ?_
    exact hret ((-1), u1.2.1, u1.2.2.1, F_checker, F_checker_trial, F_checker_planner, F_checker_planner_shapeNow, u1.2.2.2.1, u1.2.2.2.2.1, u1.2.2.2.2.2.1, u1.2.2.2.2.2.2, a_checker_trial_cache_media, a_checker_trial_cache_stores, a_checker_trial_cache_held, a_checker_trial_cache_asked, a_checker_trial_micros, a_checker_trial_before, a_checker_trial_after, a_checker_trial_waiting, a_checker_trial_tallies, a_checker_planner_words, a_checker_planner_addresses, a_checker_planner_numbers, a_checker_planner_olds, a_checker_walk_row, a_checker_walk_picture, a_checker_walk_settled) _ _ _ _ hf hP hD hS dX11_needless_20
abbrev w_J6_bitCount_0f7a4 (cI : ClassId) : va_W := []
abbrev rm_J6_bitCount_0f7a4 : Room := { frames := 0, cells := 0, slots := 0, locals := 0 }
def m_J6_bitCount_0f7a4 (p0 : Int32) : Option (Int32) :=
  nm (p0 - ((p0.toUInt32 >>> ((1 : Int32).toUInt32 &&& Int32.toUInt32 31)).toInt32 &&& 1431655765)) fun v1 =>
  nm ((v1 &&& 858993459) + ((v1.toUInt32 >>> ((2 : Int32).toUInt32 &&& Int32.toUInt32 31)).toInt32 &&& 858993459)) fun v2 =>
  nm ((v2 + (v2.toUInt32 >>> ((4 : Int32).toUInt32 &&& Int32.toUInt32 31)).toInt32) &&& 252645135) fun v3 =>
  nm (v3 + (v3.toUInt32 >>> ((8 : Int32).toUInt32 &&& Int32.toUInt32 31)).toInt32) fun v4 =>
  nm (v4 + (v4.toUInt32 >>> ((16 : Int32).toUInt32 &&& Int32.toUInt32 31)).toInt32) fun v5 =>
  some (v5 &&& 63)
set_option maxHeartbeats 4000000 in
set_option maxRecDepth 100000 in
theorem c_J6_bitCount_0f7a4 (l : Launch) (D : va_G) (cI : ClassId) (p0 : Int32) (Rr : Int32) (hf : m_J6_bitCount_0f7a4 p0 = some Rr) : CTi l yJ6_bitCount_0f7a4 (Cond.code yJ6_bitCount_0f7a4 cJ6_bitCount_0f7a4 1 (some .int)) rm_J6_bitCount_0f7a4 D cI [.int p0] (w_J6_bitCount_0f7a4 cI) Rr (w_J6_bitCount_0f7a4 cI) := by
  refine z_begin_i (own := RJ6) (ρ := Int32) (fun u => w_J6_bitCount_0f7a4 cI) (fun u => u) (by decide +kernel) rfl (Nat.le_of_ble_eq_true rfl) ?_
  intro p e s m args below meth c ls Q A hx hb hml hts hcx hown hK hX hA hP hD hS hl hret
  have hl : lv_has ls 1 [(0, .int p0)] := hl
  have hf := (m_J6_bitCount_0f7a4.eq_1 _).symm.trans hf
  refine lv_iload_n hx hb dJ6_bitCount_0f7a4_0 rfl (lv_at hl 0 rfl) ?_
  refine lv_iload_n hx hb dJ6_bitCount_0f7a4_1 rfl (lv_at hl 0 rfl) ?_
  refine lv_iconst (v := 1) hx hb dJ6_bitCount_0f7a4_2 (by decide) ?_
  refine lv_iushr hx hb dJ6_bitCount_0f7a4_3 rfl ?_
  refine lv_ldcw hx hb hown (hts _ tk_J6_265) dJ6_bitCount_0f7a4_4 ?_
  refine lv_iand hx hb dJ6_bitCount_0f7a4_7 ?_
  refine lv_isub hx hb dJ6_bitCount_0f7a4_8 ?_
  refine z_istore_n (fun z => [(0, .int z)]) hx hb dJ6_bitCount_0f7a4_9 rfl hl (by decide) (fun _ => rfl) hf (fun v1 ls hf hl => ?_)
  refine lv_iload_n hx hb dJ6_bitCount_0f7a4_10 rfl (lv_at hl 0 rfl) ?_
  refine lv_ldcw hx hb hown (hts _ tk_J6_266) dJ6_bitCount_0f7a4_11 ?_
  refine lv_iand hx hb dJ6_bitCount_0f7a4_14 ?_
  refine lv_iload_n hx hb dJ6_bitCount_0f7a4_15 rfl (lv_at hl 0 rfl) ?_
  refine lv_iconst (v := 2) hx hb dJ6_bitCount_0f7a4_16 (by decide) ?_
  refine lv_iushr hx hb dJ6_bitCount_0f7a4_17 rfl ?_
  refine lv_ldcw hx hb hown (hts _ tk_J6_266) dJ6_bitCount_0f7a4_18 ?_
  refine lv_iand hx hb dJ6_bitCount_0f7a4_21 ?_
  refine lv_iadd hx hb dJ6_bitCount_0f7a4_22 ?_
  refine z_istore_n (fun z => [(0, .int z)]) hx hb dJ6_bitCount_0f7a4_23 rfl hl (by decide) (fun _ => rfl) hf (fun v2 ls hf hl => ?_)
  refine lv_iload_n hx hb dJ6_bitCount_0f7a4_24 rfl (lv_at hl 0 rfl) ?_
  refine lv_iload_n hx hb dJ6_bitCount_0f7a4_25 rfl (lv_at hl 0 rfl) ?_
  refine lv_iconst (v := 4) hx hb dJ6_bitCount_0f7a4_26 (by decide) ?_
  refine lv_iushr hx hb dJ6_bitCount_0f7a4_27 rfl ?_
  refine lv_iadd hx hb dJ6_bitCount_0f7a4_28 ?_
  refine lv_ldcw hx hb hown (hts _ tk_J6_267) dJ6_bitCount_0f7a4_29 ?_
  refine lv_iand hx hb dJ6_bitCount_0f7a4_32 ?_
  refine z_istore_n (fun z => [(0, .int z)]) hx hb dJ6_bitCount_0f7a4_33 rfl hl (by decide) (fun _ => rfl) hf (fun v3 ls hf hl => ?_)
  refine lv_iload_n hx hb dJ6_bitCount_0f7a4_34 rfl (lv_at hl 0 rfl) ?_
  refine lv_iload_n hx hb dJ6_bitCount_0f7a4_35 rfl (lv_at hl 0 rfl) ?_
  refine lv_bipush (v := 8) hx hb dJ6_bitCount_0f7a4_36 (by decide) ?_
  refine lv_iushr hx hb dJ6_bitCount_0f7a4_38 rfl ?_
  refine lv_iadd hx hb dJ6_bitCount_0f7a4_39 ?_
  refine z_istore_n (fun z => [(0, .int z)]) hx hb dJ6_bitCount_0f7a4_40 rfl hl (by decide) (fun _ => rfl) hf (fun v4 ls hf hl => ?_)
  refine lv_iload_n hx hb dJ6_bitCount_0f7a4_41 rfl (lv_at hl 0 rfl) ?_
  refine lv_iload_n hx hb dJ6_bitCount_0f7a4_42 rfl (lv_at hl 0 rfl) ?_
  refine lv_bipush (v := 16) hx hb dJ6_bitCount_0f7a4_43 (by decide) ?_
  refine lv_iushr hx hb dJ6_bitCount_0f7a4_45 rfl ?_
  refine lv_iadd hx hb dJ6_bitCount_0f7a4_46 ?_
  refine z_istore_n (fun z => [(0, .int z)]) hx hb dJ6_bitCount_0f7a4_47 rfl hl (by decide) (fun _ => rfl) hf (fun v5 ls hf hl => ?_)
  refine lv_iload_n hx hb dJ6_bitCount_0f7a4_48 rfl (lv_at hl 0 rfl) ?_
  refine lv_bipush (v := 63) hx hb dJ6_bitCount_0f7a4_49 (by decide) ?_
  refine lv_iand hx hb dJ6_bitCount_0f7a4_51 ?_
  exact hret (v5 &&& 63) _ _ _ _ hf hP hD hS dJ6_bitCount_0f7a4_52
abbrev w_X11_commonDivisor (cI : ClassId) : va_W := []
abbrev rm_X11_commonDivisor : Room := { frames := 1, cells := 0, slots := 0, locals := 21 }
def m_X11_commonDivisor_j35 (p0 : Int32) (p1 : Int32) (x2 : Int32) : Option (Int32) :=
  some (if x2 < 1 then 1 else x2)
def m_X11_commonDivisor_w7 (p0 : Int32) (p1 : Int32) (k35 : Int32 → Option (Int32)) : Nat → Int32 → Int32 → Int32 → Option (Int32)
  | 0, _, _, _ => none
  | n7 + 1, x2, x3, x4 =>
    if 2000 ≤ x4 then (
    k35 x2)
    else (
    if x3 ≤ 0 then (
    k35 x2)
    else (
    dz x3 (
    nm (x2 - x2 / x3 * x3) fun v1 =>
    nm (x4 + 1) fun v2 =>
    m_X11_commonDivisor_w7 p0 p1 k35 n7 x3 v1 v2)))
def m_X11_commonDivisor (p0 : Int32) (p1 : Int32) : Option (Int32) :=
  m_X11_commonDivisor_w7 p0 p1 (m_X11_commonDivisor_j35 p0 p1) fuelN p0 p1 0
set_option maxHeartbeats 4000000 in
set_option maxRecDepth 100000 in
theorem c_X11_commonDivisor (l : Launch) (D : va_G) (cI : ClassId) (p0 : Int32) (p1 : Int32) (Rr : Int32) (hf : m_X11_commonDivisor p0 p1 = some Rr) : CTi l yX11_commonDivisor (Cond.code yX11_commonDivisor cX11_commonDivisor 6 (some .int)) rm_X11_commonDivisor D cI [.int p0, .int p1] (w_X11_commonDivisor cI) Rr (w_X11_commonDivisor cI) := by
  refine z_begin_i (own := RX11) (ρ := Int32) (fun u => w_X11_commonDivisor cI) (fun u => u) (by decide +kernel) rfl (Nat.le_of_ble_eq_true rfl) ?_
  intro p e s m args below meth c ls Q A hx hb hml hts hcx hown hK hX hA hP hD hS hl hret
  have hl : lv_has ls 6 [(0, .int p0), (1, .int p1)] := hl
  have hf := (m_X11_commonDivisor.eq_1 _ _).symm.trans hf
  have L35 : ∀ (x2 : Int32) (H : Heap) (locs : List Loc) (ls : Array Slot), m_X11_commonDivisor_j35 p0 p1 x2 = some Rr → va_P D vwCl (w_X11_commonDivisor cI) H → va_D A (w_X11_commonDivisor cI) → va_S A s.heap H locs → lv_has ls 6 [(2, .int x2)] → W p l e rm_X11_commonDivisor s m args below meth c H locs 0 0 Q (F0 m 35 ls []) := by
    intro x2 H locs ls hf hP hD hS hl
    have hf := (m_X11_commonDivisor_j35.eq_1 _ _ _).symm.trans hf
    refine lv_iload_n hx hb dX11_commonDivisor_35 rfl (lv_at hl 0 rfl) ?_
    refine lv_iconst (v := 1) hx hb dX11_commonDivisor_36 (by decide) ?_
    refine z_max (rest := []) hx hb (hml.trans hl.1.symm) hown hts tl_X11_340 ts_max tn_J9 tc_max (Nat.le_of_ble_eq_true rfl) (Nat.le_of_ble_eq_true rfl) ⟨Nat.zero_le _, Nat.zero_le _⟩ dX11_commonDivisor_37 ?_
    exact hret (if x2 < 1 then 1 else x2) _ _ _ _ hf hP hD hS dX11_commonDivisor_40
  have L7 : ∀ (n7 : Nat) (x2 : Int32) (x3 : Int32) (x4 : Int32) (H : Heap) (locs : List Loc) (ls : Array Slot), m_X11_commonDivisor_w7 p0 p1 (m_X11_commonDivisor_j35 p0 p1) n7 x2 x3 x4 = some Rr → va_P D vwCl (w_X11_commonDivisor cI) H → va_D A (w_X11_commonDivisor cI) → va_S A s.heap H locs → lv_has ls 6 [(2, .int x2), (3, .int x3), (4, .int x4)] → W p l e rm_X11_commonDivisor s m args below meth c H locs 0 0 Q (F0 m 7 ls []) := by
    intro n7
    induction n7 with
    | zero => intro x2 x3 x4 H locs ls hf; cases (show (none : Option _) = some Rr from hf)
    | succ n7 ih7 =>
      intro x2 x3 x4 H locs ls hf hP hD hS hl
      have hf := (m_X11_commonDivisor_w7.eq_2 _ _ _ _ _ _ _).symm.trans hf
      refine lv_iload hx hb dX11_commonDivisor_7 (lv_at hl 2 rfl) ?_
      refine lv_sipush (v := 2000) hx hb dX11_commonDivisor_9 (by decide) ?_
      refine z_icmp_ge (tgt := 35) hx hb dX11_commonDivisor_12 (by decide) hf (fun hf => ?_) (fun hf => ?_)
      · exact L35 x2 _ _ _ hf hP hD hS (lv_sub hl [0] rfl)
      · refine lv_iload_n hx hb dX11_commonDivisor_15 rfl (lv_at hl 1 rfl) ?_
        refine z_if_le (tgt := 35) hx hb dX11_commonDivisor_16 (by decide) hf (fun hf => ?_) (fun hf => ?_)
        · exact L35 x2 _ _ _ hf hP hD hS (lv_sub hl [0] rfl)
        · refine lv_iload_n hx hb dX11_commonDivisor_19 rfl (lv_at hl 0 rfl) ?_
          refine lv_iload_n hx hb dX11_commonDivisor_20 rfl (lv_at hl 1 rfl) ?_
          refine z_irem hx hb dX11_commonDivisor_21 hf (fun hf => ?_)
          refine z_istore (fun z => [(5, .int z), (2, .int x2), (3, .int x3), (4, .int x4)]) hx hb dX11_commonDivisor_22 hl (by decide) (fun _ => rfl) hf (fun v1 ls hf hl => ?_)
          refine lv_iload_n hx hb dX11_commonDivisor_24 rfl (lv_at hl 2 rfl) ?_
          refine lv_istore_n (lv' := [(2, .int x3), (5, .int v1), (3, .int x3), (4, .int x4)]) hx hb dX11_commonDivisor_25 rfl hl (by decide) rfl (fun ls hl => ?_)
          refine lv_iload hx hb dX11_commonDivisor_26 (lv_at hl 1 rfl) ?_
          refine lv_istore_n (lv' := [(3, .int v1), (2, .int x3), (5, .int v1), (4, .int x4)]) hx hb dX11_commonDivisor_28 rfl hl (by decide) rfl (fun ls hl => ?_)
          refine z_iinc (k0 := 3) (fun z => [(4, .int z), (3, .int v1), (2, .int x3), (5, .int v1)]) hx hb dX11_commonDivisor_29 hl rfl (by decide) (by decide) (fun _ => rfl) hf (fun v2 ls hf hl => ?_)
          refine lv_goto (tgt := 7) hx hb dX11_commonDivisor_32 (by decide) ?_
          exact ih7 x3 v1 v2 _ _ _ hf hP hD hS (lv_sub hl [2, 1, 0] rfl)
  refine lv_iload_n hx hb dX11_commonDivisor_0 rfl (lv_at hl 0 rfl) ?_
  refine lv_istore_n (lv' := [(2, .int p0), (0, .int p0), (1, .int p1)]) hx hb dX11_commonDivisor_1 rfl hl (by decide) rfl (fun ls hl => ?_)
  refine lv_iload_n hx hb dX11_commonDivisor_2 rfl (lv_at hl 2 rfl) ?_
  refine lv_istore_n (lv' := [(3, .int p1), (2, .int p0), (0, .int p0), (1, .int p1)]) hx hb dX11_commonDivisor_3 rfl hl (by decide) rfl (fun ls hl => ?_)
  refine lv_iconst (v := 0) hx hb dX11_commonDivisor_4 (by decide) ?_
  refine lv_istore (lv' := [(4, .int 0), (3, .int p1), (2, .int p0), (0, .int p0), (1, .int p1)]) hx hb dX11_commonDivisor_5 hl (by decide) rfl (fun ls hl => ?_)
  exact L7 fuelN p0 p1 0 _ _ _ hf hP hD hS (lv_sub hl [2, 1, 0] rfl)
abbrev w_X11_see (h_t : Nat) (r_t : Nat → Nat) (r_all : Nat → Nat) (F_t : Nat → Int32) (F_all : Nat → Int32) (kq : Option Nat) (cI : ClassId) (a_all_seen : Nat → Int32) (a_all_refused : Nat → Int32) : va_W := [(h_t, .inr (11, o_X11 r_t F_t kq)), ((r_t 3), .inr (0, o_X0 r_all F_all)), ((r_all 2), .inl (cI, 8, .inl a_all_seen)), ((r_all 4), .inl (cI, 3, .inl a_all_refused))]
abbrev rm_X11_see : Room := { frames := 1, cells := 0, slots := 0, locals := 20 }
def m_X11_see_j30 (p1 : Int32) (p2 : Int32) (F_all : Nat → Int32) (a_all_seen : Nat → Int32) (a_all_refused : Nat → Int32) : Option (Int32 × (Nat → Int32) × (Nat → Int32) × (Nat → Int32)) :=
  rd a_all_refused 3 2 fun y1 =>
  wr a_all_refused 3 2 (y1 + 1) fun a2 =>
  some ((-1), F_all, a_all_seen, a2)
def m_X11_see (F_all : Nat → Int32) (a_all_seen : Nat → Int32) (a_all_refused : Nat → Int32) (p1 : Int32) (p2 : Int32) : Option (Int32 × (Nat → Int32) × (Nat → Int32) × (Nat → Int32)) :=
  if 8 ≤ (F_all 3) then (
  m_X11_see_j30 p1 p2 F_all a_all_seen a_all_refused)
  else (
  bd (m_X11_isWord p1) fun u3 =>
  if u3 = 0 then (
  m_X11_see_j30 p1 p2 F_all a_all_seen a_all_refused)
  else (
  if p2 < 0 then (
  m_X11_see_j30 p1 p2 F_all a_all_seen a_all_refused)
  else (
  if p2 ≤ 999 then (
  wr a_all_seen 8 (F_all 3) ((p1 * 1000) + p2) fun a4 =>
  nm (upd F_all 3 ((F_all 3) + 1)) fun F5 =>
  some ((F5 3), F5, a4, a_all_refused))
  else (
  m_X11_see_j30 p1 p2 F_all a_all_seen a_all_refused))))
set_option maxHeartbeats 4000000 in
set_option maxRecDepth 100000 in
theorem c_X11_see (l : Launch) (D : va_G) (cI : ClassId) (h_t : Nat) (r_t : Nat → Nat) (r_all : Nat → Nat) (F_t : Nat → Int32) (F_all : Nat → Int32) (kq : Option Nat) (a_all_seen : Nat → Int32) (a_all_refused : Nat → Int32) (p1 : Int32) (p2 : Int32) (Rr : Int32 × (Nat → Int32) × (Nat → Int32) × (Nat → Int32)) (hf : m_X11_see F_all a_all_seen a_all_refused p1 p2 = some Rr) : CTi l yX11_see (Cond.code yX11_see cX11_see 3 (some .int)) rm_X11_see D cI [.ref h_t, .int p1, .int p2] (w_X11_see h_t r_t r_all F_t F_all kq cI a_all_seen a_all_refused) Rr.1 (w_X11_see h_t r_t r_all F_t Rr.2.1 kq cI Rr.2.2.1 Rr.2.2.2) := by
  refine z_begin_i (own := RX11) (ρ := Int32 × (Nat → Int32) × (Nat → Int32) × (Nat → Int32)) (fun u => w_X11_see h_t r_t r_all F_t u.2.1 kq cI u.2.2.1 u.2.2.2) (fun u => u.1) (by decide +kernel) rfl (Nat.le_of_ble_eq_true rfl) ?_
  intro p e s m args below meth c ls Q A hx hb hml hts hcx hown hK hX hA hP hD hS hl hret
  have hl : lv_has ls 3 [(0, .ref h_t), (1, .int p1), (2, .int p2)] := hl
  have hf := (m_X11_see.eq_1 _ _ _ _ _).symm.trans hf
  have L30 : ∀ (F_all : Nat → Int32) (a_all_seen : Nat → Int32) (a_all_refused : Nat → Int32) (H : Heap) (locs : List Loc) (ls : Array Slot), m_X11_see_j30 p1 p2 F_all a_all_seen a_all_refused = some Rr → va_P D vwCl (w_X11_see h_t r_t r_all F_t F_all kq cI a_all_seen a_all_refused) H → va_D A (w_X11_see h_t r_t r_all F_t F_all kq cI a_all_seen a_all_refused) → va_S A s.heap H locs → lv_has ls 3 [(0, .ref h_t)] → W p l e rm_X11_see s m args below meth c H locs 0 0 Q (F0 m 30 ls []) := by
    intro F_all a_all_seen a_all_refused H locs ls hf hP hD hS hl
    have hf := (m_X11_see_j30.eq_1 _ _ _ _ _).symm.trans hf
    refine lv_aload_n hx hb dX11_see_30 rfl (lv_at hl 0 rfl) ?_
    refine z_get (ci := 11) (C := RX11) (T := TX11) (N := 13) (v := .ref (r_t 3)) hx hb hts inT_X11 hown hK hP 0 rfl rfl 3 (by decide) tf_X11_23 rfl dX11_see_31 ?_
    refine z_get (ci := 0) (C := RX0) (T := TX0) (N := 5) (v := .ref (r_all 4)) hx hb hts inT_X0 hown hK hP 1 rfl rfl 4 (by decide) tf_X11_101 rfl dX11_see_34 ?_
    refine lv_iconst (v := 2) hx hb dX11_see_37 (by decide) ?_
    refine lv_dup2_11 hx hb dX11_see_38 rfl rfl ?_
    refine z_iald hx hb hK hP 3 rfl dX11_see_39 hf (fun y1 hf => ?_)
    refine lv_iconst (v := 1) hx hb dX11_see_40 (by decide) ?_
    refine lv_iadd hx hb dX11_see_41 ?_
    refine z_iast hx hb hK hP hD hS 3 rfl (fun z => w_X11_see h_t r_t r_all F_t F_all kq cI a_all_seen z) (fun _ => rfl) dX11_see_42 hf (fun a2 H locs hf hP hD hS => ?_)
    refine lv_iconst (v := (-1)) hx hb dX11_see_43 (by decide) ?_
    exact hret ((-1), F_all, a_all_seen, a2) _ _ _ _ hf hP hD hS dX11_see_44
  refine lv_aload_n hx hb dX11_see_0 rfl (lv_at hl 0 rfl) ?_
  refine z_get (ci := 11) (C := RX11) (T := TX11) (N := 13) (v := .ref (r_t 3)) hx hb hts inT_X11 hown hK hP 0 rfl rfl 3 (by decide) tf_X11_23 rfl dX11_see_1 ?_
  refine z_get (ci := 0) (C := RX0) (T := TX0) (N := 5) (v := .int (F_all 3)) hx hb hts inT_X0 hown hK hP 1 rfl rfl 3 (by decide) tf_X11_149 rfl dX11_see_4 ?_
  refine lv_bipush (v := 8) hx hb dX11_see_7 (by decide) ?_
  refine z_icmp_ge (tgt := 30) hx hb dX11_see_9 (by decide) hf (fun hf => ?_) (fun hf => ?_)
  · exact L30 F_all a_all_seen a_all_refused _ _ _ hf hP hD hS (lv_sub hl [0] rfl)
  · refine lv_iload_n hx hb dX11_see_12 rfl (lv_at hl 1 rfl) ?_
    obtain ⟨u3, hu3, hf⟩ := bd_some hf
    refine z_ci (ws1 := w_X11_see h_t r_t r_all F_t F_all kq cI a_all_seen a_all_refused) (wr := List.filterMap (fun i : Nat => (w_X11_see h_t r_t r_all F_t F_all kq cI a_all_seen a_all_refused)[i]?) [0, 1, 2, 3]) (z_rS (rest := []) hx hb hml hown hcx hl.1 (c_X11_isWord l D cI p1 u3 hu3 _) tl_X11_160 ts_X11_isWord tn_X11 tc_X11_isWord tm_X11_isWord rfl rfl ⟨Nat.le_of_ble_eq_true rfl, Nat.le_of_ble_eq_true rfl⟩ hK hX hS hA hP hD [] rfl rfl rfl rfl (Nat.le_of_ble_eq_true rfl) dX11_see_13 ⟨Nat.zero_le _, Nat.zero_le _⟩) hP hD hS hA [] [0, 1, 2, 3] [0, 1, 2, 3] rfl rfl rfl (by decide) rfl rfl (fun H locs hP hD hS => ?_)
    refine z_if_eq (tgt := 30) hx hb dX11_see_16 (by decide) hf (fun hf => ?_) (fun hf => ?_)
    · exact L30 F_all a_all_seen a_all_refused _ _ _ hf hP hD hS (lv_sub hl [0] rfl)
    · refine lv_iload_n hx hb dX11_see_19 rfl (lv_at hl 2 rfl) ?_
      refine z_if_lt (tgt := 30) hx hb dX11_see_20 (by decide) hf (fun hf => ?_) (fun hf => ?_)
      · exact L30 F_all a_all_seen a_all_refused _ _ _ hf hP hD hS (lv_sub hl [0] rfl)
      · refine lv_iload_n hx hb dX11_see_23 rfl (lv_at hl 2 rfl) ?_
        refine lv_sipush (v := 999) hx hb dX11_see_24 (by decide) ?_
        refine z_icmp_le (tgt := 45) hx hb dX11_see_27 (by decide) hf (fun hf => ?_) (fun hf => ?_)
        · refine lv_aload_n hx hb dX11_see_45 rfl (lv_at hl 0 rfl) ?_
          refine z_get (ci := 11) (C := RX11) (T := TX11) (N := 13) (v := .ref (r_t 3)) hx hb hts inT_X11 hown hK hP 0 rfl rfl 3 (by decide) tf_X11_23 rfl dX11_see_46 ?_
          refine z_get (ci := 0) (C := RX0) (T := TX0) (N := 5) (v := .ref (r_all 2)) hx hb hts inT_X0 hown hK hP 1 rfl rfl 2 (by decide) tf_X11_345 rfl dX11_see_49 ?_
          refine lv_aload_n hx hb dX11_see_52 rfl (lv_at hl 0 rfl) ?_
          refine z_get (ci := 11) (C := RX11) (T := TX11) (N := 13) (v := .ref (r_t 3)) hx hb hts inT_X11 hown hK hP 0 rfl rfl 3 (by decide) tf_X11_23 rfl dX11_see_53 ?_
          refine z_get (ci := 0) (C := RX0) (T := TX0) (N := 5) (v := .int (F_all 3)) hx hb hts inT_X0 hown hK hP 1 rfl rfl 3 (by decide) tf_X11_149 rfl dX11_see_56 ?_
          refine lv_iload_n hx hb dX11_see_59 rfl (lv_at hl 1 rfl) ?_
          refine lv_sipush (v := 1000) hx hb dX11_see_60 (by decide) ?_
          refine lv_imul hx hb dX11_see_63 ?_
          refine lv_iload_n hx hb dX11_see_64 rfl (lv_at hl 2 rfl) ?_
          refine lv_iadd hx hb dX11_see_65 ?_
          refine z_iast hx hb hK hP hD hS 2 rfl (fun z => w_X11_see h_t r_t r_all F_t F_all kq cI z a_all_refused) (fun _ => rfl) dX11_see_66 hf (fun a4 H locs hf hP hD hS => ?_)
          refine lv_aload_n hx hb dX11_see_67 rfl (lv_at hl 0 rfl) ?_
          refine z_get (ci := 11) (C := RX11) (T := TX11) (N := 13) (v := .ref (r_t 3)) hx hb hts inT_X11 hown hK hP 0 rfl rfl 3 (by decide) tf_X11_23 rfl dX11_see_68 ?_
          refine lv_dup hx hb dX11_see_71 rfl ?_
          refine z_get (ci := 0) (C := RX0) (T := TX0) (N := 5) (v := .int (F_all 3)) hx hb hts inT_X0 hown hK hP 1 rfl rfl 3 (by decide) tf_X11_149 rfl dX11_see_72 ?_
          refine lv_iconst (v := 1) hx hb dX11_see_75 (by decide) ?_
          refine lv_iadd hx hb dX11_see_76 ?_
          refine z_put (ci := 0) (C := RX0) (T := TX0) (N := 5) hx hb hts inT_X0 tyX0 tyX0_ok nmX0 hown hK hP hD hS 1 rfl rfl 3 (by decide) tf_X11_149 rfl (by decide +kernel) (Nat.le_of_ble_eq_true rfl) (o_X0 r_all) (o_X0_s3 _ _ _) (fun z => w_X11_see h_t r_t r_all F_t z kq cI a4 a_all_refused) (fun _ => rfl) dX11_see_77 hf (fun F5 H locs hf hP hD hS => ?_)
          refine lv_aload_n hx hb dX11_see_80 rfl (lv_at hl 0 rfl) ?_
          refine z_get (ci := 11) (C := RX11) (T := TX11) (N := 13) (v := .ref (r_t 3)) hx hb hts inT_X11 hown hK hP 0 rfl rfl 3 (by decide) tf_X11_23 rfl dX11_see_81 ?_
          refine z_get (ci := 0) (C := RX0) (T := TX0) (N := 5) (v := .int (F5 3)) hx hb hts inT_X0 hown hK hP 1 rfl rfl 3 (by decide) tf_X11_149 rfl dX11_see_84 ?_
          exact hret ((F5 3), F5, a4, a_all_refused) _ _ _ _ hf hP hD hS dX11_see_87
        · exact L30 F_all a_all_seen a_all_refused _ _ _ hf hP hD hS (lv_sub hl [0] rfl)
abbrev w_X8_fits (h_t : Nat) (h_p2 : Nat) (r_t : Nat → Nat) (cI : ClassId) (n_p2 : Nat) (a_lineWords : Nat → Int32) (a_p2 : Nat → Int32) : va_W := [(h_t, .inr (8, o_X8 r_t)), ((r_t 1), .inl (cI, 4, .inl a_lineWords)), (h_p2, .inl (cI, n_p2, .inl a_p2))]
abbrev rm_X8_fits : Room := { frames := 0, cells := 0, slots := 0, locals := 0 }
def m_X8_fits_j49 (a_lineWords : Nat → Int32) (a_p2 : Nat → Int32) (n_p2 : Nat) (p1 : Int32) (p3 : Int32) (k3 : Int32 → Option (Int32)) (x4 : Int32) : Option (Int32) :=
  nm (x4 + 1) fun v3 =>
  k3 v3
def m_X8_fits_w3 (a_lineWords : Nat → Int32) (a_p2 : Nat → Int32) (n_p2 : Nat) (p1 : Int32) (p3 : Int32) : Nat → Int32 → Option (Int32)
  | 0, _ => none
  | n3 + 1, x4 =>
    if p3 ≤ x4 then (
    some 1)
    else (
    rd a_p2 n_p2 x4 fun y1 =>
    nm (y1 / 1000) fun v2 =>
    if (v2 / 4) = p1 then (
    rd a_lineWords 4 (v2 - v2 / 4 * 4) fun y4 =>
    rd a_p2 n_p2 x4 fun y5 =>
    if y4 = (y5 - y5 / 1000 * 1000) then (
    m_X8_fits_j49 a_lineWords a_p2 n_p2 p1 p3 (m_X8_fits_w3 a_lineWords a_p2 n_p2 p1 p3 n3) x4)
    else (
    some 0))
    else (
    m_X8_fits_j49 a_lineWords a_p2 n_p2 p1 p3 (m_X8_fits_w3 a_lineWords a_p2 n_p2 p1 p3 n3) x4))
def m_X8_fits (a_lineWords : Nat → Int32) (a_p2 : Nat → Int32) (n_p2 : Nat) (p1 : Int32) (p3 : Int32) : Option (Int32) :=
  m_X8_fits_w3 a_lineWords a_p2 n_p2 p1 p3 fuelN 0
set_option maxHeartbeats 4000000 in
set_option maxRecDepth 100000 in
theorem c_X8_fits (l : Launch) (D : va_G) (cI : ClassId) (h_t : Nat) (h_p2 : Nat) (r_t : Nat → Nat) (n_p2 : Nat) (a_lineWords : Nat → Int32) (a_p2 : Nat → Int32) (p1 : Int32) (p3 : Int32) (Rr : Int32) (hf : m_X8_fits a_lineWords a_p2 n_p2 p1 p3 = some Rr) : CTi l yX8_fits (Cond.code yX8_fits cX8_fits 6 (some .boolean)) rm_X8_fits D cI [.ref h_t, .int p1, .ref h_p2, .int p3] (w_X8_fits h_t h_p2 r_t cI n_p2 a_lineWords a_p2) Rr (w_X8_fits h_t h_p2 r_t cI n_p2 a_lineWords a_p2) := by
  refine z_begin_z (own := RX8) (ρ := Int32) (fun u => w_X8_fits h_t h_p2 r_t cI n_p2 a_lineWords a_p2) (fun u => u) (by decide +kernel) rfl (Nat.le_of_ble_eq_true rfl) ?_
  intro p e s m args below meth c ls Q A hx hb hml hts hcx hown hK hX hA hP hD hS hl hret
  have hl : lv_has ls 6 [(0, .ref h_t), (1, .int p1), (2, .ref h_p2), (3, .int p3)] := hl
  have hf := (m_X8_fits.eq_1 _ _ _ _ _).symm.trans hf
  have L3 : ∀ (n3 : Nat) (x4 : Int32) (H : Heap) (locs : List Loc) (ls : Array Slot), m_X8_fits_w3 a_lineWords a_p2 n_p2 p1 p3 n3 x4 = some Rr → va_P D vwCl (w_X8_fits h_t h_p2 r_t cI n_p2 a_lineWords a_p2) H → va_D A (w_X8_fits h_t h_p2 r_t cI n_p2 a_lineWords a_p2) → va_S A s.heap H locs → lv_has ls 6 [(0, .ref h_t), (1, .int p1), (2, .ref h_p2), (3, .int p3), (4, .int x4)] → W p l e rm_X8_fits s m args below meth c H locs 0 0 Q (F0 m 3 ls []) := by
    intro n3
    induction n3 with
    | zero => intro x4 H locs ls hf; cases (show (none : Option _) = some Rr from hf)
    | succ n3 ih3 =>
      intro x4 H locs ls hf hP hD hS hl
      have hf := (m_X8_fits_w3.eq_2 _ _ _ _ _ _ _).symm.trans hf
      have L49 : ∀ (x4 : Int32) (H : Heap) (locs : List Loc) (ls : Array Slot), m_X8_fits_j49 a_lineWords a_p2 n_p2 p1 p3 (m_X8_fits_w3 a_lineWords a_p2 n_p2 p1 p3 n3) x4 = some Rr → va_P D vwCl (w_X8_fits h_t h_p2 r_t cI n_p2 a_lineWords a_p2) H → va_D A (w_X8_fits h_t h_p2 r_t cI n_p2 a_lineWords a_p2) → va_S A s.heap H locs → lv_has ls 6 [(0, .ref h_t), (1, .int p1), (2, .ref h_p2), (3, .int p3), (4, .int x4)] → W p l e rm_X8_fits s m args below meth c H locs 0 0 Q (F0 m 49 ls []) := by
        intro x4 H locs ls hf hP hD hS hl
        have hf := (m_X8_fits_j49.eq_1 _ _ _ _ _ _ _).symm.trans hf
        refine z_iinc (k0 := 4) (fun z => [(4, .int z), (0, .ref h_t), (1, .int p1), (2, .ref h_p2), (3, .int p3)]) hx hb dX8_fits_49 hl rfl (by decide) (by decide) (fun _ => rfl) hf (fun v3 ls hf hl => ?_)
        refine lv_goto (tgt := 3) hx hb dX8_fits_52 (by decide) ?_
        exact ih3 v3 _ _ _ hf hP hD hS (lv_sub hl [1, 2, 3, 4, 0] rfl)
      refine lv_iload hx hb dX8_fits_3 (lv_at hl 4 rfl) ?_
      refine lv_iload_n hx hb dX8_fits_5 rfl (lv_at hl 3 rfl) ?_
      refine z_icmp_ge (tgt := 55) hx hb dX8_fits_6 (by decide) hf (fun hf => ?_) (fun hf => ?_)
      · refine lv_iconst (v := 1) hx hb dX8_fits_55 (by decide) ?_
        exact hret 1 _ _ _ _ (Or.inr rfl) hf hP hD hS dX8_fits_56
      · refine lv_aload_n hx hb dX8_fits_9 rfl (lv_at hl 2 rfl) ?_
        refine lv_iload hx hb dX8_fits_10 (lv_at hl 4 rfl) ?_
        refine z_iald hx hb hK hP 2 rfl dX8_fits_12 hf (fun y1 hf => ?_)
        refine lv_sipush (v := 1000) hx hb dX8_fits_13 (by decide) ?_
        refine lv_idiv hx hb dX8_fits_16 (by decide) ?_
        refine z_istore (fun z => [(5, .int z), (0, .ref h_t), (1, .int p1), (2, .ref h_p2), (3, .int p3), (4, .int x4)]) hx hb dX8_fits_17 hl (by decide) (fun _ => rfl) hf (fun v2 ls hf hl => ?_)
        refine lv_iload hx hb dX8_fits_19 (lv_at hl 0 rfl) ?_
        refine lv_iconst (v := 4) hx hb dX8_fits_21 (by decide) ?_
        refine lv_idiv hx hb dX8_fits_22 (by decide) ?_
        refine lv_iload_n hx hb dX8_fits_23 rfl (lv_at hl 2 rfl) ?_
        refine z_icmp_ne (tgt := 49) hx hb dX8_fits_24 (by decide) hf (fun hf => ?_) (fun hf => ?_)
        · exact L49 x4 _ _ _ hf hP hD hS (lv_sub hl [1, 2, 3, 4, 5] rfl)
        · refine lv_aload_n hx hb dX8_fits_27 rfl (lv_at hl 1 rfl) ?_
          refine z_get (ci := 8) (C := RX8) (T := TX8) (N := 2) (v := .ref (r_t 1)) hx hb hts inT_X8 hown hK hP 0 rfl rfl 1 (by decide) tf_X8_15 rfl dX8_fits_28 ?_
          refine lv_iload hx hb dX8_fits_31 (lv_at hl 0 rfl) ?_
          refine lv_iconst (v := 4) hx hb dX8_fits_33 (by decide) ?_
          refine lv_irem hx hb dX8_fits_34 (by decide) ?_
          refine z_iald hx hb hK hP 1 rfl dX8_fits_35 hf (fun y4 hf => ?_)
          refine lv_aload_n hx hb dX8_fits_36 rfl (lv_at hl 3 rfl) ?_
          refine lv_iload hx hb dX8_fits_37 (lv_at hl 5 rfl) ?_
          refine z_iald hx hb hK hP 2 rfl dX8_fits_39 hf (fun y5 hf => ?_)
          refine lv_sipush (v := 1000) hx hb dX8_fits_40 (by decide) ?_
          refine lv_irem hx hb dX8_fits_43 (by decide) ?_
          refine z_icmp_eq (tgt := 49) hx hb dX8_fits_44 (by decide) hf (fun hf => ?_) (fun hf => ?_)
          · exact L49 x4 _ _ _ hf hP hD hS (lv_sub hl [1, 2, 3, 4, 5] rfl)
          · refine lv_iconst (v := 0) hx hb dX8_fits_47 (by decide) ?_
            exact hret 0 _ _ _ _ (Or.inl rfl) hf hP hD hS dX8_fits_48
  refine lv_iconst (v := 0) hx hb dX8_fits_0 (by decide) ?_
  refine lv_istore (lv' := [(4, .int 0), (0, .ref h_t), (1, .int p1), (2, .ref h_p2), (3, .int p3)]) hx hb dX8_fits_1 hl (by decide) rfl (fun ls hl => ?_)
  exact L3 fuelN 0 _ _ _ hf hP hD hS (lv_sub hl [1, 2, 3, 4, 0] rfl)
abbrev w_X8_narrow (h_t : Nat) (h_p1 : Nat) (h_p2 : Nat) (r_t : Nat → Nat) (r_p1 : Nat → Nat) (cI : ClassId) (n_p2 : Nat) (a_possible : Nat → Int32) (a_lineWords : Nat → Int32) (a_p1_media : Nat → Int32) (a_p1_stores : Nat → Int32) (a_p1_held : Nat → Int32) (a_p2 : Nat → Int32) : va_W := [(h_t, .inr (8, o_X8 r_t)), ((r_t 0), .inl (cI, 16, .inl a_possible)), ((r_t 1), .inl (cI, 4, .inl a_lineWords)), (h_p1, .inr (1, o_X1 r_p1)), ((r_p1 0), .inl (cI, 64, .inl a_p1_media)), ((r_p1 1), .inl (cI, 96, .inl a_p1_stores)), ((r_p1 2), .inl (cI, 16, .inl a_p1_held)), (h_p2, .inl (cI, n_p2, .inl a_p2))]
abbrev rm_X8_narrow : Room := { frames := 1, cells := 0, slots := 0, locals := 40 }
def m_X8_narrow_j124 (a_p1_media : Nat → Int32) (a_p1_stores : Nat → Int32) (a_p1_held : Nat → Int32) (a_p2 : Nat → Int32) (n_p2 : Nat) (p3 : Int32) (k3 : Int32 → (Nat → Int32) → (Nat → Int32) → Option ((Nat → Int32) × (Nat → Int32))) (x4 : Int32) (a_possible : Nat → Int32) (a_lineWords : Nat → Int32) : Option ((Nat → Int32) × (Nat → Int32)) :=
  nm (x4 + 1) fun v4 =>
  k3 v4 a_possible a_lineWords
def m_X8_narrow_j116 (a_p1_media : Nat → Int32) (a_p1_stores : Nat → Int32) (a_p1_held : Nat → Int32) (a_p2 : Nat → Int32) (n_p2 : Nat) (p3 : Int32) (k38 : Int32 → Int32 → (Nat → Int32) → (Nat → Int32) → Option ((Nat → Int32) × (Nat → Int32))) (x4 : Int32) (x5 : Int32) (s1 : Int32) (s2 : Int32) (s3 : Int32) (a_possible : Nat → Int32) (a_lineWords : Nat → Int32) : Option ((Nat → Int32) × (Nat → Int32)) :=
  wr a_possible 16 s1 (s2 ||| s3) fun a7 =>
  nm (x5 + 1) fun v8 =>
  k38 x4 v8 a7 a_lineWords
def m_X8_narrow_j89 (a_p1_media : Nat → Int32) (a_p1_stores : Nat → Int32) (a_p1_held : Nat → Int32) (a_p2 : Nat → Int32) (n_p2 : Nat) (p3 : Int32) (k38 : Int32 → Int32 → (Nat → Int32) → (Nat → Int32) → Option ((Nat → Int32) × (Nat → Int32))) (x4 : Int32) (x5 : Int32) (a_possible : Nat → Int32) (a_lineWords : Nat → Int32) : Option ((Nat → Int32) × (Nat → Int32)) :=
  rd a_possible 16 x4 fun y5 =>
  bd (m_X8_fits a_lineWords a_p2 n_p2 x4 p3) fun u6 =>
  if u6 = 0 then (
  m_X8_narrow_j116 a_p1_media a_p1_stores a_p1_held a_p2 n_p2 p3 k38 x4 x5 x4 y5 0 a_possible a_lineWords)
  else (
  m_X8_narrow_j116 a_p1_media a_p1_stores a_p1_held a_p2 n_p2 p3 k38 x4 x5 x4 y5 ((1 : Int32) <<< (x5 &&& 31)) a_possible a_lineWords)
def m_X8_narrow_w38 (a_p1_media : Nat → Int32) (a_p1_stores : Nat → Int32) (a_p1_held : Nat → Int32) (a_p2 : Nat → Int32) (n_p2 : Nat) (p3 : Int32) (k124 : Int32 → (Nat → Int32) → (Nat → Int32) → Option ((Nat → Int32) × (Nat → Int32))) : Nat → Int32 → Int32 → (Nat → Int32) → (Nat → Int32) → Option ((Nat → Int32) × (Nat → Int32))
  | 0, _, _, _, _ => none
  | n38 + 1, x4, x5, a_possible, a_lineWords =>
    rd a_p1_held 16 x4 fun y3 =>
    if y3 < x5 then (
    k124 x4 a_possible a_lineWords)
    else (
    if x5 ≤ 0 then (
    m_X8_narrow_j89 a_p1_media a_p1_stores a_p1_held a_p2 n_p2 p3 (m_X8_narrow_w38 a_p1_media a_p1_stores a_p1_held a_p2 n_p2 p3 k124 n38) x4 x5 a_possible a_lineWords)
    else (
    rd a_p1_stores 96 (((x4 * 6) + x5) - 1) fun y9 =>
    wr a_lineWords 4 ((y9 / 100) - (y9 / 100) / 4 * 4) (y9 - y9 / 100 * 100) fun a10 =>
    m_X8_narrow_j89 a_p1_media a_p1_stores a_p1_held a_p2 n_p2 p3 (m_X8_narrow_w38 a_p1_media a_p1_stores a_p1_held a_p2 n_p2 p3 k124 n38) x4 x5 a_possible a10))
def m_X8_narrow_w3 (a_p1_media : Nat → Int32) (a_p1_stores : Nat → Int32) (a_p1_held : Nat → Int32) (a_p2 : Nat → Int32) (n_p2 : Nat) (p3 : Int32) : Nat → Int32 → (Nat → Int32) → (Nat → Int32) → Option ((Nat → Int32) × (Nat → Int32))
  | 0, _, _, _ => none
  | n3 + 1, x4, a_possible, a_lineWords =>
    if 16 ≤ x4 then (
    some (a_possible, a_lineWords))
    else (
    cp a_p1_media a_lineWords 64 4 (x4 * 4) 0 4 fun a1 =>
    wr a_possible 16 x4 0 fun a2 =>
    m_X8_narrow_w38 a_p1_media a_p1_stores a_p1_held a_p2 n_p2 p3 (m_X8_narrow_j124 a_p1_media a_p1_stores a_p1_held a_p2 n_p2 p3 (m_X8_narrow_w3 a_p1_media a_p1_stores a_p1_held a_p2 n_p2 p3 n3)) fuelN x4 0 a2 a1)
def m_X8_narrow (a_possible : Nat → Int32) (a_lineWords : Nat → Int32) (a_p1_media : Nat → Int32) (a_p1_stores : Nat → Int32) (a_p1_held : Nat → Int32) (a_p2 : Nat → Int32) (n_p2 : Nat) (p3 : Int32) : Option ((Nat → Int32) × (Nat → Int32)) :=
  m_X8_narrow_w3 a_p1_media a_p1_stores a_p1_held a_p2 n_p2 p3 fuelN 0 a_possible a_lineWords
set_option maxHeartbeats 4000000 in
set_option maxRecDepth 100000 in
theorem c_X8_narrow (l : Launch) (D : va_G) (cI : ClassId) (h_t : Nat) (h_p1 : Nat) (h_p2 : Nat) (r_t : Nat → Nat) (r_p1 : Nat → Nat) (n_p2 : Nat) (a_possible : Nat → Int32) (a_lineWords : Nat → Int32) (a_p1_media : Nat → Int32) (a_p1_stores : Nat → Int32) (a_p1_held : Nat → Int32) (a_p2 : Nat → Int32) (p3 : Int32) (Rr : (Nat → Int32) × (Nat → Int32)) (hf : m_X8_narrow a_possible a_lineWords a_p1_media a_p1_stores a_p1_held a_p2 n_p2 p3 = some Rr) : CTv l yX8_narrow (Cond.code yX8_narrow cX8_narrow 7 none) rm_X8_narrow D cI [.ref h_t, .ref h_p1, .ref h_p2, .int p3] (w_X8_narrow h_t h_p1 h_p2 r_t r_p1 cI n_p2 a_possible a_lineWords a_p1_media a_p1_stores a_p1_held a_p2) (w_X8_narrow h_t h_p1 h_p2 r_t r_p1 cI n_p2 Rr.1 Rr.2 a_p1_media a_p1_stores a_p1_held a_p2) := by
  refine z_begin_v (own := RX8) (ρ := (Nat → Int32) × (Nat → Int32)) (fun u => w_X8_narrow h_t h_p1 h_p2 r_t r_p1 cI n_p2 u.1 u.2 a_p1_media a_p1_stores a_p1_held a_p2) (by decide +kernel) rfl (Nat.le_of_ble_eq_true rfl) ?_
  intro p e s m args below meth c ls Q A hx hb hml hts hcx hown hK hX hA hP hD hS hl hret
  have hl : lv_has ls 7 [(0, .ref h_t), (1, .ref h_p1), (2, .ref h_p2), (3, .int p3)] := hl
  have hf := (m_X8_narrow.eq_1 _ _ _ _ _ _ _ _).symm.trans hf
  have L3 : ∀ (n3 : Nat) (x4 : Int32) (a_possible : Nat → Int32) (a_lineWords : Nat → Int32) (H : Heap) (locs : List Loc) (ls : Array Slot), m_X8_narrow_w3 a_p1_media a_p1_stores a_p1_held a_p2 n_p2 p3 n3 x4 a_possible a_lineWords = some Rr → va_P D vwCl (w_X8_narrow h_t h_p1 h_p2 r_t r_p1 cI n_p2 a_possible a_lineWords a_p1_media a_p1_stores a_p1_held a_p2) H → va_D A (w_X8_narrow h_t h_p1 h_p2 r_t r_p1 cI n_p2 a_possible a_lineWords a_p1_media a_p1_stores a_p1_held a_p2) → va_S A s.heap H locs → lv_has ls 7 [(0, .ref h_t), (1, .ref h_p1), (2, .ref h_p2), (3, .int p3), (4, .int x4)] → W p l e rm_X8_narrow s m args below meth c H locs 0 0 Q (F0 m 3 ls []) := by
    intro n3
    induction n3 with
    | zero => intro x4 a_possible a_lineWords H locs ls hf; cases (show (none : Option _) = some Rr from hf)
    | succ n3 ih3 =>
      intro x4 a_possible a_lineWords H locs ls hf hP hD hS hl
      have hf := (m_X8_narrow_w3.eq_2 _ _ _ _ _ _ _ _ _ _).symm.trans hf
      have L124 : ∀ (x4 : Int32) (a_possible : Nat → Int32) (a_lineWords : Nat → Int32) (H : Heap) (locs : List Loc) (ls : Array Slot), m_X8_narrow_j124 a_p1_media a_p1_stores a_p1_held a_p2 n_p2 p3 (m_X8_narrow_w3 a_p1_media a_p1_stores a_p1_held a_p2 n_p2 p3 n3) x4 a_possible a_lineWords = some Rr → va_P D vwCl (w_X8_narrow h_t h_p1 h_p2 r_t r_p1 cI n_p2 a_possible a_lineWords a_p1_media a_p1_stores a_p1_held a_p2) H → va_D A (w_X8_narrow h_t h_p1 h_p2 r_t r_p1 cI n_p2 a_possible a_lineWords a_p1_media a_p1_stores a_p1_held a_p2) → va_S A s.heap H locs → lv_has ls 7 [(0, .ref h_t), (1, .ref h_p1), (2, .ref h_p2), (3, .int p3), (4, .int x4)] → W p l e rm_X8_narrow s m args below meth c H locs 0 0 Q (F0 m 124 ls []) := by
        intro x4 a_possible a_lineWords H locs ls hf hP hD hS hl
        have hf := (m_X8_narrow_j124.eq_1 _ _ _ _ _ _ _ _ _ _).symm.trans hf
        refine z_iinc (k0 := 4) (fun z => [(4, .int z), (0, .ref h_t), (1, .ref h_p1), (2, .ref h_p2), (3, .int p3)]) hx hb dX8_narrow_124 hl rfl (by decide) (by decide) (fun _ => rfl) hf (fun v4 ls hf hl => ?_)
        refine lv_goto (tgt := 3) hx hb dX8_narrow_127 (by decide) ?_
        exact ih3 v4 a_possible a_lineWords _ _ _ hf hP hD hS (lv_sub hl [1, 2, 3, 4, 0] rfl)
      have L38 : ∀ (n38 : Nat) (x4 : Int32) (x5 : Int32) (a_possible : Nat → Int32) (a_lineWords : Nat → Int32) (H : Heap) (locs : List Loc) (ls : Array Slot), m_X8_narrow_w38 a_p1_media a_p1_stores a_p1_held a_p2 n_p2 p3 (m_X8_narrow_j124 a_p1_media a_p1_stores a_p1_held a_p2 n_p2 p3 (m_X8_narrow_w3 a_p1_media a_p1_stores a_p1_held a_p2 n_p2 p3 n3)) n38 x4 x5 a_possible a_lineWords = some Rr → va_P D vwCl (w_X8_narrow h_t h_p1 h_p2 r_t r_p1 cI n_p2 a_possible a_lineWords a_p1_media a_p1_stores a_p1_held a_p2) H → va_D A (w_X8_narrow h_t h_p1 h_p2 r_t r_p1 cI n_p2 a_possible a_lineWords a_p1_media a_p1_stores a_p1_held a_p2) → va_S A s.heap H locs → lv_has ls 7 [(0, .ref h_t), (1, .ref h_p1), (2, .ref h_p2), (3, .int p3), (4, .int x4), (5, .int x5)] → W p l e rm_X8_narrow s m args below meth c H locs 0 0 Q (F0 m 38 ls []) := by
        intro n38
        induction n38 with
        | zero => intro x4 x5 a_possible a_lineWords H locs ls hf; cases (show (none : Option _) = some Rr from hf)
        | succ n38 ih38 =>
          intro x4 x5 a_possible a_lineWords H locs ls hf hP hD hS hl
          have hf := (m_X8_narrow_w38.eq_2 _ _ _ _ _ _ _ _ _ _ _ _).symm.trans hf
          have L116 : ∀ (x4 : Int32) (x5 : Int32) (s1 : Int32) (s2 : Int32) (s3 : Int32) (a_possible : Nat → Int32) (a_lineWords : Nat → Int32) (H : Heap) (locs : List Loc) (ls : Array Slot), m_X8_narrow_j116 a_p1_media a_p1_stores a_p1_held a_p2 n_p2 p3 (m_X8_narrow_w38 a_p1_media a_p1_stores a_p1_held a_p2 n_p2 p3 (m_X8_narrow_j124 a_p1_media a_p1_stores a_p1_held a_p2 n_p2 p3 (m_X8_narrow_w3 a_p1_media a_p1_stores a_p1_held a_p2 n_p2 p3 n3)) n38) x4 x5 s1 s2 s3 a_possible a_lineWords = some Rr → va_P D vwCl (w_X8_narrow h_t h_p1 h_p2 r_t r_p1 cI n_p2 a_possible a_lineWords a_p1_media a_p1_stores a_p1_held a_p2) H → va_D A (w_X8_narrow h_t h_p1 h_p2 r_t r_p1 cI n_p2 a_possible a_lineWords a_p1_media a_p1_stores a_p1_held a_p2) → va_S A s.heap H locs → lv_has ls 7 [(0, .ref h_t), (1, .ref h_p1), (2, .ref h_p2), (3, .int p3), (4, .int x4), (5, .int x5)] → W p l e rm_X8_narrow s m args below meth c H locs 0 0 Q (F0 m 116 ls [.int s3, .int s2, .int s1, .ref (r_t 0)]) := by
            intro x4 x5 s1 s2 s3 a_possible a_lineWords H locs ls hf hP hD hS hl
            have hf := (m_X8_narrow_j116.eq_1 _ _ _ _ _ _ _ _ _ _ _ _ _ _).symm.trans hf
            refine lv_ior hx hb dX8_narrow_116 ?_
            refine z_iast hx hb hK hP hD hS 1 rfl (fun z => w_X8_narrow h_t h_p1 h_p2 r_t r_p1 cI n_p2 z a_lineWords a_p1_media a_p1_stores a_p1_held a_p2) (fun _ => rfl) dX8_narrow_117 hf (fun a7 H locs hf hP hD hS => ?_)
            refine z_iinc (k0 := 5) (fun z => [(5, .int z), (0, .ref h_t), (1, .ref h_p1), (2, .ref h_p2), (3, .int p3), (4, .int x4)]) hx hb dX8_narrow_118 hl rfl (by decide) (by decide) (fun _ => rfl) hf (fun v8 ls hf hl => ?_)
            refine lv_goto (tgt := 38) hx hb dX8_narrow_121 (by decide) ?_
            exact ih38 x4 v8 a7 a_lineWords _ _ _ hf hP hD hS (lv_sub hl [1, 2, 3, 4, 5, 0] rfl)
          have L89 : ∀ (x4 : Int32) (x5 : Int32) (a_possible : Nat → Int32) (a_lineWords : Nat → Int32) (H : Heap) (locs : List Loc) (ls : Array Slot), m_X8_narrow_j89 a_p1_media a_p1_stores a_p1_held a_p2 n_p2 p3 (m_X8_narrow_w38 a_p1_media a_p1_stores a_p1_held a_p2 n_p2 p3 (m_X8_narrow_j124 a_p1_media a_p1_stores a_p1_held a_p2 n_p2 p3 (m_X8_narrow_w3 a_p1_media a_p1_stores a_p1_held a_p2 n_p2 p3 n3)) n38) x4 x5 a_possible a_lineWords = some Rr → va_P D vwCl (w_X8_narrow h_t h_p1 h_p2 r_t r_p1 cI n_p2 a_possible a_lineWords a_p1_media a_p1_stores a_p1_held a_p2) H → va_D A (w_X8_narrow h_t h_p1 h_p2 r_t r_p1 cI n_p2 a_possible a_lineWords a_p1_media a_p1_stores a_p1_held a_p2) → va_S A s.heap H locs → lv_has ls 7 [(0, .ref h_t), (1, .ref h_p1), (2, .ref h_p2), (3, .int p3), (4, .int x4), (5, .int x5)] → W p l e rm_X8_narrow s m args below meth c H locs 0 0 Q (F0 m 89 ls []) := by
            intro x4 x5 a_possible a_lineWords H locs ls hf hP hD hS hl
            have hf := (m_X8_narrow_j89.eq_1 _ _ _ _ _ _ _ _ _ _ _).symm.trans hf
            refine lv_aload_n hx hb dX8_narrow_89 rfl (lv_at hl 0 rfl) ?_
            refine z_get (ci := 8) (C := RX8) (T := TX8) (N := 2) (v := .ref (r_t 0)) hx hb hts inT_X8 hown hK hP 0 rfl rfl 0 (by decide) tf_X8_9 rfl dX8_narrow_90 ?_
            refine lv_iload hx hb dX8_narrow_93 (lv_at hl 4 rfl) ?_
            refine lv_dup2_11 hx hb dX8_narrow_95 rfl rfl ?_
            refine z_iald hx hb hK hP 1 rfl dX8_narrow_96 hf (fun y5 hf => ?_)
            refine lv_aload_n hx hb dX8_narrow_97 rfl (lv_at hl 0 rfl) ?_
            refine lv_iload hx hb dX8_narrow_98 (lv_at hl 4 rfl) ?_
            refine lv_aload_n hx hb dX8_narrow_100 rfl (lv_at hl 2 rfl) ?_
            refine lv_iload_n hx hb dX8_narrow_101 rfl (lv_at hl 3 rfl) ?_
            obtain ⟨u6, hu6, hf⟩ := bd_some hf
            refine z_ci (ws1 := w_X8_narrow h_t h_p1 h_p2 r_t r_p1 cI n_p2 a_possible a_lineWords a_p1_media a_p1_stores a_p1_held a_p2) (wr := List.filterMap (fun i : Nat => (w_X8_narrow h_t h_p1 h_p2 r_t r_p1 cI n_p2 a_possible a_lineWords a_p1_media a_p1_stores a_p1_held a_p2)[i]?) [1, 3, 4, 5, 6]) (z_rV (rest := [.int y5, .int x4, .ref (r_t 0)]) hx hb hml hown hcx hl.1 (c_X8_fits l D cI h_t h_p2 r_t n_p2 a_lineWords a_p2 x4 p3 u6 hu6 _) tl_X8_35 ti_X8_fits tz_X8_fits tn_X8 tc_X8_fits tm_X8_fits rfl rfl ⟨Nat.le_of_ble_eq_true rfl, Nat.le_of_ble_eq_true rfl⟩ hK hX hS hA hP hD [0, 2, 7] rfl rfl 0 rfl rfl rfl rfl (Nat.le_of_ble_eq_true rfl) dX8_narrow_102 ⟨Nat.zero_le _, Nat.zero_le _⟩) hP hD hS hA [0, 2, 7] [1, 3, 4, 5, 6] [5, 0, 6, 1, 2, 3, 4, 7] rfl rfl rfl (by decide) rfl rfl (fun H locs hP hD hS => ?_)
            refine z_if_eq (tgt := 115) hx hb dX8_narrow_105 (by decide) hf (fun hf => ?_) (fun hf => ?_)
            · refine lv_iconst (v := 0) hx hb dX8_narrow_115 (by decide) ?_
              exact L116 x4 x5 x4 y5 0 a_possible a_lineWords _ _ _ hf hP hD hS (lv_sub hl [0, 1, 2, 3, 4, 5] rfl)
            · refine lv_iconst (v := 1) hx hb dX8_narrow_108 (by decide) ?_
              refine lv_iload hx hb dX8_narrow_109 (lv_at hl 5 rfl) ?_
              refine lv_ishl hx hb dX8_narrow_111 ?_
              refine lv_goto (tgt := 116) hx hb dX8_narrow_112 (by decide) ?_
              exact L116 x4 x5 x4 y5 ((1 : Int32) <<< (x5 &&& 31)) a_possible a_lineWords _ _ _ hf hP hD hS (lv_sub hl [0, 1, 2, 3, 4, 5] rfl)
          refine lv_iload hx hb dX8_narrow_38 (lv_at hl 5 rfl) ?_
          refine lv_aload_n hx hb dX8_narrow_40 rfl (lv_at hl 1 rfl) ?_
          refine z_get (ci := 1) (C := RX1) (T := TX1) (N := 4) (v := .ref (r_p1 2)) hx hb hts inT_X1 hown hK hP 3 rfl rfl 2 (by decide) tf_X8_29 rfl dX8_narrow_41 ?_
          refine lv_iload hx hb dX8_narrow_44 (lv_at hl 4 rfl) ?_
          refine z_iald hx hb hK hP 6 rfl dX8_narrow_46 hf (fun y3 hf => ?_)
          refine z_icmp_gt (tgt := 124) hx hb dX8_narrow_47 (by decide) hf (fun hf => ?_) (fun hf => ?_)
          · exact L124 x4 a_possible a_lineWords _ _ _ hf hP hD hS (lv_sub hl [0, 1, 2, 3, 4] rfl)
          · refine lv_iload hx hb dX8_narrow_50 (lv_at hl 5 rfl) ?_
            refine z_if_le (tgt := 89) hx hb dX8_narrow_52 (by decide) hf (fun hf => ?_) (fun hf => ?_)
            · exact L89 x4 x5 a_possible a_lineWords _ _ _ hf hP hD hS (lv_sub hl [0, 1, 2, 3, 4, 5] rfl)
            · refine lv_aload_n hx hb dX8_narrow_55 rfl (lv_at hl 1 rfl) ?_
              refine z_get (ci := 1) (C := RX1) (T := TX1) (N := 4) (v := .ref (r_p1 1)) hx hb hts inT_X1 hown hK hP 3 rfl rfl 1 (by decide) tf_X8_32 rfl dX8_narrow_56 ?_
              refine lv_iload hx hb dX8_narrow_59 (lv_at hl 4 rfl) ?_
              refine lv_bipush (v := 6) hx hb dX8_narrow_61 (by decide) ?_
              refine lv_imul hx hb dX8_narrow_63 ?_
              refine lv_iload hx hb dX8_narrow_64 (lv_at hl 5 rfl) ?_
              refine lv_iadd hx hb dX8_narrow_66 ?_
              refine lv_iconst (v := 1) hx hb dX8_narrow_67 (by decide) ?_
              refine lv_isub hx hb dX8_narrow_68 ?_
              refine z_iald hx hb hK hP 5 rfl dX8_narrow_69 hf (fun y9 hf => ?_)
              refine lv_istore (lv' := [(6, .int y9), (0, .ref h_t), (1, .ref h_p1), (2, .ref h_p2), (3, .int p3), (4, .int x4), (5, .int x5)]) hx hb dX8_narrow_70 hl (by decide) rfl (fun ls hl => ?_)
              refine lv_aload_n hx hb dX8_narrow_72 rfl (lv_at hl 1 rfl) ?_
              refine z_get (ci := 8) (C := RX8) (T := TX8) (N := 2) (v := .ref (r_t 1)) hx hb hts inT_X8 hown hK hP 0 rfl rfl 1 (by decide) tf_X8_15 rfl dX8_narrow_73 ?_
              refine lv_iload hx hb dX8_narrow_76 (lv_at hl 0 rfl) ?_
              refine lv_bipush (v := 100) hx hb dX8_narrow_78 (by decide) ?_
              refine lv_idiv hx hb dX8_narrow_80 (by decide) ?_
              refine lv_iconst (v := 4) hx hb dX8_narrow_81 (by decide) ?_
              refine lv_irem hx hb dX8_narrow_82 (by decide) ?_
              refine lv_iload hx hb dX8_narrow_83 (lv_at hl 0 rfl) ?_
              refine lv_bipush (v := 100) hx hb dX8_narrow_85 (by decide) ?_
              refine lv_irem hx hb dX8_narrow_87 (by decide) ?_
              refine z_iast hx hb hK hP hD hS 2 rfl (fun z => w_X8_narrow h_t h_p1 h_p2 r_t r_p1 cI n_p2 a_possible z a_p1_media a_p1_stores a_p1_held a_p2) (fun _ => rfl) dX8_narrow_88 hf (fun a10 H locs hf hP hD hS => ?_)
              exact L89 x4 x5 a_possible a10 _ _ _ hf hP hD hS (lv_sub hl [1, 2, 3, 4, 5, 6] rfl)
      refine lv_iload hx hb dX8_narrow_3 (lv_at hl 4 rfl) ?_
      refine lv_bipush (v := 16) hx hb dX8_narrow_5 (by decide) ?_
      refine z_icmp_ge (tgt := 130) hx hb dX8_narrow_7 (by decide) hf (fun hf => ?_) (fun hf => ?_)
      · exact hret (a_possible, a_lineWords) _ _ _ _ hf hP hD hS dX8_narrow_130
      · refine lv_aload_n hx hb dX8_narrow_10 rfl (lv_at hl 1 rfl) ?_
        refine z_get (ci := 1) (C := RX1) (T := TX1) (N := 4) (v := .ref (r_p1 0)) hx hb hts inT_X1 hown hK hP 3 rfl rfl 0 (by decide) tf_X8_18 rfl dX8_narrow_11 ?_
        refine lv_iload hx hb dX8_narrow_14 (lv_at hl 4 rfl) ?_
        refine lv_iconst (v := 4) hx hb dX8_narrow_16 (by decide) ?_
        refine lv_imul hx hb dX8_narrow_17 ?_
        refine lv_aload_n hx hb dX8_narrow_18 rfl (lv_at hl 0 rfl) ?_
        refine z_get (ci := 8) (C := RX8) (T := TX8) (N := 2) (v := .ref (r_t 1)) hx hb hts inT_X8 hown hK hP 0 rfl rfl 1 (by decide) tf_X8_15 rfl dX8_narrow_19 ?_
        refine lv_iconst (v := 0) hx hb dX8_narrow_22 (by decide) ?_
        refine lv_iconst (v := 4) hx hb dX8_narrow_23 (by decide) ?_
        refine z_copy (rest := []) hx hb (hml.trans hl.1.symm) hown hts tl_X8_23 tnat_copy ts_copy tn_J10 hK hP hD hS 4 2 rfl rfl (fun z => w_X8_narrow h_t h_p1 h_p2 r_t r_p1 cI n_p2 a_possible z a_p1_media a_p1_stores a_p1_held a_p2) (fun _ => rfl) (Nat.le_of_ble_eq_true rfl) (by decide) dX8_narrow_24 hf (fun a1 H locs hf hP hD hS => ?_)
        refine lv_aload_n hx hb dX8_narrow_27 rfl (lv_at hl 0 rfl) ?_
        refine z_get (ci := 8) (C := RX8) (T := TX8) (N := 2) (v := .ref (r_t 0)) hx hb hts inT_X8 hown hK hP 0 rfl rfl 0 (by decide) tf_X8_9 rfl dX8_narrow_28 ?_
        refine lv_iload hx hb dX8_narrow_31 (lv_at hl 4 rfl) ?_
        refine lv_iconst (v := 0) hx hb dX8_narrow_33 (by decide) ?_
        refine z_iast hx hb hK hP hD hS 1 rfl (fun z => w_X8_narrow h_t h_p1 h_p2 r_t r_p1 cI n_p2 z a1 a_p1_media a_p1_stores a_p1_held a_p2) (fun _ => rfl) dX8_narrow_34 hf (fun a2 H locs hf hP hD hS => ?_)
        refine lv_iconst (v := 0) hx hb dX8_narrow_35 (by decide) ?_
        refine lv_istore (lv' := [(5, .int 0), (0, .ref h_t), (1, .ref h_p1), (2, .ref h_p2), (3, .int p3), (4, .int x4)]) hx hb dX8_narrow_36 hl (by decide) rfl (fun ls hl => ?_)
        exact L38 fuelN x4 0 a2 a1 _ _ _ hf hP hD hS (lv_sub hl [1, 2, 3, 4, 5, 0] rfl)
  refine lv_iconst (v := 0) hx hb dX8_narrow_0 (by decide) ?_
  refine lv_istore (lv' := [(4, .int 0), (0, .ref h_t), (1, .ref h_p1), (2, .ref h_p2), (3, .int p3)]) hx hb dX8_narrow_1 hl (by decide) rfl (fun ls hl => ?_)
  exact L3 fuelN 0 a_possible a_lineWords _ _ _ hf hP hD hS (lv_sub hl [1, 2, 3, 4, 0] rfl)
abbrev w_X8_ordersLeft (h_t : Nat) (r_t : Nat → Nat) (cI : ClassId) (a_possible : Nat → Int32) : va_W := [(h_t, .inr (8, o_X8 r_t)), ((r_t 0), .inl (cI, 16, .inl a_possible))]
abbrev rm_X8_ordersLeft : Room := { frames := 1, cells := 0, slots := 0, locals := 20 }
def m_X8_ordersLeft_w4 (a_possible : Nat → Int32) : Nat → Int32 → Int32 → Option (Int32)
  | 0, _, _ => none
  | n4 + 1, x1, x2 =>
    if 16 ≤ x2 then (
    some x1)
    else (
    rd a_possible 16 x2 fun y1 =>
    bd (m_J6_bitCount_0f7a4 y1) fun u2 =>
    nm (x1 * u2) fun v3 =>
    nm (x2 + 1) fun v4 =>
    m_X8_ordersLeft_w4 a_possible n4 v3 v4)
def m_X8_ordersLeft (a_possible : Nat → Int32) : Option (Int32) :=
  m_X8_ordersLeft_w4 a_possible fuelN 1 0
set_option maxHeartbeats 4000000 in
set_option maxRecDepth 100000 in
theorem c_X8_ordersLeft (l : Launch) (D : va_G) (cI : ClassId) (h_t : Nat) (r_t : Nat → Nat) (a_possible : Nat → Int32) (Rr : Int32) (hf : m_X8_ordersLeft a_possible = some Rr) : CTi l yX8_ordersLeft (Cond.code yX8_ordersLeft cX8_ordersLeft 3 (some .int)) rm_X8_ordersLeft D cI [.ref h_t] (w_X8_ordersLeft h_t r_t cI a_possible) Rr (w_X8_ordersLeft h_t r_t cI a_possible) := by
  refine z_begin_i (own := RX8) (ρ := Int32) (fun u => w_X8_ordersLeft h_t r_t cI a_possible) (fun u => u) (by decide +kernel) rfl (Nat.le_of_ble_eq_true rfl) ?_
  intro p e s m args below meth c ls Q A hx hb hml hts hcx hown hK hX hA hP hD hS hl hret
  have hl : lv_has ls 3 [(0, .ref h_t)] := hl
  have hf := (m_X8_ordersLeft.eq_1 _).symm.trans hf
  have L4 : ∀ (n4 : Nat) (x1 : Int32) (x2 : Int32) (H : Heap) (locs : List Loc) (ls : Array Slot), m_X8_ordersLeft_w4 a_possible n4 x1 x2 = some Rr → va_P D vwCl (w_X8_ordersLeft h_t r_t cI a_possible) H → va_D A (w_X8_ordersLeft h_t r_t cI a_possible) → va_S A s.heap H locs → lv_has ls 3 [(0, .ref h_t), (1, .int x1), (2, .int x2)] → W p l e rm_X8_ordersLeft s m args below meth c H locs 0 0 Q (F0 m 4 ls []) := by
    intro n4
    induction n4 with
    | zero => intro x1 x2 H locs ls hf; cases (show (none : Option _) = some Rr from hf)
    | succ n4 ih4 =>
      intro x1 x2 H locs ls hf hP hD hS hl
      have hf := (m_X8_ordersLeft_w4.eq_2 _ _ _ _).symm.trans hf
      refine lv_iload_n hx hb dX8_ordersLeft_4 rfl (lv_at hl 2 rfl) ?_
      refine lv_bipush (v := 16) hx hb dX8_ordersLeft_5 (by decide) ?_
      refine z_icmp_ge (tgt := 28) hx hb dX8_ordersLeft_7 (by decide) hf (fun hf => ?_) (fun hf => ?_)
      · refine lv_iload_n hx hb dX8_ordersLeft_28 rfl (lv_at hl 1 rfl) ?_
        exact hret x1 _ _ _ _ hf hP hD hS dX8_ordersLeft_29
      · refine lv_iload_n hx hb dX8_ordersLeft_10 rfl (lv_at hl 1 rfl) ?_
        refine lv_aload_n hx hb dX8_ordersLeft_11 rfl (lv_at hl 0 rfl) ?_
        refine z_get (ci := 8) (C := RX8) (T := TX8) (N := 2) (v := .ref (r_t 0)) hx hb hts inT_X8 hown hK hP 0 rfl rfl 0 (by decide) tf_X8_9 rfl dX8_ordersLeft_12 ?_
        refine lv_iload_n hx hb dX8_ordersLeft_15 rfl (lv_at hl 2 rfl) ?_
        refine z_iald hx hb hK hP 1 rfl dX8_ordersLeft_16 hf (fun y1 hf => ?_)
        obtain ⟨u2, hu2, hf⟩ := bd_some hf
        refine z_ci (ws1 := w_X8_ordersLeft h_t r_t cI a_possible) (wr := List.filterMap (fun i : Nat => (w_X8_ordersLeft h_t r_t cI a_possible)[i]?) [0, 1]) (z_rS (rest := [.int x1]) hx hb hml hown hcx hl.1 (c_J6_bitCount_0f7a4 l D cI y1 u2 hu2 _) tl_X8_39 ts_J6_bitCount_0f7a4 tn_J6 tc_J6_bitCount_0f7a4 tm_J6_bitCount_0f7a4 rfl rfl ⟨Nat.le_of_ble_eq_true rfl, Nat.le_of_ble_eq_true rfl⟩ hK hX hS hA hP hD [] rfl rfl rfl rfl (Nat.le_of_ble_eq_true rfl) dX8_ordersLeft_17 ⟨Nat.zero_le _, Nat.zero_le _⟩) hP hD hS hA [] [0, 1] [0, 1] rfl rfl rfl (by decide) rfl rfl (fun H locs hP hD hS => ?_)
        refine lv_imul hx hb dX8_ordersLeft_20 ?_
        refine z_istore_n (fun z => [(1, .int z), (0, .ref h_t), (2, .int x2)]) hx hb dX8_ordersLeft_21 rfl hl (by decide) (fun _ => rfl) hf (fun v3 ls hf hl => ?_)
        refine z_iinc (k0 := 2) (fun z => [(2, .int z), (1, .int v3), (0, .ref h_t)]) hx hb dX8_ordersLeft_22 hl rfl (by decide) (by decide) (fun _ => rfl) hf (fun v4 ls hf hl => ?_)
        refine lv_goto (tgt := 4) hx hb dX8_ordersLeft_25 (by decide) ?_
        exact ih4 v3 v4 _ _ _ hf hP hD hS (lv_sub hl [2, 1, 0] rfl)
  refine lv_iconst (v := 1) hx hb dX8_ordersLeft_0 (by decide) ?_
  refine lv_istore_n (lv' := [(1, .int 1), (0, .ref h_t)]) hx hb dX8_ordersLeft_1 rfl hl (by decide) rfl (fun ls hl => ?_)
  refine lv_iconst (v := 0) hx hb dX8_ordersLeft_2 (by decide) ?_
  refine lv_istore_n (lv' := [(2, .int 0), (1, .int 1), (0, .ref h_t)]) hx hb dX8_ordersLeft_3 rfl hl (by decide) rfl (fun ls hl => ?_)
  exact L4 fuelN 1 0 _ _ _ hf hP hD hS (lv_sub hl [2, 1, 0] rfl)
abbrev w_J6_numberOfTrailingZeros_0f7a4 (cI : ClassId) : va_W := []
abbrev rm_J6_numberOfTrailingZeros_0f7a4 : Room := { frames := 0, cells := 0, slots := 0, locals := 0 }
def m_J6_numberOfTrailingZeros_0f7a4_j62 (x0 : Int32) (x1 : Int32) : Option (Int32) :=
  if x0 ≤ 4 then (
  some (x1 + (x0.toUInt32 >>> ((1 : Int32).toUInt32 &&& Int32.toUInt32 31)).toInt32))
  else (
  nm (x1 + 2) fun v2 =>
  nm ((x0.toUInt32 >>> ((2 : Int32).toUInt32 &&& Int32.toUInt32 31)).toInt32) fun v3 =>
  some (v2 + (v3.toUInt32 >>> ((1 : Int32).toUInt32 &&& Int32.toUInt32 31)).toInt32))
def m_J6_numberOfTrailingZeros_0f7a4_j49 (x0 : Int32) (x1 : Int32) : Option (Int32) :=
  if x0 ≤ 16 then (
  m_J6_numberOfTrailingZeros_0f7a4_j62 x0 x1)
  else (
  nm (x1 + 4) fun v4 =>
  nm ((x0.toUInt32 >>> ((4 : Int32).toUInt32 &&& Int32.toUInt32 31)).toInt32) fun v5 =>
  m_J6_numberOfTrailingZeros_0f7a4_j62 v5 v4)
def m_J6_numberOfTrailingZeros_0f7a4_j34 (x0 : Int32) (x1 : Int32) : Option (Int32) :=
  if x0 ≤ 256 then (
  m_J6_numberOfTrailingZeros_0f7a4_j49 x0 x1)
  else (
  nm (x1 + 8) fun v6 =>
  nm ((x0.toUInt32 >>> ((8 : Int32).toUInt32 &&& Int32.toUInt32 31)).toInt32) fun v7 =>
  m_J6_numberOfTrailingZeros_0f7a4_j49 v7 v6)
def m_J6_numberOfTrailingZeros_0f7a4 (p0 : Int32) : Option (Int32) :=
  nm ((p0 ^^^ (-1)) &&& (p0 - 1)) fun v1 =>
  if 0 < v1 then (
  if v1 ≤ 65536 then (
  m_J6_numberOfTrailingZeros_0f7a4_j34 v1 1)
  else (
  nm (1 + 16) fun v8 =>
  nm ((v1.toUInt32 >>> ((16 : Int32).toUInt32 &&& Int32.toUInt32 31)).toInt32) fun v9 =>
  m_J6_numberOfTrailingZeros_0f7a4_j34 v9 v8))
  else (
  some (v1 &&& 32))
set_option maxHeartbeats 4000000 in
set_option maxRecDepth 100000 in
theorem c_J6_numberOfTrailingZeros_0f7a4 (l : Launch) (D : va_G) (cI : ClassId) (p0 : Int32) (Rr : Int32) (hf : m_J6_numberOfTrailingZeros_0f7a4 p0 = some Rr) : CTi l yJ6_numberOfTrailingZeros_0f7a4 (Cond.code yJ6_numberOfTrailingZeros_0f7a4 cJ6_numberOfTrailingZeros_0f7a4 2 (some .int)) rm_J6_numberOfTrailingZeros_0f7a4 D cI [.int p0] (w_J6_numberOfTrailingZeros_0f7a4 cI) Rr (w_J6_numberOfTrailingZeros_0f7a4 cI) := by
  refine z_begin_i (own := RJ6) (ρ := Int32) (fun u => w_J6_numberOfTrailingZeros_0f7a4 cI) (fun u => u) (by decide +kernel) rfl (Nat.le_of_ble_eq_true rfl) ?_
  intro p e s m args below meth c ls Q A hx hb hml hts hcx hown hK hX hA hP hD hS hl hret
  have hl : lv_has ls 2 [(0, .int p0)] := hl
  have hf := (m_J6_numberOfTrailingZeros_0f7a4.eq_1 _).symm.trans hf
  have L62 : ∀ (x0 : Int32) (x1 : Int32) (H : Heap) (locs : List Loc) (ls : Array Slot), m_J6_numberOfTrailingZeros_0f7a4_j62 x0 x1 = some Rr → va_P D vwCl (w_J6_numberOfTrailingZeros_0f7a4 cI) H → va_D A (w_J6_numberOfTrailingZeros_0f7a4 cI) → va_S A s.heap H locs → lv_has ls 2 [(0, .int x0), (1, .int x1)] → W p l e rm_J6_numberOfTrailingZeros_0f7a4 s m args below meth c H locs 0 0 Q (F0 m 62 ls []) := by
    intro x0 x1 H locs ls hf hP hD hS hl
    have hf := (m_J6_numberOfTrailingZeros_0f7a4_j62.eq_1 _ _).symm.trans hf
    refine lv_iload_n hx hb dJ6_numberOfTrailingZeros_0f7a4_62 rfl (lv_at hl 0 rfl) ?_
    refine lv_iconst (v := 4) hx hb dJ6_numberOfTrailingZeros_0f7a4_63 (by decide) ?_
    refine z_icmp_le (tgt := 74) hx hb dJ6_numberOfTrailingZeros_0f7a4_64 (by decide) hf (fun hf => ?_) (fun hf => ?_)
    · refine lv_iload_n hx hb dJ6_numberOfTrailingZeros_0f7a4_74 rfl (lv_at hl 1 rfl) ?_
      refine lv_iload_n hx hb dJ6_numberOfTrailingZeros_0f7a4_75 rfl (lv_at hl 0 rfl) ?_
      refine lv_iconst (v := 1) hx hb dJ6_numberOfTrailingZeros_0f7a4_76 (by decide) ?_
      refine lv_iushr hx hb dJ6_numberOfTrailingZeros_0f7a4_77 rfl ?_
      refine lv_iadd hx hb dJ6_numberOfTrailingZeros_0f7a4_78 ?_
      exact hret (x1 + (x0.toUInt32 >>> ((1 : Int32).toUInt32 &&& Int32.toUInt32 31)).toInt32) _ _ _ _ hf hP hD hS dJ6_numberOfTrailingZeros_0f7a4_79
    · refine z_iinc (k0 := 1) (fun z => [(1, .int z), (0, .int x0)]) hx hb dJ6_numberOfTrailingZeros_0f7a4_67 hl rfl (by decide) (by decide) (fun _ => rfl) hf (fun v2 ls hf hl => ?_)
      refine lv_iload_n hx hb dJ6_numberOfTrailingZeros_0f7a4_70 rfl (lv_at hl 1 rfl) ?_
      refine lv_iconst (v := 2) hx hb dJ6_numberOfTrailingZeros_0f7a4_71 (by decide) ?_
      refine lv_iushr hx hb dJ6_numberOfTrailingZeros_0f7a4_72 rfl ?_
      refine z_istore_n (fun z => [(0, .int z), (1, .int v2)]) hx hb dJ6_numberOfTrailingZeros_0f7a4_73 rfl hl (by decide) (fun _ => rfl) hf (fun v3 ls hf hl => ?_)
      refine lv_iload_n hx hb dJ6_numberOfTrailingZeros_0f7a4_74 rfl (lv_at hl 1 rfl) ?_
      refine lv_iload_n hx hb dJ6_numberOfTrailingZeros_0f7a4_75 rfl (lv_at hl 0 rfl) ?_
      refine lv_iconst (v := 1) hx hb dJ6_numberOfTrailingZeros_0f7a4_76 (by decide) ?_
      refine lv_iushr hx hb dJ6_numberOfTrailingZeros_0f7a4_77 rfl ?_
      refine lv_iadd hx hb dJ6_numberOfTrailingZeros_0f7a4_78 ?_
      exact hret (v2 + (v3.toUInt32 >>> ((1 : Int32).toUInt32 &&& Int32.toUInt32 31)).toInt32) _ _ _ _ hf hP hD hS dJ6_numberOfTrailingZeros_0f7a4_79
  have L49 : ∀ (x0 : Int32) (x1 : Int32) (H : Heap) (locs : List Loc) (ls : Array Slot), m_J6_numberOfTrailingZeros_0f7a4_j49 x0 x1 = some Rr → va_P D vwCl (w_J6_numberOfTrailingZeros_0f7a4 cI) H → va_D A (w_J6_numberOfTrailingZeros_0f7a4 cI) → va_S A s.heap H locs → lv_has ls 2 [(0, .int x0), (1, .int x1)] → W p l e rm_J6_numberOfTrailingZeros_0f7a4 s m args below meth c H locs 0 0 Q (F0 m 49 ls []) := by
    intro x0 x1 H locs ls hf hP hD hS hl
    have hf := (m_J6_numberOfTrailingZeros_0f7a4_j49.eq_1 _ _).symm.trans hf
    refine lv_iload_n hx hb dJ6_numberOfTrailingZeros_0f7a4_49 rfl (lv_at hl 0 rfl) ?_
    refine lv_bipush (v := 16) hx hb dJ6_numberOfTrailingZeros_0f7a4_50 (by decide) ?_
    refine z_icmp_le (tgt := 62) hx hb dJ6_numberOfTrailingZeros_0f7a4_52 (by decide) hf (fun hf => ?_) (fun hf => ?_)
    · exact L62 x0 x1 _ _ _ hf hP hD hS (lv_sub hl [0, 1] rfl)
    · refine z_iinc (k0 := 1) (fun z => [(1, .int z), (0, .int x0)]) hx hb dJ6_numberOfTrailingZeros_0f7a4_55 hl rfl (by decide) (by decide) (fun _ => rfl) hf (fun v4 ls hf hl => ?_)
      refine lv_iload_n hx hb dJ6_numberOfTrailingZeros_0f7a4_58 rfl (lv_at hl 1 rfl) ?_
      refine lv_iconst (v := 4) hx hb dJ6_numberOfTrailingZeros_0f7a4_59 (by decide) ?_
      refine lv_iushr hx hb dJ6_numberOfTrailingZeros_0f7a4_60 rfl ?_
      refine z_istore_n (fun z => [(0, .int z), (1, .int v4)]) hx hb dJ6_numberOfTrailingZeros_0f7a4_61 rfl hl (by decide) (fun _ => rfl) hf (fun v5 ls hf hl => ?_)
      exact L62 v5 v4 _ _ _ hf hP hD hS (lv_sub hl [0, 1] rfl)
  have L34 : ∀ (x0 : Int32) (x1 : Int32) (H : Heap) (locs : List Loc) (ls : Array Slot), m_J6_numberOfTrailingZeros_0f7a4_j34 x0 x1 = some Rr → va_P D vwCl (w_J6_numberOfTrailingZeros_0f7a4 cI) H → va_D A (w_J6_numberOfTrailingZeros_0f7a4 cI) → va_S A s.heap H locs → lv_has ls 2 [(0, .int x0), (1, .int x1)] → W p l e rm_J6_numberOfTrailingZeros_0f7a4 s m args below meth c H locs 0 0 Q (F0 m 34 ls []) := by
    intro x0 x1 H locs ls hf hP hD hS hl
    have hf := (m_J6_numberOfTrailingZeros_0f7a4_j34.eq_1 _ _).symm.trans hf
    refine lv_iload_n hx hb dJ6_numberOfTrailingZeros_0f7a4_34 rfl (lv_at hl 0 rfl) ?_
    refine lv_sipush (v := 256) hx hb dJ6_numberOfTrailingZeros_0f7a4_35 (by decide) ?_
    refine z_icmp_le (tgt := 49) hx hb dJ6_numberOfTrailingZeros_0f7a4_38 (by decide) hf (fun hf => ?_) (fun hf => ?_)
    · exact L49 x0 x1 _ _ _ hf hP hD hS (lv_sub hl [0, 1] rfl)
    · refine z_iinc (k0 := 1) (fun z => [(1, .int z), (0, .int x0)]) hx hb dJ6_numberOfTrailingZeros_0f7a4_41 hl rfl (by decide) (by decide) (fun _ => rfl) hf (fun v6 ls hf hl => ?_)
      refine lv_iload_n hx hb dJ6_numberOfTrailingZeros_0f7a4_44 rfl (lv_at hl 1 rfl) ?_
      refine lv_bipush (v := 8) hx hb dJ6_numberOfTrailingZeros_0f7a4_45 (by decide) ?_
      refine lv_iushr hx hb dJ6_numberOfTrailingZeros_0f7a4_47 rfl ?_
      refine z_istore_n (fun z => [(0, .int z), (1, .int v6)]) hx hb dJ6_numberOfTrailingZeros_0f7a4_48 rfl hl (by decide) (fun _ => rfl) hf (fun v7 ls hf hl => ?_)
      exact L49 v7 v6 _ _ _ hf hP hD hS (lv_sub hl [0, 1] rfl)
  refine lv_iload_n hx hb dJ6_numberOfTrailingZeros_0f7a4_0 rfl (lv_at hl 0 rfl) ?_
  refine lv_iconst (v := (-1)) hx hb dJ6_numberOfTrailingZeros_0f7a4_1 (by decide) ?_
  refine lv_ixor hx hb dJ6_numberOfTrailingZeros_0f7a4_2 ?_
  refine lv_iload_n hx hb dJ6_numberOfTrailingZeros_0f7a4_3 rfl (lv_at hl 0 rfl) ?_
  refine lv_iconst (v := 1) hx hb dJ6_numberOfTrailingZeros_0f7a4_4 (by decide) ?_
  refine lv_isub hx hb dJ6_numberOfTrailingZeros_0f7a4_5 ?_
  refine lv_iand hx hb dJ6_numberOfTrailingZeros_0f7a4_6 ?_
  refine z_istore_n (fun z => [(0, .int z)]) hx hb dJ6_numberOfTrailingZeros_0f7a4_7 rfl hl (by decide) (fun _ => rfl) hf (fun v1 ls hf hl => ?_)
  refine lv_iload_n hx hb dJ6_numberOfTrailingZeros_0f7a4_8 rfl (lv_at hl 0 rfl) ?_
  refine z_if_gt (tgt := 17) hx hb dJ6_numberOfTrailingZeros_0f7a4_9 (by decide) hf (fun hf => ?_) (fun hf => ?_)
  · refine lv_iconst (v := 1) hx hb dJ6_numberOfTrailingZeros_0f7a4_17 (by decide) ?_
    refine lv_istore_n (lv' := [(1, .int 1), (0, .int v1)]) hx hb dJ6_numberOfTrailingZeros_0f7a4_18 rfl hl (by decide) rfl (fun ls hl => ?_)
    refine lv_iload_n hx hb dJ6_numberOfTrailingZeros_0f7a4_19 rfl (lv_at hl 1 rfl) ?_
    refine lv_ldcw hx hb hown (hts _ tk_J6_264) dJ6_numberOfTrailingZeros_0f7a4_20 ?_
    refine z_icmp_le (tgt := 34) hx hb dJ6_numberOfTrailingZeros_0f7a4_23 (by decide) hf (fun hf => ?_) (fun hf => ?_)
    · exact L34 v1 1 _ _ _ hf hP hD hS (lv_sub hl [1, 0] rfl)
    · refine z_iinc (k0 := 0) (fun z => [(1, .int z), (0, .int v1)]) hx hb dJ6_numberOfTrailingZeros_0f7a4_26 hl rfl (by decide) (by decide) (fun _ => rfl) hf (fun v8 ls hf hl => ?_)
      refine lv_iload_n hx hb dJ6_numberOfTrailingZeros_0f7a4_29 rfl (lv_at hl 1 rfl) ?_
      refine lv_bipush (v := 16) hx hb dJ6_numberOfTrailingZeros_0f7a4_30 (by decide) ?_
      refine lv_iushr hx hb dJ6_numberOfTrailingZeros_0f7a4_32 rfl ?_
      refine z_istore_n (fun z => [(0, .int z), (1, .int v8)]) hx hb dJ6_numberOfTrailingZeros_0f7a4_33 rfl hl (by decide) (fun _ => rfl) hf (fun v9 ls hf hl => ?_)
      exact L34 v9 v8 _ _ _ hf hP hD hS (lv_sub hl [0, 1] rfl)
  · refine lv_iload_n hx hb dJ6_numberOfTrailingZeros_0f7a4_12 rfl (lv_at hl 0 rfl) ?_
    refine lv_bipush (v := 32) hx hb dJ6_numberOfTrailingZeros_0f7a4_13 (by decide) ?_
    refine lv_iand hx hb dJ6_numberOfTrailingZeros_0f7a4_15 ?_
    exact hret (v1 &&& 32) _ _ _ _ hf hP hD hS dJ6_numberOfTrailingZeros_0f7a4_16
