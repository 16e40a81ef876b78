abbrev w_X6_isLetters (h_t : Nat) (r_t : Nat → Nat) (F_t : Nat → Int32) (cI : ClassId) (n_t_text : Nat) (a_text : Nat → Int32) : va_W := [(h_t, .inr (6, o_X6 r_t F_t)), ((r_t 2), .inl (cI, n_t_text, .inl a_text))]
abbrev rm_X6_isLetters : Room := { frames := 4, cells := 0, slots := 0, locals := 87 }
def m_X6_isLetters_w28 (F_t : Nat → Int32) (a_text : Nat → Int32) (n_t_text : Nat) (w_p1 : Nat) : Nat → Int32 → Option (Int32)
  | 0, _ => none
  | n28 + 1, x2 =>
    if (slenV w_p1) ≤ x2 then (
    some 1)
    else (
    rd a_text n_t_text ((F_t 6) + x2) fun y1 =>
    rdc w_p1 x2 fun y2 =>
    if y1 = y2 then (
    nm (x2 + 1) fun v3 =>
    m_X6_isLetters_w28 F_t a_text n_t_text w_p1 n28 v3)
    else (
    some 0))
def m_X6_isLetters (F_t : Nat → Int32) (a_text : Nat → Int32) (n_t_text : Nat) (w_p1 : Nat) : Option (Int32) :=
  if (F_t 5) = 1 then (
  if ((F_t 4) - (F_t 6)) = (slenV w_p1) then (
  m_X6_isLetters_w28 F_t a_text n_t_text w_p1 fuelN 0)
  else (
  some 0))
  else (
  some 0)
set_option maxHeartbeats 4000000 in
set_option maxRecDepth 100000 in
theorem c_X6_isLetters (l : Launch) (D : va_G) (cI : ClassId) (h_t : Nat) (r_t : Nat → Nat) (F_t : Nat → Int32) (n_t_text : Nat) (a_text : Nat → Int32) (w_p1 : Nat) (hw_p1 : w_p1 < 12) (Rr : Int32) (hf : m_X6_isLetters F_t a_text n_t_text w_p1 = some Rr) : CTi l yX6_isLetters (Cond.code yX6_isLetters cX6_isLetters 3 (some .boolean)) rm_X6_isLetters D cI [.ref h_t, .ref (D.2 200 w_p1)] (w_X6_isLetters h_t r_t F_t cI n_t_text a_text) Rr (w_X6_isLetters h_t r_t F_t cI n_t_text a_text) := by
  refine z_begin_z (own := RX6) (ρ := Int32) (fun u => w_X6_isLetters h_t r_t F_t cI n_t_text a_text) (fun u => u) (by decide +kernel) rfl (Nat.le_of_ble_eq_true rfl) ?_
  intro p e s m args below meth c ls Q A hx hb hml hts hcx hown hK hX hA hP hD hS hl hret
  have hl : lv_has ls 3 [(0, .ref h_t), (1, .ref (D.2 200 w_p1))] := hl
  have hf := (m_X6_isLetters.eq_1 _ _ _ _).symm.trans hf
  have L28 : ∀ (n28 : Nat) (x2 : Int32) (H : Heap) (locs : List Loc) (ls : Array Slot), m_X6_isLetters_w28 F_t a_text n_t_text w_p1 n28 x2 = some Rr → va_P D vwCl (w_X6_isLetters h_t r_t F_t cI n_t_text a_text) H → va_D A (w_X6_isLetters h_t r_t F_t cI n_t_text a_text) → va_S A s.heap H locs → lv_has ls 3 [(0, .ref h_t), (1, .ref (D.2 200 w_p1)), (2, .int x2)] → W p l e rm_X6_isLetters s m args below meth c H locs 0 0 Q (F0 m 28 ls []) := by
    intro n28
    induction n28 with
    | zero => intro x2 H locs ls hf; cases (show (none : Option _) = some Rr from hf)
    | succ n28 ih28 =>
      intro x2 H locs ls hf hP hD hS hl
      have hf := (m_X6_isLetters_w28.eq_2 _ _ _ _ _ _).symm.trans hf
      refine lv_iload_n hx hb dX6_isLetters_28 rfl (lv_at hl 2 rfl) ?_
      refine lv_aload_n hx hb dX6_isLetters_29 rfl (lv_at hl 1 rfl) ?_
      obtain ⟨q_, hq_, hb_, h1_, h2_, h3_, h4_, h5_⟩ := rws_at hX hw_p1
      refine z_ci (ws1 := w_X6_isLetters h_t r_t F_t cI n_t_text a_text) (wr := w_X6_isLetters h_t r_t F_t cI n_t_text a_text) (z_rVO (rest := [.int x2]) hx hb hml hown hcx hl.1 (c_slen l D cI w_p1 hw_p1 _) tl_X6_100 ti_J0_length_8abf5 tz_J0_length_8abf5 tn_J0 tc_J0_length_8abf5 tm_J0_length_8abf5 rfl rfl ⟨Nat.le_of_ble_eq_true rfl, Nat.le_of_ble_eq_true rfl⟩ hK hX hS hA hP hD h2_ rfl rfl (Nat.le_of_ble_eq_true rfl) dX6_isLetters_30 ⟨Nat.zero_le _, Nat.zero_le _⟩) hP hD hS hA [] [0, 1] [0, 1] rfl rfl rfl (by decide) rfl rfl (fun H locs hP hD hS => ?_)
      refine z_icmp_ge (tgt := 63) hx hb dX6_isLetters_33 (by decide) hf (fun hf => ?_) (fun hf => ?_)
      · refine lv_iconst (v := 1) hx hb dX6_isLetters_63 (by decide) ?_
        exact hret 1 _ _ _ _ (Or.inr rfl) hf hP hD hS dX6_isLetters_64
      · refine lv_aload_n hx hb dX6_isLetters_36 rfl (lv_at hl 0 rfl) ?_
        refine z_get (ci := 6) (C := RX6) (T := TX6) (N := 11) (v := .ref (r_t 2)) hx hb hts inT_X6 hown hK hP 0 rfl rfl 2 (by decide) tf_X6_29 rfl dX6_isLetters_37 ?_
        refine lv_aload_n hx hb dX6_isLetters_40 rfl (lv_at hl 0 rfl) ?_
        refine z_get (ci := 6) (C := RX6) (T := TX6) (N := 11) (v := .int (F_t 6)) hx hb hts inT_X6 hown hK hP 0 rfl rfl 6 (by decide) tf_X6_42 rfl dX6_isLetters_41 ?_
        refine lv_iload_n hx hb dX6_isLetters_44 rfl (lv_at hl 2 rfl) ?_
        refine lv_iadd hx hb dX6_isLetters_45 ?_
        refine z_iald hx hb hK hP 1 rfl dX6_isLetters_46 hf (fun y1 hf => ?_)
        refine lv_aload_n hx hb dX6_isLetters_47 rfl (lv_at hl 1 rfl) ?_
        refine lv_iload_n hx hb dX6_isLetters_48 rfl (lv_at hl 2 rfl) ?_
        obtain ⟨q_, hq_, hb_, h1_, h2_, h3_, h4_, h5_⟩ := rws_at hX hw_p1
        obtain ⟨hk_, hk2_, hf⟩ := rdc_some hw_p1 hf
        obtain ⟨y2, hz_⟩ : ∃ z, z = scharV w_p1 (x2).toNatClampNeg := ⟨_, rfl⟩
        rw [← hz_] at hf
        refine z_ci (ws1 := w_X6_isLetters h_t r_t F_t cI n_t_text a_text) (wr := w_X6_isLetters h_t r_t F_t cI n_t_text a_text) (z_rVO (rest := [.int y1]) hx hb hml hown hcx hl.1 (c_schar l D cI w_p1 hw_p1 _ hk_ hk2_ _) tl_X6_104 ti_J0_charAt_5068e tz_J0_charAt_5068e tn_J0 tc_J0_charAt_5068e tm_J0_charAt_5068e rfl rfl ⟨Nat.le_of_ble_eq_true rfl, Nat.le_of_ble_eq_true rfl⟩ hK hX hS hA hP hD h2_ rfl rfl (Nat.le_of_ble_eq_true rfl) dX6_isLetters_49 ⟨Nat.zero_le _, Nat.zero_le _⟩) hP hD hS hA [] [0, 1] [0, 1] rfl rfl rfl (by decide) rfl rfl (fun H locs hP hD hS => ?_)
        rw [← hz_]
        refine z_icmp_eq (tgt := 57) hx hb dX6_isLetters_52 (by decide) hf (fun hf => ?_) (fun hf => ?_)
        · refine z_iinc (k0 := 2) (fun z => [(2, .int z), (0, .ref h_t), (1, .ref (D.2 200 w_p1))]) hx hb dX6_isLetters_57 hl rfl (by decide) (by decide) (fun _ => rfl) hf (fun v3 ls hf hl => ?_)
          refine lv_goto (tgt := 28) hx hb dX6_isLetters_60 (by decide) ?_
          exact ih28 v3 _ _ _ hf hP hD hS (lv_sub hl [1, 2, 0] rfl)
        · refine lv_iconst (v := 0) hx hb dX6_isLetters_55 (by decide) ?_
          exact hret 0 _ _ _ _ (Or.inl rfl) hf hP hD hS dX6_isLetters_56
  refine lv_aload_n hx hb dX6_isLetters_0 rfl (lv_at hl 0 rfl) ?_
  refine z_get (ci := 6) (C := RX6) (T := TX6) (N := 11) (v := .int (F_t 5)) hx hb hts inT_X6 hown hK hP 0 rfl rfl 5 (by decide) tf_X6_39 rfl dX6_isLetters_1 ?_
  refine lv_iconst (v := 1) hx hb dX6_isLetters_4 (by decide) ?_
  refine z_icmp_ne (tgt := 24) hx hb dX6_isLetters_5 (by decide) hf (fun hf => ?_) (fun hf => ?_)
  · refine lv_iconst (v := 0) hx hb dX6_isLetters_24 (by decide) ?_
    exact hret 0 _ _ _ _ (Or.inl rfl) hf hP hD hS dX6_isLetters_25
  · refine lv_aload_n hx hb dX6_isLetters_8 rfl (lv_at hl 0 rfl) ?_
    refine z_get (ci := 6) (C := RX6) (T := TX6) (N := 11) (v := .int (F_t 4)) hx hb hts inT_X6 hown hK hP 0 rfl rfl 4 (by decide) tf_X6_36 rfl dX6_isLetters_9 ?_
    refine lv_aload_n hx hb dX6_isLetters_12 rfl (lv_at hl 0 rfl) ?_
    refine z_get (ci := 6) (C := RX6) (T := TX6) (N := 11) (v := .int (F_t 6)) hx hb hts inT_X6 hown hK hP 0 rfl rfl 6 (by decide) tf_X6_42 rfl dX6_isLetters_13 ?_
    refine lv_isub hx hb dX6_isLetters_16 ?_
    refine lv_aload_n hx hb dX6_isLetters_17 rfl (lv_at hl 1 rfl) ?_
    obtain ⟨q_, hq_, hb_, h1_, h2_, h3_, h4_, h5_⟩ := rws_at hX hw_p1
    refine z_ci (ws1 := w_X6_isLetters h_t r_t F_t cI n_t_text a_text) (wr := w_X6_isLetters h_t r_t F_t cI n_t_text a_text) (z_rVO (rest := [.int ((F_t 4) - (F_t 6))]) hx hb hml hown hcx hl.1 (c_slen l D cI w_p1 hw_p1 _) tl_X6_100 ti_J0_length_8abf5 tz_J0_length_8abf5 tn_J0 tc_J0_length_8abf5 tm_J0_length_8abf5 rfl rfl ⟨Nat.le_of_ble_eq_true rfl, Nat.le_of_ble_eq_true rfl⟩ hK hX hS hA hP hD h2_ rfl rfl (Nat.le_of_ble_eq_true rfl) dX6_isLetters_18 ⟨Nat.zero_le _, Nat.zero_le _⟩) hP hD hS hA [] [0, 1] [0, 1] rfl rfl rfl (by decide) rfl rfl (fun H locs hP hD hS => ?_)
    refine z_icmp_eq (tgt := 26) hx hb dX6_isLetters_21 (by decide) hf (fun hf => ?_) (fun hf => ?_)
    · refine lv_iconst (v := 0) hx hb dX6_isLetters_26 (by decide) ?_
      refine lv_istore_n (lv' := [(2, .int 0), (0, .ref h_t), (1, .ref (D.2 200 w_p1))]) hx hb dX6_isLetters_27 rfl hl (by decide) rfl (fun ls hl => ?_)
      exact L28 fuelN 0 _ _ _ hf hP hD hS (lv_sub hl [1, 2, 0] rfl)
    · refine lv_iconst (v := 0) hx hb dX6_isLetters_24 (by decide) ?_
      exact hret 0 _ _ _ _ (Or.inl rfl) hf hP hD hS dX6_isLetters_25
abbrev w_X6_opTold (h_t : Nat) (r_t : Nat → Nat) (F_t : Nat → Int32) (cI : ClassId) (n_t_text : Nat) (a_text : Nat → Int32) : va_W := [(h_t, .inr (6, o_X6 r_t F_t)), ((r_t 2), .inl (cI, n_t_text, .inl a_text))]
abbrev rm_X6_opTold : Room := { frames := 5, cells := 0, slots := 0, locals := 109 }
def m_X6_opTold (F_t : Nat → Int32) (a_text : Nat → Int32) (n_t_text : Nat) : Option (Int32) :=
  bd (m_X6_isLetters F_t a_text n_t_text 7) fun u1 =>
  if u1 = 0 then (
  bd (m_X6_isLetters F_t a_text n_t_text 8) fun u2 =>
  if u2 = 0 then (
  bd (m_X6_isLetters F_t a_text n_t_text 9) fun u3 =>
  if u3 = 0 then (
  bd (m_X6_isLetters F_t a_text n_t_text 10) fun u4 =>
  if u4 = 0 then (
  bd (m_X6_isLetters F_t a_text n_t_text 11) fun u5 =>
  if u5 = 0 then (
  some (-1))
  else (
  some 4))
  else (
  some 3))
  else (
  some 2))
  else (
  some 1))
  else (
  some 0)
set_option maxHeartbeats 4000000 in
set_option maxRecDepth 100000 in
theorem c_X6_opTold (l : Launch) (D : va_G) (cI : ClassId) (h_t : Nat) (r_t : Nat → Nat) (F_t : Nat → Int32) (n_t_text : Nat) (a_text : Nat → Int32) (Rr : Int32) (hf : m_X6_opTold F_t a_text n_t_text = some Rr) : CTi l yX6_opTold (Cond.code yX6_opTold cX6_opTold 1 (some .int)) rm_X6_opTold D cI [.ref h_t] (w_X6_opTold h_t r_t F_t cI n_t_text a_text) Rr (w_X6_opTold h_t r_t F_t cI n_t_text a_text) := by
  refine z_begin_i (own := RX6) (ρ := Int32) (fun u => w_X6_opTold h_t r_t F_t cI n_t_text a_text) (fun u => u) (by decide +kernel) rfl (Nat.le_of_ble_eq_true rfl) ?_
  intro p e s m args below meth c ls Q A hx hb hml hts hcx hown hK hX hA hP hD hS hl hret
  have hl : lv_has ls 1 [(0, .ref h_t)] := hl
  have hf := (m_X6_opTold.eq_1 _ _ _).symm.trans hf
  refine lv_aload_n hx hb dX6_opTold_0 rfl (lv_at hl 0 rfl) ?_
  refine va_ldcS (index := 182) (tx := "new") hx hb hown (hX.2.2.2.2.2.2.1 7 _ rfl).1 dX6_opTold_1 ?_
  obtain ⟨u1, hu1, hf⟩ := bd_some hf
  refine z_ci (ws1 := w_X6_opTold h_t r_t F_t cI n_t_text a_text) (wr := List.filterMap (fun i : Nat => (w_X6_opTold h_t r_t F_t cI n_t_text a_text)[i]?) []) (z_rV (rest := []) hx hb hml hown hcx hl.1 (c_X6_isLetters l D cI h_t r_t F_t n_t_text a_text 7 (by decide) u1 hu1 _) tl_X6_114 ti_X6_isLetters tz_X6_isLetters tn_X6 tc_X6_isLetters tm_X6_isLetters rfl rfl ⟨Nat.le_of_ble_eq_true rfl, Nat.le_of_ble_eq_true rfl⟩ hK hX hS hA hP hD [0, 1] rfl rfl 0 rfl rfl rfl rfl (Nat.le_of_ble_eq_true rfl) dX6_opTold_3 ⟨Nat.zero_le _, Nat.zero_le _⟩) hP hD hS hA [0, 1] [] [0, 1] rfl rfl rfl (by decide) rfl rfl (fun H locs hP hD hS => ?_)
  refine z_if_eq (tgt := 11) hx hb dX6_opTold_6 (by decide) hf (fun hf => ?_) (fun hf => ?_)
  · refine lv_aload_n hx hb dX6_opTold_11 rfl (lv_at hl 0 rfl) ?_
    refine va_ldcS (index := 184) (tx := "drop") hx hb hown (hX.2.2.2.2.2.2.1 8 _ rfl).1 dX6_opTold_12 ?_
    obtain ⟨u2, hu2, hf⟩ := bd_some hf
    refine z_ci (ws1 := w_X6_opTold h_t r_t F_t cI n_t_text a_text) (wr := List.filterMap (fun i : Nat => (w_X6_opTold h_t r_t F_t cI n_t_text a_text)[i]?) []) (z_rV (rest := []) hx hb hml hown hcx hl.1 (c_X6_isLetters l D cI h_t r_t F_t n_t_text a_text 8 (by decide) u2 hu2 _) tl_X6_114 ti_X6_isLetters tz_X6_isLetters tn_X6 tc_X6_isLetters tm_X6_isLetters rfl rfl ⟨Nat.le_of_ble_eq_true rfl, Nat.le_of_ble_eq_true rfl⟩ hK hX hS hA hP hD [0, 1] rfl rfl 0 rfl rfl rfl rfl (Nat.le_of_ble_eq_true rfl) dX6_opTold_14 ⟨Nat.zero_le _, Nat.zero_le _⟩) hP hD hS hA [0, 1] [] [0, 1] rfl rfl rfl (by decide) rfl rfl (fun H locs hP hD hS => ?_)
    refine z_if_eq (tgt := 22) hx hb dX6_opTold_17 (by decide) hf (fun hf => ?_) (fun hf => ?_)
    · refine lv_aload_n hx hb dX6_opTold_22 rfl (lv_at hl 0 rfl) ?_
      refine va_ldcS (index := 186) (tx := "move") hx hb hown (hX.2.2.2.2.2.2.1 9 _ rfl).1 dX6_opTold_23 ?_
      obtain ⟨u3, hu3, hf⟩ := bd_some hf
      refine z_ci (ws1 := w_X6_opTold h_t r_t F_t cI n_t_text a_text) (wr := List.filterMap (fun i : Nat => (w_X6_opTold h_t r_t F_t cI n_t_text a_text)[i]?) []) (z_rV (rest := []) hx hb hml hown hcx hl.1 (c_X6_isLetters l D cI h_t r_t F_t n_t_text a_text 9 (by decide) u3 hu3 _) tl_X6_114 ti_X6_isLetters tz_X6_isLetters tn_X6 tc_X6_isLetters tm_X6_isLetters rfl rfl ⟨Nat.le_of_ble_eq_true rfl, Nat.le_of_ble_eq_true rfl⟩ hK hX hS hA hP hD [0, 1] rfl rfl 0 rfl rfl rfl rfl (Nat.le_of_ble_eq_true rfl) dX6_opTold_25 ⟨Nat.zero_le _, Nat.zero_le _⟩) hP hD hS hA [0, 1] [] [0, 1] rfl rfl rfl (by decide) rfl rfl (fun H locs hP hD hS => ?_)
      refine z_if_eq (tgt := 33) hx hb dX6_opTold_28 (by decide) hf (fun hf => ?_) (fun hf => ?_)
      · refine lv_aload_n hx hb dX6_opTold_33 rfl (lv_at hl 0 rfl) ?_
        refine va_ldcS (index := 188) (tx := "set") hx hb hown (hX.2.2.2.2.2.2.1 10 _ rfl).1 dX6_opTold_34 ?_
        obtain ⟨u4, hu4, hf⟩ := bd_some hf
        refine z_ci (ws1 := w_X6_opTold h_t r_t F_t cI n_t_text a_text) (wr := List.filterMap (fun i : Nat => (w_X6_opTold h_t r_t F_t cI n_t_text a_text)[i]?) []) (z_rV (rest := []) hx hb hml hown hcx hl.1 (c_X6_isLetters l D cI h_t r_t F_t n_t_text a_text 10 (by decide) u4 hu4 _) tl_X6_114 ti_X6_isLetters tz_X6_isLetters tn_X6 tc_X6_isLetters tm_X6_isLetters rfl rfl ⟨Nat.le_of_ble_eq_true rfl, Nat.le_of_ble_eq_true rfl⟩ hK hX hS hA hP hD [0, 1] rfl rfl 0 rfl rfl rfl rfl (Nat.le_of_ble_eq_true rfl) dX6_opTold_36 ⟨Nat.zero_le _, Nat.zero_le _⟩) hP hD hS hA [0, 1] [] [0, 1] rfl rfl rfl (by decide) rfl rfl (fun H locs hP hD hS => ?_)
        refine z_if_eq (tgt := 44) hx hb dX6_opTold_39 (by decide) hf (fun hf => ?_) (fun hf => ?_)
        · refine lv_aload_n hx hb dX6_opTold_44 rfl (lv_at hl 0 rfl) ?_
          refine va_ldcS (index := 190) (tx := "sweep") hx hb hown (hX.2.2.2.2.2.2.1 11 _ rfl).1 dX6_opTold_45 ?_
          obtain ⟨u5, hu5, hf⟩ := bd_some hf
          refine z_ci (ws1 := w_X6_opTold h_t r_t F_t cI n_t_text a_text) (wr := List.filterMap (fun i : Nat => (w_X6_opTold h_t r_t F_t cI n_t_text a_text)[i]?) []) (z_rV (rest := []) hx hb hml hown hcx hl.1 (c_X6_isLetters l D cI h_t r_t F_t n_t_text a_text 11 (by decide) u5 hu5 _) tl_X6_114 ti_X6_isLetters tz_X6_isLetters tn_X6 tc_X6_isLetters tm_X6_isLetters rfl rfl ⟨Nat.le_of_ble_eq_true rfl, Nat.le_of_ble_eq_true rfl⟩ hK hX hS hA hP hD [0, 1] rfl rfl 0 rfl rfl rfl rfl (Nat.le_of_ble_eq_true rfl) dX6_opTold_47 ⟨Nat.zero_le _, Nat.zero_le _⟩) hP hD hS hA [0, 1] [] [0, 1] rfl rfl rfl (by decide) rfl rfl (fun H locs hP hD hS => ?_)
          refine z_if_eq (tgt := 57) hx hb dX6_opTold_50 (by decide) hf (fun hf => ?_) (fun hf => ?_)
          · refine lv_iconst (v := (-1)) hx hb dX6_opTold_57 (by decide) ?_
            exact hret (-1) _ _ _ _ hf hP hD hS dX6_opTold_58
          · refine lv_iconst (v := 4) hx hb dX6_opTold_53 (by decide) ?_
            refine lv_goto (tgt := 58) hx hb dX6_opTold_54 (by decide) ?_
            exact hret 4 _ _ _ _ hf hP hD hS dX6_opTold_58
        · refine lv_iconst (v := 3) hx hb dX6_opTold_42 (by decide) ?_
          exact hret 3 _ _ _ _ hf hP hD hS dX6_opTold_43
      · refine lv_iconst (v := 2) hx hb dX6_opTold_31 (by decide) ?_
        exact hret 2 _ _ _ _ hf hP hD hS dX6_opTold_32
    · refine lv_iconst (v := 1) hx hb dX6_opTold_20 (by decide) ?_
      exact hret 1 _ _ _ _ hf hP hD hS dX6_opTold_21
  · refine lv_iconst (v := 0) hx hb dX6_opTold_9 (by decide) ?_
    exact hret 0 _ _ _ _ hf hP hD hS dX6_opTold_10
abbrev w_X6_readOp (h_t : Nat) (r_t : Nat → Nat) (r_machine : Nat → Nat) (F_t : Nat → Int32) (F_machine : Nat → Int32) (cI : ClassId) (n_t_text : Nat) (a_machine_waiting : Nat → Int32) (a_text : Nat → Int32) : va_W := [(h_t, .inr (6, o_X6 r_t F_t)), ((r_t 0), .inr (4, o_X4 r_machine F_machine)), ((r_machine 6), .inl (cI, 48, .inl a_machine_waiting)), ((r_t 2), .inl (cI, n_t_text, .inl a_text))]
abbrev rm_X6_readOp : Room := { frames := 6, cells := 0, slots := 0, locals := 129 }
def m_X6_readOp_j107 (F_machine : Nat → Int32) (a_text : Nat → Int32) (n_t_text : Nat) (p1 : Int32) (x2 : Int32) (x4 : Int32) (F_t : Nat → Int32) (a_machine_waiting : Nat → Int32) : Option (Int32 × (Nat → Int32) × (Nat → Int32)) :=
  bd (m_X11_packOp x2 x4 (F_t 7)) fun u4 =>
  wr a_machine_waiting 48 (((F_machine 7) * 4) + p1) u4 fun a5 =>
  some (0, F_t, a5)
def m_X6_readOp_j85 (F_machine : Nat → Int32) (a_text : Nat → Int32) (n_t_text : Nat) (p1 : Int32) (x2 : Int32) (x3 : Int32) (x4 : Int32) (F_t : Nat → Int32) (a_machine_waiting : Nat → Int32) : Option (Int32 × (Nat → Int32) × (Nat → Int32)) :=
  if x3 = 0 then (
  if x2 = 2 then (
  if x4 = (F_t 7) then (
  some (3, F_t, a_machine_waiting))
  else (
  m_X6_readOp_j107 F_machine a_text n_t_text p1 x2 x4 F_t a_machine_waiting))
  else (
  m_X6_readOp_j107 F_machine a_text n_t_text p1 x2 x4 F_t a_machine_waiting))
  else (
  some (x3, F_t, a_machine_waiting))
def m_X6_readOp_j57 (F_machine : Nat → Int32) (a_text : Nat → Int32) (n_t_text : Nat) (p1 : Int32) (x2 : Int32) (x3 : Int32) (x4 : Int32) (F_t : Nat → Int32) (a_machine_waiting : Nat → Int32) : Option (Int32 × (Nat → Int32) × (Nat → Int32)) :=
  rd K_ARGUMENTS 5 x2 fun y3 =>
  if y3 ≤ 1 then (
  m_X6_readOp_j85 F_machine a_text n_t_text p1 x2 x3 x4 F_t a_machine_waiting)
  else (
  if x3 = 0 then (
  bd (m_X6_goOn F_t a_text n_t_text) fun u6 =>
  rd K_SECOND_MOST 5 x2 fun y7 =>
  bd (m_X6_judgeNumber u6 a_text n_t_text 0 y7) fun u8 =>
  m_X6_readOp_j85 F_machine a_text n_t_text p1 x2 u8.1 x4 u8.2 a_machine_waiting)
  else (
  m_X6_readOp_j85 F_machine a_text n_t_text p1 x2 x3 x4 F_t a_machine_waiting))
def m_X6_readOp (F_t : Nat → Int32) (F_machine : Nat → Int32) (a_machine_waiting : Nat → Int32) (a_text : Nat → Int32) (n_t_text : Nat) (p1 : Int32) : Option (Int32 × (Nat → Int32) × (Nat → Int32)) :=
  bd (m_X6_opTold F_t a_text n_t_text) fun u1 =>
  if u1 = (-1) then (
  some (1, F_t, a_machine_waiting))
  else (
  if p1 < 4 then (
  rd K_ARGUMENTS 5 u1 fun y2 =>
  if y2 ≤ 0 then (
  m_X6_readOp_j57 F_machine a_text n_t_text p1 u1 0 0 F_t a_machine_waiting)
  else (
  bd (m_X6_goOn F_t a_text n_t_text) fun u9 =>
  rd K_FIRST_LEAST 5 u1 fun y10 =>
  rd K_FIRST_MOST 5 u1 fun y11 =>
  bd (m_X6_judgeNumber u9 a_text n_t_text y10 y11) fun u12 =>
  nm (u12.2 7) fun v13 =>
  m_X6_readOp_j57 F_machine a_text n_t_text p1 u1 u12.1 v13 u12.2 a_machine_waiting))
  else (
  some (2, F_t, a_machine_waiting)))
set_option maxHeartbeats 4000000 in
set_option maxRecDepth 100000 in
theorem c_X6_readOp (l : Launch) (D : va_G) (cI : ClassId) (h_t : Nat) (r_t : Nat → Nat) (r_machine : Nat → Nat) (F_t : Nat → Int32) (F_machine : Nat → Int32) (n_t_text : Nat) (a_machine_waiting : Nat → Int32) (a_text : Nat → Int32) (p1 : Int32) (Rr : Int32 × (Nat → Int32) × (Nat → Int32)) (hf : m_X6_readOp F_t F_machine a_machine_waiting a_text n_t_text p1 = some Rr) : CTi l yX6_readOp (Cond.code yX6_readOp cX6_readOp 5 (some .int)) rm_X6_readOp D cI [.ref h_t, .int p1] (w_X6_readOp h_t r_t r_machine F_t F_machine cI n_t_text a_machine_waiting a_text) Rr.1 (w_X6_readOp h_t r_t r_machine Rr.2.1 F_machine cI n_t_text Rr.2.2 a_text) := by
  refine z_begin_i (own := RX6) (ρ := Int32 × (Nat → Int32) × (Nat → Int32)) (fun u => w_X6_readOp h_t r_t r_machine u.2.1 F_machine cI n_t_text u.2.2 a_text) (fun u => u.1) (by decide +kernel) rfl (Nat.le_of_ble_eq_true rfl) ?_
  intro p e s m args below meth c ls Q A hx hb hml hts hcx hown hK hX hA hP hD hS hl hret
  obtain ⟨t_ARGUMENTS, hZ_ARGUMENTS, hT_ARGUMENTS⟩ := hX.1
  obtain ⟨t_FIRST_LEAST, hZ_FIRST_LEAST, hT_FIRST_LEAST⟩ := hX.2.1
  obtain ⟨t_FIRST_MOST, hZ_FIRST_MOST, hT_FIRST_MOST⟩ := hX.2.2.1
  obtain ⟨t_SECOND_MOST, hZ_SECOND_MOST, hT_SECOND_MOST⟩ := hX.2.2.2.1
  have hl : lv_has ls 5 [(0, .ref h_t), (1, .int p1)] := hl
  have hf := (m_X6_readOp.eq_1 _ _ _ _ _ _).symm.trans hf
  have L107 : ∀ (x2 : Int32) (x4 : Int32) (F_t : Nat → Int32) (a_machine_waiting : Nat → Int32) (H : Heap) (locs : List Loc) (ls : Array Slot), m_X6_readOp_j107 F_machine a_text n_t_text p1 x2 x4 F_t a_machine_waiting = some Rr → va_P D vwCl (w_X6_readOp h_t r_t r_machine F_t F_machine cI n_t_text a_machine_waiting a_text) H → va_D A (w_X6_readOp h_t r_t r_machine F_t F_machine cI n_t_text a_machine_waiting a_text) → va_S A s.heap H locs → lv_has ls 5 [(0, .ref h_t), (1, .int p1), (2, .int x2), (4, .int x4)] → W p l e rm_X6_readOp s m args below meth c H locs 0 0 Q (F0 m 107 ls []) := by
    intro x2 x4 F_t a_machine_waiting H locs ls hf hP hD hS hl
    have hf := (m_X6_readOp_j107.eq_1 _ _ _ _ _ _ _ _).symm.trans hf
    refine lv_aload_n hx hb dX6_readOp_107 rfl (lv_at hl 0 rfl) ?_
    refine z_get (ci := 6) (C := RX6) (T := TX6) (N := 11) (v := .ref (r_t 0)) hx hb hts inT_X6 hown hK hP 0 rfl rfl 0 (by decide) tf_X6_12 rfl dX6_readOp_108 ?_
    refine z_get (ci := 4) (C := RX4) (T := TX4) (N := 12) (v := .ref (r_machine 6)) hx hb hts inT_X4 hown hK hP 1 rfl rfl 6 (by decide) tf_X6_84 rfl dX6_readOp_111 ?_
    refine lv_aload_n hx hb dX6_readOp_114 rfl (lv_at hl 0 rfl) ?_
    refine z_get (ci := 6) (C := RX6) (T := TX6) (N := 11) (v := .ref (r_t 0)) hx hb hts inT_X6 hown hK hP 0 rfl rfl 0 (by decide) tf_X6_12 rfl dX6_readOp_115 ?_
    refine z_get (ci := 4) (C := RX4) (T := TX4) (N := 12) (v := .int (F_machine 7)) hx hb hts inT_X4 hown hK hP 1 rfl rfl 7 (by decide) tf_X6_87 rfl dX6_readOp_118 ?_
    refine lv_iconst (v := 4) hx hb dX6_readOp_121 (by decide) ?_
    refine lv_imul hx hb dX6_readOp_122 ?_
    refine lv_iload_n hx hb dX6_readOp_123 rfl (lv_at hl 1 rfl) ?_
    refine lv_iadd hx hb dX6_readOp_124 ?_
    refine lv_iload_n hx hb dX6_readOp_125 rfl (lv_at hl 2 rfl) ?_
    refine lv_iload hx hb dX6_readOp_126 (lv_at hl 3 rfl) ?_
    refine lv_aload_n hx hb dX6_readOp_128 rfl (lv_at hl 0 rfl) ?_
    refine z_get (ci := 6) (C := RX6) (T := TX6) (N := 11) (v := .int (F_t 7)) hx hb hts inT_X6 hown hK hP 0 rfl rfl 7 (by decide) tf_X6_45 rfl dX6_readOp_129 ?_
    obtain ⟨u4, hu4, hf⟩ := bd_some hf
    refine z_ci (ws1 := w_X6_readOp h_t r_t r_machine F_t F_machine cI n_t_text a_machine_waiting a_text) (wr := List.filterMap (fun i : Nat => (w_X6_readOp h_t r_t r_machine F_t F_machine cI n_t_text a_machine_waiting a_text)[i]?) [0, 1, 2, 3]) (z_rN (rest := [.int (((F_machine 7) * 4) + p1), .ref (r_machine 6)]) hx hb hml hown hcx hl.1 (c_X11_packOp l D cI x2 x4 (F_t 7) u4 hu4 _) tl_X6_178 ts_X11_packOp tn_X11 tc_X11_packOp tm_X11_packOp rfl rfl ⟨Nat.le_of_ble_eq_true rfl, Nat.le_of_ble_eq_true rfl⟩ hK hX hS hA hP hD [] rfl rfl rfl rfl (Nat.le_of_ble_eq_true rfl) dX6_readOp_132 ⟨Nat.zero_le _, Nat.zero_le _⟩) hP hD hS hA [] [0, 1, 2, 3] [0, 1, 2, 3] rfl rfl rfl (by decide) rfl rfl (fun H locs hP hD hS => ?_)
    refine z_iast hx hb hK hP hD hS 2 rfl (fun z => w_X6_readOp h_t r_t r_machine F_t F_machine cI n_t_text z a_text) (fun _ => rfl) dX6_readOp_135 hf (fun a5 H locs hf hP hD hS => ?_)
    refine lv_iconst (v := 0) hx hb dX6_readOp_136 (by decide) ?_
    exact hret (0, F_t, a5) _ _ _ _ hf hP hD hS dX6_readOp_137
  have L85 : ∀ (x2 : Int32) (x3 : Int32) (x4 : Int32) (F_t : Nat → Int32) (a_machine_waiting : Nat → Int32) (H : Heap) (locs : List Loc) (ls : Array Slot), m_X6_readOp_j85 F_machine a_text n_t_text p1 x2 x3 x4 F_t a_machine_waiting = some Rr → va_P D vwCl (w_X6_readOp h_t r_t r_machine F_t F_machine cI n_t_text a_machine_waiting a_text) H → va_D A (w_X6_readOp h_t r_t r_machine F_t F_machine cI n_t_text a_machine_waiting a_text) → va_S A s.heap H locs → lv_has ls 5 [(0, .ref h_t), (1, .int p1), (2, .int x2), (3, .int x3), (4, .int x4)] → W p l e rm_X6_readOp s m args below meth c H locs 0 0 Q (F0 m 85 ls []) := by
    intro x2 x3 x4 F_t a_machine_waiting H locs ls hf hP hD hS hl
    have hf := (m_X6_readOp_j85.eq_1 _ _ _ _ _ _ _ _ _).symm.trans hf
    refine lv_iload_n hx hb dX6_readOp_85 rfl (lv_at hl 3 rfl) ?_
    refine z_if_eq (tgt := 91) hx hb dX6_readOp_86 (by decide) hf (fun hf => ?_) (fun hf => ?_)
    · refine lv_iload_n hx hb dX6_readOp_91 rfl (lv_at hl 2 rfl) ?_
      refine lv_iconst (v := 2) hx hb dX6_readOp_92 (by decide) ?_
      refine z_icmp_ne (tgt := 107) hx hb dX6_readOp_93 (by decide) hf (fun hf => ?_) (fun hf => ?_)
      · exact L107 x2 x4 F_t a_machine_waiting _ _ _ hf hP hD hS (lv_sub hl [0, 1, 2, 4] rfl)
      · refine lv_iload hx hb dX6_readOp_96 (lv_at hl 4 rfl) ?_
        refine lv_aload_n hx hb dX6_readOp_98 rfl (lv_at hl 0 rfl) ?_
        refine z_get (ci := 6) (C := RX6) (T := TX6) (N := 11) (v := .int (F_t 7)) hx hb hts inT_X6 hown hK hP 0 rfl rfl 7 (by decide) tf_X6_45 rfl dX6_readOp_99 ?_
        refine z_icmp_ne (tgt := 107) hx hb dX6_readOp_102 (by decide) hf (fun hf => ?_) (fun hf => ?_)
        · exact L107 x2 x4 F_t a_machine_waiting _ _ _ hf hP hD hS (lv_sub hl [0, 1, 2, 4] rfl)
        · refine lv_iconst (v := 3) hx hb dX6_readOp_105 (by decide) ?_
          exact hret (3, F_t, a_machine_waiting) _ _ _ _ hf hP hD hS dX6_readOp_106
    · refine lv_iload_n hx hb dX6_readOp_89 rfl (lv_at hl 3 rfl) ?_
      exact hret (x3, F_t, a_machine_waiting) _ _ _ _ hf hP hD hS dX6_readOp_90
  have L57 : ∀ (x2 : Int32) (x3 : Int32) (x4 : Int32) (F_t : Nat → Int32) (a_machine_waiting : Nat → Int32) (H : Heap) (locs : List Loc) (ls : Array Slot), m_X6_readOp_j57 F_machine a_text n_t_text p1 x2 x3 x4 F_t a_machine_waiting = some Rr → va_P D vwCl (w_X6_readOp h_t r_t r_machine F_t F_machine cI n_t_text a_machine_waiting a_text) H → va_D A (w_X6_readOp h_t r_t r_machine F_t F_machine cI n_t_text a_machine_waiting a_text) → va_S A s.heap H locs → lv_has ls 5 [(0, .ref h_t), (1, .int p1), (2, .int x2), (3, .int x3), (4, .int x4)] → W p l e rm_X6_readOp s m args below meth c H locs 0 0 Q (F0 m 57 ls []) := by
    intro x2 x3 x4 F_t a_machine_waiting H locs ls hf hP hD hS hl
    have hf := (m_X6_readOp_j57.eq_1 _ _ _ _ _ _ _ _ _).symm.trans hf
    refine z_getsN hx hb hK hZ_ARGUMENTS hS hown tf_X6_166 dX6_readOp_57 ?_
    refine lv_iload_n hx hb dX6_readOp_60 rfl (lv_at hl 2 rfl) ?_
    refine z_tald hx hb hT_ARGUMENTS hS dX6_readOp_61 hf (fun y3 hf => ?_)
    refine lv_iconst (v := 1) hx hb dX6_readOp_62 (by decide) ?_
    refine z_icmp_le (tgt := 85) hx hb dX6_readOp_63 (by decide) hf (fun hf => ?_) (fun hf => ?_)
    · exact L85 x2 x3 x4 F_t a_machine_waiting _ _ _ hf hP hD hS (lv_sub hl [0, 1, 2, 3, 4] rfl)
    · refine lv_iload_n hx hb dX6_readOp_66 rfl (lv_at hl 3 rfl) ?_
      refine z_if_ne (tgt := 85) hx hb dX6_readOp_67 (by decide) hf (fun hf => ?_) (fun hf => ?_)
      · exact L85 x2 x3 x4 F_t a_machine_waiting _ _ _ hf hP hD hS (lv_sub hl [0, 1, 2, 3, 4] rfl)
      · refine lv_aload_n hx hb dX6_readOp_70 rfl (lv_at hl 0 rfl) ?_
        obtain ⟨u6, hu6, hf⟩ := bd_some hf
        refine z_cv (ws1 := w_X6_readOp h_t r_t r_machine u6 F_machine cI n_t_text a_machine_waiting a_text) (wr := List.filterMap (fun i : Nat => (w_X6_readOp h_t r_t r_machine F_t F_machine cI n_t_text a_machine_waiting a_text)[i]?) [1, 2]) (z_rV (rest := []) hx hb hml hown hcx hl.1 (c_X6_goOn l D cI h_t r_t F_t n_t_text a_text u6 hu6 _) tl_X6_67 ti_X6_goOn tz_X6_goOn tn_X6 tc_X6_goOn tm_X6_goOn rfl rfl ⟨Nat.le_of_ble_eq_true rfl, Nat.le_of_ble_eq_true rfl⟩ hK hX hS hA hP hD [0, 3] rfl rfl 0 rfl rfl rfl rfl (Nat.le_of_ble_eq_true rfl) dX6_readOp_71 ⟨Nat.zero_le _, Nat.zero_le _⟩) hP hD hS hA [0, 3] [1, 2] [2, 0, 1, 3] rfl rfl rfl (by decide) rfl rfl (fun H locs hP hD hS => ?_)
        refine lv_aload_n hx hb dX6_readOp_74 rfl (lv_at hl 0 rfl) ?_
        refine lv_iconst (v := 0) hx hb dX6_readOp_75 (by decide) ?_
        refine z_getsN hx hb hK hZ_SECOND_MOST hS hown tf_X6_175 dX6_readOp_76 ?_
        refine lv_iload_n hx hb dX6_readOp_79 rfl (lv_at hl 2 rfl) ?_
        refine z_tald hx hb hT_SECOND_MOST hS dX6_readOp_80 hf (fun y7 hf => ?_)
        obtain ⟨u8, hu8, hf⟩ := bd_some hf
        refine z_ci (ws1 := w_X6_readOp h_t r_t r_machine u8.2 F_machine cI n_t_text a_machine_waiting a_text) (wr := List.filterMap (fun i : Nat => (w_X6_readOp h_t r_t r_machine u6 F_machine cI n_t_text a_machine_waiting a_text)[i]?) [1, 2]) (z_rV (rest := []) hx hb hml hown hcx hl.1 (c_X6_judgeNumber l D cI h_t r_t u6 n_t_text a_text 0 y7 u8 hu8 _) tl_X6_151 ti_X6_judgeNumber tz_X6_judgeNumber tn_X6 tc_X6_judgeNumber tm_X6_judgeNumber rfl rfl ⟨Nat.le_of_ble_eq_true rfl, Nat.le_of_ble_eq_true rfl⟩ hK hX hS hA hP hD [0, 3] rfl rfl 0 rfl rfl rfl rfl (Nat.le_of_ble_eq_true rfl) dX6_readOp_81 ⟨Nat.zero_le _, Nat.zero_le _⟩) hP hD hS hA [0, 3] [1, 2] [2, 0, 1, 3] rfl rfl rfl (by decide) rfl rfl (fun H locs hP hD hS => ?_)
        refine lv_istore_n (lv' := [(3, .int u8.1), (0, .ref h_t), (1, .int p1), (2, .int x2), (4, .int x4)]) hx hb dX6_readOp_84 rfl hl (by decide) rfl (fun ls hl => ?_)
        exact L85 x2 u8.1 x4 u8.2 a_machine_waiting _ _ _ hf hP hD hS (lv_sub hl [1, 2, 3, 0, 4] rfl)
  refine lv_aload_n hx hb dX6_readOp_0 rfl (lv_at hl 0 rfl) ?_
  obtain ⟨u1, hu1, hf⟩ := bd_some hf
  refine z_ci (ws1 := w_X6_readOp h_t r_t r_machine F_t F_machine cI n_t_text a_machine_waiting a_text) (wr := List.filterMap (fun i : Nat => (w_X6_readOp h_t r_t r_machine F_t F_machine cI n_t_text a_machine_waiting a_text)[i]?) [1, 2]) (z_rV (rest := []) hx hb hml hown hcx hl.1 (c_X6_opTold l D cI h_t r_t F_t n_t_text a_text u1 hu1 _) tl_X6_163 ti_X6_opTold tz_X6_opTold tn_X6 tc_X6_opTold tm_X6_opTold rfl rfl ⟨Nat.le_of_ble_eq_true rfl, Nat.le_of_ble_eq_true rfl⟩ hK hX hS hA hP hD [0, 3] rfl rfl 0 rfl rfl rfl rfl (Nat.le_of_ble_eq_true rfl) dX6_readOp_1 ⟨Nat.zero_le _, Nat.zero_le _⟩) hP hD hS hA [0, 3] [1, 2] [2, 0, 1, 3] rfl rfl rfl (by decide) rfl rfl (fun H locs hP hD hS => ?_)
  refine lv_istore_n (lv' := [(2, .int u1), (0, .ref h_t), (1, .int p1)]) hx hb dX6_readOp_4 rfl hl (by decide) rfl (fun ls hl => ?_)
  refine lv_iload_n hx hb dX6_readOp_5 rfl (lv_at hl 0 rfl) ?_
  refine lv_iconst (v := (-1)) hx hb dX6_readOp_6 (by decide) ?_
  refine z_icmp_ne (tgt := 12) hx hb dX6_readOp_7 (by decide) hf (fun hf => ?_) (fun hf => ?_)
  · refine lv_iload_n hx hb dX6_readOp_12 rfl (lv_at hl 2 rfl) ?_
    refine lv_iconst (v := 4) hx hb dX6_readOp_13 (by decide) ?_
    refine z_icmp_lt (tgt := 19) hx hb dX6_readOp_14 (by decide) hf (fun hf => ?_) (fun hf => ?_)
    · refine lv_iconst (v := 0) hx hb dX6_readOp_19 (by decide) ?_
      refine lv_istore_n (lv' := [(3, .int 0), (2, .int u1), (0, .ref h_t), (1, .int p1)]) hx hb dX6_readOp_20 rfl hl (by decide) rfl (fun ls hl => ?_)
      refine lv_iconst (v := 0) hx hb dX6_readOp_21 (by decide) ?_
      refine lv_istore (lv' := [(4, .int 0), (3, .int 0), (2, .int u1), (0, .ref h_t), (1, .int p1)]) hx hb dX6_readOp_22 hl (by decide) rfl (fun ls hl => ?_)
      refine z_getsN hx hb hK hZ_ARGUMENTS hS hown tf_X6_166 dX6_readOp_24 ?_
      refine lv_iload_n hx hb dX6_readOp_27 rfl (lv_at hl 2 rfl) ?_
      refine z_tald hx hb hT_ARGUMENTS hS dX6_readOp_28 hf (fun y2 hf => ?_)
      refine z_if_le (tgt := 57) hx hb dX6_readOp_29 (by decide) hf (fun hf => ?_) (fun hf => ?_)
      · exact L57 u1 0 0 F_t a_machine_waiting _ _ _ hf hP hD hS (lv_sub hl [3, 4, 2, 1, 0] rfl)
      · refine lv_aload_n hx hb dX6_readOp_32 rfl (lv_at hl 3 rfl) ?_
        obtain ⟨u9, hu9, hf⟩ := bd_some hf
        refine z_cv (ws1 := w_X6_readOp h_t r_t r_machine u9 F_machine cI n_t_text a_machine_waiting a_text) (wr := List.filterMap (fun i : Nat => (w_X6_readOp h_t r_t r_machine F_t F_machine cI n_t_text a_machine_waiting a_text)[i]?) [1, 2]) (z_rV (rest := []) hx hb hml hown hcx hl.1 (c_X6_goOn l D cI h_t r_t F_t n_t_text a_text u9 hu9 _) tl_X6_67 ti_X6_goOn tz_X6_goOn tn_X6 tc_X6_goOn tm_X6_goOn rfl rfl ⟨Nat.le_of_ble_eq_true rfl, Nat.le_of_ble_eq_true rfl⟩ hK hX hS hA hP hD [0, 3] rfl rfl 0 rfl rfl rfl rfl (Nat.le_of_ble_eq_true rfl) dX6_readOp_33 ⟨Nat.zero_le _, Nat.zero_le _⟩) hP hD hS hA [0, 3] [1, 2] [2, 0, 1, 3] rfl rfl rfl (by decide) rfl rfl (fun H locs hP hD hS => ?_)
        refine lv_aload_n hx hb dX6_readOp_36 rfl (lv_at hl 3 rfl) ?_
        refine z_getsN hx hb hK hZ_FIRST_LEAST hS hown tf_X6_169 dX6_readOp_37 ?_
        refine lv_iload_n hx hb dX6_readOp_40 rfl (lv_at hl 2 rfl) ?_
        refine z_tald hx hb hT_FIRST_LEAST hS dX6_readOp_41 hf (fun y10 hf => ?_)
        refine z_getsN hx hb hK hZ_FIRST_MOST hS hown tf_X6_172 dX6_readOp_42 ?_
        refine lv_iload_n hx hb dX6_readOp_45 rfl (lv_at hl 2 rfl) ?_
        refine z_tald hx hb hT_FIRST_MOST hS dX6_readOp_46 hf (fun y11 hf => ?_)
        obtain ⟨u12, hu12, hf⟩ := bd_some hf
        refine z_ci (ws1 := w_X6_readOp h_t r_t r_machine u12.2 F_machine cI n_t_text a_machine_waiting a_text) (wr := List.filterMap (fun i : Nat => (w_X6_readOp h_t r_t r_machine u9 F_machine cI n_t_text a_machine_waiting a_text)[i]?) [1, 2]) (z_rV (rest := []) hx hb hml hown hcx hl.1 (c_X6_judgeNumber l D cI h_t r_t u9 n_t_text a_text y10 y11 u12 hu12 _) tl_X6_151 ti_X6_judgeNumber tz_X6_judgeNumber tn_X6 tc_X6_judgeNumber tm_X6_judgeNumber rfl rfl ⟨Nat.le_of_ble_eq_true rfl, Nat.le_of_ble_eq_true rfl⟩ hK hX hS hA hP hD [0, 3] rfl rfl 0 rfl rfl rfl rfl (Nat.le_of_ble_eq_true rfl) dX6_readOp_47 ⟨Nat.zero_le _, Nat.zero_le _⟩) hP hD hS hA [0, 3] [1, 2] [2, 0, 1, 3] rfl rfl rfl (by decide) rfl rfl (fun H locs hP hD hS => ?_)
        refine lv_istore_n (lv' := [(3, .int u12.1), (4, .int 0), (2, .int u1), (0, .ref h_t), (1, .int p1)]) hx hb dX6_readOp_50 rfl hl (by decide) rfl (fun ls hl => ?_)
        refine lv_aload_n hx hb dX6_readOp_51 rfl (lv_at hl 3 rfl) ?_
        refine z_get (ci := 6) (C := RX6) (T := TX6) (N := 11) (v := .int (u12.2 7)) hx hb hts inT_X6 hown hK hP 0 rfl rfl 7 (by decide) tf_X6_45 rfl dX6_readOp_52 ?_
        refine z_istore (fun z => [(4, .int z), (3, .int u12.1), (2, .int u1), (0, .ref h_t), (1, .int p1)]) hx hb dX6_readOp_55 hl (by decide) (fun _ => rfl) hf (fun v13 ls hf hl => ?_)
        exact L57 u1 u12.1 v13 u12.2 a_machine_waiting _ _ _ hf hP hD hS (lv_sub hl [3, 4, 2, 1, 0] rfl)
    · refine lv_iconst (v := 2) hx hb dX6_readOp_17 (by decide) ?_
      exact hret (2, F_t, a_machine_waiting) _ _ _ _ hf hP hD hS dX6_readOp_18
  · refine lv_iconst (v := 1) hx hb dX6_readOp_10 (by decide) ?_
    exact hret (1, F_t, a_machine_waiting) _ _ _ _ hf hP hD hS dX6_readOp_11
abbrev w_X6_readDo (h_t : Nat) (r_t : Nat → Nat) (r_machine : Nat → Nat) (F_t : Nat → Int32) (F_machine : Nat → Int32) (cI : ClassId) (n_t_text : Nat) (a_machine_waiting : Nat → Int32) (a_text : Nat → Int32) : va_W := [(h_t, .inr (6, o_X6 r_t F_t)), ((r_t 0), .inr (4, o_X4 r_machine F_machine)), ((r_machine 6), .inl (cI, 48, .inl a_machine_waiting)), ((r_t 2), .inl (cI, n_t_text, .inl a_text))]
abbrev rm_X6_readDo : Room := { frames := 7, cells := 0, slots := 0, locals := 153 }
def m_X6_readDo_j50 (a_text : Nat → Int32) (n_t_text : Nat) (F_t : Nat → Int32) (F_machine : Nat → Int32) (a_machine_waiting : Nat → Int32) : Option (Int32 × (Nat → Int32) × (Nat → Int32) × (Nat → Int32)) :=
  nm (upd F_machine 7 ((F_machine 7) + 1)) fun F7 =>
  some (0, F_t, F7, a_machine_waiting)
def m_X6_readDo_w16 (a_text : Nat → Int32) (n_t_text : Nat) (k50 : (Nat → Int32) → (Nat → Int32) → (Nat → Int32) → Option (Int32 × (Nat → Int32) × (Nat → Int32) × (Nat → Int32))) : Nat → Int32 → (Nat → Int32) → (Nat → Int32) → (Nat → Int32) → Option (Int32 × (Nat → Int32) × (Nat → Int32) × (Nat → Int32))
  | 0, _, _, _, _ => none
  | n16 + 1, x1, F_t, F_machine, a_machine_waiting =>
    if 4 < x1 then (
    some (1, F_t, F_machine, a_machine_waiting))
    else (
    bd (m_X6_goOn F_t a_text n_t_text) fun u1 =>
    bd (m_X6_readOp u1 F_machine a_machine_waiting a_text n_t_text x1) fun u2 =>
    if u2.1 = 0 then (
    bd (m_X6_goOn u2.2.1 a_text n_t_text) fun u3 =>
    bd (m_X6_isSign u3 a_text n_t_text 59) fun u4 =>
    if u4 = 0 then (
    bd (m_X6_isSign u3 a_text n_t_text 44) fun u5 =>
    if u5 = 0 then (
    some (1, u3, F_machine, u2.2.2))
    else (
    nm (x1 + 1) fun v6 =>
    m_X6_readDo_w16 a_text n_t_text k50 n16 v6 u3 F_machine u2.2.2))
    else (
    k50 u3 F_machine u2.2.2))
    else (
    some (u2.1, u2.2.1, F_machine, u2.2.2)))
def m_X6_readDo (F_t : Nat → Int32) (F_machine : Nat → Int32) (a_machine_waiting : Nat → Int32) (a_text : Nat → Int32) (n_t_text : Nat) : Option (Int32 × (Nat → Int32) × (Nat → Int32) × (Nat → Int32)) :=
  if (F_machine 7) = 12 then (
  some (2, F_t, F_machine, a_machine_waiting))
  else (
  m_X6_readDo_w16 a_text n_t_text (m_X6_readDo_j50 a_text n_t_text) fuelN 0 F_t F_machine a_machine_waiting)
set_option maxHeartbeats 4000000 in
set_option maxRecDepth 100000 in
theorem c_X6_readDo (l : Launch) (D : va_G) (cI : ClassId) (h_t : Nat) (r_t : Nat → Nat) (r_machine : Nat → Nat) (F_t : Nat → Int32) (F_machine : Nat → Int32) (n_t_text : Nat) (a_machine_waiting : Nat → Int32) (a_text : Nat → Int32) (Rr : Int32 × (Nat → Int32) × (Nat → Int32) × (Nat → Int32)) (hf : m_X6_readDo F_t F_machine a_machine_waiting a_text n_t_text = some Rr) : CTi l yX6_readDo (Cond.code yX6_readDo cX6_readDo 3 (some .int)) rm_X6_readDo D cI [.ref h_t] (w_X6_readDo h_t r_t r_machine F_t F_machine cI n_t_text a_machine_waiting a_text) Rr.1 (w_X6_readDo h_t r_t r_machine Rr.2.1 Rr.2.2.1 cI n_t_text Rr.2.2.2 a_text) := by
  refine z_begin_i (own := RX6) (ρ := Int32 × (Nat → Int32) × (Nat → Int32) × (Nat → Int32)) (fun u => w_X6_readDo h_t r_t r_machine u.2.1 u.2.2.1 cI n_t_text u.2.2.2 a_text) (fun u => u.1) (by decide +kernel) rfl (Nat.le_of_ble_eq_true rfl) ?_
  intro p e s m args below meth c ls Q A hx hb hml hts hcx hown hK hX hA hP hD hS hl hret
  have hl : lv_has ls 3 [(0, .ref h_t)] := hl
  have hf := (m_X6_readDo.eq_1 _ _ _ _ _).symm.trans hf
  have L50 : ∀ (F_t : Nat → Int32) (F_machine : Nat → Int32) (a_machine_waiting : Nat → Int32) (H : Heap) (locs : List Loc) (ls : Array Slot), m_X6_readDo_j50 a_text n_t_text F_t F_machine a_machine_waiting = some Rr → va_P D vwCl (w_X6_readDo h_t r_t r_machine F_t F_machine cI n_t_text a_machine_waiting a_text) H → va_D A (w_X6_readDo h_t r_t r_machine F_t F_machine cI n_t_text a_machine_waiting a_text) → va_S A s.heap H locs → lv_has ls 3 [(0, .ref h_t)] → W p l e rm_X6_readDo s m args below meth c H locs 0 0 Q (F0 m 50 ls []) := by
    intro F_t F_machine a_machine_waiting H locs ls hf hP hD hS hl
    have hf := (m_X6_readDo_j50.eq_1 _ _ _ _ _).symm.trans hf
    refine lv_aload_n hx hb dX6_readDo_50 rfl (lv_at hl 0 rfl) ?_
    refine z_get (ci := 6) (C := RX6) (T := TX6) (N := 11) (v := .ref (r_t 0)) hx hb hts inT_X6 hown hK hP 0 rfl rfl 0 (by decide) tf_X6_12 rfl dX6_readDo_51 ?_
    refine lv_dup hx hb dX6_readDo_54 rfl ?_
    refine z_get (ci := 4) (C := RX4) (T := TX4) (N := 12) (v := .int (F_machine 7)) hx hb hts inT_X4 hown hK hP 1 rfl rfl 7 (by decide) tf_X6_87 rfl dX6_readDo_55 ?_
    refine lv_iconst (v := 1) hx hb dX6_readDo_58 (by decide) ?_
    refine lv_iadd hx hb dX6_readDo_59 ?_
    refine z_put (ci := 4) (C := RX4) (T := TX4) (N := 12) hx hb hts inT_X4 tyX4 tyX4_ok nmX4 hown hK hP hD hS 1 rfl rfl 7 (by decide) tf_X6_87 rfl (by decide +kernel) (Nat.le_of_ble_eq_true rfl) (o_X4 r_machine) (o_X4_s7 _ _ _) (fun z => w_X6_readDo h_t r_t r_machine F_t z cI n_t_text a_machine_waiting a_text) (fun _ => rfl) dX6_readDo_60 hf (fun F7 H locs hf hP hD hS => ?_)
    refine lv_iconst (v := 0) hx hb dX6_readDo_63 (by decide) ?_
    exact hret (0, F_t, F7, a_machine_waiting) _ _ _ _ hf hP hD hS dX6_readDo_64
  have L16 : ∀ (n16 : Nat) (x1 : Int32) (F_t : Nat → Int32) (F_machine : Nat → Int32) (a_machine_waiting : Nat → Int32) (H : Heap) (locs : List Loc) (ls : Array Slot), m_X6_readDo_w16 a_text n_t_text (m_X6_readDo_j50 a_text n_t_text) n16 x1 F_t F_machine a_machine_waiting = some Rr → va_P D vwCl (w_X6_readDo h_t r_t r_machine F_t F_machine cI n_t_text a_machine_waiting a_text) H → va_D A (w_X6_readDo h_t r_t r_machine F_t F_machine cI n_t_text a_machine_waiting a_text) → va_S A s.heap H locs → lv_has ls 3 [(0, .ref h_t), (1, .int x1)] → W p l e rm_X6_readDo s m args below meth c H locs 0 0 Q (F0 m 16 ls []) := by
    intro n16
    induction n16 with
    | zero => intro x1 F_t F_machine a_machine_waiting H locs ls hf; cases (show (none : Option _) = some Rr from hf)
    | succ n16 ih16 =>
      intro x1 F_t F_machine a_machine_waiting H locs ls hf hP hD hS hl
      have hf := (m_X6_readDo_w16.eq_2 _ _ _ _ _ _ _ _).symm.trans hf
      refine lv_iload_n hx hb dX6_readDo_16 rfl (lv_at hl 1 rfl) ?_
      refine lv_iconst (v := 4) hx hb dX6_readDo_17 (by decide) ?_
      refine z_icmp_gt (tgt := 82) hx hb dX6_readDo_18 (by decide) hf (fun hf => ?_) (fun hf => ?_)
      · refine lv_iconst (v := 1) hx hb dX6_readDo_82 (by decide) ?_
        exact hret (1, F_t, F_machine, a_machine_waiting) _ _ _ _ hf hP hD hS dX6_readDo_83
      · refine lv_aload_n hx hb dX6_readDo_21 rfl (lv_at hl 0 rfl) ?_
        obtain ⟨u1, hu1, hf⟩ := bd_some hf
        refine z_cv (ws1 := w_X6_readDo h_t r_t r_machine u1 F_machine cI n_t_text a_machine_waiting a_text) (wr := List.filterMap (fun i : Nat => (w_X6_readDo h_t r_t r_machine F_t F_machine cI n_t_text a_machine_waiting a_text)[i]?) [1, 2]) (z_rV (rest := []) hx hb hml hown hcx hl.1 (c_X6_goOn l D cI h_t r_t F_t n_t_text a_text u1 hu1 _) tl_X6_67 ti_X6_goOn tz_X6_goOn tn_X6 tc_X6_goOn tm_X6_goOn rfl rfl ⟨Nat.le_of_ble_eq_true rfl, Nat.le_of_ble_eq_true rfl⟩ hK hX hS hA hP hD [0, 3] rfl rfl 0 rfl rfl rfl rfl (Nat.le_of_ble_eq_true rfl) dX6_readDo_22 ⟨Nat.zero_le _, Nat.zero_le _⟩) hP hD hS hA [0, 3] [1, 2] [2, 0, 1, 3] rfl rfl rfl (by decide) rfl rfl (fun H locs hP hD hS => ?_)
        refine lv_aload_n hx hb dX6_readDo_25 rfl (lv_at hl 0 rfl) ?_
        refine lv_iload_n hx hb dX6_readDo_26 rfl (lv_at hl 1 rfl) ?_
        obtain ⟨u2, hu2, hf⟩ := bd_some hf
        refine z_ci (ws1 := w_X6_readDo h_t r_t r_machine u2.2.1 F_machine cI n_t_text u2.2.2 a_text) (wr := List.filterMap (fun i : Nat => (w_X6_readDo h_t r_t r_machine u1 F_machine cI n_t_text a_machine_waiting a_text)[i]?) []) (z_rV (rest := []) hx hb hml hown hcx hl.1 (c_X6_readOp l D cI h_t r_t r_machine u1 F_machine n_t_text a_machine_waiting a_text x1 u2 hu2 _) tl_X6_160 ti_X6_readOp tz_X6_readOp tn_X6 tc_X6_readOp tm_X6_readOp rfl rfl ⟨Nat.le_of_ble_eq_true rfl, Nat.le_of_ble_eq_true rfl⟩ hK hX hS hA hP hD [0, 1, 2, 3] rfl rfl 0 rfl rfl rfl rfl (Nat.le_of_ble_eq_true rfl) dX6_readDo_27 ⟨Nat.zero_le _, Nat.zero_le _⟩) hP hD hS hA [0, 1, 2, 3] [] [0, 1, 2, 3] rfl rfl rfl (by decide) rfl rfl (fun H locs hP hD hS => ?_)
        refine lv_istore_n (lv' := [(2, .int u2.1), (0, .ref h_t), (1, .int x1)]) hx hb dX6_readDo_30 rfl hl (by decide) rfl (fun ls hl => ?_)
        refine lv_iload_n hx hb dX6_readDo_31 rfl (lv_at hl 0 rfl) ?_
        refine z_if_eq (tgt := 37) hx hb dX6_readDo_32 (by decide) hf (fun hf => ?_) (fun hf => ?_)
        · refine lv_aload_n hx hb dX6_readDo_37 rfl (lv_at hl 1 rfl) ?_
          obtain ⟨u3, hu3, hf⟩ := bd_some hf
          refine z_cv (ws1 := w_X6_readDo h_t r_t r_machine u3 F_machine cI n_t_text u2.2.2 a_text) (wr := List.filterMap (fun i : Nat => (w_X6_readDo h_t r_t r_machine u2.2.1 F_machine cI n_t_text u2.2.2 a_text)[i]?) [1, 2]) (z_rV (rest := []) hx hb hml hown hcx hl.1 (c_X6_goOn l D cI h_t r_t u2.2.1 n_t_text a_text u3 hu3 _) tl_X6_67 ti_X6_goOn tz_X6_goOn tn_X6 tc_X6_goOn tm_X6_goOn rfl rfl ⟨Nat.le_of_ble_eq_true rfl, Nat.le_of_ble_eq_true rfl⟩ hK hX hS hA hP hD [0, 3] rfl rfl 0 rfl rfl rfl rfl (Nat.le_of_ble_eq_true rfl) dX6_readDo_38 ⟨Nat.zero_le _, Nat.zero_le _⟩) hP hD hS hA [0, 3] [1, 2] [2, 0, 1, 3] rfl rfl rfl (by decide) rfl rfl (fun H locs hP hD hS => ?_)
          refine lv_aload_n hx hb dX6_readDo_41 rfl (lv_at hl 1 rfl) ?_
          refine lv_bipush (v := 59) hx hb dX6_readDo_42 (by decide) ?_
          obtain ⟨u4, hu4, hf⟩ := bd_some hf
          refine z_ci (ws1 := w_X6_readDo h_t r_t r_machine u3 F_machine cI n_t_text u2.2.2 a_text) (wr := List.filterMap (fun i : Nat => (w_X6_readDo h_t r_t r_machine u3 F_machine cI n_t_text u2.2.2 a_text)[i]?) [1, 2]) (z_rV (rest := []) hx hb hml hown hcx hl.1 (c_X6_isSign l D cI h_t r_t u3 n_t_text a_text 59 u4 hu4 _) tl_X6_108 ti_X6_isSign tz_X6_isSign tn_X6 tc_X6_isSign tm_X6_isSign rfl rfl ⟨Nat.le_of_ble_eq_true rfl, Nat.le_of_ble_eq_true rfl⟩ hK hX hS hA hP hD [0, 3] rfl rfl 0 rfl rfl rfl rfl (Nat.le_of_ble_eq_true rfl) dX6_readDo_44 ⟨Nat.zero_le _, Nat.zero_le _⟩) hP hD hS hA [0, 3] [1, 2] [2, 0, 1, 3] rfl rfl rfl (by decide) rfl rfl (fun H locs hP hD hS => ?_)
          refine z_if_eq (tgt := 65) hx hb dX6_readDo_47 (by decide) hf (fun hf => ?_) (fun hf => ?_)
          · refine lv_aload_n hx hb dX6_readDo_65 rfl (lv_at hl 1 rfl) ?_
            refine lv_bipush (v := 44) hx hb dX6_readDo_66 (by decide) ?_
            obtain ⟨u5, hu5, hf⟩ := bd_some hf
            refine z_ci (ws1 := w_X6_readDo h_t r_t r_machine u3 F_machine cI n_t_text u2.2.2 a_text) (wr := List.filterMap (fun i : Nat => (w_X6_readDo h_t r_t r_machine u3 F_machine cI n_t_text u2.2.2 a_text)[i]?) [1, 2]) (z_rV (rest := []) hx hb hml hown hcx hl.1 (c_X6_isSign l D cI h_t r_t u3 n_t_text a_text 44 u5 hu5 _) tl_X6_108 ti_X6_isSign tz_X6_isSign tn_X6 tc_X6_isSign tm_X6_isSign rfl rfl ⟨Nat.le_of_ble_eq_true rfl, Nat.le_of_ble_eq_true rfl⟩ hK hX hS hA hP hD [0, 3] rfl rfl 0 rfl rfl rfl rfl (Nat.le_of_ble_eq_true rfl) dX6_readDo_68 ⟨Nat.zero_le _, Nat.zero_le _⟩) hP hD hS hA [0, 3] [1, 2] [2, 0, 1, 3] rfl rfl rfl (by decide) rfl rfl (fun H locs hP hD hS => ?_)
            refine z_if_ne (tgt := 76) hx hb dX6_readDo_71 (by decide) hf (fun hf => ?_) (fun hf => ?_)
            · refine z_iinc (k0 := 2) (fun z => [(1, .int z), (2, .int u2.1), (0, .ref h_t)]) hx hb dX6_readDo_76 hl rfl (by decide) (by decide) (fun _ => rfl) hf (fun v6 ls hf hl => ?_)
              refine lv_goto (tgt := 16) hx hb dX6_readDo_79 (by decide) ?_
              exact ih16 v6 u3 F_machine u2.2.2 _ _ _ hf hP hD hS (lv_sub hl [2, 0] rfl)
            · refine lv_iconst (v := 1) hx hb dX6_readDo_74 (by decide) ?_
              exact hret (1, u3, F_machine, u2.2.2) _ _ _ _ hf hP hD hS dX6_readDo_75
          · exact L50 u3 F_machine u2.2.2 _ _ _ hf hP hD hS (lv_sub hl [1] rfl)
        · refine lv_iload_n hx hb dX6_readDo_35 rfl (lv_at hl 0 rfl) ?_
          exact hret (u2.1, u2.2.1, F_machine, u2.2.2) _ _ _ _ hf hP hD hS dX6_readDo_36
  refine lv_aload_n hx hb dX6_readDo_0 rfl (lv_at hl 0 rfl) ?_
  refine z_get (ci := 6) (C := RX6) (T := TX6) (N := 11) (v := .ref (r_t 0)) hx hb hts inT_X6 hown hK hP 0 rfl rfl 0 (by decide) tf_X6_12 rfl dX6_readDo_1 ?_
  refine z_get (ci := 4) (C := RX4) (T := TX4) (N := 12) (v := .int (F_machine 7)) hx hb hts inT_X4 hown hK hP 1 rfl rfl 7 (by decide) tf_X6_87 rfl dX6_readDo_4 ?_
  refine lv_bipush (v := 12) hx hb dX6_readDo_7 (by decide) ?_
  refine z_icmp_ne (tgt := 14) hx hb dX6_readDo_9 (by decide) hf (fun hf => ?_) (fun hf => ?_)
  · refine lv_iconst (v := 0) hx hb dX6_readDo_14 (by decide) ?_
    refine lv_istore_n (lv' := [(1, .int 0), (0, .ref h_t)]) hx hb dX6_readDo_15 rfl hl (by decide) rfl (fun ls hl => ?_)
    exact L16 fuelN 0 F_t F_machine a_machine_waiting _ _ _ hf hP hD hS (lv_sub hl [1, 0] rfl)
  · refine lv_iconst (v := 2) hx hb dX6_readDo_12 (by decide) ?_
    exact hret (2, F_t, F_machine, a_machine_waiting) _ _ _ _ hf hP hD hS dX6_readDo_13
abbrev w_X6_readClause (h_t : Nat) (r_t : Nat → Nat) (r_machine : Nat → Nat) (F_t : Nat → Int32) (F_machine : Nat → Int32) (cI : ClassId) (n_t_text : Nat) (a_machine_waiting : Nat → Int32) (a_media : Nat → Int32) (a_text : Nat → Int32) : va_W := [(h_t, .inr (6, o_X6 r_t F_t)), ((r_t 0), .inr (4, o_X4 r_machine F_machine)), ((r_machine 6), .inl (cI, 48, .inl a_machine_waiting)), ((r_t 1), .inl (cI, 64, .inl a_media)), ((r_t 2), .inl (cI, n_t_text, .inl a_text))]
abbrev rm_X6_readClause : Room := { frames := 8, cells := 0, slots := 0, locals := 175 }
def m_X6_readClause (F_t : Nat → Int32) (F_machine : Nat → Int32) (a_machine_waiting : Nat → Int32) (a_media : Nat → Int32) (a_text : Nat → Int32) (n_t_text : Nat) : Option (Int32 × (Nat → Int32) × (Nat → Int32) × (Nat → Int32) × (Nat → Int32)) :=
  bd (m_X6_isLetters F_t a_text n_t_text 0) fun u1 =>
  if u1 = 0 then (
  bd (m_X6_isLetters F_t a_text n_t_text 1) fun u2 =>
  if u2 = 0 then (
  bd (m_X6_isLetters F_t a_text n_t_text 2) fun u3 =>
  if u3 = 0 then (
  bd (m_X6_isLetters F_t a_text n_t_text 3) fun u4 =>
  if u4 = 0 then (
  bd (m_X6_isLetters F_t a_text n_t_text 4) fun u5 =>
  if u5 = 0 then (
  bd (m_X6_isLetters F_t a_text n_t_text 5) fun u6 =>
  if u6 = 0 then (
  bd (m_X6_isLetters F_t a_text n_t_text 6) fun u7 =>
  if u7 = 0 then (
  some (1, F_t, F_machine, a_machine_waiting, a_media))
  else (
  bd (m_X6_readDo F_t F_machine a_machine_waiting a_text n_t_text) fun u8 =>
  some (u8.1, u8.2.1, u8.2.2.1, u8.2.2.2, a_media)))
  else (
  bd (m_X6_readData F_t a_media a_text n_t_text) fun u9 =>
  some (u9.1, u9.2.1, F_machine, a_machine_waiting, u9.2.2)))
  else (
  bd (m_X6_readLeak F_t a_media a_text n_t_text) fun u10 =>
  some (u10.1, u10.2.1, F_machine, a_machine_waiting, u10.2.2)))
  else (
  bd (m_X6_readChain F_t a_media a_text n_t_text) fun u11 =>
  some (u11.1, u11.2.1, F_machine, a_machine_waiting, u11.2.2)))
  else (
  bd (m_X6_readWithout F_t F_machine a_text n_t_text) fun u12 =>
  some (u12.1, u12.2.1, u12.2.2, a_machine_waiting, a_media)))
  else (
  bd (m_X6_readMode F_t F_machine a_text n_t_text 1) fun u13 =>
  some (u13.1, u13.2.1, u13.2.2, a_machine_waiting, a_media)))
  else (
  bd (m_X6_readMode F_t F_machine a_text n_t_text 0) fun u14 =>
  some (u14.1, u14.2.1, u14.2.2, a_machine_waiting, a_media))
set_option maxHeartbeats 4000000 in
set_option maxRecDepth 100000 in
theorem c_X6_readClause (l : Launch) (D : va_G) (cI : ClassId) (h_t : Nat) (r_t : Nat → Nat) (r_machine : Nat → Nat) (F_t : Nat → Int32) (F_machine : Nat → Int32) (n_t_text : Nat) (a_machine_waiting : Nat → Int32) (a_media : Nat → Int32) (a_text : Nat → Int32) (Rr : Int32 × (Nat → Int32) × (Nat → Int32) × (Nat → Int32) × (Nat → Int32)) (hf : m_X6_readClause F_t F_machine a_machine_waiting a_media a_text n_t_text = some Rr) : CTi l yX6_readClause (Cond.code yX6_readClause cX6_readClause 1 (some .int)) rm_X6_readClause D cI [.ref h_t] (w_X6_readClause h_t r_t r_machine F_t F_machine cI n_t_text a_machine_waiting a_media a_text) Rr.1 (w_X6_readClause h_t r_t r_machine Rr.2.1 Rr.2.2.1 cI n_t_text Rr.2.2.2.1 Rr.2.2.2.2 a_text) := by
  refine z_begin_i (own := RX6) (ρ := Int32 × (Nat → Int32) × (Nat → Int32) × (Nat → Int32) × (Nat → Int32)) (fun u => w_X6_readClause h_t r_t r_machine u.2.1 u.2.2.1 cI n_t_text u.2.2.2.1 u.2.2.2.2 a_text) (fun u => u.1) (by decide +kernel) rfl (Nat.le_of_ble_eq_true rfl) ?_
  intro p e s m args below meth c ls Q A hx hb hml hts hcx hown hK hX hA hP hD hS hl hret
  have hl : lv_has ls 1 [(0, .ref h_t)] := hl
  have hf := (m_X6_readClause.eq_1 _ _ _ _ _ _).symm.trans hf
  refine lv_aload_n hx hb dX6_readClause_0 rfl (lv_at hl 0 rfl) ?_
  refine va_ldcS (index := 112) (tx := "undo") hx hb hown (hX.2.2.2.2.2.2.1 0 _ rfl).1 dX6_readClause_1 ?_
  obtain ⟨u1, hu1, hf⟩ := bd_some hf
  refine z_ci (ws1 := w_X6_readClause h_t r_t r_machine F_t F_machine cI n_t_text a_machine_waiting a_media a_text) (wr := List.filterMap (fun i : Nat => (w_X6_readClause h_t r_t r_machine F_t F_machine cI n_t_text a_machine_waiting a_media a_text)[i]?) [1, 2, 3]) (z_rV (rest := []) hx hb hml hown hcx hl.1 (c_X6_isLetters l D cI h_t r_t F_t n_t_text a_text 0 (by decide) u1 hu1 _) tl_X6_114 ti_X6_isLetters tz_X6_isLetters tn_X6 tc_X6_isLetters tm_X6_isLetters rfl rfl ⟨Nat.le_of_ble_eq_true rfl, Nat.le_of_ble_eq_true rfl⟩ hK hX hS hA hP hD [0, 4] rfl rfl 0 rfl rfl rfl rfl (Nat.le_of_ble_eq_true rfl) dX6_readClause_3 ⟨Nat.zero_le _, Nat.zero_le _⟩) hP hD hS hA [0, 4] [1, 2, 3] [3, 0, 1, 2, 4] rfl rfl rfl (by decide) rfl rfl (fun H locs hP hD hS => ?_)
  refine z_if_eq (tgt := 15) hx hb dX6_readClause_6 (by decide) hf (fun hf => ?_) (fun hf => ?_)
  · refine lv_aload_n hx hb dX6_readClause_15 rfl (lv_at hl 0 rfl) ?_
    refine va_ldcS (index := 121) (tx := "redo") hx hb hown (hX.2.2.2.2.2.2.1 1 _ rfl).1 dX6_readClause_16 ?_
    obtain ⟨u2, hu2, hf⟩ := bd_some hf
    refine z_ci (ws1 := w_X6_readClause h_t r_t r_machine F_t F_machine cI n_t_text a_machine_waiting a_media a_text) (wr := List.filterMap (fun i : Nat => (w_X6_readClause h_t r_t r_machine F_t F_machine cI n_t_text a_machine_waiting a_media a_text)[i]?) [1, 2, 3]) (z_rV (rest := []) hx hb hml hown hcx hl.1 (c_X6_isLetters l D cI h_t r_t F_t n_t_text a_text 1 (by decide) u2 hu2 _) tl_X6_114 ti_X6_isLetters tz_X6_isLetters tn_X6 tc_X6_isLetters tm_X6_isLetters rfl rfl ⟨Nat.le_of_ble_eq_true rfl, Nat.le_of_ble_eq_true rfl⟩ hK hX hS hA hP hD [0, 4] rfl rfl 0 rfl rfl rfl rfl (Nat.le_of_ble_eq_true rfl) dX6_readClause_18 ⟨Nat.zero_le _, Nat.zero_le _⟩) hP hD hS hA [0, 4] [1, 2, 3] [3, 0, 1, 2, 4] rfl rfl rfl (by decide) rfl rfl (fun H locs hP hD hS => ?_)
    refine z_if_eq (tgt := 30) hx hb dX6_readClause_21 (by decide) hf (fun hf => ?_) (fun hf => ?_)
    · refine lv_aload_n hx hb dX6_readClause_30 rfl (lv_at hl 0 rfl) ?_
      refine va_ldcS (index := 123) (tx := "without") hx hb hown (hX.2.2.2.2.2.2.1 2 _ rfl).1 dX6_readClause_31 ?_
      obtain ⟨u3, hu3, hf⟩ := bd_some hf
      refine z_ci (ws1 := w_X6_readClause h_t r_t r_machine F_t F_machine cI n_t_text a_machine_waiting a_media a_text) (wr := List.filterMap (fun i : Nat => (w_X6_readClause h_t r_t r_machine F_t F_machine cI n_t_text a_machine_waiting a_media a_text)[i]?) [1, 2, 3]) (z_rV (rest := []) hx hb hml hown hcx hl.1 (c_X6_isLetters l D cI h_t r_t F_t n_t_text a_text 2 (by decide) u3 hu3 _) tl_X6_114 ti_X6_isLetters tz_X6_isLetters tn_X6 tc_X6_isLetters tm_X6_isLetters rfl rfl ⟨Nat.le_of_ble_eq_true rfl, Nat.le_of_ble_eq_true rfl⟩ hK hX hS hA hP hD [0, 4] rfl rfl 0 rfl rfl rfl rfl (Nat.le_of_ble_eq_true rfl) dX6_readClause_33 ⟨Nat.zero_le _, Nat.zero_le _⟩) hP hD hS hA [0, 4] [1, 2, 3] [3, 0, 1, 2, 4] rfl rfl rfl (by decide) rfl rfl (fun H locs hP hD hS => ?_)
      refine z_if_eq (tgt := 44) hx hb dX6_readClause_36 (by decide) hf (fun hf => ?_) (fun hf => ?_)
      · refine lv_aload_n hx hb dX6_readClause_44 rfl (lv_at hl 0 rfl) ?_
        refine va_ldcS (index := 128) (tx := "chain") hx hb hown (hX.2.2.2.2.2.2.1 3 _ rfl).1 dX6_readClause_45 ?_
        obtain ⟨u4, hu4, hf⟩ := bd_some hf
        refine z_ci (ws1 := w_X6_readClause h_t r_t r_machine F_t F_machine cI n_t_text a_machine_waiting a_media a_text) (wr := List.filterMap (fun i : Nat => (w_X6_readClause h_t r_t r_machine F_t F_machine cI n_t_text a_machine_waiting a_media a_text)[i]?) [1, 2, 3]) (z_rV (rest := []) hx hb hml hown hcx hl.1 (c_X6_isLetters l D cI h_t r_t F_t n_t_text a_text 3 (by decide) u4 hu4 _) tl_X6_114 ti_X6_isLetters tz_X6_isLetters tn_X6 tc_X6_isLetters tm_X6_isLetters rfl rfl ⟨Nat.le_of_ble_eq_true rfl, Nat.le_of_ble_eq_true rfl⟩ hK hX hS hA hP hD [0, 4] rfl rfl 0 rfl rfl rfl rfl (Nat.le_of_ble_eq_true rfl) dX6_readClause_47 ⟨Nat.zero_le _, Nat.zero_le _⟩) hP hD hS hA [0, 4] [1, 2, 3] [3, 0, 1, 2, 4] rfl rfl rfl (by decide) rfl rfl (fun H locs hP hD hS => ?_)
        refine z_if_eq (tgt := 58) hx hb dX6_readClause_50 (by decide) hf (fun hf => ?_) (fun hf => ?_)
        · refine lv_aload_n hx hb dX6_readClause_58 rfl (lv_at hl 0 rfl) ?_
          refine va_ldcS (index := 133) (tx := "leak") hx hb hown (hX.2.2.2.2.2.2.1 4 _ rfl).1 dX6_readClause_59 ?_
          obtain ⟨u5, hu5, hf⟩ := bd_some hf
          refine z_ci (ws1 := w_X6_readClause h_t r_t r_machine F_t F_machine cI n_t_text a_machine_waiting a_media a_text) (wr := List.filterMap (fun i : Nat => (w_X6_readClause h_t r_t r_machine F_t F_machine cI n_t_text a_machine_waiting a_media a_text)[i]?) [1, 2, 3]) (z_rV (rest := []) hx hb hml hown hcx hl.1 (c_X6_isLetters l D cI h_t r_t F_t n_t_text a_text 4 (by decide) u5 hu5 _) tl_X6_114 ti_X6_isLetters tz_X6_isLetters tn_X6 tc_X6_isLetters tm_X6_isLetters rfl rfl ⟨Nat.le_of_ble_eq_true rfl, Nat.le_of_ble_eq_true rfl⟩ hK hX hS hA hP hD [0, 4] rfl rfl 0 rfl rfl rfl rfl (Nat.le_of_ble_eq_true rfl) dX6_readClause_61 ⟨Nat.zero_le _, Nat.zero_le _⟩) hP hD hS hA [0, 4] [1, 2, 3] [3, 0, 1, 2, 4] rfl rfl rfl (by decide) rfl rfl (fun H locs hP hD hS => ?_)
          refine z_if_eq (tgt := 72) hx hb dX6_readClause_64 (by decide) hf (fun hf => ?_) (fun hf => ?_)
          · refine lv_aload_n hx hb dX6_readClause_72 rfl (lv_at hl 0 rfl) ?_
            refine va_ldcS (index := 138) (tx := "data") hx hb hown (hX.2.2.2.2.2.2.1 5 _ rfl).1 dX6_readClause_73 ?_
            obtain ⟨u6, hu6, hf⟩ := bd_some hf
            refine z_ci (ws1 := w_X6_readClause h_t r_t r_machine F_t F_machine cI n_t_text a_machine_waiting a_media a_text) (wr := List.filterMap (fun i : Nat => (w_X6_readClause h_t r_t r_machine F_t F_machine cI n_t_text a_machine_waiting a_media a_text)[i]?) [1, 2, 3]) (z_rV (rest := []) hx hb hml hown hcx hl.1 (c_X6_isLetters l D cI h_t r_t F_t n_t_text a_text 5 (by decide) u6 hu6 _) tl_X6_114 ti_X6_isLetters tz_X6_isLetters tn_X6 tc_X6_isLetters tm_X6_isLetters rfl rfl ⟨Nat.le_of_ble_eq_true rfl, Nat.le_of_ble_eq_true rfl⟩ hK hX hS hA hP hD [0, 4] rfl rfl 0 rfl rfl rfl rfl (Nat.le_of_ble_eq_true rfl) dX6_readClause_75 ⟨Nat.zero_le _, Nat.zero_le _⟩) hP hD hS hA [0, 4] [1, 2, 3] [3, 0, 1, 2, 4] rfl rfl rfl (by decide) rfl rfl (fun H locs hP hD hS => ?_)
            refine z_if_eq (tgt := 86) hx hb dX6_readClause_78 (by decide) hf (fun hf => ?_) (fun hf => ?_)
            · refine lv_aload_n hx hb dX6_readClause_86 rfl (lv_at hl 0 rfl) ?_
              refine va_ldcS (index := 143) (tx := "do") hx hb hown (hX.2.2.2.2.2.2.1 6 _ rfl).1 dX6_readClause_87 ?_
              obtain ⟨u7, hu7, hf⟩ := bd_some hf
              refine z_ci (ws1 := w_X6_readClause h_t r_t r_machine F_t F_machine cI n_t_text a_machine_waiting a_media a_text) (wr := List.filterMap (fun i : Nat => (w_X6_readClause h_t r_t r_machine F_t F_machine cI n_t_text a_machine_waiting a_media a_text)[i]?) [1, 2, 3]) (z_rV (rest := []) hx hb hml hown hcx hl.1 (c_X6_isLetters l D cI h_t r_t F_t n_t_text a_text 6 (by decide) u7 hu7 _) tl_X6_114 ti_X6_isLetters tz_X6_isLetters tn_X6 tc_X6_isLetters tm_X6_isLetters rfl rfl ⟨Nat.le_of_ble_eq_true rfl, Nat.le_of_ble_eq_true rfl⟩ hK hX hS hA hP hD [0, 4] rfl rfl 0 rfl rfl rfl rfl (Nat.le_of_ble_eq_true rfl) dX6_readClause_89 ⟨Nat.zero_le _, Nat.zero_le _⟩) hP hD hS hA [0, 4] [1, 2, 3] [3, 0, 1, 2, 4] rfl rfl rfl (by decide) rfl rfl (fun H locs hP hD hS => ?_)
              refine z_if_eq (tgt := 102) hx hb dX6_readClause_92 (by decide) hf (fun hf => ?_) (fun hf => ?_)
              · refine lv_iconst (v := 1) hx hb dX6_readClause_102 (by decide) ?_
                exact hret (1, F_t, F_machine, a_machine_waiting, a_media) _ _ _ _ hf hP hD hS dX6_readClause_103
              · refine lv_aload_n hx hb dX6_readClause_95 rfl (lv_at hl 0 rfl) ?_
                obtain ⟨u8, hu8, hf⟩ := bd_some hf
                refine z_ci (ws1 := w_X6_readClause h_t r_t r_machine u8.2.1 u8.2.2.1 cI n_t_text u8.2.2.2 a_media a_text) (wr := List.filterMap (fun i : Nat => (w_X6_readClause h_t r_t r_machine F_t F_machine cI n_t_text a_machine_waiting a_media a_text)[i]?) [3]) (z_rV (rest := []) hx hb hml hown hcx hl.1 (c_X6_readDo l D cI h_t r_t r_machine F_t F_machine n_t_text a_machine_waiting a_text u8 hu8 _) tl_X6_145 ti_X6_readDo tz_X6_readDo tn_X6 tc_X6_readDo tm_X6_readDo rfl rfl ⟨Nat.le_of_ble_eq_true rfl, Nat.le_of_ble_eq_true rfl⟩ hK hX hS hA hP hD [0, 1, 2, 4] rfl rfl 0 rfl rfl rfl rfl (Nat.le_of_ble_eq_true rfl) dX6_readClause_96 ⟨Nat.zero_le _, Nat.zero_le _⟩) hP hD hS hA [0, 1, 2, 4] [3] [1, 2, 3, 0, 4] rfl rfl rfl (by decide) rfl rfl (fun H locs hP hD hS => ?_)
                refine lv_goto (tgt := 103) hx hb dX6_readClause_99 (by decide) ?_
                exact hret (u8.1, u8.2.1, u8.2.2.1, u8.2.2.2, a_media) _ _ _ _ hf hP hD hS dX6_readClause_103
            · refine lv_aload_n hx hb dX6_readClause_81 rfl (lv_at hl 0 rfl) ?_
              obtain ⟨u9, hu9, hf⟩ := bd_some hf
              refine z_ci (ws1 := w_X6_readClause h_t r_t r_machine u9.2.1 F_machine cI n_t_text a_machine_waiting u9.2.2 a_text) (wr := List.filterMap (fun i : Nat => (w_X6_readClause h_t r_t r_machine F_t F_machine cI n_t_text a_machine_waiting a_media a_text)[i]?) [1, 2]) (z_rV (rest := []) hx hb hml hown hcx hl.1 (c_X6_readData l D cI h_t r_t F_t n_t_text a_media a_text u9 hu9 _) tl_X6_140 ti_X6_readData tz_X6_readData tn_X6 tc_X6_readData tm_X6_readData rfl rfl ⟨Nat.le_of_ble_eq_true rfl, Nat.le_of_ble_eq_true rfl⟩ hK hX hS hA hP hD [0, 3, 4] rfl rfl 0 rfl rfl rfl rfl (Nat.le_of_ble_eq_true rfl) dX6_readClause_82 ⟨Nat.zero_le _, Nat.zero_le _⟩) hP hD hS hA [0, 3, 4] [1, 2] [2, 0, 1, 3, 4] rfl rfl rfl (by decide) rfl rfl (fun H locs hP hD hS => ?_)
              exact hret (u9.1, u9.2.1, F_machine, a_machine_waiting, u9.2.2) _ _ _ _ hf hP hD hS dX6_readClause_85
          · refine lv_aload_n hx hb dX6_readClause_67 rfl (lv_at hl 0 rfl) ?_
            obtain ⟨u10, hu10, hf⟩ := bd_some hf
            refine z_ci (ws1 := w_X6_readClause h_t r_t r_machine u10.2.1 F_machine cI n_t_text a_machine_waiting u10.2.2 a_text) (wr := List.filterMap (fun i : Nat => (w_X6_readClause h_t r_t r_machine F_t F_machine cI n_t_text a_machine_waiting a_media a_text)[i]?) [1, 2]) (z_rV (rest := []) hx hb hml hown hcx hl.1 (c_X6_readLeak l D cI h_t r_t F_t n_t_text a_media a_text u10 hu10 _) tl_X6_135 ti_X6_readLeak tz_X6_readLeak tn_X6 tc_X6_readLeak tm_X6_readLeak rfl rfl ⟨Nat.le_of_ble_eq_true rfl, Nat.le_of_ble_eq_true rfl⟩ hK hX hS hA hP hD [0, 3, 4] rfl rfl 0 rfl rfl rfl rfl (Nat.le_of_ble_eq_true rfl) dX6_readClause_68 ⟨Nat.zero_le _, Nat.zero_le _⟩) hP hD hS hA [0, 3, 4] [1, 2] [2, 0, 1, 3, 4] rfl rfl rfl (by decide) rfl rfl (fun H locs hP hD hS => ?_)
            exact hret (u10.1, u10.2.1, F_machine, a_machine_waiting, u10.2.2) _ _ _ _ hf hP hD hS dX6_readClause_71
        · refine lv_aload_n hx hb dX6_readClause_53 rfl (lv_at hl 0 rfl) ?_
          obtain ⟨u11, hu11, hf⟩ := bd_some hf
          refine z_ci (ws1 := w_X6_readClause h_t r_t r_machine u11.2.1 F_machine cI n_t_text a_machine_waiting u11.2.2 a_text) (wr := List.filterMap (fun i : Nat => (w_X6_readClause h_t r_t r_machine F_t F_machine cI n_t_text a_machine_waiting a_media a_text)[i]?) [1, 2]) (z_rV (rest := []) hx hb hml hown hcx hl.1 (c_X6_readChain l D cI h_t r_t F_t n_t_text a_media a_text u11 hu11 _) tl_X6_130 ti_X6_readChain tz_X6_readChain tn_X6 tc_X6_readChain tm_X6_readChain rfl rfl ⟨Nat.le_of_ble_eq_true rfl, Nat.le_of_ble_eq_true rfl⟩ hK hX hS hA hP hD [0, 3, 4] rfl rfl 0 rfl rfl rfl rfl (Nat.le_of_ble_eq_true rfl) dX6_readClause_54 ⟨Nat.zero_le _, Nat.zero_le _⟩) hP hD hS hA [0, 3, 4] [1, 2] [2, 0, 1, 3, 4] rfl rfl rfl (by decide) rfl rfl (fun H locs hP hD hS => ?_)
          exact hret (u11.1, u11.2.1, F_machine, a_machine_waiting, u11.2.2) _ _ _ _ hf hP hD hS dX6_readClause_57
      · refine lv_aload_n hx hb dX6_readClause_39 rfl (lv_at hl 0 rfl) ?_
        obtain ⟨u12, hu12, hf⟩ := bd_some hf
        refine z_ci (ws1 := w_X6_readClause h_t r_t r_machine u12.2.1 u12.2.2 cI n_t_text a_machine_waiting a_media a_text) (wr := List.filterMap (fun i : Nat => (w_X6_readClause h_t r_t r_machine F_t F_machine cI n_t_text a_machine_waiting a_media a_text)[i]?) [2, 3]) (z_rV (rest := []) hx hb hml hown hcx hl.1 (c_X6_readWithout l D cI h_t r_t r_machine F_t F_machine n_t_text a_text u12 hu12 _) tl_X6_125 ti_X6_readWithout tz_X6_readWithout tn_X6 tc_X6_readWithout tm_X6_readWithout rfl rfl ⟨Nat.le_of_ble_eq_true rfl, Nat.le_of_ble_eq_true rfl⟩ hK hX hS hA hP hD [0, 1, 4] rfl rfl 0 rfl rfl rfl rfl (Nat.le_of_ble_eq_true rfl) dX6_readClause_40 ⟨Nat.zero_le _, Nat.zero_le _⟩) hP hD hS hA [0, 1, 4] [2, 3] [2, 3, 0, 1, 4] rfl rfl rfl (by decide) rfl rfl (fun H locs hP hD hS => ?_)
        exact hret (u12.1, u12.2.1, u12.2.2, a_machine_waiting, a_media) _ _ _ _ hf hP hD hS dX6_readClause_43
    · refine lv_aload_n hx hb dX6_readClause_24 rfl (lv_at hl 0 rfl) ?_
      refine lv_iconst (v := 1) hx hb dX6_readClause_25 (by decide) ?_
      obtain ⟨u13, hu13, hf⟩ := bd_some hf
      refine z_ci (ws1 := w_X6_readClause h_t r_t r_machine u13.2.1 u13.2.2 cI n_t_text a_machine_waiting a_media a_text) (wr := List.filterMap (fun i : Nat => (w_X6_readClause h_t r_t r_machine F_t F_machine cI n_t_text a_machine_waiting a_media a_text)[i]?) [2, 3]) (z_rV (rest := []) hx hb hml hown hcx hl.1 (c_X6_readMode l D cI h_t r_t r_machine F_t F_machine n_t_text a_text 1 u13 hu13 _) tl_X6_118 ti_X6_readMode tz_X6_readMode tn_X6 tc_X6_readMode tm_X6_readMode rfl rfl ⟨Nat.le_of_ble_eq_true rfl, Nat.le_of_ble_eq_true rfl⟩ hK hX hS hA hP hD [0, 1, 4] rfl rfl 0 rfl rfl rfl rfl (Nat.le_of_ble_eq_true rfl) dX6_readClause_26 ⟨Nat.zero_le _, Nat.zero_le _⟩) hP hD hS hA [0, 1, 4] [2, 3] [2, 3, 0, 1, 4] rfl rfl rfl (by decide) rfl rfl (fun H locs hP hD hS => ?_)
      exact hret (u13.1, u13.2.1, u13.2.2, a_machine_waiting, a_media) _ _ _ _ hf hP hD hS dX6_readClause_29
  · refine lv_aload_n hx hb dX6_readClause_9 rfl (lv_at hl 0 rfl) ?_
    refine lv_iconst (v := 0) hx hb dX6_readClause_10 (by decide) ?_
    obtain ⟨u14, hu14, hf⟩ := bd_some hf
    refine z_ci (ws1 := w_X6_readClause h_t r_t r_machine u14.2.1 u14.2.2 cI n_t_text a_machine_waiting a_media a_text) (wr := List.filterMap (fun i : Nat => (w_X6_readClause h_t r_t r_machine F_t F_machine cI n_t_text a_machine_waiting a_media a_text)[i]?) [2, 3]) (z_rV (rest := []) hx hb hml hown hcx hl.1 (c_X6_readMode l D cI h_t r_t r_machine F_t F_machine n_t_text a_text 0 u14 hu14 _) tl_X6_118 ti_X6_readMode tz_X6_readMode tn_X6 tc_X6_readMode tm_X6_readMode rfl rfl ⟨Nat.le_of_ble_eq_true rfl, Nat.le_of_ble_eq_true rfl⟩ hK hX hS hA hP hD [0, 1, 4] rfl rfl 0 rfl rfl rfl rfl (Nat.le_of_ble_eq_true rfl) dX6_readClause_11 ⟨Nat.zero_le _, Nat.zero_le _⟩) hP hD hS hA [0, 1, 4] [2, 3] [2, 3, 0, 1, 4] rfl rfl rfl (by decide) rfl rfl (fun H locs hP hD hS => ?_)
    exact hret (u14.1, u14.2.1, u14.2.2, a_machine_waiting, a_media) _ _ _ _ hf hP hD hS dX6_readClause_14
abbrev w_X6_readText (h_t : Nat) (h_p1 : Nat) (r_t : Nat → Nat) (r_machine : Nat → Nat) (F_t : Nat → Int32) (F_machine : Nat → Int32) (cI : ClassId) (n_p1 : Nat) (a_machine_before : Nat → Int32) (a_machine_after : Nat → Int32) (a_machine_waiting : Nat → Int32) (a_media : Nat → Int32) (a_p1 : Nat → Int32) : va_W := [(h_t, .inr (6, o_X6 r_t F_t)), ((r_t 0), .inr (4, o_X4 r_machine F_machine)), ((r_machine 4), .inl (cI, 44, .inl a_machine_before)), ((r_machine 5), .inl (cI, 44, .inl a_machine_after)), ((r_machine 6), .inl (cI, 48, .inl a_machine_waiting)), ((r_t 1), .inl (cI, 64, .inl a_media)), (h_p1, .inl (cI, n_p1, .inl a_p1))]
abbrev rm_X6_readText : Room := { frames := 9, cells := 0, slots := 0, locals := 195 }
def m_X6_readText_j69 (a_p1 : Nat → Int32) (n_p1 : Nat) (p2 : Int32) (F_t : Nat → Int32) (F_machine : Nat → Int32) (a_machine_before : Nat → Int32) (a_machine_after : Nat → Int32) (a_machine_waiting : Nat → Int32) (a_media : Nat → Int32) : Option (Int32 × (Nat → Int32) × (Nat → Int32) × (Nat → Int32) × (Nat → Int32) × (Nat → Int32) × (Nat → Int32)) :=
  bd (m_X4_settle a_machine_before a_machine_after a_media 64) fun u5 =>
  some (0, F_t, F_machine, u5.1, u5.2, a_machine_waiting, a_media)
def m_X6_readText_w30 (a_p1 : Nat → Int32) (n_p1 : Nat) (p2 : Int32) (k69 : (Nat → Int32) → (Nat → Int32) → (Nat → Int32) → (Nat → Int32) → (Nat → Int32) → (Nat → Int32) → Option (Int32 × (Nat → Int32) × (Nat → Int32) × (Nat → Int32) × (Nat → Int32) × (Nat → Int32) × (Nat → Int32))) : Nat → Int32 → (Nat → Int32) → (Nat → Int32) → (Nat → Int32) → (Nat → Int32) → (Nat → Int32) → (Nat → Int32) → Option (Int32 × (Nat → Int32) × (Nat → Int32) × (Nat → Int32) × (Nat → Int32) × (Nat → Int32) × (Nat → Int32))
  | 0, _, _, _, _, _, _, _ => none
  | n30 + 1, x3, F_t, F_machine, a_machine_before, a_machine_after, a_machine_waiting, a_media =>
    if (F_t 3) < x3 then (
    k69 F_t F_machine a_machine_before a_machine_after a_machine_waiting a_media)
    else (
    if (F_t 5) = 0 then (
    k69 F_t F_machine a_machine_before a_machine_after a_machine_waiting a_media)
    else (
    bd (m_X6_readClause F_t F_machine a_machine_waiting a_media a_p1 n_p1) fun u6 =>
    if u6.1 = 0 then (
    bd (m_X6_goOn u6.2.1 a_p1 n_p1) fun u7 =>
    nm (x3 + 1) fun v8 =>
    m_X6_readText_w30 a_p1 n_p1 p2 k69 n30 v8 u7 u6.2.2.1 a_machine_before a_machine_after u6.2.2.2.1 u6.2.2.2.2)
    else (
    some (u6.1, u6.2.1, u6.2.2.1, a_machine_before, a_machine_after, u6.2.2.2.1, u6.2.2.2.2))))
def m_X6_readText (F_t : Nat → Int32) (F_machine : Nat → Int32) (a_machine_before : Nat → Int32) (a_machine_after : Nat → Int32) (a_machine_waiting : Nat → Int32) (a_media : Nat → Int32) (a_p1 : Nat → Int32) (n_p1 : Nat) (p2 : Int32) : Option (Int32 × (Nat → Int32) × (Nat → Int32) × (Nat → Int32) × (Nat → Int32) × (Nat → Int32) × (Nat → Int32)) :=
  nm (upd F_t 3 (if (Int32.ofNat n_p1) < p2 then (Int32.ofNat n_p1) else p2)) fun F1 =>
  nm (upd F1 4 0) fun F2 =>
  bd (m_X6_clear F2 F_machine a_machine_waiting a_media) fun u3 =>
  bd (m_X6_goOn u3.1 a_p1 n_p1) fun u4 =>
  m_X6_readText_w30 a_p1 n_p1 p2 (m_X6_readText_j69 a_p1 n_p1 p2) fuelN 0 u4 u3.2.1 a_machine_before a_machine_after u3.2.2.1 u3.2.2.2
set_option maxHeartbeats 4000000 in
set_option maxRecDepth 100000 in
theorem c_X6_readText (l : Launch) (D : va_G) (cI : ClassId) (h_t : Nat) (h_p1 : Nat) (r_t : Nat → Nat) (r_machine : Nat → Nat) (F_t : Nat → Int32) (F_machine : Nat → Int32) (n_p1 : Nat) (a_machine_before : Nat → Int32) (a_machine_after : Nat → Int32) (a_machine_waiting : Nat → Int32) (a_media : Nat → Int32) (a_p1 : Nat → Int32) (p2 : Int32) (Rr : Int32 × (Nat → Int32) × (Nat → Int32) × (Nat → Int32) × (Nat → Int32) × (Nat → Int32) × (Nat → Int32)) (hf : m_X6_readText F_t F_machine a_machine_before a_machine_after a_machine_waiting a_media a_p1 n_p1 p2 = some Rr) : CTi l yX6_readText (Cond.code yX6_readText cX6_readText 5 (some .int)) rm_X6_readText D cI [.ref h_t, .ref h_p1, .int p2] (w_X6_readText h_t h_p1 r_t r_machine F_t F_machine cI n_p1 a_machine_before a_machine_after a_machine_waiting a_media a_p1) Rr.1 (w_X6_readText h_t h_p1 (updR r_t 2 h_p1) r_machine Rr.2.1 Rr.2.2.1 cI n_p1 Rr.2.2.2.1 Rr.2.2.2.2.1 Rr.2.2.2.2.2.1 Rr.2.2.2.2.2.2 a_p1) := by
  refine z_begin_i (own := RX6) (ρ := Int32 × (Nat → Int32) × (Nat → Int32) × (Nat → Int32) × (Nat → Int32) × (Nat → Int32) × (Nat → Int32)) (fun u => w_X6_readText h_t h_p1 (updR r_t 2 h_p1) r_machine u.2.1 u.2.2.1 cI n_p1 u.2.2.2.1 u.2.2.2.2.1 u.2.2.2.2.2.1 u.2.2.2.2.2.2 a_p1) (fun u => u.1) (by decide +kernel) rfl (Nat.le_of_ble_eq_true rfl) ?_
  intro p e s m args below meth c ls Q A hx hb hml hts hcx hown hK hX hA hP hD hS hl hret
  have hl : lv_has ls 5 [(0, .ref h_t), (1, .ref h_p1), (2, .int p2)] := hl
  have hf := (m_X6_readText.eq_1 _ _ _ _ _ _ _ _ _).symm.trans hf
  have L69 : ∀ (F_t : Nat → Int32) (F_machine : Nat → Int32) (a_machine_before : Nat → Int32) (a_machine_after : Nat → Int32) (a_machine_waiting : Nat → Int32) (a_media : Nat → Int32) (H : Heap) (locs : List Loc) (ls : Array Slot), m_X6_readText_j69 a_p1 n_p1 p2 F_t F_machine a_machine_before a_machine_after a_machine_waiting a_media = some Rr → va_P D vwCl (w_X6_readText h_t h_p1 (updR r_t 2 h_p1) r_machine F_t F_machine cI n_p1 a_machine_before a_machine_after a_machine_waiting a_media a_p1) H → va_D A (w_X6_readText h_t h_p1 (updR r_t 2 h_p1) r_machine F_t F_machine cI n_p1 a_machine_before a_machine_after a_machine_waiting a_media a_p1) → va_S A s.heap H locs → lv_has ls 5 [(0, .ref h_t)] → W p l e rm_X6_readText s m args below meth c H locs 0 0 Q (F0 m 69 ls []) := by
    intro F_t F_machine a_machine_before a_machine_after a_machine_waiting a_media H locs ls hf hP hD hS hl
    have hf := (m_X6_readText_j69.eq_1 _ _ _ _ _ _ _ _ _).symm.trans hf
    refine lv_aload_n hx hb dX6_readText_69 rfl (lv_at hl 0 rfl) ?_
    refine z_get (ci := 6) (C := RX6) (T := TX6) (N := 11) (v := .ref (r_t 0)) hx hb hts inT_X6 hown hK hP 0 rfl rfl 0 (by decide) tf_X6_12 rfl dX6_readText_70 ?_
    refine lv_aload_n hx hb dX6_readText_73 rfl (lv_at hl 0 rfl) ?_
    refine z_get (ci := 6) (C := RX6) (T := TX6) (N := 11) (v := .ref (r_t 1)) hx hb hts inT_X6 hown hK hP 0 rfl rfl 1 (by decide) tf_X6_28 rfl dX6_readText_74 ?_
    obtain ⟨u5, hu5, hf⟩ := bd_some hf
    refine z_cv (ws1 := w_X6_readText h_t h_p1 (updR r_t 2 h_p1) r_machine F_t F_machine cI n_p1 u5.1 u5.2 a_machine_waiting a_media a_p1) (wr := List.filterMap (fun i : Nat => (w_X6_readText h_t h_p1 (updR r_t 2 h_p1) r_machine F_t F_machine cI n_p1 a_machine_before a_machine_after a_machine_waiting a_media a_p1)[i]?) [0, 4, 6]) (z_rV (rest := []) hx hb hml hown hcx hl.1 (c_X4_settle l D cI (r_t 0) (r_t 1) r_machine F_machine 64 a_machine_before a_machine_after a_media u5 hu5 _) tl_X6_74 ti_X4_settle tz_X4_settle tn_X4 tc_X4_settle tm_X4_settle rfl rfl ⟨Nat.le_of_ble_eq_true rfl, Nat.le_of_ble_eq_true rfl⟩ hK hX hS hA hP hD [1, 2, 3, 5] rfl rfl 1 rfl rfl rfl rfl (Nat.le_of_ble_eq_true rfl) dX6_readText_77 ⟨Nat.zero_le _, Nat.zero_le _⟩) hP hD hS hA [1, 2, 3, 5] [0, 4, 6] [0, 3, 4, 5, 1, 6, 2] rfl rfl rfl (by decide) rfl rfl (fun H locs hP hD hS => ?_)
    refine lv_iconst (v := 0) hx hb dX6_readText_80 (by decide) ?_
    exact hret (0, F_t, F_machine, u5.1, u5.2, a_machine_waiting, a_media) _ _ _ _ hf hP hD hS dX6_readText_81
  have L30 : ∀ (n30 : Nat) (x3 : Int32) (F_t : Nat → Int32) (F_machine : Nat → Int32) (a_machine_before : Nat → Int32) (a_machine_after : Nat → Int32) (a_machine_waiting : Nat → Int32) (a_media : Nat → Int32) (H : Heap) (locs : List Loc) (ls : Array Slot), m_X6_readText_w30 a_p1 n_p1 p2 (m_X6_readText_j69 a_p1 n_p1 p2) n30 x3 F_t F_machine a_machine_before a_machine_after a_machine_waiting a_media = some Rr → va_P D vwCl (w_X6_readText h_t h_p1 (updR r_t 2 h_p1) r_machine F_t F_machine cI n_p1 a_machine_before a_machine_after a_machine_waiting a_media a_p1) H → va_D A (w_X6_readText h_t h_p1 (updR r_t 2 h_p1) r_machine F_t F_machine cI n_p1 a_machine_before a_machine_after a_machine_waiting a_media a_p1) → va_S A s.heap H locs → lv_has ls 5 [(0, .ref h_t), (3, .int x3)] → W p l e rm_X6_readText s m args below meth c H locs 0 0 Q (F0 m 30 ls []) := by
    intro n30
    induction n30 with
    | zero => intro x3 F_t F_machine a_machine_before a_machine_after a_machine_waiting a_media H locs ls hf; cases (show (none : Option _) = some Rr from hf)
    | succ n30 ih30 =>
      intro x3 F_t F_machine a_machine_before a_machine_after a_machine_waiting a_media H locs ls hf hP hD hS hl
      have hf := (m_X6_readText_w30.eq_2 _ _ _ _ _ _ _ _ _ _ _ _).symm.trans hf
      refine lv_iload_n hx hb dX6_readText_30 rfl (lv_at hl 1 rfl) ?_
      refine lv_aload_n hx hb dX6_readText_31 rfl (lv_at hl 0 rfl) ?_
      refine z_get (ci := 6) (C := RX6) (T := TX6) (N := 11) (v := .int (F_t 3)) hx hb hts inT_X6 hown hK hP 0 rfl rfl 3 (by decide) tf_X6_32 rfl dX6_readText_32 ?_
      refine z_icmp_gt (tgt := 69) hx hb dX6_readText_35 (by decide) hf (fun hf => ?_) (fun hf => ?_)
      · exact L69 F_t F_machine a_machine_before a_machine_after a_machine_waiting a_media _ _ _ hf hP hD hS (lv_sub hl [0] rfl)
      · refine lv_aload_n hx hb dX6_readText_38 rfl (lv_at hl 0 rfl) ?_
        refine z_get (ci := 6) (C := RX6) (T := TX6) (N := 11) (v := .int (F_t 5)) hx hb hts inT_X6 hown hK hP 0 rfl rfl 5 (by decide) tf_X6_39 rfl dX6_readText_39 ?_
        refine z_if_eq (tgt := 69) hx hb dX6_readText_42 (by decide) hf (fun hf => ?_) (fun hf => ?_)
        · exact L69 F_t F_machine a_machine_before a_machine_after a_machine_waiting a_media _ _ _ hf hP hD hS (lv_sub hl [0] rfl)
        · refine lv_aload_n hx hb dX6_readText_45 rfl (lv_at hl 0 rfl) ?_
          obtain ⟨u6, hu6, hf⟩ := bd_some hf
          refine z_ci (ws1 := w_X6_readText h_t h_p1 (updR r_t 2 h_p1) r_machine u6.2.1 u6.2.2.1 cI n_p1 a_machine_before a_machine_after u6.2.2.2.1 u6.2.2.2.2 a_p1) (wr := List.filterMap (fun i : Nat => (w_X6_readText h_t h_p1 (updR r_t 2 h_p1) r_machine F_t F_machine cI n_p1 a_machine_before a_machine_after a_machine_waiting a_media a_p1)[i]?) [2, 3]) (z_rV (rest := []) hx hb hml hown hcx hl.1 (c_X6_readClause l D cI h_t (updR r_t 2 h_p1) r_machine F_t F_machine n_p1 a_machine_waiting a_media a_p1 u6 hu6 _) tl_X6_70 ti_X6_readClause tz_X6_readClause tn_X6 tc_X6_readClause tm_X6_readClause rfl rfl ⟨Nat.le_of_ble_eq_true rfl, Nat.le_of_ble_eq_true rfl⟩ hK hX hS hA hP hD [0, 1, 4, 5, 6] rfl rfl 0 rfl rfl rfl rfl (Nat.le_of_ble_eq_true rfl) dX6_readText_46 ⟨Nat.zero_le _, Nat.zero_le _⟩) hP hD hS hA [0, 1, 4, 5, 6] [2, 3] [2, 3, 0, 1, 4, 5, 6] rfl rfl rfl (by decide) rfl rfl (fun H locs hP hD hS => ?_)
          refine lv_istore (lv' := [(4, .int u6.1), (0, .ref h_t), (3, .int x3)]) hx hb dX6_readText_49 hl (by decide) rfl (fun ls hl => ?_)
          refine lv_iload hx hb dX6_readText_51 (lv_at hl 0 rfl) ?_
          refine z_if_eq (tgt := 59) hx hb dX6_readText_53 (by decide) hf (fun hf => ?_) (fun hf => ?_)
          · refine lv_aload_n hx hb dX6_readText_59 rfl (lv_at hl 1 rfl) ?_
            obtain ⟨u7, hu7, hf⟩ := bd_some hf
            refine z_cv (ws1 := w_X6_readText h_t h_p1 (updR r_t 2 h_p1) r_machine u7 u6.2.2.1 cI n_p1 a_machine_before a_machine_after u6.2.2.2.1 u6.2.2.2.2 a_p1) (wr := List.filterMap (fun i : Nat => (w_X6_readText h_t h_p1 (updR r_t 2 h_p1) r_machine u6.2.1 u6.2.2.1 cI n_p1 a_machine_before a_machine_after u6.2.2.2.1 u6.2.2.2.2 a_p1)[i]?) [1, 2, 3, 4, 5]) (z_rV (rest := []) hx hb hml hown hcx hl.1 (c_X6_goOn l D cI h_t (updR r_t 2 h_p1) u6.2.1 n_p1 a_p1 u7 hu7 _) tl_X6_67 ti_X6_goOn tz_X6_goOn tn_X6 tc_X6_goOn tm_X6_goOn rfl rfl ⟨Nat.le_of_ble_eq_true rfl, Nat.le_of_ble_eq_true rfl⟩ hK hX hS hA hP hD [0, 6] rfl rfl 0 rfl rfl rfl rfl (Nat.le_of_ble_eq_true rfl) dX6_readText_60 ⟨Nat.zero_le _, Nat.zero_le _⟩) hP hD hS hA [0, 6] [1, 2, 3, 4, 5] [5, 0, 1, 2, 3, 4, 6] rfl rfl rfl (by decide) rfl rfl (fun H locs hP hD hS => ?_)
            refine z_iinc (k0 := 2) (fun z => [(3, .int z), (4, .int u6.1), (0, .ref h_t)]) hx hb dX6_readText_63 hl rfl (by decide) (by decide) (fun _ => rfl) hf (fun v8 ls hf hl => ?_)
            refine lv_goto (tgt := 30) hx hb dX6_readText_66 (by decide) ?_
            exact ih30 v8 u7 u6.2.2.1 a_machine_before a_machine_after u6.2.2.2.1 u6.2.2.2.2 _ _ _ hf hP hD hS (lv_sub hl [2, 0] rfl)
          · refine lv_iload hx hb dX6_readText_56 (lv_at hl 0 rfl) ?_
            exact hret (u6.1, u6.2.1, u6.2.2.1, a_machine_before, a_machine_after, u6.2.2.2.1, u6.2.2.2.2) _ _ _ _ hf hP hD hS dX6_readText_58
  refine lv_aload_n hx hb dX6_readText_0 rfl (lv_at hl 0 rfl) ?_
  refine lv_aload_n hx hb dX6_readText_1 rfl (lv_at hl 1 rfl) ?_
  refine va_put (ci := 6) (v := .ref h_p1) (ty := .array .int) (C := RX6) (T := TX6) (N := 11) hx hb hts inT_X6 tyX6 tyX6_ok nmX6 hown hK.1 hP hD hS 0 rfl rfl 2 (by decide) (hts _ tf_X6_29) (fun _ h9 => h9) rfl (by decide +kernel) rfl rfl (Nat.le_of_ble_eq_true rfl) dX6_readText_2 (fun H locs hP hD hS => ?_)
  have hP : va_P D vwCl (w_X6_readText h_t h_p1 (updR r_t 2 h_p1) r_machine F_t F_machine cI n_p1 a_machine_before a_machine_after a_machine_waiting a_media a_p1) H := hP
  have hD : va_D A (w_X6_readText h_t h_p1 (updR r_t 2 h_p1) r_machine F_t F_machine cI n_p1 a_machine_before a_machine_after a_machine_waiting a_media a_p1) := hD
  refine lv_aload_n hx hb dX6_readText_5 rfl (lv_at hl 0 rfl) ?_
  refine lv_iload_n hx hb dX6_readText_6 rfl (lv_at hl 2 rfl) ?_
  refine lv_aload_n hx hb dX6_readText_7 rfl (lv_at hl 1 rfl) ?_
  refine va_alen (v := (Int32.ofNat n_p1)) hx hb hK.1 hP 6 0 rfl rfl rfl dX6_readText_8 ?_
  refine z_min (rest := [.ref h_t]) hx hb (hml.trans hl.1.symm) hown hts tl_X6_58 ts_min tn_J9 tc_min (Nat.le_of_ble_eq_true rfl) (Nat.le_of_ble_eq_true rfl) ⟨Nat.zero_le _, Nat.zero_le _⟩ dX6_readText_9 ?_
  refine z_put (ci := 6) (C := RX6) (T := TX6) (N := 11) hx hb hts inT_X6 tyX6 tyX6_ok nmX6 hown hK hP hD hS 0 rfl rfl 3 (by decide) tf_X6_32 rfl (by decide +kernel) (Nat.le_of_ble_eq_true rfl) (o_X6 (updR r_t 2 h_p1)) (o_X6_s3 _ _ _) (fun z => w_X6_readText h_t h_p1 (updR r_t 2 h_p1) r_machine z F_machine cI n_p1 a_machine_before a_machine_after a_machine_waiting a_media a_p1) (fun _ => rfl) dX6_readText_12 hf (fun F1 H locs hf hP hD hS => ?_)
  refine lv_aload_n hx hb dX6_readText_15 rfl (lv_at hl 0 rfl) ?_
  refine lv_iconst (v := 0) hx hb dX6_readText_16 (by decide) ?_
  refine z_put (ci := 6) (C := RX6) (T := TX6) (N := 11) hx hb hts inT_X6 tyX6 tyX6_ok nmX6 hown hK hP hD hS 0 rfl rfl 4 (by decide) tf_X6_36 rfl (by decide +kernel) (Nat.le_of_ble_eq_true rfl) (o_X6 (updR r_t 2 h_p1)) (o_X6_s4 _ _ _) (fun z => w_X6_readText h_t h_p1 (updR r_t 2 h_p1) r_machine z F_machine cI n_p1 a_machine_before a_machine_after a_machine_waiting a_media a_p1) (fun _ => rfl) dX6_readText_17 hf (fun F2 H locs hf hP hD hS => ?_)
  refine lv_aload_n hx hb dX6_readText_20 rfl (lv_at hl 0 rfl) ?_
  obtain ⟨u3, hu3, hf⟩ := bd_some hf
  refine z_cv (ws1 := w_X6_readText h_t h_p1 (updR r_t 2 h_p1) r_machine u3.1 u3.2.1 cI n_p1 a_machine_before a_machine_after u3.2.2.1 u3.2.2.2 a_p1) (wr := List.filterMap (fun i : Nat => (w_X6_readText h_t h_p1 (updR r_t 2 h_p1) r_machine F2 F_machine cI n_p1 a_machine_before a_machine_after a_machine_waiting a_media a_p1)[i]?) [2, 3, 6]) (z_rV (rest := []) hx hb hml hown hcx hl.1 (c_X6_clear l D cI h_t (updR r_t 2 h_p1) r_machine F2 F_machine a_machine_waiting a_media u3 hu3 _) tl_X6_64 ti_X6_clear tz_X6_clear tn_X6 tc_X6_clear tm_X6_clear rfl rfl ⟨Nat.le_of_ble_eq_true rfl, Nat.le_of_ble_eq_true rfl⟩ hK hX hS hA hP hD [0, 1, 4, 5] rfl rfl 0 rfl rfl rfl rfl (Nat.le_of_ble_eq_true rfl) dX6_readText_21 ⟨Nat.zero_le _, Nat.zero_le _⟩) hP hD hS hA [0, 1, 4, 5] [2, 3, 6] [3, 4, 0, 1, 5, 6, 2] rfl rfl rfl (by decide) rfl rfl (fun H locs hP hD hS => ?_)
  refine lv_aload_n hx hb dX6_readText_24 rfl (lv_at hl 0 rfl) ?_
  obtain ⟨u4, hu4, hf⟩ := bd_some hf
  refine z_cv (ws1 := w_X6_readText h_t h_p1 (updR r_t 2 h_p1) r_machine u4 u3.2.1 cI n_p1 a_machine_before a_machine_after u3.2.2.1 u3.2.2.2 a_p1) (wr := List.filterMap (fun i : Nat => (w_X6_readText h_t h_p1 (updR r_t 2 h_p1) r_machine u3.1 u3.2.1 cI n_p1 a_machine_before a_machine_after u3.2.2.1 u3.2.2.2 a_p1)[i]?) [1, 2, 3, 4, 5]) (z_rV (rest := []) hx hb hml hown hcx hl.1 (c_X6_goOn l D cI h_t (updR r_t 2 h_p1) u3.1 n_p1 a_p1 u4 hu4 _) tl_X6_67 ti_X6_goOn tz_X6_goOn tn_X6 tc_X6_goOn tm_X6_goOn rfl rfl ⟨Nat.le_of_ble_eq_true rfl, Nat.le_of_ble_eq_true rfl⟩ hK hX hS hA hP hD [0, 6] rfl rfl 0 rfl rfl rfl rfl (Nat.le_of_ble_eq_true rfl) dX6_readText_25 ⟨Nat.zero_le _, Nat.zero_le _⟩) hP hD hS hA [0, 6] [1, 2, 3, 4, 5] [5, 0, 1, 2, 3, 4, 6] rfl rfl rfl (by decide) rfl rfl (fun H locs hP hD hS => ?_)
  refine lv_iconst (v := 0) hx hb dX6_readText_28 (by decide) ?_
  refine lv_istore_n (lv' := [(3, .int 0), (0, .ref h_t), (1, .ref h_p1), (2, .int p2)]) hx hb dX6_readText_29 rfl hl (by decide) rfl (fun ls hl => ?_)
  exact L30 fuelN 0 u4 u3.2.1 a_machine_before a_machine_after u3.2.2.1 u3.2.2.2 _ _ _ hf hP hD hS (lv_sub hl [1, 0] rfl)
