abbrev w_X11_putBytes (h_t : Nat) (r_t : Nat → Nat) (F_t : Nat → Int32) (kq : Option Nat) (cI : ClassId) (a_tape : Nat → Int32) : va_W := [(h_t, .inr (11, o_X11 r_t F_t kq)), ((r_t 0), .inl (cI, 700, .inl a_tape))]
abbrev rm_X11_putBytes : Room := { frames := 0, cells := 0, slots := 0, locals := 0 }
def m_X11_putBytes_w3 (p1 : Int32) : Nat → Int32 → (Nat → Int32) → (Nat → Int32) → Option ((Nat → Int32) × (Nat → Int32))
  | 0, _, _, _ => none
  | n3 + 1, x2, F_t, a_tape =>
    if x2 < 0 then (
    some (F_t, a_tape))
    else (
    wr a_tape 700 (F_t 1) ((p1 >>> (x2 &&& 31)) &&& 255) fun a1 =>
    nm (upd F_t 1 ((F_t 1) + 1)) fun F2 =>
    nm (x2 + (-8)) fun v3 =>
    m_X11_putBytes_w3 p1 n3 v3 F2 a1)
def m_X11_putBytes (F_t : Nat → Int32) (a_tape : Nat → Int32) (p1 : Int32) : Option ((Nat → Int32) × (Nat → Int32)) :=
  m_X11_putBytes_w3 p1 fuelN 24 F_t a_tape
set_option maxHeartbeats 4000000 in
set_option maxRecDepth 100000 in
theorem c_X11_putBytes (l : Launch) (D : va_G) (cI : ClassId) (h_t : Nat) (r_t : Nat → Nat) (F_t : Nat → Int32) (kq : Option Nat) (a_tape : Nat → Int32) (p1 : Int32) (Rr : (Nat → Int32) × (Nat → Int32)) (hf : m_X11_putBytes F_t a_tape p1 = some Rr) : CTv l yX11_putBytes (Cond.code yX11_putBytes cX11_putBytes 3 none) rm_X11_putBytes D cI [.ref h_t, .int p1] (w_X11_putBytes h_t r_t F_t kq cI a_tape) (w_X11_putBytes h_t r_t Rr.1 kq cI Rr.2) := by
  refine z_begin_v (own := RX11) (ρ := (Nat → Int32) × (Nat → Int32)) (fun u => w_X11_putBytes h_t r_t u.1 kq cI u.2) (by decide +kernel) rfl (Nat.le_of_ble_eq_true rfl) ?_
  intro p e s m args below meth c ls Q A hx hb hml hts hcx hown hK hX hA hP hD hS hl hret
  have hl : lv_has ls 3 [(0, .ref h_t), (1, .int p1)] := hl
  have hf := (m_X11_putBytes.eq_1 _ _ _).symm.trans hf
  have L3 : ∀ (n3 : Nat) (x2 : Int32) (F_t : Nat → Int32) (a_tape : Nat → Int32) (H : Heap) (locs : List Loc) (ls : Array Slot), m_X11_putBytes_w3 p1 n3 x2 F_t a_tape = some Rr → va_P D vwCl (w_X11_putBytes h_t r_t F_t kq cI a_tape) H → va_D A (w_X11_putBytes h_t r_t F_t kq cI a_tape) → va_S A s.heap H locs → lv_has ls 3 [(0, .ref h_t), (1, .int p1), (2, .int x2)] → W p l e rm_X11_putBytes s m args below meth c H locs 0 0 Q (F0 m 3 ls []) := by
    intro n3
    induction n3 with
    | zero => intro x2 F_t a_tape H locs ls hf; cases (show (none : Option _) = some Rr from hf)
    | succ n3 ih3 =>
      intro x2 F_t a_tape H locs ls hf hP hD hS hl
      have hf := (m_X11_putBytes_w3.eq_2 _ _ _ _ _).symm.trans hf
      refine lv_iload_n hx hb dX11_putBytes_3 rfl (lv_at hl 2 rfl) ?_
      refine z_if_lt (tgt := 39) hx hb dX11_putBytes_4 (by decide) hf (fun hf => ?_) (fun hf => ?_)
      · exact hret (F_t, a_tape) _ _ _ _ hf hP hD hS dX11_putBytes_39
      · refine lv_aload_n hx hb dX11_putBytes_7 rfl (lv_at hl 0 rfl) ?_
        refine z_get (ci := 11) (C := RX11) (T := TX11) (N := 13) (v := .ref (r_t 0)) hx hb hts inT_X11 hown hK hP 0 rfl rfl 0 (by decide) tf_X11_9 rfl dX11_putBytes_8 ?_
        refine lv_aload_n hx hb dX11_putBytes_11 rfl (lv_at hl 0 rfl) ?_
        refine z_get (ci := 11) (C := RX11) (T := TX11) (N := 13) (v := .int (F_t 1)) hx hb hts inT_X11 hown hK hP 0 rfl rfl 1 (by decide) tf_X11_13 rfl dX11_putBytes_12 ?_
        refine lv_iload_n hx hb dX11_putBytes_15 rfl (lv_at hl 1 rfl) ?_
        refine lv_iload_n hx hb dX11_putBytes_16 rfl (lv_at hl 2 rfl) ?_
        refine lv_ishr hx hb dX11_putBytes_17 ?_
        refine lv_sipush (v := 255) hx hb dX11_putBytes_18 (by decide) ?_
        refine lv_iand hx hb dX11_putBytes_21 ?_
        refine z_iast hx hb hK hP hD hS 1 rfl (fun z => w_X11_putBytes h_t r_t F_t kq cI z) (fun _ => rfl) dX11_putBytes_22 hf (fun a1 H locs hf hP hD hS => ?_)
        refine lv_aload_n hx hb dX11_putBytes_23 rfl (lv_at hl 0 rfl) ?_
        refine lv_dup hx hb dX11_putBytes_24 rfl ?_
        refine z_get (ci := 11) (C := RX11) (T := TX11) (N := 13) (v := .int (F_t 1)) hx hb hts inT_X11 hown hK hP 0 rfl rfl 1 (by decide) tf_X11_13 rfl dX11_putBytes_25 ?_
        refine lv_iconst (v := 1) hx hb dX11_putBytes_28 (by decide) ?_
        refine lv_iadd hx hb dX11_putBytes_29 ?_
        refine z_put (ci := 11) (C := RX11) (T := TX11) (N := 13) hx hb hts inT_X11 tyX11 tyX11_ok nmX11 hown hK hP hD hS 0 rfl rfl 1 (by decide) tf_X11_13 rfl (by decide +kernel) (Nat.le_of_ble_eq_true rfl) (fun z => o_X11 r_t z kq) (o_X11_s1 _ _ _ _) (fun z => w_X11_putBytes h_t r_t z kq cI a1) (fun _ => rfl) dX11_putBytes_30 hf (fun F2 H locs hf hP hD hS => ?_)
        refine z_iinc (k0 := 2) (fun z => [(2, .int z), (0, .ref h_t), (1, .int p1)]) hx hb dX11_putBytes_33 hl rfl (by decide) (by decide) (fun _ => rfl) hf (fun v3 ls hf hl => ?_)
        refine lv_goto (tgt := 3) hx hb dX11_putBytes_36 (by decide) ?_
        exact ih3 v3 F2 a1 _ _ _ hf hP hD hS (lv_sub hl [1, 2, 0] rfl)
  refine lv_bipush (v := 24) hx hb dX11_putBytes_0 (by decide) ?_
  refine lv_istore_n (lv' := [(2, .int 24), (0, .ref h_t), (1, .int p1)]) hx hb dX11_putBytes_2 rfl hl (by decide) rfl (fun ls hl => ?_)
  exact L3 fuelN 24 F_t a_tape _ _ _ hf hP hD hS (lv_sub hl [1, 2, 0] rfl)
abbrev w_X11_feed (h_t : Nat) (r_t : Nat → Nat) (F_t : Nat → Int32) (kq : Option Nat) (cI : ClassId) (a_tape : Nat → Int32) : va_W := [(h_t, .inr (11, o_X11 r_t F_t kq)), ((r_t 0), .inl (cI, 700, .inl a_tape))]
abbrev rm_X11_feed : Room := { frames := 1, cells := 0, slots := 0, locals := 22 }
def m_X11_feed (F_t : Nat → Int32) (a_tape : Nat → Int32) (p1 : Int32) (p2 : Int32) (p3 : Int32) (p4 : Int32) (p5 : Int32) : Option (Int32 × (Nat → Int32) × (Nat → Int32)) :=
  if ((F_t 1) + 20) ≤ 700 then (
  bd (m_X11_putBytes F_t a_tape p1) fun u1 =>
  bd (m_X11_putBytes u1.1 u1.2 p2) fun u2 =>
  bd (m_X11_putBytes u2.1 u2.2 p3) fun u3 =>
  bd (m_X11_putBytes u3.1 u3.2 p4) fun u4 =>
  bd (m_X11_putBytes u4.1 u4.2 p5) fun u5 =>
  some ((u5.1 1), u5.1, u5.2))
  else (
  some ((-1), F_t, a_tape))
set_option maxHeartbeats 4000000 in
set_option maxRecDepth 100000 in
theorem c_X11_feed (l : Launch) (D : va_G) (cI : ClassId) (h_t : Nat) (r_t : Nat → Nat) (F_t : Nat → Int32) (kq : Option Nat) (a_tape : Nat → Int32) (p1 : Int32) (p2 : Int32) (p3 : Int32) (p4 : Int32) (p5 : Int32) (Rr : Int32 × (Nat → Int32) × (Nat → Int32)) (hf : m_X11_feed F_t a_tape p1 p2 p3 p4 p5 = some Rr) : CTi l yX11_feed (Cond.code yX11_feed cX11_feed 6 (some .int)) rm_X11_feed D cI [.ref h_t, .int p1, .int p2, .int p3, .int p4, .int p5] (w_X11_feed h_t r_t F_t kq cI a_tape) Rr.1 (w_X11_feed h_t r_t Rr.2.1 kq cI Rr.2.2) := by
  refine z_begin_i (own := RX11) (ρ := Int32 × (Nat → Int32) × (Nat → Int32)) (fun u => w_X11_feed h_t r_t u.2.1 kq cI u.2.2) (fun u => u.1) (by decide +kernel) rfl (Nat.le_of_ble_eq_true rfl) ?_
  intro p e s m args below meth c ls Q A hx hb hml hts hcx hown hK hX hA hP hD hS hl hret
  have hl : lv_has ls 6 [(0, .ref h_t), (1, .int p1), (2, .int p2), (3, .int p3), (4, .int p4), (5, .int p5)] := hl
  have hf := (m_X11_feed.eq_1 _ _ _ _ _ _ _).symm.trans hf
  refine lv_aload_n hx hb dX11_feed_0 rfl (lv_at hl 0 rfl) ?_
  refine z_get (ci := 11) (C := RX11) (T := TX11) (N := 13) (v := .int (F_t 1)) hx hb hts inT_X11 hown hK hP 0 rfl rfl 1 (by decide) tf_X11_13 rfl dX11_feed_1 ?_
  refine lv_bipush (v := 20) hx hb dX11_feed_4 (by decide) ?_
  refine lv_iadd hx hb dX11_feed_6 ?_
  refine lv_sipush (v := 700) hx hb dX11_feed_7 (by decide) ?_
  refine z_icmp_le (tgt := 15) hx hb dX11_feed_10 (by decide) hf (fun hf => ?_) (fun hf => ?_)
  · refine lv_aload_n hx hb dX11_feed_15 rfl (lv_at hl 0 rfl) ?_
    refine lv_iload_n hx hb dX11_feed_16 rfl (lv_at hl 1 rfl) ?_
    obtain ⟨u1, hu1, hf⟩ := bd_some hf
    refine z_cv (ws1 := w_X11_feed h_t r_t u1.1 kq cI u1.2) (wr := List.filterMap (fun i : Nat => (w_X11_feed h_t r_t F_t kq cI a_tape)[i]?) []) (z_rV (rest := []) hx hb hml hown hcx hl.1 (c_X11_putBytes l D cI h_t r_t F_t kq a_tape p1 u1 hu1 _) tl_X11_83 ti_X11_putBytes tz_X11_putBytes tn_X11 tc_X11_putBytes tm_X11_putBytes rfl rfl ⟨Nat.le_of_ble_eq_true rfl, Nat.le_of_ble_eq_true rfl⟩ hK hX hS hA hP hD [0, 1] rfl rfl 0 rfl rfl rfl rfl (Nat.le_of_ble_eq_true rfl) dX11_feed_17 ⟨Nat.zero_le _, Nat.zero_le _⟩) hP hD hS hA [0, 1] [] [0, 1] rfl rfl rfl (by decide) rfl rfl (fun H locs hP hD hS => ?_)
    refine lv_aload_n hx hb dX11_feed_20 rfl (lv_at hl 0 rfl) ?_
    refine lv_iload_n hx hb dX11_feed_21 rfl (lv_at hl 2 rfl) ?_
    obtain ⟨u2, hu2, hf⟩ := bd_some hf
    refine z_cv (ws1 := w_X11_feed h_t r_t u2.1 kq cI u2.2) (wr := List.filterMap (fun i : Nat => (w_X11_feed h_t r_t u1.1 kq cI u1.2)[i]?) []) (z_rV (rest := []) hx hb hml hown hcx hl.1 (c_X11_putBytes l D cI h_t r_t u1.1 kq u1.2 p2 u2 hu2 _) tl_X11_83 ti_X11_putBytes tz_X11_putBytes tn_X11 tc_X11_putBytes tm_X11_putBytes rfl rfl ⟨Nat.le_of_ble_eq_true rfl, Nat.le_of_ble_eq_true rfl⟩ hK hX hS hA hP hD [0, 1] rfl rfl 0 rfl rfl rfl rfl (Nat.le_of_ble_eq_true rfl) dX11_feed_22 ⟨Nat.zero_le _, Nat.zero_le _⟩) hP hD hS hA [0, 1] [] [0, 1] rfl rfl rfl (by decide) rfl rfl (fun H locs hP hD hS => ?_)
    refine lv_aload_n hx hb dX11_feed_25 rfl (lv_at hl 0 rfl) ?_
    refine lv_iload_n hx hb dX11_feed_26 rfl (lv_at hl 3 rfl) ?_
    obtain ⟨u3, hu3, hf⟩ := bd_some hf
    refine z_cv (ws1 := w_X11_feed h_t r_t u3.1 kq cI u3.2) (wr := List.filterMap (fun i : Nat => (w_X11_feed h_t r_t u2.1 kq cI u2.2)[i]?) []) (z_rV (rest := []) hx hb hml hown hcx hl.1 (c_X11_putBytes l D cI h_t r_t u2.1 kq u2.2 p3 u3 hu3 _) tl_X11_83 ti_X11_putBytes tz_X11_putBytes tn_X11 tc_X11_putBytes tm_X11_putBytes rfl rfl ⟨Nat.le_of_ble_eq_true rfl, Nat.le_of_ble_eq_true rfl⟩ hK hX hS hA hP hD [0, 1] rfl rfl 0 rfl rfl rfl rfl (Nat.le_of_ble_eq_true rfl) dX11_feed_27 ⟨Nat.zero_le _, Nat.zero_le _⟩) hP hD hS hA [0, 1] [] [0, 1] rfl rfl rfl (by decide) rfl rfl (fun H locs hP hD hS => ?_)
    refine lv_aload_n hx hb dX11_feed_30 rfl (lv_at hl 0 rfl) ?_
    refine lv_iload hx hb dX11_feed_31 (lv_at hl 4 rfl) ?_
    obtain ⟨u4, hu4, hf⟩ := bd_some hf
    refine z_cv (ws1 := w_X11_feed h_t r_t u4.1 kq cI u4.2) (wr := List.filterMap (fun i : Nat => (w_X11_feed h_t r_t u3.1 kq cI u3.2)[i]?) []) (z_rV (rest := []) hx hb hml hown hcx hl.1 (c_X11_putBytes l D cI h_t r_t u3.1 kq u3.2 p4 u4 hu4 _) tl_X11_83 ti_X11_putBytes tz_X11_putBytes tn_X11 tc_X11_putBytes tm_X11_putBytes rfl rfl ⟨Nat.le_of_ble_eq_true rfl, Nat.le_of_ble_eq_true rfl⟩ hK hX hS hA hP hD [0, 1] rfl rfl 0 rfl rfl rfl rfl (Nat.le_of_ble_eq_true rfl) dX11_feed_33 ⟨Nat.zero_le _, Nat.zero_le _⟩) hP hD hS hA [0, 1] [] [0, 1] rfl rfl rfl (by decide) rfl rfl (fun H locs hP hD hS => ?_)
    refine lv_aload_n hx hb dX11_feed_36 rfl (lv_at hl 0 rfl) ?_
    refine lv_iload hx hb dX11_feed_37 (lv_at hl 5 rfl) ?_
    obtain ⟨u5, hu5, hf⟩ := bd_some hf
    refine z_cv (ws1 := w_X11_feed h_t r_t u5.1 kq cI u5.2) (wr := List.filterMap (fun i : Nat => (w_X11_feed h_t r_t u4.1 kq cI u4.2)[i]?) []) (z_rV (rest := []) hx hb hml hown hcx hl.1 (c_X11_putBytes l D cI h_t r_t u4.1 kq u4.2 p5 u5 hu5 _) tl_X11_83 ti_X11_putBytes tz_X11_putBytes tn_X11 tc_X11_putBytes tm_X11_putBytes rfl rfl ⟨Nat.le_of_ble_eq_true rfl, Nat.le_of_ble_eq_true rfl⟩ hK hX hS hA hP hD [0, 1] rfl rfl 0 rfl rfl rfl rfl (Nat.le_of_ble_eq_true rfl) dX11_feed_39 ⟨Nat.zero_le _, Nat.zero_le _⟩) hP hD hS hA [0, 1] [] [0, 1] rfl rfl rfl (by decide) rfl rfl (fun H locs hP hD hS => ?_)
    refine lv_aload_n hx hb dX11_feed_42 rfl (lv_at hl 0 rfl) ?_
    refine z_get (ci := 11) (C := RX11) (T := TX11) (N := 13) (v := .int (u5.1 1)) hx hb hts inT_X11 hown hK hP 0 rfl rfl 1 (by decide) tf_X11_13 rfl dX11_feed_43 ?_
    exact hret ((u5.1 1), u5.1, u5.2) _ _ _ _ hf hP hD hS dX11_feed_46
  · refine lv_iconst (v := (-1)) hx hb dX11_feed_13 (by decide) ?_
    exact hret ((-1), F_t, a_tape) _ _ _ _ hf hP hD hS dX11_feed_14
abbrev w_J7_fill_53178 (h_p0 : Nat) (cI : ClassId) (n_p0 : Nat) (a_p0 : Nat → Int32) : va_W := [(h_p0, .inl (cI, n_p0, .inl a_p0))]
abbrev rm_J7_fill_53178 : Room := { frames := 0, cells := 0, slots := 0, locals := 0 }
def m_J7_fill_53178_w5 (n_p0 : Nat) (p1 : Int32) : Nat → Int32 → Int32 → (Nat → Int32) → Option ((Nat → Int32))
  | 0, _, _, _ => none
  | n5 + 1, x2, x3, a_p0 =>
    if x3 ≤ x2 then (
    some a_p0)
    else (
    wr a_p0 n_p0 x2 p1 fun a2 =>
    nm (x2 + 1) fun v3 =>
    m_J7_fill_53178_w5 n_p0 p1 n5 v3 x3 a2)
def m_J7_fill_53178 (a_p0 : Nat → Int32) (n_p0 : Nat) (p1 : Int32) : Option ((Nat → Int32)) :=
  nm (Int32.ofNat n_p0) fun v1 =>
  m_J7_fill_53178_w5 n_p0 p1 fuelN 0 v1 a_p0
set_option maxHeartbeats 4000000 in
set_option maxRecDepth 100000 in
theorem c_J7_fill_53178 (l : Launch) (D : va_G) (cI : ClassId) (h_p0 : Nat) (n_p0 : Nat) (a_p0 : Nat → Int32) (p1 : Int32) (Rr : (Nat → Int32)) (hf : m_J7_fill_53178 a_p0 n_p0 p1 = some Rr) : CTv l yJ7_fill_53178 (Cond.code yJ7_fill_53178 cJ7_fill_53178 4 none) rm_J7_fill_53178 D cI [.ref h_p0, .int p1] (w_J7_fill_53178 h_p0 cI n_p0 a_p0) (w_J7_fill_53178 h_p0 cI n_p0 Rr) := by
  refine z_begin_v (own := RJ7) (ρ := (Nat → Int32)) (fun u => w_J7_fill_53178 h_p0 cI n_p0 u) (by decide +kernel) rfl (Nat.le_of_ble_eq_true rfl) ?_
  intro p e s m args below meth c ls Q A hx hb hml hts hcx hown hK hX hA hP hD hS hl hret
  have hl : lv_has ls 4 [(0, .ref h_p0), (1, .int p1)] := hl
  have hf := (m_J7_fill_53178.eq_1 _ _ _).symm.trans hf
  have L5 : ∀ (n5 : Nat) (x2 : Int32) (x3 : Int32) (a_p0 : Nat → Int32) (H : Heap) (locs : List Loc) (ls : Array Slot), m_J7_fill_53178_w5 n_p0 p1 n5 x2 x3 a_p0 = some Rr → va_P D vwCl (w_J7_fill_53178 h_p0 cI n_p0 a_p0) H → va_D A (w_J7_fill_53178 h_p0 cI n_p0 a_p0) → va_S A s.heap H locs → lv_has ls 4 [(0, .ref h_p0), (1, .int p1), (2, .int x2), (3, .int x3)] → W p l e rm_J7_fill_53178 s m args below meth c H locs 0 0 Q (F0 m 5 ls []) := by
    intro n5
    induction n5 with
    | zero => intro x2 x3 a_p0 H locs ls hf; cases (show (none : Option _) = some Rr from hf)
    | succ n5 ih5 =>
      intro x2 x3 a_p0 H locs ls hf hP hD hS hl
      have hf := (m_J7_fill_53178_w5.eq_2 _ _ _ _ _ _).symm.trans hf
      refine lv_iload_n hx hb dJ7_fill_53178_5 rfl (lv_at hl 2 rfl) ?_
      refine lv_iload_n hx hb dJ7_fill_53178_6 rfl (lv_at hl 3 rfl) ?_
      refine z_icmp_ge (tgt := 20) hx hb dJ7_fill_53178_7 (by decide) hf (fun hf => ?_) (fun hf => ?_)
      · exact hret a_p0 _ _ _ _ hf hP hD hS dJ7_fill_53178_20
      · refine lv_aload_n hx hb dJ7_fill_53178_10 rfl (lv_at hl 0 rfl) ?_
        refine lv_iload_n hx hb dJ7_fill_53178_11 rfl (lv_at hl 2 rfl) ?_
        refine lv_iload_n hx hb dJ7_fill_53178_12 rfl (lv_at hl 1 rfl) ?_
        refine z_iast hx hb hK hP hD hS 0 rfl (fun z => w_J7_fill_53178 h_p0 cI n_p0 z) (fun _ => rfl) dJ7_fill_53178_13 hf (fun a2 H locs hf hP hD hS => ?_)
        refine z_iinc (k0 := 2) (fun z => [(2, .int z), (0, .ref h_p0), (1, .int p1), (3, .int x3)]) hx hb dJ7_fill_53178_14 hl rfl (by decide) (by decide) (fun _ => rfl) hf (fun v3 ls hf hl => ?_)
        refine lv_goto (tgt := 5) hx hb dJ7_fill_53178_17 (by decide) ?_
        exact ih5 v3 x3 a2 _ _ _ hf hP hD hS (lv_sub hl [1, 2, 0, 3] rfl)
  refine lv_iconst (v := 0) hx hb dJ7_fill_53178_0 (by decide) ?_
  refine lv_istore_n (lv' := [(2, .int 0), (0, .ref h_p0), (1, .int p1)]) hx hb dJ7_fill_53178_1 rfl hl (by decide) rfl (fun ls hl => ?_)
  refine lv_aload_n hx hb dJ7_fill_53178_2 rfl (lv_at hl 1 rfl) ?_
  refine va_alen (v := (Int32.ofNat n_p0)) hx hb hK.1 hP 0 0 rfl rfl rfl dJ7_fill_53178_3 ?_
  refine z_istore_n (fun z => [(3, .int z), (2, .int 0), (0, .ref h_p0), (1, .int p1)]) hx hb dJ7_fill_53178_4 rfl hl (by decide) (fun _ => rfl) hf (fun v1 ls hf hl => ?_)
  exact L5 fuelN 0 v1 a_p0 _ _ _ hf hP hD hS (lv_sub hl [2, 3, 1, 0] rfl)
abbrev w_X6_clear (h_t : Nat) (r_t : Nat → Nat) (r_machine : Nat → Nat) (F_t : Nat → Int32) (F_machine : Nat → Int32) (cI : ClassId) (a_machine_waiting : Nat → Int32) (a_media : Nat → Int32) : va_W := [(h_t, .inr (6, o_X6 r_t F_t)), ((r_t 0), .inr (4, o_X4 r_machine F_machine)), ((r_machine 6), .inl (cI, 48, .inl a_machine_waiting)), ((r_t 1), .inl (cI, 64, .inl a_media))]
abbrev rm_X6_clear : Room := { frames := 1, cells := 0, slots := 0, locals := 23 }
def m_X6_clear (F_t : Nat → Int32) (F_machine : Nat → Int32) (a_machine_waiting : Nat → Int32) (a_media : Nat → Int32) : Option ((Nat → Int32) × (Nat → Int32) × (Nat → Int32) × (Nat → Int32)) :=
  bd (m_J7_fill_53178 a_media 64 0) fun u1 =>
  bd (m_J7_fill_53178 a_machine_waiting 48 0) fun u2 =>
  nm (upd F_machine 7 0) fun F3 =>
  nm (upd F3 9 0) fun F4 =>
  nm (upd F4 10 0) fun F5 =>
  cb 0 (
  nm (upd F_t 8 0) fun F6 =>
  nm (upd F6 9 0) fun F7 =>
  nm (upd F7 10 0) fun F8 =>
  some (F8, F5, u2, u1))
set_option maxHeartbeats 4000000 in
set_option maxRecDepth 100000 in
theorem c_X6_clear (l : Launch) (D : va_G) (cI : ClassId) (h_t : Nat) (r_t : Nat → Nat) (r_machine : Nat → Nat) (F_t : Nat → Int32) (F_machine : Nat → Int32) (a_machine_waiting : Nat → Int32) (a_media : Nat → Int32) (Rr : (Nat → Int32) × (Nat → Int32) × (Nat → Int32) × (Nat → Int32)) (hf : m_X6_clear F_t F_machine a_machine_waiting a_media = some Rr) : CTv l yX6_clear (Cond.code yX6_clear cX6_clear 1 none) rm_X6_clear D cI [.ref h_t] (w_X6_clear h_t r_t r_machine F_t F_machine cI a_machine_waiting a_media) (w_X6_clear h_t r_t r_machine Rr.1 Rr.2.1 cI Rr.2.2.1 Rr.2.2.2) := by
  refine z_begin_v (own := RX6) (ρ := (Nat → Int32) × (Nat → Int32) × (Nat → Int32) × (Nat → Int32)) (fun u => w_X6_clear h_t r_t r_machine u.1 u.2.1 cI u.2.2.1 u.2.2.2) (by decide +kernel) rfl (Nat.le_of_ble_eq_true rfl) ?_
  intro p e s m args below meth c ls Q A hx hb hml hts hcx hown hK hX hA hP hD hS hl hret
  have hl : lv_has ls 1 [(0, .ref h_t)] := hl
  have hf := (m_X6_clear.eq_1 _ _ _ _).symm.trans hf
  refine lv_aload_n hx hb dX6_clear_0 rfl (lv_at hl 0 rfl) ?_
  refine z_get (ci := 6) (C := RX6) (T := TX6) (N := 11) (v := .ref (r_t 1)) hx hb hts inT_X6 hown hK hP 0 rfl rfl 1 (by decide) tf_X6_28 rfl dX6_clear_1 ?_
  refine lv_iconst (v := 0) hx hb dX6_clear_4 (by decide) ?_
  obtain ⟨u1, hu1, hf⟩ := bd_some hf
  refine z_cv (ws1 := w_X6_clear h_t r_t r_machine F_t F_machine cI a_machine_waiting u1) (wr := List.filterMap (fun i : Nat => (w_X6_clear h_t r_t r_machine F_t F_machine cI a_machine_waiting a_media)[i]?) [0, 1, 2]) (z_rS (rest := []) hx hb hml hown hcx hl.1 (c_J7_fill_53178 l D cI (r_t 1) 64 a_media 0 u1 hu1 _) tl_X6_78 ts_J7_fill_53178 tn_J7 tc_J7_fill_53178 tm_J7_fill_53178 rfl rfl ⟨Nat.le_of_ble_eq_true rfl, Nat.le_of_ble_eq_true rfl⟩ hK hX hS hA hP hD [3] rfl rfl rfl rfl (Nat.le_of_ble_eq_true rfl) dX6_clear_5 ⟨Nat.zero_le _, Nat.zero_le _⟩) hP hD hS hA [3] [0, 1, 2] [0, 1, 2, 3] rfl rfl rfl (by decide) rfl rfl (fun H locs hP hD hS => ?_)
  refine lv_aload_n hx hb dX6_clear_8 rfl (lv_at hl 0 rfl) ?_
  refine z_get (ci := 6) (C := RX6) (T := TX6) (N := 11) (v := .ref (r_t 0)) hx hb hts inT_X6 hown hK hP 0 rfl rfl 0 (by decide) tf_X6_12 rfl dX6_clear_9 ?_
  refine z_get (ci := 4) (C := RX4) (T := TX4) (N := 12) (v := .ref (r_machine 6)) hx hb hts inT_X4 hown hK hP 1 rfl rfl 6 (by decide) tf_X6_84 rfl dX6_clear_12 ?_
  refine lv_iconst (v := 0) hx hb dX6_clear_15 (by decide) ?_
  obtain ⟨u2, hu2, hf⟩ := bd_some hf
  refine z_cv (ws1 := w_X6_clear h_t r_t r_machine F_t F_machine cI u2 u1) (wr := List.filterMap (fun i : Nat => (w_X6_clear h_t r_t r_machine F_t F_machine cI a_machine_waiting u1)[i]?) [0, 1, 3]) (z_rS (rest := []) hx hb hml hown hcx hl.1 (c_J7_fill_53178 l D cI (r_machine 6) 48 a_machine_waiting 0 u2 hu2 _) tl_X6_78 ts_J7_fill_53178 tn_J7 tc_J7_fill_53178 tm_J7_fill_53178 rfl rfl ⟨Nat.le_of_ble_eq_true rfl, Nat.le_of_ble_eq_true rfl⟩ hK hX hS hA hP hD [2] rfl rfl rfl rfl (Nat.le_of_ble_eq_true rfl) dX6_clear_16 ⟨Nat.zero_le _, Nat.zero_le _⟩) hP hD hS hA [2] [0, 1, 3] [0, 1, 3, 2] rfl rfl rfl (by decide) rfl rfl (fun H locs hP hD hS => ?_)
  refine lv_aload_n hx hb dX6_clear_19 rfl (lv_at hl 0 rfl) ?_
  refine z_get (ci := 6) (C := RX6) (T := TX6) (N := 11) (v := .ref (r_t 0)) hx hb hts inT_X6 hown hK hP 0 rfl rfl 0 (by decide) tf_X6_12 rfl dX6_clear_20 ?_
  refine lv_iconst (v := 0) hx hb dX6_clear_23 (by decide) ?_
  refine z_put (ci := 4) (C := RX4) (T := TX4) (N := 12) hx hb hts inT_X4 tyX4 tyX4_ok nmX4 hown hK hP hD hS 1 rfl rfl 7 (by decide) tf_X6_87 rfl (by decide +kernel) (Nat.le_of_ble_eq_true rfl) (o_X4 r_machine) (o_X4_s7 _ _ _) (fun z => w_X6_clear h_t r_t r_machine F_t z cI u2 u1) (fun _ => rfl) dX6_clear_24 hf (fun F3 H locs hf hP hD hS => ?_)
  refine lv_aload_n hx hb dX6_clear_27 rfl (lv_at hl 0 rfl) ?_
  refine z_get (ci := 6) (C := RX6) (T := TX6) (N := 11) (v := .ref (r_t 0)) hx hb hts inT_X6 hown hK hP 0 rfl rfl 0 (by decide) tf_X6_12 rfl dX6_clear_28 ?_
  refine lv_iconst (v := 0) hx hb dX6_clear_31 (by decide) ?_
  refine z_put (ci := 4) (C := RX4) (T := TX4) (N := 12) hx hb hts inT_X4 tyX4 tyX4_ok nmX4 hown hK hP hD hS 1 rfl rfl 9 (by decide) tf_X6_90 rfl (by decide +kernel) (Nat.le_of_ble_eq_true rfl) (o_X4 r_machine) (o_X4_s9 _ _ _) (fun z => w_X6_clear h_t r_t r_machine F_t z cI u2 u1) (fun _ => rfl) dX6_clear_32 hf (fun F4 H locs hf hP hD hS => ?_)
  refine lv_aload_n hx hb dX6_clear_35 rfl (lv_at hl 0 rfl) ?_
  refine z_get (ci := 6) (C := RX6) (T := TX6) (N := 11) (v := .ref (r_t 0)) hx hb hts inT_X6 hown hK hP 0 rfl rfl 0 (by decide) tf_X6_12 rfl dX6_clear_36 ?_
  refine lv_iconst (v := 0) hx hb dX6_clear_39 (by decide) ?_
  refine z_put (ci := 4) (C := RX4) (T := TX4) (N := 12) hx hb hts inT_X4 tyX4 tyX4_ok nmX4 hown hK hP hD hS 1 rfl rfl 10 (by decide) tf_X6_93 rfl (by decide +kernel) (Nat.le_of_ble_eq_true rfl) (o_X4 r_machine) (o_X4_s10 _ _ _) (fun z => w_X6_clear h_t r_t r_machine F_t z cI u2 u1) (fun _ => rfl) dX6_clear_40 hf (fun F5 H locs hf hP hD hS => ?_)
  refine lv_aload_n hx hb dX6_clear_43 rfl (lv_at hl 0 rfl) ?_
  refine lv_iconst (v := 0) hx hb dX6_clear_44 (by decide) ?_
  refine z_putb (ci := 6) (C := RX6) (T := TX6) (N := 11) hx hb hts inT_X6 tyX6 tyX6_ok nmX6 hown hK hP hD hS 0 rfl rfl 8 (by decide) tf_X6_48 rfl (by decide +kernel) (Nat.le_of_ble_eq_true rfl) (o_X6 r_t) (o_X6_s8 _ _ _) (fun z => w_X6_clear h_t r_t r_machine z F5 cI u2 u1) (fun _ => rfl) dX6_clear_45 hf (fun F6 H locs hf hP hD hS => ?_)
  refine lv_aload_n hx hb dX6_clear_48 rfl (lv_at hl 0 rfl) ?_
  refine lv_iconst (v := 0) hx hb dX6_clear_49 (by decide) ?_
  refine z_put (ci := 6) (C := RX6) (T := TX6) (N := 11) hx hb hts inT_X6 tyX6 tyX6_ok nmX6 hown hK hP hD hS 0 rfl rfl 9 (by decide) tf_X6_52 rfl (by decide +kernel) (Nat.le_of_ble_eq_true rfl) (o_X6 r_t) (o_X6_s9 _ _ _) (fun z => w_X6_clear h_t r_t r_machine z F5 cI u2 u1) (fun _ => rfl) dX6_clear_50 hf (fun F7 H locs hf hP hD hS => ?_)
  refine lv_aload_n hx hb dX6_clear_53 rfl (lv_at hl 0 rfl) ?_
  refine lv_iconst (v := 0) hx hb dX6_clear_54 (by decide) ?_
  refine z_put (ci := 6) (C := RX6) (T := TX6) (N := 11) hx hb hts inT_X6 tyX6 tyX6_ok nmX6 hown hK hP hD hS 0 rfl rfl 10 (by decide) tf_X6_55 rfl (by decide +kernel) (Nat.le_of_ble_eq_true rfl) (o_X6 r_t) (o_X6_s10 _ _ _) (fun z => w_X6_clear h_t r_t r_machine z F5 cI u2 u1) (fun _ => rfl) dX6_clear_55 hf (fun F8 H locs hf hP hD hS => ?_)
  exact hret (F8, F5, u2, u1) _ _ _ _ hf hP hD hS dX6_clear_58
abbrev w_X6_kindOf (cI : ClassId) : va_W := []
abbrev rm_X6_kindOf : Room := { frames := 0, cells := 0, slots := 0, locals := 0 }
def m_X6_kindOf_j28 (p0 : Int32) : Option (Int32) :=
  if p0 = 32 then (
  some 4)
  else (
  if p0 = 10 then (
  some 4)
  else (
  some 3))
def m_X6_kindOf_j14 (p0 : Int32) : Option (Int32) :=
  if p0 < 48 then (
  m_X6_kindOf_j28 p0)
  else (
  if 57 < p0 then (
  m_X6_kindOf_j28 p0)
  else (
  some 2))
def m_X6_kindOf (p0 : Int32) : Option (Int32) :=
  if p0 < 97 then (
  m_X6_kindOf_j14 p0)
  else (
  if 122 < p0 then (
  m_X6_kindOf_j14 p0)
  else (
  some 1))
set_option maxHeartbeats 4000000 in
set_option maxRecDepth 100000 in
theorem c_X6_kindOf (l : Launch) (D : va_G) (cI : ClassId) (p0 : Int32) (Rr : Int32) (hf : m_X6_kindOf p0 = some Rr) : CTi l yX6_kindOf (Cond.code yX6_kindOf cX6_kindOf 1 (some .int)) rm_X6_kindOf D cI [.int p0] (w_X6_kindOf cI) Rr (w_X6_kindOf cI) := by
  refine z_begin_i (own := RX6) (ρ := Int32) (fun u => w_X6_kindOf cI) (fun u => u) (by decide +kernel) rfl (Nat.le_of_ble_eq_true rfl) ?_
  intro p e s m args below meth c ls Q A hx hb hml hts hcx hown hK hX hA hP hD hS hl hret
  have hl : lv_has ls 1 [(0, .int p0)] := hl
  have hf := (m_X6_kindOf.eq_1 _).symm.trans hf
  have L28 : ∀ (H : Heap) (locs : List Loc) (ls : Array Slot), m_X6_kindOf_j28 p0 = some Rr → va_P D vwCl (w_X6_kindOf cI) H → va_D A (w_X6_kindOf cI) → va_S A s.heap H locs → lv_has ls 1 [(0, .int p0)] → W p l e rm_X6_kindOf s m args below meth c H locs 0 0 Q (F0 m 28 ls []) := by
    intro  H locs ls hf hP hD hS hl
    have hf := (m_X6_kindOf_j28.eq_1 _).symm.trans hf
    refine lv_iload_n hx hb dX6_kindOf_28 rfl (lv_at hl 0 rfl) ?_
    refine lv_bipush (v := 32) hx hb dX6_kindOf_29 (by decide) ?_
    refine z_icmp_eq (tgt := 40) hx hb dX6_kindOf_31 (by decide) hf (fun hf => ?_) (fun hf => ?_)
    · refine lv_iconst (v := 4) hx hb dX6_kindOf_40 (by decide) ?_
      refine lv_goto (tgt := 45) hx hb dX6_kindOf_41 (by decide) ?_
      exact hret 4 _ _ _ _ hf hP hD hS dX6_kindOf_45
    · refine lv_iload_n hx hb dX6_kindOf_34 rfl (lv_at hl 0 rfl) ?_
      refine lv_bipush (v := 10) hx hb dX6_kindOf_35 (by decide) ?_
      refine z_icmp_ne (tgt := 44) hx hb dX6_kindOf_37 (by decide) hf (fun hf => ?_) (fun hf => ?_)
      · refine lv_iconst (v := 3) hx hb dX6_kindOf_44 (by decide) ?_
        exact hret 3 _ _ _ _ hf hP hD hS dX6_kindOf_45
      · refine lv_iconst (v := 4) hx hb dX6_kindOf_40 (by decide) ?_
        refine lv_goto (tgt := 45) hx hb dX6_kindOf_41 (by decide) ?_
        exact hret 4 _ _ _ _ hf hP hD hS dX6_kindOf_45
  have L14 : ∀ (H : Heap) (locs : List Loc) (ls : Array Slot), m_X6_kindOf_j14 p0 = some Rr → va_P D vwCl (w_X6_kindOf cI) H → va_D A (w_X6_kindOf cI) → va_S A s.heap H locs → lv_has ls 1 [(0, .int p0)] → W p l e rm_X6_kindOf s m args below meth c H locs 0 0 Q (F0 m 14 ls []) := by
    intro  H locs ls hf hP hD hS hl
    have hf := (m_X6_kindOf_j14.eq_1 _).symm.trans hf
    refine lv_iload_n hx hb dX6_kindOf_14 rfl (lv_at hl 0 rfl) ?_
    refine lv_bipush (v := 48) hx hb dX6_kindOf_15 (by decide) ?_
    refine z_icmp_lt (tgt := 28) hx hb dX6_kindOf_17 (by decide) hf (fun hf => ?_) (fun hf => ?_)
    · exact L28 _ _ _ hf hP hD hS (lv_sub hl [0] rfl)
    · refine lv_iload_n hx hb dX6_kindOf_20 rfl (lv_at hl 0 rfl) ?_
      refine lv_bipush (v := 57) hx hb dX6_kindOf_21 (by decide) ?_
      refine z_icmp_gt (tgt := 28) hx hb dX6_kindOf_23 (by decide) hf (fun hf => ?_) (fun hf => ?_)
      · exact L28 _ _ _ hf hP hD hS (lv_sub hl [0] rfl)
      · refine lv_iconst (v := 2) hx hb dX6_kindOf_26 (by decide) ?_
        exact hret 2 _ _ _ _ hf hP hD hS dX6_kindOf_27
  refine lv_iload_n hx hb dX6_kindOf_0 rfl (lv_at hl 0 rfl) ?_
  refine lv_bipush (v := 97) hx hb dX6_kindOf_1 (by decide) ?_
  refine z_icmp_lt (tgt := 14) hx hb dX6_kindOf_3 (by decide) hf (fun hf => ?_) (fun hf => ?_)
  · exact L14 _ _ _ hf hP hD hS (lv_sub hl [0] rfl)
  · refine lv_iload_n hx hb dX6_kindOf_6 rfl (lv_at hl 0 rfl) ?_
    refine lv_bipush (v := 122) hx hb dX6_kindOf_7 (by decide) ?_
    refine z_icmp_gt (tgt := 14) hx hb dX6_kindOf_9 (by decide) hf (fun hf => ?_) (fun hf => ?_)
    · exact L14 _ _ _ hf hP hD hS (lv_sub hl [0] rfl)
    · refine lv_iconst (v := 1) hx hb dX6_kindOf_12 (by decide) ?_
      exact hret 1 _ _ _ _ hf hP hD hS dX6_kindOf_13
abbrev w_X6_goOn (h_t : Nat) (r_t : Nat → Nat) (F_t : Nat → Int32) (cI : ClassId) (n_t_text : Nat) (a_text : Nat → Int32) : va_W := [(h_t, .inr (6, o_X6 r_t F_t)), ((r_t 2), .inl (cI, n_t_text, .inl a_text))]
abbrev rm_X6_goOn : Room := { frames := 1, cells := 0, slots := 0, locals := 20 }
def m_X6_goOn_j146 (a_text : Nat → Int32) (n_t_text : Nat) (k101 : Int32 → (Nat → Int32) → Option ((Nat → Int32))) (x1 : Int32) (F_t : Nat → Int32) : Option ((Nat → Int32)) :=
  nm (upd F_t 4 ((F_t 4) + 1)) fun F3 =>
  k101 x1 F3
def m_X6_goOn_w101 (a_text : Nat → Int32) (n_t_text : Nat) : Nat → Int32 → (Nat → Int32) → Option ((Nat → Int32))
  | 0, _, _ => none
  | n101 + 1, x1, F_t =>
    if (F_t 3) ≤ (F_t 4) then (
    some F_t)
    else (
    if (F_t 4) = (F_t 6) then (
    m_X6_goOn_j146 a_text n_t_text (m_X6_goOn_w101 a_text n_t_text n101) x1 F_t)
    else (
    if x1 = 0 then (
    some F_t)
    else (
    rd a_text n_t_text (F_t 4) fun y4 =>
    bd (m_X6_kindOf y4) fun u5 =>
    if u5 = (F_t 5) then (
    m_X6_goOn_j146 a_text n_t_text (m_X6_goOn_w101 a_text n_t_text n101) x1 F_t)
    else (
    some F_t))))
def m_X6_goOn_j100 (a_text : Nat → Int32) (n_t_text : Nat) (s0 : Int32) (F_t : Nat → Int32) : Option ((Nat → Int32)) :=
  m_X6_goOn_w101 a_text n_t_text fuelN s0 F_t
def m_X6_goOn_j95 (a_text : Nat → Int32) (n_t_text : Nat) (F_t : Nat → Int32) : Option ((Nat → Int32)) :=
  m_X6_goOn_j100 a_text n_t_text 1 F_t
def m_X6_goOn_j76 (a_text : Nat → Int32) (n_t_text : Nat) (s1 : Int32) (F_t : Nat → Int32) : Option ((Nat → Int32)) :=
  nm (upd F_t 5 s1) fun F2 =>
  if (F2 5) = 1 then (
  m_X6_goOn_j95 a_text n_t_text F2)
  else (
  if (F2 5) = 2 then (
  m_X6_goOn_j95 a_text n_t_text F2)
  else (
  m_X6_goOn_j100 a_text n_t_text 0 F2))
def m_X6_goOn_j40 (a_text : Nat → Int32) (n_t_text : Nat) (F_t : Nat → Int32) : Option ((Nat → Int32)) :=
  nm (upd F_t 6 (F_t 4)) fun F1 =>
  if (F1 3) ≤ (F1 4) then (
  m_X6_goOn_j76 a_text n_t_text 0 F1)
  else (
  rd a_text n_t_text (F1 4) fun y6 =>
  bd (m_X6_kindOf y6) fun u7 =>
  m_X6_goOn_j76 a_text n_t_text u7 F1)
def m_X6_goOn_w0 (a_text : Nat → Int32) (n_t_text : Nat) (k40 : (Nat → Int32) → Option ((Nat → Int32))) : Nat → (Nat → Int32) → Option ((Nat → Int32))
  | 0, _ => none
  | n0 + 1, F_t =>
    if (F_t 3) ≤ (F_t 4) then (
    k40 F_t)
    else (
    rd a_text n_t_text (F_t 4) fun y8 =>
    bd (m_X6_kindOf y8) fun u9 =>
    if u9 = 4 then (
    nm (upd F_t 4 ((F_t 4) + 1)) fun F10 =>
    m_X6_goOn_w0 a_text n_t_text k40 n0 F10)
    else (
    k40 F_t))
def m_X6_goOn (F_t : Nat → Int32) (a_text : Nat → Int32) (n_t_text : Nat) : Option ((Nat → Int32)) :=
  m_X6_goOn_w0 a_text n_t_text (m_X6_goOn_j40 a_text n_t_text) fuelN F_t
set_option maxHeartbeats 4000000 in
set_option maxRecDepth 100000 in
theorem c_X6_goOn (l : Launch) (D : va_G) (cI : ClassId) (h_t : Nat) (r_t : Nat → Nat) (F_t : Nat → Int32) (n_t_text : Nat) (a_text : Nat → Int32) (Rr : (Nat → Int32)) (hf : m_X6_goOn F_t a_text n_t_text = some Rr) : CTv l yX6_goOn (Cond.code yX6_goOn cX6_goOn 2 none) rm_X6_goOn D cI [.ref h_t] (w_X6_goOn h_t r_t F_t cI n_t_text a_text) (w_X6_goOn h_t r_t Rr cI n_t_text a_text) := by
  refine z_begin_v (own := RX6) (ρ := (Nat → Int32)) (fun u => w_X6_goOn h_t r_t u cI n_t_text a_text) (by decide +kernel) rfl (Nat.le_of_ble_eq_true rfl) ?_
  intro p e s m args below meth c ls Q A hx hb hml hts hcx hown hK hX hA hP hD hS hl hret
  have hl : lv_has ls 2 [(0, .ref h_t)] := hl
  have hf := (m_X6_goOn.eq_1 _ _ _).symm.trans hf
  have L101 : ∀ (n101 : Nat) (x1 : Int32) (F_t : Nat → Int32) (H : Heap) (locs : List Loc) (ls : Array Slot), m_X6_goOn_w101 a_text n_t_text n101 x1 F_t = some Rr → va_P D vwCl (w_X6_goOn h_t r_t F_t cI n_t_text a_text) H → va_D A (w_X6_goOn h_t r_t F_t cI n_t_text a_text) → va_S A s.heap H locs → lv_has ls 2 [(0, .ref h_t), (1, .int x1)] → W p l e rm_X6_goOn s m args below meth c H locs 0 0 Q (F0 m 101 ls []) := by
    intro n101
    induction n101 with
    | zero => intro x1 F_t H locs ls hf; cases (show (none : Option _) = some Rr from hf)
    | succ n101 ih101 =>
      intro x1 F_t H locs ls hf hP hD hS hl
      have hf := (m_X6_goOn_w101.eq_2 _ _ _ _ _).symm.trans hf
      have L146 : ∀ (x1 : Int32) (F_t : Nat → Int32) (H : Heap) (locs : List Loc) (ls : Array Slot), m_X6_goOn_j146 a_text n_t_text (m_X6_goOn_w101 a_text n_t_text n101) x1 F_t = some Rr → va_P D vwCl (w_X6_goOn h_t r_t F_t cI n_t_text a_text) H → va_D A (w_X6_goOn h_t r_t F_t cI n_t_text a_text) → va_S A s.heap H locs → lv_has ls 2 [(0, .ref h_t), (1, .int x1)] → W p l e rm_X6_goOn s m args below meth c H locs 0 0 Q (F0 m 146 ls []) := by
        intro x1 F_t H locs ls hf hP hD hS hl
        have hf := (m_X6_goOn_j146.eq_1 _ _ _ _ _).symm.trans hf
        refine lv_aload_n hx hb dX6_goOn_146 rfl (lv_at hl 0 rfl) ?_
        refine lv_dup hx hb dX6_goOn_147 rfl ?_
        refine z_get (ci := 6) (C := RX6) (T := TX6) (N := 11) (v := .int (F_t 4)) hx hb hts inT_X6 hown hK hP 0 rfl rfl 4 (by decide) tf_X6_36 rfl dX6_goOn_148 ?_
        refine lv_iconst (v := 1) hx hb dX6_goOn_151 (by decide) ?_
        refine lv_iadd hx hb dX6_goOn_152 ?_
        refine z_put (ci := 6) (C := RX6) (T := TX6) (N := 11) hx hb hts inT_X6 tyX6 tyX6_ok nmX6 hown hK hP hD hS 0 rfl rfl 4 (by decide) tf_X6_36 rfl (by decide +kernel) (Nat.le_of_ble_eq_true rfl) (o_X6 r_t) (o_X6_s4 _ _ _) (fun z => w_X6_goOn h_t r_t z cI n_t_text a_text) (fun _ => rfl) dX6_goOn_153 hf (fun F3 H locs hf hP hD hS => ?_)
        refine lv_goto (tgt := 101) hx hb dX6_goOn_156 (by decide) ?_
        exact ih101 x1 F3 _ _ _ hf hP hD hS (lv_sub hl [0, 1] rfl)
      refine lv_aload_n hx hb dX6_goOn_101 rfl (lv_at hl 0 rfl) ?_
      refine z_get (ci := 6) (C := RX6) (T := TX6) (N := 11) (v := .int (F_t 4)) hx hb hts inT_X6 hown hK hP 0 rfl rfl 4 (by decide) tf_X6_36 rfl dX6_goOn_102 ?_
      refine lv_aload_n hx hb dX6_goOn_105 rfl (lv_at hl 0 rfl) ?_
      refine z_get (ci := 6) (C := RX6) (T := TX6) (N := 11) (v := .int (F_t 3)) hx hb hts inT_X6 hown hK hP 0 rfl rfl 3 (by decide) tf_X6_32 rfl dX6_goOn_106 ?_
      refine z_icmp_ge (tgt := 159) hx hb dX6_goOn_109 (by decide) hf (fun hf => ?_) (fun hf => ?_)
      · exact hret F_t _ _ _ _ hf hP hD hS dX6_goOn_159
      · refine lv_aload_n hx hb dX6_goOn_112 rfl (lv_at hl 0 rfl) ?_
        refine z_get (ci := 6) (C := RX6) (T := TX6) (N := 11) (v := .int (F_t 4)) hx hb hts inT_X6 hown hK hP 0 rfl rfl 4 (by decide) tf_X6_36 rfl dX6_goOn_113 ?_
        refine lv_aload_n hx hb dX6_goOn_116 rfl (lv_at hl 0 rfl) ?_
        refine z_get (ci := 6) (C := RX6) (T := TX6) (N := 11) (v := .int (F_t 6)) hx hb hts inT_X6 hown hK hP 0 rfl rfl 6 (by decide) tf_X6_42 rfl dX6_goOn_117 ?_
        refine z_icmp_eq (tgt := 146) hx hb dX6_goOn_120 (by decide) hf (fun hf => ?_) (fun hf => ?_)
        · exact L146 x1 F_t _ _ _ hf hP hD hS (lv_sub hl [0, 1] rfl)
        · refine lv_iload_n hx hb dX6_goOn_123 rfl (lv_at hl 1 rfl) ?_
          refine z_if_eq (tgt := 159) hx hb dX6_goOn_124 (by decide) hf (fun hf => ?_) (fun hf => ?_)
          · exact hret F_t _ _ _ _ hf hP hD hS dX6_goOn_159
          · refine lv_aload_n hx hb dX6_goOn_127 rfl (lv_at hl 0 rfl) ?_
            refine z_get (ci := 6) (C := RX6) (T := TX6) (N := 11) (v := .ref (r_t 2)) hx hb hts inT_X6 hown hK hP 0 rfl rfl 2 (by decide) tf_X6_29 rfl dX6_goOn_128 ?_
            refine lv_aload_n hx hb dX6_goOn_131 rfl (lv_at hl 0 rfl) ?_
            refine z_get (ci := 6) (C := RX6) (T := TX6) (N := 11) (v := .int (F_t 4)) hx hb hts inT_X6 hown hK hP 0 rfl rfl 4 (by decide) tf_X6_36 rfl dX6_goOn_132 ?_
            refine z_iald hx hb hK hP 1 rfl dX6_goOn_135 hf (fun y4 hf => ?_)
            obtain ⟨u5, hu5, hf⟩ := bd_some hf
            refine z_ci (ws1 := w_X6_goOn h_t r_t F_t cI n_t_text a_text) (wr := List.filterMap (fun i : Nat => (w_X6_goOn h_t r_t F_t cI n_t_text a_text)[i]?) [0, 1]) (z_rS (rest := []) hx hb hml hown hcx hl.1 (c_X6_kindOf l D cI y4 u5 hu5 _) tl_X6_96 ts_X6_kindOf tn_X6 tc_X6_kindOf tm_X6_kindOf rfl rfl ⟨Nat.le_of_ble_eq_true rfl, Nat.le_of_ble_eq_true rfl⟩ hK hX hS hA hP hD [] rfl rfl rfl rfl (Nat.le_of_ble_eq_true rfl) dX6_goOn_136 ⟨Nat.zero_le _, Nat.zero_le _⟩) hP hD hS hA [] [0, 1] [0, 1] rfl rfl rfl (by decide) rfl rfl (fun H locs hP hD hS => ?_)
            refine lv_aload_n hx hb dX6_goOn_139 rfl (lv_at hl 0 rfl) ?_
            refine z_get (ci := 6) (C := RX6) (T := TX6) (N := 11) (v := .int (F_t 5)) hx hb hts inT_X6 hown hK hP 0 rfl rfl 5 (by decide) tf_X6_39 rfl dX6_goOn_140 ?_
            refine z_icmp_ne (tgt := 159) hx hb dX6_goOn_143 (by decide) hf (fun hf => ?_) (fun hf => ?_)
            · exact hret F_t _ _ _ _ hf hP hD hS dX6_goOn_159
            · exact L146 x1 F_t _ _ _ hf hP hD hS (lv_sub hl [0, 1] rfl)
  have L100 : ∀ (s0 : Int32) (F_t : Nat → Int32) (H : Heap) (locs : List Loc) (ls : Array Slot), m_X6_goOn_j100 a_text n_t_text s0 F_t = some Rr → va_P D vwCl (w_X6_goOn h_t r_t F_t cI n_t_text a_text) H → va_D A (w_X6_goOn h_t r_t F_t cI n_t_text a_text) → va_S A s.heap H locs → lv_has ls 2 [(0, .ref h_t)] → W p l e rm_X6_goOn s m args below meth c H locs 0 0 Q (F0 m 100 ls [.int s0]) := by
    intro s0 F_t H locs ls hf hP hD hS hl
    have hf := (m_X6_goOn_j100.eq_1 _ _ _ _).symm.trans hf
    refine lv_istore_n (lv' := [(1, .int s0), (0, .ref h_t)]) hx hb dX6_goOn_100 rfl hl (by decide) rfl (fun ls hl => ?_)
    exact L101 fuelN s0 F_t _ _ _ hf hP hD hS (lv_sub hl [1, 0] rfl)
  have L95 : ∀ (F_t : Nat → Int32) (H : Heap) (locs : List Loc) (ls : Array Slot), m_X6_goOn_j95 a_text n_t_text F_t = some Rr → va_P D vwCl (w_X6_goOn h_t r_t F_t cI n_t_text a_text) H → va_D A (w_X6_goOn h_t r_t F_t cI n_t_text a_text) → va_S A s.heap H locs → lv_has ls 2 [(0, .ref h_t)] → W p l e rm_X6_goOn s m args below meth c H locs 0 0 Q (F0 m 95 ls []) := by
    intro F_t H locs ls hf hP hD hS hl
    have hf := (m_X6_goOn_j95.eq_1 _ _ _).symm.trans hf
    refine lv_iconst (v := 1) hx hb dX6_goOn_95 (by decide) ?_
    refine lv_goto (tgt := 100) hx hb dX6_goOn_96 (by decide) ?_
    exact L100 1 F_t _ _ _ hf hP hD hS (lv_sub hl [0] rfl)
  have L76 : ∀ (s1 : Int32) (F_t : Nat → Int32) (H : Heap) (locs : List Loc) (ls : Array Slot), m_X6_goOn_j76 a_text n_t_text s1 F_t = some Rr → va_P D vwCl (w_X6_goOn h_t r_t F_t cI n_t_text a_text) H → va_D A (w_X6_goOn h_t r_t F_t cI n_t_text a_text) → va_S A s.heap H locs → lv_has ls 2 [(0, .ref h_t)] → W p l e rm_X6_goOn s m args below meth c H locs 0 0 Q (F0 m 76 ls [.int s1, .ref h_t]) := by
    intro s1 F_t H locs ls hf hP hD hS hl
    have hf := (m_X6_goOn_j76.eq_1 _ _ _ _).symm.trans hf
    refine z_put (ci := 6) (C := RX6) (T := TX6) (N := 11) hx hb hts inT_X6 tyX6 tyX6_ok nmX6 hown hK hP hD hS 0 rfl rfl 5 (by decide) tf_X6_39 rfl (by decide +kernel) (Nat.le_of_ble_eq_true rfl) (o_X6 r_t) (o_X6_s5 _ _ _) (fun z => w_X6_goOn h_t r_t z cI n_t_text a_text) (fun _ => rfl) dX6_goOn_76 hf (fun F2 H locs hf hP hD hS => ?_)
    refine lv_aload_n hx hb dX6_goOn_79 rfl (lv_at hl 0 rfl) ?_
    refine z_get (ci := 6) (C := RX6) (T := TX6) (N := 11) (v := .int (F2 5)) hx hb hts inT_X6 hown hK hP 0 rfl rfl 5 (by decide) tf_X6_39 rfl dX6_goOn_80 ?_
    refine lv_iconst (v := 1) hx hb dX6_goOn_83 (by decide) ?_
    refine z_icmp_eq (tgt := 95) hx hb dX6_goOn_84 (by decide) hf (fun hf => ?_) (fun hf => ?_)
    · exact L95 F2 _ _ _ hf hP hD hS (lv_sub hl [0] rfl)
    · refine lv_aload_n hx hb dX6_goOn_87 rfl (lv_at hl 0 rfl) ?_
      refine z_get (ci := 6) (C := RX6) (T := TX6) (N := 11) (v := .int (F2 5)) hx hb hts inT_X6 hown hK hP 0 rfl rfl 5 (by decide) tf_X6_39 rfl dX6_goOn_88 ?_
      refine lv_iconst (v := 2) hx hb dX6_goOn_91 (by decide) ?_
      refine z_icmp_ne (tgt := 99) hx hb dX6_goOn_92 (by decide) hf (fun hf => ?_) (fun hf => ?_)
      · refine lv_iconst (v := 0) hx hb dX6_goOn_99 (by decide) ?_
        exact L100 0 F2 _ _ _ hf hP hD hS (lv_sub hl [0] rfl)
      · exact L95 F2 _ _ _ hf hP hD hS (lv_sub hl [0] rfl)
  have L40 : ∀ (F_t : Nat → Int32) (H : Heap) (locs : List Loc) (ls : Array Slot), m_X6_goOn_j40 a_text n_t_text F_t = some Rr → va_P D vwCl (w_X6_goOn h_t r_t F_t cI n_t_text a_text) H → va_D A (w_X6_goOn h_t r_t F_t cI n_t_text a_text) → va_S A s.heap H locs → lv_has ls 2 [(0, .ref h_t)] → W p l e rm_X6_goOn s m args below meth c H locs 0 0 Q (F0 m 40 ls []) := by
    intro F_t H locs ls hf hP hD hS hl
    have hf := (m_X6_goOn_j40.eq_1 _ _ _).symm.trans hf
    refine lv_aload_n hx hb dX6_goOn_40 rfl (lv_at hl 0 rfl) ?_
    refine lv_aload_n hx hb dX6_goOn_41 rfl (lv_at hl 0 rfl) ?_
    refine z_get (ci := 6) (C := RX6) (T := TX6) (N := 11) (v := .int (F_t 4)) hx hb hts inT_X6 hown hK hP 0 rfl rfl 4 (by decide) tf_X6_36 rfl dX6_goOn_42 ?_
    refine z_put (ci := 6) (C := RX6) (T := TX6) (N := 11) hx hb hts inT_X6 tyX6 tyX6_ok nmX6 hown hK hP hD hS 0 rfl rfl 6 (by decide) tf_X6_42 rfl (by decide +kernel) (Nat.le_of_ble_eq_true rfl) (o_X6 r_t) (o_X6_s6 _ _ _) (fun z => w_X6_goOn h_t r_t z cI n_t_text a_text) (fun _ => rfl) dX6_goOn_45 hf (fun F1 H locs hf hP hD hS => ?_)
    refine lv_aload_n hx hb dX6_goOn_48 rfl (lv_at hl 0 rfl) ?_
    refine lv_aload_n hx hb dX6_goOn_49 rfl (lv_at hl 0 rfl) ?_
    refine z_get (ci := 6) (C := RX6) (T := TX6) (N := 11) (v := .int (F1 4)) hx hb hts inT_X6 hown hK hP 0 rfl rfl 4 (by decide) tf_X6_36 rfl dX6_goOn_50 ?_
    refine lv_aload_n hx hb dX6_goOn_53 rfl (lv_at hl 0 rfl) ?_
    refine z_get (ci := 6) (C := RX6) (T := TX6) (N := 11) (v := .int (F1 3)) hx hb hts inT_X6 hown hK hP 0 rfl rfl 3 (by decide) tf_X6_32 rfl dX6_goOn_54 ?_
    refine z_icmp_ge (tgt := 75) hx hb dX6_goOn_57 (by decide) hf (fun hf => ?_) (fun hf => ?_)
    · refine lv_iconst (v := 0) hx hb dX6_goOn_75 (by decide) ?_
      exact L76 0 F1 _ _ _ hf hP hD hS (lv_sub hl [0] rfl)
    · refine lv_aload_n hx hb dX6_goOn_60 rfl (lv_at hl 0 rfl) ?_
      refine z_get (ci := 6) (C := RX6) (T := TX6) (N := 11) (v := .ref (r_t 2)) hx hb hts inT_X6 hown hK hP 0 rfl rfl 2 (by decide) tf_X6_29 rfl dX6_goOn_61 ?_
      refine lv_aload_n hx hb dX6_goOn_64 rfl (lv_at hl 0 rfl) ?_
      refine z_get (ci := 6) (C := RX6) (T := TX6) (N := 11) (v := .int (F1 4)) hx hb hts inT_X6 hown hK hP 0 rfl rfl 4 (by decide) tf_X6_36 rfl dX6_goOn_65 ?_
      refine z_iald hx hb hK hP 1 rfl dX6_goOn_68 hf (fun y6 hf => ?_)
      obtain ⟨u7, hu7, hf⟩ := bd_some hf
      refine z_ci (ws1 := w_X6_goOn h_t r_t F1 cI n_t_text a_text) (wr := List.filterMap (fun i : Nat => (w_X6_goOn h_t r_t F1 cI n_t_text a_text)[i]?) [0, 1]) (z_rS (rest := [.ref h_t]) hx hb hml hown hcx hl.1 (c_X6_kindOf l D cI y6 u7 hu7 _) tl_X6_96 ts_X6_kindOf tn_X6 tc_X6_kindOf tm_X6_kindOf rfl rfl ⟨Nat.le_of_ble_eq_true rfl, Nat.le_of_ble_eq_true rfl⟩ hK hX hS hA hP hD [] rfl rfl rfl rfl (Nat.le_of_ble_eq_true rfl) dX6_goOn_69 ⟨Nat.zero_le _, Nat.zero_le _⟩) hP hD hS hA [] [0, 1] [0, 1] rfl rfl rfl (by decide) rfl rfl (fun H locs hP hD hS => ?_)
      refine lv_goto (tgt := 76) hx hb dX6_goOn_72 (by decide) ?_
      exact L76 u7 F1 _ _ _ hf hP hD hS (lv_sub hl [0] rfl)
  have L0 : ∀ (n0 : Nat) (F_t : Nat → Int32) (H : Heap) (locs : List Loc) (ls : Array Slot), m_X6_goOn_w0 a_text n_t_text (m_X6_goOn_j40 a_text n_t_text) n0 F_t = some Rr → va_P D vwCl (w_X6_goOn h_t r_t F_t cI n_t_text a_text) H → va_D A (w_X6_goOn h_t r_t F_t cI n_t_text a_text) → va_S A s.heap H locs → lv_has ls 2 [(0, .ref h_t)] → W p l e rm_X6_goOn s m args below meth c H locs 0 0 Q (F0 m 0 ls []) := by
    intro n0
    induction n0 with
    | zero => intro F_t H locs ls hf; cases (show (none : Option _) = some Rr from hf)
    | succ n0 ih0 =>
      intro F_t H locs ls hf hP hD hS hl
      have hf := (m_X6_goOn_w0.eq_2 _ _ _ _ _).symm.trans hf
      refine lv_aload_n hx hb dX6_goOn_0 rfl (lv_at hl 0 rfl) ?_
      refine z_get (ci := 6) (C := RX6) (T := TX6) (N := 11) (v := .int (F_t 4)) hx hb hts inT_X6 hown hK hP 0 rfl rfl 4 (by decide) tf_X6_36 rfl dX6_goOn_1 ?_
      refine lv_aload_n hx hb dX6_goOn_4 rfl (lv_at hl 0 rfl) ?_
      refine z_get (ci := 6) (C := RX6) (T := TX6) (N := 11) (v := .int (F_t 3)) hx hb hts inT_X6 hown hK hP 0 rfl rfl 3 (by decide) tf_X6_32 rfl dX6_goOn_5 ?_
      refine z_icmp_ge (tgt := 40) hx hb dX6_goOn_8 (by decide) hf (fun hf => ?_) (fun hf => ?_)
      · exact L40 F_t _ _ _ hf hP hD hS (lv_sub hl [0] rfl)
      · refine lv_aload_n hx hb dX6_goOn_11 rfl (lv_at hl 0 rfl) ?_
        refine z_get (ci := 6) (C := RX6) (T := TX6) (N := 11) (v := .ref (r_t 2)) hx hb hts inT_X6 hown hK hP 0 rfl rfl 2 (by decide) tf_X6_29 rfl dX6_goOn_12 ?_
        refine lv_aload_n hx hb dX6_goOn_15 rfl (lv_at hl 0 rfl) ?_
        refine z_get (ci := 6) (C := RX6) (T := TX6) (N := 11) (v := .int (F_t 4)) hx hb hts inT_X6 hown hK hP 0 rfl rfl 4 (by decide) tf_X6_36 rfl dX6_goOn_16 ?_
        refine z_iald hx hb hK hP 1 rfl dX6_goOn_19 hf (fun y8 hf => ?_)
        obtain ⟨u9, hu9, hf⟩ := bd_some hf
        refine z_ci (ws1 := w_X6_goOn h_t r_t F_t cI n_t_text a_text) (wr := List.filterMap (fun i : Nat => (w_X6_goOn h_t r_t F_t cI n_t_text a_text)[i]?) [0, 1]) (z_rS (rest := []) hx hb hml hown hcx hl.1 (c_X6_kindOf l D cI y8 u9 hu9 _) tl_X6_96 ts_X6_kindOf tn_X6 tc_X6_kindOf tm_X6_kindOf rfl rfl ⟨Nat.le_of_ble_eq_true rfl, Nat.le_of_ble_eq_true rfl⟩ hK hX hS hA hP hD [] rfl rfl rfl rfl (Nat.le_of_ble_eq_true rfl) dX6_goOn_20 ⟨Nat.zero_le _, Nat.zero_le _⟩) hP hD hS hA [] [0, 1] [0, 1] rfl rfl rfl (by decide) rfl rfl (fun H locs hP hD hS => ?_)
        refine lv_iconst (v := 4) hx hb dX6_goOn_23 (by decide) ?_
        refine z_icmp_ne (tgt := 40) hx hb dX6_goOn_24 (by decide) hf (fun hf => ?_) (fun hf => ?_)
        · exact L40 F_t _ _ _ hf hP hD hS (lv_sub hl [0] rfl)
        · refine lv_aload_n hx hb dX6_goOn_27 rfl (lv_at hl 0 rfl) ?_
          refine lv_dup hx hb dX6_goOn_28 rfl ?_
          refine z_get (ci := 6) (C := RX6) (T := TX6) (N := 11) (v := .int (F_t 4)) hx hb hts inT_X6 hown hK hP 0 rfl rfl 4 (by decide) tf_X6_36 rfl dX6_goOn_29 ?_
          refine lv_iconst (v := 1) hx hb dX6_goOn_32 (by decide) ?_
          refine lv_iadd hx hb dX6_goOn_33 ?_
          refine z_put (ci := 6) (C := RX6) (T := TX6) (N := 11) hx hb hts inT_X6 tyX6 tyX6_ok nmX6 hown hK hP hD hS 0 rfl rfl 4 (by decide) tf_X6_36 rfl (by decide +kernel) (Nat.le_of_ble_eq_true rfl) (o_X6 r_t) (o_X6_s4 _ _ _) (fun z => w_X6_goOn h_t r_t z cI n_t_text a_text) (fun _ => rfl) dX6_goOn_34 hf (fun F10 H locs hf hP hD hS => ?_)
          refine lv_goto (tgt := 0) hx hb dX6_goOn_37 (by decide) ?_
          exact ih0 F10 _ _ _ hf hP hD hS (lv_sub hl [0] rfl)
  exact L0 fuelN F_t _ _ _ hf hP hD hS (lv_sub hl [0] rfl)
abbrev w_X6_isSign (h_t : Nat) (r_t : Nat → Nat) (F_t : Nat → Int32) (cI : ClassId) (n_t_text : Nat) (a_text : Nat → Int32) : va_W := [(h_t, .inr (6, o_X6 r_t F_t)), ((r_t 2), .inl (cI, n_t_text, .inl a_text))]
abbrev rm_X6_isSign : Room := { frames := 0, cells := 0, slots := 0, locals := 0 }
def m_X6_isSign (F_t : Nat → Int32) (a_text : Nat → Int32) (n_t_text : Nat) (p1 : Int32) : Option (Int32) :=
  if (F_t 5) = 3 then (
  rd a_text n_t_text (F_t 6) fun y1 =>
  if y1 = p1 then (
  some 1)
  else (
  some 0))
  else (
  some 0)
set_option maxHeartbeats 4000000 in
set_option maxRecDepth 100000 in
theorem c_X6_isSign (l : Launch) (D : va_G) (cI : ClassId) (h_t : Nat) (r_t : Nat → Nat) (F_t : Nat → Int32) (n_t_text : Nat) (a_text : Nat → Int32) (p1 : Int32) (Rr : Int32) (hf : m_X6_isSign F_t a_text n_t_text p1 = some Rr) : CTi l yX6_isSign (Cond.code yX6_isSign cX6_isSign 2 (some .boolean)) rm_X6_isSign D cI [.ref h_t, .int p1] (w_X6_isSign h_t r_t F_t cI n_t_text a_text) Rr (w_X6_isSign h_t r_t F_t cI n_t_text a_text) := by
  refine z_begin_z (own := RX6) (ρ := Int32) (fun u => w_X6_isSign h_t r_t F_t cI n_t_text a_text) (fun u => u) (by decide +kernel) rfl (Nat.le_of_ble_eq_true rfl) ?_
  intro p e s m args below meth c ls Q A hx hb hml hts hcx hown hK hX hA hP hD hS hl hret
  have hl : lv_has ls 2 [(0, .ref h_t), (1, .int p1)] := hl
  have hf := (m_X6_isSign.eq_1 _ _ _ _).symm.trans hf
  refine lv_aload_n hx hb dX6_isSign_0 rfl (lv_at hl 0 rfl) ?_
  refine z_get (ci := 6) (C := RX6) (T := TX6) (N := 11) (v := .int (F_t 5)) hx hb hts inT_X6 hown hK hP 0 rfl rfl 5 (by decide) tf_X6_39 rfl dX6_isSign_1 ?_
  refine lv_iconst (v := 3) hx hb dX6_isSign_4 (by decide) ?_
  refine z_icmp_ne (tgt := 25) hx hb dX6_isSign_5 (by decide) hf (fun hf => ?_) (fun hf => ?_)
  · refine lv_iconst (v := 0) hx hb dX6_isSign_25 (by decide) ?_
    exact hret 0 _ _ _ _ (Or.inl rfl) hf hP hD hS dX6_isSign_26
  · refine lv_aload_n hx hb dX6_isSign_8 rfl (lv_at hl 0 rfl) ?_
    refine z_get (ci := 6) (C := RX6) (T := TX6) (N := 11) (v := .ref (r_t 2)) hx hb hts inT_X6 hown hK hP 0 rfl rfl 2 (by decide) tf_X6_29 rfl dX6_isSign_9 ?_
    refine lv_aload_n hx hb dX6_isSign_12 rfl (lv_at hl 0 rfl) ?_
    refine z_get (ci := 6) (C := RX6) (T := TX6) (N := 11) (v := .int (F_t 6)) hx hb hts inT_X6 hown hK hP 0 rfl rfl 6 (by decide) tf_X6_42 rfl dX6_isSign_13 ?_
    refine z_iald hx hb hK hP 1 rfl dX6_isSign_16 hf (fun y1 hf => ?_)
    refine lv_iload_n hx hb dX6_isSign_17 rfl (lv_at hl 1 rfl) ?_
    refine z_icmp_ne (tgt := 25) hx hb dX6_isSign_18 (by decide) hf (fun hf => ?_) (fun hf => ?_)
    · refine lv_iconst (v := 0) hx hb dX6_isSign_25 (by decide) ?_
      exact hret 0 _ _ _ _ (Or.inl rfl) hf hP hD hS dX6_isSign_26
    · refine lv_iconst (v := 1) hx hb dX6_isSign_21 (by decide) ?_
      refine lv_goto (tgt := 26) hx hb dX6_isSign_22 (by decide) ?_
      exact hret 1 _ _ _ _ (Or.inr rfl) hf hP hD hS dX6_isSign_26
abbrev w_X6_readSemicolon (h_t : Nat) (r_t : Nat → Nat) (F_t : Nat → Int32) (cI : ClassId) (n_t_text : Nat) (a_text : Nat → Int32) : va_W := [(h_t, .inr (6, o_X6 r_t F_t)), ((r_t 2), .inl (cI, n_t_text, .inl a_text))]
abbrev rm_X6_readSemicolon : Room := { frames := 2, cells := 0, slots := 0, locals := 41 }
def m_X6_readSemicolon (F_t : Nat → Int32) (a_text : Nat → Int32) (n_t_text : Nat) : Option (Int32 × (Nat → Int32)) :=
  bd (m_X6_goOn F_t a_text n_t_text) fun u1 =>
  bd (m_X6_isSign u1 a_text n_t_text 59) fun u2 =>
  if u2 = 0 then (
  some (1, u1))
  else (
  some (0, u1))
set_option maxHeartbeats 4000000 in
set_option maxRecDepth 100000 in
theorem c_X6_readSemicolon (l : Launch) (D : va_G) (cI : ClassId) (h_t : Nat) (r_t : Nat → Nat) (F_t : Nat → Int32) (n_t_text : Nat) (a_text : Nat → Int32) (Rr : Int32 × (Nat → Int32)) (hf : m_X6_readSemicolon F_t a_text n_t_text = some Rr) : CTi l yX6_readSemicolon (Cond.code yX6_readSemicolon cX6_readSemicolon 1 (some .int)) rm_X6_readSemicolon D cI [.ref h_t] (w_X6_readSemicolon h_t r_t F_t cI n_t_text a_text) Rr.1 (w_X6_readSemicolon h_t r_t Rr.2 cI n_t_text a_text) := by
  refine z_begin_i (own := RX6) (ρ := Int32 × (Nat → Int32)) (fun u => w_X6_readSemicolon h_t r_t u.2 cI n_t_text a_text) (fun u => u.1) (by decide +kernel) rfl (Nat.le_of_ble_eq_true rfl) ?_
  intro p e s m args below meth c ls Q A hx hb hml hts hcx hown hK hX hA hP hD hS hl hret
  have hl : lv_has ls 1 [(0, .ref h_t)] := hl
  have hf := (m_X6_readSemicolon.eq_1 _ _ _).symm.trans hf
  refine lv_aload_n hx hb dX6_readSemicolon_0 rfl (lv_at hl 0 rfl) ?_
  obtain ⟨u1, hu1, hf⟩ := bd_some hf
  refine z_cv (ws1 := w_X6_readSemicolon h_t r_t u1 cI n_t_text a_text) (wr := List.filterMap (fun i : Nat => (w_X6_readSemicolon h_t r_t F_t cI n_t_text a_text)[i]?) []) (z_rV (rest := []) hx hb hml hown hcx hl.1 (c_X6_goOn l D cI h_t r_t F_t n_t_text a_text u1 hu1 _) tl_X6_67 ti_X6_goOn tz_X6_goOn tn_X6 tc_X6_goOn tm_X6_goOn rfl rfl ⟨Nat.le_of_ble_eq_true rfl, Nat.le_of_ble_eq_true rfl⟩ hK hX hS hA hP hD [0, 1] rfl rfl 0 rfl rfl rfl rfl (Nat.le_of_ble_eq_true rfl) dX6_readSemicolon_1 ⟨Nat.zero_le _, Nat.zero_le _⟩) hP hD hS hA [0, 1] [] [0, 1] rfl rfl rfl (by decide) rfl rfl (fun H locs hP hD hS => ?_)
  refine lv_aload_n hx hb dX6_readSemicolon_4 rfl (lv_at hl 0 rfl) ?_
  refine lv_bipush (v := 59) hx hb dX6_readSemicolon_5 (by decide) ?_
  obtain ⟨u2, hu2, hf⟩ := bd_some hf
  refine z_ci (ws1 := w_X6_readSemicolon h_t r_t u1 cI n_t_text a_text) (wr := List.filterMap (fun i : Nat => (w_X6_readSemicolon h_t r_t u1 cI n_t_text a_text)[i]?) []) (z_rV (rest := []) hx hb hml hown hcx hl.1 (c_X6_isSign l D cI h_t r_t u1 n_t_text a_text 59 u2 hu2 _) tl_X6_108 ti_X6_isSign tz_X6_isSign tn_X6 tc_X6_isSign tm_X6_isSign rfl rfl ⟨Nat.le_of_ble_eq_true rfl, Nat.le_of_ble_eq_true rfl⟩ hK hX hS hA hP hD [0, 1] rfl rfl 0 rfl rfl rfl rfl (Nat.le_of_ble_eq_true rfl) dX6_readSemicolon_7 ⟨Nat.zero_le _, Nat.zero_le _⟩) hP hD hS hA [0, 1] [] [0, 1] rfl rfl rfl (by decide) rfl rfl (fun H locs hP hD hS => ?_)
  refine z_if_eq (tgt := 17) hx hb dX6_readSemicolon_10 (by decide) hf (fun hf => ?_) (fun hf => ?_)
  · refine lv_iconst (v := 1) hx hb dX6_readSemicolon_17 (by decide) ?_
    exact hret (1, u1) _ _ _ _ hf hP hD hS dX6_readSemicolon_18
  · refine lv_iconst (v := 0) hx hb dX6_readSemicolon_13 (by decide) ?_
    refine lv_goto (tgt := 18) hx hb dX6_readSemicolon_14 (by decide) ?_
    exact hret (0, u1) _ _ _ _ hf hP hD hS dX6_readSemicolon_18
abbrev w_X6_readMode (h_t : Nat) (r_t : Nat → Nat) (r_machine : Nat → Nat) (F_t : Nat → Int32) (F_machine : Nat → Int32) (cI : ClassId) (n_t_text : Nat) (a_text : Nat → Int32) : va_W := [(h_t, .inr (6, o_X6 r_t F_t)), ((r_t 0), .inr (4, o_X4 r_machine F_machine)), ((r_t 2), .inl (cI, n_t_text, .inl a_text))]
abbrev rm_X6_readMode : Room := { frames := 3, cells := 0, slots := 0, locals := 61 }
def m_X6_readMode (F_t : Nat → Int32) (F_machine : Nat → Int32) (a_text : Nat → Int32) (n_t_text : Nat) (p1 : Int32) : Option (Int32 × (Nat → Int32) × (Nat → Int32)) :=
  if (F_t 8) = 0 then (
  cb 1 (
  nm (upd F_t 8 1) fun F1 =>
  nm (upd F_machine 9 p1) fun F2 =>
  bd (m_X6_readSemicolon F1 a_text n_t_text) fun u3 =>
  some (u3.1, u3.2, F2)))
  else (
  some (4, F_t, F_machine))
set_option maxHeartbeats 4000000 in
set_option maxRecDepth 100000 in
theorem c_X6_readMode (l : Launch) (D : va_G) (cI : ClassId) (h_t : Nat) (r_t : Nat → Nat) (r_machine : Nat → Nat) (F_t : Nat → Int32) (F_machine : Nat → Int32) (n_t_text : Nat) (a_text : Nat → Int32) (p1 : Int32) (Rr : Int32 × (Nat → Int32) × (Nat → Int32)) (hf : m_X6_readMode F_t F_machine a_text n_t_text p1 = some Rr) : CTi l yX6_readMode (Cond.code yX6_readMode cX6_readMode 2 (some .int)) rm_X6_readMode D cI [.ref h_t, .int p1] (w_X6_readMode h_t r_t r_machine F_t F_machine cI n_t_text a_text) Rr.1 (w_X6_readMode h_t r_t r_machine Rr.2.1 Rr.2.2 cI n_t_text a_text) := by
  refine z_begin_i (own := RX6) (ρ := Int32 × (Nat → Int32) × (Nat → Int32)) (fun u => w_X6_readMode h_t r_t r_machine u.2.1 u.2.2 cI n_t_text a_text) (fun u => u.1) (by decide +kernel) rfl (Nat.le_of_ble_eq_true rfl) ?_
  intro p e s m args below meth c ls Q A hx hb hml hts hcx hown hK hX hA hP hD hS hl hret
  have hl : lv_has ls 2 [(0, .ref h_t), (1, .int p1)] := hl
  have hf := (m_X6_readMode.eq_1 _ _ _ _ _).symm.trans hf
  refine lv_aload_n hx hb dX6_readMode_0 rfl (lv_at hl 0 rfl) ?_
  refine z_get (ci := 6) (C := RX6) (T := TX6) (N := 11) (v := .int (F_t 8)) hx hb hts inT_X6 hown hK hP 0 rfl rfl 8 (by decide) tf_X6_48 rfl dX6_readMode_1 ?_
  refine z_if_eq (tgt := 9) hx hb dX6_readMode_4 (by decide) hf (fun hf => ?_) (fun hf => ?_)
  · refine lv_aload_n hx hb dX6_readMode_9 rfl (lv_at hl 0 rfl) ?_
    refine lv_iconst (v := 1) hx hb dX6_readMode_10 (by decide) ?_
    refine z_putb (ci := 6) (C := RX6) (T := TX6) (N := 11) hx hb hts inT_X6 tyX6 tyX6_ok nmX6 hown hK hP hD hS 0 rfl rfl 8 (by decide) tf_X6_48 rfl (by decide +kernel) (Nat.le_of_ble_eq_true rfl) (o_X6 r_t) (o_X6_s8 _ _ _) (fun z => w_X6_readMode h_t r_t r_machine z F_machine cI n_t_text a_text) (fun _ => rfl) dX6_readMode_11 hf (fun F1 H locs hf hP hD hS => ?_)
    refine lv_aload_n hx hb dX6_readMode_14 rfl (lv_at hl 0 rfl) ?_
    refine z_get (ci := 6) (C := RX6) (T := TX6) (N := 11) (v := .ref (r_t 0)) hx hb hts inT_X6 hown hK hP 0 rfl rfl 0 (by decide) tf_X6_12 rfl dX6_readMode_15 ?_
    refine lv_iload_n hx hb dX6_readMode_18 rfl (lv_at hl 1 rfl) ?_
    refine z_put (ci := 4) (C := RX4) (T := TX4) (N := 12) hx hb hts inT_X4 tyX4 tyX4_ok nmX4 hown hK hP hD hS 1 rfl rfl 9 (by decide) tf_X6_90 rfl (by decide +kernel) (Nat.le_of_ble_eq_true rfl) (o_X4 r_machine) (o_X4_s9 _ _ _) (fun z => w_X6_readMode h_t r_t r_machine F1 z cI n_t_text a_text) (fun _ => rfl) dX6_readMode_19 hf (fun F2 H locs hf hP hD hS => ?_)
    refine lv_aload_n hx hb dX6_readMode_22 rfl (lv_at hl 0 rfl) ?_
    obtain ⟨u3, hu3, hf⟩ := bd_some hf
    refine z_ci (ws1 := w_X6_readMode h_t r_t r_machine u3.2 F2 cI n_t_text a_text) (wr := List.filterMap (fun i : Nat => (w_X6_readMode h_t r_t r_machine F1 F2 cI n_t_text a_text)[i]?) [1]) (z_rV (rest := []) hx hb hml hown hcx hl.1 (c_X6_readSemicolon l D cI h_t r_t F1 n_t_text a_text u3 hu3 _) tl_X6_148 ti_X6_readSemicolon tz_X6_readSemicolon tn_X6 tc_X6_readSemicolon tm_X6_readSemicolon rfl rfl ⟨Nat.le_of_ble_eq_true rfl, Nat.le_of_ble_eq_true rfl⟩ hK hX hS hA hP hD [0, 2] rfl rfl 0 rfl rfl rfl rfl (Nat.le_of_ble_eq_true rfl) dX6_readMode_23 ⟨Nat.zero_le _, Nat.zero_le _⟩) hP hD hS hA [0, 2] [1] [1, 0, 2] rfl rfl rfl (by decide) rfl rfl (fun H locs hP hD hS => ?_)
    exact hret (u3.1, u3.2, F2) _ _ _ _ hf hP hD hS dX6_readMode_26
  · refine lv_iconst (v := 4) hx hb dX6_readMode_7 (by decide) ?_
    exact hret (4, F_t, F_machine) _ _ _ _ hf hP hD hS dX6_readMode_8
abbrev w_X6_readWithout (h_t : Nat) (r_t : Nat → Nat) (r_machine : Nat → Nat) (F_t : Nat → Int32) (F_machine : Nat → Int32) (cI : ClassId) (n_t_text : Nat) (a_text : Nat → Int32) : va_W := [(h_t, .inr (6, o_X6 r_t F_t)), ((r_t 0), .inr (4, o_X4 r_machine F_machine)), ((r_t 2), .inl (cI, n_t_text, .inl a_text))]
abbrev rm_X6_readWithout : Room := { frames := 2, cells := 0, slots := 0, locals := 41 }
def m_X6_readWithout_j65 (a_text : Nat → Int32) (n_t_text : Nat) (k2 : Int32 → (Nat → Int32) → (Nat → Int32) → Option (Int32 × (Nat → Int32) × (Nat → Int32))) (x1 : Int32) (s0 : Int32) (F_t : Nat → Int32) (F_machine : Nat → Int32) : Option (Int32 × (Nat → Int32) × (Nat → Int32)) :=
  if s0 < 7 then (
  if (((F_machine 10) >>> (s0 &&& 31)) &&& 1) = 0 then (
  nm (upd F_machine 10 ((F_machine 10) ||| ((1 : Int32) <<< (s0 &&& 31)))) fun F2 =>
  nm (x1 + 1) fun v3 =>
  k2 v3 F_t F2)
  else (
  some (4, F_t, F_machine)))
  else (
  some (1, F_t, F_machine))
def m_X6_readWithout_j63 (a_text : Nat → Int32) (n_t_text : Nat) (k2 : Int32 → (Nat → Int32) → (Nat → Int32) → Option (Int32 × (Nat → Int32) × (Nat → Int32))) (x1 : Int32) (F_t : Nat → Int32) (F_machine : Nat → Int32) : Option (Int32 × (Nat → Int32) × (Nat → Int32)) :=
  m_X6_readWithout_j65 a_text n_t_text k2 x1 7 F_t F_machine
def m_X6_readWithout_j27 (a_text : Nat → Int32) (n_t_text : Nat) (k2 : Int32 → (Nat → Int32) → (Nat → Int32) → Option (Int32 × (Nat → Int32) × (Nat → Int32))) (x1 : Int32) (F_t : Nat → Int32) (F_machine : Nat → Int32) : Option (Int32 × (Nat → Int32) × (Nat → Int32)) :=
  if (F_t 5) = 1 then (
  if ((F_t 4) - (F_t 6)) = 1 then (
  rd a_text n_t_text (F_t 6) fun y4 =>
  m_X6_readWithout_j65 a_text n_t_text k2 x1 (y4 - 97) F_t F_machine)
  else (
  m_X6_readWithout_j63 a_text n_t_text k2 x1 F_t F_machine))
  else (
  m_X6_readWithout_j63 a_text n_t_text k2 x1 F_t F_machine)
def m_X6_readWithout_w2 (a_text : Nat → Int32) (n_t_text : Nat) : Nat → Int32 → (Nat → Int32) → (Nat → Int32) → Option (Int32 × (Nat → Int32) × (Nat → Int32))
  | 0, _, _, _ => none
  | n2 + 1, x1, F_t, F_machine =>
    if 7 < x1 then (
    some (1, F_t, F_machine))
    else (
    bd (m_X6_goOn F_t a_text n_t_text) fun u1 =>
    if x1 ≤ 0 then (
    m_X6_readWithout_j27 a_text n_t_text (m_X6_readWithout_w2 a_text n_t_text n2) x1 u1 F_machine)
    else (
    bd (m_X6_isSign u1 a_text n_t_text 59) fun u5 =>
    if u5 = 0 then (
    m_X6_readWithout_j27 a_text n_t_text (m_X6_readWithout_w2 a_text n_t_text n2) x1 u1 F_machine)
    else (
    some (0, u1, F_machine))))
def m_X6_readWithout (F_t : Nat → Int32) (F_machine : Nat → Int32) (a_text : Nat → Int32) (n_t_text : Nat) : Option (Int32 × (Nat → Int32) × (Nat → Int32)) :=
  m_X6_readWithout_w2 a_text n_t_text fuelN 0 F_t F_machine
set_option maxHeartbeats 4000000 in
set_option maxRecDepth 100000 in
theorem c_X6_readWithout (l : Launch) (D : va_G) (cI : ClassId) (h_t : Nat) (r_t : Nat → Nat) (r_machine : Nat → Nat) (F_t : Nat → Int32) (F_machine : Nat → Int32) (n_t_text : Nat) (a_text : Nat → Int32) (Rr : Int32 × (Nat → Int32) × (Nat → Int32)) (hf : m_X6_readWithout F_t F_machine a_text n_t_text = some Rr) : CTi l yX6_readWithout (Cond.code yX6_readWithout cX6_readWithout 3 (some .int)) rm_X6_readWithout D cI [.ref h_t] (w_X6_readWithout h_t r_t r_machine F_t F_machine cI n_t_text a_text) Rr.1 (w_X6_readWithout h_t r_t r_machine Rr.2.1 Rr.2.2 cI n_t_text a_text) := by
  refine z_begin_i (own := RX6) (ρ := Int32 × (Nat → Int32) × (Nat → Int32)) (fun u => w_X6_readWithout h_t r_t r_machine u.2.1 u.2.2 cI n_t_text a_text) (fun u => u.1) (by decide +kernel) rfl (Nat.le_of_ble_eq_true rfl) ?_
  intro p e s m args below meth c ls Q A hx hb hml hts hcx hown hK hX hA hP hD hS hl hret
  have hl : lv_has ls 3 [(0, .ref h_t)] := hl
  have hf := (m_X6_readWithout.eq_1 _ _ _ _).symm.trans hf
  have L2 : ∀ (n2 : Nat) (x1 : Int32) (F_t : Nat → Int32) (F_machine : Nat → Int32) (H : Heap) (locs : List Loc) (ls : Array Slot), m_X6_readWithout_w2 a_text n_t_text n2 x1 F_t F_machine = some Rr → va_P D vwCl (w_X6_readWithout h_t r_t r_machine F_t F_machine cI n_t_text a_text) H → va_D A (w_X6_readWithout h_t r_t r_machine F_t F_machine cI n_t_text a_text) → va_S A s.heap H locs → lv_has ls 3 [(0, .ref h_t), (1, .int x1)] → W p l e rm_X6_readWithout s m args below meth c H locs 0 0 Q (F0 m 2 ls []) := by
    intro n2
    induction n2 with
    | zero => intro x1 F_t F_machine H locs ls hf; cases (show (none : Option _) = some Rr from hf)
    | succ n2 ih2 =>
      intro x1 F_t F_machine H locs ls hf hP hD hS hl
      have hf := (m_X6_readWithout_w2.eq_2 _ _ _ _ _ _).symm.trans hf
      have L65 : ∀ (x1 : Int32) (s0 : Int32) (F_t : Nat → Int32) (F_machine : Nat → Int32) (H : Heap) (locs : List Loc) (ls : Array Slot), m_X6_readWithout_j65 a_text n_t_text (m_X6_readWithout_w2 a_text n_t_text n2) x1 s0 F_t F_machine = some Rr → va_P D vwCl (w_X6_readWithout h_t r_t r_machine F_t F_machine cI n_t_text a_text) H → va_D A (w_X6_readWithout h_t r_t r_machine F_t F_machine cI n_t_text a_text) → va_S A s.heap H locs → lv_has ls 3 [(0, .ref h_t), (1, .int x1)] → W p l e rm_X6_readWithout s m args below meth c H locs 0 0 Q (F0 m 65 ls [.int s0]) := by
        intro x1 s0 F_t F_machine H locs ls hf hP hD hS hl
        have hf := (m_X6_readWithout_j65.eq_1 _ _ _ _ _ _ _).symm.trans hf
        refine lv_istore_n (lv' := [(2, .int s0), (0, .ref h_t), (1, .int x1)]) hx hb dX6_readWithout_65 rfl hl (by decide) rfl (fun ls hl => ?_)
        refine lv_iload_n hx hb dX6_readWithout_66 rfl (lv_at hl 0 rfl) ?_
        refine lv_bipush (v := 7) hx hb dX6_readWithout_67 (by decide) ?_
        refine z_icmp_lt (tgt := 74) hx hb dX6_readWithout_69 (by decide) hf (fun hf => ?_) (fun hf => ?_)
        · refine lv_aload_n hx hb dX6_readWithout_74 rfl (lv_at hl 1 rfl) ?_
          refine z_get (ci := 6) (C := RX6) (T := TX6) (N := 11) (v := .ref (r_t 0)) hx hb hts inT_X6 hown hK hP 0 rfl rfl 0 (by decide) tf_X6_12 rfl dX6_readWithout_75 ?_
          refine z_get (ci := 4) (C := RX4) (T := TX4) (N := 12) (v := .int (F_machine 10)) hx hb hts inT_X4 hown hK hP 1 rfl rfl 10 (by decide) tf_X6_93 rfl dX6_readWithout_78 ?_
          refine lv_iload_n hx hb dX6_readWithout_81 rfl (lv_at hl 0 rfl) ?_
          refine lv_ishr hx hb dX6_readWithout_82 ?_
          refine lv_iconst (v := 1) hx hb dX6_readWithout_83 (by decide) ?_
          refine lv_iand hx hb dX6_readWithout_84 ?_
          refine z_if_eq (tgt := 90) hx hb dX6_readWithout_85 (by decide) hf (fun hf => ?_) (fun hf => ?_)
          · refine lv_aload_n hx hb dX6_readWithout_90 rfl (lv_at hl 1 rfl) ?_
            refine z_get (ci := 6) (C := RX6) (T := TX6) (N := 11) (v := .ref (r_t 0)) hx hb hts inT_X6 hown hK hP 0 rfl rfl 0 (by decide) tf_X6_12 rfl dX6_readWithout_91 ?_
            refine lv_dup hx hb dX6_readWithout_94 rfl ?_
            refine z_get (ci := 4) (C := RX4) (T := TX4) (N := 12) (v := .int (F_machine 10)) hx hb hts inT_X4 hown hK hP 1 rfl rfl 10 (by decide) tf_X6_93 rfl dX6_readWithout_95 ?_
            refine lv_iconst (v := 1) hx hb dX6_readWithout_98 (by decide) ?_
            refine lv_iload_n hx hb dX6_readWithout_99 rfl (lv_at hl 0 rfl) ?_
            refine lv_ishl hx hb dX6_readWithout_100 ?_
            refine lv_ior hx hb dX6_readWithout_101 ?_
            refine z_put (ci := 4) (C := RX4) (T := TX4) (N := 12) hx hb hts inT_X4 tyX4 tyX4_ok nmX4 hown hK hP hD hS 1 rfl rfl 10 (by decide) tf_X6_93 rfl (by decide +kernel) (Nat.le_of_ble_eq_true rfl) (o_X4 r_machine) (o_X4_s10 _ _ _) (fun z => w_X6_readWithout h_t r_t r_machine F_t z cI n_t_text a_text) (fun _ => rfl) dX6_readWithout_102 hf (fun F2 H locs hf hP hD hS => ?_)
            refine z_iinc (k0 := 2) (fun z => [(1, .int z), (2, .int s0), (0, .ref h_t)]) hx hb dX6_readWithout_105 hl rfl (by decide) (by decide) (fun _ => rfl) hf (fun v3 ls hf hl => ?_)
            refine lv_goto (tgt := 2) hx hb dX6_readWithout_108 (by decide) ?_
            exact ih2 v3 F_t F2 _ _ _ hf hP hD hS (lv_sub hl [2, 0] rfl)
          · refine lv_iconst (v := 4) hx hb dX6_readWithout_88 (by decide) ?_
            exact hret (4, F_t, F_machine) _ _ _ _ hf hP hD hS dX6_readWithout_89
        · refine lv_iconst (v := 1) hx hb dX6_readWithout_72 (by decide) ?_
          exact hret (1, F_t, F_machine) _ _ _ _ hf hP hD hS dX6_readWithout_73
      have L63 : ∀ (x1 : Int32) (F_t : Nat → Int32) (F_machine : Nat → Int32) (H : Heap) (locs : List Loc) (ls : Array Slot), m_X6_readWithout_j63 a_text n_t_text (m_X6_readWithout_w2 a_text n_t_text n2) x1 F_t F_machine = some Rr → va_P D vwCl (w_X6_readWithout h_t r_t r_machine F_t F_machine cI n_t_text a_text) H → va_D A (w_X6_readWithout h_t r_t r_machine F_t F_machine cI n_t_text a_text) → va_S A s.heap H locs → lv_has ls 3 [(0, .ref h_t), (1, .int x1)] → W p l e rm_X6_readWithout s m args below meth c H locs 0 0 Q (F0 m 63 ls []) := by
        intro x1 F_t F_machine H locs ls hf hP hD hS hl
        have hf := (m_X6_readWithout_j63.eq_1 _ _ _ _ _ _).symm.trans hf
        refine lv_bipush (v := 7) hx hb dX6_readWithout_63 (by decide) ?_
        exact L65 x1 7 F_t F_machine _ _ _ hf hP hD hS (lv_sub hl [0, 1] rfl)
      have L27 : ∀ (x1 : Int32) (F_t : Nat → Int32) (F_machine : Nat → Int32) (H : Heap) (locs : List Loc) (ls : Array Slot), m_X6_readWithout_j27 a_text n_t_text (m_X6_readWithout_w2 a_text n_t_text n2) x1 F_t F_machine = some Rr → va_P D vwCl (w_X6_readWithout h_t r_t r_machine F_t F_machine cI n_t_text a_text) H → va_D A (w_X6_readWithout h_t r_t r_machine F_t F_machine cI n_t_text a_text) → va_S A s.heap H locs → lv_has ls 3 [(0, .ref h_t), (1, .int x1)] → W p l e rm_X6_readWithout s m args below meth c H locs 0 0 Q (F0 m 27 ls []) := by
        intro x1 F_t F_machine H locs ls hf hP hD hS hl
        have hf := (m_X6_readWithout_j27.eq_1 _ _ _ _ _ _).symm.trans hf
        refine lv_aload_n hx hb dX6_readWithout_27 rfl (lv_at hl 0 rfl) ?_
        refine z_get (ci := 6) (C := RX6) (T := TX6) (N := 11) (v := .int (F_t 5)) hx hb hts inT_X6 hown hK hP 0 rfl rfl 5 (by decide) tf_X6_39 rfl dX6_readWithout_28 ?_
        refine lv_iconst (v := 1) hx hb dX6_readWithout_31 (by decide) ?_
        refine z_icmp_ne (tgt := 63) hx hb dX6_readWithout_32 (by decide) hf (fun hf => ?_) (fun hf => ?_)
        · exact L63 x1 F_t F_machine _ _ _ hf hP hD hS (lv_sub hl [0, 1] rfl)
        · refine lv_aload_n hx hb dX6_readWithout_35 rfl (lv_at hl 0 rfl) ?_
          refine z_get (ci := 6) (C := RX6) (T := TX6) (N := 11) (v := .int (F_t 4)) hx hb hts inT_X6 hown hK hP 0 rfl rfl 4 (by decide) tf_X6_36 rfl dX6_readWithout_36 ?_
          refine lv_aload_n hx hb dX6_readWithout_39 rfl (lv_at hl 0 rfl) ?_
          refine z_get (ci := 6) (C := RX6) (T := TX6) (N := 11) (v := .int (F_t 6)) hx hb hts inT_X6 hown hK hP 0 rfl rfl 6 (by decide) tf_X6_42 rfl dX6_readWithout_40 ?_
          refine lv_isub hx hb dX6_readWithout_43 ?_
          refine lv_iconst (v := 1) hx hb dX6_readWithout_44 (by decide) ?_
          refine z_icmp_ne (tgt := 63) hx hb dX6_readWithout_45 (by decide) hf (fun hf => ?_) (fun hf => ?_)
          · exact L63 x1 F_t F_machine _ _ _ hf hP hD hS (lv_sub hl [0, 1] rfl)
          · refine lv_aload_n hx hb dX6_readWithout_48 rfl (lv_at hl 0 rfl) ?_
            refine z_get (ci := 6) (C := RX6) (T := TX6) (N := 11) (v := .ref (r_t 2)) hx hb hts inT_X6 hown hK hP 0 rfl rfl 2 (by decide) tf_X6_29 rfl dX6_readWithout_49 ?_
            refine lv_aload_n hx hb dX6_readWithout_52 rfl (lv_at hl 0 rfl) ?_
            refine z_get (ci := 6) (C := RX6) (T := TX6) (N := 11) (v := .int (F_t 6)) hx hb hts inT_X6 hown hK hP 0 rfl rfl 6 (by decide) tf_X6_42 rfl dX6_readWithout_53 ?_
            refine z_iald hx hb hK hP 2 rfl dX6_readWithout_56 hf (fun y4 hf => ?_)
            refine lv_bipush (v := 97) hx hb dX6_readWithout_57 (by decide) ?_
            refine lv_isub hx hb dX6_readWithout_59 ?_
            refine lv_goto (tgt := 65) hx hb dX6_readWithout_60 (by decide) ?_
            exact L65 x1 (y4 - 97) F_t F_machine _ _ _ hf hP hD hS (lv_sub hl [0, 1] rfl)
      refine lv_iload_n hx hb dX6_readWithout_2 rfl (lv_at hl 1 rfl) ?_
      refine lv_bipush (v := 7) hx hb dX6_readWithout_3 (by decide) ?_
      refine z_icmp_gt (tgt := 111) hx hb dX6_readWithout_5 (by decide) hf (fun hf => ?_) (fun hf => ?_)
      · refine lv_iconst (v := 1) hx hb dX6_readWithout_111 (by decide) ?_
        exact hret (1, F_t, F_machine) _ _ _ _ hf hP hD hS dX6_readWithout_112
      · refine lv_aload_n hx hb dX6_readWithout_8 rfl (lv_at hl 0 rfl) ?_
        obtain ⟨u1, hu1, hf⟩ := bd_some hf
        refine z_cv (ws1 := w_X6_readWithout h_t r_t r_machine u1 F_machine cI n_t_text a_text) (wr := List.filterMap (fun i : Nat => (w_X6_readWithout h_t r_t r_machine F_t F_machine cI n_t_text a_text)[i]?) [1]) (z_rV (rest := []) hx hb hml hown hcx hl.1 (c_X6_goOn l D cI h_t r_t F_t n_t_text a_text u1 hu1 _) tl_X6_67 ti_X6_goOn tz_X6_goOn tn_X6 tc_X6_goOn tm_X6_goOn rfl rfl ⟨Nat.le_of_ble_eq_true rfl, Nat.le_of_ble_eq_true rfl⟩ hK hX hS hA hP hD [0, 2] rfl rfl 0 rfl rfl rfl rfl (Nat.le_of_ble_eq_true rfl) dX6_readWithout_9 ⟨Nat.zero_le _, Nat.zero_le _⟩) hP hD hS hA [0, 2] [1] [1, 0, 2] rfl rfl rfl (by decide) rfl rfl (fun H locs hP hD hS => ?_)
        refine lv_iload_n hx hb dX6_readWithout_12 rfl (lv_at hl 1 rfl) ?_
        refine z_if_le (tgt := 27) hx hb dX6_readWithout_13 (by decide) hf (fun hf => ?_) (fun hf => ?_)
        · exact L27 x1 u1 F_machine _ _ _ hf hP hD hS (lv_sub hl [0, 1] rfl)
        · refine lv_aload_n hx hb dX6_readWithout_16 rfl (lv_at hl 0 rfl) ?_
          refine lv_bipush (v := 59) hx hb dX6_readWithout_17 (by decide) ?_
          obtain ⟨u5, hu5, hf⟩ := bd_some hf
          refine z_ci (ws1 := w_X6_readWithout h_t r_t r_machine u1 F_machine cI n_t_text a_text) (wr := List.filterMap (fun i : Nat => (w_X6_readWithout h_t r_t r_machine u1 F_machine cI n_t_text a_text)[i]?) [1]) (z_rV (rest := []) hx hb hml hown hcx hl.1 (c_X6_isSign l D cI h_t r_t u1 n_t_text a_text 59 u5 hu5 _) tl_X6_108 ti_X6_isSign tz_X6_isSign tn_X6 tc_X6_isSign tm_X6_isSign rfl rfl ⟨Nat.le_of_ble_eq_true rfl, Nat.le_of_ble_eq_true rfl⟩ hK hX hS hA hP hD [0, 2] rfl rfl 0 rfl rfl rfl rfl (Nat.le_of_ble_eq_true rfl) dX6_readWithout_19 ⟨Nat.zero_le _, Nat.zero_le _⟩) hP hD hS hA [0, 2] [1] [1, 0, 2] rfl rfl rfl (by decide) rfl rfl (fun H locs hP hD hS => ?_)
          refine z_if_eq (tgt := 27) hx hb dX6_readWithout_22 (by decide) hf (fun hf => ?_) (fun hf => ?_)
          · exact L27 x1 u1 F_machine _ _ _ hf hP hD hS (lv_sub hl [0, 1] rfl)
          · refine lv_iconst (v := 0) hx hb dX6_readWithout_25 (by decide) ?_
            exact hret (0, u1, F_machine) _ _ _ _ hf hP hD hS dX6_readWithout_26
  refine lv_iconst (v := 0) hx hb dX6_readWithout_0 (by decide) ?_
  refine lv_istore_n (lv' := [(1, .int 0), (0, .ref h_t)]) hx hb dX6_readWithout_1 rfl hl (by decide) rfl (fun ls hl => ?_)
  exact L2 fuelN 0 F_t F_machine _ _ _ hf hP hD hS (lv_sub hl [1, 0] rfl)
abbrev w_X6_judgeNumber (h_t : Nat) (r_t : Nat → Nat) (F_t : Nat → Int32) (cI : ClassId) (n_t_text : Nat) (a_text : Nat → Int32) : va_W := [(h_t, .inr (6, o_X6 r_t F_t)), ((r_t 2), .inl (cI, n_t_text, .inl a_text))]
abbrev rm_X6_judgeNumber : Room := { frames := 0, cells := 0, slots := 0, locals := 0 }
def m_X6_judgeNumber_j70 (a_text : Nat → Int32) (n_t_text : Nat) (p1 : Int32) (p2 : Int32) (F_t : Nat → Int32) : Option (Int32 × (Nat → Int32)) :=
  if (F_t 7) < p1 then (
  some (2, F_t))
  else (
  if (F_t 7) ≤ p2 then (
  some (0, F_t))
  else (
  some (2, F_t)))
def m_X6_judgeNumber_w35 (a_text : Nat → Int32) (n_t_text : Nat) (p1 : Int32) (p2 : Int32) (k70 : (Nat → Int32) → Option (Int32 × (Nat → Int32))) : Nat → Int32 → (Nat → Int32) → Option (Int32 × (Nat → Int32))
  | 0, _, _ => none
  | n35 + 1, x3, F_t =>
    if (F_t 4) ≤ x3 then (
    k70 F_t)
    else (
    rd a_text n_t_text x3 fun y3 =>
    nm (upd F_t 7 ((((F_t 7) * 10) + y3) - 48)) fun F4 =>
    nm (x3 + 1) fun v5 =>
    m_X6_judgeNumber_w35 a_text n_t_text p1 p2 k70 n35 v5 F4)
def m_X6_judgeNumber (F_t : Nat → Int32) (a_text : Nat → Int32) (n_t_text : Nat) (p1 : Int32) (p2 : Int32) : Option (Int32 × (Nat → Int32)) :=
  if (F_t 5) = 2 then (
  if ((F_t 4) - (F_t 6)) ≤ 3 then (
  nm (upd F_t 7 0) fun F1 =>
  nm (F1 6) fun v2 =>
  m_X6_judgeNumber_w35 a_text n_t_text p1 p2 (m_X6_judgeNumber_j70 a_text n_t_text p1 p2) fuelN v2 F1)
  else (
  some (2, F_t)))
  else (
  some (1, F_t))
set_option maxHeartbeats 4000000 in
set_option maxRecDepth 100000 in
theorem c_X6_judgeNumber (l : Launch) (D : va_G) (cI : ClassId) (h_t : Nat) (r_t : Nat → Nat) (F_t : Nat → Int32) (n_t_text : Nat) (a_text : Nat → Int32) (p1 : Int32) (p2 : Int32) (Rr : Int32 × (Nat → Int32)) (hf : m_X6_judgeNumber F_t a_text n_t_text p1 p2 = some Rr) : CTi l yX6_judgeNumber (Cond.code yX6_judgeNumber cX6_judgeNumber 4 (some .int)) rm_X6_judgeNumber D cI [.ref h_t, .int p1, .int p2] (w_X6_judgeNumber h_t r_t F_t cI n_t_text a_text) Rr.1 (w_X6_judgeNumber h_t r_t Rr.2 cI n_t_text a_text) := by
  refine z_begin_i (own := RX6) (ρ := Int32 × (Nat → Int32)) (fun u => w_X6_judgeNumber h_t r_t u.2 cI n_t_text a_text) (fun u => u.1) (by decide +kernel) rfl (Nat.le_of_ble_eq_true rfl) ?_
  intro p e s m args below meth c ls Q A hx hb hml hts hcx hown hK hX hA hP hD hS hl hret
  have hl : lv_has ls 4 [(0, .ref h_t), (1, .int p1), (2, .int p2)] := hl
  have hf := (m_X6_judgeNumber.eq_1 _ _ _ _ _).symm.trans hf
  have L70 : ∀ (F_t : Nat → Int32) (H : Heap) (locs : List Loc) (ls : Array Slot), m_X6_judgeNumber_j70 a_text n_t_text p1 p2 F_t = some Rr → va_P D vwCl (w_X6_judgeNumber h_t r_t F_t cI n_t_text a_text) H → va_D A (w_X6_judgeNumber h_t r_t F_t cI n_t_text a_text) → va_S A s.heap H locs → lv_has ls 4 [(0, .ref h_t), (1, .int p1), (2, .int p2)] → W p l e rm_X6_judgeNumber s m args below meth c H locs 0 0 Q (F0 m 70 ls []) := by
    intro F_t H locs ls hf hP hD hS hl
    have hf := (m_X6_judgeNumber_j70.eq_1 _ _ _ _ _).symm.trans hf
    refine lv_aload_n hx hb dX6_judgeNumber_70 rfl (lv_at hl 0 rfl) ?_
    refine z_get (ci := 6) (C := RX6) (T := TX6) (N := 11) (v := .int (F_t 7)) hx hb hts inT_X6 hown hK hP 0 rfl rfl 7 (by decide) tf_X6_45 rfl dX6_judgeNumber_71 ?_
    refine lv_iload_n hx hb dX6_judgeNumber_74 rfl (lv_at hl 1 rfl) ?_
    refine z_icmp_lt (tgt := 86) hx hb dX6_judgeNumber_75 (by decide) hf (fun hf => ?_) (fun hf => ?_)
    · refine lv_iconst (v := 2) hx hb dX6_judgeNumber_86 (by decide) ?_
      refine lv_goto (tgt := 91) hx hb dX6_judgeNumber_87 (by decide) ?_
      exact hret (2, F_t) _ _ _ _ hf hP hD hS dX6_judgeNumber_91
    · refine lv_aload_n hx hb dX6_judgeNumber_78 rfl (lv_at hl 0 rfl) ?_
      refine z_get (ci := 6) (C := RX6) (T := TX6) (N := 11) (v := .int (F_t 7)) hx hb hts inT_X6 hown hK hP 0 rfl rfl 7 (by decide) tf_X6_45 rfl dX6_judgeNumber_79 ?_
      refine lv_iload_n hx hb dX6_judgeNumber_82 rfl (lv_at hl 2 rfl) ?_
      refine z_icmp_le (tgt := 90) hx hb dX6_judgeNumber_83 (by decide) hf (fun hf => ?_) (fun hf => ?_)
      · refine lv_iconst (v := 0) hx hb dX6_judgeNumber_90 (by decide) ?_
        exact hret (0, F_t) _ _ _ _ hf hP hD hS dX6_judgeNumber_91
      · refine lv_iconst (v := 2) hx hb dX6_judgeNumber_86 (by decide) ?_
        refine lv_goto (tgt := 91) hx hb dX6_judgeNumber_87 (by decide) ?_
        exact hret (2, F_t) _ _ _ _ hf hP hD hS dX6_judgeNumber_91
  have L35 : ∀ (n35 : Nat) (x3 : Int32) (F_t : Nat → Int32) (H : Heap) (locs : List Loc) (ls : Array Slot), m_X6_judgeNumber_w35 a_text n_t_text p1 p2 (m_X6_judgeNumber_j70 a_text n_t_text p1 p2) n35 x3 F_t = some Rr → va_P D vwCl (w_X6_judgeNumber h_t r_t F_t cI n_t_text a_text) H → va_D A (w_X6_judgeNumber h_t r_t F_t cI n_t_text a_text) → va_S A s.heap H locs → lv_has ls 4 [(0, .ref h_t), (1, .int p1), (2, .int p2), (3, .int x3)] → W p l e rm_X6_judgeNumber s m args below meth c H locs 0 0 Q (F0 m 35 ls []) := by
    intro n35
    induction n35 with
    | zero => intro x3 F_t H locs ls hf; cases (show (none : Option _) = some Rr from hf)
    | succ n35 ih35 =>
      intro x3 F_t H locs ls hf hP hD hS hl
      have hf := (m_X6_judgeNumber_w35.eq_2 _ _ _ _ _ _ _ _).symm.trans hf
      refine lv_iload_n hx hb dX6_judgeNumber_35 rfl (lv_at hl 3 rfl) ?_
      refine lv_aload_n hx hb dX6_judgeNumber_36 rfl (lv_at hl 0 rfl) ?_
      refine z_get (ci := 6) (C := RX6) (T := TX6) (N := 11) (v := .int (F_t 4)) hx hb hts inT_X6 hown hK hP 0 rfl rfl 4 (by decide) tf_X6_36 rfl dX6_judgeNumber_37 ?_
      refine z_icmp_ge (tgt := 70) hx hb dX6_judgeNumber_40 (by decide) hf (fun hf => ?_) (fun hf => ?_)
      · exact L70 F_t _ _ _ hf hP hD hS (lv_sub hl [0, 1, 2] rfl)
      · refine lv_aload_n hx hb dX6_judgeNumber_43 rfl (lv_at hl 0 rfl) ?_
        refine lv_aload_n hx hb dX6_judgeNumber_44 rfl (lv_at hl 0 rfl) ?_
        refine z_get (ci := 6) (C := RX6) (T := TX6) (N := 11) (v := .int (F_t 7)) hx hb hts inT_X6 hown hK hP 0 rfl rfl 7 (by decide) tf_X6_45 rfl dX6_judgeNumber_45 ?_
        refine lv_bipush (v := 10) hx hb dX6_judgeNumber_48 (by decide) ?_
        refine lv_imul hx hb dX6_judgeNumber_50 ?_
        refine lv_aload_n hx hb dX6_judgeNumber_51 rfl (lv_at hl 0 rfl) ?_
        refine z_get (ci := 6) (C := RX6) (T := TX6) (N := 11) (v := .ref (r_t 2)) hx hb hts inT_X6 hown hK hP 0 rfl rfl 2 (by decide) tf_X6_29 rfl dX6_judgeNumber_52 ?_
        refine lv_iload_n hx hb dX6_judgeNumber_55 rfl (lv_at hl 3 rfl) ?_
        refine z_iald hx hb hK hP 1 rfl dX6_judgeNumber_56 hf (fun y3 hf => ?_)
        refine lv_iadd hx hb dX6_judgeNumber_57 ?_
        refine lv_bipush (v := 48) hx hb dX6_judgeNumber_58 (by decide) ?_
        refine lv_isub hx hb dX6_judgeNumber_60 ?_
        refine z_put (ci := 6) (C := RX6) (T := TX6) (N := 11) hx hb hts inT_X6 tyX6 tyX6_ok nmX6 hown hK hP hD hS 0 rfl rfl 7 (by decide) tf_X6_45 rfl (by decide +kernel) (Nat.le_of_ble_eq_true rfl) (o_X6 r_t) (o_X6_s7 _ _ _) (fun z => w_X6_judgeNumber h_t r_t z cI n_t_text a_text) (fun _ => rfl) dX6_judgeNumber_61 hf (fun F4 H locs hf hP hD hS => ?_)
        refine z_iinc (k0 := 3) (fun z => [(3, .int z), (0, .ref h_t), (1, .int p1), (2, .int p2)]) hx hb dX6_judgeNumber_64 hl rfl (by decide) (by decide) (fun _ => rfl) hf (fun v5 ls hf hl => ?_)
        refine lv_goto (tgt := 35) hx hb dX6_judgeNumber_67 (by decide) ?_
        exact ih35 v5 F4 _ _ _ hf hP hD hS (lv_sub hl [1, 2, 3, 0] rfl)
  refine lv_aload_n hx hb dX6_judgeNumber_0 rfl (lv_at hl 0 rfl) ?_
  refine z_get (ci := 6) (C := RX6) (T := TX6) (N := 11) (v := .int (F_t 5)) hx hb hts inT_X6 hown hK hP 0 rfl rfl 5 (by decide) tf_X6_39 rfl dX6_judgeNumber_1 ?_
  refine lv_iconst (v := 2) hx hb dX6_judgeNumber_4 (by decide) ?_
  refine z_icmp_eq (tgt := 10) hx hb dX6_judgeNumber_5 (by decide) hf (fun hf => ?_) (fun hf => ?_)
  · refine lv_aload_n hx hb dX6_judgeNumber_10 rfl (lv_at hl 0 rfl) ?_
    refine z_get (ci := 6) (C := RX6) (T := TX6) (N := 11) (v := .int (F_t 4)) hx hb hts inT_X6 hown hK hP 0 rfl rfl 4 (by decide) tf_X6_36 rfl dX6_judgeNumber_11 ?_
    refine lv_aload_n hx hb dX6_judgeNumber_14 rfl (lv_at hl 0 rfl) ?_
    refine z_get (ci := 6) (C := RX6) (T := TX6) (N := 11) (v := .int (F_t 6)) hx hb hts inT_X6 hown hK hP 0 rfl rfl 6 (by decide) tf_X6_42 rfl dX6_judgeNumber_15 ?_
    refine lv_isub hx hb dX6_judgeNumber_18 ?_
    refine lv_iconst (v := 3) hx hb dX6_judgeNumber_19 (by decide) ?_
    refine z_icmp_le (tgt := 25) hx hb dX6_judgeNumber_20 (by decide) hf (fun hf => ?_) (fun hf => ?_)
    · refine lv_aload_n hx hb dX6_judgeNumber_25 rfl (lv_at hl 0 rfl) ?_
      refine lv_iconst (v := 0) hx hb dX6_judgeNumber_26 (by decide) ?_
      refine z_put (ci := 6) (C := RX6) (T := TX6) (N := 11) hx hb hts inT_X6 tyX6 tyX6_ok nmX6 hown hK hP hD hS 0 rfl rfl 7 (by decide) tf_X6_45 rfl (by decide +kernel) (Nat.le_of_ble_eq_true rfl) (o_X6 r_t) (o_X6_s7 _ _ _) (fun z => w_X6_judgeNumber h_t r_t z cI n_t_text a_text) (fun _ => rfl) dX6_judgeNumber_27 hf (fun F1 H locs hf hP hD hS => ?_)
      refine lv_aload_n hx hb dX6_judgeNumber_30 rfl (lv_at hl 0 rfl) ?_
      refine z_get (ci := 6) (C := RX6) (T := TX6) (N := 11) (v := .int (F1 6)) hx hb hts inT_X6 hown hK hP 0 rfl rfl 6 (by decide) tf_X6_42 rfl dX6_judgeNumber_31 ?_
      refine z_istore_n (fun z => [(3, .int z), (0, .ref h_t), (1, .int p1), (2, .int p2)]) hx hb dX6_judgeNumber_34 rfl hl (by decide) (fun _ => rfl) hf (fun v2 ls hf hl => ?_)
      exact L35 fuelN v2 F1 _ _ _ hf hP hD hS (lv_sub hl [1, 2, 3, 0] rfl)
    · refine lv_iconst (v := 2) hx hb dX6_judgeNumber_23 (by decide) ?_
      exact hret (2, F_t) _ _ _ _ hf hP hD hS dX6_judgeNumber_24
  · refine lv_iconst (v := 1) hx hb dX6_judgeNumber_8 (by decide) ?_
    exact hret (1, F_t) _ _ _ _ hf hP hD hS dX6_judgeNumber_9
abbrev w_X11_blockAddress (cI : ClassId) : va_W := []
abbrev rm_X11_blockAddress : Room := { frames := 0, cells := 0, slots := 0, locals := 0 }
def m_X11_blockAddress (p0 : Int32) : Option (Int32) :=
  some (24 + (p0 * 4))
set_option maxHeartbeats 4000000 in
set_option maxRecDepth 100000 in
theorem c_X11_blockAddress (l : Launch) (D : va_G) (cI : ClassId) (p0 : Int32) (Rr : Int32) (hf : m_X11_blockAddress p0 = some Rr) : CTi l yX11_blockAddress (Cond.code yX11_blockAddress cX11_blockAddress 1 (some .int)) rm_X11_blockAddress D cI [.int p0] (w_X11_blockAddress cI) Rr (w_X11_blockAddress cI) := by
  refine z_begin_i (own := RX11) (ρ := Int32) (fun u => w_X11_blockAddress cI) (fun u => u) (by decide +kernel) rfl (Nat.le_of_ble_eq_true rfl) ?_
  intro p e s m args below meth c ls Q A hx hb hml hts hcx hown hK hX hA hP hD hS hl hret
  have hl : lv_has ls 1 [(0, .int p0)] := hl
  have hf := (m_X11_blockAddress.eq_1 _).symm.trans hf
  refine lv_bipush (v := 24) hx hb dX11_blockAddress_0 (by decide) ?_
  refine lv_iload_n hx hb dX11_blockAddress_2 rfl (lv_at hl 0 rfl) ?_
  refine lv_iconst (v := 4) hx hb dX11_blockAddress_3 (by decide) ?_
  refine lv_imul hx hb dX11_blockAddress_4 ?_
  refine lv_iadd hx hb dX11_blockAddress_5 ?_
  exact hret (24 + (p0 * 4)) _ _ _ _ hf hP hD hS dX11_blockAddress_6
abbrev w_X6_judgeBlock (h_t : Nat) (r_t : Nat → Nat) (F_t : Nat → Int32) (cI : ClassId) (n_t_text : Nat) (a_media : Nat → Int32) (a_text : Nat → Int32) : va_W := [(h_t, .inr (6, o_X6 r_t F_t)), ((r_t 1), .inl (cI, 64, .inl a_media)), ((r_t 2), .inl (cI, n_t_text, .inl a_text))]
abbrev rm_X6_judgeBlock : Room := { frames := 1, cells := 0, slots := 0, locals := 23 }
def m_X6_judgeBlock (F_t : Nat → Int32) (a_media : Nat → Int32) (a_text : Nat → Int32) (n_t_text : Nat) : Option (Int32 × (Nat → Int32) × (Nat → Int32)) :=
  bd (m_X6_judgeNumber F_t a_text n_t_text 0 9) fun u1 =>
  if u1.1 = 0 then (
  bd (m_X11_blockAddress (u1.2 7)) fun u2 =>
  rd a_media 64 u2 fun y3 =>
  if y3 = 0 then (
  bd (m_X11_blockAddress (u1.2 7)) fun u4 =>
  wr a_media 64 u4 1 fun a5 =>
  some (0, u1.2, a5))
  else (
  some (3, u1.2, a_media)))
  else (
  some (u1.1, u1.2, a_media))
set_option maxHeartbeats 4000000 in
set_option maxRecDepth 100000 in
theorem c_X6_judgeBlock (l : Launch) (D : va_G) (cI : ClassId) (h_t : Nat) (r_t : Nat → Nat) (F_t : Nat → Int32) (n_t_text : Nat) (a_media : Nat → Int32) (a_text : Nat → Int32) (Rr : Int32 × (Nat → Int32) × (Nat → Int32)) (hf : m_X6_judgeBlock F_t a_media a_text n_t_text = some Rr) : CTi l yX6_judgeBlock (Cond.code yX6_judgeBlock cX6_judgeBlock 2 (some .int)) rm_X6_judgeBlock D cI [.ref h_t] (w_X6_judgeBlock h_t r_t F_t cI n_t_text a_media a_text) Rr.1 (w_X6_judgeBlock h_t r_t Rr.2.1 cI n_t_text Rr.2.2 a_text) := by
  refine z_begin_i (own := RX6) (ρ := Int32 × (Nat → Int32) × (Nat → Int32)) (fun u => w_X6_judgeBlock h_t r_t u.2.1 cI n_t_text u.2.2 a_text) (fun u => u.1) (by decide +kernel) rfl (Nat.le_of_ble_eq_true rfl) ?_
  intro p e s m args below meth c ls Q A hx hb hml hts hcx hown hK hX hA hP hD hS hl hret
  have hl : lv_has ls 2 [(0, .ref h_t)] := hl
  have hf := (m_X6_judgeBlock.eq_1 _ _ _ _).symm.trans hf
  refine lv_aload_n hx hb dX6_judgeBlock_0 rfl (lv_at hl 0 rfl) ?_
  refine lv_iconst (v := 0) hx hb dX6_judgeBlock_1 (by decide) ?_
  refine lv_bipush (v := 9) hx hb dX6_judgeBlock_2 (by decide) ?_
  obtain ⟨u1, hu1, hf⟩ := bd_some hf
  refine z_ci (ws1 := w_X6_judgeBlock h_t r_t u1.2 cI n_t_text a_media a_text) (wr := List.filterMap (fun i : Nat => (w_X6_judgeBlock h_t r_t F_t cI n_t_text a_media a_text)[i]?) [1]) (z_rV (rest := []) hx hb hml hown hcx hl.1 (c_X6_judgeNumber l D cI h_t r_t F_t n_t_text a_text 0 9 u1 hu1 _) tl_X6_151 ti_X6_judgeNumber tz_X6_judgeNumber tn_X6 tc_X6_judgeNumber tm_X6_judgeNumber rfl rfl ⟨Nat.le_of_ble_eq_true rfl, Nat.le_of_ble_eq_true rfl⟩ hK hX hS hA hP hD [0, 2] rfl rfl 0 rfl rfl rfl rfl (Nat.le_of_ble_eq_true rfl) dX6_judgeBlock_4 ⟨Nat.zero_le _, Nat.zero_le _⟩) hP hD hS hA [0, 2] [1] [1, 0, 2] rfl rfl rfl (by decide) rfl rfl (fun H locs hP hD hS => ?_)
  refine lv_istore_n (lv' := [(1, .int u1.1), (0, .ref h_t)]) hx hb dX6_judgeBlock_7 rfl hl (by decide) rfl (fun ls hl => ?_)
  refine lv_iload_n hx hb dX6_judgeBlock_8 rfl (lv_at hl 0 rfl) ?_
  refine z_if_eq (tgt := 14) hx hb dX6_judgeBlock_9 (by decide) hf (fun hf => ?_) (fun hf => ?_)
  · refine lv_aload_n hx hb dX6_judgeBlock_14 rfl (lv_at hl 1 rfl) ?_
    refine z_get (ci := 6) (C := RX6) (T := TX6) (N := 11) (v := .ref (r_t 1)) hx hb hts inT_X6 hown hK hP 0 rfl rfl 1 (by decide) tf_X6_28 rfl dX6_judgeBlock_15 ?_
    refine lv_aload_n hx hb dX6_judgeBlock_18 rfl (lv_at hl 1 rfl) ?_
    refine z_get (ci := 6) (C := RX6) (T := TX6) (N := 11) (v := .int (u1.2 7)) hx hb hts inT_X6 hown hK hP 0 rfl rfl 7 (by decide) tf_X6_45 rfl dX6_judgeBlock_19 ?_
    obtain ⟨u2, hu2, hf⟩ := bd_some hf
    refine z_ci (ws1 := w_X6_judgeBlock h_t r_t u1.2 cI n_t_text a_media a_text) (wr := List.filterMap (fun i : Nat => (w_X6_judgeBlock h_t r_t u1.2 cI n_t_text a_media a_text)[i]?) [0, 1, 2]) (z_rN (rest := [.ref (r_t 1)]) hx hb hml hown hcx hl.1 (c_X11_blockAddress l D cI (u1.2 7) u2 hu2 _) tl_X6_157 ts_X11_blockAddress tn_X11 tc_X11_blockAddress tm_X11_blockAddress rfl rfl ⟨Nat.le_of_ble_eq_true rfl, Nat.le_of_ble_eq_true rfl⟩ hK hX hS hA hP hD [] rfl rfl rfl rfl (Nat.le_of_ble_eq_true rfl) dX6_judgeBlock_22 ⟨Nat.zero_le _, Nat.zero_le _⟩) hP hD hS hA [] [0, 1, 2] [0, 1, 2] rfl rfl rfl (by decide) rfl rfl (fun H locs hP hD hS => ?_)
    refine z_iald hx hb hK hP 1 rfl dX6_judgeBlock_25 hf (fun y3 hf => ?_)
    refine z_if_eq (tgt := 31) hx hb dX6_judgeBlock_26 (by decide) hf (fun hf => ?_) (fun hf => ?_)
    · refine lv_aload_n hx hb dX6_judgeBlock_31 rfl (lv_at hl 1 rfl) ?_
      refine z_get (ci := 6) (C := RX6) (T := TX6) (N := 11) (v := .ref (r_t 1)) hx hb hts inT_X6 hown hK hP 0 rfl rfl 1 (by decide) tf_X6_28 rfl dX6_judgeBlock_32 ?_
      refine lv_aload_n hx hb dX6_judgeBlock_35 rfl (lv_at hl 1 rfl) ?_
      refine z_get (ci := 6) (C := RX6) (T := TX6) (N := 11) (v := .int (u1.2 7)) hx hb hts inT_X6 hown hK hP 0 rfl rfl 7 (by decide) tf_X6_45 rfl dX6_judgeBlock_36 ?_
      obtain ⟨u4, hu4, hf⟩ := bd_some hf
      refine z_ci (ws1 := w_X6_judgeBlock h_t r_t u1.2 cI n_t_text a_media a_text) (wr := List.filterMap (fun i : Nat => (w_X6_judgeBlock h_t r_t u1.2 cI n_t_text a_media a_text)[i]?) [0, 1, 2]) (z_rN (rest := [.ref (r_t 1)]) hx hb hml hown hcx hl.1 (c_X11_blockAddress l D cI (u1.2 7) u4 hu4 _) tl_X6_157 ts_X11_blockAddress tn_X11 tc_X11_blockAddress tm_X11_blockAddress rfl rfl ⟨Nat.le_of_ble_eq_true rfl, Nat.le_of_ble_eq_true rfl⟩ hK hX hS hA hP hD [] rfl rfl rfl rfl (Nat.le_of_ble_eq_true rfl) dX6_judgeBlock_39 ⟨Nat.zero_le _, Nat.zero_le _⟩) hP hD hS hA [] [0, 1, 2] [0, 1, 2] rfl rfl rfl (by decide) rfl rfl (fun H locs hP hD hS => ?_)
      refine lv_iconst (v := 1) hx hb dX6_judgeBlock_42 (by decide) ?_
      refine z_iast hx hb hK hP hD hS 1 rfl (fun z => w_X6_judgeBlock h_t r_t u1.2 cI n_t_text z a_text) (fun _ => rfl) dX6_judgeBlock_43 hf (fun a5 H locs hf hP hD hS => ?_)
      refine lv_iconst (v := 0) hx hb dX6_judgeBlock_44 (by decide) ?_
      exact hret (0, u1.2, a5) _ _ _ _ hf hP hD hS dX6_judgeBlock_45
    · refine lv_iconst (v := 3) hx hb dX6_judgeBlock_29 (by decide) ?_
      exact hret (3, u1.2, a_media) _ _ _ _ hf hP hD hS dX6_judgeBlock_30
  · refine lv_iload_n hx hb dX6_judgeBlock_12 rfl (lv_at hl 0 rfl) ?_
    exact hret (u1.1, u1.2, a_media) _ _ _ _ hf hP hD hS dX6_judgeBlock_13
abbrev w_X6_readChain (h_t : Nat) (r_t : Nat → Nat) (F_t : Nat → Int32) (cI : ClassId) (n_t_text : Nat) (a_media : Nat → Int32) (a_text : Nat → Int32) : va_W := [(h_t, .inr (6, o_X6 r_t F_t)), ((r_t 1), .inl (cI, 64, .inl a_media)), ((r_t 2), .inl (cI, n_t_text, .inl a_text))]
abbrev rm_X6_readChain : Room := { frames := 2, cells := 0, slots := 0, locals := 44 }
def m_X6_readChain_j83 (a_text : Nat → Int32) (n_t_text : Nat) (k58 : Int32 → Int32 → (Nat → Int32) → (Nat → Int32) → Option (Int32 × (Nat → Int32) × (Nat → Int32))) (x2 : Int32) (x3 : Int32) (F_t : Nat → Int32) (a_media : Nat → Int32) : Option (Int32 × (Nat → Int32) × (Nat → Int32)) :=
  bd (m_X6_judgeBlock F_t a_media a_text n_t_text) fun u6 =>
  if u6.1 = 0 then (
  bd (m_X11_blockAddress (u6.2.1 7)) fun u7 =>
  wr u6.2.2 64 x2 u7 fun a8 =>
  bd (m_X11_blockAddress (u6.2.1 7)) fun u9 =>
  nm (u9 + 1) fun v10 =>
  nm (x3 + 1) fun v11 =>
  k58 v10 v11 u6.2.1 a8)
  else (
  some (u6.1, u6.2.1, u6.2.2))
def m_X6_readChain_w58 (a_text : Nat → Int32) (n_t_text : Nat) : Nat → Int32 → Int32 → (Nat → Int32) → (Nat → Int32) → Option (Int32 × (Nat → Int32) × (Nat → Int32))
  | 0, _, _, _, _ => none
  | n58 + 1, x2, x3, F_t, a_media =>
    if 10 < x3 then (
    some (1, F_t, a_media))
    else (
    bd (m_X6_goOn F_t a_text n_t_text) fun u5 =>
    if x3 ≤ 0 then (
    m_X6_readChain_j83 a_text n_t_text (m_X6_readChain_w58 a_text n_t_text n58) x2 x3 u5 a_media)
    else (
    bd (m_X6_isSign u5 a_text n_t_text 59) fun u12 =>
    if u12 = 0 then (
    m_X6_readChain_j83 a_text n_t_text (m_X6_readChain_w58 a_text n_t_text n58) x2 x3 u5 a_media)
    else (
    some (0, u5, a_media))))
def m_X6_readChain (F_t : Nat → Int32) (a_media : Nat → Int32) (a_text : Nat → Int32) (n_t_text : Nat) : Option (Int32 × (Nat → Int32) × (Nat → Int32)) :=
  bd (m_X6_goOn F_t a_text n_t_text) fun u1 =>
  bd (m_X6_judgeNumber u1 a_text n_t_text 0 3) fun u2 =>
  if u2.1 = 0 then (
  if (((u2.2 10) >>> ((u2.2 7) &&& 31)) &&& 1) = 0 then (
  nm (upd u2.2 10 ((u2.2 10) ||| ((1 : Int32) <<< ((u2.2 7) &&& 31)))) fun F3 =>
  nm (20 + (F3 7)) fun v4 =>
  m_X6_readChain_w58 a_text n_t_text fuelN v4 0 F3 a_media)
  else (
  some (4, u2.2, a_media)))
  else (
  some (u2.1, u2.2, a_media))
set_option maxHeartbeats 4000000 in
set_option maxRecDepth 100000 in
theorem c_X6_readChain (l : Launch) (D : va_G) (cI : ClassId) (h_t : Nat) (r_t : Nat → Nat) (F_t : Nat → Int32) (n_t_text : Nat) (a_media : Nat → Int32) (a_text : Nat → Int32) (Rr : Int32 × (Nat → Int32) × (Nat → Int32)) (hf : m_X6_readChain F_t a_media a_text n_t_text = some Rr) : CTi l yX6_readChain (Cond.code yX6_readChain cX6_readChain 4 (some .int)) rm_X6_readChain D cI [.ref h_t] (w_X6_readChain h_t r_t F_t cI n_t_text a_media a_text) Rr.1 (w_X6_readChain h_t r_t Rr.2.1 cI n_t_text Rr.2.2 a_text) := by
  refine z_begin_i (own := RX6) (ρ := Int32 × (Nat → Int32) × (Nat → Int32)) (fun u => w_X6_readChain h_t r_t u.2.1 cI n_t_text u.2.2 a_text) (fun u => u.1) (by decide +kernel) rfl (Nat.le_of_ble_eq_true rfl) ?_
  intro p e s m args below meth c ls Q A hx hb hml hts hcx hown hK hX hA hP hD hS hl hret
  have hl : lv_has ls 4 [(0, .ref h_t)] := hl
  have hf := (m_X6_readChain.eq_1 _ _ _ _).symm.trans hf
  have L58 : ∀ (n58 : Nat) (x2 : Int32) (x3 : Int32) (F_t : Nat → Int32) (a_media : Nat → Int32) (H : Heap) (locs : List Loc) (ls : Array Slot), m_X6_readChain_w58 a_text n_t_text n58 x2 x3 F_t a_media = some Rr → va_P D vwCl (w_X6_readChain h_t r_t F_t cI n_t_text a_media a_text) H → va_D A (w_X6_readChain h_t r_t F_t cI n_t_text a_media a_text) → va_S A s.heap H locs → lv_has ls 4 [(0, .ref h_t), (2, .int x2), (3, .int x3)] → W p l e rm_X6_readChain s m args below meth c H locs 0 0 Q (F0 m 58 ls []) := by
    intro n58
    induction n58 with
    | zero => intro x2 x3 F_t a_media H locs ls hf; cases (show (none : Option _) = some Rr from hf)
    | succ n58 ih58 =>
      intro x2 x3 F_t a_media H locs ls hf hP hD hS hl
      have hf := (m_X6_readChain_w58.eq_2 _ _ _ _ _ _ _).symm.trans hf
      have L83 : ∀ (x2 : Int32) (x3 : Int32) (F_t : Nat → Int32) (a_media : Nat → Int32) (H : Heap) (locs : List Loc) (ls : Array Slot), m_X6_readChain_j83 a_text n_t_text (m_X6_readChain_w58 a_text n_t_text n58) x2 x3 F_t a_media = some Rr → va_P D vwCl (w_X6_readChain h_t r_t F_t cI n_t_text a_media a_text) H → va_D A (w_X6_readChain h_t r_t F_t cI n_t_text a_media a_text) → va_S A s.heap H locs → lv_has ls 4 [(0, .ref h_t), (2, .int x2), (3, .int x3)] → W p l e rm_X6_readChain s m args below meth c H locs 0 0 Q (F0 m 83 ls []) := by
        intro x2 x3 F_t a_media H locs ls hf hP hD hS hl
        have hf := (m_X6_readChain_j83.eq_1 _ _ _ _ _ _ _).symm.trans hf
        refine lv_aload_n hx hb dX6_readChain_83 rfl (lv_at hl 0 rfl) ?_
        obtain ⟨u6, hu6, hf⟩ := bd_some hf
        refine z_ci (ws1 := w_X6_readChain h_t r_t u6.2.1 cI n_t_text u6.2.2 a_text) (wr := List.filterMap (fun i : Nat => (w_X6_readChain h_t r_t F_t cI n_t_text a_media a_text)[i]?) []) (z_rV (rest := []) hx hb hml hown hcx hl.1 (c_X6_judgeBlock l D cI h_t r_t F_t n_t_text a_media a_text u6 hu6 _) tl_X6_154 ti_X6_judgeBlock tz_X6_judgeBlock tn_X6 tc_X6_judgeBlock tm_X6_judgeBlock rfl rfl ⟨Nat.le_of_ble_eq_true rfl, Nat.le_of_ble_eq_true rfl⟩ hK hX hS hA hP hD [0, 1, 2] rfl rfl 0 rfl rfl rfl rfl (Nat.le_of_ble_eq_true rfl) dX6_readChain_84 ⟨Nat.zero_le _, Nat.zero_le _⟩) hP hD hS hA [0, 1, 2] [] [0, 1, 2] rfl rfl rfl (by decide) rfl rfl (fun H locs hP hD hS => ?_)
        refine lv_istore_n (lv' := [(1, .int u6.1), (0, .ref h_t), (2, .int x2), (3, .int x3)]) hx hb dX6_readChain_87 rfl hl (by decide) rfl (fun ls hl => ?_)
        refine lv_iload_n hx hb dX6_readChain_88 rfl (lv_at hl 0 rfl) ?_
        refine z_if_eq (tgt := 94) hx hb dX6_readChain_89 (by decide) hf (fun hf => ?_) (fun hf => ?_)
        · refine lv_aload_n hx hb dX6_readChain_94 rfl (lv_at hl 1 rfl) ?_
          refine z_get (ci := 6) (C := RX6) (T := TX6) (N := 11) (v := .ref (r_t 1)) hx hb hts inT_X6 hown hK hP 0 rfl rfl 1 (by decide) tf_X6_28 rfl dX6_readChain_95 ?_
          refine lv_iload_n hx hb dX6_readChain_98 rfl (lv_at hl 2 rfl) ?_
          refine lv_aload_n hx hb dX6_readChain_99 rfl (lv_at hl 1 rfl) ?_
          refine z_get (ci := 6) (C := RX6) (T := TX6) (N := 11) (v := .int (u6.2.1 7)) hx hb hts inT_X6 hown hK hP 0 rfl rfl 7 (by decide) tf_X6_45 rfl dX6_readChain_100 ?_
          obtain ⟨u7, hu7, hf⟩ := bd_some hf
          refine z_ci (ws1 := w_X6_readChain h_t r_t u6.2.1 cI n_t_text u6.2.2 a_text) (wr := List.filterMap (fun i : Nat => (w_X6_readChain h_t r_t u6.2.1 cI n_t_text u6.2.2 a_text)[i]?) [0, 1, 2]) (z_rN (rest := [.int x2, .ref (r_t 1)]) hx hb hml hown hcx hl.1 (c_X11_blockAddress l D cI (u6.2.1 7) u7 hu7 _) tl_X6_157 ts_X11_blockAddress tn_X11 tc_X11_blockAddress tm_X11_blockAddress rfl rfl ⟨Nat.le_of_ble_eq_true rfl, Nat.le_of_ble_eq_true rfl⟩ hK hX hS hA hP hD [] rfl rfl rfl rfl (Nat.le_of_ble_eq_true rfl) dX6_readChain_103 ⟨Nat.zero_le _, Nat.zero_le _⟩) hP hD hS hA [] [0, 1, 2] [0, 1, 2] rfl rfl rfl (by decide) rfl rfl (fun H locs hP hD hS => ?_)
          refine z_iast hx hb hK hP hD hS 1 rfl (fun z => w_X6_readChain h_t r_t u6.2.1 cI n_t_text z a_text) (fun _ => rfl) dX6_readChain_106 hf (fun a8 H locs hf hP hD hS => ?_)
          refine lv_aload_n hx hb dX6_readChain_107 rfl (lv_at hl 1 rfl) ?_
          refine z_get (ci := 6) (C := RX6) (T := TX6) (N := 11) (v := .int (u6.2.1 7)) hx hb hts inT_X6 hown hK hP 0 rfl rfl 7 (by decide) tf_X6_45 rfl dX6_readChain_108 ?_
          obtain ⟨u9, hu9, hf⟩ := bd_some hf
          refine z_ci (ws1 := w_X6_readChain h_t r_t u6.2.1 cI n_t_text a8 a_text) (wr := List.filterMap (fun i : Nat => (w_X6_readChain h_t r_t u6.2.1 cI n_t_text a8 a_text)[i]?) [0, 1, 2]) (z_rN (rest := []) hx hb hml hown hcx hl.1 (c_X11_blockAddress l D cI (u6.2.1 7) u9 hu9 _) tl_X6_157 ts_X11_blockAddress tn_X11 tc_X11_blockAddress tm_X11_blockAddress rfl rfl ⟨Nat.le_of_ble_eq_true rfl, Nat.le_of_ble_eq_true rfl⟩ hK hX hS hA hP hD [] rfl rfl rfl rfl (Nat.le_of_ble_eq_true rfl) dX6_readChain_111 ⟨Nat.zero_le _, Nat.zero_le _⟩) hP hD hS hA [] [0, 1, 2] [0, 1, 2] rfl rfl rfl (by decide) rfl rfl (fun H locs hP hD hS => ?_)
          refine lv_iconst (v := 1) hx hb dX6_readChain_114 (by decide) ?_
          refine lv_iadd hx hb dX6_readChain_115 ?_
          refine z_istore_n (fun z => [(2, .int z), (1, .int u6.1), (0, .ref h_t), (3, .int x3)]) hx hb dX6_readChain_116 rfl hl (by decide) (fun _ => rfl) hf (fun v10 ls hf hl => ?_)
          refine z_iinc (k0 := 3) (fun z => [(3, .int z), (2, .int v10), (1, .int u6.1), (0, .ref h_t)]) hx hb dX6_readChain_117 hl rfl (by decide) (by decide) (fun _ => rfl) hf (fun v11 ls hf hl => ?_)
          refine lv_goto (tgt := 58) hx hb dX6_readChain_120 (by decide) ?_
          exact ih58 v10 v11 u6.2.1 a8 _ _ _ hf hP hD hS (lv_sub hl [3, 1, 0] rfl)
        · refine lv_iload_n hx hb dX6_readChain_92 rfl (lv_at hl 0 rfl) ?_
          exact hret (u6.1, u6.2.1, u6.2.2) _ _ _ _ hf hP hD hS dX6_readChain_93
      refine lv_iload_n hx hb dX6_readChain_58 rfl (lv_at hl 2 rfl) ?_
      refine lv_bipush (v := 10) hx hb dX6_readChain_59 (by decide) ?_
      refine z_icmp_gt (tgt := 123) hx hb dX6_readChain_61 (by decide) hf (fun hf => ?_) (fun hf => ?_)
      · refine lv_iconst (v := 1) hx hb dX6_readChain_123 (by decide) ?_
        exact hret (1, F_t, a_media) _ _ _ _ hf hP hD hS dX6_readChain_124
      · refine lv_aload_n hx hb dX6_readChain_64 rfl (lv_at hl 0 rfl) ?_
        obtain ⟨u5, hu5, hf⟩ := bd_some hf
        refine z_cv (ws1 := w_X6_readChain h_t r_t u5 cI n_t_text a_media a_text) (wr := List.filterMap (fun i : Nat => (w_X6_readChain h_t r_t F_t cI n_t_text a_media a_text)[i]?) [1]) (z_rV (rest := []) hx hb hml hown hcx hl.1 (c_X6_goOn l D cI h_t r_t F_t n_t_text a_text u5 hu5 _) tl_X6_67 ti_X6_goOn tz_X6_goOn tn_X6 tc_X6_goOn tm_X6_goOn rfl rfl ⟨Nat.le_of_ble_eq_true rfl, Nat.le_of_ble_eq_true rfl⟩ hK hX hS hA hP hD [0, 2] rfl rfl 0 rfl rfl rfl rfl (Nat.le_of_ble_eq_true rfl) dX6_readChain_65 ⟨Nat.zero_le _, Nat.zero_le _⟩) hP hD hS hA [0, 2] [1] [1, 0, 2] rfl rfl rfl (by decide) rfl rfl (fun H locs hP hD hS => ?_)
        refine lv_iload_n hx hb dX6_readChain_68 rfl (lv_at hl 2 rfl) ?_
        refine z_if_le (tgt := 83) hx hb dX6_readChain_69 (by decide) hf (fun hf => ?_) (fun hf => ?_)
        · exact L83 x2 x3 u5 a_media _ _ _ hf hP hD hS (lv_sub hl [0, 1, 2] rfl)
        · refine lv_aload_n hx hb dX6_readChain_72 rfl (lv_at hl 0 rfl) ?_
          refine lv_bipush (v := 59) hx hb dX6_readChain_73 (by decide) ?_
          obtain ⟨u12, hu12, hf⟩ := bd_some hf
          refine z_ci (ws1 := w_X6_readChain h_t r_t u5 cI n_t_text a_media a_text) (wr := List.filterMap (fun i : Nat => (w_X6_readChain h_t r_t u5 cI n_t_text a_media a_text)[i]?) [1]) (z_rV (rest := []) hx hb hml hown hcx hl.1 (c_X6_isSign l D cI h_t r_t u5 n_t_text a_text 59 u12 hu12 _) tl_X6_108 ti_X6_isSign tz_X6_isSign tn_X6 tc_X6_isSign tm_X6_isSign rfl rfl ⟨Nat.le_of_ble_eq_true rfl, Nat.le_of_ble_eq_true rfl⟩ hK hX hS hA hP hD [0, 2] rfl rfl 0 rfl rfl rfl rfl (Nat.le_of_ble_eq_true rfl) dX6_readChain_75 ⟨Nat.zero_le _, Nat.zero_le _⟩) hP hD hS hA [0, 2] [1] [1, 0, 2] rfl rfl rfl (by decide) rfl rfl (fun H locs hP hD hS => ?_)
          refine z_if_eq (tgt := 83) hx hb dX6_readChain_78 (by decide) hf (fun hf => ?_) (fun hf => ?_)
          · exact L83 x2 x3 u5 a_media _ _ _ hf hP hD hS (lv_sub hl [0, 1, 2] rfl)
          · refine lv_iconst (v := 0) hx hb dX6_readChain_81 (by decide) ?_
            exact hret (0, u5, a_media) _ _ _ _ hf hP hD hS dX6_readChain_82
  refine lv_aload_n hx hb dX6_readChain_0 rfl (lv_at hl 0 rfl) ?_
  obtain ⟨u1, hu1, hf⟩ := bd_some hf
  refine z_cv (ws1 := w_X6_readChain h_t r_t u1 cI n_t_text a_media a_text) (wr := List.filterMap (fun i : Nat => (w_X6_readChain h_t r_t F_t cI n_t_text a_media a_text)[i]?) [1]) (z_rV (rest := []) hx hb hml hown hcx hl.1 (c_X6_goOn l D cI h_t r_t F_t n_t_text a_text u1 hu1 _) tl_X6_67 ti_X6_goOn tz_X6_goOn tn_X6 tc_X6_goOn tm_X6_goOn rfl rfl ⟨Nat.le_of_ble_eq_true rfl, Nat.le_of_ble_eq_true rfl⟩ hK hX hS hA hP hD [0, 2] rfl rfl 0 rfl rfl rfl rfl (Nat.le_of_ble_eq_true rfl) dX6_readChain_1 ⟨Nat.zero_le _, Nat.zero_le _⟩) hP hD hS hA [0, 2] [1] [1, 0, 2] rfl rfl rfl (by decide) rfl rfl (fun H locs hP hD hS => ?_)
  refine lv_aload_n hx hb dX6_readChain_4 rfl (lv_at hl 0 rfl) ?_
  refine lv_iconst (v := 0) hx hb dX6_readChain_5 (by decide) ?_
  refine lv_iconst (v := 3) hx hb dX6_readChain_6 (by decide) ?_
  obtain ⟨u2, hu2, hf⟩ := bd_some hf
  refine z_ci (ws1 := w_X6_readChain h_t r_t u2.2 cI n_t_text a_media a_text) (wr := List.filterMap (fun i : Nat => (w_X6_readChain h_t r_t u1 cI n_t_text a_media a_text)[i]?) [1]) (z_rV (rest := []) hx hb hml hown hcx hl.1 (c_X6_judgeNumber l D cI h_t r_t u1 n_t_text a_text 0 3 u2 hu2 _) tl_X6_151 ti_X6_judgeNumber tz_X6_judgeNumber tn_X6 tc_X6_judgeNumber tm_X6_judgeNumber rfl rfl ⟨Nat.le_of_ble_eq_true rfl, Nat.le_of_ble_eq_true rfl⟩ hK hX hS hA hP hD [0, 2] rfl rfl 0 rfl rfl rfl rfl (Nat.le_of_ble_eq_true rfl) dX6_readChain_7 ⟨Nat.zero_le _, Nat.zero_le _⟩) hP hD hS hA [0, 2] [1] [1, 0, 2] rfl rfl rfl (by decide) rfl rfl (fun H locs hP hD hS => ?_)
  refine lv_istore_n (lv' := [(1, .int u2.1), (0, .ref h_t)]) hx hb dX6_readChain_10 rfl hl (by decide) rfl (fun ls hl => ?_)
  refine lv_iload_n hx hb dX6_readChain_11 rfl (lv_at hl 0 rfl) ?_
  refine z_if_eq (tgt := 17) hx hb dX6_readChain_12 (by decide) hf (fun hf => ?_) (fun hf => ?_)
  · refine lv_aload_n hx hb dX6_readChain_17 rfl (lv_at hl 1 rfl) ?_
    refine z_get (ci := 6) (C := RX6) (T := TX6) (N := 11) (v := .int (u2.2 10)) hx hb hts inT_X6 hown hK hP 0 rfl rfl 10 (by decide) tf_X6_55 rfl dX6_readChain_18 ?_
    refine lv_aload_n hx hb dX6_readChain_21 rfl (lv_at hl 1 rfl) ?_
    refine z_get (ci := 6) (C := RX6) (T := TX6) (N := 11) (v := .int (u2.2 7)) hx hb hts inT_X6 hown hK hP 0 rfl rfl 7 (by decide) tf_X6_45 rfl dX6_readChain_22 ?_
    refine lv_ishr hx hb dX6_readChain_25 ?_
    refine lv_iconst (v := 1) hx hb dX6_readChain_26 (by decide) ?_
    refine lv_iand hx hb dX6_readChain_27 ?_
    refine z_if_eq (tgt := 33) hx hb dX6_readChain_28 (by decide) hf (fun hf => ?_) (fun hf => ?_)
    · refine lv_aload_n hx hb dX6_readChain_33 rfl (lv_at hl 1 rfl) ?_
      refine lv_dup hx hb dX6_readChain_34 rfl ?_
      refine z_get (ci := 6) (C := RX6) (T := TX6) (N := 11) (v := .int (u2.2 10)) hx hb hts inT_X6 hown hK hP 0 rfl rfl 10 (by decide) tf_X6_55 rfl dX6_readChain_35 ?_
      refine lv_iconst (v := 1) hx hb dX6_readChain_38 (by decide) ?_
      refine lv_aload_n hx hb dX6_readChain_39 rfl (lv_at hl 1 rfl) ?_
      refine z_get (ci := 6) (C := RX6) (T := TX6) (N := 11) (v := .int (u2.2 7)) hx hb hts inT_X6 hown hK hP 0 rfl rfl 7 (by decide) tf_X6_45 rfl dX6_readChain_40 ?_
      refine lv_ishl hx hb dX6_readChain_43 ?_
      refine lv_ior hx hb dX6_readChain_44 ?_
      refine z_put (ci := 6) (C := RX6) (T := TX6) (N := 11) hx hb hts inT_X6 tyX6 tyX6_ok nmX6 hown hK hP hD hS 0 rfl rfl 10 (by decide) tf_X6_55 rfl (by decide +kernel) (Nat.le_of_ble_eq_true rfl) (o_X6 r_t) (o_X6_s10 _ _ _) (fun z => w_X6_readChain h_t r_t z cI n_t_text a_media a_text) (fun _ => rfl) dX6_readChain_45 hf (fun F3 H locs hf hP hD hS => ?_)
      refine lv_bipush (v := 20) hx hb dX6_readChain_48 (by decide) ?_
      refine lv_aload_n hx hb dX6_readChain_50 rfl (lv_at hl 1 rfl) ?_
      refine z_get (ci := 6) (C := RX6) (T := TX6) (N := 11) (v := .int (F3 7)) hx hb hts inT_X6 hown hK hP 0 rfl rfl 7 (by decide) tf_X6_45 rfl dX6_readChain_51 ?_
      refine lv_iadd hx hb dX6_readChain_54 ?_
      refine z_istore_n (fun z => [(2, .int z), (1, .int u2.1), (0, .ref h_t)]) hx hb dX6_readChain_55 rfl hl (by decide) (fun _ => rfl) hf (fun v4 ls hf hl => ?_)
      refine lv_iconst (v := 0) hx hb dX6_readChain_56 (by decide) ?_
      refine lv_istore_n (lv' := [(3, .int 0), (2, .int v4), (1, .int u2.1), (0, .ref h_t)]) hx hb dX6_readChain_57 rfl hl (by decide) rfl (fun ls hl => ?_)
      exact L58 fuelN v4 0 F3 a_media _ _ _ hf hP hD hS (lv_sub hl [3, 1, 0] rfl)
    · refine lv_iconst (v := 4) hx hb dX6_readChain_31 (by decide) ?_
      exact hret (4, u2.2, a_media) _ _ _ _ hf hP hD hS dX6_readChain_32
  · refine lv_iload_n hx hb dX6_readChain_15 rfl (lv_at hl 0 rfl) ?_
    exact hret (u2.1, u2.2, a_media) _ _ _ _ hf hP hD hS dX6_readChain_16
abbrev w_X6_readLeak (h_t : Nat) (r_t : Nat → Nat) (F_t : Nat → Int32) (cI : ClassId) (n_t_text : Nat) (a_media : Nat → Int32) (a_text : Nat → Int32) : va_W := [(h_t, .inr (6, o_X6 r_t F_t)), ((r_t 1), .inl (cI, 64, .inl a_media)), ((r_t 2), .inl (cI, n_t_text, .inl a_text))]
abbrev rm_X6_readLeak : Room := { frames := 3, cells := 0, slots := 0, locals := 61 }
def m_X6_readLeak (F_t : Nat → Int32) (a_media : Nat → Int32) (a_text : Nat → Int32) (n_t_text : Nat) : Option (Int32 × (Nat → Int32) × (Nat → Int32)) :=
  bd (m_X6_goOn F_t a_text n_t_text) fun u1 =>
  bd (m_X6_judgeBlock u1 a_media a_text n_t_text) fun u2 =>
  if u2.1 = 0 then (
  bd (m_X6_readSemicolon u2.2.1 a_text n_t_text) fun u3 =>
  some (u3.1, u3.2, u2.2.2))
  else (
  some (u2.1, u2.2.1, u2.2.2))
set_option maxHeartbeats 4000000 in
set_option maxRecDepth 100000 in
theorem c_X6_readLeak (l : Launch) (D : va_G) (cI : ClassId) (h_t : Nat) (r_t : Nat → Nat) (F_t : Nat → Int32) (n_t_text : Nat) (a_media : Nat → Int32) (a_text : Nat → Int32) (Rr : Int32 × (Nat → Int32) × (Nat → Int32)) (hf : m_X6_readLeak F_t a_media a_text n_t_text = some Rr) : CTi l yX6_readLeak (Cond.code yX6_readLeak cX6_readLeak 2 (some .int)) rm_X6_readLeak D cI [.ref h_t] (w_X6_readLeak h_t r_t F_t cI n_t_text a_media a_text) Rr.1 (w_X6_readLeak h_t r_t Rr.2.1 cI n_t_text Rr.2.2 a_text) := by
  refine z_begin_i (own := RX6) (ρ := Int32 × (Nat → Int32) × (Nat → Int32)) (fun u => w_X6_readLeak h_t r_t u.2.1 cI n_t_text u.2.2 a_text) (fun u => u.1) (by decide +kernel) rfl (Nat.le_of_ble_eq_true rfl) ?_
  intro p e s m args below meth c ls Q A hx hb hml hts hcx hown hK hX hA hP hD hS hl hret
  have hl : lv_has ls 2 [(0, .ref h_t)] := hl
  have hf := (m_X6_readLeak.eq_1 _ _ _ _).symm.trans hf
  refine lv_aload_n hx hb dX6_readLeak_0 rfl (lv_at hl 0 rfl) ?_
  obtain ⟨u1, hu1, hf⟩ := bd_some hf
  refine z_cv (ws1 := w_X6_readLeak h_t r_t u1 cI n_t_text a_media a_text) (wr := List.filterMap (fun i : Nat => (w_X6_readLeak h_t r_t F_t cI n_t_text a_media a_text)[i]?) [1]) (z_rV (rest := []) hx hb hml hown hcx hl.1 (c_X6_goOn l D cI h_t r_t F_t n_t_text a_text u1 hu1 _) tl_X6_67 ti_X6_goOn tz_X6_goOn tn_X6 tc_X6_goOn tm_X6_goOn rfl rfl ⟨Nat.le_of_ble_eq_true rfl, Nat.le_of_ble_eq_true rfl⟩ hK hX hS hA hP hD [0, 2] rfl rfl 0 rfl rfl rfl rfl (Nat.le_of_ble_eq_true rfl) dX6_readLeak_1 ⟨Nat.zero_le _, Nat.zero_le _⟩) hP hD hS hA [0, 2] [1] [1, 0, 2] rfl rfl rfl (by decide) rfl rfl (fun H locs hP hD hS => ?_)
  refine lv_aload_n hx hb dX6_readLeak_4 rfl (lv_at hl 0 rfl) ?_
  obtain ⟨u2, hu2, hf⟩ := bd_some hf
  refine z_ci (ws1 := w_X6_readLeak h_t r_t u2.2.1 cI n_t_text u2.2.2 a_text) (wr := List.filterMap (fun i : Nat => (w_X6_readLeak h_t r_t u1 cI n_t_text a_media a_text)[i]?) []) (z_rV (rest := []) hx hb hml hown hcx hl.1 (c_X6_judgeBlock l D cI h_t r_t u1 n_t_text a_media a_text u2 hu2 _) tl_X6_154 ti_X6_judgeBlock tz_X6_judgeBlock tn_X6 tc_X6_judgeBlock tm_X6_judgeBlock rfl rfl ⟨Nat.le_of_ble_eq_true rfl, Nat.le_of_ble_eq_true rfl⟩ hK hX hS hA hP hD [0, 1, 2] rfl rfl 0 rfl rfl rfl rfl (Nat.le_of_ble_eq_true rfl) dX6_readLeak_5 ⟨Nat.zero_le _, Nat.zero_le _⟩) hP hD hS hA [0, 1, 2] [] [0, 1, 2] rfl rfl rfl (by decide) rfl rfl (fun H locs hP hD hS => ?_)
  refine lv_istore_n (lv' := [(1, .int u2.1), (0, .ref h_t)]) hx hb dX6_readLeak_8 rfl hl (by decide) rfl (fun ls hl => ?_)
  refine lv_iload_n hx hb dX6_readLeak_9 rfl (lv_at hl 0 rfl) ?_
  refine z_if_eq (tgt := 17) hx hb dX6_readLeak_10 (by decide) hf (fun hf => ?_) (fun hf => ?_)
  · refine lv_aload_n hx hb dX6_readLeak_17 rfl (lv_at hl 1 rfl) ?_
    obtain ⟨u3, hu3, hf⟩ := bd_some hf
    refine z_ci (ws1 := w_X6_readLeak h_t r_t u3.2 cI n_t_text u2.2.2 a_text) (wr := List.filterMap (fun i : Nat => (w_X6_readLeak h_t r_t u2.2.1 cI n_t_text u2.2.2 a_text)[i]?) [1]) (z_rV (rest := []) hx hb hml hown hcx hl.1 (c_X6_readSemicolon l D cI h_t r_t u2.2.1 n_t_text a_text u3 hu3 _) tl_X6_148 ti_X6_readSemicolon tz_X6_readSemicolon tn_X6 tc_X6_readSemicolon tm_X6_readSemicolon rfl rfl ⟨Nat.le_of_ble_eq_true rfl, Nat.le_of_ble_eq_true rfl⟩ hK hX hS hA hP hD [0, 2] rfl rfl 0 rfl rfl rfl rfl (Nat.le_of_ble_eq_true rfl) dX6_readLeak_18 ⟨Nat.zero_le _, Nat.zero_le _⟩) hP hD hS hA [0, 2] [1] [1, 0, 2] rfl rfl rfl (by decide) rfl rfl (fun H locs hP hD hS => ?_)
    exact hret (u3.1, u3.2, u2.2.2) _ _ _ _ hf hP hD hS dX6_readLeak_21
  · refine lv_iload_n hx hb dX6_readLeak_13 rfl (lv_at hl 0 rfl) ?_
    refine lv_goto (tgt := 21) hx hb dX6_readLeak_14 (by decide) ?_
    exact hret (u2.1, u2.2.1, u2.2.2) _ _ _ _ hf hP hD hS dX6_readLeak_21
abbrev w_X6_readData (h_t : Nat) (r_t : Nat → Nat) (F_t : Nat → Int32) (cI : ClassId) (n_t_text : Nat) (a_media : Nat → Int32) (a_text : Nat → Int32) : va_W := [(h_t, .inr (6, o_X6 r_t F_t)), ((r_t 1), .inl (cI, 64, .inl a_media)), ((r_t 2), .inl (cI, n_t_text, .inl a_text))]
abbrev rm_X6_readData : Room := { frames := 3, cells := 0, slots := 0, locals := 61 }
def m_X6_readData_j94 (a_text : Nat → Int32) (n_t_text : Nat) (F_t : Nat → Int32) (a_media : Nat → Int32) : Option (Int32 × (Nat → Int32) × (Nat → Int32)) :=
  bd (m_X6_readSemicolon F_t a_text n_t_text) fun u5 =>
  some (u5.1, u5.2, a_media)
def m_X6_readData_w50 (a_text : Nat → Int32) (n_t_text : Nat) (k94 : (Nat → Int32) → (Nat → Int32) → Option (Int32 × (Nat → Int32) × (Nat → Int32))) : Nat → Int32 → Int32 → (Nat → Int32) → (Nat → Int32) → Option (Int32 × (Nat → Int32) × (Nat → Int32))
  | 0, _, _, _, _ => none
  | n50 + 1, x2, x3, F_t, a_media =>
    if 4 ≤ x3 then (
    k94 F_t a_media)
    else (
    bd (m_X6_goOn F_t a_text n_t_text) fun u6 =>
    bd (m_X6_judgeNumber u6 a_text n_t_text 0 99) fun u7 =>
    if u7.1 = 0 then (
    bd (m_X11_blockAddress x2) fun u8 =>
    wr a_media 64 (u8 + x3) (u7.2 7) fun a9 =>
    nm (x3 + 1) fun v10 =>
    m_X6_readData_w50 a_text n_t_text k94 n50 x2 v10 u7.2 a9)
    else (
    some (u7.1, u7.2, a_media)))
def m_X6_readData (F_t : Nat → Int32) (a_media : Nat → Int32) (a_text : Nat → Int32) (n_t_text : Nat) : Option (Int32 × (Nat → Int32) × (Nat → Int32)) :=
  bd (m_X6_goOn F_t a_text n_t_text) fun u1 =>
  bd (m_X6_judgeNumber u1 a_text n_t_text 0 9) fun u2 =>
  if u2.1 = 0 then (
  nm (u2.2 7) fun v3 =>
  if (((u2.2 9) >>> (v3 &&& 31)) &&& 1) = 0 then (
  nm (upd u2.2 9 ((u2.2 9) ||| ((1 : Int32) <<< (v3 &&& 31)))) fun F4 =>
  m_X6_readData_w50 a_text n_t_text (m_X6_readData_j94 a_text n_t_text) fuelN v3 2 F4 a_media)
  else (
  some (3, u2.2, a_media)))
  else (
  some (u2.1, u2.2, a_media))
set_option maxHeartbeats 4000000 in
set_option maxRecDepth 100000 in
theorem c_X6_readData (l : Launch) (D : va_G) (cI : ClassId) (h_t : Nat) (r_t : Nat → Nat) (F_t : Nat → Int32) (n_t_text : Nat) (a_media : Nat → Int32) (a_text : Nat → Int32) (Rr : Int32 × (Nat → Int32) × (Nat → Int32)) (hf : m_X6_readData F_t a_media a_text n_t_text = some Rr) : CTi l yX6_readData (Cond.code yX6_readData cX6_readData 4 (some .int)) rm_X6_readData D cI [.ref h_t] (w_X6_readData h_t r_t F_t cI n_t_text a_media a_text) Rr.1 (w_X6_readData h_t r_t Rr.2.1 cI n_t_text Rr.2.2 a_text) := by
  refine z_begin_i (own := RX6) (ρ := Int32 × (Nat → Int32) × (Nat → Int32)) (fun u => w_X6_readData h_t r_t u.2.1 cI n_t_text u.2.2 a_text) (fun u => u.1) (by decide +kernel) rfl (Nat.le_of_ble_eq_true rfl) ?_
  intro p e s m args below meth c ls Q A hx hb hml hts hcx hown hK hX hA hP hD hS hl hret
  have hl : lv_has ls 4 [(0, .ref h_t)] := hl
  have hf := (m_X6_readData.eq_1 _ _ _ _).symm.trans hf
  have L94 : ∀ (F_t : Nat → Int32) (a_media : Nat → Int32) (H : Heap) (locs : List Loc) (ls : Array Slot), m_X6_readData_j94 a_text n_t_text F_t a_media = some Rr → va_P D vwCl (w_X6_readData h_t r_t F_t cI n_t_text a_media a_text) H → va_D A (w_X6_readData h_t r_t F_t cI n_t_text a_media a_text) → va_S A s.heap H locs → lv_has ls 4 [(0, .ref h_t)] → W p l e rm_X6_readData s m args below meth c H locs 0 0 Q (F0 m 94 ls []) := by
    intro F_t a_media H locs ls hf hP hD hS hl
    have hf := (m_X6_readData_j94.eq_1 _ _ _ _).symm.trans hf
    refine lv_aload_n hx hb dX6_readData_94 rfl (lv_at hl 0 rfl) ?_
    obtain ⟨u5, hu5, hf⟩ := bd_some hf
    refine z_ci (ws1 := w_X6_readData h_t r_t u5.2 cI n_t_text a_media a_text) (wr := List.filterMap (fun i : Nat => (w_X6_readData h_t r_t F_t cI n_t_text a_media a_text)[i]?) [1]) (z_rV (rest := []) hx hb hml hown hcx hl.1 (c_X6_readSemicolon l D cI h_t r_t F_t n_t_text a_text u5 hu5 _) tl_X6_148 ti_X6_readSemicolon tz_X6_readSemicolon tn_X6 tc_X6_readSemicolon tm_X6_readSemicolon rfl rfl ⟨Nat.le_of_ble_eq_true rfl, Nat.le_of_ble_eq_true rfl⟩ hK hX hS hA hP hD [0, 2] rfl rfl 0 rfl rfl rfl rfl (Nat.le_of_ble_eq_true rfl) dX6_readData_95 ⟨Nat.zero_le _, Nat.zero_le _⟩) hP hD hS hA [0, 2] [1] [1, 0, 2] rfl rfl rfl (by decide) rfl rfl (fun H locs hP hD hS => ?_)
    exact hret (u5.1, u5.2, a_media) _ _ _ _ hf hP hD hS dX6_readData_98
  have L50 : ∀ (n50 : Nat) (x2 : Int32) (x3 : Int32) (F_t : Nat → Int32) (a_media : Nat → Int32) (H : Heap) (locs : List Loc) (ls : Array Slot), m_X6_readData_w50 a_text n_t_text (m_X6_readData_j94 a_text n_t_text) n50 x2 x3 F_t a_media = some Rr → va_P D vwCl (w_X6_readData h_t r_t F_t cI n_t_text a_media a_text) H → va_D A (w_X6_readData h_t r_t F_t cI n_t_text a_media a_text) → va_S A s.heap H locs → lv_has ls 4 [(0, .ref h_t), (2, .int x2), (3, .int x3)] → W p l e rm_X6_readData s m args below meth c H locs 0 0 Q (F0 m 50 ls []) := by
    intro n50
    induction n50 with
    | zero => intro x2 x3 F_t a_media H locs ls hf; cases (show (none : Option _) = some Rr from hf)
    | succ n50 ih50 =>
      intro x2 x3 F_t a_media H locs ls hf hP hD hS hl
      have hf := (m_X6_readData_w50.eq_2 _ _ _ _ _ _ _ _).symm.trans hf
      refine lv_iload_n hx hb dX6_readData_50 rfl (lv_at hl 2 rfl) ?_
      refine lv_iconst (v := 4) hx hb dX6_readData_51 (by decide) ?_
      refine z_icmp_ge (tgt := 94) hx hb dX6_readData_52 (by decide) hf (fun hf => ?_) (fun hf => ?_)
      · exact L94 F_t a_media _ _ _ hf hP hD hS (lv_sub hl [0] rfl)
      · refine lv_aload_n hx hb dX6_readData_55 rfl (lv_at hl 0 rfl) ?_
        obtain ⟨u6, hu6, hf⟩ := bd_some hf
        refine z_cv (ws1 := w_X6_readData h_t r_t u6 cI n_t_text a_media a_text) (wr := List.filterMap (fun i : Nat => (w_X6_readData h_t r_t F_t cI n_t_text a_media a_text)[i]?) [1]) (z_rV (rest := []) hx hb hml hown hcx hl.1 (c_X6_goOn l D cI h_t r_t F_t n_t_text a_text u6 hu6 _) tl_X6_67 ti_X6_goOn tz_X6_goOn tn_X6 tc_X6_goOn tm_X6_goOn rfl rfl ⟨Nat.le_of_ble_eq_true rfl, Nat.le_of_ble_eq_true rfl⟩ hK hX hS hA hP hD [0, 2] rfl rfl 0 rfl rfl rfl rfl (Nat.le_of_ble_eq_true rfl) dX6_readData_56 ⟨Nat.zero_le _, Nat.zero_le _⟩) hP hD hS hA [0, 2] [1] [1, 0, 2] rfl rfl rfl (by decide) rfl rfl (fun H locs hP hD hS => ?_)
        refine lv_aload_n hx hb dX6_readData_59 rfl (lv_at hl 0 rfl) ?_
        refine lv_iconst (v := 0) hx hb dX6_readData_60 (by decide) ?_
        refine lv_bipush (v := 99) hx hb dX6_readData_61 (by decide) ?_
        obtain ⟨u7, hu7, hf⟩ := bd_some hf
        refine z_ci (ws1 := w_X6_readData h_t r_t u7.2 cI n_t_text a_media a_text) (wr := List.filterMap (fun i : Nat => (w_X6_readData h_t r_t u6 cI n_t_text a_media a_text)[i]?) [1]) (z_rV (rest := []) hx hb hml hown hcx hl.1 (c_X6_judgeNumber l D cI h_t r_t u6 n_t_text a_text 0 99 u7 hu7 _) tl_X6_151 ti_X6_judgeNumber tz_X6_judgeNumber tn_X6 tc_X6_judgeNumber tm_X6_judgeNumber rfl rfl ⟨Nat.le_of_ble_eq_true rfl, Nat.le_of_ble_eq_true rfl⟩ hK hX hS hA hP hD [0, 2] rfl rfl 0 rfl rfl rfl rfl (Nat.le_of_ble_eq_true rfl) dX6_readData_63 ⟨Nat.zero_le _, Nat.zero_le _⟩) hP hD hS hA [0, 2] [1] [1, 0, 2] rfl rfl rfl (by decide) rfl rfl (fun H locs hP hD hS => ?_)
        refine lv_istore_n (lv' := [(1, .int u7.1), (0, .ref h_t), (2, .int x2), (3, .int x3)]) hx hb dX6_readData_66 rfl hl (by decide) rfl (fun ls hl => ?_)
        refine lv_iload_n hx hb dX6_readData_67 rfl (lv_at hl 0 rfl) ?_
        refine z_if_eq (tgt := 73) hx hb dX6_readData_68 (by decide) hf (fun hf => ?_) (fun hf => ?_)
        · refine lv_aload_n hx hb dX6_readData_73 rfl (lv_at hl 1 rfl) ?_
          refine z_get (ci := 6) (C := RX6) (T := TX6) (N := 11) (v := .ref (r_t 1)) hx hb hts inT_X6 hown hK hP 0 rfl rfl 1 (by decide) tf_X6_28 rfl dX6_readData_74 ?_
          refine lv_iload_n hx hb dX6_readData_77 rfl (lv_at hl 2 rfl) ?_
          obtain ⟨u8, hu8, hf⟩ := bd_some hf
          refine z_ci (ws1 := w_X6_readData h_t r_t u7.2 cI n_t_text a_media a_text) (wr := List.filterMap (fun i : Nat => (w_X6_readData h_t r_t u7.2 cI n_t_text a_media a_text)[i]?) [0, 1, 2]) (z_rN (rest := [.ref (r_t 1)]) hx hb hml hown hcx hl.1 (c_X11_blockAddress l D cI x2 u8 hu8 _) tl_X6_157 ts_X11_blockAddress tn_X11 tc_X11_blockAddress tm_X11_blockAddress rfl rfl ⟨Nat.le_of_ble_eq_true rfl, Nat.le_of_ble_eq_true rfl⟩ hK hX hS hA hP hD [] rfl rfl rfl rfl (Nat.le_of_ble_eq_true rfl) dX6_readData_78 ⟨Nat.zero_le _, Nat.zero_le _⟩) hP hD hS hA [] [0, 1, 2] [0, 1, 2] rfl rfl rfl (by decide) rfl rfl (fun H locs hP hD hS => ?_)
          refine lv_iload_n hx hb dX6_readData_81 rfl (lv_at hl 3 rfl) ?_
          refine lv_iadd hx hb dX6_readData_82 ?_
          refine lv_aload_n hx hb dX6_readData_83 rfl (lv_at hl 1 rfl) ?_
          refine z_get (ci := 6) (C := RX6) (T := TX6) (N := 11) (v := .int (u7.2 7)) hx hb hts inT_X6 hown hK hP 0 rfl rfl 7 (by decide) tf_X6_45 rfl dX6_readData_84 ?_
          refine z_iast hx hb hK hP hD hS 1 rfl (fun z => w_X6_readData h_t r_t u7.2 cI n_t_text z a_text) (fun _ => rfl) dX6_readData_87 hf (fun a9 H locs hf hP hD hS => ?_)
          refine z_iinc (k0 := 3) (fun z => [(3, .int z), (1, .int u7.1), (0, .ref h_t), (2, .int x2)]) hx hb dX6_readData_88 hl rfl (by decide) (by decide) (fun _ => rfl) hf (fun v10 ls hf hl => ?_)
          refine lv_goto (tgt := 50) hx hb dX6_readData_91 (by decide) ?_
          exact ih50 x2 v10 u7.2 a9 _ _ _ hf hP hD hS (lv_sub hl [2, 3, 0] rfl)
        · refine lv_iload_n hx hb dX6_readData_71 rfl (lv_at hl 0 rfl) ?_
          exact hret (u7.1, u7.2, a_media) _ _ _ _ hf hP hD hS dX6_readData_72
  refine lv_aload_n hx hb dX6_readData_0 rfl (lv_at hl 0 rfl) ?_
  obtain ⟨u1, hu1, hf⟩ := bd_some hf
  refine z_cv (ws1 := w_X6_readData h_t r_t u1 cI n_t_text a_media a_text) (wr := List.filterMap (fun i : Nat => (w_X6_readData h_t r_t F_t cI n_t_text a_media a_text)[i]?) [1]) (z_rV (rest := []) hx hb hml hown hcx hl.1 (c_X6_goOn l D cI h_t r_t F_t n_t_text a_text u1 hu1 _) tl_X6_67 ti_X6_goOn tz_X6_goOn tn_X6 tc_X6_goOn tm_X6_goOn rfl rfl ⟨Nat.le_of_ble_eq_true rfl, Nat.le_of_ble_eq_true rfl⟩ hK hX hS hA hP hD [0, 2] rfl rfl 0 rfl rfl rfl rfl (Nat.le_of_ble_eq_true rfl) dX6_readData_1 ⟨Nat.zero_le _, Nat.zero_le _⟩) hP hD hS hA [0, 2] [1] [1, 0, 2] rfl rfl rfl (by decide) rfl rfl (fun H locs hP hD hS => ?_)
  refine lv_aload_n hx hb dX6_readData_4 rfl (lv_at hl 0 rfl) ?_
  refine lv_iconst (v := 0) hx hb dX6_readData_5 (by decide) ?_
  refine lv_bipush (v := 9) hx hb dX6_readData_6 (by decide) ?_
  obtain ⟨u2, hu2, hf⟩ := bd_some hf
  refine z_ci (ws1 := w_X6_readData h_t r_t u2.2 cI n_t_text a_media a_text) (wr := List.filterMap (fun i : Nat => (w_X6_readData h_t r_t u1 cI n_t_text a_media a_text)[i]?) [1]) (z_rV (rest := []) hx hb hml hown hcx hl.1 (c_X6_judgeNumber l D cI h_t r_t u1 n_t_text a_text 0 9 u2 hu2 _) tl_X6_151 ti_X6_judgeNumber tz_X6_judgeNumber tn_X6 tc_X6_judgeNumber tm_X6_judgeNumber rfl rfl ⟨Nat.le_of_ble_eq_true rfl, Nat.le_of_ble_eq_true rfl⟩ hK hX hS hA hP hD [0, 2] rfl rfl 0 rfl rfl rfl rfl (Nat.le_of_ble_eq_true rfl) dX6_readData_8 ⟨Nat.zero_le _, Nat.zero_le _⟩) hP hD hS hA [0, 2] [1] [1, 0, 2] rfl rfl rfl (by decide) rfl rfl (fun H locs hP hD hS => ?_)
  refine lv_istore_n (lv' := [(1, .int u2.1), (0, .ref h_t)]) hx hb dX6_readData_11 rfl hl (by decide) rfl (fun ls hl => ?_)
  refine lv_iload_n hx hb dX6_readData_12 rfl (lv_at hl 0 rfl) ?_
  refine z_if_eq (tgt := 18) hx hb dX6_readData_13 (by decide) hf (fun hf => ?_) (fun hf => ?_)
  · refine lv_aload_n hx hb dX6_readData_18 rfl (lv_at hl 1 rfl) ?_
    refine z_get (ci := 6) (C := RX6) (T := TX6) (N := 11) (v := .int (u2.2 7)) hx hb hts inT_X6 hown hK hP 0 rfl rfl 7 (by decide) tf_X6_45 rfl dX6_readData_19 ?_
    refine z_istore_n (fun z => [(2, .int z), (1, .int u2.1), (0, .ref h_t)]) hx hb dX6_readData_22 rfl hl (by decide) (fun _ => rfl) hf (fun v3 ls hf hl => ?_)
    refine lv_aload_n hx hb dX6_readData_23 rfl (lv_at hl 2 rfl) ?_
    refine z_get (ci := 6) (C := RX6) (T := TX6) (N := 11) (v := .int (u2.2 9)) hx hb hts inT_X6 hown hK hP 0 rfl rfl 9 (by decide) tf_X6_52 rfl dX6_readData_24 ?_
    refine lv_iload_n hx hb dX6_readData_27 rfl (lv_at hl 0 rfl) ?_
    refine lv_ishr hx hb dX6_readData_28 ?_
    refine lv_iconst (v := 1) hx hb dX6_readData_29 (by decide) ?_
    refine lv_iand hx hb dX6_readData_30 ?_
    refine z_if_eq (tgt := 36) hx hb dX6_readData_31 (by decide) hf (fun hf => ?_) (fun hf => ?_)
    · refine lv_aload_n hx hb dX6_readData_36 rfl (lv_at hl 2 rfl) ?_
      refine lv_dup hx hb dX6_readData_37 rfl ?_
      refine z_get (ci := 6) (C := RX6) (T := TX6) (N := 11) (v := .int (u2.2 9)) hx hb hts inT_X6 hown hK hP 0 rfl rfl 9 (by decide) tf_X6_52 rfl dX6_readData_38 ?_
      refine lv_iconst (v := 1) hx hb dX6_readData_41 (by decide) ?_
      refine lv_iload_n hx hb dX6_readData_42 rfl (lv_at hl 0 rfl) ?_
      refine lv_ishl hx hb dX6_readData_43 ?_
      refine lv_ior hx hb dX6_readData_44 ?_
      refine z_put (ci := 6) (C := RX6) (T := TX6) (N := 11) hx hb hts inT_X6 tyX6 tyX6_ok nmX6 hown hK hP hD hS 0 rfl rfl 9 (by decide) tf_X6_52 rfl (by decide +kernel) (Nat.le_of_ble_eq_true rfl) (o_X6 r_t) (o_X6_s9 _ _ _) (fun z => w_X6_readData h_t r_t z cI n_t_text a_media a_text) (fun _ => rfl) dX6_readData_45 hf (fun F4 H locs hf hP hD hS => ?_)
      refine lv_iconst (v := 2) hx hb dX6_readData_48 (by decide) ?_
      refine lv_istore_n (lv' := [(3, .int 2), (2, .int v3), (1, .int u2.1), (0, .ref h_t)]) hx hb dX6_readData_49 rfl hl (by decide) rfl (fun ls hl => ?_)
      exact L50 fuelN v3 2 F4 a_media _ _ _ hf hP hD hS (lv_sub hl [3, 1, 0] rfl)
    · refine lv_iconst (v := 3) hx hb dX6_readData_34 (by decide) ?_
      exact hret (3, u2.2, a_media) _ _ _ _ hf hP hD hS dX6_readData_35
  · refine lv_iload_n hx hb dX6_readData_16 rfl (lv_at hl 0 rfl) ?_
    exact hret (u2.1, u2.2, a_media) _ _ _ _ hf hP hD hS dX6_readData_17
abbrev w_X11_packOp (cI : ClassId) : va_W := []
abbrev rm_X11_packOp : Room := { frames := 0, cells := 0, slots := 0, locals := 0 }
def m_X11_packOp_j28 (p0 : Int32) (p1 : Int32) (p2 : Int32) (x3 : Int32) (s0 : Int32) : Option (Int32) :=
  some ((((p0 + 1) * 10000) + (x3 * 100)) + s0)
def m_X11_packOp_j13 (p0 : Int32) (p1 : Int32) (p2 : Int32) (s0 : Int32) : Option (Int32) :=
  rd K_ARGUMENTS 5 p0 fun y2 =>
  if y2 ≤ 1 then (
  m_X11_packOp_j28 p0 p1 p2 s0 0)
  else (
  m_X11_packOp_j28 p0 p1 p2 s0 p2)
def m_X11_packOp (p0 : Int32) (p1 : Int32) (p2 : Int32) : Option (Int32) :=
  rd K_ARGUMENTS 5 p0 fun y1 =>
  if y1 ≤ 0 then (
  m_X11_packOp_j13 p0 p1 p2 0)
  else (
  m_X11_packOp_j13 p0 p1 p2 p1)
set_option maxHeartbeats 4000000 in
set_option maxRecDepth 100000 in
theorem c_X11_packOp (l : Launch) (D : va_G) (cI : ClassId) (p0 : Int32) (p1 : Int32) (p2 : Int32) (Rr : Int32) (hf : m_X11_packOp p0 p1 p2 = some Rr) : CTi l yX11_packOp (Cond.code yX11_packOp cX11_packOp 5 (some .int)) rm_X11_packOp D cI [.int p0, .int p1, .int p2] (w_X11_packOp cI) Rr (w_X11_packOp cI) := by
  refine z_begin_i (own := RX11) (ρ := Int32) (fun u => w_X11_packOp cI) (fun u => u) (by decide +kernel) rfl (Nat.le_of_ble_eq_true rfl) ?_
  intro p e s m args below meth c ls Q A hx hb hml hts hcx hown hK hX hA hP hD hS hl hret
  obtain ⟨t_ARGUMENTS, hZ_ARGUMENTS, hT_ARGUMENTS⟩ := hX.1
  have hl : lv_has ls 5 [(0, .int p0), (1, .int p1), (2, .int p2)] := hl
  have hf := (m_X11_packOp.eq_1 _ _ _).symm.trans hf
  have L28 : ∀ (x3 : Int32) (s0 : Int32) (H : Heap) (locs : List Loc) (ls : Array Slot), m_X11_packOp_j28 p0 p1 p2 x3 s0 = some Rr → va_P D vwCl (w_X11_packOp cI) H → va_D A (w_X11_packOp cI) → va_S A s.heap H locs → lv_has ls 5 [(0, .int p0), (3, .int x3)] → W p l e rm_X11_packOp s m args below meth c H locs 0 0 Q (F0 m 28 ls [.int s0]) := by
    intro x3 s0 H locs ls hf hP hD hS hl
    have hf := (m_X11_packOp_j28.eq_1 _ _ _ _ _).symm.trans hf
    refine lv_istore (lv' := [(4, .int s0), (0, .int p0), (3, .int x3)]) hx hb dX11_packOp_28 hl (by decide) rfl (fun ls hl => ?_)
    refine lv_iload_n hx hb dX11_packOp_30 rfl (lv_at hl 1 rfl) ?_
    refine lv_iconst (v := 1) hx hb dX11_packOp_31 (by decide) ?_
    refine lv_iadd hx hb dX11_packOp_32 ?_
    refine lv_sipush (v := 10000) hx hb dX11_packOp_33 (by decide) ?_
    refine lv_imul hx hb dX11_packOp_36 ?_
    refine lv_iload_n hx hb dX11_packOp_37 rfl (lv_at hl 2 rfl) ?_
    refine lv_bipush (v := 100) hx hb dX11_packOp_38 (by decide) ?_
    refine lv_imul hx hb dX11_packOp_40 ?_
    refine lv_iadd hx hb dX11_packOp_41 ?_
    refine lv_iload hx hb dX11_packOp_42 (lv_at hl 0 rfl) ?_
    refine lv_iadd hx hb dX11_packOp_44 ?_
    exact hret ((((p0 + 1) * 10000) + (x3 * 100)) + s0) _ _ _ _ hf hP hD hS dX11_packOp_45
  have L13 : ∀ (s0 : Int32) (H : Heap) (locs : List Loc) (ls : Array Slot), m_X11_packOp_j13 p0 p1 p2 s0 = some Rr → va_P D vwCl (w_X11_packOp cI) H → va_D A (w_X11_packOp cI) → va_S A s.heap H locs → lv_has ls 5 [(0, .int p0), (2, .int p2)] → W p l e rm_X11_packOp s m args below meth c H locs 0 0 Q (F0 m 13 ls [.int s0]) := by
    intro s0 H locs ls hf hP hD hS hl
    have hf := (m_X11_packOp_j13.eq_1 _ _ _ _).symm.trans hf
    refine lv_istore_n (lv' := [(3, .int s0), (0, .int p0), (2, .int p2)]) hx hb dX11_packOp_13 rfl hl (by decide) rfl (fun ls hl => ?_)
    refine z_gets hx hb hts hZ_ARGUMENTS hS hown tf_X11_277 dX11_packOp_14 ?_
    refine lv_iload_n hx hb dX11_packOp_17 rfl (lv_at hl 1 rfl) ?_
    refine z_tald hx hb hT_ARGUMENTS hS dX11_packOp_18 hf (fun y2 hf => ?_)
    refine lv_iconst (v := 1) hx hb dX11_packOp_19 (by decide) ?_
    refine z_icmp_le (tgt := 27) hx hb dX11_packOp_20 (by decide) hf (fun hf => ?_) (fun hf => ?_)
    · refine lv_iconst (v := 0) hx hb dX11_packOp_27 (by decide) ?_
      exact L28 s0 0 _ _ _ hf hP hD hS (lv_sub hl [1, 0] rfl)
    · refine lv_iload_n hx hb dX11_packOp_23 rfl (lv_at hl 2 rfl) ?_
      refine lv_goto (tgt := 28) hx hb dX11_packOp_24 (by decide) ?_
      exact L28 s0 p2 _ _ _ hf hP hD hS (lv_sub hl [1, 0] rfl)
  refine z_gets hx hb hts hZ_ARGUMENTS hS hown tf_X11_277 dX11_packOp_0 ?_
  refine lv_iload_n hx hb dX11_packOp_3 rfl (lv_at hl 0 rfl) ?_
  refine z_tald hx hb hT_ARGUMENTS hS dX11_packOp_4 hf (fun y1 hf => ?_)
  refine z_if_le (tgt := 12) hx hb dX11_packOp_5 (by decide) hf (fun hf => ?_) (fun hf => ?_)
  · refine lv_iconst (v := 0) hx hb dX11_packOp_12 (by decide) ?_
    exact L13 0 _ _ _ hf hP hD hS (lv_sub hl [0, 2] rfl)
  · refine lv_iload_n hx hb dX11_packOp_8 rfl (lv_at hl 1 rfl) ?_
    refine lv_goto (tgt := 13) hx hb dX11_packOp_9 (by decide) ?_
    exact L13 p1 _ _ _ hf hP hD hS (lv_sub hl [0, 2] rfl)
abbrev w_X4_settle (h_t : Nat) (h_p1 : Nat) (r_t : Nat → Nat) (F_t : Nat → Int32) (cI : ClassId) (n_p1 : Nat) (a_before : Nat → Int32) (a_after : Nat → Int32) (a_p1 : Nat → Int32) : va_W := [(h_t, .inr (4, o_X4 r_t F_t)), ((r_t 4), .inl (cI, 44, .inl a_before)), ((r_t 5), .inl (cI, 44, .inl a_after)), (h_p1, .inl (cI, n_p1, .inl a_p1))]
abbrev rm_X4_settle : Room := { frames := 1, cells := 0, slots := 0, locals := 40 }
def m_X4_settle (a_before : Nat → Int32) (a_after : Nat → Int32) (a_p1 : Nat → Int32) (n_p1 : Nat) : Option ((Nat → Int32) × (Nat → Int32)) :=
  cp a_p1 a_before n_p1 44 20 0 44 fun a1 =>
  cp a_p1 a_after n_p1 44 20 0 44 fun a2 =>
  some (a1, a2)
set_option maxHeartbeats 4000000 in
set_option maxRecDepth 100000 in
theorem c_X4_settle (l : Launch) (D : va_G) (cI : ClassId) (h_t : Nat) (h_p1 : Nat) (r_t : Nat → Nat) (F_t : Nat → Int32) (n_p1 : Nat) (a_before : Nat → Int32) (a_after : Nat → Int32) (a_p1 : Nat → Int32) (Rr : (Nat → Int32) × (Nat → Int32)) (hf : m_X4_settle a_before a_after a_p1 n_p1 = some Rr) : CTv l yX4_settle (Cond.code yX4_settle cX4_settle 2 none) rm_X4_settle D cI [.ref h_t, .ref h_p1] (w_X4_settle h_t h_p1 r_t F_t cI n_p1 a_before a_after a_p1) (w_X4_settle h_t h_p1 r_t F_t cI n_p1 Rr.1 Rr.2 a_p1) := by
  refine z_begin_v (own := RX4) (ρ := (Nat → Int32) × (Nat → Int32)) (fun u => w_X4_settle h_t h_p1 r_t F_t cI n_p1 u.1 u.2 a_p1) (by decide +kernel) rfl (Nat.le_of_ble_eq_true rfl) ?_
  intro p e s m args below meth c ls Q A hx hb hml hts hcx hown hK hX hA hP hD hS hl hret
  have hl : lv_has ls 2 [(0, .ref h_t), (1, .ref h_p1)] := hl
  have hf := (m_X4_settle.eq_1 _ _ _ _).symm.trans hf
  refine lv_aload_n hx hb dX4_settle_0 rfl (lv_at hl 1 rfl) ?_
  refine lv_bipush (v := 20) hx hb dX4_settle_1 (by decide) ?_
  refine lv_aload_n hx hb dX4_settle_3 rfl (lv_at hl 0 rfl) ?_
  refine z_get (ci := 4) (C := RX4) (T := TX4) (N := 12) (v := .ref (r_t 4)) hx hb hts inT_X4 hown hK hP 0 rfl rfl 4 (by decide) tf_X4_29 rfl dX4_settle_4 ?_
  refine lv_iconst (v := 0) hx hb dX4_settle_7 (by decide) ?_
  refine lv_bipush (v := 44) hx hb dX4_settle_8 (by decide) ?_
  refine z_copy (rest := []) hx hb (hml.trans hl.1.symm) hown hts tl_X4_57 tnat_copy ts_copy tn_J10 hK hP hD hS 3 1 rfl rfl (fun z => w_X4_settle h_t h_p1 r_t F_t cI n_p1 z a_after a_p1) (fun _ => rfl) (Nat.le_of_ble_eq_true rfl) (by decide) dX4_settle_10 hf (fun a1 H locs hf hP hD hS => ?_)
  refine lv_aload_n hx hb dX4_settle_13 rfl (lv_at hl 1 rfl) ?_
  refine lv_bipush (v := 20) hx hb dX4_settle_14 (by decide) ?_
  refine lv_aload_n hx hb dX4_settle_16 rfl (lv_at hl 0 rfl) ?_
  refine z_get (ci := 4) (C := RX4) (T := TX4) (N := 12) (v := .ref (r_t 5)) hx hb hts inT_X4 hown hK hP 0 rfl rfl 5 (by decide) tf_X4_32 rfl dX4_settle_17 ?_
  refine lv_iconst (v := 0) hx hb dX4_settle_20 (by decide) ?_
  refine lv_bipush (v := 44) hx hb dX4_settle_21 (by decide) ?_
  refine z_copy (rest := []) hx hb (hml.trans hl.1.symm) hown hts tl_X4_57 tnat_copy ts_copy tn_J10 hK hP hD hS 3 2 rfl rfl (fun z => w_X4_settle h_t h_p1 r_t F_t cI n_p1 a1 z a_p1) (fun _ => rfl) (Nat.le_of_ble_eq_true rfl) (by decide) dX4_settle_23 hf (fun a2 H locs hf hP hD hS => ?_)
  exact hret (a1, a2) _ _ _ _ hf hP hD hS dX4_settle_26
abbrev w_X1_copyFrom (h_t : Nat) (h_p1 : Nat) (r_t : Nat → Nat) (r_p1 : Nat → Nat) (cI : ClassId) (a_media : Nat → Int32) (a_stores : Nat → Int32) (a_held : Nat → Int32) (a_asked : Nat → Int32) (a_p1_media : Nat → Int32) (a_p1_stores : Nat → Int32) (a_p1_held : Nat → Int32) (a_p1_asked : Nat → Int32) : va_W := [(h_t, .inr (1, o_X1 r_t)), ((r_t 0), .inl (cI, 64, .inl a_media)), ((r_t 1), .inl (cI, 96, .inl a_stores)), ((r_t 2), .inl (cI, 16, .inl a_held)), ((r_t 3), .inl (cI, 16, .inl a_asked)), (h_p1, .inr (1, o_X1 r_p1)), ((r_p1 0), .inl (cI, 64, .inl a_p1_media)), ((r_p1 1), .inl (cI, 96, .inl a_p1_stores)), ((r_p1 2), .inl (cI, 16, .inl a_p1_held)), ((r_p1 3), .inl (cI, 16, .inl a_p1_asked))]
abbrev rm_X1_copyFrom : Room := { frames := 1, cells := 0, slots := 0, locals := 40 }
def m_X1_copyFrom (a_media : Nat → Int32) (a_stores : Nat → Int32) (a_held : Nat → Int32) (a_asked : Nat → Int32) (a_p1_media : Nat → Int32) (a_p1_stores : Nat → Int32) (a_p1_held : Nat → Int32) (a_p1_asked : Nat → Int32) : Option ((Nat → Int32) × (Nat → Int32) × (Nat → Int32) × (Nat → Int32)) :=
  cp a_p1_media a_media 64 64 0 0 64 fun a1 =>
  cp a_p1_stores a_stores 96 96 0 0 96 fun a2 =>
  cp a_p1_held a_held 16 16 0 0 16 fun a3 =>
  cp a_p1_asked a_asked 16 16 0 0 16 fun a4 =>
  some (a1, a2, a3, a4)
set_option maxHeartbeats 4000000 in
set_option maxRecDepth 100000 in
theorem c_X1_copyFrom (l : Launch) (D : va_G) (cI : ClassId) (h_t : Nat) (h_p1 : Nat) (r_t : Nat → Nat) (r_p1 : Nat → Nat) (a_media : Nat → Int32) (a_stores : Nat → Int32) (a_held : Nat → Int32) (a_asked : Nat → Int32) (a_p1_media : Nat → Int32) (a_p1_stores : Nat → Int32) (a_p1_held : Nat → Int32) (a_p1_asked : Nat → Int32) (Rr : (Nat → Int32) × (Nat → Int32) × (Nat → Int32) × (Nat → Int32)) (hf : m_X1_copyFrom a_media a_stores a_held a_asked a_p1_media a_p1_stores a_p1_held a_p1_asked = some Rr) : CTv l yX1_copyFrom (Cond.code yX1_copyFrom cX1_copyFrom 2 none) rm_X1_copyFrom D cI [.ref h_t, .ref h_p1] (w_X1_copyFrom h_t h_p1 r_t r_p1 cI a_media a_stores a_held a_asked a_p1_media a_p1_stores a_p1_held a_p1_asked) (w_X1_copyFrom h_t h_p1 r_t r_p1 cI Rr.1 Rr.2.1 Rr.2.2.1 Rr.2.2.2 a_p1_media a_p1_stores a_p1_held a_p1_asked) := by
  refine z_begin_v (own := RX1) (ρ := (Nat → Int32) × (Nat → Int32) × (Nat → Int32) × (Nat → Int32)) (fun u => w_X1_copyFrom h_t h_p1 r_t r_p1 cI u.1 u.2.1 u.2.2.1 u.2.2.2 a_p1_media a_p1_stores a_p1_held a_p1_asked) (by decide +kernel) rfl (Nat.le_of_ble_eq_true rfl) ?_
  intro p e s m args below meth c ls Q A hx hb hml hts hcx hown hK hX hA hP hD hS hl hret
  have hl : lv_has ls 2 [(0, .ref h_t), (1, .ref h_p1)] := hl
  have hf := (m_X1_copyFrom.eq_1 _ _ _ _ _ _ _ _).symm.trans hf
  refine lv_aload_n hx hb dX1_copyFrom_0 rfl (lv_at hl 1 rfl) ?_
  refine z_get (ci := 1) (C := RX1) (T := TX1) (N := 4) (v := .ref (r_p1 0)) hx hb hts inT_X1 hown hK hP 5 rfl rfl 0 (by decide) tf_X1_9 rfl dX1_copyFrom_1 ?_
  refine lv_iconst (v := 0) hx hb dX1_copyFrom_4 (by decide) ?_
  refine lv_aload_n hx hb dX1_copyFrom_5 rfl (lv_at hl 0 rfl) ?_
  refine z_get (ci := 1) (C := RX1) (T := TX1) (N := 4) (v := .ref (r_t 0)) hx hb hts inT_X1 hown hK hP 0 rfl rfl 0 (by decide) tf_X1_9 rfl dX1_copyFrom_6 ?_
  refine lv_iconst (v := 0) hx hb dX1_copyFrom_9 (by decide) ?_
  refine lv_bipush (v := 64) hx hb dX1_copyFrom_10 (by decide) ?_
  refine z_copy (rest := []) hx hb (hml.trans hl.1.symm) hown hts tl_X1_24 tnat_copy ts_copy tn_J10 hK hP hD hS 6 1 rfl rfl (fun z => w_X1_copyFrom h_t h_p1 r_t r_p1 cI z a_stores a_held a_asked a_p1_media a_p1_stores a_p1_held a_p1_asked) (fun _ => rfl) (Nat.le_of_ble_eq_true rfl) (by decide) dX1_copyFrom_12 hf (fun a1 H locs hf hP hD hS => ?_)
  refine lv_aload_n hx hb dX1_copyFrom_15 rfl (lv_at hl 1 rfl) ?_
  refine z_get (ci := 1) (C := RX1) (T := TX1) (N := 4) (v := .ref (r_p1 1)) hx hb hts inT_X1 hown hK hP 5 rfl rfl 1 (by decide) tf_X1_15 rfl dX1_copyFrom_16 ?_
  refine lv_iconst (v := 0) hx hb dX1_copyFrom_19 (by decide) ?_
  refine lv_aload_n hx hb dX1_copyFrom_20 rfl (lv_at hl 0 rfl) ?_
  refine z_get (ci := 1) (C := RX1) (T := TX1) (N := 4) (v := .ref (r_t 1)) hx hb hts inT_X1 hown hK hP 0 rfl rfl 1 (by decide) tf_X1_15 rfl dX1_copyFrom_21 ?_
  refine lv_iconst (v := 0) hx hb dX1_copyFrom_24 (by decide) ?_
  refine lv_aload_n hx hb dX1_copyFrom_25 rfl (lv_at hl 0 rfl) ?_
  refine z_get (ci := 1) (C := RX1) (T := TX1) (N := 4) (v := .ref (r_t 1)) hx hb hts inT_X1 hown hK hP 0 rfl rfl 1 (by decide) tf_X1_15 rfl dX1_copyFrom_26 ?_
  refine va_alen (v := 96) hx hb hK.1 hP 2 0 rfl rfl rfl dX1_copyFrom_29 ?_
  refine z_copy (rest := []) hx hb (hml.trans hl.1.symm) hown hts tl_X1_24 tnat_copy ts_copy tn_J10 hK hP hD hS 7 2 rfl rfl (fun z => w_X1_copyFrom h_t h_p1 r_t r_p1 cI a1 z a_held a_asked a_p1_media a_p1_stores a_p1_held a_p1_asked) (fun _ => rfl) (Nat.le_of_ble_eq_true rfl) (by decide) dX1_copyFrom_30 hf (fun a2 H locs hf hP hD hS => ?_)
  refine lv_aload_n hx hb dX1_copyFrom_33 rfl (lv_at hl 1 rfl) ?_
  refine z_get (ci := 1) (C := RX1) (T := TX1) (N := 4) (v := .ref (r_p1 2)) hx hb hts inT_X1 hown hK hP 5 rfl rfl 2 (by decide) tf_X1_18 rfl dX1_copyFrom_34 ?_
  refine lv_iconst (v := 0) hx hb dX1_copyFrom_37 (by decide) ?_
  refine lv_aload_n hx hb dX1_copyFrom_38 rfl (lv_at hl 0 rfl) ?_
  refine z_get (ci := 1) (C := RX1) (T := TX1) (N := 4) (v := .ref (r_t 2)) hx hb hts inT_X1 hown hK hP 0 rfl rfl 2 (by decide) tf_X1_18 rfl dX1_copyFrom_39 ?_
  refine lv_iconst (v := 0) hx hb dX1_copyFrom_42 (by decide) ?_
  refine lv_bipush (v := 16) hx hb dX1_copyFrom_43 (by decide) ?_
  refine z_copy (rest := []) hx hb (hml.trans hl.1.symm) hown hts tl_X1_24 tnat_copy ts_copy tn_J10 hK hP hD hS 8 3 rfl rfl (fun z => w_X1_copyFrom h_t h_p1 r_t r_p1 cI a1 a2 z a_asked a_p1_media a_p1_stores a_p1_held a_p1_asked) (fun _ => rfl) (Nat.le_of_ble_eq_true rfl) (by decide) dX1_copyFrom_45 hf (fun a3 H locs hf hP hD hS => ?_)
  refine lv_aload_n hx hb dX1_copyFrom_48 rfl (lv_at hl 1 rfl) ?_
  refine z_get (ci := 1) (C := RX1) (T := TX1) (N := 4) (v := .ref (r_p1 3)) hx hb hts inT_X1 hown hK hP 5 rfl rfl 3 (by decide) tf_X1_21 rfl dX1_copyFrom_49 ?_
  refine lv_iconst (v := 0) hx hb dX1_copyFrom_52 (by decide) ?_
  refine lv_aload_n hx hb dX1_copyFrom_53 rfl (lv_at hl 0 rfl) ?_
  refine z_get (ci := 1) (C := RX1) (T := TX1) (N := 4) (v := .ref (r_t 3)) hx hb hts inT_X1 hown hK hP 0 rfl rfl 3 (by decide) tf_X1_21 rfl dX1_copyFrom_54 ?_
  refine lv_iconst (v := 0) hx hb dX1_copyFrom_57 (by decide) ?_
  refine lv_bipush (v := 16) hx hb dX1_copyFrom_58 (by decide) ?_
  refine z_copy (rest := []) hx hb (hml.trans hl.1.symm) hown hts tl_X1_24 tnat_copy ts_copy tn_J10 hK hP hD hS 9 4 rfl rfl (fun z => w_X1_copyFrom h_t h_p1 r_t r_p1 cI a1 a2 a3 z a_p1_media a_p1_stores a_p1_held a_p1_asked) (fun _ => rfl) (Nat.le_of_ble_eq_true rfl) (by decide) dX1_copyFrom_60 hf (fun a4 H locs hf hP hD hS => ?_)
  exact hret (a1, a2, a3, a4) _ _ _ _ hf hP hD hS dX1_copyFrom_63
abbrev w_X4_copyFrom (h_t : Nat) (h_p1 : Nat) (r_t : Nat → Nat) (r_cache : Nat → Nat) (r_p1 : Nat → Nat) (r_p1_cache : Nat → Nat) (F_t : Nat → Int32) (F_p1 : Nat → Int32) (cI : ClassId) (a_cache_media : Nat → Int32) (a_cache_stores : Nat → Int32) (a_cache_held : Nat → Int32) (a_cache_asked : Nat → Int32) (a_micros : Nat → Int32) (a_before : Nat → Int32) (a_after : Nat → Int32) (a_waiting : Nat → Int32) (a_tallies : Nat → Int32) (a_p1_cache_media : Nat → Int32) (a_p1_cache_stores : Nat → Int32) (a_p1_cache_held : Nat → Int32) (a_p1_cache_asked : Nat → Int32) (a_p1_micros : Nat → Int32) (a_p1_before : Nat → Int32) (a_p1_after : Nat → Int32) (a_p1_waiting : Nat → Int32) (a_p1_tallies : Nat → Int32) : va_W := [(h_t, .inr (4, o_X4 r_t F_t)), ((r_t 0), .inr (1, o_X1 r_cache)), ((r_cache 0), .inl (cI, 64, .inl a_cache_media)), ((r_cache 1), .inl (cI, 96, .inl a_cache_stores)), ((r_cache 2), .inl (cI, 16, .inl a_cache_held)), ((r_cache 3), .inl (cI, 16, .inl a_cache_asked)), ((r_t 1), .inl (cI, 80, .inl a_micros)), ((r_t 4), .inl (cI, 44, .inl a_before)), ((r_t 5), .inl (cI, 44, .inl a_after)), ((r_t 6), .inl (cI, 48, .inl a_waiting)), ((r_t 11), .inl (cI, 8, .inl a_tallies)), (h_p1, .inr (4, o_X4 r_p1 F_p1)), ((r_p1 0), .inr (1, o_X1 r_p1_cache)), ((r_p1_cache 0), .inl (cI, 64, .inl a_p1_cache_media)), ((r_p1_cache 1), .inl (cI, 96, .inl a_p1_cache_stores)), ((r_p1_cache 2), .inl (cI, 16, .inl a_p1_cache_held)), ((r_p1_cache 3), .inl (cI, 16, .inl a_p1_cache_asked)), ((r_p1 1), .inl (cI, 80, .inl a_p1_micros)), ((r_p1 4), .inl (cI, 44, .inl a_p1_before)), ((r_p1 5), .inl (cI, 44, .inl a_p1_after)), ((r_p1 6), .inl (cI, 48, .inl a_p1_waiting)), ((r_p1 11), .inl (cI, 8, .inl a_p1_tallies))]
abbrev rm_X4_copyFrom : Room := { frames := 2, cells := 0, slots := 0, locals := 61 }
def m_X4_copyFrom (F_t : Nat → Int32) (F_p1 : Nat → Int32) (a_cache_media : Nat → Int32) (a_cache_stores : Nat → Int32) (a_cache_held : Nat → Int32) (a_cache_asked : Nat → Int32) (a_micros : Nat → Int32) (a_before : Nat → Int32) (a_after : Nat → Int32) (a_waiting : Nat → Int32) (a_tallies : Nat → Int32) (a_p1_cache_media : Nat → Int32) (a_p1_cache_stores : Nat → Int32) (a_p1_cache_held : Nat → Int32) (a_p1_cache_asked : Nat → Int32) (a_p1_micros : Nat → Int32) (a_p1_before : Nat → Int32) (a_p1_after : Nat → Int32) (a_p1_waiting : Nat → Int32) (a_p1_tallies : Nat → Int32) : Option ((Nat → Int32) × (Nat → Int32) × (Nat → Int32) × (Nat → Int32) × (Nat → Int32) × (Nat → Int32) × (Nat → Int32) × (Nat → Int32) × (Nat → Int32) × (Nat → Int32)) :=
  bd (m_X1_copyFrom a_cache_media a_cache_stores a_cache_held a_cache_asked a_p1_cache_media a_p1_cache_stores a_p1_cache_held a_p1_cache_asked) fun u1 =>
  cp a_p1_micros a_micros 80 80 0 0 80 fun a2 =>
  nm (upd F_t 2 (F_p1 2)) fun F3 =>
  nm (upd F3 3 (F_p1 3)) fun F4 =>
  cp a_p1_before a_before 44 44 0 0 44 fun a5 =>
  cp a_p1_after a_after 44 44 0 0 44 fun a6 =>
  cp a_p1_waiting a_waiting 48 48 0 0 48 fun a7 =>
  nm (upd F4 7 (F_p1 7)) fun F8 =>
  nm (upd F8 8 (F_p1 8)) fun F9 =>
  nm (upd F9 9 (F_p1 9)) fun F10 =>
  nm (upd F10 10 (F_p1 10)) fun F11 =>
  cp a_p1_tallies a_tallies 8 8 0 0 8 fun a12 =>
  some (F11, u1.1, u1.2.1, u1.2.2.1, u1.2.2.2, a2, a5, a6, a7, a12)
set_option maxHeartbeats 4000000 in
set_option maxRecDepth 100000 in
theorem c_X4_copyFrom (l : Launch) (D : va_G) (cI : ClassId) (h_t : Nat) (h_p1 : Nat) (r_t : Nat → Nat) (r_cache : Nat → Nat) (r_p1 : Nat → Nat) (r_p1_cache : Nat → Nat) (F_t : Nat → Int32) (F_p1 : Nat → Int32) (a_cache_media : Nat → Int32) (a_cache_stores : Nat → Int32) (a_cache_held : Nat → Int32) (a_cache_asked : Nat → Int32) (a_micros : Nat → Int32) (a_before : Nat → Int32) (a_after : Nat → Int32) (a_waiting : Nat → Int32) (a_tallies : Nat → Int32) (a_p1_cache_media : Nat → Int32) (a_p1_cache_stores : Nat → Int32) (a_p1_cache_held : Nat → Int32) (a_p1_cache_asked : Nat → Int32) (a_p1_micros : Nat → Int32) (a_p1_before : Nat → Int32) (a_p1_after : Nat → Int32) (a_p1_waiting : Nat → Int32) (a_p1_tallies : Nat → Int32) (Rr : (Nat → Int32) × (Nat → Int32) × (Nat → Int32) × (Nat → Int32) × (Nat → Int32) × (Nat → Int32) × (Nat → Int32) × (Nat → Int32) × (Nat → Int32) × (Nat → Int32)) (hf : m_X4_copyFrom F_t F_p1 a_cache_media a_cache_stores a_cache_held a_cache_asked a_micros a_before a_after a_waiting a_tallies a_p1_cache_media a_p1_cache_stores a_p1_cache_held a_p1_cache_asked a_p1_micros a_p1_before a_p1_after a_p1_waiting a_p1_tallies = some Rr) : CTv l yX4_copyFrom (Cond.code yX4_copyFrom cX4_copyFrom 2 none) rm_X4_copyFrom D cI [.ref h_t, .ref h_p1] (w_X4_copyFrom h_t h_p1 r_t r_cache r_p1 r_p1_cache F_t F_p1 cI a_cache_media a_cache_stores a_cache_held a_cache_asked a_micros a_before a_after a_waiting a_tallies a_p1_cache_media a_p1_cache_stores a_p1_cache_held a_p1_cache_asked a_p1_micros a_p1_before a_p1_after a_p1_waiting a_p1_tallies) (w_X4_copyFrom h_t h_p1 r_t r_cache r_p1 r_p1_cache Rr.1 F_p1 cI Rr.2.1 Rr.2.2.1 Rr.2.2.2.1 Rr.2.2.2.2.1 Rr.2.2.2.2.2.1 Rr.2.2.2.2.2.2.1 Rr.2.2.2.2.2.2.2.1 Rr.2.2.2.2.2.2.2.2.1 Rr.2.2.2.2.2.2.2.2.2 a_p1_cache_media a_p1_cache_stores a_p1_cache_held a_p1_cache_asked a_p1_micros a_p1_before a_p1_after a_p1_waiting a_p1_tallies) := by
  refine z_begin_v (own := RX4) (ρ := (Nat → Int32) × (Nat → Int32) × (Nat → Int32) × (Nat → Int32) × (Nat → Int32) × (Nat → Int32) × (Nat → Int32) × (Nat → Int32) × (Nat → Int32) × (Nat → Int32)) (fun u => w_X4_copyFrom h_t h_p1 r_t r_cache r_p1 r_p1_cache u.1 F_p1 cI u.2.1 u.2.2.1 u.2.2.2.1 u.2.2.2.2.1 u.2.2.2.2.2.1 u.2.2.2.2.2.2.1 u.2.2.2.2.2.2.2.1 u.2.2.2.2.2.2.2.2.1 u.2.2.2.2.2.2.2.2.2 a_p1_cache_media a_p1_cache_stores a_p1_cache_held a_p1_cache_asked a_p1_micros a_p1_before a_p1_after a_p1_waiting a_p1_tallies) (by decide +kernel) rfl (Nat.le_of_ble_eq_true rfl) ?_
  intro p e s m args below meth c ls Q A hx hb hml hts hcx hown hK hX hA hP hD hS hl hret
  have hl : lv_has ls 2 [(0, .ref h_t), (1, .ref h_p1)] := hl
  have hf := (m_X4_copyFrom.eq_1 _ _ _ _ _ _ _ _ _ _ _ _ _ _ _ _ _ _ _ _).symm.trans hf
  refine lv_aload_n hx hb dX4_copyFrom_0 rfl (lv_at hl 0 rfl) ?_
  refine z_get (ci := 4) (C := RX4) (T := TX4) (N := 12) (v := .ref (r_t 0)) hx hb hts inT_X4 hown hK hP 0 rfl rfl 0 (by decide) tf_X4_12 rfl dX4_copyFrom_1 ?_
  refine lv_aload_n hx hb dX4_copyFrom_4 rfl (lv_at hl 1 rfl) ?_
  refine z_get (ci := 4) (C := RX4) (T := TX4) (N := 12) (v := .ref (r_p1 0)) hx hb hts inT_X4 hown hK hP 11 rfl rfl 0 (by decide) tf_X4_12 rfl dX4_copyFrom_5 ?_
  obtain ⟨u1, hu1, hf⟩ := bd_some hf
  refine z_cv (ws1 := w_X4_copyFrom h_t h_p1 r_t r_cache r_p1 r_p1_cache F_t F_p1 cI u1.1 u1.2.1 u1.2.2.1 u1.2.2.2 a_micros a_before a_after a_waiting a_tallies a_p1_cache_media a_p1_cache_stores a_p1_cache_held a_p1_cache_asked a_p1_micros a_p1_before a_p1_after a_p1_waiting a_p1_tallies) (wr := List.filterMap (fun i : Nat => (w_X4_copyFrom h_t h_p1 r_t r_cache r_p1 r_p1_cache F_t F_p1 cI a_cache_media a_cache_stores a_cache_held a_cache_asked a_micros a_before a_after a_waiting a_tallies a_p1_cache_media a_p1_cache_stores a_p1_cache_held a_p1_cache_asked a_p1_micros a_p1_before a_p1_after a_p1_waiting a_p1_tallies)[i]?) [0, 6, 7, 8, 9, 10, 11, 17, 18, 19, 20, 21]) (z_rV (rest := []) hx hb hml hown hcx hl.1 (c_X1_copyFrom l D cI (r_t 0) (r_p1 0) r_cache r_p1_cache a_cache_media a_cache_stores a_cache_held a_cache_asked a_p1_cache_media a_p1_cache_stores a_p1_cache_held a_p1_cache_asked u1 hu1 _) tl_X4_53 ti_X1_copyFrom tz_X1_copyFrom tn_X1 tc_X1_copyFrom tm_X1_copyFrom rfl rfl ⟨Nat.le_of_ble_eq_true rfl, Nat.le_of_ble_eq_true rfl⟩ hK hX hS hA hP hD [1, 2, 3, 4, 5, 12, 13, 14, 15, 16] rfl rfl 1 rfl rfl rfl rfl (Nat.le_of_ble_eq_true rfl) dX4_copyFrom_8 ⟨Nat.zero_le _, Nat.zero_le _⟩) hP hD hS hA [1, 2, 3, 4, 5, 12, 13, 14, 15, 16] [0, 6, 7, 8, 9, 10, 11, 17, 18, 19, 20, 21] [0, 12, 13, 14, 15, 16, 1, 2, 3, 4, 5, 6, 17, 18, 19, 20, 21, 7, 8, 9, 10, 11] rfl rfl rfl (by decide) rfl rfl (fun H locs hP hD hS => ?_)
  refine lv_aload_n hx hb dX4_copyFrom_11 rfl (lv_at hl 1 rfl) ?_
  refine z_get (ci := 4) (C := RX4) (T := TX4) (N := 12) (v := .ref (r_p1 1)) hx hb hts inT_X4 hown hK hP 11 rfl rfl 1 (by decide) tf_X4_18 rfl dX4_copyFrom_12 ?_
  refine lv_iconst (v := 0) hx hb dX4_copyFrom_15 (by decide) ?_
  refine lv_aload_n hx hb dX4_copyFrom_16 rfl (lv_at hl 0 rfl) ?_
  refine z_get (ci := 4) (C := RX4) (T := TX4) (N := 12) (v := .ref (r_t 1)) hx hb hts inT_X4 hown hK hP 0 rfl rfl 1 (by decide) tf_X4_18 rfl dX4_copyFrom_17 ?_
  refine lv_iconst (v := 0) hx hb dX4_copyFrom_20 (by decide) ?_
  refine lv_bipush (v := 80) hx hb dX4_copyFrom_21 (by decide) ?_
  refine z_copy (rest := []) hx hb (hml.trans hl.1.symm) hown hts tl_X4_57 tnat_copy ts_copy tn_J10 hK hP hD hS 17 6 rfl rfl (fun z => w_X4_copyFrom h_t h_p1 r_t r_cache r_p1 r_p1_cache F_t F_p1 cI u1.1 u1.2.1 u1.2.2.1 u1.2.2.2 z a_before a_after a_waiting a_tallies a_p1_cache_media a_p1_cache_stores a_p1_cache_held a_p1_cache_asked a_p1_micros a_p1_before a_p1_after a_p1_waiting a_p1_tallies) (fun _ => rfl) (Nat.le_of_ble_eq_true rfl) (by decide) dX4_copyFrom_23 hf (fun a2 H locs hf hP hD hS => ?_)
  refine lv_aload_n hx hb dX4_copyFrom_26 rfl (lv_at hl 0 rfl) ?_
  refine lv_aload_n hx hb dX4_copyFrom_27 rfl (lv_at hl 1 rfl) ?_
  refine z_get (ci := 4) (C := RX4) (T := TX4) (N := 12) (v := .int (F_p1 2)) hx hb hts inT_X4 hown hK hP 11 rfl rfl 2 (by decide) tf_X4_22 rfl dX4_copyFrom_28 ?_
  refine z_put (ci := 4) (C := RX4) (T := TX4) (N := 12) hx hb hts inT_X4 tyX4 tyX4_ok nmX4 hown hK hP hD hS 0 rfl rfl 2 (by decide) tf_X4_22 rfl (by decide +kernel) (Nat.le_of_ble_eq_true rfl) (o_X4 r_t) (o_X4_s2 _ _ _) (fun z => w_X4_copyFrom h_t h_p1 r_t r_cache r_p1 r_p1_cache z F_p1 cI u1.1 u1.2.1 u1.2.2.1 u1.2.2.2 a2 a_before a_after a_waiting a_tallies a_p1_cache_media a_p1_cache_stores a_p1_cache_held a_p1_cache_asked a_p1_micros a_p1_before a_p1_after a_p1_waiting a_p1_tallies) (fun _ => rfl) dX4_copyFrom_31 hf (fun F3 H locs hf hP hD hS => ?_)
  refine lv_aload_n hx hb dX4_copyFrom_34 rfl (lv_at hl 0 rfl) ?_
  refine lv_aload_n hx hb dX4_copyFrom_35 rfl (lv_at hl 1 rfl) ?_
  refine z_get (ci := 4) (C := RX4) (T := TX4) (N := 12) (v := .int (F_p1 3)) hx hb hts inT_X4 hown hK hP 11 rfl rfl 3 (by decide) tf_X4_26 rfl dX4_copyFrom_36 ?_
  refine z_put (ci := 4) (C := RX4) (T := TX4) (N := 12) hx hb hts inT_X4 tyX4 tyX4_ok nmX4 hown hK hP hD hS 0 rfl rfl 3 (by decide) tf_X4_26 rfl (by decide +kernel) (Nat.le_of_ble_eq_true rfl) (o_X4 r_t) (o_X4_s3 _ _ _) (fun z => w_X4_copyFrom h_t h_p1 r_t r_cache r_p1 r_p1_cache z F_p1 cI u1.1 u1.2.1 u1.2.2.1 u1.2.2.2 a2 a_before a_after a_waiting a_tallies a_p1_cache_media a_p1_cache_stores a_p1_cache_held a_p1_cache_asked a_p1_micros a_p1_before a_p1_after a_p1_waiting a_p1_tallies) (fun _ => rfl) dX4_copyFrom_39 hf (fun F4 H locs hf hP hD hS => ?_)
  refine lv_aload_n hx hb dX4_copyFrom_42 rfl (lv_at hl 1 rfl) ?_
  refine z_get (ci := 4) (C := RX4) (T := TX4) (N := 12) (v := .ref (r_p1 4)) hx hb hts inT_X4 hown hK hP 11 rfl rfl 4 (by decide) tf_X4_29 rfl dX4_copyFrom_43 ?_
  refine lv_iconst (v := 0) hx hb dX4_copyFrom_46 (by decide) ?_
  refine lv_aload_n hx hb dX4_copyFrom_47 rfl (lv_at hl 0 rfl) ?_
  refine z_get (ci := 4) (C := RX4) (T := TX4) (N := 12) (v := .ref (r_t 4)) hx hb hts inT_X4 hown hK hP 0 rfl rfl 4 (by decide) tf_X4_29 rfl dX4_copyFrom_48 ?_
  refine lv_iconst (v := 0) hx hb dX4_copyFrom_51 (by decide) ?_
  refine lv_bipush (v := 44) hx hb dX4_copyFrom_52 (by decide) ?_
  refine z_copy (rest := []) hx hb (hml.trans hl.1.symm) hown hts tl_X4_57 tnat_copy ts_copy tn_J10 hK hP hD hS 18 7 rfl rfl (fun z => w_X4_copyFrom h_t h_p1 r_t r_cache r_p1 r_p1_cache F4 F_p1 cI u1.1 u1.2.1 u1.2.2.1 u1.2.2.2 a2 z a_after a_waiting a_tallies a_p1_cache_media a_p1_cache_stores a_p1_cache_held a_p1_cache_asked a_p1_micros a_p1_before a_p1_after a_p1_waiting a_p1_tallies) (fun _ => rfl) (Nat.le_of_ble_eq_true rfl) (by decide) dX4_copyFrom_54 hf (fun a5 H locs hf hP hD hS => ?_)
  refine lv_aload_n hx hb dX4_copyFrom_57 rfl (lv_at hl 1 rfl) ?_
  refine z_get (ci := 4) (C := RX4) (T := TX4) (N := 12) (v := .ref (r_p1 5)) hx hb hts inT_X4 hown hK hP 11 rfl rfl 5 (by decide) tf_X4_32 rfl dX4_copyFrom_58 ?_
  refine lv_iconst (v := 0) hx hb dX4_copyFrom_61 (by decide) ?_
  refine lv_aload_n hx hb dX4_copyFrom_62 rfl (lv_at hl 0 rfl) ?_
  refine z_get (ci := 4) (C := RX4) (T := TX4) (N := 12) (v := .ref (r_t 5)) hx hb hts inT_X4 hown hK hP 0 rfl rfl 5 (by decide) tf_X4_32 rfl dX4_copyFrom_63 ?_
  refine lv_iconst (v := 0) hx hb dX4_copyFrom_66 (by decide) ?_
  refine lv_bipush (v := 44) hx hb dX4_copyFrom_67 (by decide) ?_
  refine z_copy (rest := []) hx hb (hml.trans hl.1.symm) hown hts tl_X4_57 tnat_copy ts_copy tn_J10 hK hP hD hS 19 8 rfl rfl (fun z => w_X4_copyFrom h_t h_p1 r_t r_cache r_p1 r_p1_cache F4 F_p1 cI u1.1 u1.2.1 u1.2.2.1 u1.2.2.2 a2 a5 z a_waiting a_tallies a_p1_cache_media a_p1_cache_stores a_p1_cache_held a_p1_cache_asked a_p1_micros a_p1_before a_p1_after a_p1_waiting a_p1_tallies) (fun _ => rfl) (Nat.le_of_ble_eq_true rfl) (by decide) dX4_copyFrom_69 hf (fun a6 H locs hf hP hD hS => ?_)
  refine lv_aload_n hx hb dX4_copyFrom_72 rfl (lv_at hl 1 rfl) ?_
  refine z_get (ci := 4) (C := RX4) (T := TX4) (N := 12) (v := .ref (r_p1 6)) hx hb hts inT_X4 hown hK hP 11 rfl rfl 6 (by decide) tf_X4_35 rfl dX4_copyFrom_73 ?_
  refine lv_iconst (v := 0) hx hb dX4_copyFrom_76 (by decide) ?_
  refine lv_aload_n hx hb dX4_copyFrom_77 rfl (lv_at hl 0 rfl) ?_
  refine z_get (ci := 4) (C := RX4) (T := TX4) (N := 12) (v := .ref (r_t 6)) hx hb hts inT_X4 hown hK hP 0 rfl rfl 6 (by decide) tf_X4_35 rfl dX4_copyFrom_78 ?_
  refine lv_iconst (v := 0) hx hb dX4_copyFrom_81 (by decide) ?_
  refine lv_aload_n hx hb dX4_copyFrom_82 rfl (lv_at hl 0 rfl) ?_
  refine z_get (ci := 4) (C := RX4) (T := TX4) (N := 12) (v := .ref (r_t 6)) hx hb hts inT_X4 hown hK hP 0 rfl rfl 6 (by decide) tf_X4_35 rfl dX4_copyFrom_83 ?_
  refine va_alen (v := 48) hx hb hK.1 hP 9 0 rfl rfl rfl dX4_copyFrom_86 ?_
  refine z_copy (rest := []) hx hb (hml.trans hl.1.symm) hown hts tl_X4_57 tnat_copy ts_copy tn_J10 hK hP hD hS 20 9 rfl rfl (fun z => w_X4_copyFrom h_t h_p1 r_t r_cache r_p1 r_p1_cache F4 F_p1 cI u1.1 u1.2.1 u1.2.2.1 u1.2.2.2 a2 a5 a6 z a_tallies a_p1_cache_media a_p1_cache_stores a_p1_cache_held a_p1_cache_asked a_p1_micros a_p1_before a_p1_after a_p1_waiting a_p1_tallies) (fun _ => rfl) (Nat.le_of_ble_eq_true rfl) (by decide) dX4_copyFrom_87 hf (fun a7 H locs hf hP hD hS => ?_)
  refine lv_aload_n hx hb dX4_copyFrom_90 rfl (lv_at hl 0 rfl) ?_
  refine lv_aload_n hx hb dX4_copyFrom_91 rfl (lv_at hl 1 rfl) ?_
  refine z_get (ci := 4) (C := RX4) (T := TX4) (N := 12) (v := .int (F_p1 7)) hx hb hts inT_X4 hown hK hP 11 rfl rfl 7 (by decide) tf_X4_38 rfl dX4_copyFrom_92 ?_
  refine z_put (ci := 4) (C := RX4) (T := TX4) (N := 12) hx hb hts inT_X4 tyX4 tyX4_ok nmX4 hown hK hP hD hS 0 rfl rfl 7 (by decide) tf_X4_38 rfl (by decide +kernel) (Nat.le_of_ble_eq_true rfl) (o_X4 r_t) (o_X4_s7 _ _ _) (fun z => w_X4_copyFrom h_t h_p1 r_t r_cache r_p1 r_p1_cache z F_p1 cI u1.1 u1.2.1 u1.2.2.1 u1.2.2.2 a2 a5 a6 a7 a_tallies a_p1_cache_media a_p1_cache_stores a_p1_cache_held a_p1_cache_asked a_p1_micros a_p1_before a_p1_after a_p1_waiting a_p1_tallies) (fun _ => rfl) dX4_copyFrom_95 hf (fun F8 H locs hf hP hD hS => ?_)
  refine lv_aload_n hx hb dX4_copyFrom_98 rfl (lv_at hl 0 rfl) ?_
  refine lv_aload_n hx hb dX4_copyFrom_99 rfl (lv_at hl 1 rfl) ?_
  refine z_get (ci := 4) (C := RX4) (T := TX4) (N := 12) (v := .int (F_p1 8)) hx hb hts inT_X4 hown hK hP 11 rfl rfl 8 (by decide) tf_X4_41 rfl dX4_copyFrom_100 ?_
  refine z_put (ci := 4) (C := RX4) (T := TX4) (N := 12) hx hb hts inT_X4 tyX4 tyX4_ok nmX4 hown hK hP hD hS 0 rfl rfl 8 (by decide) tf_X4_41 rfl (by decide +kernel) (Nat.le_of_ble_eq_true rfl) (o_X4 r_t) (o_X4_s8 _ _ _) (fun z => w_X4_copyFrom h_t h_p1 r_t r_cache r_p1 r_p1_cache z F_p1 cI u1.1 u1.2.1 u1.2.2.1 u1.2.2.2 a2 a5 a6 a7 a_tallies a_p1_cache_media a_p1_cache_stores a_p1_cache_held a_p1_cache_asked a_p1_micros a_p1_before a_p1_after a_p1_waiting a_p1_tallies) (fun _ => rfl) dX4_copyFrom_103 hf (fun F9 H locs hf hP hD hS => ?_)
  refine lv_aload_n hx hb dX4_copyFrom_106 rfl (lv_at hl 0 rfl) ?_
  refine lv_aload_n hx hb dX4_copyFrom_107 rfl (lv_at hl 1 rfl) ?_
  refine z_get (ci := 4) (C := RX4) (T := TX4) (N := 12) (v := .int (F_p1 9)) hx hb hts inT_X4 hown hK hP 11 rfl rfl 9 (by decide) tf_X4_44 rfl dX4_copyFrom_108 ?_
  refine z_put (ci := 4) (C := RX4) (T := TX4) (N := 12) hx hb hts inT_X4 tyX4 tyX4_ok nmX4 hown hK hP hD hS 0 rfl rfl 9 (by decide) tf_X4_44 rfl (by decide +kernel) (Nat.le_of_ble_eq_true rfl) (o_X4 r_t) (o_X4_s9 _ _ _) (fun z => w_X4_copyFrom h_t h_p1 r_t r_cache r_p1 r_p1_cache z F_p1 cI u1.1 u1.2.1 u1.2.2.1 u1.2.2.2 a2 a5 a6 a7 a_tallies a_p1_cache_media a_p1_cache_stores a_p1_cache_held a_p1_cache_asked a_p1_micros a_p1_before a_p1_after a_p1_waiting a_p1_tallies) (fun _ => rfl) dX4_copyFrom_111 hf (fun F10 H locs hf hP hD hS => ?_)
  refine lv_aload_n hx hb dX4_copyFrom_114 rfl (lv_at hl 0 rfl) ?_
  refine lv_aload_n hx hb dX4_copyFrom_115 rfl (lv_at hl 1 rfl) ?_
  refine z_get (ci := 4) (C := RX4) (T := TX4) (N := 12) (v := .int (F_p1 10)) hx hb hts inT_X4 hown hK hP 11 rfl rfl 10 (by decide) tf_X4_47 rfl dX4_copyFrom_116 ?_
  refine z_put (ci := 4) (C := RX4) (T := TX4) (N := 12) hx hb hts inT_X4 tyX4 tyX4_ok nmX4 hown hK hP hD hS 0 rfl rfl 10 (by decide) tf_X4_47 rfl (by decide +kernel) (Nat.le_of_ble_eq_true rfl) (o_X4 r_t) (o_X4_s10 _ _ _) (fun z => w_X4_copyFrom h_t h_p1 r_t r_cache r_p1 r_p1_cache z F_p1 cI u1.1 u1.2.1 u1.2.2.1 u1.2.2.2 a2 a5 a6 a7 a_tallies a_p1_cache_media a_p1_cache_stores a_p1_cache_held a_p1_cache_asked a_p1_micros a_p1_before a_p1_after a_p1_waiting a_p1_tallies) (fun _ => rfl) dX4_copyFrom_119 hf (fun F11 H locs hf hP hD hS => ?_)
  refine lv_aload_n hx hb dX4_copyFrom_122 rfl (lv_at hl 1 rfl) ?_
  refine z_get (ci := 4) (C := RX4) (T := TX4) (N := 12) (v := .ref (r_p1 11)) hx hb hts inT_X4 hown hK hP 11 rfl rfl 11 (by decide) tf_X4_50 rfl dX4_copyFrom_123 ?_
  refine lv_iconst (v := 0) hx hb dX4_copyFrom_126 (by decide) ?_
  refine lv_aload_n hx hb dX4_copyFrom_127 rfl (lv_at hl 0 rfl) ?_
  refine z_get (ci := 4) (C := RX4) (T := TX4) (N := 12) (v := .ref (r_t 11)) hx hb hts inT_X4 hown hK hP 0 rfl rfl 11 (by decide) tf_X4_50 rfl dX4_copyFrom_128 ?_
  refine lv_iconst (v := 0) hx hb dX4_copyFrom_131 (by decide) ?_
  refine lv_bipush (v := 8) hx hb dX4_copyFrom_132 (by decide) ?_
  refine z_copy (rest := []) hx hb (hml.trans hl.1.symm) hown hts tl_X4_57 tnat_copy ts_copy tn_J10 hK hP hD hS 21 10 rfl rfl (fun z => w_X4_copyFrom h_t h_p1 r_t r_cache r_p1 r_p1_cache F11 F_p1 cI u1.1 u1.2.1 u1.2.2.1 u1.2.2.2 a2 a5 a6 a7 z a_p1_cache_media a_p1_cache_stores a_p1_cache_held a_p1_cache_asked a_p1_micros a_p1_before a_p1_after a_p1_waiting a_p1_tallies) (fun _ => rfl) (Nat.le_of_ble_eq_true rfl) (by decide) dX4_copyFrom_134 hf (fun a12 H locs hf hP hD hS => ?_)
  exact hret (F11, u1.1, u1.2.1, u1.2.2.1, u1.2.2.2, a2, a5, a6, a7, a12) _ _ _ _ hf hP hD hS dX4_copyFrom_137
abbrev w_X0_renew (h_t : Nat) (h_p1 : Nat) (r_t : Nat → Nat) (r_machine : Nat → Nat) (r_machine_cache : Nat → Nat) (r_history : Nat → Nat) (r_p1 : Nat → Nat) (r_p1_cache : Nat → Nat) (F_t : Nat → Int32) (F_machine : Nat → Int32) (F_history : Nat → Int32) (F_p1 : Nat → Int32) (cI : ClassId) (a_machine_cache_media : Nat → Int32) (a_machine_cache_stores : Nat → Int32) (a_machine_cache_held : Nat → Int32) (a_machine_cache_asked : Nat → Int32) (a_machine_micros : Nat → Int32) (a_machine_before : Nat → Int32) (a_machine_after : Nat → Int32) (a_machine_waiting : Nat → Int32) (a_machine_tallies : Nat → Int32) (a_p1_cache_media : Nat → Int32) (a_p1_cache_stores : Nat → Int32) (a_p1_cache_held : Nat → Int32) (a_p1_cache_asked : Nat → Int32) (a_p1_micros : Nat → Int32) (a_p1_before : Nat → Int32) (a_p1_after : Nat → Int32) (a_p1_waiting : Nat → Int32) (a_p1_tallies : Nat → Int32) : va_W := [(h_t, .inr (0, o_X0 r_t F_t)), ((r_t 0), .inr (4, o_X4 r_machine F_machine)), ((r_machine 0), .inr (1, o_X1 r_machine_cache)), ((r_machine_cache 0), .inl (cI, 64, .inl a_machine_cache_media)), ((r_machine_cache 1), .inl (cI, 96, .inl a_machine_cache_stores)), ((r_machine_cache 2), .inl (cI, 16, .inl a_machine_cache_held)), ((r_machine_cache 3), .inl (cI, 16, .inl a_machine_cache_asked)), ((r_machine 1), .inl (cI, 80, .inl a_machine_micros)), ((r_machine 4), .inl (cI, 44, .inl a_machine_before)), ((r_machine 5), .inl (cI, 44, .inl a_machine_after)), ((r_machine 6), .inl (cI, 48, .inl a_machine_waiting)), ((r_machine 11), .inl (cI, 8, .inl a_machine_tallies)), ((r_t 1), .inr (3, o_X3 r_history F_history)), (h_p1, .inr (4, o_X4 r_p1 F_p1)), ((r_p1 0), .inr (1, o_X1 r_p1_cache)), ((r_p1_cache 0), .inl (cI, 64, .inl a_p1_cache_media)), ((r_p1_cache 1), .inl (cI, 96, .inl a_p1_cache_stores)), ((r_p1_cache 2), .inl (cI, 16, .inl a_p1_cache_held)), ((r_p1_cache 3), .inl (cI, 16, .inl a_p1_cache_asked)), ((r_p1 1), .inl (cI, 80, .inl a_p1_micros)), ((r_p1 4), .inl (cI, 44, .inl a_p1_before)), ((r_p1 5), .inl (cI, 44, .inl a_p1_after)), ((r_p1 6), .inl (cI, 48, .inl a_p1_waiting)), ((r_p1 11), .inl (cI, 8, .inl a_p1_tallies))]
abbrev rm_X0_renew : Room := { frames := 3, cells := 0, slots := 0, locals := 82 }
def m_X0_renew (F_t : Nat → Int32) (F_machine : Nat → Int32) (F_history : Nat → Int32) (F_p1 : Nat → Int32) (a_machine_cache_media : Nat → Int32) (a_machine_cache_stores : Nat → Int32) (a_machine_cache_held : Nat → Int32) (a_machine_cache_asked : Nat → Int32) (a_machine_micros : Nat → Int32) (a_machine_before : Nat → Int32) (a_machine_after : Nat → Int32) (a_machine_waiting : Nat → Int32) (a_machine_tallies : Nat → Int32) (a_p1_cache_media : Nat → Int32) (a_p1_cache_stores : Nat → Int32) (a_p1_cache_held : Nat → Int32) (a_p1_cache_asked : Nat → Int32) (a_p1_micros : Nat → Int32) (a_p1_before : Nat → Int32) (a_p1_after : Nat → Int32) (a_p1_waiting : Nat → Int32) (a_p1_tallies : Nat → Int32) : Option ((Nat → Int32) × (Nat → Int32) × (Nat → Int32) × (Nat → Int32) × (Nat → Int32) × (Nat → Int32) × (Nat → Int32) × (Nat → Int32) × (Nat → Int32) × (Nat → Int32) × (Nat → Int32) × (Nat → Int32)) :=
  bd (m_X4_copyFrom F_machine F_p1 a_machine_cache_media a_machine_cache_stores a_machine_cache_held a_machine_cache_asked a_machine_micros a_machine_before a_machine_after a_machine_waiting a_machine_tallies a_p1_cache_media a_p1_cache_stores a_p1_cache_held a_p1_cache_asked a_p1_micros a_p1_before a_p1_after a_p1_waiting a_p1_tallies) fun u1 =>
  nm (upd F_history 2 0) fun F2 =>
  nm (upd F_t 3 0) fun F3 =>
  some (F3, u1.1, F2, u1.2.1, u1.2.2.1, u1.2.2.2.1, u1.2.2.2.2.1, u1.2.2.2.2.2.1, u1.2.2.2.2.2.2.1, u1.2.2.2.2.2.2.2.1, u1.2.2.2.2.2.2.2.2.1, u1.2.2.2.2.2.2.2.2.2)
set_option maxHeartbeats 4000000 in
set_option maxRecDepth 100000 in
theorem c_X0_renew (l : Launch) (D : va_G) (cI : ClassId) (h_t : Nat) (h_p1 : Nat) (r_t : Nat → Nat) (r_machine : Nat → Nat) (r_machine_cache : Nat → Nat) (r_history : Nat → Nat) (r_p1 : Nat → Nat) (r_p1_cache : Nat → Nat) (F_t : Nat → Int32) (F_machine : Nat → Int32) (F_history : Nat → Int32) (F_p1 : Nat → Int32) (a_machine_cache_media : Nat → Int32) (a_machine_cache_stores : Nat → Int32) (a_machine_cache_held : Nat → Int32) (a_machine_cache_asked : Nat → Int32) (a_machine_micros : Nat → Int32) (a_machine_before : Nat → Int32) (a_machine_after : Nat → Int32) (a_machine_waiting : Nat → Int32) (a_machine_tallies : Nat → Int32) (a_p1_cache_media : Nat → Int32) (a_p1_cache_stores : Nat → Int32) (a_p1_cache_held : Nat → Int32) (a_p1_cache_asked : Nat → Int32) (a_p1_micros : Nat → Int32) (a_p1_before : Nat → Int32) (a_p1_after : Nat → Int32) (a_p1_waiting : Nat → Int32) (a_p1_tallies : Nat → Int32) (Rr : (Nat → Int32) × (Nat → Int32) × (Nat → Int32) × (Nat → Int32) × (Nat → Int32) × (Nat → Int32) × (Nat → Int32) × (Nat → Int32) × (Nat → Int32) × (Nat → Int32) × (Nat → Int32) × (Nat → Int32)) (hf : m_X0_renew F_t F_machine F_history F_p1 a_machine_cache_media a_machine_cache_stores a_machine_cache_held a_machine_cache_asked a_machine_micros a_machine_before a_machine_after a_machine_waiting a_machine_tallies a_p1_cache_media a_p1_cache_stores a_p1_cache_held a_p1_cache_asked a_p1_micros a_p1_before a_p1_after a_p1_waiting a_p1_tallies = some Rr) : CTv l yX0_renew (Cond.code yX0_renew cX0_renew 2 none) rm_X0_renew D cI [.ref h_t, .ref h_p1] (w_X0_renew h_t h_p1 r_t r_machine r_machine_cache r_history r_p1 r_p1_cache F_t F_machine F_history F_p1 cI a_machine_cache_media a_machine_cache_stores a_machine_cache_held a_machine_cache_asked a_machine_micros a_machine_before a_machine_after a_machine_waiting a_machine_tallies a_p1_cache_media a_p1_cache_stores a_p1_cache_held a_p1_cache_asked a_p1_micros a_p1_before a_p1_after a_p1_waiting a_p1_tallies) (w_X0_renew h_t h_p1 r_t r_machine r_machine_cache r_history r_p1 r_p1_cache Rr.1 Rr.2.1 Rr.2.2.1 F_p1 cI Rr.2.2.2.1 Rr.2.2.2.2.1 Rr.2.2.2.2.2.1 Rr.2.2.2.2.2.2.1 Rr.2.2.2.2.2.2.2.1 Rr.2.2.2.2.2.2.2.2.1 Rr.2.2.2.2.2.2.2.2.2.1 Rr.2.2.2.2.2.2.2.2.2.2.1 Rr.2.2.2.2.2.2.2.2.2.2.2 a_p1_cache_media a_p1_cache_stores a_p1_cache_held a_p1_cache_asked a_p1_micros a_p1_before a_p1_after a_p1_waiting a_p1_tallies) := by
  refine z_begin_v (own := RX0) (ρ := (Nat → Int32) × (Nat → Int32) × (Nat → Int32) × (Nat → Int32) × (Nat → Int32) × (Nat → Int32) × (Nat → Int32) × (Nat → Int32) × (Nat → Int32) × (Nat → Int32) × (Nat → Int32) × (Nat → Int32)) (fun u => w_X0_renew h_t h_p1 r_t r_machine r_machine_cache r_history r_p1 r_p1_cache u.1 u.2.1 u.2.2.1 F_p1 cI u.2.2.2.1 u.2.2.2.2.1 u.2.2.2.2.2.1 u.2.2.2.2.2.2.1 u.2.2.2.2.2.2.2.1 u.2.2.2.2.2.2.2.2.1 u.2.2.2.2.2.2.2.2.2.1 u.2.2.2.2.2.2.2.2.2.2.1 u.2.2.2.2.2.2.2.2.2.2.2 a_p1_cache_media a_p1_cache_stores a_p1_cache_held a_p1_cache_asked a_p1_micros a_p1_before a_p1_after a_p1_waiting a_p1_tallies) (by decide +kernel) rfl (Nat.le_of_ble_eq_true rfl) ?_
  intro p e s m args below meth c ls Q A hx hb hml hts hcx hown hK hX hA hP hD hS hl hret
  have hl : lv_has ls 2 [(0, .ref h_t), (1, .ref h_p1)] := hl
  have hf := (m_X0_renew.eq_1 _ _ _ _ _ _ _ _ _ _ _ _ _ _ _ _ _ _ _ _ _ _).symm.trans hf
  refine lv_aload_n hx hb dX0_renew_0 rfl (lv_at hl 0 rfl) ?_
  refine z_get (ci := 0) (C := RX0) (T := TX0) (N := 5) (v := .ref (r_t 0)) hx hb hts inT_X0 hown hK hP 0 rfl rfl 0 (by decide) tf_X0_12 rfl dX0_renew_1 ?_
  refine lv_aload_n hx hb dX0_renew_4 rfl (lv_at hl 1 rfl) ?_
  obtain ⟨u1, hu1, hf⟩ := bd_some hf
  refine z_cv (ws1 := w_X0_renew h_t h_p1 r_t r_machine r_machine_cache r_history r_p1 r_p1_cache F_t u1.1 F_history F_p1 cI u1.2.1 u1.2.2.1 u1.2.2.2.1 u1.2.2.2.2.1 u1.2.2.2.2.2.1 u1.2.2.2.2.2.2.1 u1.2.2.2.2.2.2.2.1 u1.2.2.2.2.2.2.2.2.1 u1.2.2.2.2.2.2.2.2.2 a_p1_cache_media a_p1_cache_stores a_p1_cache_held a_p1_cache_asked a_p1_micros a_p1_before a_p1_after a_p1_waiting a_p1_tallies) (wr := List.filterMap (fun i : Nat => (w_X0_renew h_t h_p1 r_t r_machine r_machine_cache r_history r_p1 r_p1_cache F_t F_machine F_history F_p1 cI a_machine_cache_media a_machine_cache_stores a_machine_cache_held a_machine_cache_asked a_machine_micros a_machine_before a_machine_after a_machine_waiting a_machine_tallies a_p1_cache_media a_p1_cache_stores a_p1_cache_held a_p1_cache_asked a_p1_micros a_p1_before a_p1_after a_p1_waiting a_p1_tallies)[i]?) [0, 12]) (z_rV (rest := []) hx hb hml hown hcx hl.1 (c_X4_copyFrom l D cI (r_t 0) h_p1 r_machine r_machine_cache r_p1 r_p1_cache F_machine F_p1 a_machine_cache_media a_machine_cache_stores a_machine_cache_held a_machine_cache_asked a_machine_micros a_machine_before a_machine_after a_machine_waiting a_machine_tallies a_p1_cache_media a_p1_cache_stores a_p1_cache_held a_p1_cache_asked a_p1_micros a_p1_before a_p1_after a_p1_waiting a_p1_tallies u1 hu1 _) tl_X0_36 ti_X4_copyFrom tz_X4_copyFrom tn_X4 tc_X4_copyFrom tm_X4_copyFrom rfl rfl ⟨Nat.le_of_ble_eq_true rfl, Nat.le_of_ble_eq_true rfl⟩ hK hX hS hA hP hD [1, 2, 3, 4, 5, 6, 7, 8, 9, 10, 11, 13, 14, 15, 16, 17, 18, 19, 20, 21, 22, 23] rfl rfl 1 rfl rfl rfl rfl (Nat.le_of_ble_eq_true rfl) dX0_renew_5 ⟨Nat.zero_le _, Nat.zero_le _⟩) hP hD hS hA [1, 2, 3, 4, 5, 6, 7, 8, 9, 10, 11, 13, 14, 15, 16, 17, 18, 19, 20, 21, 22, 23] [0, 12] [0, 2, 3, 4, 5, 6, 7, 8, 9, 10, 11, 12, 1, 13, 14, 15, 16, 17, 18, 19, 20, 21, 22, 23] rfl rfl rfl (by decide) rfl rfl (fun H locs hP hD hS => ?_)
  refine lv_aload_n hx hb dX0_renew_8 rfl (lv_at hl 0 rfl) ?_
  refine z_get (ci := 0) (C := RX0) (T := TX0) (N := 5) (v := .ref (r_t 1)) hx hb hts inT_X0 hown hK hP 0 rfl rfl 1 (by decide) tf_X0_21 rfl dX0_renew_9 ?_
  refine lv_iconst (v := 0) hx hb dX0_renew_12 (by decide) ?_
  refine z_put (ci := 3) (C := RX3) (T := TX3) (N := 3) hx hb hts inT_X3 tyX3 tyX3_ok nmX3 hown hK hP hD hS 12 rfl rfl 2 (by decide) tf_X0_49 rfl (by decide +kernel) (Nat.le_of_ble_eq_true rfl) (o_X3 r_history) (o_X3_s2 _ _ _) (fun z => w_X0_renew h_t h_p1 r_t r_machine r_machine_cache r_history r_p1 r_p1_cache F_t u1.1 z F_p1 cI u1.2.1 u1.2.2.1 u1.2.2.2.1 u1.2.2.2.2.1 u1.2.2.2.2.2.1 u1.2.2.2.2.2.2.1 u1.2.2.2.2.2.2.2.1 u1.2.2.2.2.2.2.2.2.1 u1.2.2.2.2.2.2.2.2.2 a_p1_cache_media a_p1_cache_stores a_p1_cache_held a_p1_cache_asked a_p1_micros a_p1_before a_p1_after a_p1_waiting a_p1_tallies) (fun _ => rfl) dX0_renew_13 hf (fun F2 H locs hf hP hD hS => ?_)
  refine lv_aload_n hx hb dX0_renew_16 rfl (lv_at hl 0 rfl) ?_
  refine lv_iconst (v := 0) hx hb dX0_renew_17 (by decide) ?_
  refine z_put (ci := 0) (C := RX0) (T := TX0) (N := 5) hx hb hts inT_X0 tyX0 tyX0_ok nmX0 hown hK hP hD hS 0 rfl rfl 3 (by decide) tf_X0_29 rfl (by decide +kernel) (Nat.le_of_ble_eq_true rfl) (o_X0 r_t) (o_X0_s3 _ _ _) (fun z => w_X0_renew h_t h_p1 r_t r_machine r_machine_cache r_history r_p1 r_p1_cache z u1.1 F2 F_p1 cI u1.2.1 u1.2.2.1 u1.2.2.2.1 u1.2.2.2.2.1 u1.2.2.2.2.2.1 u1.2.2.2.2.2.2.1 u1.2.2.2.2.2.2.2.1 u1.2.2.2.2.2.2.2.2.1 u1.2.2.2.2.2.2.2.2.2 a_p1_cache_media a_p1_cache_stores a_p1_cache_held a_p1_cache_asked a_p1_micros a_p1_before a_p1_after a_p1_waiting a_p1_tallies) (fun _ => rfl) dX0_renew_18 hf (fun F3 H locs hf hP hD hS => ?_)
  exact hret (F3, u1.1, F2, u1.2.1, u1.2.2.1, u1.2.2.2.1, u1.2.2.2.2.1, u1.2.2.2.2.2.1, u1.2.2.2.2.2.2.1, u1.2.2.2.2.2.2.2.1, u1.2.2.2.2.2.2.2.2.1, u1.2.2.2.2.2.2.2.2.2) _ _ _ _ hf hP hD hS dX0_renew_21
