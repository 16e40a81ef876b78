abbrev w_X8_firstLeft (h_t : Nat) (h_p1 : Nat) (r_t : Nat → Nat) (r_p1 : Nat → Nat) (cI : ClassId) (a_possible : Nat → Int32) (a_p1_held : Nat → Int32) : va_W := [(h_t, .inr (8, o_X8 r_t)), ((r_t 0), .inl (cI, 16, .inl a_possible)), (h_p1, .inr (1, o_X1 r_p1)), ((r_p1 2), .inl (cI, 16, .inl a_p1_held))]
abbrev rm_X8_firstLeft : Room := { frames := 1, cells := 0, slots := 0, locals := 21 }
def m_X8_firstLeft_w4 (a_possible : Nat → Int32) (a_p1_held : Nat → Int32) : Nat → Int32 → Int32 → Option (Int32)
  | 0, _, _ => none
  | n4 + 1, x2, x3 =>
    if 16 ≤ x3 then (
    some x2)
    else (
    rd a_p1_held 16 x3 fun y1 =>
    rd a_possible 16 x3 fun y2 =>
    bd (m_J6_numberOfTrailingZeros_0f7a4 y2) fun u3 =>
    nm ((x2 * (y1 + 1)) + u3) fun v4 =>
    nm (x3 + 1) fun v5 =>
    m_X8_firstLeft_w4 a_possible a_p1_held n4 v4 v5)
def m_X8_firstLeft (a_possible : Nat → Int32) (a_p1_held : Nat → Int32) : Option (Int32) :=
  m_X8_firstLeft_w4 a_possible a_p1_held fuelN 0 0
set_option maxHeartbeats 4000000 in
set_option maxRecDepth 100000 in
theorem c_X8_firstLeft (l : Launch) (D : va_G) (cI : ClassId) (h_t : Nat) (h_p1 : Nat) (r_t : Nat → Nat) (r_p1 : Nat → Nat) (a_possible : Nat → Int32) (a_p1_held : Nat → Int32) (Rr : Int32) (hf : m_X8_firstLeft a_possible a_p1_held = some Rr) : CTi l yX8_firstLeft (Cond.code yX8_firstLeft cX8_firstLeft 4 (some .int)) rm_X8_firstLeft D cI [.ref h_t, .ref h_p1] (w_X8_firstLeft h_t h_p1 r_t r_p1 cI a_possible a_p1_held) Rr (w_X8_firstLeft h_t h_p1 r_t r_p1 cI a_possible a_p1_held) := by
  refine z_begin_i (own := RX8) (ρ := Int32) (fun u => w_X8_firstLeft h_t h_p1 r_t r_p1 cI a_possible a_p1_held) (fun u => u) (by decide +kernel) rfl (Nat.le_of_ble_eq_true rfl) ?_
  intro p e s m args below meth c ls Q A hx hb hml hts hcx hown hK hX hA hP hD hS hl hret
  have hl : lv_has ls 4 [(0, .ref h_t), (1, .ref h_p1)] := hl
  have hf := (m_X8_firstLeft.eq_1 _ _).symm.trans hf
  have L4 : ∀ (n4 : Nat) (x2 : Int32) (x3 : Int32) (H : Heap) (locs : List Loc) (ls : Array Slot), m_X8_firstLeft_w4 a_possible a_p1_held n4 x2 x3 = some Rr → va_P D vwCl (w_X8_firstLeft h_t h_p1 r_t r_p1 cI a_possible a_p1_held) H → va_D A (w_X8_firstLeft h_t h_p1 r_t r_p1 cI a_possible a_p1_held) → va_S A s.heap H locs → lv_has ls 4 [(0, .ref h_t), (1, .ref h_p1), (2, .int x2), (3, .int x3)] → W p l e rm_X8_firstLeft s m args below meth c H locs 0 0 Q (F0 m 4 ls []) := by
    intro n4
    induction n4 with
    | zero => intro x2 x3 H locs ls hf; cases (show (none : Option _) = some Rr from hf)
    | succ n4 ih4 =>
      intro x2 x3 H locs ls hf hP hD hS hl
      have hf := (m_X8_firstLeft_w4.eq_2 _ _ _ _ _).symm.trans hf
      refine lv_iload_n hx hb dX8_firstLeft_4 rfl (lv_at hl 3 rfl) ?_
      refine lv_bipush (v := 16) hx hb dX8_firstLeft_5 (by decide) ?_
      refine z_icmp_ge (tgt := 37) hx hb dX8_firstLeft_7 (by decide) hf (fun hf => ?_) (fun hf => ?_)
      · refine lv_iload_n hx hb dX8_firstLeft_37 rfl (lv_at hl 2 rfl) ?_
        exact hret x2 _ _ _ _ hf hP hD hS dX8_firstLeft_38
      · refine lv_iload_n hx hb dX8_firstLeft_10 rfl (lv_at hl 2 rfl) ?_
        refine lv_aload_n hx hb dX8_firstLeft_11 rfl (lv_at hl 1 rfl) ?_
        refine z_get (ci := 1) (C := RX1) (T := TX1) (N := 4) (v := .ref (r_p1 2)) hx hb hts inT_X1 hown hK hP 2 rfl rfl 2 (by decide) tf_X8_29 rfl dX8_firstLeft_12 ?_
        refine lv_iload_n hx hb dX8_firstLeft_15 rfl (lv_at hl 3 rfl) ?_
        refine z_iald hx hb hK hP 3 rfl dX8_firstLeft_16 hf (fun y1 hf => ?_)
        refine lv_iconst (v := 1) hx hb dX8_firstLeft_17 (by decide) ?_
        refine lv_iadd hx hb dX8_firstLeft_18 ?_
        refine lv_imul hx hb dX8_firstLeft_19 ?_
        refine lv_aload_n hx hb dX8_firstLeft_20 rfl (lv_at hl 0 rfl) ?_
        refine z_get (ci := 8) (C := RX8) (T := TX8) (N := 2) (v := .ref (r_t 0)) hx hb hts inT_X8 hown hK hP 0 rfl rfl 0 (by decide) tf_X8_9 rfl dX8_firstLeft_21 ?_
        refine lv_iload_n hx hb dX8_firstLeft_24 rfl (lv_at hl 3 rfl) ?_
        refine z_iald hx hb hK hP 1 rfl dX8_firstLeft_25 hf (fun y2 hf => ?_)
        obtain ⟨u3, hu3, hf⟩ := bd_some hf
        refine z_ci (ws1 := w_X8_firstLeft h_t h_p1 r_t r_p1 cI a_possible a_p1_held) (wr := List.filterMap (fun i : Nat => (w_X8_firstLeft h_t h_p1 r_t r_p1 cI a_possible a_p1_held)[i]?) [0, 1, 2, 3]) (z_rS (rest := [.int (x2 * (y1 + 1))]) hx hb hml hown hcx hl.1 (c_J6_numberOfTrailingZeros_0f7a4 l D cI y2 u3 hu3 _) tl_X8_45 ts_J6_numberOfTrailingZeros_0f7a4 tn_J6 tc_J6_numberOfTrailingZeros_0f7a4 tm_J6_numberOfTrailingZeros_0f7a4 rfl rfl ⟨Nat.le_of_ble_eq_true rfl, Nat.le_of_ble_eq_true rfl⟩ hK hX hS hA hP hD [] rfl rfl rfl rfl (Nat.le_of_ble_eq_true rfl) dX8_firstLeft_26 ⟨Nat.zero_le _, Nat.zero_le _⟩) hP hD hS hA [] [0, 1, 2, 3] [0, 1, 2, 3] rfl rfl rfl (by decide) rfl rfl (fun H locs hP hD hS => ?_)
        refine lv_iadd hx hb dX8_firstLeft_29 ?_
        refine z_istore_n (fun z => [(2, .int z), (0, .ref h_t), (1, .ref h_p1), (3, .int x3)]) hx hb dX8_firstLeft_30 rfl hl (by decide) (fun _ => rfl) hf (fun v4 ls hf hl => ?_)
        refine z_iinc (k0 := 3) (fun z => [(3, .int z), (2, .int v4), (0, .ref h_t), (1, .ref h_p1)]) hx hb dX8_firstLeft_31 hl rfl (by decide) (by decide) (fun _ => rfl) hf (fun v5 ls hf hl => ?_)
        refine lv_goto (tgt := 4) hx hb dX8_firstLeft_34 (by decide) ?_
        exact ih4 v4 v5 _ _ _ hf hP hD hS (lv_sub hl [2, 3, 1, 0] rfl)
  refine lv_iconst (v := 0) hx hb dX8_firstLeft_0 (by decide) ?_
  refine lv_istore_n (lv' := [(2, .int 0), (0, .ref h_t), (1, .ref h_p1)]) hx hb dX8_firstLeft_1 rfl hl (by decide) rfl (fun ls hl => ?_)
  refine lv_iconst (v := 0) hx hb dX8_firstLeft_2 (by decide) ?_
  refine lv_istore_n (lv' := [(3, .int 0), (2, .int 0), (0, .ref h_t), (1, .ref h_p1)]) hx hb dX8_firstLeft_3 rfl hl (by decide) rfl (fun ls hl => ?_)
  exact L4 fuelN 0 0 _ _ _ hf hP hD hS (lv_sub hl [2, 3, 1, 0] rfl)
abbrev w_J13_bitCount_95d88 (cI : ClassId) : va_W := []
abbrev rm_J13_bitCount_95d88 : Room := { frames := 0, cells := 0, slots := 0, locals := 0 }
def m_J13_bitCount_95d88 (p0 : Int64) : Option (Int32) :=
  nm (p0 - ((p0.toUInt64 >>> ((1 : Int32).toInt64.toUInt64 &&& Int64.toUInt64 63)).toInt64 &&& 6148914691236517205)) fun v1 =>
  nm ((v1 &&& 3689348814741910323) + ((v1.toUInt64 >>> ((2 : Int32).toInt64.toUInt64 &&& Int64.toUInt64 63)).toInt64 &&& 3689348814741910323)) fun v2 =>
  nm ((v2 + (v2.toUInt64 >>> ((4 : Int32).toInt64.toUInt64 &&& Int64.toUInt64 63)).toInt64) &&& 1085102592571150095) fun v3 =>
  nm (v3 + (v3.toUInt64 >>> ((8 : Int32).toInt64.toUInt64 &&& Int64.toUInt64 63)).toInt64) fun v4 =>
  nm (v4 + (v4.toUInt64 >>> ((16 : Int32).toInt64.toUInt64 &&& Int64.toUInt64 63)).toInt64) fun v5 =>
  nm (v5 + (v5.toUInt64 >>> ((32 : Int32).toInt64.toUInt64 &&& Int64.toUInt64 63)).toInt64) fun v6 =>
  some (v6.toInt32 &&& 127)
set_option maxHeartbeats 4000000 in
set_option maxRecDepth 100000 in
theorem c_J13_bitCount_95d88 (l : Launch) (D : va_G) (cI : ClassId) (p0 : Int64) (Rr : Int32) (hf : m_J13_bitCount_95d88 p0 = some Rr) : CTi l yJ13_bitCount_95d88 (Cond.code yJ13_bitCount_95d88 cJ13_bitCount_95d88 2 (some .int)) rm_J13_bitCount_95d88 D cI [.long p0] (w_J13_bitCount_95d88 cI) Rr (w_J13_bitCount_95d88 cI) := by
  refine z_begin_i (own := RJ13) (ρ := Int32) (fun u => w_J13_bitCount_95d88 cI) (fun u => u) (by decide +kernel) rfl (Nat.le_of_ble_eq_true rfl) ?_
  intro p e s m args below meth c ls Q A hx hb hml hts hcx hown hK hX hA hP hD hS hl hret
  have hl : lv_has ls 2 [(0, .long p0)] := hl
  have hf := (m_J13_bitCount_95d88.eq_1 _).symm.trans hf
  refine lv_lload_n hx hb dJ13_bitCount_95d88_0 rfl (lv_at hl 0 rfl) ?_
  refine lv_lload_n hx hb dJ13_bitCount_95d88_1 rfl (lv_at hl 0 rfl) ?_
  refine lv_iconst (v := 1) hx hb dJ13_bitCount_95d88_2 (by decide) ?_
  refine lv_lushr hx hb dJ13_bitCount_95d88_3 rfl ?_
  refine lv_ldc2 hx hb hown (hts _ tk_J13_314) dJ13_bitCount_95d88_4 ?_
  refine lv_land hx hb dJ13_bitCount_95d88_7 ?_
  refine lv_lsub hx hb dJ13_bitCount_95d88_8 ?_
  refine z_lstore_n (fun z => [(0, .long z)]) hx hb dJ13_bitCount_95d88_9 rfl hl (by decide) (fun _ => rfl) hf (fun v1 ls hf hl => ?_)
  refine lv_lload_n hx hb dJ13_bitCount_95d88_10 rfl (lv_at hl 0 rfl) ?_
  refine lv_ldc2 hx hb hown (hts _ tk_J13_316) dJ13_bitCount_95d88_11 ?_
  refine lv_land hx hb dJ13_bitCount_95d88_14 ?_
  refine lv_lload_n hx hb dJ13_bitCount_95d88_15 rfl (lv_at hl 0 rfl) ?_
  refine lv_iconst (v := 2) hx hb dJ13_bitCount_95d88_16 (by decide) ?_
  refine lv_lushr hx hb dJ13_bitCount_95d88_17 rfl ?_
  refine lv_ldc2 hx hb hown (hts _ tk_J13_316) dJ13_bitCount_95d88_18 ?_
  refine lv_land hx hb dJ13_bitCount_95d88_21 ?_
  refine lv_ladd hx hb dJ13_bitCount_95d88_22 ?_
  refine z_lstore_n (fun z => [(0, .long z)]) hx hb dJ13_bitCount_95d88_23 rfl hl (by decide) (fun _ => rfl) hf (fun v2 ls hf hl => ?_)
  refine lv_lload_n hx hb dJ13_bitCount_95d88_24 rfl (lv_at hl 0 rfl) ?_
  refine lv_lload_n hx hb dJ13_bitCount_95d88_25 rfl (lv_at hl 0 rfl) ?_
  refine lv_iconst (v := 4) hx hb dJ13_bitCount_95d88_26 (by decide) ?_
  refine lv_lushr hx hb dJ13_bitCount_95d88_27 rfl ?_
  refine lv_ladd hx hb dJ13_bitCount_95d88_28 ?_
  refine lv_ldc2 hx hb hown (hts _ tk_J13_318) dJ13_bitCount_95d88_29 ?_
  refine lv_land hx hb dJ13_bitCount_95d88_32 ?_
  refine z_lstore_n (fun z => [(0, .long z)]) hx hb dJ13_bitCount_95d88_33 rfl hl (by decide) (fun _ => rfl) hf (fun v3 ls hf hl => ?_)
  refine lv_lload_n hx hb dJ13_bitCount_95d88_34 rfl (lv_at hl 0 rfl) ?_
  refine lv_lload_n hx hb dJ13_bitCount_95d88_35 rfl (lv_at hl 0 rfl) ?_
  refine lv_bipush (v := 8) hx hb dJ13_bitCount_95d88_36 (by decide) ?_
  refine lv_lushr hx hb dJ13_bitCount_95d88_38 rfl ?_
  refine lv_ladd hx hb dJ13_bitCount_95d88_39 ?_
  refine z_lstore_n (fun z => [(0, .long z)]) hx hb dJ13_bitCount_95d88_40 rfl hl (by decide) (fun _ => rfl) hf (fun v4 ls hf hl => ?_)
  refine lv_lload_n hx hb dJ13_bitCount_95d88_41 rfl (lv_at hl 0 rfl) ?_
  refine lv_lload_n hx hb dJ13_bitCount_95d88_42 rfl (lv_at hl 0 rfl) ?_
  refine lv_bipush (v := 16) hx hb dJ13_bitCount_95d88_43 (by decide) ?_
  refine lv_lushr hx hb dJ13_bitCount_95d88_45 rfl ?_
  refine lv_ladd hx hb dJ13_bitCount_95d88_46 ?_
  refine z_lstore_n (fun z => [(0, .long z)]) hx hb dJ13_bitCount_95d88_47 rfl hl (by decide) (fun _ => rfl) hf (fun v5 ls hf hl => ?_)
  refine lv_lload_n hx hb dJ13_bitCount_95d88_48 rfl (lv_at hl 0 rfl) ?_
  refine lv_lload_n hx hb dJ13_bitCount_95d88_49 rfl (lv_at hl 0 rfl) ?_
  refine lv_bipush (v := 32) hx hb dJ13_bitCount_95d88_50 (by decide) ?_
  refine lv_lushr hx hb dJ13_bitCount_95d88_52 rfl ?_
  refine lv_ladd hx hb dJ13_bitCount_95d88_53 ?_
  refine z_lstore_n (fun z => [(0, .long z)]) hx hb dJ13_bitCount_95d88_54 rfl hl (by decide) (fun _ => rfl) hf (fun v6 ls hf hl => ?_)
  refine lv_lload_n hx hb dJ13_bitCount_95d88_55 rfl (lv_at hl 0 rfl) ?_
  refine lv_l2i hx hb dJ13_bitCount_95d88_56 rfl ?_
  refine lv_bipush (v := 127) hx hb dJ13_bitCount_95d88_57 (by decide) ?_
  refine lv_iand hx hb dJ13_bitCount_95d88_59 ?_
  exact hret (v6.toInt32 &&& 127) _ _ _ _ hf hP hD hS dJ13_bitCount_95d88_60
abbrev w_X8_unlikeNumbers (h_t : Nat) (h_p1 : Nat) (r_t : Nat → Nat) (r_p1 : Nat → Nat) (cI : ClassId) (a_possible : Nat → Int32) (a_p1_media : Nat → Int32) (a_p1_stores : Nat → Int32) (a_p1_held : Nat → Int32) : va_W := [(h_t, .inr (8, o_X8 r_t)), ((r_t 0), .inl (cI, 16, .inl a_possible)), (h_p1, .inr (1, o_X1 r_p1)), ((r_p1 0), .inl (cI, 64, .inl a_p1_media)), ((r_p1 1), .inl (cI, 96, .inl a_p1_stores)), ((r_p1 2), .inl (cI, 16, .inl a_p1_held))]
abbrev rm_X8_unlikeNumbers : Room := { frames := 1, cells := 0, slots := 0, locals := 21 }
def m_X8_unlikeNumbers_j141 (a_possible : Nat → Int32) (a_p1_media : Nat → Int32) (a_p1_stores : Nat → Int32) (a_p1_held : Nat → Int32) (p2 : Int32) (x5 : Int64) (x7 : Int64) : Option (Int32) :=
  bd (m_J13_bitCount_95d88 x5) fun u4 =>
  bd (m_J13_bitCount_95d88 x7) fun u5 =>
  some (u4 + u5)
def m_X8_unlikeNumbers_j135 (a_possible : Nat → Int32) (a_p1_media : Nat → Int32) (a_p1_stores : Nat → Int32) (a_p1_held : Nat → Int32) (p2 : Int32) (k21 : Int32 → Int32 → Int64 → Int64 → Int32 → Option (Int32)) (x3 : Int32) (x4 : Int32) (x5 : Int64) (x7 : Int64) (x9 : Int32) : Option (Int32) :=
  nm (x9 + 1) fun v7 =>
  k21 x3 x4 x5 x7 v7
def m_X8_unlikeNumbers_j132 (a_possible : Nat → Int32) (a_p1_media : Nat → Int32) (a_p1_stores : Nat → Int32) (a_p1_held : Nat → Int32) (p2 : Int32) (k21 : Int32 → Int32 → Int64 → Int64 → Int32 → Option (Int32)) (x3 : Int32) (x4 : Int32) (x5 : Int64) (x9 : Int32) (s0 : Int64) (s1 : Int64) : Option (Int32) :=
  nm (s0 ||| s1) fun v9 =>
  m_X8_unlikeNumbers_j135 a_possible a_p1_media a_p1_stores a_p1_held p2 k21 x3 x4 x5 v9 x9
def m_X8_unlikeNumbers_j109 (a_possible : Nat → Int32) (a_p1_media : Nat → Int32) (a_p1_stores : Nat → Int32) (a_p1_held : Nat → Int32) (p2 : Int32) (k21 : Int32 → Int32 → Int64 → Int64 → Int32 → Option (Int32)) (x3 : Int32) (x4 : Int32) (x7 : Int64) (x9 : Int32) (s0 : Int64) (s1 : Int64) : Option (Int32) :=
  nm (s0 ||| s1) fun v8 =>
  if 64 ≤ x4 then (
  m_X8_unlikeNumbers_j132 a_possible a_p1_media a_p1_stores a_p1_held p2 k21 x3 x4 v8 x9 x7 ((1 : Int64) <<< ((x4 - 64).toInt64 &&& 63)))
  else (
  m_X8_unlikeNumbers_j132 a_possible a_p1_media a_p1_stores a_p1_held p2 k21 x3 x4 v8 x9 x7 0)
def m_X8_unlikeNumbers_j78 (a_possible : Nat → Int32) (a_p1_media : Nat → Int32) (a_p1_stores : Nat → Int32) (a_p1_held : Nat → Int32) (p2 : Int32) (k21 : Int32 → Int32 → Int64 → Int64 → Int32 → Option (Int32)) (x3 : Int32) (x4 : Int32) (x5 : Int64) (x7 : Int64) (x9 : Int32) : Option (Int32) :=
  rd a_possible 16 x3 fun y6 =>
  if ((y6 >>> (x9 &&& 31)) &&& 1) = 0 then (
  m_X8_unlikeNumbers_j135 a_possible a_p1_media a_p1_stores a_p1_held p2 k21 x3 x4 x5 x7 x9)
  else (
  if 64 ≤ x4 then (
  m_X8_unlikeNumbers_j109 a_possible a_p1_media a_p1_stores a_p1_held p2 k21 x3 x4 x7 x9 x5 0)
  else (
  m_X8_unlikeNumbers_j109 a_possible a_p1_media a_p1_stores a_p1_held p2 k21 x3 x4 x7 x9 x5 ((1 : Int64) <<< (x4.toInt64 &&& 63))))
def m_X8_unlikeNumbers_j55 (a_possible : Nat → Int32) (a_p1_media : Nat → Int32) (a_p1_stores : Nat → Int32) (a_p1_held : Nat → Int32) (p2 : Int32) (k21 : Int32 → Int32 → Int64 → Int64 → Int32 → Option (Int32)) (x3 : Int32) (x4 : Int32) (x5 : Int64) (x7 : Int64) (x9 : Int32) (s0 : Int32) : Option (Int32) :=
  if x9 ≤ 0 then (
  m_X8_unlikeNumbers_j78 a_possible a_p1_media a_p1_stores a_p1_held p2 k21 x3 x4 x5 x7 x9)
  else (
  if (s0 / 100) = p2 then (
  nm (s0 - s0 / 100 * 100) fun v10 =>
  m_X8_unlikeNumbers_j78 a_possible a_p1_media a_p1_stores a_p1_held p2 k21 x3 v10 x5 x7 x9)
  else (
  m_X8_unlikeNumbers_j78 a_possible a_p1_media a_p1_stores a_p1_held p2 k21 x3 x4 x5 x7 x9))
def m_X8_unlikeNumbers_w21 (a_possible : Nat → Int32) (a_p1_media : Nat → Int32) (a_p1_stores : Nat → Int32) (a_p1_held : Nat → Int32) (p2 : Int32) (k141 : Int64 → Int64 → Option (Int32)) : Nat → Int32 → Int32 → Int64 → Int64 → Int32 → Option (Int32)
  | 0, _, _, _, _, _ => none
  | n21 + 1, x3, x4, x5, x7, x9 =>
    rd a_p1_held 16 x3 fun y3 =>
    if y3 < x9 then (
    k141 x5 x7)
    else (
    if x9 ≤ 0 then (
    m_X8_unlikeNumbers_j55 a_possible a_p1_media a_p1_stores a_p1_held p2 (m_X8_unlikeNumbers_w21 a_possible a_p1_media a_p1_stores a_p1_held p2 k141 n21) x3 x4 x5 x7 x9 (-1))
    else (
    rd a_p1_stores 96 (((x3 * 6) + x9) - 1) fun y11 =>
    m_X8_unlikeNumbers_j55 a_possible a_p1_media a_p1_stores a_p1_held p2 (m_X8_unlikeNumbers_w21 a_possible a_p1_media a_p1_stores a_p1_held p2 k141 n21) x3 x4 x5 x7 x9 y11))
def m_X8_unlikeNumbers (a_possible : Nat → Int32) (a_p1_media : Nat → Int32) (a_p1_stores : Nat → Int32) (a_p1_held : Nat → Int32) (p2 : Int32) : Option (Int32) :=
  nm (p2 / 4) fun v1 =>
  rd a_p1_media 64 p2 fun y2 =>
  m_X8_unlikeNumbers_w21 a_possible a_p1_media a_p1_stores a_p1_held p2 (m_X8_unlikeNumbers_j141 a_possible a_p1_media a_p1_stores a_p1_held p2) fuelN v1 y2 0 0 0
set_option maxHeartbeats 4000000 in
set_option maxRecDepth 100000 in
theorem c_X8_unlikeNumbers (l : Launch) (D : va_G) (cI : ClassId) (h_t : Nat) (h_p1 : Nat) (r_t : Nat → Nat) (r_p1 : Nat → Nat) (a_possible : Nat → Int32) (a_p1_media : Nat → Int32) (a_p1_stores : Nat → Int32) (a_p1_held : Nat → Int32) (p2 : Int32) (Rr : Int32) (hf : m_X8_unlikeNumbers a_possible a_p1_media a_p1_stores a_p1_held p2 = some Rr) : CTi l yX8_unlikeNumbers (Cond.code yX8_unlikeNumbers cX8_unlikeNumbers 11 (some .int)) rm_X8_unlikeNumbers D cI [.ref h_t, .ref h_p1, .int p2] (w_X8_unlikeNumbers h_t h_p1 r_t r_p1 cI a_possible a_p1_media a_p1_stores a_p1_held) Rr (w_X8_unlikeNumbers h_t h_p1 r_t r_p1 cI a_possible a_p1_media a_p1_stores a_p1_held) := by
  refine z_begin_i (own := RX8) (ρ := Int32) (fun u => w_X8_unlikeNumbers h_t h_p1 r_t r_p1 cI a_possible a_p1_media a_p1_stores a_p1_held) (fun u => u) (by decide +kernel) rfl (Nat.le_of_ble_eq_true rfl) ?_
  intro p e s m args below meth c ls Q A hx hb hml hts hcx hown hK hX hA hP hD hS hl hret
  have hl : lv_has ls 11 [(0, .ref h_t), (1, .ref h_p1), (2, .int p2)] := hl
  have hf := (m_X8_unlikeNumbers.eq_1 _ _ _ _ _).symm.trans hf
  have L141 : ∀ (x5 : Int64) (x7 : Int64) (H : Heap) (locs : List Loc) (ls : Array Slot), m_X8_unlikeNumbers_j141 a_possible a_p1_media a_p1_stores a_p1_held p2 x5 x7 = some Rr → va_P D vwCl (w_X8_unlikeNumbers h_t h_p1 r_t r_p1 cI a_possible a_p1_media a_p1_stores a_p1_held) H → va_D A (w_X8_unlikeNumbers h_t h_p1 r_t r_p1 cI a_possible a_p1_media a_p1_stores a_p1_held) → va_S A s.heap H locs → lv_has ls 11 [(5, .long x5), (7, .long x7)] → W p l e rm_X8_unlikeNumbers s m args below meth c H locs 0 0 Q (F0 m 141 ls []) := by
    intro x5 x7 H locs ls hf hP hD hS hl
    have hf := (m_X8_unlikeNumbers_j141.eq_1 _ _ _ _ _ _ _).symm.trans hf
    refine lv_lload hx hb dX8_unlikeNumbers_141 (lv_at hl 0 rfl) ?_
    obtain ⟨u4, hu4, hf⟩ := bd_some hf
    refine z_ci (ws1 := w_X8_unlikeNumbers h_t h_p1 r_t r_p1 cI a_possible a_p1_media a_p1_stores a_p1_held) (wr := List.filterMap (fun i : Nat => (w_X8_unlikeNumbers h_t h_p1 r_t r_p1 cI a_possible a_p1_media a_p1_stores a_p1_held)[i]?) [0, 1, 2, 3, 4, 5]) (z_rS (rest := []) hx hb hml hown hcx hl.1 (c_J13_bitCount_95d88 l D cI x5 u4 hu4 _) tl_X8_48 ts_J13_bitCount_95d88 tn_J13 tc_J13_bitCount_95d88 tm_J13_bitCount_95d88 rfl rfl ⟨Nat.le_of_ble_eq_true rfl, Nat.le_of_ble_eq_true rfl⟩ hK hX hS hA hP hD [] rfl rfl rfl rfl (Nat.le_of_ble_eq_true rfl) dX8_unlikeNumbers_143 ⟨Nat.zero_le _, Nat.zero_le _⟩) hP hD hS hA [] [0, 1, 2, 3, 4, 5] [0, 1, 2, 3, 4, 5] rfl rfl rfl (by decide) rfl rfl (fun H locs hP hD hS => ?_)
    refine lv_lload hx hb dX8_unlikeNumbers_146 (lv_at hl 1 rfl) ?_
    obtain ⟨u5, hu5, hf⟩ := bd_some hf
    refine z_ci (ws1 := w_X8_unlikeNumbers h_t h_p1 r_t r_p1 cI a_possible a_p1_media a_p1_stores a_p1_held) (wr := List.filterMap (fun i : Nat => (w_X8_unlikeNumbers h_t h_p1 r_t r_p1 cI a_possible a_p1_media a_p1_stores a_p1_held)[i]?) [0, 1, 2, 3, 4, 5]) (z_rS (rest := [.int u4]) hx hb hml hown hcx hl.1 (c_J13_bitCount_95d88 l D cI x7 u5 hu5 _) tl_X8_48 ts_J13_bitCount_95d88 tn_J13 tc_J13_bitCount_95d88 tm_J13_bitCount_95d88 rfl rfl ⟨Nat.le_of_ble_eq_true rfl, Nat.le_of_ble_eq_true rfl⟩ hK hX hS hA hP hD [] rfl rfl rfl rfl (Nat.le_of_ble_eq_true rfl) dX8_unlikeNumbers_148 ⟨Nat.zero_le _, Nat.zero_le _⟩) hP hD hS hA [] [0, 1, 2, 3, 4, 5] [0, 1, 2, 3, 4, 5] rfl rfl rfl (by decide) rfl rfl (fun H locs hP hD hS => ?_)
    refine lv_iadd hx hb dX8_unlikeNumbers_151 ?_
    exact hret (u4 + u5) _ _ _ _ hf hP hD hS dX8_unlikeNumbers_152
  have L21 : ∀ (n21 : Nat) (x3 : Int32) (x4 : Int32) (x5 : Int64) (x7 : Int64) (x9 : Int32) (H : Heap) (locs : List Loc) (ls : Array Slot), m_X8_unlikeNumbers_w21 a_possible a_p1_media a_p1_stores a_p1_held p2 (m_X8_unlikeNumbers_j141 a_possible a_p1_media a_p1_stores a_p1_held p2) n21 x3 x4 x5 x7 x9 = some Rr → va_P D vwCl (w_X8_unlikeNumbers h_t h_p1 r_t r_p1 cI a_possible a_p1_media a_p1_stores a_p1_held) H → va_D A (w_X8_unlikeNumbers h_t h_p1 r_t r_p1 cI a_possible a_p1_media a_p1_stores a_p1_held) → va_S A s.heap H locs → lv_has ls 11 [(0, .ref h_t), (1, .ref h_p1), (2, .int p2), (3, .int x3), (4, .int x4), (5, .long x5), (7, .long x7), (9, .int x9)] → W p l e rm_X8_unlikeNumbers s m args below meth c H locs 0 0 Q (F0 m 21 ls []) := by
    intro n21
    induction n21 with
    | zero => intro x3 x4 x5 x7 x9 H locs ls hf; cases (show (none : Option _) = some Rr from hf)
    | succ n21 ih21 =>
      intro x3 x4 x5 x7 x9 H locs ls hf hP hD hS hl
      have hf := (m_X8_unlikeNumbers_w21.eq_2 _ _ _ _ _ _ _ _ _ _ _ _).symm.trans hf
      have L135 : ∀ (x3 : Int32) (x4 : Int32) (x5 : Int64) (x7 : Int64) (x9 : Int32) (H : Heap) (locs : List Loc) (ls : Array Slot), m_X8_unlikeNumbers_j135 a_possible a_p1_media a_p1_stores a_p1_held p2 (m_X8_unlikeNumbers_w21 a_possible a_p1_media a_p1_stores a_p1_held p2 (m_X8_unlikeNumbers_j141 a_possible a_p1_media a_p1_stores a_p1_held p2) n21) x3 x4 x5 x7 x9 = some Rr → va_P D vwCl (w_X8_unlikeNumbers h_t h_p1 r_t r_p1 cI a_possible a_p1_media a_p1_stores a_p1_held) H → va_D A (w_X8_unlikeNumbers h_t h_p1 r_t r_p1 cI a_possible a_p1_media a_p1_stores a_p1_held) → va_S A s.heap H locs → lv_has ls 11 [(0, .ref h_t), (1, .ref h_p1), (2, .int p2), (3, .int x3), (4, .int x4), (5, .long x5), (7, .long x7), (9, .int x9)] → W p l e rm_X8_unlikeNumbers s m args below meth c H locs 0 0 Q (F0 m 135 ls []) := by
        intro x3 x4 x5 x7 x9 H locs ls hf hP hD hS hl
        have hf := (m_X8_unlikeNumbers_j135.eq_1 _ _ _ _ _ _ _ _ _ _ _).symm.trans hf
        refine z_iinc (k0 := 7) (fun z => [(9, .int z), (0, .ref h_t), (1, .ref h_p1), (2, .int p2), (3, .int x3), (4, .int x4), (5, .long x5), (7, .long x7)]) hx hb dX8_unlikeNumbers_135 hl rfl (by decide) (by decide) (fun _ => rfl) hf (fun v7 ls hf hl => ?_)
        refine lv_goto (tgt := 21) hx hb dX8_unlikeNumbers_138 (by decide) ?_
        exact ih21 x3 x4 x5 x7 v7 _ _ _ hf hP hD hS (lv_sub hl [1, 2, 3, 4, 5, 6, 7, 0] rfl)
      have L132 : ∀ (x3 : Int32) (x4 : Int32) (x5 : Int64) (x9 : Int32) (s0 : Int64) (s1 : Int64) (H : Heap) (locs : List Loc) (ls : Array Slot), m_X8_unlikeNumbers_j132 a_possible a_p1_media a_p1_stores a_p1_held p2 (m_X8_unlikeNumbers_w21 a_possible a_p1_media a_p1_stores a_p1_held p2 (m_X8_unlikeNumbers_j141 a_possible a_p1_media a_p1_stores a_p1_held p2) n21) x3 x4 x5 x9 s0 s1 = some Rr → va_P D vwCl (w_X8_unlikeNumbers h_t h_p1 r_t r_p1 cI a_possible a_p1_media a_p1_stores a_p1_held) H → va_D A (w_X8_unlikeNumbers h_t h_p1 r_t r_p1 cI a_possible a_p1_media a_p1_stores a_p1_held) → va_S A s.heap H locs → lv_has ls 11 [(0, .ref h_t), (1, .ref h_p1), (2, .int p2), (3, .int x3), (4, .int x4), (5, .long x5), (9, .int x9)] → W p l e rm_X8_unlikeNumbers s m args below meth c H locs 0 0 Q (F0 m 132 ls [.long s1, .long s0]) := by
        intro x3 x4 x5 x9 s0 s1 H locs ls hf hP hD hS hl
        have hf := (m_X8_unlikeNumbers_j132.eq_1 _ _ _ _ _ _ _ _ _ _ _ _).symm.trans hf
        refine lv_lor hx hb dX8_unlikeNumbers_132 ?_
        refine z_lstore (fun z => [(7, .long z), (0, .ref h_t), (1, .ref h_p1), (2, .int p2), (3, .int x3), (4, .int x4), (5, .long x5), (9, .int x9)]) hx hb dX8_unlikeNumbers_133 hl (by decide) (fun _ => rfl) hf (fun v9 ls hf hl => ?_)
        exact L135 x3 x4 x5 v9 x9 _ _ _ hf hP hD hS (lv_sub hl [1, 2, 3, 4, 5, 6, 0, 7] rfl)
      have L109 : ∀ (x3 : Int32) (x4 : Int32) (x7 : Int64) (x9 : Int32) (s0 : Int64) (s1 : Int64) (H : Heap) (locs : List Loc) (ls : Array Slot), m_X8_unlikeNumbers_j109 a_possible a_p1_media a_p1_stores a_p1_held p2 (m_X8_unlikeNumbers_w21 a_possible a_p1_media a_p1_stores a_p1_held p2 (m_X8_unlikeNumbers_j141 a_possible a_p1_media a_p1_stores a_p1_held p2) n21) x3 x4 x7 x9 s0 s1 = some Rr → va_P D vwCl (w_X8_unlikeNumbers h_t h_p1 r_t r_p1 cI a_possible a_p1_media a_p1_stores a_p1_held) H → va_D A (w_X8_unlikeNumbers h_t h_p1 r_t r_p1 cI a_possible a_p1_media a_p1_stores a_p1_held) → va_S A s.heap H locs → lv_has ls 11 [(0, .ref h_t), (1, .ref h_p1), (2, .int p2), (3, .int x3), (4, .int x4), (7, .long x7), (9, .int x9)] → W p l e rm_X8_unlikeNumbers s m args below meth c H locs 0 0 Q (F0 m 109 ls [.long s1, .long s0]) := by
        intro x3 x4 x7 x9 s0 s1 H locs ls hf hP hD hS hl
        have hf := (m_X8_unlikeNumbers_j109.eq_1 _ _ _ _ _ _ _ _ _ _ _ _).symm.trans hf
        refine lv_lor hx hb dX8_unlikeNumbers_109 ?_
        refine z_lstore (fun z => [(5, .long z), (0, .ref h_t), (1, .ref h_p1), (2, .int p2), (3, .int x3), (4, .int x4), (7, .long x7), (9, .int x9)]) hx hb dX8_unlikeNumbers_110 hl (by decide) (fun _ => rfl) hf (fun v8 ls hf hl => ?_)
        refine lv_lload hx hb dX8_unlikeNumbers_112 (lv_at hl 6 rfl) ?_
        refine lv_iload hx hb dX8_unlikeNumbers_114 (lv_at hl 5 rfl) ?_
        refine lv_bipush (v := 64) hx hb dX8_unlikeNumbers_116 (by decide) ?_
        refine z_icmp_ge (tgt := 125) hx hb dX8_unlikeNumbers_118 (by decide) hf (fun hf => ?_) (fun hf => ?_)
        · refine lv_lconst (v := 1) hx hb dX8_unlikeNumbers_125 (by decide) ?_
          refine lv_iload hx hb dX8_unlikeNumbers_126 (lv_at hl 5 rfl) ?_
          refine lv_bipush (v := 64) hx hb dX8_unlikeNumbers_128 (by decide) ?_
          refine lv_isub hx hb dX8_unlikeNumbers_130 ?_
          refine lv_lshl hx hb dX8_unlikeNumbers_131 rfl ?_
          exact L132 x3 x4 v8 x9 x7 ((1 : Int64) <<< ((x4 - 64).toInt64 &&& 63)) _ _ _ hf hP hD hS (lv_sub hl [1, 2, 3, 4, 5, 0, 7] rfl)
        · refine lv_lconst (v := 0) hx hb dX8_unlikeNumbers_121 (by decide) ?_
          refine lv_goto (tgt := 132) hx hb dX8_unlikeNumbers_122 (by decide) ?_
          exact L132 x3 x4 v8 x9 x7 0 _ _ _ hf hP hD hS (lv_sub hl [1, 2, 3, 4, 5, 0, 7] rfl)
      have L78 : ∀ (x3 : Int32) (x4 : Int32) (x5 : Int64) (x7 : Int64) (x9 : Int32) (H : Heap) (locs : List Loc) (ls : Array Slot), m_X8_unlikeNumbers_j78 a_possible a_p1_media a_p1_stores a_p1_held p2 (m_X8_unlikeNumbers_w21 a_possible a_p1_media a_p1_stores a_p1_held p2 (m_X8_unlikeNumbers_j141 a_possible a_p1_media a_p1_stores a_p1_held p2) n21) x3 x4 x5 x7 x9 = some Rr → va_P D vwCl (w_X8_unlikeNumbers h_t h_p1 r_t r_p1 cI a_possible a_p1_media a_p1_stores a_p1_held) H → va_D A (w_X8_unlikeNumbers h_t h_p1 r_t r_p1 cI a_possible a_p1_media a_p1_stores a_p1_held) → va_S A s.heap H locs → lv_has ls 11 [(0, .ref h_t), (1, .ref h_p1), (2, .int p2), (3, .int x3), (4, .int x4), (5, .long x5), (7, .long x7), (9, .int x9)] → W p l e rm_X8_unlikeNumbers s m args below meth c H locs 0 0 Q (F0 m 78 ls []) := by
        intro x3 x4 x5 x7 x9 H locs ls hf hP hD hS hl
        have hf := (m_X8_unlikeNumbers_j78.eq_1 _ _ _ _ _ _ _ _ _ _ _).symm.trans hf
        refine lv_aload_n hx hb dX8_unlikeNumbers_78 rfl (lv_at hl 0 rfl) ?_
        refine z_get (ci := 8) (C := RX8) (T := TX8) (N := 2) (v := .ref (r_t 0)) hx hb hts inT_X8 hown hK hP 0 rfl rfl 0 (by decide) tf_X8_9 rfl dX8_unlikeNumbers_79 ?_
        refine lv_iload_n hx hb dX8_unlikeNumbers_82 rfl (lv_at hl 3 rfl) ?_
        refine z_iald hx hb hK hP 1 rfl dX8_unlikeNumbers_83 hf (fun y6 hf => ?_)
        refine lv_iload hx hb dX8_unlikeNumbers_84 (lv_at hl 7 rfl) ?_
        refine lv_ishr hx hb dX8_unlikeNumbers_86 ?_
        refine lv_iconst (v := 1) hx hb dX8_unlikeNumbers_87 (by decide) ?_
        refine lv_iand hx hb dX8_unlikeNumbers_88 ?_
        refine z_if_eq (tgt := 135) hx hb dX8_unlikeNumbers_89 (by decide) hf (fun hf => ?_) (fun hf => ?_)
        · exact L135 x3 x4 x5 x7 x9 _ _ _ hf hP hD hS (lv_sub hl [0, 1, 2, 3, 4, 5, 6, 7] rfl)
        · refine lv_lload hx hb dX8_unlikeNumbers_92 (lv_at hl 5 rfl) ?_
          refine lv_iload hx hb dX8_unlikeNumbers_94 (lv_at hl 4 rfl) ?_
          refine lv_bipush (v := 64) hx hb dX8_unlikeNumbers_96 (by decide) ?_
          refine z_icmp_ge (tgt := 108) hx hb dX8_unlikeNumbers_98 (by decide) hf (fun hf => ?_) (fun hf => ?_)
          · refine lv_lconst (v := 0) hx hb dX8_unlikeNumbers_108 (by decide) ?_
            exact L109 x3 x4 x7 x9 x5 0 _ _ _ hf hP hD hS (lv_sub hl [0, 1, 2, 3, 4, 6, 7] rfl)
          · refine lv_lconst (v := 1) hx hb dX8_unlikeNumbers_101 (by decide) ?_
            refine lv_iload hx hb dX8_unlikeNumbers_102 (lv_at hl 4 rfl) ?_
            refine lv_lshl hx hb dX8_unlikeNumbers_104 rfl ?_
            refine lv_goto (tgt := 109) hx hb dX8_unlikeNumbers_105 (by decide) ?_
            exact L109 x3 x4 x7 x9 x5 ((1 : Int64) <<< (x4.toInt64 &&& 63)) _ _ _ hf hP hD hS (lv_sub hl [0, 1, 2, 3, 4, 6, 7] rfl)
      have L55 : ∀ (x3 : Int32) (x4 : Int32) (x5 : Int64) (x7 : Int64) (x9 : Int32) (s0 : Int32) (H : Heap) (locs : List Loc) (ls : Array Slot), m_X8_unlikeNumbers_j55 a_possible a_p1_media a_p1_stores a_p1_held p2 (m_X8_unlikeNumbers_w21 a_possible a_p1_media a_p1_stores a_p1_held p2 (m_X8_unlikeNumbers_j141 a_possible a_p1_media a_p1_stores a_p1_held p2) n21) x3 x4 x5 x7 x9 s0 = some Rr → va_P D vwCl (w_X8_unlikeNumbers h_t h_p1 r_t r_p1 cI a_possible a_p1_media a_p1_stores a_p1_held) H → va_D A (w_X8_unlikeNumbers h_t h_p1 r_t r_p1 cI a_possible a_p1_media a_p1_stores a_p1_held) → va_S A s.heap H locs → lv_has ls 11 [(0, .ref h_t), (1, .ref h_p1), (2, .int p2), (3, .int x3), (4, .int x4), (5, .long x5), (7, .long x7), (9, .int x9)] → W p l e rm_X8_unlikeNumbers s m args below meth c H locs 0 0 Q (F0 m 55 ls [.int s0]) := by
        intro x3 x4 x5 x7 x9 s0 H locs ls hf hP hD hS hl
        have hf := (m_X8_unlikeNumbers_j55.eq_1 _ _ _ _ _ _ _ _ _ _ _ _).symm.trans hf
        refine lv_istore (lv' := [(10, .int s0), (0, .ref h_t), (1, .ref h_p1), (2, .int p2), (3, .int x3), (4, .int x4), (5, .long x5), (7, .long x7), (9, .int x9)]) hx hb dX8_unlikeNumbers_55 hl (by decide) rfl (fun ls hl => ?_)
        refine lv_iload hx hb dX8_unlikeNumbers_57 (lv_at hl 8 rfl) ?_
        refine z_if_le (tgt := 78) hx hb dX8_unlikeNumbers_59 (by decide) hf (fun hf => ?_) (fun hf => ?_)
        · exact L78 x3 x4 x5 x7 x9 _ _ _ hf hP hD hS (lv_sub hl [1, 2, 3, 4, 5, 6, 7, 8] rfl)
        · refine lv_iload hx hb dX8_unlikeNumbers_62 (lv_at hl 0 rfl) ?_
          refine lv_bipush (v := 100) hx hb dX8_unlikeNumbers_64 (by decide) ?_
          refine lv_idiv hx hb dX8_unlikeNumbers_66 (by decide) ?_
          refine lv_iload_n hx hb dX8_unlikeNumbers_67 rfl (lv_at hl 3 rfl) ?_
          refine z_icmp_ne (tgt := 78) hx hb dX8_unlikeNumbers_68 (by decide) hf (fun hf => ?_) (fun hf => ?_)
          · exact L78 x3 x4 x5 x7 x9 _ _ _ hf hP hD hS (lv_sub hl [1, 2, 3, 4, 5, 6, 7, 8] rfl)
          · refine lv_iload hx hb dX8_unlikeNumbers_71 (lv_at hl 0 rfl) ?_
            refine lv_bipush (v := 100) hx hb dX8_unlikeNumbers_73 (by decide) ?_
            refine lv_irem hx hb dX8_unlikeNumbers_75 (by decide) ?_
            refine z_istore (fun z => [(4, .int z), (10, .int s0), (0, .ref h_t), (1, .ref h_p1), (2, .int p2), (3, .int x3), (5, .long x5), (7, .long x7), (9, .int x9)]) hx hb dX8_unlikeNumbers_76 hl (by decide) (fun _ => rfl) hf (fun v10 ls hf hl => ?_)
            exact L78 x3 v10 x5 x7 x9 _ _ _ hf hP hD hS (lv_sub hl [2, 3, 4, 5, 0, 6, 7, 8] rfl)
      refine lv_iload hx hb dX8_unlikeNumbers_21 (lv_at hl 7 rfl) ?_
      refine lv_aload_n hx hb dX8_unlikeNumbers_23 rfl (lv_at hl 1 rfl) ?_
      refine z_get (ci := 1) (C := RX1) (T := TX1) (N := 4) (v := .ref (r_p1 2)) hx hb hts inT_X1 hown hK hP 2 rfl rfl 2 (by decide) tf_X8_29 rfl dX8_unlikeNumbers_24 ?_
      refine lv_iload_n hx hb dX8_unlikeNumbers_27 rfl (lv_at hl 3 rfl) ?_
      refine z_iald hx hb hK hP 5 rfl dX8_unlikeNumbers_28 hf (fun y3 hf => ?_)
      refine z_icmp_gt (tgt := 141) hx hb dX8_unlikeNumbers_29 (by decide) hf (fun hf => ?_) (fun hf => ?_)
      · exact L141 x5 x7 _ _ _ hf hP hD hS (lv_sub hl [5, 6] rfl)
      · refine lv_iload hx hb dX8_unlikeNumbers_32 (lv_at hl 7 rfl) ?_
        refine z_if_le (tgt := 54) hx hb dX8_unlikeNumbers_34 (by decide) hf (fun hf => ?_) (fun hf => ?_)
        · refine lv_iconst (v := (-1)) hx hb dX8_unlikeNumbers_54 (by decide) ?_
          exact L55 x3 x4 x5 x7 x9 (-1) _ _ _ hf hP hD hS (lv_sub hl [0, 1, 2, 3, 4, 5, 6, 7] rfl)
        · refine lv_aload_n hx hb dX8_unlikeNumbers_37 rfl (lv_at hl 1 rfl) ?_
          refine z_get (ci := 1) (C := RX1) (T := TX1) (N := 4) (v := .ref (r_p1 1)) hx hb hts inT_X1 hown hK hP 2 rfl rfl 1 (by decide) tf_X8_32 rfl dX8_unlikeNumbers_38 ?_
          refine lv_iload_n hx hb dX8_unlikeNumbers_41 rfl (lv_at hl 3 rfl) ?_
          refine lv_bipush (v := 6) hx hb dX8_unlikeNumbers_42 (by decide) ?_
          refine lv_imul hx hb dX8_unlikeNumbers_44 ?_
          refine lv_iload hx hb dX8_unlikeNumbers_45 (lv_at hl 7 rfl) ?_
          refine lv_iadd hx hb dX8_unlikeNumbers_47 ?_
          refine lv_iconst (v := 1) hx hb dX8_unlikeNumbers_48 (by decide) ?_
          refine lv_isub hx hb dX8_unlikeNumbers_49 ?_
          refine z_iald hx hb hK hP 4 rfl dX8_unlikeNumbers_50 hf (fun y11 hf => ?_)
          refine lv_goto (tgt := 55) hx hb dX8_unlikeNumbers_51 (by decide) ?_
          exact L55 x3 x4 x5 x7 x9 y11 _ _ _ hf hP hD hS (lv_sub hl [0, 1, 2, 3, 4, 5, 6, 7] rfl)
  refine lv_iload_n hx hb dX8_unlikeNumbers_0 rfl (lv_at hl 2 rfl) ?_
  refine lv_iconst (v := 4) hx hb dX8_unlikeNumbers_1 (by decide) ?_
  refine lv_idiv hx hb dX8_unlikeNumbers_2 (by decide) ?_
  refine z_istore_n (fun z => [(3, .int z), (0, .ref h_t), (1, .ref h_p1), (2, .int p2)]) hx hb dX8_unlikeNumbers_3 rfl hl (by decide) (fun _ => rfl) hf (fun v1 ls hf hl => ?_)
  refine lv_aload_n hx hb dX8_unlikeNumbers_4 rfl (lv_at hl 2 rfl) ?_
  refine z_get (ci := 1) (C := RX1) (T := TX1) (N := 4) (v := .ref (r_p1 0)) hx hb hts inT_X1 hown hK hP 2 rfl rfl 0 (by decide) tf_X8_18 rfl dX8_unlikeNumbers_5 ?_
  refine lv_iload_n hx hb dX8_unlikeNumbers_8 rfl (lv_at hl 3 rfl) ?_
  refine z_iald hx hb hK hP 3 rfl dX8_unlikeNumbers_9 hf (fun y2 hf => ?_)
  refine lv_istore (lv' := [(4, .int y2), (3, .int v1), (0, .ref h_t), (1, .ref h_p1), (2, .int p2)]) hx hb dX8_unlikeNumbers_10 hl (by decide) rfl (fun ls hl => ?_)
  refine lv_lconst (v := 0) hx hb dX8_unlikeNumbers_12 (by decide) ?_
  refine lv_lstore (lv' := [(5, .long 0), (4, .int y2), (3, .int v1), (0, .ref h_t), (1, .ref h_p1), (2, .int p2)]) hx hb dX8_unlikeNumbers_13 hl (by decide) rfl (fun ls hl => ?_)
  refine lv_lconst (v := 0) hx hb dX8_unlikeNumbers_15 (by decide) ?_
  refine lv_lstore (lv' := [(7, .long 0), (5, .long 0), (4, .int y2), (3, .int v1), (0, .ref h_t), (1, .ref h_p1), (2, .int p2)]) hx hb dX8_unlikeNumbers_16 hl (by decide) rfl (fun ls hl => ?_)
  refine lv_iconst (v := 0) hx hb dX8_unlikeNumbers_18 (by decide) ?_
  refine lv_istore (lv' := [(9, .int 0), (7, .long 0), (5, .long 0), (4, .int y2), (3, .int v1), (0, .ref h_t), (1, .ref h_p1), (2, .int p2)]) hx hb dX8_unlikeNumbers_19 hl (by decide) rfl (fun ls hl => ?_)
  exact L21 fuelN v1 y2 0 0 0 _ _ _ hf hP hD hS (lv_sub hl [5, 6, 7, 4, 3, 2, 1, 0] rfl)
abbrev w_X11_forget (h_t : Nat) (r_t : Nat → Nat) (r_all : Nat → Nat) (F_t : Nat → Int32) (F_all : Nat → Int32) (kq : Option Nat) (cI : ClassId) : va_W := [(h_t, .inr (11, o_X11 r_t F_t kq)), ((r_t 3), .inr (0, o_X0 r_all F_all))]
abbrev rm_X11_forget : Room := { frames := 0, cells := 0, slots := 0, locals := 0 }
def m_X11_forget (F_all : Nat → Int32) : Option ((Nat → Int32)) :=
  nm (upd F_all 3 0) fun F1 =>
  some F1
set_option maxHeartbeats 4000000 in
set_option maxRecDepth 100000 in
theorem c_X11_forget (l : Launch) (D : va_G) (cI : ClassId) (h_t : Nat) (r_t : Nat → Nat) (r_all : Nat → Nat) (F_t : Nat → Int32) (F_all : Nat → Int32) (kq : Option Nat) (Rr : (Nat → Int32)) (hf : m_X11_forget F_all = some Rr) : CTv l yX11_forget (Cond.code yX11_forget cX11_forget 1 none) rm_X11_forget D cI [.ref h_t] (w_X11_forget h_t r_t r_all F_t F_all kq cI) (w_X11_forget h_t r_t r_all F_t Rr kq cI) := by
  refine z_begin_v (own := RX11) (ρ := (Nat → Int32)) (fun u => w_X11_forget h_t r_t r_all F_t u kq cI) (by decide +kernel) rfl (Nat.le_of_ble_eq_true rfl) ?_
  intro p e s m args below meth c ls Q A hx hb hml hts hcx hown hK hX hA hP hD hS hl hret
  have hl : lv_has ls 1 [(0, .ref h_t)] := hl
  have hf := (m_X11_forget.eq_1 _).symm.trans hf
  refine lv_aload_n hx hb dX11_forget_0 rfl (lv_at hl 0 rfl) ?_
  refine z_get (ci := 11) (C := RX11) (T := TX11) (N := 13) (v := .ref (r_t 3)) hx hb hts inT_X11 hown hK hP 0 rfl rfl 3 (by decide) tf_X11_23 rfl dX11_forget_1 ?_
  refine lv_iconst (v := 0) hx hb dX11_forget_4 (by decide) ?_
  refine z_put (ci := 0) (C := RX0) (T := TX0) (N := 5) hx hb hts inT_X0 tyX0 tyX0_ok nmX0 hown hK hP hD hS 1 rfl rfl 3 (by decide) tf_X11_149 rfl (by decide +kernel) (Nat.le_of_ble_eq_true rfl) (o_X0 r_all) (o_X0_s3 _ _ _) (fun z => w_X11_forget h_t r_t r_all F_t z kq cI) (fun _ => rfl) dX11_forget_5 hf (fun F1 H locs hf hP hD hS => ?_)
  exact hret F1 _ _ _ _ hf hP hD hS dX11_forget_8
abbrev w_X10_start (h_t : Nat) (h_p1 : Nat) (r_t : Nat → Nat) (r_trial : Nat → Nat) (r_trial_cache : Nat → Nat) (r_p1 : Nat → Nat) (r_p1_cache : Nat → Nat) (F_t : Nat → Int32) (F_trial : Nat → Int32) (F_p1 : Nat → Int32) (cI : ClassId) (a_trial_cache_media : Nat → Int32) (a_trial_cache_stores : Nat → Int32) (a_trial_cache_held : Nat → Int32) (a_trial_cache_asked : Nat → Int32) (a_trial_micros : Nat → Int32) (a_trial_before : Nat → Int32) (a_trial_after : Nat → Int32) (a_trial_waiting : Nat → Int32) (a_trial_tallies : Nat → Int32) (a_p1_cache_media : Nat → Int32) (a_p1_cache_stores : Nat → Int32) (a_p1_cache_held : Nat → Int32) (a_p1_cache_asked : Nat → Int32) (a_p1_micros : Nat → Int32) (a_p1_before : Nat → Int32) (a_p1_after : Nat → Int32) (a_p1_waiting : Nat → Int32) (a_p1_tallies : Nat → Int32) : va_W := [(h_t, .inr (10, o_X10 r_t F_t)), ((r_t 0), .inr (4, o_X4 r_trial F_trial)), ((r_trial 0), .inr (1, o_X1 r_trial_cache)), ((r_trial_cache 0), .inl (cI, 64, .inl a_trial_cache_media)), ((r_trial_cache 1), .inl (cI, 96, .inl a_trial_cache_stores)), ((r_trial_cache 2), .inl (cI, 16, .inl a_trial_cache_held)), ((r_trial_cache 3), .inl (cI, 16, .inl a_trial_cache_asked)), ((r_trial 1), .inl (cI, 80, .inl a_trial_micros)), ((r_trial 4), .inl (cI, 44, .inl a_trial_before)), ((r_trial 5), .inl (cI, 44, .inl a_trial_after)), ((r_trial 6), .inl (cI, 48, .inl a_trial_waiting)), ((r_trial 11), .inl (cI, 8, .inl a_trial_tallies)), (h_p1, .inr (4, o_X4 r_p1 F_p1)), ((r_p1 0), .inr (1, o_X1 r_p1_cache)), ((r_p1_cache 0), .inl (cI, 64, .inl a_p1_cache_media)), ((r_p1_cache 1), .inl (cI, 96, .inl a_p1_cache_stores)), ((r_p1_cache 2), .inl (cI, 16, .inl a_p1_cache_held)), ((r_p1_cache 3), .inl (cI, 16, .inl a_p1_cache_asked)), ((r_p1 1), .inl (cI, 80, .inl a_p1_micros)), ((r_p1 4), .inl (cI, 44, .inl a_p1_before)), ((r_p1 5), .inl (cI, 44, .inl a_p1_after)), ((r_p1 6), .inl (cI, 48, .inl a_p1_waiting)), ((r_p1 11), .inl (cI, 8, .inl a_p1_tallies))]
abbrev rm_X10_start : Room := { frames := 3, cells := 0, slots := 0, locals := 82 }
def m_X10_start (F_t : Nat → Int32) (F_trial : Nat → Int32) (F_p1 : Nat → Int32) (a_trial_cache_media : Nat → Int32) (a_trial_cache_stores : Nat → Int32) (a_trial_cache_held : Nat → Int32) (a_trial_cache_asked : Nat → Int32) (a_trial_micros : Nat → Int32) (a_trial_before : Nat → Int32) (a_trial_after : Nat → Int32) (a_trial_waiting : Nat → Int32) (a_trial_tallies : Nat → Int32) (a_p1_cache_media : Nat → Int32) (a_p1_cache_stores : Nat → Int32) (a_p1_cache_held : Nat → Int32) (a_p1_cache_asked : Nat → Int32) (a_p1_micros : Nat → Int32) (a_p1_before : Nat → Int32) (a_p1_after : Nat → Int32) (a_p1_waiting : Nat → Int32) (a_p1_tallies : Nat → Int32) (p2 : Int32) : Option ((Nat → Int32) × (Nat → Int32) × (Nat → Int32) × (Nat → Int32) × (Nat → Int32) × (Nat → Int32) × (Nat → Int32) × (Nat → Int32) × (Nat → Int32) × (Nat → Int32) × (Nat → Int32)) :=
  bd (m_X4_copyFrom F_trial F_p1 a_trial_cache_media a_trial_cache_stores a_trial_cache_held a_trial_cache_asked a_trial_micros a_trial_before a_trial_after a_trial_waiting a_trial_tallies a_p1_cache_media a_p1_cache_stores a_p1_cache_held a_p1_cache_asked a_p1_micros a_p1_before a_p1_after a_p1_waiting a_p1_tallies) fun u1 =>
  nm (upd F_t 3 p2) fun F2 =>
  nm (upd F2 4 0) fun F3 =>
  nm (upd F3 5 0) fun F4 =>
  some (F4, u1.1, u1.2.1, u1.2.2.1, u1.2.2.2.1, u1.2.2.2.2.1, u1.2.2.2.2.2.1, u1.2.2.2.2.2.2.1, u1.2.2.2.2.2.2.2.1, u1.2.2.2.2.2.2.2.2.1, u1.2.2.2.2.2.2.2.2.2)
set_option maxHeartbeats 4000000 in
set_option maxRecDepth 100000 in
theorem c_X10_start (l : Launch) (D : va_G) (cI : ClassId) (h_t : Nat) (h_p1 : Nat) (r_t : Nat → Nat) (r_trial : Nat → Nat) (r_trial_cache : Nat → Nat) (r_p1 : Nat → Nat) (r_p1_cache : Nat → Nat) (F_t : Nat → Int32) (F_trial : Nat → Int32) (F_p1 : Nat → Int32) (a_trial_cache_media : Nat → Int32) (a_trial_cache_stores : Nat → Int32) (a_trial_cache_held : Nat → Int32) (a_trial_cache_asked : Nat → Int32) (a_trial_micros : Nat → Int32) (a_trial_before : Nat → Int32) (a_trial_after : Nat → Int32) (a_trial_waiting : Nat → Int32) (a_trial_tallies : Nat → Int32) (a_p1_cache_media : Nat → Int32) (a_p1_cache_stores : Nat → Int32) (a_p1_cache_held : Nat → Int32) (a_p1_cache_asked : Nat → Int32) (a_p1_micros : Nat → Int32) (a_p1_before : Nat → Int32) (a_p1_after : Nat → Int32) (a_p1_waiting : Nat → Int32) (a_p1_tallies : Nat → Int32) (p2 : Int32) (Rr : (Nat → Int32) × (Nat → Int32) × (Nat → Int32) × (Nat → Int32) × (Nat → Int32) × (Nat → Int32) × (Nat → Int32) × (Nat → Int32) × (Nat → Int32) × (Nat → Int32) × (Nat → Int32)) (hf : m_X10_start F_t F_trial F_p1 a_trial_cache_media a_trial_cache_stores a_trial_cache_held a_trial_cache_asked a_trial_micros a_trial_before a_trial_after a_trial_waiting a_trial_tallies a_p1_cache_media a_p1_cache_stores a_p1_cache_held a_p1_cache_asked a_p1_micros a_p1_before a_p1_after a_p1_waiting a_p1_tallies p2 = some Rr) : CTv l yX10_start (Cond.code yX10_start cX10_start 3 none) rm_X10_start D cI [.ref h_t, .ref h_p1, .int p2] (w_X10_start h_t h_p1 r_t r_trial r_trial_cache r_p1 r_p1_cache F_t F_trial F_p1 cI a_trial_cache_media a_trial_cache_stores a_trial_cache_held a_trial_cache_asked a_trial_micros a_trial_before a_trial_after a_trial_waiting a_trial_tallies a_p1_cache_media a_p1_cache_stores a_p1_cache_held a_p1_cache_asked a_p1_micros a_p1_before a_p1_after a_p1_waiting a_p1_tallies) (w_X10_start h_t h_p1 r_t r_trial r_trial_cache r_p1 r_p1_cache Rr.1 Rr.2.1 F_p1 cI Rr.2.2.1 Rr.2.2.2.1 Rr.2.2.2.2.1 Rr.2.2.2.2.2.1 Rr.2.2.2.2.2.2.1 Rr.2.2.2.2.2.2.2.1 Rr.2.2.2.2.2.2.2.2.1 Rr.2.2.2.2.2.2.2.2.2.1 Rr.2.2.2.2.2.2.2.2.2.2 a_p1_cache_media a_p1_cache_stores a_p1_cache_held a_p1_cache_asked a_p1_micros a_p1_before a_p1_after a_p1_waiting a_p1_tallies) := by
  refine z_begin_v (own := RX10) (ρ := (Nat → Int32) × (Nat → Int32) × (Nat → Int32) × (Nat → Int32) × (Nat → Int32) × (Nat → Int32) × (Nat → Int32) × (Nat → Int32) × (Nat → Int32) × (Nat → Int32) × (Nat → Int32)) (fun u => w_X10_start h_t h_p1 r_t r_trial r_trial_cache r_p1 r_p1_cache u.1 u.2.1 F_p1 cI u.2.2.1 u.2.2.2.1 u.2.2.2.2.1 u.2.2.2.2.2.1 u.2.2.2.2.2.2.1 u.2.2.2.2.2.2.2.1 u.2.2.2.2.2.2.2.2.1 u.2.2.2.2.2.2.2.2.2.1 u.2.2.2.2.2.2.2.2.2.2 a_p1_cache_media a_p1_cache_stores a_p1_cache_held a_p1_cache_asked a_p1_micros a_p1_before a_p1_after a_p1_waiting a_p1_tallies) (by decide +kernel) rfl (Nat.le_of_ble_eq_true rfl) ?_
  intro p e s m args below meth c ls Q A hx hb hml hts hcx hown hK hX hA hP hD hS hl hret
  have hl : lv_has ls 3 [(0, .ref h_t), (1, .ref h_p1), (2, .int p2)] := hl
  have hf := (m_X10_start.eq_1 _ _ _ _ _ _ _ _ _ _ _ _ _ _ _ _ _ _ _ _ _ _).symm.trans hf
  refine lv_aload_n hx hb dX10_start_0 rfl (lv_at hl 0 rfl) ?_
  refine z_get (ci := 10) (C := RX10) (T := TX10) (N := 6) (v := .ref (r_t 0)) hx hb hts inT_X10 hown hK hP 0 rfl rfl 0 (by decide) tf_X10_12 rfl dX10_start_1 ?_
  refine lv_aload_n hx hb dX10_start_4 rfl (lv_at hl 1 rfl) ?_
  obtain ⟨u1, hu1, hf⟩ := bd_some hf
  refine z_cv (ws1 := w_X10_start h_t h_p1 r_t r_trial r_trial_cache r_p1 r_p1_cache F_t u1.1 F_p1 cI u1.2.1 u1.2.2.1 u1.2.2.2.1 u1.2.2.2.2.1 u1.2.2.2.2.2.1 u1.2.2.2.2.2.2.1 u1.2.2.2.2.2.2.2.1 u1.2.2.2.2.2.2.2.2.1 u1.2.2.2.2.2.2.2.2.2 a_p1_cache_media a_p1_cache_stores a_p1_cache_held a_p1_cache_asked a_p1_micros a_p1_before a_p1_after a_p1_waiting a_p1_tallies) (wr := List.filterMap (fun i : Nat => (w_X10_start h_t h_p1 r_t r_trial r_trial_cache r_p1 r_p1_cache F_t F_trial F_p1 cI a_trial_cache_media a_trial_cache_stores a_trial_cache_held a_trial_cache_asked a_trial_micros a_trial_before a_trial_after a_trial_waiting a_trial_tallies a_p1_cache_media a_p1_cache_stores a_p1_cache_held a_p1_cache_asked a_p1_micros a_p1_before a_p1_after a_p1_waiting a_p1_tallies)[i]?) [0]) (z_rV (rest := []) hx hb hml hown hcx hl.1 (c_X4_copyFrom l D cI (r_t 0) h_p1 r_trial r_trial_cache r_p1 r_p1_cache F_trial F_p1 a_trial_cache_media a_trial_cache_stores a_trial_cache_held a_trial_cache_asked a_trial_micros a_trial_before a_trial_after a_trial_waiting a_trial_tallies a_p1_cache_media a_p1_cache_stores a_p1_cache_held a_p1_cache_asked a_p1_micros a_p1_before a_p1_after a_p1_waiting a_p1_tallies u1 hu1 _) tl_X10_42 ti_X4_copyFrom tz_X4_copyFrom tn_X4 tc_X4_copyFrom tm_X4_copyFrom rfl rfl ⟨Nat.le_of_ble_eq_true rfl, Nat.le_of_ble_eq_true rfl⟩ hK hX hS hA hP hD [1, 2, 3, 4, 5, 6, 7, 8, 9, 10, 11, 12, 13, 14, 15, 16, 17, 18, 19, 20, 21, 22] rfl rfl 1 rfl rfl rfl rfl (Nat.le_of_ble_eq_true rfl) dX10_start_5 ⟨Nat.zero_le _, Nat.zero_le _⟩) hP hD hS hA [1, 2, 3, 4, 5, 6, 7, 8, 9, 10, 11, 12, 13, 14, 15, 16, 17, 18, 19, 20, 21, 22] [0] [0, 1, 2, 3, 4, 5, 6, 7, 8, 9, 10, 11, 12, 13, 14, 15, 16, 17, 18, 19, 20, 21, 22] rfl rfl rfl (by decide) rfl rfl (fun H locs hP hD hS => ?_)
  refine lv_aload_n hx hb dX10_start_8 rfl (lv_at hl 0 rfl) ?_
  refine lv_iload_n hx hb dX10_start_9 rfl (lv_at hl 2 rfl) ?_
  refine z_put (ci := 10) (C := RX10) (T := TX10) (N := 6) hx hb hts inT_X10 tyX10 tyX10_ok nmX10 hown hK hP hD hS 0 rfl rfl 3 (by decide) tf_X10_32 rfl (by decide +kernel) (Nat.le_of_ble_eq_true rfl) (o_X10 r_t) (o_X10_s3 _ _ _) (fun z => w_X10_start h_t h_p1 r_t r_trial r_trial_cache r_p1 r_p1_cache z u1.1 F_p1 cI u1.2.1 u1.2.2.1 u1.2.2.2.1 u1.2.2.2.2.1 u1.2.2.2.2.2.1 u1.2.2.2.2.2.2.1 u1.2.2.2.2.2.2.2.1 u1.2.2.2.2.2.2.2.2.1 u1.2.2.2.2.2.2.2.2.2 a_p1_cache_media a_p1_cache_stores a_p1_cache_held a_p1_cache_asked a_p1_micros a_p1_before a_p1_after a_p1_waiting a_p1_tallies) (fun _ => rfl) dX10_start_10 hf (fun F2 H locs hf hP hD hS => ?_)
  refine lv_aload_n hx hb dX10_start_13 rfl (lv_at hl 0 rfl) ?_
  refine lv_iconst (v := 0) hx hb dX10_start_14 (by decide) ?_
  refine z_put (ci := 10) (C := RX10) (T := TX10) (N := 6) hx hb hts inT_X10 tyX10 tyX10_ok nmX10 hown hK hP hD hS 0 rfl rfl 4 (by decide) tf_X10_36 rfl (by decide +kernel) (Nat.le_of_ble_eq_true rfl) (o_X10 r_t) (o_X10_s4 _ _ _) (fun z => w_X10_start h_t h_p1 r_t r_trial r_trial_cache r_p1 r_p1_cache z u1.1 F_p1 cI u1.2.1 u1.2.2.1 u1.2.2.2.1 u1.2.2.2.2.1 u1.2.2.2.2.2.1 u1.2.2.2.2.2.2.1 u1.2.2.2.2.2.2.2.1 u1.2.2.2.2.2.2.2.2.1 u1.2.2.2.2.2.2.2.2.2 a_p1_cache_media a_p1_cache_stores a_p1_cache_held a_p1_cache_asked a_p1_micros a_p1_before a_p1_after a_p1_waiting a_p1_tallies) (fun _ => rfl) dX10_start_15 hf (fun F3 H locs hf hP hD hS => ?_)
  refine lv_aload_n hx hb dX10_start_18 rfl (lv_at hl 0 rfl) ?_
  refine lv_iconst (v := 0) hx hb dX10_start_19 (by decide) ?_
  refine z_put (ci := 10) (C := RX10) (T := TX10) (N := 6) hx hb hts inT_X10 tyX10 tyX10_ok nmX10 hown hK hP hD hS 0 rfl rfl 5 (by decide) tf_X10_39 rfl (by decide +kernel) (Nat.le_of_ble_eq_true rfl) (o_X10 r_t) (o_X10_s5 _ _ _) (fun z => w_X10_start h_t h_p1 r_t r_trial r_trial_cache r_p1 r_p1_cache z u1.1 F_p1 cI u1.2.1 u1.2.2.1 u1.2.2.2.1 u1.2.2.2.2.1 u1.2.2.2.2.2.1 u1.2.2.2.2.2.2.1 u1.2.2.2.2.2.2.2.1 u1.2.2.2.2.2.2.2.2.1 u1.2.2.2.2.2.2.2.2.2 a_p1_cache_media a_p1_cache_stores a_p1_cache_held a_p1_cache_asked a_p1_micros a_p1_before a_p1_after a_p1_waiting a_p1_tallies) (fun _ => rfl) dX10_start_20 hf (fun F4 H locs hf hP hD hS => ?_)
  exact hret (F4, u1.1, u1.2.1, u1.2.2.1, u1.2.2.2.1, u1.2.2.2.2.1, u1.2.2.2.2.2.1, u1.2.2.2.2.2.2.1, u1.2.2.2.2.2.2.2.1, u1.2.2.2.2.2.2.2.2.1, u1.2.2.2.2.2.2.2.2.2) _ _ _ _ hf hP hD hS dX10_start_23
abbrev w_X10_draw (h_t : Nat) (r_t : Nat → Nat) (F_t : Nat → Int32) (cI : ClassId) : va_W := [(h_t, .inr (10, o_X10 r_t F_t))]
abbrev rm_X10_draw : Room := { frames := 1, cells := 0, slots := 0, locals := 21 }
def m_X10_draw (F_t : Nat → Int32) (p1 : Int32) : Option (Int32 × (Nat → Int32)) :=
  nm (upd F_t 3 (((F_t 3) * 1103515245) + 12345)) fun F1 =>
  dz (if p1 < 1 then 1 else p1) (
  some (((((F1 3).toUInt32 >>> ((16 : Int32).toUInt32 &&& Int32.toUInt32 31)).toInt32 &&& 32767) - (((F1 3).toUInt32 >>> ((16 : Int32).toUInt32 &&& Int32.toUInt32 31)).toInt32 &&& 32767) / (if p1 < 1 then 1 else p1) * (if p1 < 1 then 1 else p1)), F1))
set_option maxHeartbeats 4000000 in
set_option maxRecDepth 100000 in
theorem c_X10_draw (l : Launch) (D : va_G) (cI : ClassId) (h_t : Nat) (r_t : Nat → Nat) (F_t : Nat → Int32) (p1 : Int32) (Rr : Int32 × (Nat → Int32)) (hf : m_X10_draw F_t p1 = some Rr) : CTi l yX10_draw (Cond.code yX10_draw cX10_draw 2 (some .int)) rm_X10_draw D cI [.ref h_t, .int p1] (w_X10_draw h_t r_t F_t cI) Rr.1 (w_X10_draw h_t r_t Rr.2 cI) := by
  refine z_begin_i (own := RX10) (ρ := Int32 × (Nat → Int32)) (fun u => w_X10_draw h_t r_t u.2 cI) (fun u => u.1) (by decide +kernel) rfl (Nat.le_of_ble_eq_true rfl) ?_
  intro p e s m args below meth c ls Q A hx hb hml hts hcx hown hK hX hA hP hD hS hl hret
  have hl : lv_has ls 2 [(0, .ref h_t), (1, .int p1)] := hl
  have hf := (m_X10_draw.eq_1 _ _).symm.trans hf
  refine lv_aload_n hx hb dX10_draw_0 rfl (lv_at hl 0 rfl) ?_
  refine lv_aload_n hx hb dX10_draw_1 rfl (lv_at hl 0 rfl) ?_
  refine z_get (ci := 10) (C := RX10) (T := TX10) (N := 6) (v := .int (F_t 3)) hx hb hts inT_X10 hown hK hP 0 rfl rfl 3 (by decide) tf_X10_32 rfl dX10_draw_2 ?_
  refine lv_ldc hx hb hown (hts _ tk_X10_107) dX10_draw_5 ?_
  refine lv_imul hx hb dX10_draw_7 ?_
  refine lv_sipush (v := 12345) hx hb dX10_draw_8 (by decide) ?_
  refine lv_iadd hx hb dX10_draw_11 ?_
  refine z_put (ci := 10) (C := RX10) (T := TX10) (N := 6) hx hb hts inT_X10 tyX10 tyX10_ok nmX10 hown hK hP hD hS 0 rfl rfl 3 (by decide) tf_X10_32 rfl (by decide +kernel) (Nat.le_of_ble_eq_true rfl) (o_X10 r_t) (o_X10_s3 _ _ _) (fun z => w_X10_draw h_t r_t z cI) (fun _ => rfl) dX10_draw_12 hf (fun F1 H locs hf hP hD hS => ?_)
  refine lv_aload_n hx hb dX10_draw_15 rfl (lv_at hl 0 rfl) ?_
  refine z_get (ci := 10) (C := RX10) (T := TX10) (N := 6) (v := .int (F1 3)) hx hb hts inT_X10 hown hK hP 0 rfl rfl 3 (by decide) tf_X10_32 rfl dX10_draw_16 ?_
  refine lv_bipush (v := 16) hx hb dX10_draw_19 (by decide) ?_
  refine lv_iushr hx hb dX10_draw_21 rfl ?_
  refine lv_sipush (v := 32767) hx hb dX10_draw_22 (by decide) ?_
  refine lv_iand hx hb dX10_draw_25 ?_
  refine lv_iload_n hx hb dX10_draw_26 rfl (lv_at hl 1 rfl) ?_
  refine lv_iconst (v := 1) hx hb dX10_draw_27 (by decide) ?_
  refine z_max (rest := [.int (((F1 3).toUInt32 >>> ((16 : Int32).toUInt32 &&& Int32.toUInt32 31)).toInt32 &&& 32767)]) hx hb (hml.trans hl.1.symm) hown hts tl_X10_108 ts_max tn_J9 tc_max (Nat.le_of_ble_eq_true rfl) (Nat.le_of_ble_eq_true rfl) ⟨Nat.zero_le _, Nat.zero_le _⟩ dX10_draw_28 ?_
  refine z_irem hx hb dX10_draw_31 hf (fun hf => ?_)
  exact hret (((((F1 3).toUInt32 >>> ((16 : Int32).toUInt32 &&& Int32.toUInt32 31)).toInt32 &&& 32767) - (((F1 3).toUInt32 >>> ((16 : Int32).toUInt32 &&& Int32.toUInt32 31)).toInt32 &&& 32767) / (if p1 < 1 then 1 else p1) * (if p1 < 1 then 1 else p1)), F1) _ _ _ _ hf hP hD hS dX10_draw_32
abbrev w_X4_recoverAtOnce (h_t : Nat) (r_t : Nat → Nat) (r_cache : Nat → Nat) (F_t : Nat → Int32) (cI : ClassId) (a_cache_media : Nat → Int32) : va_W := [(h_t, .inr (4, o_X4 r_t F_t)), ((r_t 0), .inr (1, o_X1 r_cache)), ((r_cache 0), .inl (cI, 64, .inl a_cache_media))]
abbrev rm_X4_recoverAtOnce : Room := { frames := 2, cells := 0, slots := 0, locals := 46 }
def m_X4_recoverAtOnce (F_t : Nat → Int32) (a_cache_media : Nat → Int32) : Option ((Nat → Int32) × (Nat → Int32)) :=
  bd (m_X11_recoverWords a_cache_media 64 (F_t 9)) fun u1 =>
  nm (upd F_t 8 0) fun F2 =>
  some (F2, u1)
set_option maxHeartbeats 4000000 in
set_option maxRecDepth 100000 in
theorem c_X4_recoverAtOnce (l : Launch) (D : va_G) (cI : ClassId) (h_t : Nat) (r_t : Nat → Nat) (r_cache : Nat → Nat) (F_t : Nat → Int32) (a_cache_media : Nat → Int32) (Rr : (Nat → Int32) × (Nat → Int32)) (hf : m_X4_recoverAtOnce F_t a_cache_media = some Rr) : CTv l yX4_recoverAtOnce (Cond.code yX4_recoverAtOnce cX4_recoverAtOnce 1 none) rm_X4_recoverAtOnce D cI [.ref h_t] (w_X4_recoverAtOnce h_t r_t r_cache F_t cI a_cache_media) (w_X4_recoverAtOnce h_t r_t r_cache Rr.1 cI Rr.2) := by
  refine z_begin_v (own := RX4) (ρ := (Nat → Int32) × (Nat → Int32)) (fun u => w_X4_recoverAtOnce h_t r_t r_cache u.1 cI u.2) (by decide +kernel) rfl (Nat.le_of_ble_eq_true rfl) ?_
  intro p e s m args below meth c ls Q A hx hb hml hts hcx hown hK hX hA hP hD hS hl hret
  have hl : lv_has ls 1 [(0, .ref h_t)] := hl
  have hf := (m_X4_recoverAtOnce.eq_1 _ _).symm.trans hf
  refine lv_aload_n hx hb dX4_recoverAtOnce_0 rfl (lv_at hl 0 rfl) ?_
  refine z_get (ci := 4) (C := RX4) (T := TX4) (N := 12) (v := .ref (r_t 0)) hx hb hts inT_X4 hown hK hP 0 rfl rfl 0 (by decide) tf_X4_12 rfl dX4_recoverAtOnce_1 ?_
  refine z_get (ci := 1) (C := RX1) (T := TX1) (N := 4) (v := .ref (r_cache 0)) hx hb hts inT_X1 hown hK hP 1 rfl rfl 0 (by decide) tf_X4_160 rfl dX4_recoverAtOnce_4 ?_
  refine lv_aload_n hx hb dX4_recoverAtOnce_7 rfl (lv_at hl 0 rfl) ?_
  refine z_get (ci := 4) (C := RX4) (T := TX4) (N := 12) (v := .int (F_t 9)) hx hb hts inT_X4 hown hK hP 0 rfl rfl 9 (by decide) tf_X4_44 rfl dX4_recoverAtOnce_8 ?_
  obtain ⟨u1, hu1, hf⟩ := bd_some hf
  refine z_cv (ws1 := w_X4_recoverAtOnce h_t r_t r_cache F_t cI u1) (wr := List.filterMap (fun i : Nat => (w_X4_recoverAtOnce h_t r_t r_cache F_t cI a_cache_media)[i]?) [0, 1]) (z_rN (rest := []) hx hb hml hown hcx hl.1 (c_X11_recoverWords l D cI (r_cache 0) 64 a_cache_media (F_t 9) u1 hu1 _) tl_X4_167 ts_X11_recoverWords tn_X11 tc_X11_recoverWords tm_X11_recoverWords rfl rfl ⟨Nat.le_of_ble_eq_true rfl, Nat.le_of_ble_eq_true rfl⟩ hK hX hS hA hP hD [2] rfl rfl rfl rfl (Nat.le_of_ble_eq_true rfl) dX4_recoverAtOnce_11 ⟨Nat.zero_le _, Nat.zero_le _⟩) hP hD hS hA [2] [0, 1] [0, 1, 2] rfl rfl rfl (by decide) rfl rfl (fun H locs hP hD hS => ?_)
  refine lv_aload_n hx hb dX4_recoverAtOnce_14 rfl (lv_at hl 0 rfl) ?_
  refine lv_iconst (v := 0) hx hb dX4_recoverAtOnce_15 (by decide) ?_
  refine z_put (ci := 4) (C := RX4) (T := TX4) (N := 12) hx hb hts inT_X4 tyX4 tyX4_ok nmX4 hown hK hP hD hS 0 rfl rfl 8 (by decide) tf_X4_41 rfl (by decide +kernel) (Nat.le_of_ble_eq_true rfl) (o_X4 r_t) (o_X4_s8 _ _ _) (fun z => w_X4_recoverAtOnce h_t r_t r_cache z cI u1) (fun _ => rfl) dX4_recoverAtOnce_16 hf (fun F2 H locs hf hP hD hS => ?_)
  exact hret (F2, u1) _ _ _ _ hf hP hD hS dX4_recoverAtOnce_19
abbrev w_X10_fallAndRecover (h_t : Nat) (r_t : Nat → Nat) (r_trial : Nat → Nat) (r_trial_cache : Nat → Nat) (r_walk : Nat → Nat) (F_t : Nat → Int32) (F_trial : Nat → Int32) (cI : ClassId) (a_trial_cache_media : Nat → Int32) (a_trial_cache_stores : Nat → Int32) (a_trial_cache_held : Nat → Int32) (a_trial_cache_asked : Nat → Int32) (a_trial_before : Nat → Int32) (a_trial_after : Nat → Int32) (a_trial_tallies : Nat → Int32) (a_walk_row : Nat → Int32) (a_walk_picture : Nat → Int32) (a_walk_settled : Nat → Int32) : va_W := [(h_t, .inr (10, o_X10 r_t F_t)), ((r_t 0), .inr (4, o_X4 r_trial F_trial)), ((r_trial 0), .inr (1, o_X1 r_trial_cache)), ((r_trial_cache 0), .inl (cI, 64, .inl a_trial_cache_media)), ((r_trial_cache 1), .inl (cI, 96, .inl a_trial_cache_stores)), ((r_trial_cache 2), .inl (cI, 16, .inl a_trial_cache_held)), ((r_trial_cache 3), .inl (cI, 16, .inl a_trial_cache_asked)), ((r_trial 4), .inl (cI, 44, .inl a_trial_before)), ((r_trial 5), .inl (cI, 44, .inl a_trial_after)), ((r_trial 11), .inl (cI, 8, .inl a_trial_tallies)), ((r_t 2), .inr (9, o_X9 r_walk)), ((r_walk 0), .inl (cI, 16, .inl a_walk_row)), ((r_walk 1), .inl (cI, 64, .inl a_walk_picture)), ((r_walk 2), .inl (cI, 64, .inl a_walk_settled))]
abbrev rm_X10_fallAndRecover : Room := { frames := 4, cells := 0, slots := 0, locals := 92 }
def m_X10_fallAndRecover_j137 (a_trial_cache_stores : Nat → Int32) (F_t : Nat → Int32) (F_trial : Nat → Int32) (a_trial_cache_media : Nat → Int32) (a_trial_cache_held : Nat → Int32) (a_trial_cache_asked : Nat → Int32) (a_trial_before : Nat → Int32) (a_trial_after : Nat → Int32) (a_trial_tallies : Nat → Int32) (a_walk_row : Nat → Int32) (a_walk_picture : Nat → Int32) (a_walk_settled : Nat → Int32) : Option ((Nat → Int32) × (Nat → Int32) × (Nat → Int32) × (Nat → Int32) × (Nat → Int32) × (Nat → Int32) × (Nat → Int32) × (Nat → Int32) × (Nat → Int32) × (Nat → Int32) × (Nat → Int32)) :=
  bd (m_X4_recoverAtOnce F_trial a_trial_cache_media) fun u1 =>
  some (F_t, u1.1, u1.2, a_trial_cache_held, a_trial_cache_asked, a_trial_before, a_trial_after, a_trial_tallies, a_walk_row, a_walk_picture, a_walk_settled)
def m_X10_fallAndRecover_j122 (a_trial_cache_stores : Nat → Int32) (s1 : Int32) (s2 : Int32) (F_t : Nat → Int32) (F_trial : Nat → Int32) (a_trial_cache_media : Nat → Int32) (a_trial_cache_held : Nat → Int32) (a_trial_cache_asked : Nat → Int32) (a_trial_before : Nat → Int32) (a_trial_after : Nat → Int32) (a_trial_tallies : Nat → Int32) (a_walk_row : Nat → Int32) (a_walk_picture : Nat → Int32) (a_walk_settled : Nat → Int32) : Option ((Nat → Int32) × (Nat → Int32) × (Nat → Int32) × (Nat → Int32) × (Nat → Int32) × (Nat → Int32) × (Nat → Int32) × (Nat → Int32) × (Nat → Int32) × (Nat → Int32) × (Nat → Int32)) :=
  nm (upd F_t 5 (s1 + s2)) fun F5 =>
  bd (m_X4_fall F_trial a_trial_cache_media a_trial_cache_held a_trial_cache_asked a_trial_before a_trial_after a_trial_tallies a_walk_picture a_walk_settled) fun u6 =>
  m_X10_fallAndRecover_j137 a_trial_cache_stores F5 u6.1 u6.2.1 u6.2.2.1 u6.2.2.2.1 u6.2.2.2.2.1 u6.2.2.2.2.2.1 u6.2.2.2.2.2.2 a_walk_row a_walk_picture a_walk_settled
def m_X10_fallAndRecover_j87 (a_trial_cache_stores : Nat → Int32) (F_t : Nat → Int32) (F_trial : Nat → Int32) (a_trial_cache_media : Nat → Int32) (a_trial_cache_held : Nat → Int32) (a_trial_cache_asked : Nat → Int32) (a_trial_before : Nat → Int32) (a_trial_after : Nat → Int32) (a_trial_tallies : Nat → Int32) (a_walk_row : Nat → Int32) (a_walk_picture : Nat → Int32) (a_walk_settled : Nat → Int32) : Option ((Nat → Int32) × (Nat → Int32) × (Nat → Int32) × (Nat → Int32) × (Nat → Int32) × (Nat → Int32) × (Nat → Int32) × (Nat → Int32) × (Nat → Int32) × (Nat → Int32) × (Nat → Int32)) :=
  nm (upd F_t 4 ((F_t 4) + 1)) fun F3 =>
  bd (m_X9_fateBy F_trial a_walk_picture a_walk_settled a_trial_before a_trial_after) fun u4 =>
  if u4.1 = 3 then (
  m_X10_fallAndRecover_j122 a_trial_cache_stores (F3 5) 1 F3 F_trial a_trial_cache_media a_trial_cache_held a_trial_cache_asked a_trial_before a_trial_after a_trial_tallies a_walk_row a_walk_picture u4.2)
  else (
  m_X10_fallAndRecover_j122 a_trial_cache_stores (F3 5) 0 F3 F_trial a_trial_cache_media a_trial_cache_held a_trial_cache_asked a_trial_before a_trial_after a_trial_tallies a_walk_row a_walk_picture u4.2)
def m_X10_fallAndRecover_j81 (a_trial_cache_stores : Nat → Int32) (k27 : Int32 → (Nat → Int32) → (Nat → Int32) → (Nat → Int32) → (Nat → Int32) → (Nat → Int32) → (Nat → Int32) → (Nat → Int32) → (Nat → Int32) → (Nat → Int32) → (Nat → Int32) → (Nat → Int32) → Option ((Nat → Int32) × (Nat → Int32) × (Nat → Int32) × (Nat → Int32) × (Nat → Int32) × (Nat → Int32) × (Nat → Int32) × (Nat → Int32) × (Nat → Int32) × (Nat → Int32) × (Nat → Int32))) (x1 : Int32) (F_t : Nat → Int32) (F_trial : Nat → Int32) (a_trial_cache_media : Nat → Int32) (a_trial_cache_held : Nat → Int32) (a_trial_cache_asked : Nat → Int32) (a_trial_before : Nat → Int32) (a_trial_after : Nat → Int32) (a_trial_tallies : Nat → Int32) (a_walk_row : Nat → Int32) (a_walk_picture : Nat → Int32) (a_walk_settled : Nat → Int32) : Option ((Nat → Int32) × (Nat → Int32) × (Nat → Int32) × (Nat → Int32) × (Nat → Int32) × (Nat → Int32) × (Nat → Int32) × (Nat → Int32) × (Nat → Int32) × (Nat → Int32) × (Nat → Int32)) :=
  nm (x1 + 1) fun v8 =>
  k27 v8 F_t F_trial a_trial_cache_media a_trial_cache_held a_trial_cache_asked a_trial_before a_trial_after a_trial_tallies a_walk_row a_walk_picture a_walk_settled
def m_X10_fallAndRecover_w27 (a_trial_cache_stores : Nat → Int32) (k87 : (Nat → Int32) → (Nat → Int32) → (Nat → Int32) → (Nat → Int32) → (Nat → Int32) → (Nat → Int32) → (Nat → Int32) → (Nat → Int32) → (Nat → Int32) → (Nat → Int32) → (Nat → Int32) → Option ((Nat → Int32) × (Nat → Int32) × (Nat → Int32) × (Nat → Int32) × (Nat → Int32) × (Nat → Int32) × (Nat → Int32) × (Nat → Int32) × (Nat → Int32) × (Nat → Int32) × (Nat → Int32))) : Nat → Int32 → (Nat → Int32) → (Nat → Int32) → (Nat → Int32) → (Nat → Int32) → (Nat → Int32) → (Nat → Int32) → (Nat → Int32) → (Nat → Int32) → (Nat → Int32) → (Nat → Int32) → (Nat → Int32) → Option ((Nat → Int32) × (Nat → Int32) × (Nat → Int32) × (Nat → Int32) × (Nat → Int32) × (Nat → Int32) × (Nat → Int32) × (Nat → Int32) × (Nat → Int32) × (Nat → Int32) × (Nat → Int32))
  | 0, _, _, _, _, _, _, _, _, _, _, _, _ => none
  | n27 + 1, x1, F_t, F_trial, a_trial_cache_media, a_trial_cache_held, a_trial_cache_asked, a_trial_before, a_trial_after, a_trial_tallies, a_walk_row, a_walk_picture, a_walk_settled =>
    if 16 ≤ x1 then (
    k87 F_t F_trial a_trial_cache_media a_trial_cache_held a_trial_cache_asked a_trial_before a_trial_after a_trial_tallies a_walk_row a_walk_picture a_walk_settled)
    else (
    rd a_trial_cache_held 16 x1 fun y7 =>
    if y7 ≤ 0 then (
    m_X10_fallAndRecover_j81 a_trial_cache_stores (m_X10_fallAndRecover_w27 a_trial_cache_stores k87 n27) x1 F_t F_trial a_trial_cache_media a_trial_cache_held a_trial_cache_asked a_trial_before a_trial_after a_trial_tallies a_walk_row a_walk_picture a_walk_settled)
    else (
    rd a_trial_cache_held 16 x1 fun y9 =>
    bd (m_X10_draw F_t (y9 + 1)) fun u10 =>
    bd (m_X9_raise a_walk_row a_walk_picture a_trial_cache_stores a_trial_cache_held x1 u10.1) fun u11 =>
    m_X10_fallAndRecover_j81 a_trial_cache_stores (m_X10_fallAndRecover_w27 a_trial_cache_stores k87 n27) x1 u10.2 F_trial a_trial_cache_media a_trial_cache_held a_trial_cache_asked a_trial_before a_trial_after a_trial_tallies u11.1 u11.2 a_walk_settled))
def m_X10_fallAndRecover (F_t : Nat → Int32) (F_trial : Nat → Int32) (a_trial_cache_media : Nat → Int32) (a_trial_cache_stores : Nat → Int32) (a_trial_cache_held : Nat → Int32) (a_trial_cache_asked : Nat → Int32) (a_trial_before : Nat → Int32) (a_trial_after : Nat → Int32) (a_trial_tallies : Nat → Int32) (a_walk_row : Nat → Int32) (a_walk_picture : Nat → Int32) (a_walk_settled : Nat → Int32) : Option ((Nat → Int32) × (Nat → Int32) × (Nat → Int32) × (Nat → Int32) × (Nat → Int32) × (Nat → Int32) × (Nat → Int32) × (Nat → Int32) × (Nat → Int32) × (Nat → Int32) × (Nat → Int32)) :=
  if (F_trial 8) = 1 then (
  m_X10_fallAndRecover_j137 a_trial_cache_stores F_t F_trial a_trial_cache_media a_trial_cache_held a_trial_cache_asked a_trial_before a_trial_after a_trial_tallies a_walk_row a_walk_picture a_walk_settled)
  else (
  bd (m_X9_start a_walk_row a_walk_picture a_trial_cache_media) fun u2 =>
  m_X10_fallAndRecover_w27 a_trial_cache_stores (m_X10_fallAndRecover_j87 a_trial_cache_stores) fuelN 0 F_t F_trial a_trial_cache_media a_trial_cache_held a_trial_cache_asked a_trial_before a_trial_after a_trial_tallies u2.1 u2.2 a_walk_settled)
set_option maxHeartbeats 4000000 in
set_option maxRecDepth 100000 in
theorem c_X10_fallAndRecover (l : Launch) (D : va_G) (cI : ClassId) (h_t : Nat) (r_t : Nat → Nat) (r_trial : Nat → Nat) (r_trial_cache : Nat → Nat) (r_walk : Nat → Nat) (F_t : Nat → Int32) (F_trial : Nat → Int32) (a_trial_cache_media : Nat → Int32) (a_trial_cache_stores : Nat → Int32) (a_trial_cache_held : Nat → Int32) (a_trial_cache_asked : Nat → Int32) (a_trial_before : Nat → Int32) (a_trial_after : Nat → Int32) (a_trial_tallies : Nat → Int32) (a_walk_row : Nat → Int32) (a_walk_picture : Nat → Int32) (a_walk_settled : Nat → Int32) (Rr : (Nat → Int32) × (Nat → Int32) × (Nat → Int32) × (Nat → Int32) × (Nat → Int32) × (Nat → Int32) × (Nat → Int32) × (Nat → Int32) × (Nat → Int32) × (Nat → Int32) × (Nat → Int32)) (hf : m_X10_fallAndRecover F_t F_trial a_trial_cache_media a_trial_cache_stores a_trial_cache_held a_trial_cache_asked a_trial_before a_trial_after a_trial_tallies a_walk_row a_walk_picture a_walk_settled = some Rr) : CTv l yX10_fallAndRecover (Cond.code yX10_fallAndRecover cX10_fallAndRecover 2 none) rm_X10_fallAndRecover D cI [.ref h_t] (w_X10_fallAndRecover h_t r_t r_trial r_trial_cache r_walk F_t F_trial cI a_trial_cache_media a_trial_cache_stores a_trial_cache_held a_trial_cache_asked a_trial_before a_trial_after a_trial_tallies a_walk_row a_walk_picture a_walk_settled) (w_X10_fallAndRecover h_t r_t r_trial r_trial_cache r_walk Rr.1 Rr.2.1 cI Rr.2.2.1 a_trial_cache_stores Rr.2.2.2.1 Rr.2.2.2.2.1 Rr.2.2.2.2.2.1 Rr.2.2.2.2.2.2.1 Rr.2.2.2.2.2.2.2.1 Rr.2.2.2.2.2.2.2.2.1 Rr.2.2.2.2.2.2.2.2.2.1 Rr.2.2.2.2.2.2.2.2.2.2) := by
  refine z_begin_v (own := RX10) (ρ := (Nat → Int32) × (Nat → Int32) × (Nat → Int32) × (Nat → Int32) × (Nat → Int32) × (Nat → Int32) × (Nat → Int32) × (Nat → Int32) × (Nat → Int32) × (Nat → Int32) × (Nat → Int32)) (fun u => w_X10_fallAndRecover h_t r_t r_trial r_trial_cache r_walk u.1 u.2.1 cI u.2.2.1 a_trial_cache_stores u.2.2.2.1 u.2.2.2.2.1 u.2.2.2.2.2.1 u.2.2.2.2.2.2.1 u.2.2.2.2.2.2.2.1 u.2.2.2.2.2.2.2.2.1 u.2.2.2.2.2.2.2.2.2.1 u.2.2.2.2.2.2.2.2.2.2) (by decide +kernel) rfl (Nat.le_of_ble_eq_true rfl) ?_
  intro p e s m args below meth c ls Q A hx hb hml hts hcx hown hK hX hA hP hD hS hl hret
  have hl : lv_has ls 2 [(0, .ref h_t)] := hl
  have hf := (m_X10_fallAndRecover.eq_1 _ _ _ _ _ _ _ _ _ _ _ _).symm.trans hf
  have L137 : ∀ (F_t : Nat → Int32) (F_trial : Nat → Int32) (a_trial_cache_media : Nat → Int32) (a_trial_cache_held : Nat → Int32) (a_trial_cache_asked : Nat → Int32) (a_trial_before : Nat → Int32) (a_trial_after : Nat → Int32) (a_trial_tallies : Nat → Int32) (a_walk_row : Nat → Int32) (a_walk_picture : Nat → Int32) (a_walk_settled : Nat → Int32) (H : Heap) (locs : List Loc) (ls : Array Slot), m_X10_fallAndRecover_j137 a_trial_cache_stores F_t F_trial a_trial_cache_media a_trial_cache_held a_trial_cache_asked a_trial_before a_trial_after a_trial_tallies a_walk_row a_walk_picture a_walk_settled = some Rr → va_P D vwCl (w_X10_fallAndRecover h_t r_t r_trial r_trial_cache r_walk F_t F_trial cI a_trial_cache_media a_trial_cache_stores a_trial_cache_held a_trial_cache_asked a_trial_before a_trial_after a_trial_tallies a_walk_row a_walk_picture a_walk_settled) H → va_D A (w_X10_fallAndRecover h_t r_t r_trial r_trial_cache r_walk F_t F_trial cI a_trial_cache_media a_trial_cache_stores a_trial_cache_held a_trial_cache_asked a_trial_before a_trial_after a_trial_tallies a_walk_row a_walk_picture a_walk_settled) → va_S A s.heap H locs → lv_has ls 2 [(0, .ref h_t)] → W p l e rm_X10_fallAndRecover s m args below meth c H locs 0 0 Q (F0 m 137 ls []) := by
    intro F_t F_trial a_trial_cache_media a_trial_cache_held a_trial_cache_asked a_trial_before a_trial_after a_trial_tallies a_walk_row a_walk_picture a_walk_settled H locs ls hf hP hD hS hl
    have hf := (m_X10_fallAndRecover_j137.eq_1 _ _ _ _ _ _ _ _ _ _ _ _).symm.trans hf
    refine lv_aload_n hx hb dX10_fallAndRecover_137 rfl (lv_at hl 0 rfl) ?_
    refine z_get (ci := 10) (C := RX10) (T := TX10) (N := 6) (v := .ref (r_t 0)) hx hb hts inT_X10 hown hK hP 0 rfl rfl 0 (by decide) tf_X10_12 rfl dX10_fallAndRecover_138 ?_
    obtain ⟨u1, hu1, hf⟩ := bd_some hf
    refine z_cv (ws1 := w_X10_fallAndRecover h_t r_t r_trial r_trial_cache r_walk F_t u1.1 cI u1.2 a_trial_cache_stores a_trial_cache_held a_trial_cache_asked a_trial_before a_trial_after a_trial_tallies a_walk_row a_walk_picture a_walk_settled) (wr := List.filterMap (fun i : Nat => (w_X10_fallAndRecover h_t r_t r_trial r_trial_cache r_walk F_t F_trial cI a_trial_cache_media a_trial_cache_stores a_trial_cache_held a_trial_cache_asked a_trial_before a_trial_after a_trial_tallies a_walk_row a_walk_picture a_walk_settled)[i]?) [0, 4, 5, 6, 7, 8, 9, 10, 11, 12, 13]) (z_rV (rest := []) hx hb hml hown hcx hl.1 (c_X4_recoverAtOnce l D cI (r_t 0) r_trial r_trial_cache F_trial a_trial_cache_media u1 hu1 _) tl_X10_104 ti_X4_recoverAtOnce tz_X4_recoverAtOnce tn_X4 tc_X4_recoverAtOnce tm_X4_recoverAtOnce rfl rfl ⟨Nat.le_of_ble_eq_true rfl, Nat.le_of_ble_eq_true rfl⟩ hK hX hS hA hP hD [1, 2, 3] rfl rfl 1 rfl rfl rfl rfl (Nat.le_of_ble_eq_true rfl) dX10_fallAndRecover_141 ⟨Nat.zero_le _, Nat.zero_le _⟩) hP hD hS hA [1, 2, 3] [0, 4, 5, 6, 7, 8, 9, 10, 11, 12, 13] [0, 11, 12, 13, 1, 2, 3, 4, 5, 6, 7, 8, 9, 10] rfl rfl rfl (by decide) rfl rfl (fun H locs hP hD hS => ?_)
    exact hret (F_t, u1.1, u1.2, a_trial_cache_held, a_trial_cache_asked, a_trial_before, a_trial_after, a_trial_tallies, a_walk_row, a_walk_picture, a_walk_settled) _ _ _ _ hf hP hD hS dX10_fallAndRecover_144
  have L122 : ∀ (s1 : Int32) (s2 : Int32) (F_t : Nat → Int32) (F_trial : Nat → Int32) (a_trial_cache_media : Nat → Int32) (a_trial_cache_held : Nat → Int32) (a_trial_cache_asked : Nat → Int32) (a_trial_before : Nat → Int32) (a_trial_after : Nat → Int32) (a_trial_tallies : Nat → Int32) (a_walk_row : Nat → Int32) (a_walk_picture : Nat → Int32) (a_walk_settled : Nat → Int32) (H : Heap) (locs : List Loc) (ls : Array Slot), m_X10_fallAndRecover_j122 a_trial_cache_stores s1 s2 F_t F_trial a_trial_cache_media a_trial_cache_held a_trial_cache_asked a_trial_before a_trial_after a_trial_tallies a_walk_row a_walk_picture a_walk_settled = some Rr → va_P D vwCl (w_X10_fallAndRecover h_t r_t r_trial r_trial_cache r_walk F_t F_trial cI a_trial_cache_media a_trial_cache_stores a_trial_cache_held a_trial_cache_asked a_trial_before a_trial_after a_trial_tallies a_walk_row a_walk_picture a_walk_settled) H → va_D A (w_X10_fallAndRecover h_t r_t r_trial r_trial_cache r_walk F_t F_trial cI a_trial_cache_media a_trial_cache_stores a_trial_cache_held a_trial_cache_asked a_trial_before a_trial_after a_trial_tallies a_walk_row a_walk_picture a_walk_settled) → va_S A s.heap H locs → lv_has ls 2 [(0, .ref h_t)] → W p l e rm_X10_fallAndRecover s m args below meth c H locs 0 0 Q (F0 m 122 ls [.int s2, .int s1, .ref h_t]) := by
    intro s1 s2 F_t F_trial a_trial_cache_media a_trial_cache_held a_trial_cache_asked a_trial_before a_trial_after a_trial_tallies a_walk_row a_walk_picture a_walk_settled H locs ls hf hP hD hS hl
    have hf := (m_X10_fallAndRecover_j122.eq_1 _ _ _ _ _ _ _ _ _ _ _ _ _ _).symm.trans hf
    refine lv_iadd hx hb dX10_fallAndRecover_122 ?_
    refine z_put (ci := 10) (C := RX10) (T := TX10) (N := 6) hx hb hts inT_X10 tyX10 tyX10_ok nmX10 hown hK hP hD hS 0 rfl rfl 5 (by decide) tf_X10_39 rfl (by decide +kernel) (Nat.le_of_ble_eq_true rfl) (o_X10 r_t) (o_X10_s5 _ _ _) (fun z => w_X10_fallAndRecover h_t r_t r_trial r_trial_cache r_walk z F_trial cI a_trial_cache_media a_trial_cache_stores a_trial_cache_held a_trial_cache_asked a_trial_before a_trial_after a_trial_tallies a_walk_row a_walk_picture a_walk_settled) (fun _ => rfl) dX10_fallAndRecover_123 hf (fun F5 H locs hf hP hD hS => ?_)
    refine lv_aload_n hx hb dX10_fallAndRecover_126 rfl (lv_at hl 0 rfl) ?_
    refine z_get (ci := 10) (C := RX10) (T := TX10) (N := 6) (v := .ref (r_t 0)) hx hb hts inT_X10 hown hK hP 0 rfl rfl 0 (by decide) tf_X10_12 rfl dX10_fallAndRecover_127 ?_
    refine lv_aload_n hx hb dX10_fallAndRecover_130 rfl (lv_at hl 0 rfl) ?_
    refine z_get (ci := 10) (C := RX10) (T := TX10) (N := 6) (v := .ref (r_t 2)) hx hb hts inT_X10 hown hK hP 0 rfl rfl 2 (by decide) tf_X10_28 rfl dX10_fallAndRecover_131 ?_
    obtain ⟨u6, hu6, hf⟩ := bd_some hf
    refine z_cv (ws1 := w_X10_fallAndRecover h_t r_t r_trial r_trial_cache r_walk F5 u6.1 cI u6.2.1 a_trial_cache_stores u6.2.2.1 u6.2.2.2.1 u6.2.2.2.2.1 u6.2.2.2.2.2.1 u6.2.2.2.2.2.2 a_walk_row a_walk_picture a_walk_settled) (wr := List.filterMap (fun i : Nat => (w_X10_fallAndRecover h_t r_t r_trial r_trial_cache r_walk F5 F_trial cI a_trial_cache_media a_trial_cache_stores a_trial_cache_held a_trial_cache_asked a_trial_before a_trial_after a_trial_tallies a_walk_row a_walk_picture a_walk_settled)[i]?) [0, 4, 11]) (z_rV (rest := []) hx hb hml hown hcx hl.1 (c_X4_fall l D cI (r_t 0) (r_t 2) r_trial r_trial_cache r_walk F_trial a_trial_cache_media a_trial_cache_held a_trial_cache_asked a_trial_before a_trial_after a_trial_tallies a_walk_picture a_walk_settled u6 hu6 _) tl_X10_100 ti_X4_fall tz_X4_fall tn_X4 tc_X4_fall tm_X4_fall rfl rfl ⟨Nat.le_of_ble_eq_true rfl, Nat.le_of_ble_eq_true rfl⟩ hK hX hS hA hP hD [1, 2, 3, 5, 6, 7, 8, 9, 10, 12, 13] rfl rfl 1 rfl rfl rfl rfl (Nat.le_of_ble_eq_true rfl) dX10_fallAndRecover_134 ⟨Nat.zero_le _, Nat.zero_le _⟩) hP hD hS hA [1, 2, 3, 5, 6, 7, 8, 9, 10, 12, 13] [0, 4, 11] [0, 3, 4, 5, 1, 6, 7, 8, 9, 10, 11, 2, 12, 13] rfl rfl rfl (by decide) rfl rfl (fun H locs hP hD hS => ?_)
    exact L137 F5 u6.1 u6.2.1 u6.2.2.1 u6.2.2.2.1 u6.2.2.2.2.1 u6.2.2.2.2.2.1 u6.2.2.2.2.2.2 a_walk_row a_walk_picture a_walk_settled _ _ _ hf hP hD hS (lv_sub hl [0] rfl)
  have L87 : ∀ (F_t : Nat → Int32) (F_trial : Nat → Int32) (a_trial_cache_media : Nat → Int32) (a_trial_cache_held : Nat → Int32) (a_trial_cache_asked : Nat → Int32) (a_trial_before : Nat → Int32) (a_trial_after : Nat → Int32) (a_trial_tallies : Nat → Int32) (a_walk_row : Nat → Int32) (a_walk_picture : Nat → Int32) (a_walk_settled : Nat → Int32) (H : Heap) (locs : List Loc) (ls : Array Slot), m_X10_fallAndRecover_j87 a_trial_cache_stores F_t F_trial a_trial_cache_media a_trial_cache_held a_trial_cache_asked a_trial_before a_trial_after a_trial_tallies a_walk_row a_walk_picture a_walk_settled = some Rr → va_P D vwCl (w_X10_fallAndRecover h_t r_t r_trial r_trial_cache r_walk F_t F_trial cI a_trial_cache_media a_trial_cache_stores a_trial_cache_held a_trial_cache_asked a_trial_before a_trial_after a_trial_tallies a_walk_row a_walk_picture a_walk_settled) H → va_D A (w_X10_fallAndRecover h_t r_t r_trial r_trial_cache r_walk F_t F_trial cI a_trial_cache_media a_trial_cache_stores a_trial_cache_held a_trial_cache_asked a_trial_before a_trial_after a_trial_tallies a_walk_row a_walk_picture a_walk_settled) → va_S A s.heap H locs → lv_has ls 2 [(0, .ref h_t)] → W p l e rm_X10_fallAndRecover s m args below meth c H locs 0 0 Q (F0 m 87 ls []) := by
    intro F_t F_trial a_trial_cache_media a_trial_cache_held a_trial_cache_asked a_trial_before a_trial_after a_trial_tallies a_walk_row a_walk_picture a_walk_settled H locs ls hf hP hD hS hl
    have hf := (m_X10_fallAndRecover_j87.eq_1 _ _ _ _ _ _ _ _ _ _ _ _).symm.trans hf
    refine lv_aload_n hx hb dX10_fallAndRecover_87 rfl (lv_at hl 0 rfl) ?_
    refine lv_dup hx hb dX10_fallAndRecover_88 rfl ?_
    refine z_get (ci := 10) (C := RX10) (T := TX10) (N := 6) (v := .int (F_t 4)) hx hb hts inT_X10 hown hK hP 0 rfl rfl 4 (by decide) tf_X10_36 rfl dX10_fallAndRecover_89 ?_
    refine lv_iconst (v := 1) hx hb dX10_fallAndRecover_92 (by decide) ?_
    refine lv_iadd hx hb dX10_fallAndRecover_93 ?_
    refine z_put (ci := 10) (C := RX10) (T := TX10) (N := 6) hx hb hts inT_X10 tyX10 tyX10_ok nmX10 hown hK hP hD hS 0 rfl rfl 4 (by decide) tf_X10_36 rfl (by decide +kernel) (Nat.le_of_ble_eq_true rfl) (o_X10 r_t) (o_X10_s4 _ _ _) (fun z => w_X10_fallAndRecover h_t r_t r_trial r_trial_cache r_walk z F_trial cI a_trial_cache_media a_trial_cache_stores a_trial_cache_held a_trial_cache_asked a_trial_before a_trial_after a_trial_tallies a_walk_row a_walk_picture a_walk_settled) (fun _ => rfl) dX10_fallAndRecover_94 hf (fun F3 H locs hf hP hD hS => ?_)
    refine lv_aload_n hx hb dX10_fallAndRecover_97 rfl (lv_at hl 0 rfl) ?_
    refine lv_dup hx hb dX10_fallAndRecover_98 rfl ?_
    refine z_get (ci := 10) (C := RX10) (T := TX10) (N := 6) (v := .int (F3 5)) hx hb hts inT_X10 hown hK hP 0 rfl rfl 5 (by decide) tf_X10_39 rfl dX10_fallAndRecover_99 ?_
    refine lv_aload_n hx hb dX10_fallAndRecover_102 rfl (lv_at hl 0 rfl) ?_
    refine z_get (ci := 10) (C := RX10) (T := TX10) (N := 6) (v := .ref (r_t 2)) hx hb hts inT_X10 hown hK hP 0 rfl rfl 2 (by decide) tf_X10_28 rfl dX10_fallAndRecover_103 ?_
    refine lv_aload_n hx hb dX10_fallAndRecover_106 rfl (lv_at hl 0 rfl) ?_
    refine z_get (ci := 10) (C := RX10) (T := TX10) (N := 6) (v := .ref (r_t 0)) hx hb hts inT_X10 hown hK hP 0 rfl rfl 0 (by decide) tf_X10_12 rfl dX10_fallAndRecover_107 ?_
    obtain ⟨u4, hu4, hf⟩ := bd_some hf
    refine z_ci (ws1 := w_X10_fallAndRecover h_t r_t r_trial r_trial_cache r_walk F3 F_trial cI a_trial_cache_media a_trial_cache_stores a_trial_cache_held a_trial_cache_asked a_trial_before a_trial_after a_trial_tallies a_walk_row a_walk_picture u4.2) (wr := List.filterMap (fun i : Nat => (w_X10_fallAndRecover h_t r_t r_trial r_trial_cache r_walk F3 F_trial cI a_trial_cache_media a_trial_cache_stores a_trial_cache_held a_trial_cache_asked a_trial_before a_trial_after a_trial_tallies a_walk_row a_walk_picture a_walk_settled)[i]?) [0, 2, 3, 4, 5, 6, 9, 11]) (z_rV (rest := [.int (F3 5), .ref h_t]) hx hb hml hown hcx hl.1 (c_X9_fateBy l D cI (r_t 2) (r_t 0) r_walk r_trial F_trial a_walk_picture a_walk_settled a_trial_before a_trial_after u4 hu4 _) tl_X10_96 ti_X9_fateBy tz_X9_fateBy tn_X9 tc_X9_fateBy tm_X9_fateBy rfl rfl ⟨Nat.le_of_ble_eq_true rfl, Nat.le_of_ble_eq_true rfl⟩ hK hX hS hA hP hD [10, 12, 13, 1, 7, 8] rfl rfl 10 rfl rfl rfl rfl (Nat.le_of_ble_eq_true rfl) dX10_fallAndRecover_110 ⟨Nat.zero_le _, Nat.zero_le _⟩) hP hD hS hA [10, 12, 13, 1, 7, 8] [0, 2, 3, 4, 5, 6, 9, 11] [0, 11, 1, 2, 3, 4, 5, 12, 13, 6, 8, 7, 9, 10] rfl rfl rfl (by decide) rfl rfl (fun H locs hP hD hS => ?_)
    refine lv_iconst (v := 3) hx hb dX10_fallAndRecover_113 (by decide) ?_
    refine z_icmp_ne (tgt := 121) hx hb dX10_fallAndRecover_114 (by decide) hf (fun hf => ?_) (fun hf => ?_)
    · refine lv_iconst (v := 0) hx hb dX10_fallAndRecover_121 (by decide) ?_
      exact L122 (F3 5) 0 F3 F_trial a_trial_cache_media a_trial_cache_held a_trial_cache_asked a_trial_before a_trial_after a_trial_tallies a_walk_row a_walk_picture u4.2 _ _ _ hf hP hD hS (lv_sub hl [0] rfl)
    · refine lv_iconst (v := 1) hx hb dX10_fallAndRecover_117 (by decide) ?_
      refine lv_goto (tgt := 122) hx hb dX10_fallAndRecover_118 (by decide) ?_
      exact L122 (F3 5) 1 F3 F_trial a_trial_cache_media a_trial_cache_held a_trial_cache_asked a_trial_before a_trial_after a_trial_tallies a_walk_row a_walk_picture u4.2 _ _ _ hf hP hD hS (lv_sub hl [0] rfl)
  have L27 : ∀ (n27 : Nat) (x1 : Int32) (F_t : Nat → Int32) (F_trial : Nat → Int32) (a_trial_cache_media : Nat → Int32) (a_trial_cache_held : Nat → Int32) (a_trial_cache_asked : Nat → Int32) (a_trial_before : Nat → Int32) (a_trial_after : Nat → Int32) (a_trial_tallies : Nat → Int32) (a_walk_row : Nat → Int32) (a_walk_picture : Nat → Int32) (a_walk_settled : Nat → Int32) (H : Heap) (locs : List Loc) (ls : Array Slot), m_X10_fallAndRecover_w27 a_trial_cache_stores (m_X10_fallAndRecover_j87 a_trial_cache_stores) n27 x1 F_t F_trial a_trial_cache_media a_trial_cache_held a_trial_cache_asked a_trial_before a_trial_after a_trial_tallies a_walk_row a_walk_picture a_walk_settled = some Rr → va_P D vwCl (w_X10_fallAndRecover h_t r_t r_trial r_trial_cache r_walk F_t F_trial cI a_trial_cache_media a_trial_cache_stores a_trial_cache_held a_trial_cache_asked a_trial_before a_trial_after a_trial_tallies a_walk_row a_walk_picture a_walk_settled) H → va_D A (w_X10_fallAndRecover h_t r_t r_trial r_trial_cache r_walk F_t F_trial cI a_trial_cache_media a_trial_cache_stores a_trial_cache_held a_trial_cache_asked a_trial_before a_trial_after a_trial_tallies a_walk_row a_walk_picture a_walk_settled) → va_S A s.heap H locs → lv_has ls 2 [(0, .ref h_t), (1, .int x1)] → W p l e rm_X10_fallAndRecover s m args below meth c H locs 0 0 Q (F0 m 27 ls []) := by
    intro n27
    induction n27 with
    | zero => intro x1 F_t F_trial a_trial_cache_media a_trial_cache_held a_trial_cache_asked a_trial_before a_trial_after a_trial_tallies a_walk_row a_walk_picture a_walk_settled H locs ls hf; cases (show (none : Option _) = some Rr from hf)
    | succ n27 ih27 =>
      intro x1 F_t F_trial a_trial_cache_media a_trial_cache_held a_trial_cache_asked a_trial_before a_trial_after a_trial_tallies a_walk_row a_walk_picture a_walk_settled H locs ls hf hP hD hS hl
      have hf := (m_X10_fallAndRecover_w27.eq_2 _ _ _ _ _ _ _ _ _ _ _ _ _ _ _).symm.trans hf
      have L81 : ∀ (x1 : Int32) (F_t : Nat → Int32) (F_trial : Nat → Int32) (a_trial_cache_media : Nat → Int32) (a_trial_cache_held : Nat → Int32) (a_trial_cache_asked : Nat → Int32) (a_trial_before : Nat → Int32) (a_trial_after : Nat → Int32) (a_trial_tallies : Nat → Int32) (a_walk_row : Nat → Int32) (a_walk_picture : Nat → Int32) (a_walk_settled : Nat → Int32) (H : Heap) (locs : List Loc) (ls : Array Slot), m_X10_fallAndRecover_j81 a_trial_cache_stores (m_X10_fallAndRecover_w27 a_trial_cache_stores (m_X10_fallAndRecover_j87 a_trial_cache_stores) n27) x1 F_t F_trial a_trial_cache_media a_trial_cache_held a_trial_cache_asked a_trial_before a_trial_after a_trial_tallies a_walk_row a_walk_picture a_walk_settled = some Rr → va_P D vwCl (w_X10_fallAndRecover h_t r_t r_trial r_trial_cache r_walk F_t F_trial cI a_trial_cache_media a_trial_cache_stores a_trial_cache_held a_trial_cache_asked a_trial_before a_trial_after a_trial_tallies a_walk_row a_walk_picture a_walk_settled) H → va_D A (w_X10_fallAndRecover h_t r_t r_trial r_trial_cache r_walk F_t F_trial cI a_trial_cache_media a_trial_cache_stores a_trial_cache_held a_trial_cache_asked a_trial_before a_trial_after a_trial_tallies a_walk_row a_walk_picture a_walk_settled) → va_S A s.heap H locs → lv_has ls 2 [(0, .ref h_t), (1, .int x1)] → W p l e rm_X10_fallAndRecover s m args below meth c H locs 0 0 Q (F0 m 81 ls []) := by
        intro x1 F_t F_trial a_trial_cache_media a_trial_cache_held a_trial_cache_asked a_trial_before a_trial_after a_trial_tallies a_walk_row a_walk_picture a_walk_settled H locs ls hf hP hD hS hl
        have hf := (m_X10_fallAndRecover_j81.eq_1 _ _ _ _ _ _ _ _ _ _ _ _ _ _).symm.trans hf
        refine z_iinc (k0 := 1) (fun z => [(1, .int z), (0, .ref h_t)]) hx hb dX10_fallAndRecover_81 hl rfl (by decide) (by decide) (fun _ => rfl) hf (fun v8 ls hf hl => ?_)
        refine lv_goto (tgt := 27) hx hb dX10_fallAndRecover_84 (by decide) ?_
        exact ih27 v8 F_t F_trial a_trial_cache_media a_trial_cache_held a_trial_cache_asked a_trial_before a_trial_after a_trial_tallies a_walk_row a_walk_picture a_walk_settled _ _ _ hf hP hD hS (lv_sub hl [1, 0] rfl)
      refine lv_iload_n hx hb dX10_fallAndRecover_27 rfl (lv_at hl 1 rfl) ?_
      refine lv_bipush (v := 16) hx hb dX10_fallAndRecover_28 (by decide) ?_
      refine z_icmp_ge (tgt := 87) hx hb dX10_fallAndRecover_30 (by decide) hf (fun hf => ?_) (fun hf => ?_)
      · exact L87 F_t F_trial a_trial_cache_media a_trial_cache_held a_trial_cache_asked a_trial_before a_trial_after a_trial_tallies a_walk_row a_walk_picture a_walk_settled _ _ _ hf hP hD hS (lv_sub hl [0] rfl)
      · refine lv_aload_n hx hb dX10_fallAndRecover_33 rfl (lv_at hl 0 rfl) ?_
        refine z_get (ci := 10) (C := RX10) (T := TX10) (N := 6) (v := .ref (r_t 0)) hx hb hts inT_X10 hown hK hP 0 rfl rfl 0 (by decide) tf_X10_12 rfl dX10_fallAndRecover_34 ?_
        refine z_get (ci := 4) (C := RX4) (T := TX4) (N := 12) (v := .ref (r_trial 0)) hx hb hts inT_X4 hown hK hP 1 rfl rfl 0 (by decide) tf_X10_54 rfl dX10_fallAndRecover_37 ?_
        refine z_get (ci := 1) (C := RX1) (T := TX1) (N := 4) (v := .ref (r_trial_cache 2)) hx hb hts inT_X1 hown hK hP 2 rfl rfl 2 (by decide) tf_X10_58 rfl dX10_fallAndRecover_40 ?_
        refine lv_iload_n hx hb dX10_fallAndRecover_43 rfl (lv_at hl 1 rfl) ?_
        refine z_iald hx hb hK hP 5 rfl dX10_fallAndRecover_44 hf (fun y7 hf => ?_)
        refine z_if_le (tgt := 81) hx hb dX10_fallAndRecover_45 (by decide) hf (fun hf => ?_) (fun hf => ?_)
        · exact L81 x1 F_t F_trial a_trial_cache_media a_trial_cache_held a_trial_cache_asked a_trial_before a_trial_after a_trial_tallies a_walk_row a_walk_picture a_walk_settled _ _ _ hf hP hD hS (lv_sub hl [0, 1] rfl)
        · refine lv_aload_n hx hb dX10_fallAndRecover_48 rfl (lv_at hl 0 rfl) ?_
          refine z_get (ci := 10) (C := RX10) (T := TX10) (N := 6) (v := .ref (r_t 2)) hx hb hts inT_X10 hown hK hP 0 rfl rfl 2 (by decide) tf_X10_28 rfl dX10_fallAndRecover_49 ?_
          refine lv_aload_n hx hb dX10_fallAndRecover_52 rfl (lv_at hl 0 rfl) ?_
          refine z_get (ci := 10) (C := RX10) (T := TX10) (N := 6) (v := .ref (r_t 0)) hx hb hts inT_X10 hown hK hP 0 rfl rfl 0 (by decide) tf_X10_12 rfl dX10_fallAndRecover_53 ?_
          refine z_get (ci := 4) (C := RX4) (T := TX4) (N := 12) (v := .ref (r_trial 0)) hx hb hts inT_X4 hown hK hP 1 rfl rfl 0 (by decide) tf_X10_54 rfl dX10_fallAndRecover_56 ?_
          refine lv_iload_n hx hb dX10_fallAndRecover_59 rfl (lv_at hl 1 rfl) ?_
          refine lv_aload_n hx hb dX10_fallAndRecover_60 rfl (lv_at hl 0 rfl) ?_
          refine lv_aload_n hx hb dX10_fallAndRecover_61 rfl (lv_at hl 0 rfl) ?_
          refine z_get (ci := 10) (C := RX10) (T := TX10) (N := 6) (v := .ref (r_t 0)) hx hb hts inT_X10 hown hK hP 0 rfl rfl 0 (by decide) tf_X10_12 rfl dX10_fallAndRecover_62 ?_
          refine z_get (ci := 4) (C := RX4) (T := TX4) (N := 12) (v := .ref (r_trial 0)) hx hb hts inT_X4 hown hK hP 1 rfl rfl 0 (by decide) tf_X10_54 rfl dX10_fallAndRecover_65 ?_
          refine z_get (ci := 1) (C := RX1) (T := TX1) (N := 4) (v := .ref (r_trial_cache 2)) hx hb hts inT_X1 hown hK hP 2 rfl rfl 2 (by decide) tf_X10_58 rfl dX10_fallAndRecover_68 ?_
          refine lv_iload_n hx hb dX10_fallAndRecover_71 rfl (lv_at hl 1 rfl) ?_
          refine z_iald hx hb hK hP 5 rfl dX10_fallAndRecover_72 hf (fun y9 hf => ?_)
          refine lv_iconst (v := 1) hx hb dX10_fallAndRecover_73 (by decide) ?_
          refine lv_iadd hx hb dX10_fallAndRecover_74 ?_
          obtain ⟨u10, hu10, hf⟩ := bd_some hf
          refine z_ci (ws1 := w_X10_fallAndRecover h_t r_t r_trial r_trial_cache r_walk u10.2 F_trial cI a_trial_cache_media a_trial_cache_stores a_trial_cache_held a_trial_cache_asked a_trial_before a_trial_after a_trial_tallies a_walk_row a_walk_picture a_walk_settled) (wr := List.filterMap (fun i : Nat => (w_X10_fallAndRecover h_t r_t r_trial r_trial_cache r_walk F_t F_trial cI a_trial_cache_media a_trial_cache_stores a_trial_cache_held a_trial_cache_asked a_trial_before a_trial_after a_trial_tallies a_walk_row a_walk_picture a_walk_settled)[i]?) [1, 2, 3, 4, 5, 6, 7, 8, 9, 10, 11, 12, 13]) (z_rV (rest := [.int x1, .ref (r_trial 0), .ref (r_t 2)]) hx hb hml hown hcx hl.1 (c_X10_draw l D cI h_t r_t F_t (y9 + 1) u10 hu10 _) tl_X10_46 ti_X10_draw tz_X10_draw tn_X10 tc_X10_draw tm_X10_draw rfl rfl ⟨Nat.le_of_ble_eq_true rfl, Nat.le_of_ble_eq_true rfl⟩ hK hX hS hA hP hD [0] rfl rfl 0 rfl rfl rfl rfl (Nat.le_of_ble_eq_true rfl) dX10_fallAndRecover_75 ⟨Nat.zero_le _, Nat.zero_le _⟩) hP hD hS hA [0] [1, 2, 3, 4, 5, 6, 7, 8, 9, 10, 11, 12, 13] [13, 0, 1, 2, 3, 4, 5, 6, 7, 8, 9, 10, 11, 12] rfl rfl rfl (by decide) rfl rfl (fun H locs hP hD hS => ?_)
          obtain ⟨u11, hu11, hf⟩ := bd_some hf
          refine z_cv (ws1 := w_X10_fallAndRecover h_t r_t r_trial r_trial_cache r_walk u10.2 F_trial cI a_trial_cache_media a_trial_cache_stores a_trial_cache_held a_trial_cache_asked a_trial_before a_trial_after a_trial_tallies u11.1 u11.2 a_walk_settled) (wr := List.filterMap (fun i : Nat => (w_X10_fallAndRecover h_t r_t r_trial r_trial_cache r_walk u10.2 F_trial cI a_trial_cache_media a_trial_cache_stores a_trial_cache_held a_trial_cache_asked a_trial_before a_trial_after a_trial_tallies a_walk_row a_walk_picture a_walk_settled)[i]?) [0, 1, 3, 6, 7, 8, 9, 13]) (z_rV (rest := []) hx hb hml hown hcx hl.1 (c_X9_raise l D cI (r_t 2) (r_trial 0) r_walk r_trial_cache a_walk_row a_walk_picture a_trial_cache_stores a_trial_cache_held x1 u10.1 u11 hu11 _) tl_X10_92 ti_X9_raise tz_X9_raise tn_X9 tc_X9_raise tm_X9_raise rfl rfl ⟨Nat.le_of_ble_eq_true rfl, Nat.le_of_ble_eq_true rfl⟩ hK hX hS hA hP hD [10, 11, 12, 2, 4, 5] rfl rfl 10 rfl rfl rfl rfl (Nat.le_of_ble_eq_true rfl) dX10_fallAndRecover_78 ⟨Nat.zero_le _, Nat.zero_le _⟩) hP hD hS hA [10, 11, 12, 2, 4, 5] [0, 1, 3, 6, 7, 8, 9, 13] [0, 1, 11, 2, 12, 13, 3, 4, 5, 6, 8, 9, 10, 7] rfl rfl rfl (by decide) rfl rfl (fun H locs hP hD hS => ?_)
          exact L81 x1 u10.2 F_trial a_trial_cache_media a_trial_cache_held a_trial_cache_asked a_trial_before a_trial_after a_trial_tallies u11.1 u11.2 a_walk_settled _ _ _ hf hP hD hS (lv_sub hl [0, 1] rfl)
  refine lv_aload_n hx hb dX10_fallAndRecover_0 rfl (lv_at hl 0 rfl) ?_
  refine z_get (ci := 10) (C := RX10) (T := TX10) (N := 6) (v := .ref (r_t 0)) hx hb hts inT_X10 hown hK hP 0 rfl rfl 0 (by decide) tf_X10_12 rfl dX10_fallAndRecover_1 ?_
  refine z_get (ci := 4) (C := RX4) (T := TX4) (N := 12) (v := .int (F_trial 8)) hx hb hts inT_X4 hown hK hP 1 rfl rfl 8 (by decide) tf_X10_85 rfl dX10_fallAndRecover_4 ?_
  refine lv_iconst (v := 1) hx hb dX10_fallAndRecover_7 (by decide) ?_
  refine z_icmp_eq (tgt := 137) hx hb dX10_fallAndRecover_8 (by decide) hf (fun hf => ?_) (fun hf => ?_)
  · exact L137 F_t F_trial a_trial_cache_media a_trial_cache_held a_trial_cache_asked a_trial_before a_trial_after a_trial_tallies a_walk_row a_walk_picture a_walk_settled _ _ _ hf hP hD hS (lv_sub hl [0] rfl)
  · refine lv_aload_n hx hb dX10_fallAndRecover_11 rfl (lv_at hl 0 rfl) ?_
    refine z_get (ci := 10) (C := RX10) (T := TX10) (N := 6) (v := .ref (r_t 2)) hx hb hts inT_X10 hown hK hP 0 rfl rfl 2 (by decide) tf_X10_28 rfl dX10_fallAndRecover_12 ?_
    refine lv_aload_n hx hb dX10_fallAndRecover_15 rfl (lv_at hl 0 rfl) ?_
    refine z_get (ci := 10) (C := RX10) (T := TX10) (N := 6) (v := .ref (r_t 0)) hx hb hts inT_X10 hown hK hP 0 rfl rfl 0 (by decide) tf_X10_12 rfl dX10_fallAndRecover_16 ?_
    refine z_get (ci := 4) (C := RX4) (T := TX4) (N := 12) (v := .ref (r_trial 0)) hx hb hts inT_X4 hown hK hP 1 rfl rfl 0 (by decide) tf_X10_54 rfl dX10_fallAndRecover_19 ?_
    obtain ⟨u2, hu2, hf⟩ := bd_some hf
    refine z_cv (ws1 := w_X10_fallAndRecover h_t r_t r_trial r_trial_cache r_walk F_t F_trial cI a_trial_cache_media a_trial_cache_stores a_trial_cache_held a_trial_cache_asked a_trial_before a_trial_after a_trial_tallies u2.1 u2.2 a_walk_settled) (wr := List.filterMap (fun i : Nat => (w_X10_fallAndRecover h_t r_t r_trial r_trial_cache r_walk F_t F_trial cI a_trial_cache_media a_trial_cache_stores a_trial_cache_held a_trial_cache_asked a_trial_before a_trial_after a_trial_tallies a_walk_row a_walk_picture a_walk_settled)[i]?) [0, 1, 4, 5, 6, 7, 8, 9, 13]) (z_rV (rest := []) hx hb hml hown hcx hl.1 (c_X9_start l D cI (r_t 2) (r_trial 0) r_walk r_trial_cache a_walk_row a_walk_picture a_trial_cache_media u2 hu2 _) tl_X10_88 ti_X9_start tz_X9_start tn_X9 tc_X9_start tm_X9_start rfl rfl ⟨Nat.le_of_ble_eq_true rfl, Nat.le_of_ble_eq_true rfl⟩ hK hX hS hA hP hD [10, 11, 12, 2, 3] rfl rfl 10 rfl rfl rfl rfl (Nat.le_of_ble_eq_true rfl) dX10_fallAndRecover_22 ⟨Nat.zero_le _, Nat.zero_le _⟩) hP hD hS hA [10, 11, 12, 2, 3] [0, 1, 4, 5, 6, 7, 8, 9, 13] [0, 1, 12, 13, 2, 3, 4, 5, 6, 7, 9, 10, 11, 8] rfl rfl rfl (by decide) rfl rfl (fun H locs hP hD hS => ?_)
    refine lv_iconst (v := 0) hx hb dX10_fallAndRecover_25 (by decide) ?_
    refine lv_istore_n (lv' := [(1, .int 0), (0, .ref h_t)]) hx hb dX10_fallAndRecover_26 rfl hl (by decide) rfl (fun ls hl => ?_)
    exact L27 fuelN 0 F_t F_trial a_trial_cache_media a_trial_cache_held a_trial_cache_asked a_trial_before a_trial_after a_trial_tallies u2.1 u2.2 a_walk_settled _ _ _ hf hP hD hS (lv_sub hl [1, 0] rfl)
abbrev w_X10_passOne (h_t : Nat) (r_t : Nat → Nat) (r_trial : Nat → Nat) (r_trial_cache : Nat → Nat) (r_planner : Nat → Nat) (r_planner_shapeNow : Nat → Nat) (r_walk : Nat → Nat) (F_t : Nat → Int32) (F_trial : Nat → Int32) (F_planner : Nat → Int32) (F_planner_shapeNow : Nat → Int32) (cI : ClassId) (a_trial_cache_media : Nat → Int32) (a_trial_cache_stores : Nat → Int32) (a_trial_cache_held : Nat → Int32) (a_trial_cache_asked : Nat → Int32) (a_trial_micros : Nat → Int32) (a_trial_before : Nat → Int32) (a_trial_after : Nat → Int32) (a_trial_waiting : Nat → Int32) (a_trial_tallies : Nat → Int32) (a_planner_words : Nat → Int32) (a_planner_addresses : Nat → Int32) (a_planner_numbers : Nat → Int32) (a_planner_olds : Nat → Int32) (a_walk_row : Nat → Int32) (a_walk_picture : Nat → Int32) (a_walk_settled : Nat → Int32) : va_W := [(h_t, .inr (10, o_X10 r_t F_t)), ((r_t 0), .inr (4, o_X4 r_trial F_trial)), ((r_trial 0), .inr (1, o_X1 r_trial_cache)), ((r_trial_cache 0), .inl (cI, 64, .inl a_trial_cache_media)), ((r_trial_cache 1), .inl (cI, 96, .inl a_trial_cache_stores)), ((r_trial_cache 2), .inl (cI, 16, .inl a_trial_cache_held)), ((r_trial_cache 3), .inl (cI, 16, .inl a_trial_cache_asked)), ((r_trial 1), .inl (cI, 80, .inl a_trial_micros)), ((r_trial 4), .inl (cI, 44, .inl a_trial_before)), ((r_trial 5), .inl (cI, 44, .inl a_trial_after)), ((r_trial 6), .inl (cI, 48, .inl a_trial_waiting)), ((r_trial 11), .inl (cI, 8, .inl a_trial_tallies)), ((r_t 1), .inr (5, o_X5 r_planner F_planner)), ((r_planner 0), .inl (cI, 64, .inl a_planner_words)), ((r_planner 1), .inl (cI, 8, .inl a_planner_addresses)), ((r_planner 2), .inl (cI, 8, .inl a_planner_numbers)), ((r_planner 3), .inl (cI, 8, .inl a_planner_olds)), ((r_planner 6), .inr (7, o_X7 r_planner_shapeNow F_planner_shapeNow)), ((r_t 2), .inr (9, o_X9 r_walk)), ((r_walk 0), .inl (cI, 16, .inl a_walk_row)), ((r_walk 1), .inl (cI, 64, .inl a_walk_picture)), ((r_walk 2), .inl (cI, 64, .inl a_walk_settled))]
abbrev rm_X10_passOne : Room := { frames := 6, cells := 0, slots := 0, locals := 138 }
def m_X10_passOne_w21 : Nat → Int32 → (Nat → Int32) → (Nat → Int32) → (Nat → Int32) → (Nat → Int32) → (Nat → Int32) → (Nat → Int32) → (Nat → Int32) → (Nat → Int32) → (Nat → Int32) → (Nat → Int32) → (Nat → Int32) → (Nat → Int32) → (Nat → Int32) → (Nat → Int32) → (Nat → Int32) → (Nat → Int32) → (Nat → Int32) → (Nat → Int32) → (Nat → Int32) → (Nat → Int32) → Option ((Nat → Int32) × (Nat → Int32) × (Nat → Int32) × (Nat → Int32) × (Nat → Int32) × (Nat → Int32) × (Nat → Int32) × (Nat → Int32) × (Nat → Int32) × (Nat → Int32) × (Nat → Int32) × (Nat → Int32) × (Nat → Int32) × (Nat → Int32) × (Nat → Int32) × (Nat → Int32) × (Nat → Int32) × (Nat → Int32) × (Nat → Int32) × (Nat → Int32))
  | 0, _, _, _, _, _, _, _, _, _, _, _, _, _, _, _, _, _, _, _, _, _ => none
  | n21 + 1, x2, F_t, F_trial, F_planner, F_planner_shapeNow, a_trial_cache_media, a_trial_cache_stores, a_trial_cache_held, a_trial_cache_asked, a_trial_micros, a_trial_before, a_trial_after, a_trial_waiting, a_trial_tallies, a_planner_words, a_planner_addresses, a_planner_numbers, a_planner_olds, a_walk_row, a_walk_picture, a_walk_settled =>
    if x2 ≤ 0 then (
    some (F_t, F_trial, F_planner, F_planner_shapeNow, a_trial_cache_media, a_trial_cache_stores, a_trial_cache_held, a_trial_cache_asked, a_trial_micros, a_trial_before, a_trial_after, a_trial_waiting, a_trial_tallies, a_planner_words, a_planner_addresses, a_planner_numbers, a_planner_olds, a_walk_row, a_walk_picture, a_walk_settled))
    else (
    bd (m_X4_step F_trial F_planner F_planner_shapeNow a_trial_cache_media a_trial_cache_stores a_trial_cache_held a_trial_cache_asked a_trial_micros a_trial_before a_trial_after a_trial_waiting a_trial_tallies a_planner_words a_planner_addresses a_planner_numbers a_planner_olds) fun u15 =>
    if u15.1 = 0 then (
    some (F_t, u15.2.1, u15.2.2.1, u15.2.2.2.1, u15.2.2.2.2.1, u15.2.2.2.2.2.1, u15.2.2.2.2.2.2.1, u15.2.2.2.2.2.2.2.1, u15.2.2.2.2.2.2.2.2.1, u15.2.2.2.2.2.2.2.2.2.1, u15.2.2.2.2.2.2.2.2.2.2.1, u15.2.2.2.2.2.2.2.2.2.2.2.1, u15.2.2.2.2.2.2.2.2.2.2.2.2.1, u15.2.2.2.2.2.2.2.2.2.2.2.2.2.1, u15.2.2.2.2.2.2.2.2.2.2.2.2.2.2.1, u15.2.2.2.2.2.2.2.2.2.2.2.2.2.2.2.1, u15.2.2.2.2.2.2.2.2.2.2.2.2.2.2.2.2, a_walk_row, a_walk_picture, a_walk_settled))
    else (
    nm (x2 + (-1)) fun v16 =>
    m_X10_passOne_w21 n21 v16 F_t u15.2.1 u15.2.2.1 u15.2.2.2.1 u15.2.2.2.2.1 u15.2.2.2.2.2.1 u15.2.2.2.2.2.2.1 u15.2.2.2.2.2.2.2.1 u15.2.2.2.2.2.2.2.2.1 u15.2.2.2.2.2.2.2.2.2.1 u15.2.2.2.2.2.2.2.2.2.2.1 u15.2.2.2.2.2.2.2.2.2.2.2.1 u15.2.2.2.2.2.2.2.2.2.2.2.2.1 u15.2.2.2.2.2.2.2.2.2.2.2.2.2.1 u15.2.2.2.2.2.2.2.2.2.2.2.2.2.2.1 u15.2.2.2.2.2.2.2.2.2.2.2.2.2.2.2.1 u15.2.2.2.2.2.2.2.2.2.2.2.2.2.2.2.2 a_walk_row a_walk_picture a_walk_settled))
def m_X10_passOne (F_t : Nat → Int32) (F_trial : Nat → Int32) (F_planner : Nat → Int32) (F_planner_shapeNow : Nat → Int32) (a_trial_cache_media : Nat → Int32) (a_trial_cache_stores : Nat → Int32) (a_trial_cache_held : Nat → Int32) (a_trial_cache_asked : Nat → Int32) (a_trial_micros : Nat → Int32) (a_trial_before : Nat → Int32) (a_trial_after : Nat → Int32) (a_trial_waiting : Nat → Int32) (a_trial_tallies : Nat → Int32) (a_planner_words : Nat → Int32) (a_planner_addresses : Nat → Int32) (a_planner_numbers : Nat → Int32) (a_planner_olds : Nat → Int32) (a_walk_row : Nat → Int32) (a_walk_picture : Nat → Int32) (a_walk_settled : Nat → Int32) : Option ((Nat → Int32) × (Nat → Int32) × (Nat → Int32) × (Nat → Int32) × (Nat → Int32) × (Nat → Int32) × (Nat → Int32) × (Nat → Int32) × (Nat → Int32) × (Nat → Int32) × (Nat → Int32) × (Nat → Int32) × (Nat → Int32) × (Nat → Int32) × (Nat → Int32) × (Nat → Int32) × (Nat → Int32) × (Nat → Int32) × (Nat → Int32) × (Nat → Int32)) :=
  bd (m_X10_draw F_t 8) fun u1 =>
  if 4 ≤ u1.1 then (
  if u1.1 = 4 then (
  bd (m_X10_draw u1.2 16) fun u10 =>
  rd a_trial_cache_held 16 u10.1 fun y11 =>
  bd (m_X1_reach a_trial_cache_media a_trial_cache_stores a_trial_cache_held a_trial_cache_asked u10.1 (if y11 < 1 then y11 else 1)) fun u12 =>
  some (u10.2, F_trial, F_planner, F_planner_shapeNow, u12.1, u12.2.1, u12.2.2.1, u12.2.2.2, a_trial_micros, a_trial_before, a_trial_after, a_trial_waiting, a_trial_tallies, a_planner_words, a_planner_addresses, a_planner_numbers, a_planner_olds, a_walk_row, a_walk_picture, a_walk_settled))
  else (
  if u1.1 = 5 then (
  bd (m_X10_fallAndRecover u1.2 F_trial a_trial_cache_media a_trial_cache_stores a_trial_cache_held a_trial_cache_asked a_trial_before a_trial_after a_trial_tallies a_walk_row a_walk_picture a_walk_settled) fun u9 =>
  some (u9.1, u9.2.1, F_planner, F_planner_shapeNow, u9.2.2.1, a_trial_cache_stores, u9.2.2.2.1, u9.2.2.2.2.1, a_trial_micros, u9.2.2.2.2.2.1, u9.2.2.2.2.2.2.1, a_trial_waiting, u9.2.2.2.2.2.2.2.1, a_planner_words, a_planner_addresses, a_planner_numbers, a_planner_olds, u9.2.2.2.2.2.2.2.2.1, u9.2.2.2.2.2.2.2.2.2.1, u9.2.2.2.2.2.2.2.2.2.2))
  else (
  if u1.1 = 6 then (
  bd (m_X10_draw u1.2 4) fun u5 =>
  bd (m_X10_draw u5.2 10) fun u6 =>
  bd (m_X11_packOp 0 u5.1 u6.1) fun u7 =>
  bd (m_X4_addWaiting F_trial a_trial_waiting u7) fun u8 =>
  some (u6.2, u8.1, F_planner, F_planner_shapeNow, a_trial_cache_media, a_trial_cache_stores, a_trial_cache_held, a_trial_cache_asked, a_trial_micros, a_trial_before, a_trial_after, u8.2, a_trial_tallies, a_planner_words, a_planner_addresses, a_planner_numbers, a_planner_olds, a_walk_row, a_walk_picture, a_walk_settled))
  else (
  bd (m_X10_draw u1.2 4) fun u2 =>
  bd (m_X11_packOp 1 u2.1 0) fun u3 =>
  bd (m_X4_addWaiting F_trial a_trial_waiting u3) fun u4 =>
  some (u2.2, u4.1, F_planner, F_planner_shapeNow, a_trial_cache_media, a_trial_cache_stores, a_trial_cache_held, a_trial_cache_asked, a_trial_micros, a_trial_before, a_trial_after, u4.2, a_trial_tallies, a_planner_words, a_planner_addresses, a_planner_numbers, a_planner_olds, a_walk_row, a_walk_picture, a_walk_settled)))))
  else (
  bd (m_X10_draw u1.2 6) fun u13 =>
  nm (u13.1 + 1) fun v14 =>
  m_X10_passOne_w21 fuelN v14 u13.2 F_trial F_planner F_planner_shapeNow a_trial_cache_media a_trial_cache_stores a_trial_cache_held a_trial_cache_asked a_trial_micros a_trial_before a_trial_after a_trial_waiting a_trial_tallies a_planner_words a_planner_addresses a_planner_numbers a_planner_olds a_walk_row a_walk_picture a_walk_settled)
set_option maxHeartbeats 4000000 in
set_option maxRecDepth 100000 in
theorem c_X10_passOne (l : Launch) (D : va_G) (cI : ClassId) (h_t : Nat) (r_t : Nat → Nat) (r_trial : Nat → Nat) (r_trial_cache : Nat → Nat) (r_planner : Nat → Nat) (r_planner_shapeNow : Nat → Nat) (r_walk : Nat → Nat) (F_t : Nat → Int32) (F_trial : Nat → Int32) (F_planner : Nat → Int32) (F_planner_shapeNow : Nat → Int32) (a_trial_cache_media : Nat → Int32) (a_trial_cache_stores : Nat → Int32) (a_trial_cache_held : Nat → Int32) (a_trial_cache_asked : Nat → Int32) (a_trial_micros : Nat → Int32) (a_trial_before : Nat → Int32) (a_trial_after : Nat → Int32) (a_trial_waiting : Nat → Int32) (a_trial_tallies : Nat → Int32) (a_planner_words : Nat → Int32) (a_planner_addresses : Nat → Int32) (a_planner_numbers : Nat → Int32) (a_planner_olds : Nat → Int32) (a_walk_row : Nat → Int32) (a_walk_picture : Nat → Int32) (a_walk_settled : Nat → Int32) (Rr : (Nat → Int32) × (Nat → Int32) × (Nat → Int32) × (Nat → Int32) × (Nat → Int32) × (Nat → Int32) × (Nat → Int32) × (Nat → Int32) × (Nat → Int32) × (Nat → Int32) × (Nat → Int32) × (Nat → Int32) × (Nat → Int32) × (Nat → Int32) × (Nat → Int32) × (Nat → Int32) × (Nat → Int32) × (Nat → Int32) × (Nat → Int32) × (Nat → Int32)) (hf : m_X10_passOne F_t F_trial F_planner F_planner_shapeNow a_trial_cache_media a_trial_cache_stores a_trial_cache_held a_trial_cache_asked a_trial_micros a_trial_before a_trial_after a_trial_waiting a_trial_tallies a_planner_words a_planner_addresses a_planner_numbers a_planner_olds a_walk_row a_walk_picture a_walk_settled = some Rr) : CTv l yX10_passOne (Cond.code yX10_passOne cX10_passOne 3 none) rm_X10_passOne D cI [.ref h_t] (w_X10_passOne h_t r_t r_trial r_trial_cache r_planner r_planner_shapeNow r_walk F_t F_trial F_planner F_planner_shapeNow cI a_trial_cache_media a_trial_cache_stores a_trial_cache_held a_trial_cache_asked a_trial_micros a_trial_before a_trial_after a_trial_waiting a_trial_tallies a_planner_words a_planner_addresses a_planner_numbers a_planner_olds a_walk_row a_walk_picture a_walk_settled) (w_X10_passOne h_t r_t r_trial r_trial_cache r_planner r_planner_shapeNow r_walk Rr.1 Rr.2.1 Rr.2.2.1 Rr.2.2.2.1 cI Rr.2.2.2.2.1 Rr.2.2.2.2.2.1 Rr.2.2.2.2.2.2.1 Rr.2.2.2.2.2.2.2.1 Rr.2.2.2.2.2.2.2.2.1 Rr.2.2.2.2.2.2.2.2.2.1 Rr.2.2.2.2.2.2.2.2.2.2.1 Rr.2.2.2.2.2.2.2.2.2.2.2.1 Rr.2.2.2.2.2.2.2.2.2.2.2.2.1 Rr.2.2.2.2.2.2.2.2.2.2.2.2.2.1 Rr.2.2.2.2.2.2.2.2.2.2.2.2.2.2.1 Rr.2.2.2.2.2.2.2.2.2.2.2.2.2.2.2.1 Rr.2.2.2.2.2.2.2.2.2.2.2.2.2.2.2.2.1 Rr.2.2.2.2.2.2.2.2.2.2.2.2.2.2.2.2.2.1 Rr.2.2.2.2.2.2.2.2.2.2.2.2.2.2.2.2.2.2.1 Rr.2.2.2.2.2.2.2.2.2.2.2.2.2.2.2.2.2.2.2) := by
  refine z_begin_v (own := RX10) (ρ := (Nat → Int32) × (Nat → Int32) × (Nat → Int32) × (Nat → Int32) × (Nat → Int32) × (Nat → Int32) × (Nat → Int32) × (Nat → Int32) × (Nat → Int32) × (Nat → Int32) × (Nat → Int32) × (Nat → Int32) × (Nat → Int32) × (Nat → Int32) × (Nat → Int32) × (Nat → Int32) × (Nat → Int32) × (Nat → Int32) × (Nat → Int32) × (Nat → Int32)) (fun u => w_X10_passOne h_t r_t r_trial r_trial_cache r_planner r_planner_shapeNow r_walk u.1 u.2.1 u.2.2.1 u.2.2.2.1 cI u.2.2.2.2.1 u.2.2.2.2.2.1 u.2.2.2.2.2.2.1 u.2.2.2.2.2.2.2.1 u.2.2.2.2.2.2.2.2.1 u.2.2.2.2.2.2.2.2.2.1 u.2.2.2.2.2.2.2.2.2.2.1 u.2.2.2.2.2.2.2.2.2.2.2.1 u.2.2.2.2.2.2.2.2.2.2.2.2.1 u.2.2.2.2.2.2.2.2.2.2.2.2.2.1 u.2.2.2.2.2.2.2.2.2.2.2.2.2.2.1 u.2.2.2.2.2.2.2.2.2.2.2.2.2.2.2.1 u.2.2.2.2.2.2.2.2.2.2.2.2.2.2.2.2.1 u.2.2.2.2.2.2.2.2.2.2.2.2.2.2.2.2.2.1 u.2.2.2.2.2.2.2.2.2.2.2.2.2.2.2.2.2.2.1 u.2.2.2.2.2.2.2.2.2.2.2.2.2.2.2.2.2.2.2) (by decide +kernel) rfl (Nat.le_of_ble_eq_true rfl) ?_
  intro p e s m args below meth c ls Q A hx hb hml hts hcx hown hK hX hA hP hD hS hl hret
  have hl : lv_has ls 3 [(0, .ref h_t)] := hl
  have hf := (m_X10_passOne.eq_1 _ _ _ _ _ _ _ _ _ _ _ _ _ _ _ _ _ _ _ _).symm.trans hf
  have L21 : ∀ (n21 : Nat) (x2 : Int32) (F_t : Nat → Int32) (F_trial : Nat → Int32) (F_planner : Nat → Int32) (F_planner_shapeNow : Nat → Int32) (a_trial_cache_media : Nat → Int32) (a_trial_cache_stores : Nat → Int32) (a_trial_cache_held : Nat → Int32) (a_trial_cache_asked : Nat → Int32) (a_trial_micros : Nat → Int32) (a_trial_before : Nat → Int32) (a_trial_after : Nat → Int32) (a_trial_waiting : Nat → Int32) (a_trial_tallies : Nat → Int32) (a_planner_words : Nat → Int32) (a_planner_addresses : Nat → Int32) (a_planner_numbers : Nat → Int32) (a_planner_olds : Nat → Int32) (a_walk_row : Nat → Int32) (a_walk_picture : Nat → Int32) (a_walk_settled : Nat → Int32) (H : Heap) (locs : List Loc) (ls : Array Slot), m_X10_passOne_w21 n21 x2 F_t F_trial F_planner F_planner_shapeNow a_trial_cache_media a_trial_cache_stores a_trial_cache_held a_trial_cache_asked a_trial_micros a_trial_before a_trial_after a_trial_waiting a_trial_tallies a_planner_words a_planner_addresses a_planner_numbers a_planner_olds a_walk_row a_walk_picture a_walk_settled = some Rr → va_P D vwCl (w_X10_passOne h_t r_t r_trial r_trial_cache r_planner r_planner_shapeNow r_walk F_t F_trial F_planner F_planner_shapeNow cI a_trial_cache_media a_trial_cache_stores a_trial_cache_held a_trial_cache_asked a_trial_micros a_trial_before a_trial_after a_trial_waiting a_trial_tallies a_planner_words a_planner_addresses a_planner_numbers a_planner_olds a_walk_row a_walk_picture a_walk_settled) H → va_D A (w_X10_passOne h_t r_t r_trial r_trial_cache r_planner r_planner_shapeNow r_walk F_t F_trial F_planner F_planner_shapeNow cI a_trial_cache_media a_trial_cache_stores a_trial_cache_held a_trial_cache_asked a_trial_micros a_trial_before a_trial_after a_trial_waiting a_trial_tallies a_planner_words a_planner_addresses a_planner_numbers a_planner_olds a_walk_row a_walk_picture a_walk_settled) → va_S A s.heap H locs → lv_has ls 3 [(0, .ref h_t), (2, .int x2)] → W p l e rm_X10_passOne s m args below meth c H locs 0 0 Q (F0 m 21 ls []) := by
    intro n21
    induction n21 with
    | zero => intro x2 F_t F_trial F_planner F_planner_shapeNow a_trial_cache_media a_trial_cache_stores a_trial_cache_held a_trial_cache_asked a_trial_micros a_trial_before a_trial_after a_trial_waiting a_trial_tallies a_planner_words a_planner_addresses a_planner_numbers a_planner_olds a_walk_row a_walk_picture a_walk_settled H locs ls hf; cases (show (none : Option _) = some Rr from hf)
    | succ n21 ih21 =>
      intro x2 F_t F_trial F_planner F_planner_shapeNow a_trial_cache_media a_trial_cache_stores a_trial_cache_held a_trial_cache_asked a_trial_micros a_trial_before a_trial_after a_trial_waiting a_trial_tallies a_planner_words a_planner_addresses a_planner_numbers a_planner_olds a_walk_row a_walk_picture a_walk_settled H locs ls hf hP hD hS hl
      have hf := (m_X10_passOne_w21.eq_2 _ _ _ _ _ _ _ _ _ _ _ _ _ _ _ _ _ _ _ _ _ _).symm.trans hf
      refine lv_iload_n hx hb dX10_passOne_21 rfl (lv_at hl 1 rfl) ?_
      refine z_if_le (tgt := 45) hx hb dX10_passOne_22 (by decide) hf (fun hf => ?_) (fun hf => ?_)
      · refine lv_goto (tgt := 152) hx hb dX10_passOne_45 (by decide) ?_
        exact hret (F_t, F_trial, F_planner, F_planner_shapeNow, a_trial_cache_media, a_trial_cache_stores, a_trial_cache_held, a_trial_cache_asked, a_trial_micros, a_trial_before, a_trial_after, a_trial_waiting, a_trial_tallies, a_planner_words, a_planner_addresses, a_planner_numbers, a_planner_olds, a_walk_row, a_walk_picture, a_walk_settled) _ _ _ _ hf hP hD hS dX10_passOne_152
      · refine lv_aload_n hx hb dX10_passOne_25 rfl (lv_at hl 0 rfl) ?_
        refine z_get (ci := 10) (C := RX10) (T := TX10) (N := 6) (v := .ref (r_t 0)) hx hb hts inT_X10 hown hK hP 0 rfl rfl 0 (by decide) tf_X10_12 rfl dX10_passOne_26 ?_
        refine lv_aload_n hx hb dX10_passOne_29 rfl (lv_at hl 0 rfl) ?_
        refine z_get (ci := 10) (C := RX10) (T := TX10) (N := 6) (v := .ref (r_t 1)) hx hb hts inT_X10 hown hK hP 0 rfl rfl 1 (by decide) tf_X10_21 rfl dX10_passOne_30 ?_
        obtain ⟨u15, hu15, hf⟩ := bd_some hf
        refine z_ci (ws1 := w_X10_passOne h_t r_t r_trial r_trial_cache r_planner r_planner_shapeNow r_walk F_t u15.2.1 u15.2.2.1 u15.2.2.2.1 cI u15.2.2.2.2.1 u15.2.2.2.2.2.1 u15.2.2.2.2.2.2.1 u15.2.2.2.2.2.2.2.1 u15.2.2.2.2.2.2.2.2.1 u15.2.2.2.2.2.2.2.2.2.1 u15.2.2.2.2.2.2.2.2.2.2.1 u15.2.2.2.2.2.2.2.2.2.2.2.1 u15.2.2.2.2.2.2.2.2.2.2.2.2.1 u15.2.2.2.2.2.2.2.2.2.2.2.2.2.1 u15.2.2.2.2.2.2.2.2.2.2.2.2.2.2.1 u15.2.2.2.2.2.2.2.2.2.2.2.2.2.2.2.1 u15.2.2.2.2.2.2.2.2.2.2.2.2.2.2.2.2 a_walk_row a_walk_picture a_walk_settled) (wr := List.filterMap (fun i : Nat => (w_X10_passOne h_t r_t r_trial r_trial_cache r_planner r_planner_shapeNow r_walk F_t F_trial F_planner F_planner_shapeNow cI a_trial_cache_media a_trial_cache_stores a_trial_cache_held a_trial_cache_asked a_trial_micros a_trial_before a_trial_after a_trial_waiting a_trial_tallies a_planner_words a_planner_addresses a_planner_numbers a_planner_olds a_walk_row a_walk_picture a_walk_settled)[i]?) [0, 18, 19, 20, 21]) (z_rV (rest := []) hx hb hml hown hcx hl.1 (c_X4_step l D cI (r_t 0) (r_t 1) r_trial r_trial_cache r_planner r_planner_shapeNow F_trial F_planner F_planner_shapeNow a_trial_cache_media a_trial_cache_stores a_trial_cache_held a_trial_cache_asked a_trial_micros a_trial_before a_trial_after a_trial_waiting a_trial_tallies a_planner_words a_planner_addresses a_planner_numbers a_planner_olds u15 hu15 _) tl_X10_50 ti_X4_step tz_X4_step tn_X4 tc_X4_step tm_X4_step rfl rfl ⟨Nat.le_of_ble_eq_true rfl, Nat.le_of_ble_eq_true rfl⟩ hK hX hS hA hP hD [1, 2, 3, 4, 5, 6, 7, 8, 9, 10, 11, 12, 13, 14, 15, 16, 17] rfl rfl 1 rfl rfl rfl rfl (Nat.le_of_ble_eq_true rfl) dX10_passOne_33 ⟨Nat.zero_le _, Nat.zero_le _⟩) hP hD hS hA [1, 2, 3, 4, 5, 6, 7, 8, 9, 10, 11, 12, 13, 14, 15, 16, 17] [0, 18, 19, 20, 21] [0, 5, 6, 7, 8, 9, 10, 11, 12, 13, 14, 15, 16, 17, 18, 19, 20, 21, 1, 2, 3, 4] rfl rfl rfl (by decide) rfl rfl (fun H locs hP hD hS => ?_)
        refine z_if_eq (tgt := 45) hx hb dX10_passOne_36 (by decide) hf (fun hf => ?_) (fun hf => ?_)
        · refine lv_goto (tgt := 152) hx hb dX10_passOne_45 (by decide) ?_
          exact hret (F_t, u15.2.1, u15.2.2.1, u15.2.2.2.1, u15.2.2.2.2.1, u15.2.2.2.2.2.1, u15.2.2.2.2.2.2.1, u15.2.2.2.2.2.2.2.1, u15.2.2.2.2.2.2.2.2.1, u15.2.2.2.2.2.2.2.2.2.1, u15.2.2.2.2.2.2.2.2.2.2.1, u15.2.2.2.2.2.2.2.2.2.2.2.1, u15.2.2.2.2.2.2.2.2.2.2.2.2.1, u15.2.2.2.2.2.2.2.2.2.2.2.2.2.1, u15.2.2.2.2.2.2.2.2.2.2.2.2.2.2.1, u15.2.2.2.2.2.2.2.2.2.2.2.2.2.2.2.1, u15.2.2.2.2.2.2.2.2.2.2.2.2.2.2.2.2, a_walk_row, a_walk_picture, a_walk_settled) _ _ _ _ hf hP hD hS dX10_passOne_152
        · refine z_iinc (k0 := 1) (fun z => [(2, .int z), (0, .ref h_t)]) hx hb dX10_passOne_39 hl rfl (by decide) (by decide) (fun _ => rfl) hf (fun v16 ls hf hl => ?_)
          refine lv_goto (tgt := 21) hx hb dX10_passOne_42 (by decide) ?_
          exact ih21 v16 F_t u15.2.1 u15.2.2.1 u15.2.2.2.1 u15.2.2.2.2.1 u15.2.2.2.2.2.1 u15.2.2.2.2.2.2.1 u15.2.2.2.2.2.2.2.1 u15.2.2.2.2.2.2.2.2.1 u15.2.2.2.2.2.2.2.2.2.1 u15.2.2.2.2.2.2.2.2.2.2.1 u15.2.2.2.2.2.2.2.2.2.2.2.1 u15.2.2.2.2.2.2.2.2.2.2.2.2.1 u15.2.2.2.2.2.2.2.2.2.2.2.2.2.1 u15.2.2.2.2.2.2.2.2.2.2.2.2.2.2.1 u15.2.2.2.2.2.2.2.2.2.2.2.2.2.2.2.1 u15.2.2.2.2.2.2.2.2.2.2.2.2.2.2.2.2 a_walk_row a_walk_picture a_walk_settled _ _ _ hf hP hD hS (lv_sub hl [1, 0] rfl)
  refine lv_aload_n hx hb dX10_passOne_0 rfl (lv_at hl 0 rfl) ?_
  refine lv_bipush (v := 8) hx hb dX10_passOne_1 (by decide) ?_
  obtain ⟨u1, hu1, hf⟩ := bd_some hf
  refine z_ci (ws1 := w_X10_passOne h_t r_t r_trial r_trial_cache r_planner r_planner_shapeNow r_walk u1.2 F_trial F_planner F_planner_shapeNow cI a_trial_cache_media a_trial_cache_stores a_trial_cache_held a_trial_cache_asked a_trial_micros a_trial_before a_trial_after a_trial_waiting a_trial_tallies a_planner_words a_planner_addresses a_planner_numbers a_planner_olds a_walk_row a_walk_picture a_walk_settled) (wr := List.filterMap (fun i : Nat => (w_X10_passOne h_t r_t r_trial r_trial_cache r_planner r_planner_shapeNow r_walk F_t F_trial F_planner F_planner_shapeNow cI a_trial_cache_media a_trial_cache_stores a_trial_cache_held a_trial_cache_asked a_trial_micros a_trial_before a_trial_after a_trial_waiting a_trial_tallies a_planner_words a_planner_addresses a_planner_numbers a_planner_olds a_walk_row a_walk_picture a_walk_settled)[i]?) [1, 2, 3, 4, 5, 6, 7, 8, 9, 10, 11, 12, 13, 14, 15, 16, 17, 18, 19, 20, 21]) (z_rV (rest := []) hx hb hml hown hcx hl.1 (c_X10_draw l D cI h_t r_t F_t 8 u1 hu1 _) tl_X10_46 ti_X10_draw tz_X10_draw tn_X10 tc_X10_draw tm_X10_draw rfl rfl ⟨Nat.le_of_ble_eq_true rfl, Nat.le_of_ble_eq_true rfl⟩ hK hX hS hA hP hD [0] rfl rfl 0 rfl rfl rfl rfl (Nat.le_of_ble_eq_true rfl) dX10_passOne_3 ⟨Nat.zero_le _, Nat.zero_le _⟩) hP hD hS hA [0] [1, 2, 3, 4, 5, 6, 7, 8, 9, 10, 11, 12, 13, 14, 15, 16, 17, 18, 19, 20, 21] [21, 0, 1, 2, 3, 4, 5, 6, 7, 8, 9, 10, 11, 12, 13, 14, 15, 16, 17, 18, 19, 20] rfl rfl rfl (by decide) rfl rfl (fun H locs hP hD hS => ?_)
  refine lv_istore_n (lv' := [(1, .int u1.1), (0, .ref h_t)]) hx hb dX10_passOne_6 rfl hl (by decide) rfl (fun ls hl => ?_)
  refine lv_iload_n hx hb dX10_passOne_7 rfl (lv_at hl 0 rfl) ?_
  refine lv_iconst (v := 4) hx hb dX10_passOne_8 (by decide) ?_
  refine z_icmp_ge (tgt := 48) hx hb dX10_passOne_9 (by decide) hf (fun hf => ?_) (fun hf => ?_)
  · refine lv_iload_n hx hb dX10_passOne_48 rfl (lv_at hl 0 rfl) ?_
    refine lv_iconst (v := 4) hx hb dX10_passOne_49 (by decide) ?_
    refine z_icmp_ne (tgt := 90) hx hb dX10_passOne_50 (by decide) hf (fun hf => ?_) (fun hf => ?_)
    · refine lv_iload_n hx hb dX10_passOne_90 rfl (lv_at hl 0 rfl) ?_
      refine lv_iconst (v := 5) hx hb dX10_passOne_91 (by decide) ?_
      refine z_icmp_ne (tgt := 102) hx hb dX10_passOne_92 (by decide) hf (fun hf => ?_) (fun hf => ?_)
      · refine lv_iload_n hx hb dX10_passOne_102 rfl (lv_at hl 0 rfl) ?_
        refine lv_bipush (v := 6) hx hb dX10_passOne_103 (by decide) ?_
        refine z_icmp_ne (tgt := 135) hx hb dX10_passOne_105 (by decide) hf (fun hf => ?_) (fun hf => ?_)
        · refine lv_aload_n hx hb dX10_passOne_135 rfl (lv_at hl 1 rfl) ?_
          refine z_get (ci := 10) (C := RX10) (T := TX10) (N := 6) (v := .ref (r_t 0)) hx hb hts inT_X10 hown hK hP 0 rfl rfl 0 (by decide) tf_X10_12 rfl dX10_passOne_136 ?_
          refine lv_iconst (v := 1) hx hb dX10_passOne_139 (by decide) ?_
          refine lv_aload_n hx hb dX10_passOne_140 rfl (lv_at hl 1 rfl) ?_
          refine lv_iconst (v := 4) hx hb dX10_passOne_141 (by decide) ?_
          obtain ⟨u2, hu2, hf⟩ := bd_some hf
          refine z_ci (ws1 := w_X10_passOne h_t r_t r_trial r_trial_cache r_planner r_planner_shapeNow r_walk u2.2 F_trial F_planner F_planner_shapeNow cI a_trial_cache_media a_trial_cache_stores a_trial_cache_held a_trial_cache_asked a_trial_micros a_trial_before a_trial_after a_trial_waiting a_trial_tallies a_planner_words a_planner_addresses a_planner_numbers a_planner_olds a_walk_row a_walk_picture a_walk_settled) (wr := List.filterMap (fun i : Nat => (w_X10_passOne h_t r_t r_trial r_trial_cache r_planner r_planner_shapeNow r_walk u1.2 F_trial F_planner F_planner_shapeNow cI a_trial_cache_media a_trial_cache_stores a_trial_cache_held a_trial_cache_asked a_trial_micros a_trial_before a_trial_after a_trial_waiting a_trial_tallies a_planner_words a_planner_addresses a_planner_numbers a_planner_olds a_walk_row a_walk_picture a_walk_settled)[i]?) [1, 2, 3, 4, 5, 6, 7, 8, 9, 10, 11, 12, 13, 14, 15, 16, 17, 18, 19, 20, 21]) (z_rV (rest := [.int 1, .ref (r_t 0)]) hx hb hml hown hcx hl.1 (c_X10_draw l D cI h_t r_t u1.2 4 u2 hu2 _) tl_X10_46 ti_X10_draw tz_X10_draw tn_X10 tc_X10_draw tm_X10_draw rfl rfl ⟨Nat.le_of_ble_eq_true rfl, Nat.le_of_ble_eq_true rfl⟩ hK hX hS hA hP hD [0] rfl rfl 0 rfl rfl rfl rfl (Nat.le_of_ble_eq_true rfl) dX10_passOne_142 ⟨Nat.zero_le _, Nat.zero_le _⟩) hP hD hS hA [0] [1, 2, 3, 4, 5, 6, 7, 8, 9, 10, 11, 12, 13, 14, 15, 16, 17, 18, 19, 20, 21] [21, 0, 1, 2, 3, 4, 5, 6, 7, 8, 9, 10, 11, 12, 13, 14, 15, 16, 17, 18, 19, 20] rfl rfl rfl (by decide) rfl rfl (fun H locs hP hD hS => ?_)
          refine lv_iconst (v := 0) hx hb dX10_passOne_145 (by decide) ?_
          obtain ⟨u3, hu3, hf⟩ := bd_some hf
          refine z_ci (ws1 := w_X10_passOne h_t r_t r_trial r_trial_cache r_planner r_planner_shapeNow r_walk u2.2 F_trial F_planner F_planner_shapeNow cI a_trial_cache_media a_trial_cache_stores a_trial_cache_held a_trial_cache_asked a_trial_micros a_trial_before a_trial_after a_trial_waiting a_trial_tallies a_planner_words a_planner_addresses a_planner_numbers a_planner_olds a_walk_row a_walk_picture a_walk_settled) (wr := List.filterMap (fun i : Nat => (w_X10_passOne h_t r_t r_trial r_trial_cache r_planner r_planner_shapeNow r_walk u2.2 F_trial F_planner F_planner_shapeNow cI a_trial_cache_media a_trial_cache_stores a_trial_cache_held a_trial_cache_asked a_trial_micros a_trial_before a_trial_after a_trial_waiting a_trial_tallies a_planner_words a_planner_addresses a_planner_numbers a_planner_olds a_walk_row a_walk_picture a_walk_settled)[i]?) [0, 1, 2, 3, 4, 5, 6, 7, 8, 9, 10, 11, 12, 13, 14, 15, 16, 17, 18, 19, 20, 21]) (z_rN (rest := [.ref (r_t 0)]) hx hb hml hown hcx hl.1 (c_X11_packOp l D cI 1 u2.1 0 u3 hu3 _) tl_X10_77 ts_X11_packOp tn_X11 tc_X11_packOp tm_X11_packOp rfl rfl ⟨Nat.le_of_ble_eq_true rfl, Nat.le_of_ble_eq_true rfl⟩ hK hX hS hA hP hD [] rfl rfl rfl rfl (Nat.le_of_ble_eq_true rfl) dX10_passOne_146 ⟨Nat.zero_le _, Nat.zero_le _⟩) hP hD hS hA [] [0, 1, 2, 3, 4, 5, 6, 7, 8, 9, 10, 11, 12, 13, 14, 15, 16, 17, 18, 19, 20, 21] [0, 1, 2, 3, 4, 5, 6, 7, 8, 9, 10, 11, 12, 13, 14, 15, 16, 17, 18, 19, 20, 21] rfl rfl rfl (by decide) rfl rfl (fun H locs hP hD hS => ?_)
          obtain ⟨u4, hu4, hf⟩ := bd_some hf
          refine z_cv (ws1 := w_X10_passOne h_t r_t r_trial r_trial_cache r_planner r_planner_shapeNow r_walk u2.2 u4.1 F_planner F_planner_shapeNow cI a_trial_cache_media a_trial_cache_stores a_trial_cache_held a_trial_cache_asked a_trial_micros a_trial_before a_trial_after u4.2 a_trial_tallies a_planner_words a_planner_addresses a_planner_numbers a_planner_olds a_walk_row a_walk_picture a_walk_settled) (wr := List.filterMap (fun i : Nat => (w_X10_passOne h_t r_t r_trial r_trial_cache r_planner r_planner_shapeNow r_walk u2.2 F_trial F_planner F_planner_shapeNow cI a_trial_cache_media a_trial_cache_stores a_trial_cache_held a_trial_cache_asked a_trial_micros a_trial_before a_trial_after a_trial_waiting a_trial_tallies a_planner_words a_planner_addresses a_planner_numbers a_planner_olds a_walk_row a_walk_picture a_walk_settled)[i]?) [0, 2, 3, 4, 5, 6, 7, 8, 9, 11, 12, 13, 14, 15, 16, 17, 18, 19, 20, 21]) (z_rV (rest := []) hx hb hml hown hcx hl.1 (c_X4_addWaiting l D cI (r_t 0) r_trial F_trial a_trial_waiting u3 u4 hu4 _) tl_X10_81 ti_X4_addWaiting tz_X4_addWaiting tn_X4 tc_X4_addWaiting tm_X4_addWaiting rfl rfl ⟨Nat.le_of_ble_eq_true rfl, Nat.le_of_ble_eq_true rfl⟩ hK hX hS hA hP hD [1, 10] rfl rfl 1 rfl rfl rfl rfl (Nat.le_of_ble_eq_true rfl) dX10_passOne_149 ⟨Nat.zero_le _, Nat.zero_le _⟩) hP hD hS hA [1, 10] [0, 2, 3, 4, 5, 6, 7, 8, 9, 11, 12, 13, 14, 15, 16, 17, 18, 19, 20, 21] [0, 20, 1, 2, 3, 4, 5, 6, 7, 8, 21, 9, 10, 11, 12, 13, 14, 15, 16, 17, 18, 19] rfl rfl rfl (by decide) rfl rfl (fun H locs hP hD hS => ?_)
          exact hret (u2.2, u4.1, F_planner, F_planner_shapeNow, a_trial_cache_media, a_trial_cache_stores, a_trial_cache_held, a_trial_cache_asked, a_trial_micros, a_trial_before, a_trial_after, u4.2, a_trial_tallies, a_planner_words, a_planner_addresses, a_planner_numbers, a_planner_olds, a_walk_row, a_walk_picture, a_walk_settled) _ _ _ _ hf hP hD hS dX10_passOne_152
        · refine lv_aload_n hx hb dX10_passOne_108 rfl (lv_at hl 1 rfl) ?_
          refine lv_iconst (v := 4) hx hb dX10_passOne_109 (by decide) ?_
          obtain ⟨u5, hu5, hf⟩ := bd_some hf
          refine z_ci (ws1 := w_X10_passOne h_t r_t r_trial r_trial_cache r_planner r_planner_shapeNow r_walk u5.2 F_trial F_planner F_planner_shapeNow cI a_trial_cache_media a_trial_cache_stores a_trial_cache_held a_trial_cache_asked a_trial_micros a_trial_before a_trial_after a_trial_waiting a_trial_tallies a_planner_words a_planner_addresses a_planner_numbers a_planner_olds a_walk_row a_walk_picture a_walk_settled) (wr := List.filterMap (fun i : Nat => (w_X10_passOne h_t r_t r_trial r_trial_cache r_planner r_planner_shapeNow r_walk u1.2 F_trial F_planner F_planner_shapeNow cI a_trial_cache_media a_trial_cache_stores a_trial_cache_held a_trial_cache_asked a_trial_micros a_trial_before a_trial_after a_trial_waiting a_trial_tallies a_planner_words a_planner_addresses a_planner_numbers a_planner_olds a_walk_row a_walk_picture a_walk_settled)[i]?) [1, 2, 3, 4, 5, 6, 7, 8, 9, 10, 11, 12, 13, 14, 15, 16, 17, 18, 19, 20, 21]) (z_rV (rest := []) hx hb hml hown hcx hl.1 (c_X10_draw l D cI h_t r_t u1.2 4 u5 hu5 _) tl_X10_46 ti_X10_draw tz_X10_draw tn_X10 tc_X10_draw tm_X10_draw rfl rfl ⟨Nat.le_of_ble_eq_true rfl, Nat.le_of_ble_eq_true rfl⟩ hK hX hS hA hP hD [0] rfl rfl 0 rfl rfl rfl rfl (Nat.le_of_ble_eq_true rfl) dX10_passOne_110 ⟨Nat.zero_le _, Nat.zero_le _⟩) hP hD hS hA [0] [1, 2, 3, 4, 5, 6, 7, 8, 9, 10, 11, 12, 13, 14, 15, 16, 17, 18, 19, 20, 21] [21, 0, 1, 2, 3, 4, 5, 6, 7, 8, 9, 10, 11, 12, 13, 14, 15, 16, 17, 18, 19, 20] rfl rfl rfl (by decide) rfl rfl (fun H locs hP hD hS => ?_)
          refine lv_istore_n (lv' := [(2, .int u5.1), (1, .int u1.1), (0, .ref h_t)]) hx hb dX10_passOne_113 rfl hl (by decide) rfl (fun ls hl => ?_)
          refine lv_aload_n hx hb dX10_passOne_114 rfl (lv_at hl 2 rfl) ?_
          refine z_get (ci := 10) (C := RX10) (T := TX10) (N := 6) (v := .ref (r_t 0)) hx hb hts inT_X10 hown hK hP 0 rfl rfl 0 (by decide) tf_X10_12 rfl dX10_passOne_115 ?_
          refine lv_iconst (v := 0) hx hb dX10_passOne_118 (by decide) ?_
          refine lv_iload_n hx hb dX10_passOne_119 rfl (lv_at hl 0 rfl) ?_
          refine lv_aload_n hx hb dX10_passOne_120 rfl (lv_at hl 2 rfl) ?_
          refine lv_bipush (v := 10) hx hb dX10_passOne_121 (by decide) ?_
          obtain ⟨u6, hu6, hf⟩ := bd_some hf
          refine z_ci (ws1 := w_X10_passOne h_t r_t r_trial r_trial_cache r_planner r_planner_shapeNow r_walk u6.2 F_trial F_planner F_planner_shapeNow cI a_trial_cache_media a_trial_cache_stores a_trial_cache_held a_trial_cache_asked a_trial_micros a_trial_before a_trial_after a_trial_waiting a_trial_tallies a_planner_words a_planner_addresses a_planner_numbers a_planner_olds a_walk_row a_walk_picture a_walk_settled) (wr := List.filterMap (fun i : Nat => (w_X10_passOne h_t r_t r_trial r_trial_cache r_planner r_planner_shapeNow r_walk u5.2 F_trial F_planner F_planner_shapeNow cI a_trial_cache_media a_trial_cache_stores a_trial_cache_held a_trial_cache_asked a_trial_micros a_trial_before a_trial_after a_trial_waiting a_trial_tallies a_planner_words a_planner_addresses a_planner_numbers a_planner_olds a_walk_row a_walk_picture a_walk_settled)[i]?) [1, 2, 3, 4, 5, 6, 7, 8, 9, 10, 11, 12, 13, 14, 15, 16, 17, 18, 19, 20, 21]) (z_rV (rest := [.int u5.1, .int 0, .ref (r_t 0)]) hx hb hml hown hcx hl.1 (c_X10_draw l D cI h_t r_t u5.2 10 u6 hu6 _) tl_X10_46 ti_X10_draw tz_X10_draw tn_X10 tc_X10_draw tm_X10_draw rfl rfl ⟨Nat.le_of_ble_eq_true rfl, Nat.le_of_ble_eq_true rfl⟩ hK hX hS hA hP hD [0] rfl rfl 0 rfl rfl rfl rfl (Nat.le_of_ble_eq_true rfl) dX10_passOne_123 ⟨Nat.zero_le _, Nat.zero_le _⟩) hP hD hS hA [0] [1, 2, 3, 4, 5, 6, 7, 8, 9, 10, 11, 12, 13, 14, 15, 16, 17, 18, 19, 20, 21] [21, 0, 1, 2, 3, 4, 5, 6, 7, 8, 9, 10, 11, 12, 13, 14, 15, 16, 17, 18, 19, 20] rfl rfl rfl (by decide) rfl rfl (fun H locs hP hD hS => ?_)
          obtain ⟨u7, hu7, hf⟩ := bd_some hf
          refine z_ci (ws1 := w_X10_passOne h_t r_t r_trial r_trial_cache r_planner r_planner_shapeNow r_walk u6.2 F_trial F_planner F_planner_shapeNow cI a_trial_cache_media a_trial_cache_stores a_trial_cache_held a_trial_cache_asked a_trial_micros a_trial_before a_trial_after a_trial_waiting a_trial_tallies a_planner_words a_planner_addresses a_planner_numbers a_planner_olds a_walk_row a_walk_picture a_walk_settled) (wr := List.filterMap (fun i : Nat => (w_X10_passOne h_t r_t r_trial r_trial_cache r_planner r_planner_shapeNow r_walk u6.2 F_trial F_planner F_planner_shapeNow cI a_trial_cache_media a_trial_cache_stores a_trial_cache_held a_trial_cache_asked a_trial_micros a_trial_before a_trial_after a_trial_waiting a_trial_tallies a_planner_words a_planner_addresses a_planner_numbers a_planner_olds a_walk_row a_walk_picture a_walk_settled)[i]?) [0, 1, 2, 3, 4, 5, 6, 7, 8, 9, 10, 11, 12, 13, 14, 15, 16, 17, 18, 19, 20, 21]) (z_rN (rest := [.ref (r_t 0)]) hx hb hml hown hcx hl.1 (c_X11_packOp l D cI 0 u5.1 u6.1 u7 hu7 _) tl_X10_77 ts_X11_packOp tn_X11 tc_X11_packOp tm_X11_packOp rfl rfl ⟨Nat.le_of_ble_eq_true rfl, Nat.le_of_ble_eq_true rfl⟩ hK hX hS hA hP hD [] rfl rfl rfl rfl (Nat.le_of_ble_eq_true rfl) dX10_passOne_126 ⟨Nat.zero_le _, Nat.zero_le _⟩) hP hD hS hA [] [0, 1, 2, 3, 4, 5, 6, 7, 8, 9, 10, 11, 12, 13, 14, 15, 16, 17, 18, 19, 20, 21] [0, 1, 2, 3, 4, 5, 6, 7, 8, 9, 10, 11, 12, 13, 14, 15, 16, 17, 18, 19, 20, 21] rfl rfl rfl (by decide) rfl rfl (fun H locs hP hD hS => ?_)
          obtain ⟨u8, hu8, hf⟩ := bd_some hf
          refine z_cv (ws1 := w_X10_passOne h_t r_t r_trial r_trial_cache r_planner r_planner_shapeNow r_walk u6.2 u8.1 F_planner F_planner_shapeNow cI a_trial_cache_media a_trial_cache_stores a_trial_cache_held a_trial_cache_asked a_trial_micros a_trial_before a_trial_after u8.2 a_trial_tallies a_planner_words a_planner_addresses a_planner_numbers a_planner_olds a_walk_row a_walk_picture a_walk_settled) (wr := List.filterMap (fun i : Nat => (w_X10_passOne h_t r_t r_trial r_trial_cache r_planner r_planner_shapeNow r_walk u6.2 F_trial F_planner F_planner_shapeNow cI a_trial_cache_media a_trial_cache_stores a_trial_cache_held a_trial_cache_asked a_trial_micros a_trial_before a_trial_after a_trial_waiting a_trial_tallies a_planner_words a_planner_addresses a_planner_numbers a_planner_olds a_walk_row a_walk_picture a_walk_settled)[i]?) [0, 2, 3, 4, 5, 6, 7, 8, 9, 11, 12, 13, 14, 15, 16, 17, 18, 19, 20, 21]) (z_rV (rest := []) hx hb hml hown hcx hl.1 (c_X4_addWaiting l D cI (r_t 0) r_trial F_trial a_trial_waiting u7 u8 hu8 _) tl_X10_81 ti_X4_addWaiting tz_X4_addWaiting tn_X4 tc_X4_addWaiting tm_X4_addWaiting rfl rfl ⟨Nat.le_of_ble_eq_true rfl, Nat.le_of_ble_eq_true rfl⟩ hK hX hS hA hP hD [1, 10] rfl rfl 1 rfl rfl rfl rfl (Nat.le_of_ble_eq_true rfl) dX10_passOne_129 ⟨Nat.zero_le _, Nat.zero_le _⟩) hP hD hS hA [1, 10] [0, 2, 3, 4, 5, 6, 7, 8, 9, 11, 12, 13, 14, 15, 16, 17, 18, 19, 20, 21] [0, 20, 1, 2, 3, 4, 5, 6, 7, 8, 21, 9, 10, 11, 12, 13, 14, 15, 16, 17, 18, 19] rfl rfl rfl (by decide) rfl rfl (fun H locs hP hD hS => ?_)
          refine lv_goto (tgt := 152) hx hb dX10_passOne_132 (by decide) ?_
          exact hret (u6.2, u8.1, F_planner, F_planner_shapeNow, a_trial_cache_media, a_trial_cache_stores, a_trial_cache_held, a_trial_cache_asked, a_trial_micros, a_trial_before, a_trial_after, u8.2, a_trial_tallies, a_planner_words, a_planner_addresses, a_planner_numbers, a_planner_olds, a_walk_row, a_walk_picture, a_walk_settled) _ _ _ _ hf hP hD hS dX10_passOne_152
      · refine lv_aload_n hx hb dX10_passOne_95 rfl (lv_at hl 1 rfl) ?_
        obtain ⟨u9, hu9, hf⟩ := bd_some hf
        refine z_cv (ws1 := w_X10_passOne h_t r_t r_trial r_trial_cache r_planner r_planner_shapeNow r_walk u9.1 u9.2.1 F_planner F_planner_shapeNow cI u9.2.2.1 a_trial_cache_stores u9.2.2.2.1 u9.2.2.2.2.1 a_trial_micros u9.2.2.2.2.2.1 u9.2.2.2.2.2.2.1 a_trial_waiting u9.2.2.2.2.2.2.2.1 a_planner_words a_planner_addresses a_planner_numbers a_planner_olds u9.2.2.2.2.2.2.2.2.1 u9.2.2.2.2.2.2.2.2.2.1 u9.2.2.2.2.2.2.2.2.2.2) (wr := List.filterMap (fun i : Nat => (w_X10_passOne h_t r_t r_trial r_trial_cache r_planner r_planner_shapeNow r_walk u1.2 F_trial F_planner F_planner_shapeNow cI a_trial_cache_media a_trial_cache_stores a_trial_cache_held a_trial_cache_asked a_trial_micros a_trial_before a_trial_after a_trial_waiting a_trial_tallies a_planner_words a_planner_addresses a_planner_numbers a_planner_olds a_walk_row a_walk_picture a_walk_settled)[i]?) [7, 10, 12, 13, 14, 15, 16, 17]) (z_rV (rest := []) hx hb hml hown hcx hl.1 (c_X10_fallAndRecover l D cI h_t r_t r_trial r_trial_cache r_walk u1.2 F_trial a_trial_cache_media a_trial_cache_stores a_trial_cache_held a_trial_cache_asked a_trial_before a_trial_after a_trial_tallies a_walk_row a_walk_picture a_walk_settled u9 hu9 _) tl_X10_74 ti_X10_fallAndRecover tz_X10_fallAndRecover tn_X10 tc_X10_fallAndRecover tm_X10_fallAndRecover rfl rfl ⟨Nat.le_of_ble_eq_true rfl, Nat.le_of_ble_eq_true rfl⟩ hK hX hS hA hP hD [0, 1, 2, 3, 4, 5, 6, 8, 9, 11, 18, 19, 20, 21] rfl rfl 0 rfl rfl rfl rfl (Nat.le_of_ble_eq_true rfl) dX10_passOne_96 ⟨Nat.zero_le _, Nat.zero_le _⟩) hP hD hS hA [0, 1, 2, 3, 4, 5, 6, 8, 9, 11, 18, 19, 20, 21] [7, 10, 12, 13, 14, 15, 16, 17] [8, 9, 10, 11, 12, 13, 14, 0, 15, 16, 1, 17, 2, 3, 4, 5, 6, 7, 18, 19, 20, 21] rfl rfl rfl (by decide) rfl rfl (fun H locs hP hD hS => ?_)
        refine lv_goto (tgt := 152) hx hb dX10_passOne_99 (by decide) ?_
        exact hret (u9.1, u9.2.1, F_planner, F_planner_shapeNow, u9.2.2.1, a_trial_cache_stores, u9.2.2.2.1, u9.2.2.2.2.1, a_trial_micros, u9.2.2.2.2.2.1, u9.2.2.2.2.2.2.1, a_trial_waiting, u9.2.2.2.2.2.2.2.1, a_planner_words, a_planner_addresses, a_planner_numbers, a_planner_olds, u9.2.2.2.2.2.2.2.2.1, u9.2.2.2.2.2.2.2.2.2.1, u9.2.2.2.2.2.2.2.2.2.2) _ _ _ _ hf hP hD hS dX10_passOne_152
    · refine lv_aload_n hx hb dX10_passOne_53 rfl (lv_at hl 1 rfl) ?_
      refine lv_bipush (v := 16) hx hb dX10_passOne_54 (by decide) ?_
      obtain ⟨u10, hu10, hf⟩ := bd_some hf
      refine z_ci (ws1 := w_X10_passOne h_t r_t r_trial r_trial_cache r_planner r_planner_shapeNow r_walk u10.2 F_trial F_planner F_planner_shapeNow cI a_trial_cache_media a_trial_cache_stores a_trial_cache_held a_trial_cache_asked a_trial_micros a_trial_before a_trial_after a_trial_waiting a_trial_tallies a_planner_words a_planner_addresses a_planner_numbers a_planner_olds a_walk_row a_walk_picture a_walk_settled) (wr := List.filterMap (fun i : Nat => (w_X10_passOne h_t r_t r_trial r_trial_cache r_planner r_planner_shapeNow r_walk u1.2 F_trial F_planner F_planner_shapeNow cI a_trial_cache_media a_trial_cache_stores a_trial_cache_held a_trial_cache_asked a_trial_micros a_trial_before a_trial_after a_trial_waiting a_trial_tallies a_planner_words a_planner_addresses a_planner_numbers a_planner_olds a_walk_row a_walk_picture a_walk_settled)[i]?) [1, 2, 3, 4, 5, 6, 7, 8, 9, 10, 11, 12, 13, 14, 15, 16, 17, 18, 19, 20, 21]) (z_rV (rest := []) hx hb hml hown hcx hl.1 (c_X10_draw l D cI h_t r_t u1.2 16 u10 hu10 _) tl_X10_46 ti_X10_draw tz_X10_draw tn_X10 tc_X10_draw tm_X10_draw rfl rfl ⟨Nat.le_of_ble_eq_true rfl, Nat.le_of_ble_eq_true rfl⟩ hK hX hS hA hP hD [0] rfl rfl 0 rfl rfl rfl rfl (Nat.le_of_ble_eq_true rfl) dX10_passOne_56 ⟨Nat.zero_le _, Nat.zero_le _⟩) hP hD hS hA [0] [1, 2, 3, 4, 5, 6, 7, 8, 9, 10, 11, 12, 13, 14, 15, 16, 17, 18, 19, 20, 21] [21, 0, 1, 2, 3, 4, 5, 6, 7, 8, 9, 10, 11, 12, 13, 14, 15, 16, 17, 18, 19, 20] rfl rfl rfl (by decide) rfl rfl (fun H locs hP hD hS => ?_)
      refine lv_istore_n (lv' := [(2, .int u10.1), (1, .int u1.1), (0, .ref h_t)]) hx hb dX10_passOne_59 rfl hl (by decide) rfl (fun ls hl => ?_)
      refine lv_aload_n hx hb dX10_passOne_60 rfl (lv_at hl 2 rfl) ?_
      refine z_get (ci := 10) (C := RX10) (T := TX10) (N := 6) (v := .ref (r_t 0)) hx hb hts inT_X10 hown hK hP 0 rfl rfl 0 (by decide) tf_X10_12 rfl dX10_passOne_61 ?_
      refine z_get (ci := 4) (C := RX4) (T := TX4) (N := 12) (v := .ref (r_trial 0)) hx hb hts inT_X4 hown hK hP 1 rfl rfl 0 (by decide) tf_X10_54 rfl dX10_passOne_64 ?_
      refine lv_iload_n hx hb dX10_passOne_67 rfl (lv_at hl 0 rfl) ?_
      refine lv_iconst (v := 1) hx hb dX10_passOne_68 (by decide) ?_
      refine lv_aload_n hx hb dX10_passOne_69 rfl (lv_at hl 2 rfl) ?_
      refine z_get (ci := 10) (C := RX10) (T := TX10) (N := 6) (v := .ref (r_t 0)) hx hb hts inT_X10 hown hK hP 0 rfl rfl 0 (by decide) tf_X10_12 rfl dX10_passOne_70 ?_
      refine z_get (ci := 4) (C := RX4) (T := TX4) (N := 12) (v := .ref (r_trial 0)) hx hb hts inT_X4 hown hK hP 1 rfl rfl 0 (by decide) tf_X10_54 rfl dX10_passOne_73 ?_
      refine z_get (ci := 1) (C := RX1) (T := TX1) (N := 4) (v := .ref (r_trial_cache 2)) hx hb hts inT_X1 hown hK hP 2 rfl rfl 2 (by decide) tf_X10_58 rfl dX10_passOne_76 ?_
      refine lv_iload_n hx hb dX10_passOne_79 rfl (lv_at hl 0 rfl) ?_
      refine z_iald hx hb hK hP 5 rfl dX10_passOne_80 hf (fun y11 hf => ?_)
      refine z_min (rest := [.int u10.1, .ref (r_trial 0)]) hx hb (hml.trans hl.1.symm) hown hts tl_X10_64 ts_min tn_J9 tc_min (Nat.le_of_ble_eq_true rfl) (Nat.le_of_ble_eq_true rfl) ⟨Nat.zero_le _, Nat.zero_le _⟩ dX10_passOne_81 ?_
      obtain ⟨u12, hu12, hf⟩ := bd_some hf
      refine z_cv (ws1 := w_X10_passOne h_t r_t r_trial r_trial_cache r_planner r_planner_shapeNow r_walk u10.2 F_trial F_planner F_planner_shapeNow cI u12.1 u12.2.1 u12.2.2.1 u12.2.2.2 a_trial_micros a_trial_before a_trial_after a_trial_waiting a_trial_tallies a_planner_words a_planner_addresses a_planner_numbers a_planner_olds a_walk_row a_walk_picture a_walk_settled) (wr := List.filterMap (fun i : Nat => (w_X10_passOne h_t r_t r_trial r_trial_cache r_planner r_planner_shapeNow r_walk u10.2 F_trial F_planner F_planner_shapeNow cI a_trial_cache_media a_trial_cache_stores a_trial_cache_held a_trial_cache_asked a_trial_micros a_trial_before a_trial_after a_trial_waiting a_trial_tallies a_planner_words a_planner_addresses a_planner_numbers a_planner_olds a_walk_row a_walk_picture a_walk_settled)[i]?) [0, 1, 7, 8, 9, 10, 11, 12, 13, 14, 15, 16, 17, 18, 19, 20, 21]) (z_rV (rest := []) hx hb hml hown hcx hl.1 (c_X1_reach l D cI (r_trial 0) r_trial_cache a_trial_cache_media a_trial_cache_stores a_trial_cache_held a_trial_cache_asked u10.1 (if y11 < 1 then y11 else 1) u12 hu12 _) tl_X10_70 ti_X1_reach tz_X1_reach tn_X1 tc_X1_reach tm_X1_reach rfl rfl ⟨Nat.le_of_ble_eq_true rfl, Nat.le_of_ble_eq_true rfl⟩ hK hX hS hA hP hD [2, 3, 4, 5, 6] rfl rfl 2 rfl rfl rfl rfl (Nat.le_of_ble_eq_true rfl) dX10_passOne_84 ⟨Nat.zero_le _, Nat.zero_le _⟩) hP hD hS hA [2, 3, 4, 5, 6] [0, 1, 7, 8, 9, 10, 11, 12, 13, 14, 15, 16, 17, 18, 19, 20, 21] [0, 1, 17, 18, 19, 20, 21, 2, 3, 4, 5, 6, 7, 8, 9, 10, 11, 12, 13, 14, 15, 16] rfl rfl rfl (by decide) rfl rfl (fun H locs hP hD hS => ?_)
      refine lv_goto (tgt := 152) hx hb dX10_passOne_87 (by decide) ?_
      exact hret (u10.2, F_trial, F_planner, F_planner_shapeNow, u12.1, u12.2.1, u12.2.2.1, u12.2.2.2, a_trial_micros, a_trial_before, a_trial_after, a_trial_waiting, a_trial_tallies, a_planner_words, a_planner_addresses, a_planner_numbers, a_planner_olds, a_walk_row, a_walk_picture, a_walk_settled) _ _ _ _ hf hP hD hS dX10_passOne_152
  · refine lv_aload_n hx hb dX10_passOne_12 rfl (lv_at hl 1 rfl) ?_
    refine lv_bipush (v := 6) hx hb dX10_passOne_13 (by decide) ?_
    obtain ⟨u13, hu13, hf⟩ := bd_some hf
    refine z_ci (ws1 := w_X10_passOne h_t r_t r_trial r_trial_cache r_planner r_planner_shapeNow r_walk u13.2 F_trial F_planner F_planner_shapeNow cI a_trial_cache_media a_trial_cache_stores a_trial_cache_held a_trial_cache_asked a_trial_micros a_trial_before a_trial_after a_trial_waiting a_trial_tallies a_planner_words a_planner_addresses a_planner_numbers a_planner_olds a_walk_row a_walk_picture a_walk_settled) (wr := List.filterMap (fun i : Nat => (w_X10_passOne h_t r_t r_trial r_trial_cache r_planner r_planner_shapeNow r_walk u1.2 F_trial F_planner F_planner_shapeNow cI a_trial_cache_media a_trial_cache_stores a_trial_cache_held a_trial_cache_asked a_trial_micros a_trial_before a_trial_after a_trial_waiting a_trial_tallies a_planner_words a_planner_addresses a_planner_numbers a_planner_olds a_walk_row a_walk_picture a_walk_settled)[i]?) [1, 2, 3, 4, 5, 6, 7, 8, 9, 10, 11, 12, 13, 14, 15, 16, 17, 18, 19, 20, 21]) (z_rV (rest := []) hx hb hml hown hcx hl.1 (c_X10_draw l D cI h_t r_t u1.2 6 u13 hu13 _) tl_X10_46 ti_X10_draw tz_X10_draw tn_X10 tc_X10_draw tm_X10_draw rfl rfl ⟨Nat.le_of_ble_eq_true rfl, Nat.le_of_ble_eq_true rfl⟩ hK hX hS hA hP hD [0] rfl rfl 0 rfl rfl rfl rfl (Nat.le_of_ble_eq_true rfl) dX10_passOne_15 ⟨Nat.zero_le _, Nat.zero_le _⟩) hP hD hS hA [0] [1, 2, 3, 4, 5, 6, 7, 8, 9, 10, 11, 12, 13, 14, 15, 16, 17, 18, 19, 20, 21] [21, 0, 1, 2, 3, 4, 5, 6, 7, 8, 9, 10, 11, 12, 13, 14, 15, 16, 17, 18, 19, 20] rfl rfl rfl (by decide) rfl rfl (fun H locs hP hD hS => ?_)
    refine lv_iconst (v := 1) hx hb dX10_passOne_18 (by decide) ?_
    refine lv_iadd hx hb dX10_passOne_19 ?_
    refine z_istore_n (fun z => [(2, .int z), (1, .int u1.1), (0, .ref h_t)]) hx hb dX10_passOne_20 rfl hl (by decide) (fun _ => rfl) hf (fun v14 ls hf hl => ?_)
    exact L21 fuelN v14 u13.2 F_trial F_planner F_planner_shapeNow a_trial_cache_media a_trial_cache_stores a_trial_cache_held a_trial_cache_asked a_trial_micros a_trial_before a_trial_after a_trial_waiting a_trial_tallies a_planner_words a_planner_addresses a_planner_numbers a_planner_olds a_walk_row a_walk_picture a_walk_settled _ _ _ hf hP hD hS (lv_sub hl [2, 0] rfl)
