abbrev w_X12_within (cI : ClassId) : va_W := []
abbrev rm_X12_within : Room := { frames := 0, cells := 0, slots := 0, locals := 0 }
def m_X12_within (p0 : Int32) (p1 : Int32) (p2 : Int32) : Option (Int32) :=
  if p0 < p1 then (
  some 0)
  else (
  if p2 < p0 then (
  some 0)
  else (
  some 1))
set_option maxHeartbeats 4000000 in
set_option maxRecDepth 100000 in
theorem c_X12_within (l : Launch) (D : va_G) (cI : ClassId) (p0 : Int32) (p1 : Int32) (p2 : Int32) (Rr : Int32) (hf : m_X12_within p0 p1 p2 = some Rr) : CTi l yX12_within (Cond.code yX12_within cX12_within 3 (some .boolean)) rm_X12_within D cI [.int p0, .int p1, .int p2] (w_X12_within cI) Rr (w_X12_within cI) := by
  refine z_begin_z (own := RX12) (ρ := Int32) (fun u => w_X12_within cI) (fun u => u) (by decide +kernel) rfl (Nat.le_of_ble_eq_true rfl) ?_
  intro p e s m args below meth c ls Q A hx hb hml hts hcx hown hK hA hP hD hS hl hret
  have hl : lv_has ls 3 [(0, .int p0), (1, .int p1), (2, .int p2)] := hl
  have hf := (m_X12_within.eq_1 _ _ _).symm.trans hf
  refine lv_iload_n hx hb dX12_within_0 rfl (lv_at hl 0 rfl) ?_
  refine lv_iload_n hx hb dX12_within_1 rfl (lv_at hl 1 rfl) ?_
  refine z_icmp_lt (tgt := 14) hx hb dX12_within_2 (by decide) hf (fun hf => ?_) (fun hf => ?_)
  · refine lv_iconst (v := 0) hx hb dX12_within_14 (by decide) ?_
    exact hret 0 _ _ _ _ (Or.inl rfl) hf hP hD hS dX12_within_15
  · refine lv_iload_n hx hb dX12_within_5 rfl (lv_at hl 0 rfl) ?_
    refine lv_iload_n hx hb dX12_within_6 rfl (lv_at hl 2 rfl) ?_
    refine z_icmp_gt (tgt := 14) hx hb dX12_within_7 (by decide) hf (fun hf => ?_) (fun hf => ?_)
    · refine lv_iconst (v := 0) hx hb dX12_within_14 (by decide) ?_
      exact hret 0 _ _ _ _ (Or.inl rfl) hf hP hD hS dX12_within_15
    · refine lv_iconst (v := 1) hx hb dX12_within_10 (by decide) ?_
      refine lv_goto (tgt := 15) hx hb dX12_within_11 (by decide) ?_
      exact hret 1 _ _ _ _ (Or.inr rfl) hf hP hD hS dX12_within_15
abbrev w_X12_wordOf (h_t : Nat) (r_t : Nat → Nat) (F_t : Nat → Int32) (cI : ClassId) (a_rows : Nat → Int32) : va_W := [(h_t, .inr (12, o_X12 r_t F_t)), ((r_t 0), .inl (cI, 66100, .inl a_rows))]
abbrev rm_X12_wordOf : Room := { frames := 0, cells := 0, slots := 0, locals := 0 }
def m_X12_wordOf_j79 (a_rows : Nat → Int32) (p1 : Int32) (p2 : Int32) (k17 : Int32 → Int32 → Int32 → Option (Int32)) (x3 : Int32) (x4 : Int32) (x5 : Int32) : Option (Int32) :=
  nm (x5 + 1) fun v5 =>
  k17 x3 x4 v5
def m_X12_wordOf_w17 (a_rows : Nat → Int32) (p1 : Int32) (p2 : Int32) : Nat → Int32 → Int32 → Int32 → Option (Int32)
  | 0, _, _, _ => none
  | n17 + 1, x3, x4, x5 =>
    rd a_rows 66100 ((p1 + 64) + x3) fun y3 =>
    if y3 ≤ x5 then (
    some x4)
    else (
    rd a_rows 66100 (((p1 + 96) + (12 * x3)) + (2 * x5)) fun y4 =>
    if y4 = p2 then (
    rd a_rows 66100 ((((p1 + 96) + (12 * x3)) + (2 * x5)) + 1) fun y6 =>
    m_X12_wordOf_j79 a_rows p1 p2 (m_X12_wordOf_w17 a_rows p1 p2 n17) x3 y6 x5)
    else (
    m_X12_wordOf_j79 a_rows p1 p2 (m_X12_wordOf_w17 a_rows p1 p2 n17) x3 x4 x5))
def m_X12_wordOf (a_rows : Nat → Int32) (p1 : Int32) (p2 : Int32) : Option (Int32) :=
  nm (p2 / 4) fun v1 =>
  rd a_rows 66100 (p1 + p2) fun y2 =>
  m_X12_wordOf_w17 a_rows p1 p2 fuelN v1 y2 0
set_option maxHeartbeats 4000000 in
set_option maxRecDepth 100000 in
theorem c_X12_wordOf (l : Launch) (D : va_G) (cI : ClassId) (h_t : Nat) (r_t : Nat → Nat) (F_t : Nat → Int32) (a_rows : Nat → Int32) (p1 : Int32) (p2 : Int32) (Rr : Int32) (hf : m_X12_wordOf a_rows p1 p2 = some Rr) : CTi l yX12_wordOf (Cond.code yX12_wordOf cX12_wordOf 6 (some .int)) rm_X12_wordOf D cI [.ref h_t, .int p1, .int p2] (w_X12_wordOf h_t r_t F_t cI a_rows) Rr (w_X12_wordOf h_t r_t F_t cI a_rows) := by
  refine z_begin_i (own := RX12) (ρ := Int32) (fun u => w_X12_wordOf h_t r_t F_t cI a_rows) (fun u => u) (by decide +kernel) rfl (Nat.le_of_ble_eq_true rfl) ?_
  intro p e s m args below meth c ls Q A hx hb hml hts hcx hown hK hA hP hD hS hl hret
  have hl : lv_has ls 6 [(0, .ref h_t), (1, .int p1), (2, .int p2)] := hl
  have hf := (m_X12_wordOf.eq_1 _ _ _).symm.trans hf
  have L17 : ∀ (n17 : Nat) (x3 : Int32) (x4 : Int32) (x5 : Int32) (H : Heap) (locs : List Loc) (ls : Array Slot), m_X12_wordOf_w17 a_rows p1 p2 n17 x3 x4 x5 = some Rr → va_P D vwCl (w_X12_wordOf h_t r_t F_t cI a_rows) H → va_D A (w_X12_wordOf h_t r_t F_t cI a_rows) → va_S A s.heap H locs → lv_has ls 6 [(0, .ref h_t), (1, .int p1), (2, .int p2), (3, .int x3), (4, .int x4), (5, .int x5)] → W p l e rm_X12_wordOf s m args below meth c H locs 0 0 Q (F0 m 17 ls []) := by
    intro n17
    induction n17 with
    | zero => intro x3 x4 x5 H locs ls hf; exact Option.noConfusion hf
    | succ n17 ih17 =>
      intro x3 x4 x5 H locs ls hf hP hD hS hl
      have hf := (m_X12_wordOf_w17.eq_2 _ _ _ _ _ _ _).symm.trans hf
      have L79 : ∀ (x3 : Int32) (x4 : Int32) (x5 : Int32) (H : Heap) (locs : List Loc) (ls : Array Slot), m_X12_wordOf_j79 a_rows p1 p2 (m_X12_wordOf_w17 a_rows p1 p2 n17) x3 x4 x5 = some Rr → va_P D vwCl (w_X12_wordOf h_t r_t F_t cI a_rows) H → va_D A (w_X12_wordOf h_t r_t F_t cI a_rows) → va_S A s.heap H locs → lv_has ls 6 [(0, .ref h_t), (1, .int p1), (2, .int p2), (3, .int x3), (4, .int x4), (5, .int x5)] → W p l e rm_X12_wordOf s m args below meth c H locs 0 0 Q (F0 m 79 ls []) := by
        intro x3 x4 x5 H locs ls hf hP hD hS hl
        have hf := (m_X12_wordOf_j79.eq_1 _ _ _ _ _ _ _).symm.trans hf
        refine z_iinc (k0 := 5) (fun z => [(5, .int z), (0, .ref h_t), (1, .int p1), (2, .int p2), (3, .int x3), (4, .int x4)]) hx hb dX12_wordOf_79 hl rfl (by decide) (by decide) (fun _ => rfl) hf (fun v5 ls hf hl => ?_)
        refine lv_goto (tgt := 17) hx hb dX12_wordOf_82 (by decide) ?_
        exact ih17 x3 x4 v5 _ _ _ hf hP hD hS (lv_sub hl [1, 2, 3, 4, 5, 0] rfl)
      refine lv_iload hx hb dX12_wordOf_17 (lv_at hl 5 rfl) ?_
      refine lv_aload_n hx hb dX12_wordOf_19 rfl (lv_at hl 0 rfl) ?_
      refine z_get (ci := 12) (C := RX12) (T := TX12) (N := 51) (v := .ref (r_t 0)) hx hb hts inT_X12 hown hK hP 0 rfl rfl 0 (by decide) tf_X12_10 rfl dX12_wordOf_20 ?_
      refine lv_iload_n hx hb dX12_wordOf_23 rfl (lv_at hl 1 rfl) ?_
      refine lv_bipush (v := 64) hx hb dX12_wordOf_24 (by decide) ?_
      refine lv_iadd hx hb dX12_wordOf_26 ?_
      refine lv_iload_n hx hb dX12_wordOf_27 rfl (lv_at hl 3 rfl) ?_
      refine lv_iadd hx hb dX12_wordOf_28 ?_
      refine z_iald hx hb hK hP 1 rfl dX12_wordOf_29 hf (fun y3 hf => ?_)
      refine z_icmp_ge (tgt := 85) hx hb dX12_wordOf_30 (by decide) hf (fun hf => ?_) (fun hf => ?_)
      · refine lv_iload hx hb dX12_wordOf_85 (lv_at hl 4 rfl) ?_
        exact hret x4 _ _ _ _ hf hP hD hS dX12_wordOf_87
      · refine lv_aload_n hx hb dX12_wordOf_33 rfl (lv_at hl 0 rfl) ?_
        refine z_get (ci := 12) (C := RX12) (T := TX12) (N := 51) (v := .ref (r_t 0)) hx hb hts inT_X12 hown hK hP 0 rfl rfl 0 (by decide) tf_X12_10 rfl dX12_wordOf_34 ?_
        refine lv_iload_n hx hb dX12_wordOf_37 rfl (lv_at hl 1 rfl) ?_
        refine lv_bipush (v := 96) hx hb dX12_wordOf_38 (by decide) ?_
        refine lv_iadd hx hb dX12_wordOf_40 ?_
        refine lv_bipush (v := 12) hx hb dX12_wordOf_41 (by decide) ?_
        refine lv_iload_n hx hb dX12_wordOf_43 rfl (lv_at hl 3 rfl) ?_
        refine lv_imul hx hb dX12_wordOf_44 ?_
        refine lv_iadd hx hb dX12_wordOf_45 ?_
        refine lv_iconst (v := 2) hx hb dX12_wordOf_46 (by decide) ?_
        refine lv_iload hx hb dX12_wordOf_47 (lv_at hl 5 rfl) ?_
        refine lv_imul hx hb dX12_wordOf_49 ?_
        refine lv_iadd hx hb dX12_wordOf_50 ?_
        refine z_iald hx hb hK hP 1 rfl dX12_wordOf_51 hf (fun y4 hf => ?_)
        refine lv_iload_n hx hb dX12_wordOf_52 rfl (lv_at hl 2 rfl) ?_
        refine z_icmp_ne (tgt := 79) hx hb dX12_wordOf_53 (by decide) hf (fun hf => ?_) (fun hf => ?_)
        · exact L79 x3 x4 x5 _ _ _ hf hP hD hS (lv_sub hl [0, 1, 2, 3, 4, 5] rfl)
        · refine lv_aload_n hx hb dX12_wordOf_56 rfl (lv_at hl 0 rfl) ?_
          refine z_get (ci := 12) (C := RX12) (T := TX12) (N := 51) (v := .ref (r_t 0)) hx hb hts inT_X12 hown hK hP 0 rfl rfl 0 (by decide) tf_X12_10 rfl dX12_wordOf_57 ?_
          refine lv_iload_n hx hb dX12_wordOf_60 rfl (lv_at hl 1 rfl) ?_
          refine lv_bipush (v := 96) hx hb dX12_wordOf_61 (by decide) ?_
          refine lv_iadd hx hb dX12_wordOf_63 ?_
          refine lv_bipush (v := 12) hx hb dX12_wordOf_64 (by decide) ?_
          refine lv_iload_n hx hb dX12_wordOf_66 rfl (lv_at hl 3 rfl) ?_
          refine lv_imul hx hb dX12_wordOf_67 ?_
          refine lv_iadd hx hb dX12_wordOf_68 ?_
          refine lv_iconst (v := 2) hx hb dX12_wordOf_69 (by decide) ?_
          refine lv_iload hx hb dX12_wordOf_70 (lv_at hl 5 rfl) ?_
          refine lv_imul hx hb dX12_wordOf_72 ?_
          refine lv_iadd hx hb dX12_wordOf_73 ?_
          refine lv_iconst (v := 1) hx hb dX12_wordOf_74 (by decide) ?_
          refine lv_iadd hx hb dX12_wordOf_75 ?_
          refine z_iald hx hb hK hP 1 rfl dX12_wordOf_76 hf (fun y6 hf => ?_)
          refine lv_istore (lv' := [(4, .int y6), (0, .ref h_t), (1, .int p1), (2, .int p2), (3, .int x3), (5, .int x5)]) hx hb dX12_wordOf_77 hl (by decide) rfl (fun ls hl => ?_)
          exact L79 x3 y6 x5 _ _ _ hf hP hD hS (lv_sub hl [1, 2, 3, 4, 0, 5] rfl)
  refine lv_iload_n hx hb dX12_wordOf_0 rfl (lv_at hl 2 rfl) ?_
  refine lv_iconst (v := 4) hx hb dX12_wordOf_1 (by decide) ?_
  refine lv_idiv hx hb dX12_wordOf_2 (by decide) ?_
  refine z_istore_n (fun z => [(3, .int z), (0, .ref h_t), (1, .int p1), (2, .int p2)]) hx hb dX12_wordOf_3 rfl hl (by decide) (fun _ => rfl) hf (fun v1 ls hf hl => ?_)
  refine lv_aload_n hx hb dX12_wordOf_4 rfl (lv_at hl 1 rfl) ?_
  refine z_get (ci := 12) (C := RX12) (T := TX12) (N := 51) (v := .ref (r_t 0)) hx hb hts inT_X12 hown hK hP 0 rfl rfl 0 (by decide) tf_X12_10 rfl dX12_wordOf_5 ?_
  refine lv_iload_n hx hb dX12_wordOf_8 rfl (lv_at hl 2 rfl) ?_
  refine lv_iload_n hx hb dX12_wordOf_9 rfl (lv_at hl 3 rfl) ?_
  refine lv_iadd hx hb dX12_wordOf_10 ?_
  refine z_iald hx hb hK hP 1 rfl dX12_wordOf_11 hf (fun y2 hf => ?_)
  refine lv_istore (lv' := [(4, .int y2), (3, .int v1), (0, .ref h_t), (1, .int p1), (2, .int p2)]) hx hb dX12_wordOf_12 hl (by decide) rfl (fun ls hl => ?_)
  refine lv_iconst (v := 0) hx hb dX12_wordOf_14 (by decide) ?_
  refine lv_istore (lv' := [(5, .int 0), (4, .int y2), (3, .int v1), (0, .ref h_t), (1, .int p1), (2, .int p2)]) hx hb dX12_wordOf_15 hl (by decide) rfl (fun ls hl => ?_)
  exact L17 fuelN v1 y2 0 _ _ _ hf hP hD hS (lv_sub hl [3, 4, 5, 2, 1, 0] rfl)
abbrev w_X12_reaches (h_t : Nat) (r_t : Nat → Nat) (F_t : Nat → Int32) (cI : ClassId) (a_rows : Nat → Int32) : va_W := [(h_t, .inr (12, o_X12 r_t F_t)), ((r_t 0), .inl (cI, 66100, .inl a_rows))]
abbrev rm_X12_reaches : Room := { frames := 0, cells := 0, slots := 0, locals := 0 }
def m_X12_reaches_j171 (p1 : Int32) (p2 : Int32) (p3 : Int32) (s1 : Int32) (s2 : Int32) (a_rows : Nat → Int32) : Option ((Nat → Int32)) :=
  wr a_rows 66100 s1 s2 fun a7 =>
  some a7
def m_X12_reaches_j116 (p1 : Int32) (p2 : Int32) (p3 : Int32) (x5 : Int32) (a_rows : Nat → Int32) : Option ((Nat → Int32)) :=
  wr a_rows 66100 ((p1 + 64) + p2) x5 fun a4 =>
  rd a4 66100 ((p1 + 80) + p2) fun y5 =>
  if p3 ≤ y5 then (
  rd a4 66100 ((p1 + 80) + p2) fun y6 =>
  m_X12_reaches_j171 p1 p2 p3 ((p1 + 80) + p2) (y6 - p3) a4)
  else (
  m_X12_reaches_j171 p1 p2 p3 ((p1 + 80) + p2) 0 a4)
def m_X12_reaches_w77 (p1 : Int32) (p2 : Int32) (p3 : Int32) (k116 : Int32 → (Nat → Int32) → Option ((Nat → Int32))) : Nat → Int32 → Int32 → Int32 → (Nat → Int32) → Option ((Nat → Int32))
  | 0, _, _, _, _ => none
  | n77 + 1, x4, x5, x6, a_rows =>
    if (2 * x5) ≤ x6 then (
    k116 x5 a_rows)
    else (
    rd a_rows 66100 ((x4 + (2 * p3)) + x6) fun y8 =>
    wr a_rows 66100 (x4 + x6) y8 fun a9 =>
    nm (x6 + 1) fun v10 =>
    m_X12_reaches_w77 p1 p2 p3 k116 n77 x4 x5 v10 a9)
def m_X12_reaches_j59 (p1 : Int32) (p2 : Int32) (p3 : Int32) (x4 : Int32) (a_rows : Nat → Int32) : Option ((Nat → Int32)) :=
  rd a_rows 66100 ((p1 + 64) + p2) fun y2 =>
  nm (y2 - p3) fun v3 =>
  m_X12_reaches_w77 p1 p2 p3 (m_X12_reaches_j116 p1 p2 p3) fuelN x4 v3 0 a_rows
def m_X12_reaches_w14 (p1 : Int32) (p2 : Int32) (p3 : Int32) (k59 : Int32 → (Nat → Int32) → Option ((Nat → Int32))) : Nat → Int32 → Int32 → (Nat → Int32) → Option ((Nat → Int32))
  | 0, _, _, _ => none
  | n14 + 1, x4, x5, a_rows =>
    if p3 ≤ x5 then (
    k59 x4 a_rows)
    else (
    rd a_rows 66100 (x4 + (2 * x5)) fun y11 =>
    rd a_rows 66100 ((x4 + (2 * x5)) + 1) fun y12 =>
    wr a_rows 66100 (p1 + y11) y12 fun a13 =>
    nm (x5 + 1) fun v14 =>
    m_X12_reaches_w14 p1 p2 p3 k59 n14 x4 v14 a13)
def m_X12_reaches (a_rows : Nat → Int32) (p1 : Int32) (p2 : Int32) (p3 : Int32) : Option ((Nat → Int32)) :=
  nm ((p1 + 96) + (12 * p2)) fun v1 =>
  m_X12_reaches_w14 p1 p2 p3 (m_X12_reaches_j59 p1 p2 p3) fuelN v1 0 a_rows
set_option maxHeartbeats 4000000 in
set_option maxRecDepth 100000 in
theorem c_X12_reaches (l : Launch) (D : va_G) (cI : ClassId) (h_t : Nat) (r_t : Nat → Nat) (F_t : Nat → Int32) (a_rows : Nat → Int32) (p1 : Int32) (p2 : Int32) (p3 : Int32) (Rr : (Nat → Int32)) (hf : m_X12_reaches a_rows p1 p2 p3 = some Rr) : CTv l yX12_reaches (Cond.code yX12_reaches cX12_reaches 7 none) rm_X12_reaches D cI [.ref h_t, .int p1, .int p2, .int p3] (w_X12_reaches h_t r_t F_t cI a_rows) (w_X12_reaches h_t r_t F_t cI Rr) := by
  refine z_begin_v (own := RX12) (ρ := (Nat → Int32)) (fun u => w_X12_reaches h_t r_t F_t cI u) (by decide +kernel) rfl (Nat.le_of_ble_eq_true rfl) ?_
  intro p e s m args below meth c ls Q A hx hb hml hts hcx hown hK hA hP hD hS hl hret
  have hl : lv_has ls 7 [(0, .ref h_t), (1, .int p1), (2, .int p2), (3, .int p3)] := hl
  have hf := (m_X12_reaches.eq_1 _ _ _ _).symm.trans hf
  have L171 : ∀ (s1 : Int32) (s2 : Int32) (a_rows : Nat → Int32) (H : Heap) (locs : List Loc) (ls : Array Slot), m_X12_reaches_j171 p1 p2 p3 s1 s2 a_rows = some Rr → va_P D vwCl (w_X12_reaches h_t r_t F_t cI a_rows) H → va_D A (w_X12_reaches h_t r_t F_t cI a_rows) → va_S A s.heap H locs → lv_has ls 7 [] → W p l e rm_X12_reaches s m args below meth c H locs 0 0 Q (F0 m 171 ls [.int s2, .int s1, .ref (r_t 0)]) := by
    intro s1 s2 a_rows H locs ls hf hP hD hS hl
    have hf := (m_X12_reaches_j171.eq_1 _ _ _ _ _ _).symm.trans hf
    refine z_iast hx hb hK hP hD hS 1 rfl (fun z => w_X12_reaches h_t r_t F_t cI z) (fun _ => rfl) dX12_reaches_171 hf (fun a7 H locs hf hP hD hS => ?_)
    exact hret a7 _ _ _ _ hf hP hD hS dX12_reaches_172
  have L116 : ∀ (x5 : Int32) (a_rows : Nat → Int32) (H : Heap) (locs : List Loc) (ls : Array Slot), m_X12_reaches_j116 p1 p2 p3 x5 a_rows = some Rr → va_P D vwCl (w_X12_reaches h_t r_t F_t cI a_rows) H → va_D A (w_X12_reaches h_t r_t F_t cI a_rows) → va_S A s.heap H locs → lv_has ls 7 [(0, .ref h_t), (1, .int p1), (2, .int p2), (3, .int p3), (5, .int x5)] → W p l e rm_X12_reaches s m args below meth c H locs 0 0 Q (F0 m 116 ls []) := by
    intro x5 a_rows H locs ls hf hP hD hS hl
    have hf := (m_X12_reaches_j116.eq_1 _ _ _ _ _).symm.trans hf
    refine lv_aload_n hx hb dX12_reaches_116 rfl (lv_at hl 0 rfl) ?_
    refine z_get (ci := 12) (C := RX12) (T := TX12) (N := 51) (v := .ref (r_t 0)) hx hb hts inT_X12 hown hK hP 0 rfl rfl 0 (by decide) tf_X12_10 rfl dX12_reaches_117 ?_
    refine lv_iload_n hx hb dX12_reaches_120 rfl (lv_at hl 1 rfl) ?_
    refine lv_bipush (v := 64) hx hb dX12_reaches_121 (by decide) ?_
    refine lv_iadd hx hb dX12_reaches_123 ?_
    refine lv_iload_n hx hb dX12_reaches_124 rfl (lv_at hl 2 rfl) ?_
    refine lv_iadd hx hb dX12_reaches_125 ?_
    refine lv_iload hx hb dX12_reaches_126 (lv_at hl 4 rfl) ?_
    refine z_iast hx hb hK hP hD hS 1 rfl (fun z => w_X12_reaches h_t r_t F_t cI z) (fun _ => rfl) dX12_reaches_128 hf (fun a4 H locs hf hP hD hS => ?_)
    refine lv_aload_n hx hb dX12_reaches_129 rfl (lv_at hl 0 rfl) ?_
    refine z_get (ci := 12) (C := RX12) (T := TX12) (N := 51) (v := .ref (r_t 0)) hx hb hts inT_X12 hown hK hP 0 rfl rfl 0 (by decide) tf_X12_10 rfl dX12_reaches_130 ?_
    refine lv_iload_n hx hb dX12_reaches_133 rfl (lv_at hl 1 rfl) ?_
    refine lv_bipush (v := 80) hx hb dX12_reaches_134 (by decide) ?_
    refine lv_iadd hx hb dX12_reaches_136 ?_
    refine lv_iload_n hx hb dX12_reaches_137 rfl (lv_at hl 2 rfl) ?_
    refine lv_iadd hx hb dX12_reaches_138 ?_
    refine lv_aload_n hx hb dX12_reaches_139 rfl (lv_at hl 0 rfl) ?_
    refine z_get (ci := 12) (C := RX12) (T := TX12) (N := 51) (v := .ref (r_t 0)) hx hb hts inT_X12 hown hK hP 0 rfl rfl 0 (by decide) tf_X12_10 rfl dX12_reaches_140 ?_
    refine lv_iload_n hx hb dX12_reaches_143 rfl (lv_at hl 1 rfl) ?_
    refine lv_bipush (v := 80) hx hb dX12_reaches_144 (by decide) ?_
    refine lv_iadd hx hb dX12_reaches_146 ?_
    refine lv_iload_n hx hb dX12_reaches_147 rfl (lv_at hl 2 rfl) ?_
    refine lv_iadd hx hb dX12_reaches_148 ?_
    refine z_iald hx hb hK hP 1 rfl dX12_reaches_149 hf (fun y5 hf => ?_)
    refine lv_iload_n hx hb dX12_reaches_150 rfl (lv_at hl 3 rfl) ?_
    refine z_icmp_ge (tgt := 158) hx hb dX12_reaches_151 (by decide) hf (fun hf => ?_) (fun hf => ?_)
    · refine lv_aload_n hx hb dX12_reaches_158 rfl (lv_at hl 0 rfl) ?_
      refine z_get (ci := 12) (C := RX12) (T := TX12) (N := 51) (v := .ref (r_t 0)) hx hb hts inT_X12 hown hK hP 0 rfl rfl 0 (by decide) tf_X12_10 rfl dX12_reaches_159 ?_
      refine lv_iload_n hx hb dX12_reaches_162 rfl (lv_at hl 1 rfl) ?_
      refine lv_bipush (v := 80) hx hb dX12_reaches_163 (by decide) ?_
      refine lv_iadd hx hb dX12_reaches_165 ?_
      refine lv_iload_n hx hb dX12_reaches_166 rfl (lv_at hl 2 rfl) ?_
      refine lv_iadd hx hb dX12_reaches_167 ?_
      refine z_iald hx hb hK hP 1 rfl dX12_reaches_168 hf (fun y6 hf => ?_)
      refine lv_iload_n hx hb dX12_reaches_169 rfl (lv_at hl 3 rfl) ?_
      refine lv_isub hx hb dX12_reaches_170 ?_
      exact L171 ((p1 + 80) + p2) (y6 - p3) a4 _ _ _ hf hP hD hS (lv_sub hl [] rfl)
    · refine lv_iconst (v := 0) hx hb dX12_reaches_154 (by decide) ?_
      refine lv_goto (tgt := 171) hx hb dX12_reaches_155 (by decide) ?_
      exact L171 ((p1 + 80) + p2) 0 a4 _ _ _ hf hP hD hS (lv_sub hl [] rfl)
  have L77 : ∀ (n77 : Nat) (x4 : Int32) (x5 : Int32) (x6 : Int32) (a_rows : Nat → Int32) (H : Heap) (locs : List Loc) (ls : Array Slot), m_X12_reaches_w77 p1 p2 p3 (m_X12_reaches_j116 p1 p2 p3) n77 x4 x5 x6 a_rows = some Rr → va_P D vwCl (w_X12_reaches h_t r_t F_t cI a_rows) H → va_D A (w_X12_reaches h_t r_t F_t cI a_rows) → va_S A s.heap H locs → lv_has ls 7 [(0, .ref h_t), (1, .int p1), (2, .int p2), (3, .int p3), (4, .int x4), (5, .int x5), (6, .int x6)] → W p l e rm_X12_reaches s m args below meth c H locs 0 0 Q (F0 m 77 ls []) := by
    intro n77
    induction n77 with
    | zero => intro x4 x5 x6 a_rows H locs ls hf; exact Option.noConfusion hf
    | succ n77 ih77 =>
      intro x4 x5 x6 a_rows H locs ls hf hP hD hS hl
      have hf := (m_X12_reaches_w77.eq_2 _ _ _ _ _ _ _ _ _).symm.trans hf
      refine lv_iload hx hb dX12_reaches_77 (lv_at hl 6 rfl) ?_
      refine lv_iconst (v := 2) hx hb dX12_reaches_79 (by decide) ?_
      refine lv_iload hx hb dX12_reaches_80 (lv_at hl 5 rfl) ?_
      refine lv_imul hx hb dX12_reaches_82 ?_
      refine z_icmp_ge (tgt := 116) hx hb dX12_reaches_83 (by decide) hf (fun hf => ?_) (fun hf => ?_)
      · exact L116 x5 a_rows _ _ _ hf hP hD hS (lv_sub hl [0, 1, 2, 3, 5] rfl)
      · refine lv_aload_n hx hb dX12_reaches_86 rfl (lv_at hl 0 rfl) ?_
        refine z_get (ci := 12) (C := RX12) (T := TX12) (N := 51) (v := .ref (r_t 0)) hx hb hts inT_X12 hown hK hP 0 rfl rfl 0 (by decide) tf_X12_10 rfl dX12_reaches_87 ?_
        refine lv_iload hx hb dX12_reaches_90 (lv_at hl 4 rfl) ?_
        refine lv_iload hx hb dX12_reaches_92 (lv_at hl 6 rfl) ?_
        refine lv_iadd hx hb dX12_reaches_94 ?_
        refine lv_aload_n hx hb dX12_reaches_95 rfl (lv_at hl 0 rfl) ?_
        refine z_get (ci := 12) (C := RX12) (T := TX12) (N := 51) (v := .ref (r_t 0)) hx hb hts inT_X12 hown hK hP 0 rfl rfl 0 (by decide) tf_X12_10 rfl dX12_reaches_96 ?_
        refine lv_iload hx hb dX12_reaches_99 (lv_at hl 4 rfl) ?_
        refine lv_iconst (v := 2) hx hb dX12_reaches_101 (by decide) ?_
        refine lv_iload_n hx hb dX12_reaches_102 rfl (lv_at hl 3 rfl) ?_
        refine lv_imul hx hb dX12_reaches_103 ?_
        refine lv_iadd hx hb dX12_reaches_104 ?_
        refine lv_iload hx hb dX12_reaches_105 (lv_at hl 6 rfl) ?_
        refine lv_iadd hx hb dX12_reaches_107 ?_
        refine z_iald hx hb hK hP 1 rfl dX12_reaches_108 hf (fun y8 hf => ?_)
        refine z_iast hx hb hK hP hD hS 1 rfl (fun z => w_X12_reaches h_t r_t F_t cI z) (fun _ => rfl) dX12_reaches_109 hf (fun a9 H locs hf hP hD hS => ?_)
        refine z_iinc (k0 := 6) (fun z => [(6, .int z), (0, .ref h_t), (1, .int p1), (2, .int p2), (3, .int p3), (4, .int x4), (5, .int x5)]) hx hb dX12_reaches_110 hl rfl (by decide) (by decide) (fun _ => rfl) hf (fun v10 ls hf hl => ?_)
        refine lv_goto (tgt := 77) hx hb dX12_reaches_113 (by decide) ?_
        exact ih77 x4 x5 v10 a9 _ _ _ hf hP hD hS (lv_sub hl [1, 2, 3, 4, 5, 6, 0] rfl)
  have L59 : ∀ (x4 : Int32) (a_rows : Nat → Int32) (H : Heap) (locs : List Loc) (ls : Array Slot), m_X12_reaches_j59 p1 p2 p3 x4 a_rows = some Rr → va_P D vwCl (w_X12_reaches h_t r_t F_t cI a_rows) H → va_D A (w_X12_reaches h_t r_t F_t cI a_rows) → va_S A s.heap H locs → lv_has ls 7 [(0, .ref h_t), (1, .int p1), (2, .int p2), (3, .int p3), (4, .int x4)] → W p l e rm_X12_reaches s m args below meth c H locs 0 0 Q (F0 m 59 ls []) := by
    intro x4 a_rows H locs ls hf hP hD hS hl
    have hf := (m_X12_reaches_j59.eq_1 _ _ _ _ _).symm.trans hf
    refine lv_aload_n hx hb dX12_reaches_59 rfl (lv_at hl 0 rfl) ?_
    refine z_get (ci := 12) (C := RX12) (T := TX12) (N := 51) (v := .ref (r_t 0)) hx hb hts inT_X12 hown hK hP 0 rfl rfl 0 (by decide) tf_X12_10 rfl dX12_reaches_60 ?_
    refine lv_iload_n hx hb dX12_reaches_63 rfl (lv_at hl 1 rfl) ?_
    refine lv_bipush (v := 64) hx hb dX12_reaches_64 (by decide) ?_
    refine lv_iadd hx hb dX12_reaches_66 ?_
    refine lv_iload_n hx hb dX12_reaches_67 rfl (lv_at hl 2 rfl) ?_
    refine lv_iadd hx hb dX12_reaches_68 ?_
    refine z_iald hx hb hK hP 1 rfl dX12_reaches_69 hf (fun y2 hf => ?_)
    refine lv_iload_n hx hb dX12_reaches_70 rfl (lv_at hl 3 rfl) ?_
    refine lv_isub hx hb dX12_reaches_71 ?_
    refine z_istore (fun z => [(5, .int z), (0, .ref h_t), (1, .int p1), (2, .int p2), (3, .int p3), (4, .int x4)]) hx hb dX12_reaches_72 hl (by decide) (fun _ => rfl) hf (fun v3 ls hf hl => ?_)
    refine lv_iconst (v := 0) hx hb dX12_reaches_74 (by decide) ?_
    refine lv_istore (lv' := [(6, .int 0), (5, .int v3), (0, .ref h_t), (1, .int p1), (2, .int p2), (3, .int p3), (4, .int x4)]) hx hb dX12_reaches_75 hl (by decide) rfl (fun ls hl => ?_)
    exact L77 fuelN x4 v3 0 a_rows _ _ _ hf hP hD hS (lv_sub hl [2, 3, 4, 5, 6, 1, 0] rfl)
  have L14 : ∀ (n14 : Nat) (x4 : Int32) (x5 : Int32) (a_rows : Nat → Int32) (H : Heap) (locs : List Loc) (ls : Array Slot), m_X12_reaches_w14 p1 p2 p3 (m_X12_reaches_j59 p1 p2 p3) n14 x4 x5 a_rows = some Rr → va_P D vwCl (w_X12_reaches h_t r_t F_t cI a_rows) H → va_D A (w_X12_reaches h_t r_t F_t cI a_rows) → va_S A s.heap H locs → lv_has ls 7 [(0, .ref h_t), (1, .int p1), (2, .int p2), (3, .int p3), (4, .int x4), (5, .int x5)] → W p l e rm_X12_reaches s m args below meth c H locs 0 0 Q (F0 m 14 ls []) := by
    intro n14
    induction n14 with
    | zero => intro x4 x5 a_rows H locs ls hf; exact Option.noConfusion hf
    | succ n14 ih14 =>
      intro x4 x5 a_rows H locs ls hf hP hD hS hl
      have hf := (m_X12_reaches_w14.eq_2 _ _ _ _ _ _ _ _).symm.trans hf
      refine lv_iload hx hb dX12_reaches_14 (lv_at hl 5 rfl) ?_
      refine lv_iload_n hx hb dX12_reaches_16 rfl (lv_at hl 3 rfl) ?_
      refine z_icmp_ge (tgt := 59) hx hb dX12_reaches_17 (by decide) hf (fun hf => ?_) (fun hf => ?_)
      · exact L59 x4 a_rows _ _ _ hf hP hD hS (lv_sub hl [0, 1, 2, 3, 4] rfl)
      · refine lv_aload_n hx hb dX12_reaches_20 rfl (lv_at hl 0 rfl) ?_
        refine z_get (ci := 12) (C := RX12) (T := TX12) (N := 51) (v := .ref (r_t 0)) hx hb hts inT_X12 hown hK hP 0 rfl rfl 0 (by decide) tf_X12_10 rfl dX12_reaches_21 ?_
        refine lv_iload_n hx hb dX12_reaches_24 rfl (lv_at hl 1 rfl) ?_
        refine lv_aload_n hx hb dX12_reaches_25 rfl (lv_at hl 0 rfl) ?_
        refine z_get (ci := 12) (C := RX12) (T := TX12) (N := 51) (v := .ref (r_t 0)) hx hb hts inT_X12 hown hK hP 0 rfl rfl 0 (by decide) tf_X12_10 rfl dX12_reaches_26 ?_
        refine lv_iload hx hb dX12_reaches_29 (lv_at hl 4 rfl) ?_
        refine lv_iconst (v := 2) hx hb dX12_reaches_31 (by decide) ?_
        refine lv_iload hx hb dX12_reaches_32 (lv_at hl 5 rfl) ?_
        refine lv_imul hx hb dX12_reaches_34 ?_
        refine lv_iadd hx hb dX12_reaches_35 ?_
        refine z_iald hx hb hK hP 1 rfl dX12_reaches_36 hf (fun y11 hf => ?_)
        refine lv_iadd hx hb dX12_reaches_37 ?_
        refine lv_aload_n hx hb dX12_reaches_38 rfl (lv_at hl 0 rfl) ?_
        refine z_get (ci := 12) (C := RX12) (T := TX12) (N := 51) (v := .ref (r_t 0)) hx hb hts inT_X12 hown hK hP 0 rfl rfl 0 (by decide) tf_X12_10 rfl dX12_reaches_39 ?_
        refine lv_iload hx hb dX12_reaches_42 (lv_at hl 4 rfl) ?_
        refine lv_iconst (v := 2) hx hb dX12_reaches_44 (by decide) ?_
        refine lv_iload hx hb dX12_reaches_45 (lv_at hl 5 rfl) ?_
        refine lv_imul hx hb dX12_reaches_47 ?_
        refine lv_iadd hx hb dX12_reaches_48 ?_
        refine lv_iconst (v := 1) hx hb dX12_reaches_49 (by decide) ?_
        refine lv_iadd hx hb dX12_reaches_50 ?_
        refine z_iald hx hb hK hP 1 rfl dX12_reaches_51 hf (fun y12 hf => ?_)
        refine z_iast hx hb hK hP hD hS 1 rfl (fun z => w_X12_reaches h_t r_t F_t cI z) (fun _ => rfl) dX12_reaches_52 hf (fun a13 H locs hf hP hD hS => ?_)
        refine z_iinc (k0 := 5) (fun z => [(5, .int z), (0, .ref h_t), (1, .int p1), (2, .int p2), (3, .int p3), (4, .int x4)]) hx hb dX12_reaches_53 hl rfl (by decide) (by decide) (fun _ => rfl) hf (fun v14 ls hf hl => ?_)
        refine lv_goto (tgt := 14) hx hb dX12_reaches_56 (by decide) ?_
        exact ih14 x4 v14 a13 _ _ _ hf hP hD hS (lv_sub hl [1, 2, 3, 4, 5, 0] rfl)
  refine lv_iload_n hx hb dX12_reaches_0 rfl (lv_at hl 1 rfl) ?_
  refine lv_bipush (v := 96) hx hb dX12_reaches_1 (by decide) ?_
  refine lv_iadd hx hb dX12_reaches_3 ?_
  refine lv_bipush (v := 12) hx hb dX12_reaches_4 (by decide) ?_
  refine lv_iload_n hx hb dX12_reaches_6 rfl (lv_at hl 2 rfl) ?_
  refine lv_imul hx hb dX12_reaches_7 ?_
  refine lv_iadd hx hb dX12_reaches_8 ?_
  refine z_istore (fun z => [(4, .int z), (0, .ref h_t), (1, .int p1), (2, .int p2), (3, .int p3)]) hx hb dX12_reaches_9 hl (by decide) (fun _ => rfl) hf (fun v1 ls hf hl => ?_)
  refine lv_iconst (v := 0) hx hb dX12_reaches_11 (by decide) ?_
  refine lv_istore (lv' := [(5, .int 0), (4, .int v1), (0, .ref h_t), (1, .int p1), (2, .int p2), (3, .int p3)]) hx hb dX12_reaches_12 hl (by decide) rfl (fun ls hl => ?_)
  exact L14 fuelN v1 0 a_rows _ _ _ hf hP hD hS (lv_sub hl [2, 3, 4, 5, 1, 0] rfl)
abbrev w_X12_stores (h_t : Nat) (r_t : Nat → Nat) (F_t : Nat → Int32) (cI : ClassId) (a_rows : Nat → Int32) : va_W := [(h_t, .inr (12, o_X12 r_t F_t)), ((r_t 0), .inl (cI, 66100, .inl a_rows))]
abbrev rm_X12_stores : Room := { frames := 1, cells := 0, slots := 0, locals := 26 }
def m_X12_stores_j30 (p1 : Int32) (p2 : Int32) (p3 : Int32) (x4 : Int32) (a_rows : Nat → Int32) : Option ((Nat → Int32)) :=
  rd a_rows 66100 ((p1 + 64) + x4) fun y3 =>
  nm (((p1 + 96) + (12 * x4)) + (2 * y3)) fun v4 =>
  wr a_rows 66100 v4 p2 fun a5 =>
  wr a5 66100 (v4 + 1) p3 fun a6 =>
  rd a6 66100 ((p1 + 64) + x4) fun y7 =>
  wr a6 66100 ((p1 + 64) + x4) (y7 + 1) fun a8 =>
  some a8
def m_X12_stores (a_rows : Nat → Int32) (p1 : Int32) (p2 : Int32) (p3 : Int32) : Option ((Nat → Int32)) :=
  nm (p2 / 4) fun v1 =>
  rd a_rows 66100 ((p1 + 64) + v1) fun y2 =>
  if y2 = 6 then (
  bd (m_X12_reaches a_rows p1 v1 1) fun u9 =>
  m_X12_stores_j30 p1 p2 p3 v1 u9)
  else (
  m_X12_stores_j30 p1 p2 p3 v1 a_rows)
set_option maxHeartbeats 4000000 in
set_option maxRecDepth 100000 in
theorem c_X12_stores (l : Launch) (D : va_G) (cI : ClassId) (h_t : Nat) (r_t : Nat → Nat) (F_t : Nat → Int32) (a_rows : Nat → Int32) (p1 : Int32) (p2 : Int32) (p3 : Int32) (Rr : (Nat → Int32)) (hf : m_X12_stores a_rows p1 p2 p3 = some Rr) : CTv l yX12_stores (Cond.code yX12_stores cX12_stores 6 none) rm_X12_stores D cI [.ref h_t, .int p1, .int p2, .int p3] (w_X12_stores h_t r_t F_t cI a_rows) (w_X12_stores h_t r_t F_t cI Rr) := by
  refine z_begin_v (own := RX12) (ρ := (Nat → Int32)) (fun u => w_X12_stores h_t r_t F_t cI u) (by decide +kernel) rfl (Nat.le_of_ble_eq_true rfl) ?_
  intro p e s m args below meth c ls Q A hx hb hml hts hcx hown hK hA hP hD hS hl hret
  have hl : lv_has ls 6 [(0, .ref h_t), (1, .int p1), (2, .int p2), (3, .int p3)] := hl
  have hf := (m_X12_stores.eq_1 _ _ _ _).symm.trans hf
  have L30 : ∀ (x4 : Int32) (a_rows : Nat → Int32) (H : Heap) (locs : List Loc) (ls : Array Slot), m_X12_stores_j30 p1 p2 p3 x4 a_rows = some Rr → va_P D vwCl (w_X12_stores h_t r_t F_t cI a_rows) H → va_D A (w_X12_stores h_t r_t F_t cI a_rows) → va_S A s.heap H locs → lv_has ls 6 [(0, .ref h_t), (1, .int p1), (2, .int p2), (3, .int p3), (4, .int x4)] → W p l e rm_X12_stores s m args below meth c H locs 0 0 Q (F0 m 30 ls []) := by
    intro x4 a_rows H locs ls hf hP hD hS hl
    have hf := (m_X12_stores_j30.eq_1 _ _ _ _ _).symm.trans hf
    refine lv_iload_n hx hb dX12_stores_30 rfl (lv_at hl 1 rfl) ?_
    refine lv_bipush (v := 96) hx hb dX12_stores_31 (by decide) ?_
    refine lv_iadd hx hb dX12_stores_33 ?_
    refine lv_bipush (v := 12) hx hb dX12_stores_34 (by decide) ?_
    refine lv_iload hx hb dX12_stores_36 (lv_at hl 4 rfl) ?_
    refine lv_imul hx hb dX12_stores_38 ?_
    refine lv_iadd hx hb dX12_stores_39 ?_
    refine lv_iconst (v := 2) hx hb dX12_stores_40 (by decide) ?_
    refine lv_aload_n hx hb dX12_stores_41 rfl (lv_at hl 0 rfl) ?_
    refine z_get (ci := 12) (C := RX12) (T := TX12) (N := 51) (v := .ref (r_t 0)) hx hb hts inT_X12 hown hK hP 0 rfl rfl 0 (by decide) tf_X12_10 rfl dX12_stores_42 ?_
    refine lv_iload_n hx hb dX12_stores_45 rfl (lv_at hl 1 rfl) ?_
    refine lv_bipush (v := 64) hx hb dX12_stores_46 (by decide) ?_
    refine lv_iadd hx hb dX12_stores_48 ?_
    refine lv_iload hx hb dX12_stores_49 (lv_at hl 4 rfl) ?_
    refine lv_iadd hx hb dX12_stores_51 ?_
    refine z_iald hx hb hK hP 1 rfl dX12_stores_52 hf (fun y3 hf => ?_)
    refine lv_imul hx hb dX12_stores_53 ?_
    refine lv_iadd hx hb dX12_stores_54 ?_
    refine z_istore (fun z => [(5, .int z), (0, .ref h_t), (1, .int p1), (2, .int p2), (3, .int p3), (4, .int x4)]) hx hb dX12_stores_55 hl (by decide) (fun _ => rfl) hf (fun v4 ls hf hl => ?_)
    refine lv_aload_n hx hb dX12_stores_57 rfl (lv_at hl 1 rfl) ?_
    refine z_get (ci := 12) (C := RX12) (T := TX12) (N := 51) (v := .ref (r_t 0)) hx hb hts inT_X12 hown hK hP 0 rfl rfl 0 (by decide) tf_X12_10 rfl dX12_stores_58 ?_
    refine lv_iload hx hb dX12_stores_61 (lv_at hl 0 rfl) ?_
    refine lv_iload_n hx hb dX12_stores_63 rfl (lv_at hl 3 rfl) ?_
    refine z_iast hx hb hK hP hD hS 1 rfl (fun z => w_X12_stores h_t r_t F_t cI z) (fun _ => rfl) dX12_stores_64 hf (fun a5 H locs hf hP hD hS => ?_)
    refine lv_aload_n hx hb dX12_stores_65 rfl (lv_at hl 1 rfl) ?_
    refine z_get (ci := 12) (C := RX12) (T := TX12) (N := 51) (v := .ref (r_t 0)) hx hb hts inT_X12 hown hK hP 0 rfl rfl 0 (by decide) tf_X12_10 rfl dX12_stores_66 ?_
    refine lv_iload hx hb dX12_stores_69 (lv_at hl 0 rfl) ?_
    refine lv_iconst (v := 1) hx hb dX12_stores_71 (by decide) ?_
    refine lv_iadd hx hb dX12_stores_72 ?_
    refine lv_iload_n hx hb dX12_stores_73 rfl (lv_at hl 4 rfl) ?_
    refine z_iast hx hb hK hP hD hS 1 rfl (fun z => w_X12_stores h_t r_t F_t cI z) (fun _ => rfl) dX12_stores_74 hf (fun a6 H locs hf hP hD hS => ?_)
    refine lv_aload_n hx hb dX12_stores_75 rfl (lv_at hl 1 rfl) ?_
    refine z_get (ci := 12) (C := RX12) (T := TX12) (N := 51) (v := .ref (r_t 0)) hx hb hts inT_X12 hown hK hP 0 rfl rfl 0 (by decide) tf_X12_10 rfl dX12_stores_76 ?_
    refine lv_iload_n hx hb dX12_stores_79 rfl (lv_at hl 2 rfl) ?_
    refine lv_bipush (v := 64) hx hb dX12_stores_80 (by decide) ?_
    refine lv_iadd hx hb dX12_stores_82 ?_
    refine lv_iload hx hb dX12_stores_83 (lv_at hl 5 rfl) ?_
    refine lv_iadd hx hb dX12_stores_85 ?_
    refine lv_dup2_11 hx hb dX12_stores_86 rfl rfl ?_
    refine z_iald hx hb hK hP 1 rfl dX12_stores_87 hf (fun y7 hf => ?_)
    refine lv_iconst (v := 1) hx hb dX12_stores_88 (by decide) ?_
    refine lv_iadd hx hb dX12_stores_89 ?_
    refine z_iast hx hb hK hP hD hS 1 rfl (fun z => w_X12_stores h_t r_t F_t cI z) (fun _ => rfl) dX12_stores_90 hf (fun a8 H locs hf hP hD hS => ?_)
    exact hret a8 _ _ _ _ hf hP hD hS dX12_stores_91
  refine lv_iload_n hx hb dX12_stores_0 rfl (lv_at hl 2 rfl) ?_
  refine lv_iconst (v := 4) hx hb dX12_stores_1 (by decide) ?_
  refine lv_idiv hx hb dX12_stores_2 (by decide) ?_
  refine z_istore (fun z => [(4, .int z), (0, .ref h_t), (1, .int p1), (2, .int p2), (3, .int p3)]) hx hb dX12_stores_3 hl (by decide) (fun _ => rfl) hf (fun v1 ls hf hl => ?_)
  refine lv_aload_n hx hb dX12_stores_5 rfl (lv_at hl 1 rfl) ?_
  refine z_get (ci := 12) (C := RX12) (T := TX12) (N := 51) (v := .ref (r_t 0)) hx hb hts inT_X12 hown hK hP 0 rfl rfl 0 (by decide) tf_X12_10 rfl dX12_stores_6 ?_
  refine lv_iload_n hx hb dX12_stores_9 rfl (lv_at hl 2 rfl) ?_
  refine lv_bipush (v := 64) hx hb dX12_stores_10 (by decide) ?_
  refine lv_iadd hx hb dX12_stores_12 ?_
  refine lv_iload hx hb dX12_stores_13 (lv_at hl 0 rfl) ?_
  refine lv_iadd hx hb dX12_stores_15 ?_
  refine z_iald hx hb hK hP 1 rfl dX12_stores_16 hf (fun y2 hf => ?_)
  refine lv_bipush (v := 6) hx hb dX12_stores_17 (by decide) ?_
  refine z_icmp_ne (tgt := 30) hx hb dX12_stores_19 (by decide) hf (fun hf => ?_) (fun hf => ?_)
  · exact L30 v1 a_rows _ _ _ hf hP hD hS (lv_sub hl [1, 2, 3, 4, 0] rfl)
  · refine lv_aload_n hx hb dX12_stores_22 rfl (lv_at hl 1 rfl) ?_
    refine lv_iload_n hx hb dX12_stores_23 rfl (lv_at hl 2 rfl) ?_
    refine lv_iload hx hb dX12_stores_24 (lv_at hl 0 rfl) ?_
    refine lv_iconst (v := 1) hx hb dX12_stores_26 (by decide) ?_
    obtain ⟨u9, hu9, hf⟩ := bd_some hf
    refine z_cv (ws1 := w_X12_stores h_t r_t F_t cI u9) (z_rV (rest := []) hx hb hml hown hcx hl.1 (c_X12_reaches l D cI h_t r_t F_t a_rows p1 v1 1 u9 hu9 _) tl_X12_66 ti_X12_reaches tz_X12_reaches tn_X12 tc_X12_reaches tm_X12_reaches rfl rfl ⟨Nat.le_of_ble_eq_true rfl, Nat.le_of_ble_eq_true rfl⟩ hK hP hD [0, 1] rfl rfl 0 rfl rfl rfl rfl (Nat.le_of_ble_eq_true rfl) dX12_stores_27 ⟨Nat.zero_le _, Nat.zero_le _⟩) hP hD hS hA [0, 1] [] [0, 1] rfl (wr := _) rfl rfl (by decide) rfl rfl (fun H locs hP hD hS => ?_)
    exact L30 v1 u9 _ _ _ hf hP hD hS (lv_sub hl [1, 2, 3, 4, 0] rfl)
abbrev w_X12_does (h_t : Nat) (r_t : Nat → Nat) (F_t : Nat → Int32) (cI : ClassId) (a_rows : Nat → Int32) : va_W := [(h_t, .inr (12, o_X12 r_t F_t)), ((r_t 0), .inl (cI, 66100, .inl a_rows))]
abbrev rm_X12_does : Room := { frames := 2, cells := 0, slots := 0, locals := 51 }
def m_X12_does_j108 (p1 : Int32) (p2 : Int32) (p3 : Int32) (p4 : Int32) (a_rows : Nat → Int32) : Option ((Nat → Int32)) :=
  rd a_rows 66100 (p1 + 785) fun y1 =>
  wr a_rows 66100 (p1 + 785) (y1 + 1) fun a2 =>
  some a2
def m_X12_does_w76 (p1 : Int32) (p2 : Int32) (p3 : Int32) (p4 : Int32) (k108 : (Nat → Int32) → Option ((Nat → Int32))) : Nat → Int32 → (Nat → Int32) → Option ((Nat → Int32))
  | 0, _, _ => none
  | n76 + 1, x5, a_rows =>
    if 16 ≤ x5 then (
    k108 a_rows)
    else (
    rd a_rows 66100 ((p1 + 80) + x5) fun y3 =>
    bd (m_X12_reaches a_rows p1 x5 y3) fun u4 =>
    nm (x5 + 1) fun v5 =>
    m_X12_does_w76 p1 p2 p3 p4 k108 n76 v5 u4)
def m_X12_does (a_rows : Nat → Int32) (p1 : Int32) (p2 : Int32) (p3 : Int32) (p4 : Int32) : Option ((Nat → Int32)) :=
  if p2 = 0 then (
  bd (m_X12_stores a_rows p1 p3 p4) fun u10 =>
  rd u10 66100 (p1 + 783) fun y11 =>
  wr u10 66100 (p1 + 783) (y11 + 1) fun a12 =>
  some a12)
  else (
  if p2 = 1 then (
  rd a_rows 66100 ((p1 + 64) + p3) fun y6 =>
  wr a_rows 66100 ((p1 + 80) + p3) y6 fun a7 =>
  rd a7 66100 (p1 + 784) fun y8 =>
  wr a7 66100 (p1 + 784) (y8 + 1) fun a9 =>
  some a9)
  else (
  m_X12_does_w76 p1 p2 p3 p4 (m_X12_does_j108 p1 p2 p3 p4) fuelN 0 a_rows))
set_option maxHeartbeats 4000000 in
set_option maxRecDepth 100000 in
theorem c_X12_does (l : Launch) (D : va_G) (cI : ClassId) (h_t : Nat) (r_t : Nat → Nat) (F_t : Nat → Int32) (a_rows : Nat → Int32) (p1 : Int32) (p2 : Int32) (p3 : Int32) (p4 : Int32) (Rr : (Nat → Int32)) (hf : m_X12_does a_rows p1 p2 p3 p4 = some Rr) : CTv l yX12_does (Cond.code yX12_does cX12_does 6 none) rm_X12_does D cI [.ref h_t, .int p1, .int p2, .int p3, .int p4] (w_X12_does h_t r_t F_t cI a_rows) (w_X12_does h_t r_t F_t cI Rr) := by
  refine z_begin_v (own := RX12) (ρ := (Nat → Int32)) (fun u => w_X12_does h_t r_t F_t cI u) (by decide +kernel) rfl (Nat.le_of_ble_eq_true rfl) ?_
  intro p e s m args below meth c ls Q A hx hb hml hts hcx hown hK hA hP hD hS hl hret
  have hl : lv_has ls 6 [(0, .ref h_t), (1, .int p1), (2, .int p2), (3, .int p3), (4, .int p4)] := hl
  have hf := (m_X12_does.eq_1 _ _ _ _ _).symm.trans hf
  have L108 : ∀ (a_rows : Nat → Int32) (H : Heap) (locs : List Loc) (ls : Array Slot), m_X12_does_j108 p1 p2 p3 p4 a_rows = some Rr → va_P D vwCl (w_X12_does h_t r_t F_t cI a_rows) H → va_D A (w_X12_does h_t r_t F_t cI a_rows) → va_S A s.heap H locs → lv_has ls 6 [(0, .ref h_t), (1, .int p1)] → W p l e rm_X12_does s m args below meth c H locs 0 0 Q (F0 m 108 ls []) := by
    intro a_rows H locs ls hf hP hD hS hl
    have hf := (m_X12_does_j108.eq_1 _ _ _ _ _).symm.trans hf
    refine lv_aload_n hx hb dX12_does_108 rfl (lv_at hl 0 rfl) ?_
    refine z_get (ci := 12) (C := RX12) (T := TX12) (N := 51) (v := .ref (r_t 0)) hx hb hts inT_X12 hown hK hP 0 rfl rfl 0 (by decide) tf_X12_10 rfl dX12_does_109 ?_
    refine lv_iload_n hx hb dX12_does_112 rfl (lv_at hl 1 rfl) ?_
    refine lv_sipush (v := 785) hx hb dX12_does_113 (by decide) ?_
    refine lv_iadd hx hb dX12_does_116 ?_
    refine lv_dup2_11 hx hb dX12_does_117 rfl rfl ?_
    refine z_iald hx hb hK hP 1 rfl dX12_does_118 hf (fun y1 hf => ?_)
    refine lv_iconst (v := 1) hx hb dX12_does_119 (by decide) ?_
    refine lv_iadd hx hb dX12_does_120 ?_
    refine z_iast hx hb hK hP hD hS 1 rfl (fun z => w_X12_does h_t r_t F_t cI z) (fun _ => rfl) dX12_does_121 hf (fun a2 H locs hf hP hD hS => ?_)
    exact hret a2 _ _ _ _ hf hP hD hS dX12_does_122
  have L76 : ∀ (n76 : Nat) (x5 : Int32) (a_rows : Nat → Int32) (H : Heap) (locs : List Loc) (ls : Array Slot), m_X12_does_w76 p1 p2 p3 p4 (m_X12_does_j108 p1 p2 p3 p4) n76 x5 a_rows = some Rr → va_P D vwCl (w_X12_does h_t r_t F_t cI a_rows) H → va_D A (w_X12_does h_t r_t F_t cI a_rows) → va_S A s.heap H locs → lv_has ls 6 [(0, .ref h_t), (1, .int p1), (5, .int x5)] → W p l e rm_X12_does s m args below meth c H locs 0 0 Q (F0 m 76 ls []) := by
    intro n76
    induction n76 with
    | zero => intro x5 a_rows H locs ls hf; exact Option.noConfusion hf
    | succ n76 ih76 =>
      intro x5 a_rows H locs ls hf hP hD hS hl
      have hf := (m_X12_does_w76.eq_2 _ _ _ _ _ _ _ _).symm.trans hf
      refine lv_iload hx hb dX12_does_76 (lv_at hl 2 rfl) ?_
      refine lv_bipush (v := 16) hx hb dX12_does_78 (by decide) ?_
      refine z_icmp_ge (tgt := 108) hx hb dX12_does_80 (by decide) hf (fun hf => ?_) (fun hf => ?_)
      · exact L108 a_rows _ _ _ hf hP hD hS (lv_sub hl [0, 1] rfl)
      · refine lv_aload_n hx hb dX12_does_83 rfl (lv_at hl 0 rfl) ?_
        refine lv_iload_n hx hb dX12_does_84 rfl (lv_at hl 1 rfl) ?_
        refine lv_iload hx hb dX12_does_85 (lv_at hl 2 rfl) ?_
        refine lv_aload_n hx hb dX12_does_87 rfl (lv_at hl 0 rfl) ?_
        refine z_get (ci := 12) (C := RX12) (T := TX12) (N := 51) (v := .ref (r_t 0)) hx hb hts inT_X12 hown hK hP 0 rfl rfl 0 (by decide) tf_X12_10 rfl dX12_does_88 ?_
        refine lv_iload_n hx hb dX12_does_91 rfl (lv_at hl 1 rfl) ?_
        refine lv_bipush (v := 80) hx hb dX12_does_92 (by decide) ?_
        refine lv_iadd hx hb dX12_does_94 ?_
        refine lv_iload hx hb dX12_does_95 (lv_at hl 2 rfl) ?_
        refine lv_iadd hx hb dX12_does_97 ?_
        refine z_iald hx hb hK hP 1 rfl dX12_does_98 hf (fun y3 hf => ?_)
        obtain ⟨u4, hu4, hf⟩ := bd_some hf
        refine z_cv (ws1 := w_X12_does h_t r_t F_t cI u4) (z_rV (rest := []) hx hb hml hown hcx hl.1 (c_X12_reaches l D cI h_t r_t F_t a_rows p1 x5 y3 u4 hu4 _) tl_X12_66 ti_X12_reaches tz_X12_reaches tn_X12 tc_X12_reaches tm_X12_reaches rfl rfl ⟨Nat.le_of_ble_eq_true rfl, Nat.le_of_ble_eq_true rfl⟩ hK hP hD [0, 1] rfl rfl 0 rfl rfl rfl rfl (Nat.le_of_ble_eq_true rfl) dX12_does_99 ⟨Nat.zero_le _, Nat.zero_le _⟩) hP hD hS hA [0, 1] [] [0, 1] rfl (wr := _) rfl rfl (by decide) rfl rfl (fun H locs hP hD hS => ?_)
        refine z_iinc (k0 := 2) (fun z => [(5, .int z), (0, .ref h_t), (1, .int p1)]) hx hb dX12_does_102 hl rfl (by decide) (by decide) (fun _ => rfl) hf (fun v5 ls hf hl => ?_)
        refine lv_goto (tgt := 76) hx hb dX12_does_105 (by decide) ?_
        exact ih76 v5 u4 _ _ _ hf hP hD hS (lv_sub hl [1, 2, 0] rfl)
  refine lv_iload_n hx hb dX12_does_0 rfl (lv_at hl 2 rfl) ?_
  refine z_if_ne (tgt := 29) hx hb dX12_does_1 (by decide) hf (fun hf => ?_) (fun hf => ?_)
  · refine lv_iload_n hx hb dX12_does_29 rfl (lv_at hl 2 rfl) ?_
    refine lv_iconst (v := 1) hx hb dX12_does_30 (by decide) ?_
    refine z_icmp_ne (tgt := 73) hx hb dX12_does_31 (by decide) hf (fun hf => ?_) (fun hf => ?_)
    · refine lv_iconst (v := 0) hx hb dX12_does_73 (by decide) ?_
      refine lv_istore (lv' := [(5, .int 0), (0, .ref h_t), (1, .int p1), (2, .int p2), (3, .int p3), (4, .int p4)]) hx hb dX12_does_74 hl (by decide) rfl (fun ls hl => ?_)
      exact L76 fuelN 0 a_rows _ _ _ hf hP hD hS (lv_sub hl [1, 2, 0] rfl)
    · refine lv_aload_n hx hb dX12_does_34 rfl (lv_at hl 0 rfl) ?_
      refine z_get (ci := 12) (C := RX12) (T := TX12) (N := 51) (v := .ref (r_t 0)) hx hb hts inT_X12 hown hK hP 0 rfl rfl 0 (by decide) tf_X12_10 rfl dX12_does_35 ?_
      refine lv_iload_n hx hb dX12_does_38 rfl (lv_at hl 1 rfl) ?_
      refine lv_bipush (v := 80) hx hb dX12_does_39 (by decide) ?_
      refine lv_iadd hx hb dX12_does_41 ?_
      refine lv_iload_n hx hb dX12_does_42 rfl (lv_at hl 3 rfl) ?_
      refine lv_iadd hx hb dX12_does_43 ?_
      refine lv_aload_n hx hb dX12_does_44 rfl (lv_at hl 0 rfl) ?_
      refine z_get (ci := 12) (C := RX12) (T := TX12) (N := 51) (v := .ref (r_t 0)) hx hb hts inT_X12 hown hK hP 0 rfl rfl 0 (by decide) tf_X12_10 rfl dX12_does_45 ?_
      refine lv_iload_n hx hb dX12_does_48 rfl (lv_at hl 1 rfl) ?_
      refine lv_bipush (v := 64) hx hb dX12_does_49 (by decide) ?_
      refine lv_iadd hx hb dX12_does_51 ?_
      refine lv_iload_n hx hb dX12_does_52 rfl (lv_at hl 3 rfl) ?_
      refine lv_iadd hx hb dX12_does_53 ?_
      refine z_iald hx hb hK hP 1 rfl dX12_does_54 hf (fun y6 hf => ?_)
      refine z_iast hx hb hK hP hD hS 1 rfl (fun z => w_X12_does h_t r_t F_t cI z) (fun _ => rfl) dX12_does_55 hf (fun a7 H locs hf hP hD hS => ?_)
      refine lv_aload_n hx hb dX12_does_56 rfl (lv_at hl 0 rfl) ?_
      refine z_get (ci := 12) (C := RX12) (T := TX12) (N := 51) (v := .ref (r_t 0)) hx hb hts inT_X12 hown hK hP 0 rfl rfl 0 (by decide) tf_X12_10 rfl dX12_does_57 ?_
      refine lv_iload_n hx hb dX12_does_60 rfl (lv_at hl 1 rfl) ?_
      refine lv_sipush (v := 784) hx hb dX12_does_61 (by decide) ?_
      refine lv_iadd hx hb dX12_does_64 ?_
      refine lv_dup2_11 hx hb dX12_does_65 rfl rfl ?_
      refine z_iald hx hb hK hP 1 rfl dX12_does_66 hf (fun y8 hf => ?_)
      refine lv_iconst (v := 1) hx hb dX12_does_67 (by decide) ?_
      refine lv_iadd hx hb dX12_does_68 ?_
      refine z_iast hx hb hK hP hD hS 1 rfl (fun z => w_X12_does h_t r_t F_t cI z) (fun _ => rfl) dX12_does_69 hf (fun a9 H locs hf hP hD hS => ?_)
      refine lv_goto (tgt := 122) hx hb dX12_does_70 (by decide) ?_
      exact hret a9 _ _ _ _ hf hP hD hS dX12_does_122
  · refine lv_aload_n hx hb dX12_does_4 rfl (lv_at hl 0 rfl) ?_
    refine lv_iload_n hx hb dX12_does_5 rfl (lv_at hl 1 rfl) ?_
    refine lv_iload_n hx hb dX12_does_6 rfl (lv_at hl 3 rfl) ?_
    refine lv_iload hx hb dX12_does_7 (lv_at hl 4 rfl) ?_
    obtain ⟨u10, hu10, hf⟩ := bd_some hf
    refine z_cv (ws1 := w_X12_does h_t r_t F_t cI u10) (z_rV (rest := []) hx hb hml hown hcx hl.1 (c_X12_stores l D cI h_t r_t F_t a_rows p1 p3 p4 u10 hu10 _) tl_X12_70 ti_X12_stores tz_X12_stores tn_X12 tc_X12_stores tm_X12_stores rfl rfl ⟨Nat.le_of_ble_eq_true rfl, Nat.le_of_ble_eq_true rfl⟩ hK hP hD [0, 1] rfl rfl 0 rfl rfl rfl rfl (Nat.le_of_ble_eq_true rfl) dX12_does_9 ⟨Nat.zero_le _, Nat.zero_le _⟩) hP hD hS hA [0, 1] [] [0, 1] rfl (wr := _) rfl rfl (by decide) rfl rfl (fun H locs hP hD hS => ?_)
    refine lv_aload_n hx hb dX12_does_12 rfl (lv_at hl 0 rfl) ?_
    refine z_get (ci := 12) (C := RX12) (T := TX12) (N := 51) (v := .ref (r_t 0)) hx hb hts inT_X12 hown hK hP 0 rfl rfl 0 (by decide) tf_X12_10 rfl dX12_does_13 ?_
    refine lv_iload_n hx hb dX12_does_16 rfl (lv_at hl 1 rfl) ?_
    refine lv_sipush (v := 783) hx hb dX12_does_17 (by decide) ?_
    refine lv_iadd hx hb dX12_does_20 ?_
    refine lv_dup2_11 hx hb dX12_does_21 rfl rfl ?_
    refine z_iald hx hb hK hP 1 rfl dX12_does_22 hf (fun y11 hf => ?_)
    refine lv_iconst (v := 1) hx hb dX12_does_23 (by decide) ?_
    refine lv_iadd hx hb dX12_does_24 ?_
    refine z_iast hx hb hK hP hD hS 1 rfl (fun z => w_X12_does h_t r_t F_t cI z) (fun _ => rfl) dX12_does_25 hf (fun a12 H locs hf hP hD hS => ?_)
    refine lv_goto (tgt := 122) hx hb dX12_does_26 (by decide) ?_
    exact hret a12 _ _ _ _ hf hP hD hS dX12_does_122
