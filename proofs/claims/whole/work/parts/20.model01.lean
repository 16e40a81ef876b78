abbrev w_X12_begins (h_t : Nat) (r_t : Nat → Nat) (F_t : Nat → Int32) (cI : ClassId) (a_rows : Nat → Int32) : va_W := [(h_t, .inr (12, o_X12 r_t F_t)), ((r_t 0), .inl (cI, 66100, .inl a_rows))]
abbrev rm_X12_begins : Room := { frames := 0, cells := 0, slots := 0, locals := 0 }
def m_X12_begins_w2 : Nat → Int32 → (Nat → Int32) → Option ((Nat → Int32))
  | 0, _, _ => none
  | n2 + 1, x1, a_rows =>
    if 786 ≤ x1 then (
    some a_rows)
    else (
    wr a_rows 66100 x1 0 fun a1 =>
    nm (x1 + 1) fun v2 =>
    m_X12_begins_w2 n2 v2 a1)
def m_X12_begins (a_rows : Nat → Int32) : Option ((Nat → Int32)) :=
  m_X12_begins_w2 fuelN 0 a_rows
set_option maxHeartbeats 4000000 in
set_option maxRecDepth 100000 in
theorem c_X12_begins (l : Launch) (D : va_G) (cI : ClassId) (h_t : Nat) (r_t : Nat → Nat) (F_t : Nat → Int32) (a_rows : Nat → Int32) (Rr : (Nat → Int32)) (hf : m_X12_begins a_rows = some Rr) : CTv l yX12_begins (Cond.code yX12_begins cX12_begins 2 none) rm_X12_begins D cI [.ref h_t] (w_X12_begins h_t r_t F_t cI a_rows) (w_X12_begins h_t r_t F_t cI Rr) := by
  refine z_begin_v (own := RX12) (ρ := (Nat → Int32)) (fun u => w_X12_begins h_t r_t F_t cI u) (by decide +kernel) rfl (Nat.le_of_ble_eq_true rfl) ?_
  intro p e s m args below meth c ls Q A hx hb hml hts hcx hown hK hX hA hP hD hS hl hret
  have hl : lv_has ls 2 [(0, .ref h_t)] := hl
  have hf := (m_X12_begins.eq_1 _).symm.trans hf
  have L2 : ∀ (n2 : Nat) (x1 : Int32) (a_rows : Nat → Int32) (H : Heap) (locs : List Loc) (ls : Array Slot), m_X12_begins_w2 n2 x1 a_rows = some Rr → va_P D vwCl (w_X12_begins h_t r_t F_t cI a_rows) H → va_D A (w_X12_begins h_t r_t F_t cI a_rows) → va_S A s.heap H locs → lv_has ls 2 [(0, .ref h_t), (1, .int x1)] → W p l e rm_X12_begins s m args below meth c H locs 0 0 Q (F0 m 2 ls []) := by
    intro n2
    induction n2 with
    | zero => intro x1 a_rows H locs ls hf; cases (show (none : Option _) = some Rr from hf)
    | succ n2 ih2 =>
      intro x1 a_rows H locs ls hf hP hD hS hl
      have hf := (m_X12_begins_w2.eq_2 _ _ _).symm.trans hf
      refine lv_iload_n hx hb dX12_begins_2 rfl (lv_at hl 1 rfl) ?_
      refine lv_sipush (v := 786) hx hb dX12_begins_3 (by decide) ?_
      refine z_icmp_ge (tgt := 22) hx hb dX12_begins_6 (by decide) hf (fun hf => ?_) (fun hf => ?_)
      · exact hret a_rows _ _ _ _ hf hP hD hS dX12_begins_22
      · refine lv_aload_n hx hb dX12_begins_9 rfl (lv_at hl 0 rfl) ?_
        refine z_get (ci := 12) (C := RX12) (T := TX12) (N := 51) (v := .ref (r_t 0)) hx hb hts inT_X12 hown hK hP 0 rfl rfl 0 (by decide) tf_X12_10 rfl dX12_begins_10 ?_
        refine lv_iload_n hx hb dX12_begins_13 rfl (lv_at hl 1 rfl) ?_
        refine lv_iconst (v := 0) hx hb dX12_begins_14 (by decide) ?_
        refine z_iast hx hb hK hP hD hS 1 rfl (fun z => w_X12_begins h_t r_t F_t cI z) (fun _ => rfl) dX12_begins_15 hf (fun a1 H locs hf hP hD hS => ?_)
        refine z_iinc (k0 := 1) (fun z => [(1, .int z), (0, .ref h_t)]) hx hb dX12_begins_16 hl rfl (by decide) (by decide) (fun _ => rfl) hf (fun v2 ls hf hl => ?_)
        refine lv_goto (tgt := 2) hx hb dX12_begins_19 (by decide) ?_
        exact ih2 v2 a1 _ _ _ hf hP hD hS (lv_sub hl [1, 0] rfl)
  refine lv_iconst (v := 0) hx hb dX12_begins_0 (by decide) ?_
  refine lv_istore_n (lv' := [(1, .int 0), (0, .ref h_t)]) hx hb dX12_begins_1 rfl hl (by decide) rfl (fun ls hl => ?_)
  exact L2 fuelN 0 a_rows _ _ _ hf hP hD hS (lv_sub hl [1, 0] rfl)
abbrev w_X12_thrown (h_t : Nat) (r_t : Nat → Nat) (F_t : Nat → Int32) (cI : ClassId) : va_W := [(h_t, .inr (12, o_X12 r_t F_t))]
abbrev rm_X12_thrown : Room := { frames := 0, cells := 0, slots := 0, locals := 0 }
def m_X12_thrown (F_t : Nat → Int32) : Option (Int32) :=
  some (F_t 4)
set_option maxHeartbeats 4000000 in
set_option maxRecDepth 100000 in
theorem c_X12_thrown (l : Launch) (D : va_G) (cI : ClassId) (h_t : Nat) (r_t : Nat → Nat) (F_t : Nat → Int32) (Rr : Int32) (hf : m_X12_thrown F_t = some Rr) : CTi l yX12_thrown (Cond.code yX12_thrown cX12_thrown 1 (some .int)) rm_X12_thrown D cI [.ref h_t] (w_X12_thrown h_t r_t F_t cI) Rr (w_X12_thrown h_t r_t F_t cI) := by
  refine z_begin_i (own := RX12) (ρ := Int32) (fun u => w_X12_thrown h_t r_t F_t cI) (fun u => u) (by decide +kernel) rfl (Nat.le_of_ble_eq_true rfl) ?_
  intro p e s m args below meth c ls Q A hx hb hml hts hcx hown hK hX hA hP hD hS hl hret
  have hl : lv_has ls 1 [(0, .ref h_t)] := hl
  have hf := (m_X12_thrown.eq_1 _).symm.trans hf
  refine lv_aload_n hx hb dX12_thrown_0 rfl (lv_at hl 0 rfl) ?_
  refine z_get (ci := 12) (C := RX12) (T := TX12) (N := 51) (v := .int (F_t 4)) hx hb hts inT_X12 hown hK hP 0 rfl rfl 4 (by decide) tf_X12_63 rfl dX12_thrown_1 ?_
  exact hret (F_t 4) _ _ _ _ hf hP hD hS dX12_thrown_4
abbrev w_X12_right (h_t : Nat) (r_t : Nat → Nat) (F_t : Nat → Int32) (cI : ClassId) : va_W := [(h_t, .inr (12, o_X12 r_t F_t))]
abbrev rm_X12_right : Room := { frames := 0, cells := 0, slots := 0, locals := 0 }
def m_X12_right_j16 (p1 : Int32) (p2 : Int32) (F_t : Nat → Int32) : Option (Int32 × (Nat → Int32)) :=
  if (F_t 4) = 0 then (
  some (1, F_t))
  else (
  some (0, F_t))
def m_X12_right (F_t : Nat → Int32) (p1 : Int32) (p2 : Int32) : Option (Int32 × (Nat → Int32)) :=
  if (F_t 4) = 0 then (
  if p1 = 0 then (
  nm (upd F_t 4 p2) fun F1 =>
  m_X12_right_j16 p1 p2 F1)
  else (
  m_X12_right_j16 p1 p2 F_t))
  else (
  m_X12_right_j16 p1 p2 F_t)
set_option maxHeartbeats 4000000 in
set_option maxRecDepth 100000 in
theorem c_X12_right (l : Launch) (D : va_G) (cI : ClassId) (h_t : Nat) (r_t : Nat → Nat) (F_t : Nat → Int32) (p1 : Int32) (p2 : Int32) (Rr : Int32 × (Nat → Int32)) (hf : m_X12_right F_t p1 p2 = some Rr) : CTi l yX12_right (Cond.code yX12_right cX12_right 3 (some .boolean)) rm_X12_right D cI [.ref h_t, .int p1, .int p2] (w_X12_right h_t r_t F_t cI) Rr.1 (w_X12_right h_t r_t Rr.2 cI) := by
  refine z_begin_z (own := RX12) (ρ := Int32 × (Nat → Int32)) (fun u => w_X12_right h_t r_t u.2 cI) (fun u => u.1) (by decide +kernel) rfl (Nat.le_of_ble_eq_true rfl) ?_
  intro p e s m args below meth c ls Q A hx hb hml hts hcx hown hK hX hA hP hD hS hl hret
  have hl : lv_has ls 3 [(0, .ref h_t), (1, .int p1), (2, .int p2)] := hl
  have hf := (m_X12_right.eq_1 _ _ _).symm.trans hf
  have L16 : ∀ (F_t : Nat → Int32) (H : Heap) (locs : List Loc) (ls : Array Slot), m_X12_right_j16 p1 p2 F_t = some Rr → va_P D vwCl (w_X12_right h_t r_t F_t cI) H → va_D A (w_X12_right h_t r_t F_t cI) → va_S A s.heap H locs → lv_has ls 3 [(0, .ref h_t)] → W p l e rm_X12_right s m args below meth c H locs 0 0 Q (F0 m 16 ls []) := by
    intro F_t H locs ls hf hP hD hS hl
    have hf := (m_X12_right_j16.eq_1 _ _ _).symm.trans hf
    refine lv_aload_n hx hb dX12_right_16 rfl (lv_at hl 0 rfl) ?_
    refine z_get (ci := 12) (C := RX12) (T := TX12) (N := 51) (v := .int (F_t 4)) hx hb hts inT_X12 hown hK hP 0 rfl rfl 4 (by decide) tf_X12_63 rfl dX12_right_17 ?_
    refine z_if_ne (tgt := 27) hx hb dX12_right_20 (by decide) hf (fun hf => ?_) (fun hf => ?_)
    · refine lv_iconst (v := 0) hx hb dX12_right_27 (by decide) ?_
      exact hret (0, F_t) _ _ _ _ (Or.inl rfl) hf hP hD hS dX12_right_28
    · refine lv_iconst (v := 1) hx hb dX12_right_23 (by decide) ?_
      refine lv_goto (tgt := 28) hx hb dX12_right_24 (by decide) ?_
      exact hret (1, F_t) _ _ _ _ (Or.inr rfl) hf hP hD hS dX12_right_28
  refine lv_aload_n hx hb dX12_right_0 rfl (lv_at hl 0 rfl) ?_
  refine z_get (ci := 12) (C := RX12) (T := TX12) (N := 51) (v := .int (F_t 4)) hx hb hts inT_X12 hown hK hP 0 rfl rfl 4 (by decide) tf_X12_63 rfl dX12_right_1 ?_
  refine z_if_ne (tgt := 16) hx hb dX12_right_4 (by decide) hf (fun hf => ?_) (fun hf => ?_)
  · exact L16 F_t _ _ _ hf hP hD hS (lv_sub hl [0] rfl)
  · refine lv_iload_n hx hb dX12_right_7 rfl (lv_at hl 1 rfl) ?_
    refine z_if_ne (tgt := 16) hx hb dX12_right_8 (by decide) hf (fun hf => ?_) (fun hf => ?_)
    · exact L16 F_t _ _ _ hf hP hD hS (lv_sub hl [0] rfl)
    · refine lv_aload_n hx hb dX12_right_11 rfl (lv_at hl 0 rfl) ?_
      refine lv_iload_n hx hb dX12_right_12 rfl (lv_at hl 2 rfl) ?_
      refine z_put (ci := 12) (C := RX12) (T := TX12) (N := 51) hx hb hts inT_X12 tyX12 tyX12_ok nmX12 hown hK hP hD hS 0 rfl rfl 4 (by decide) tf_X12_63 rfl (by decide +kernel) (Nat.le_of_ble_eq_true rfl) (o_X12 r_t) (o_X12_s4 _ _ _) (fun z => w_X12_right h_t r_t z cI) (fun _ => rfl) dX12_right_13 hf (fun F1 H locs hf hP hD hS => ?_)
      exact L16 F1 _ _ _ hf hP hD hS (lv_sub hl [0] rfl)
abbrev w_X12_within (cI : ClassId) : va_W := []
abbrev rm_X12_within : Room := { frames := 0, cells := 0, slots := 0, locals := 0 }
def m_X12_within (p0 : Int32) (p1 : Int32) (p2 : Int32) : Option (Int32) :=
  if p0 < p1 then (
  some 0)
  else (
  if p2 < p0 then (
  some 0)
  else (
  some 1))
set_option maxHeartbeats 4000000 in
set_option maxRecDepth 100000 in
theorem c_X12_within (l : Launch) (D : va_G) (cI : ClassId) (p0 : Int32) (p1 : Int32) (p2 : Int32) (Rr : Int32) (hf : m_X12_within p0 p1 p2 = some Rr) : CTi l yX12_within (Cond.code yX12_within cX12_within 3 (some .boolean)) rm_X12_within D cI [.int p0, .int p1, .int p2] (w_X12_within cI) Rr (w_X12_within cI) := by
  refine z_begin_z (own := RX12) (ρ := Int32) (fun u => w_X12_within cI) (fun u => u) (by decide +kernel) rfl (Nat.le_of_ble_eq_true rfl) ?_
  intro p e s m args below meth c ls Q A hx hb hml hts hcx hown hK hX hA hP hD hS hl hret
  have hl : lv_has ls 3 [(0, .int p0), (1, .int p1), (2, .int p2)] := hl
  have hf := (m_X12_within.eq_1 _ _ _).symm.trans hf
  refine lv_iload_n hx hb dX12_within_0 rfl (lv_at hl 0 rfl) ?_
  refine lv_iload_n hx hb dX12_within_1 rfl (lv_at hl 1 rfl) ?_
  refine z_icmp_lt (tgt := 14) hx hb dX12_within_2 (by decide) hf (fun hf => ?_) (fun hf => ?_)
  · refine lv_iconst (v := 0) hx hb dX12_within_14 (by decide) ?_
    exact hret 0 _ _ _ _ (Or.inl rfl) hf hP hD hS dX12_within_15
  · refine lv_iload_n hx hb dX12_within_5 rfl (lv_at hl 0 rfl) ?_
    refine lv_iload_n hx hb dX12_within_6 rfl (lv_at hl 2 rfl) ?_
    refine z_icmp_gt (tgt := 14) hx hb dX12_within_7 (by decide) hf (fun hf => ?_) (fun hf => ?_)
    · refine lv_iconst (v := 0) hx hb dX12_within_14 (by decide) ?_
      exact hret 0 _ _ _ _ (Or.inl rfl) hf hP hD hS dX12_within_15
    · refine lv_iconst (v := 1) hx hb dX12_within_10 (by decide) ?_
      refine lv_goto (tgt := 15) hx hb dX12_within_11 (by decide) ?_
      exact hret 1 _ _ _ _ (Or.inr rfl) hf hP hD hS dX12_within_15
abbrev w_X12_copies (h_t : Nat) (r_t : Nat → Nat) (F_t : Nat → Int32) (cI : ClassId) (a_rows : Nat → Int32) : va_W := [(h_t, .inr (12, o_X12 r_t F_t)), ((r_t 0), .inl (cI, 66100, .inl a_rows))]
abbrev rm_X12_copies : Room := { frames := 0, cells := 0, slots := 0, locals := 0 }
def m_X12_copies_w3 (p1 : Int32) (p2 : Int32) (p3 : Int32) : Nat → Int32 → (Nat → Int32) → Option ((Nat → Int32))
  | 0, _, _ => none
  | n3 + 1, x4, a_rows =>
    if p3 ≤ x4 then (
    some a_rows)
    else (
    rd a_rows 66100 (p1 + x4) fun y1 =>
    wr a_rows 66100 (p2 + x4) y1 fun a2 =>
    nm (x4 + 1) fun v3 =>
    m_X12_copies_w3 p1 p2 p3 n3 v3 a2)
def m_X12_copies (a_rows : Nat → Int32) (p1 : Int32) (p2 : Int32) (p3 : Int32) : Option ((Nat → Int32)) :=
  m_X12_copies_w3 p1 p2 p3 fuelN 0 a_rows
set_option maxHeartbeats 4000000 in
set_option maxRecDepth 100000 in
theorem c_X12_copies (l : Launch) (D : va_G) (cI : ClassId) (h_t : Nat) (r_t : Nat → Nat) (F_t : Nat → Int32) (a_rows : Nat → Int32) (p1 : Int32) (p2 : Int32) (p3 : Int32) (Rr : (Nat → Int32)) (hf : m_X12_copies a_rows p1 p2 p3 = some Rr) : CTv l yX12_copies (Cond.code yX12_copies cX12_copies 5 none) rm_X12_copies D cI [.ref h_t, .int p1, .int p2, .int p3] (w_X12_copies h_t r_t F_t cI a_rows) (w_X12_copies h_t r_t F_t cI Rr) := by
  refine z_begin_v (own := RX12) (ρ := (Nat → Int32)) (fun u => w_X12_copies h_t r_t F_t cI u) (by decide +kernel) rfl (Nat.le_of_ble_eq_true rfl) ?_
  intro p e s m args below meth c ls Q A hx hb hml hts hcx hown hK hX hA hP hD hS hl hret
  have hl : lv_has ls 5 [(0, .ref h_t), (1, .int p1), (2, .int p2), (3, .int p3)] := hl
  have hf := (m_X12_copies.eq_1 _ _ _ _).symm.trans hf
  have L3 : ∀ (n3 : Nat) (x4 : Int32) (a_rows : Nat → Int32) (H : Heap) (locs : List Loc) (ls : Array Slot), m_X12_copies_w3 p1 p2 p3 n3 x4 a_rows = some Rr → va_P D vwCl (w_X12_copies h_t r_t F_t cI a_rows) H → va_D A (w_X12_copies h_t r_t F_t cI a_rows) → va_S A s.heap H locs → lv_has ls 5 [(0, .ref h_t), (1, .int p1), (2, .int p2), (3, .int p3), (4, .int x4)] → W p l e rm_X12_copies s m args below meth c H locs 0 0 Q (F0 m 3 ls []) := by
    intro n3
    induction n3 with
    | zero => intro x4 a_rows H locs ls hf; cases (show (none : Option _) = some Rr from hf)
    | succ n3 ih3 =>
      intro x4 a_rows H locs ls hf hP hD hS hl
      have hf := (m_X12_copies_w3.eq_2 _ _ _ _ _ _).symm.trans hf
      refine lv_iload hx hb dX12_copies_3 (lv_at hl 4 rfl) ?_
      refine lv_iload_n hx hb dX12_copies_5 rfl (lv_at hl 3 rfl) ?_
      refine z_icmp_ge (tgt := 33) hx hb dX12_copies_6 (by decide) hf (fun hf => ?_) (fun hf => ?_)
      · exact hret a_rows _ _ _ _ hf hP hD hS dX12_copies_33
      · refine lv_aload_n hx hb dX12_copies_9 rfl (lv_at hl 0 rfl) ?_
        refine z_get (ci := 12) (C := RX12) (T := TX12) (N := 51) (v := .ref (r_t 0)) hx hb hts inT_X12 hown hK hP 0 rfl rfl 0 (by decide) tf_X12_10 rfl dX12_copies_10 ?_
        refine lv_iload_n hx hb dX12_copies_13 rfl (lv_at hl 2 rfl) ?_
        refine lv_iload hx hb dX12_copies_14 (lv_at hl 4 rfl) ?_
        refine lv_iadd hx hb dX12_copies_16 ?_
        refine lv_aload_n hx hb dX12_copies_17 rfl (lv_at hl 0 rfl) ?_
        refine z_get (ci := 12) (C := RX12) (T := TX12) (N := 51) (v := .ref (r_t 0)) hx hb hts inT_X12 hown hK hP 0 rfl rfl 0 (by decide) tf_X12_10 rfl dX12_copies_18 ?_
        refine lv_iload_n hx hb dX12_copies_21 rfl (lv_at hl 1 rfl) ?_
        refine lv_iload hx hb dX12_copies_22 (lv_at hl 4 rfl) ?_
        refine lv_iadd hx hb dX12_copies_24 ?_
        refine z_iald hx hb hK hP 1 rfl dX12_copies_25 hf (fun y1 hf => ?_)
        refine z_iast hx hb hK hP hD hS 1 rfl (fun z => w_X12_copies h_t r_t F_t cI z) (fun _ => rfl) dX12_copies_26 hf (fun a2 H locs hf hP hD hS => ?_)
        refine z_iinc (k0 := 4) (fun z => [(4, .int z), (0, .ref h_t), (1, .int p1), (2, .int p2), (3, .int p3)]) hx hb dX12_copies_27 hl rfl (by decide) (by decide) (fun _ => rfl) hf (fun v3 ls hf hl => ?_)
        refine lv_goto (tgt := 3) hx hb dX12_copies_30 (by decide) ?_
        exact ih3 v3 a2 _ _ _ hf hP hD hS (lv_sub hl [1, 2, 3, 4, 0] rfl)
  refine lv_iconst (v := 0) hx hb dX12_copies_0 (by decide) ?_
  refine lv_istore (lv' := [(4, .int 0), (0, .ref h_t), (1, .int p1), (2, .int p2), (3, .int p3)]) hx hb dX12_copies_1 hl (by decide) rfl (fun ls hl => ?_)
  exact L3 fuelN 0 a_rows _ _ _ hf hP hD hS (lv_sub hl [1, 2, 3, 4, 0] rfl)
abbrev w_X12_block (cI : ClassId) : va_W := []
abbrev rm_X12_block : Room := { frames := 0, cells := 0, slots := 0, locals := 0 }
def m_X12_block (p0 : Int32) : Option (Int32) :=
  some (24 + (4 * p0))
set_option maxHeartbeats 4000000 in
set_option maxRecDepth 100000 in
theorem c_X12_block (l : Launch) (D : va_G) (cI : ClassId) (p0 : Int32) (Rr : Int32) (hf : m_X12_block p0 = some Rr) : CTi l yX12_block (Cond.code yX12_block cX12_block 1 (some .int)) rm_X12_block D cI [.int p0] (w_X12_block cI) Rr (w_X12_block cI) := by
  refine z_begin_i (own := RX12) (ρ := Int32) (fun u => w_X12_block cI) (fun u => u) (by decide +kernel) rfl (Nat.le_of_ble_eq_true rfl) ?_
  intro p e s m args below meth c ls Q A hx hb hml hts hcx hown hK hX hA hP hD hS hl hret
  have hl : lv_has ls 1 [(0, .int p0)] := hl
  have hf := (m_X12_block.eq_1 _).symm.trans hf
  refine lv_bipush (v := 24) hx hb dX12_block_0 (by decide) ?_
  refine lv_iconst (v := 4) hx hb dX12_block_2 (by decide) ?_
  refine lv_iload_n hx hb dX12_block_3 rfl (lv_at hl 0 rfl) ?_
  refine lv_imul hx hb dX12_block_4 ?_
  refine lv_iadd hx hb dX12_block_5 ?_
  exact hret (24 + (4 * p0)) _ _ _ _ hf hP hD hS dX12_block_6
abbrev w_X12_blockAt (cI : ClassId) : va_W := []
abbrev rm_X12_blockAt : Room := { frames := 0, cells := 0, slots := 0, locals := 0 }
def m_X12_blockAt (p0 : Int32) : Option (Int32) :=
  if p0 < 24 then (
  some (-1))
  else (
  if 64 ≤ p0 then (
  some (-1))
  else (
  if (p0 - p0 / 4 * 4) = 0 then (
  some ((p0 - 24) / 4))
  else (
  some (-1))))
set_option maxHeartbeats 4000000 in
set_option maxRecDepth 100000 in
theorem c_X12_blockAt (l : Launch) (D : va_G) (cI : ClassId) (p0 : Int32) (Rr : Int32) (hf : m_X12_blockAt p0 = some Rr) : CTi l yX12_blockAt (Cond.code yX12_blockAt cX12_blockAt 1 (some .int)) rm_X12_blockAt D cI [.int p0] (w_X12_blockAt cI) Rr (w_X12_blockAt cI) := by
  refine z_begin_i (own := RX12) (ρ := Int32) (fun u => w_X12_blockAt cI) (fun u => u) (by decide +kernel) rfl (Nat.le_of_ble_eq_true rfl) ?_
  intro p e s m args below meth c ls Q A hx hb hml hts hcx hown hK hX hA hP hD hS hl hret
  have hl : lv_has ls 1 [(0, .int p0)] := hl
  have hf := (m_X12_blockAt.eq_1 _).symm.trans hf
  refine lv_iload_n hx hb dX12_blockAt_0 rfl (lv_at hl 0 rfl) ?_
  refine lv_bipush (v := 24) hx hb dX12_blockAt_1 (by decide) ?_
  refine z_icmp_lt (tgt := 27) hx hb dX12_blockAt_3 (by decide) hf (fun hf => ?_) (fun hf => ?_)
  · refine lv_iconst (v := (-1)) hx hb dX12_blockAt_27 (by decide) ?_
    exact hret (-1) _ _ _ _ hf hP hD hS dX12_blockAt_28
  · refine lv_iload_n hx hb dX12_blockAt_6 rfl (lv_at hl 0 rfl) ?_
    refine lv_bipush (v := 64) hx hb dX12_blockAt_7 (by decide) ?_
    refine z_icmp_ge (tgt := 27) hx hb dX12_blockAt_9 (by decide) hf (fun hf => ?_) (fun hf => ?_)
    · refine lv_iconst (v := (-1)) hx hb dX12_blockAt_27 (by decide) ?_
      exact hret (-1) _ _ _ _ hf hP hD hS dX12_blockAt_28
    · refine lv_iload_n hx hb dX12_blockAt_12 rfl (lv_at hl 0 rfl) ?_
      refine lv_iconst (v := 4) hx hb dX12_blockAt_13 (by decide) ?_
      refine lv_irem hx hb dX12_blockAt_14 (by decide) ?_
      refine z_if_ne (tgt := 27) hx hb dX12_blockAt_15 (by decide) hf (fun hf => ?_) (fun hf => ?_)
      · refine lv_iconst (v := (-1)) hx hb dX12_blockAt_27 (by decide) ?_
        exact hret (-1) _ _ _ _ hf hP hD hS dX12_blockAt_28
      · refine lv_iload_n hx hb dX12_blockAt_18 rfl (lv_at hl 0 rfl) ?_
        refine lv_bipush (v := 24) hx hb dX12_blockAt_19 (by decide) ?_
        refine lv_isub hx hb dX12_blockAt_21 ?_
        refine lv_iconst (v := 4) hx hb dX12_blockAt_22 (by decide) ?_
        refine lv_idiv hx hb dX12_blockAt_23 (by decide) ?_
        refine lv_goto (tgt := 28) hx hb dX12_blockAt_24 (by decide) ?_
        exact hret ((p0 - 24) / 4) _ _ _ _ hf hP hD hS dX12_blockAt_28
abbrev w_X12_wordOf (h_t : Nat) (r_t : Nat → Nat) (F_t : Nat → Int32) (cI : ClassId) (a_rows : Nat → Int32) : va_W := [(h_t, .inr (12, o_X12 r_t F_t)), ((r_t 0), .inl (cI, 66100, .inl a_rows))]
abbrev rm_X12_wordOf : Room := { frames := 0, cells := 0, slots := 0, locals := 0 }
def m_X12_wordOf_j79 (a_rows : Nat → Int32) (p1 : Int32) (p2 : Int32) (k17 : Int32 → Int32 → Int32 → Option (Int32)) (x3 : Int32) (x4 : Int32) (x5 : Int32) : Option (Int32) :=
  nm (x5 + 1) fun v5 =>
  k17 x3 x4 v5
def m_X12_wordOf_w17 (a_rows : Nat → Int32) (p1 : Int32) (p2 : Int32) : Nat → Int32 → Int32 → Int32 → Option (Int32)
  | 0, _, _, _ => none
  | n17 + 1, x3, x4, x5 =>
    rd a_rows 66100 ((p1 + 64) + x3) fun y3 =>
    if y3 ≤ x5 then (
    some x4)
    else (
    rd a_rows 66100 (((p1 + 96) + (12 * x3)) + (2 * x5)) fun y4 =>
    if y4 = p2 then (
    rd a_rows 66100 ((((p1 + 96) + (12 * x3)) + (2 * x5)) + 1) fun y6 =>
    m_X12_wordOf_j79 a_rows p1 p2 (m_X12_wordOf_w17 a_rows p1 p2 n17) x3 y6 x5)
    else (
    m_X12_wordOf_j79 a_rows p1 p2 (m_X12_wordOf_w17 a_rows p1 p2 n17) x3 x4 x5))
def m_X12_wordOf (a_rows : Nat → Int32) (p1 : Int32) (p2 : Int32) : Option (Int32) :=
  nm (p2 / 4) fun v1 =>
  rd a_rows 66100 (p1 + p2) fun y2 =>
  m_X12_wordOf_w17 a_rows p1 p2 fuelN v1 y2 0
set_option maxHeartbeats 4000000 in
set_option maxRecDepth 100000 in
theorem c_X12_wordOf (l : Launch) (D : va_G) (cI : ClassId) (h_t : Nat) (r_t : Nat → Nat) (F_t : Nat → Int32) (a_rows : Nat → Int32) (p1 : Int32) (p2 : Int32) (Rr : Int32) (hf : m_X12_wordOf a_rows p1 p2 = some Rr) : CTi l yX12_wordOf (Cond.code yX12_wordOf cX12_wordOf 6 (some .int)) rm_X12_wordOf D cI [.ref h_t, .int p1, .int p2] (w_X12_wordOf h_t r_t F_t cI a_rows) Rr (w_X12_wordOf h_t r_t F_t cI a_rows) := by
  refine z_begin_i (own := RX12) (ρ := Int32) (fun u => w_X12_wordOf h_t r_t F_t cI a_rows) (fun u => u) (by decide +kernel) rfl (Nat.le_of_ble_eq_true rfl) ?_
  intro p e s m args below meth c ls Q A hx hb hml hts hcx hown hK hX hA hP hD hS hl hret
  have hl : lv_has ls 6 [(0, .ref h_t), (1, .int p1), (2, .int p2)] := hl
  have hf := (m_X12_wordOf.eq_1 _ _ _).symm.trans hf
  have L17 : ∀ (n17 : Nat) (x3 : Int32) (x4 : Int32) (x5 : Int32) (H : Heap) (locs : List Loc) (ls : Array Slot), m_X12_wordOf_w17 a_rows p1 p2 n17 x3 x4 x5 = some Rr → va_P D vwCl (w_X12_wordOf h_t r_t F_t cI a_rows) H → va_D A (w_X12_wordOf h_t r_t F_t cI a_rows) → va_S A s.heap H locs → lv_has ls 6 [(0, .ref h_t), (1, .int p1), (2, .int p2), (3, .int x3), (4, .int x4), (5, .int x5)] → W p l e rm_X12_wordOf s m args below meth c H locs 0 0 Q (F0 m 17 ls []) := by
    intro n17
    induction n17 with
    | zero => intro x3 x4 x5 H locs ls hf; cases (show (none : Option _) = some Rr from hf)
    | succ n17 ih17 =>
      intro x3 x4 x5 H locs ls hf hP hD hS hl
      have hf := (m_X12_wordOf_w17.eq_2 _ _ _ _ _ _ _).symm.trans hf
      have L79 : ∀ (x3 : Int32) (x4 : Int32) (x5 : Int32) (H : Heap) (locs : List Loc) (ls : Array Slot), m_X12_wordOf_j79 a_rows p1 p2 (m_X12_wordOf_w17 a_rows p1 p2 n17) x3 x4 x5 = some Rr → va_P D vwCl (w_X12_wordOf h_t r_t F_t cI a_rows) H → va_D A (w_X12_wordOf h_t r_t F_t cI a_rows) → va_S A s.heap H locs → lv_has ls 6 [(0, .ref h_t), (1, .int p1), (2, .int p2), (3, .int x3), (4, .int x4), (5, .int x5)] → W p l e rm_X12_wordOf s m args below meth c H locs 0 0 Q (F0 m 79 ls []) := by
        intro x3 x4 x5 H locs ls hf hP hD hS hl
        have hf := (m_X12_wordOf_j79.eq_1 _ _ _ _ _ _ _).symm.trans hf
        refine z_iinc (k0 := 5) (fun z => [(5, .int z), (0, .ref h_t), (1, .int p1), (2, .int p2), (3, .int x3), (4, .int x4)]) hx hb dX12_wordOf_79 hl rfl (by decide) (by decide) (fun _ => rfl) hf (fun v5 ls hf hl => ?_)
        refine lv_goto (tgt := 17) hx hb dX12_wordOf_82 (by decide) ?_
        exact ih17 x3 x4 v5 _ _ _ hf hP hD hS (lv_sub hl [1, 2, 3, 4, 5, 0] rfl)
      refine lv_iload hx hb dX12_wordOf_17 (lv_at hl 5 rfl) ?_
      refine lv_aload_n hx hb dX12_wordOf_19 rfl (lv_at hl 0 rfl) ?_
      refine z_get (ci := 12) (C := RX12) (T := TX12) (N := 51) (v := .ref (r_t 0)) hx hb hts inT_X12 hown hK hP 0 rfl rfl 0 (by decide) tf_X12_10 rfl dX12_wordOf_20 ?_
      refine lv_iload_n hx hb dX12_wordOf_23 rfl (lv_at hl 1 rfl) ?_
      refine lv_bipush (v := 64) hx hb dX12_wordOf_24 (by decide) ?_
      refine lv_iadd hx hb dX12_wordOf_26 ?_
      refine lv_iload_n hx hb dX12_wordOf_27 rfl (lv_at hl 3 rfl) ?_
      refine lv_iadd hx hb dX12_wordOf_28 ?_
      refine z_iald hx hb hK hP 1 rfl dX12_wordOf_29 hf (fun y3 hf => ?_)
      refine z_icmp_ge (tgt := 85) hx hb dX12_wordOf_30 (by decide) hf (fun hf => ?_) (fun hf => ?_)
      · refine lv_iload hx hb dX12_wordOf_85 (lv_at hl 4 rfl) ?_
        exact hret x4 _ _ _ _ hf hP hD hS dX12_wordOf_87
      · refine lv_aload_n hx hb dX12_wordOf_33 rfl (lv_at hl 0 rfl) ?_
        refine z_get (ci := 12) (C := RX12) (T := TX12) (N := 51) (v := .ref (r_t 0)) hx hb hts inT_X12 hown hK hP 0 rfl rfl 0 (by decide) tf_X12_10 rfl dX12_wordOf_34 ?_
        refine lv_iload_n hx hb dX12_wordOf_37 rfl (lv_at hl 1 rfl) ?_
        refine lv_bipush (v := 96) hx hb dX12_wordOf_38 (by decide) ?_
        refine lv_iadd hx hb dX12_wordOf_40 ?_
        refine lv_bipush (v := 12) hx hb dX12_wordOf_41 (by decide) ?_
        refine lv_iload_n hx hb dX12_wordOf_43 rfl (lv_at hl 3 rfl) ?_
        refine lv_imul hx hb dX12_wordOf_44 ?_
        refine lv_iadd hx hb dX12_wordOf_45 ?_
        refine lv_iconst (v := 2) hx hb dX12_wordOf_46 (by decide) ?_
        refine lv_iload hx hb dX12_wordOf_47 (lv_at hl 5 rfl) ?_
        refine lv_imul hx hb dX12_wordOf_49 ?_
        refine lv_iadd hx hb dX12_wordOf_50 ?_
        refine z_iald hx hb hK hP 1 rfl dX12_wordOf_51 hf (fun y4 hf => ?_)
        refine lv_iload_n hx hb dX12_wordOf_52 rfl (lv_at hl 2 rfl) ?_
        refine z_icmp_ne (tgt := 79) hx hb dX12_wordOf_53 (by decide) hf (fun hf => ?_) (fun hf => ?_)
        · exact L79 x3 x4 x5 _ _ _ hf hP hD hS (lv_sub hl [0, 1, 2, 3, 4, 5] rfl)
        · refine lv_aload_n hx hb dX12_wordOf_56 rfl (lv_at hl 0 rfl) ?_
          refine z_get (ci := 12) (C := RX12) (T := TX12) (N := 51) (v := .ref (r_t 0)) hx hb hts inT_X12 hown hK hP 0 rfl rfl 0 (by decide) tf_X12_10 rfl dX12_wordOf_57 ?_
          refine lv_iload_n hx hb dX12_wordOf_60 rfl (lv_at hl 1 rfl) ?_
          refine lv_bipush (v := 96) hx hb dX12_wordOf_61 (by decide) ?_
          refine lv_iadd hx hb dX12_wordOf_63 ?_
          refine lv_bipush (v := 12) hx hb dX12_wordOf_64 (by decide) ?_
          refine lv_iload_n hx hb dX12_wordOf_66 rfl (lv_at hl 3 rfl) ?_
          refine lv_imul hx hb dX12_wordOf_67 ?_
          refine lv_iadd hx hb dX12_wordOf_68 ?_
          refine lv_iconst (v := 2) hx hb dX12_wordOf_69 (by decide) ?_
          refine lv_iload hx hb dX12_wordOf_70 (lv_at hl 5 rfl) ?_
          refine lv_imul hx hb dX12_wordOf_72 ?_
          refine lv_iadd hx hb dX12_wordOf_73 ?_
          refine lv_iconst (v := 1) hx hb dX12_wordOf_74 (by decide) ?_
          refine lv_iadd hx hb dX12_wordOf_75 ?_
          refine z_iald hx hb hK hP 1 rfl dX12_wordOf_76 hf (fun y6 hf => ?_)
          refine lv_istore (lv' := [(4, .int y6), (0, .ref h_t), (1, .int p1), (2, .int p2), (3, .int x3), (5, .int x5)]) hx hb dX12_wordOf_77 hl (by decide) rfl (fun ls hl => ?_)
          exact L79 x3 y6 x5 _ _ _ hf hP hD hS (lv_sub hl [1, 2, 3, 4, 0, 5] rfl)
  refine lv_iload_n hx hb dX12_wordOf_0 rfl (lv_at hl 2 rfl) ?_
  refine lv_iconst (v := 4) hx hb dX12_wordOf_1 (by decide) ?_
  refine lv_idiv hx hb dX12_wordOf_2 (by decide) ?_
  refine z_istore_n (fun z => [(3, .int z), (0, .ref h_t), (1, .int p1), (2, .int p2)]) hx hb dX12_wordOf_3 rfl hl (by decide) (fun _ => rfl) hf (fun v1 ls hf hl => ?_)
  refine lv_aload_n hx hb dX12_wordOf_4 rfl (lv_at hl 1 rfl) ?_
  refine z_get (ci := 12) (C := RX12) (T := TX12) (N := 51) (v := .ref (r_t 0)) hx hb hts inT_X12 hown hK hP 0 rfl rfl 0 (by decide) tf_X12_10 rfl dX12_wordOf_5 ?_
  refine lv_iload_n hx hb dX12_wordOf_8 rfl (lv_at hl 2 rfl) ?_
  refine lv_iload_n hx hb dX12_wordOf_9 rfl (lv_at hl 3 rfl) ?_
  refine lv_iadd hx hb dX12_wordOf_10 ?_
  refine z_iald hx hb hK hP 1 rfl dX12_wordOf_11 hf (fun y2 hf => ?_)
  refine lv_istore (lv' := [(4, .int y2), (3, .int v1), (0, .ref h_t), (1, .int p1), (2, .int p2)]) hx hb dX12_wordOf_12 hl (by decide) rfl (fun ls hl => ?_)
  refine lv_iconst (v := 0) hx hb dX12_wordOf_14 (by decide) ?_
  refine lv_istore (lv' := [(5, .int 0), (4, .int y2), (3, .int v1), (0, .ref h_t), (1, .int p1), (2, .int p2)]) hx hb dX12_wordOf_15 hl (by decide) rfl (fun ls hl => ?_)
  exact L17 fuelN v1 y2 0 _ _ _ hf hP hD hS (lv_sub hl [3, 4, 5, 2, 1, 0] rfl)
abbrev w_X12_reaches (h_t : Nat) (r_t : Nat → Nat) (F_t : Nat → Int32) (cI : ClassId) (a_rows : Nat → Int32) : va_W := [(h_t, .inr (12, o_X12 r_t F_t)), ((r_t 0), .inl (cI, 66100, .inl a_rows))]
abbrev rm_X12_reaches : Room := { frames := 0, cells := 0, slots := 0, locals := 0 }
def m_X12_reaches_j171 (p1 : Int32) (p2 : Int32) (p3 : Int32) (s1 : Int32) (s2 : Int32) (a_rows : Nat → Int32) : Option ((Nat → Int32)) :=
  wr a_rows 66100 s1 s2 fun a7 =>
  some a7
def m_X12_reaches_j116 (p1 : Int32) (p2 : Int32) (p3 : Int32) (x5 : Int32) (a_rows : Nat → Int32) : Option ((Nat → Int32)) :=
  wr a_rows 66100 ((p1 + 64) + p2) x5 fun a4 =>
  rd a4 66100 ((p1 + 80) + p2) fun y5 =>
  if p3 ≤ y5 then (
  rd a4 66100 ((p1 + 80) + p2) fun y6 =>
  m_X12_reaches_j171 p1 p2 p3 ((p1 + 80) + p2) (y6 - p3) a4)
  else (
  m_X12_reaches_j171 p1 p2 p3 ((p1 + 80) + p2) 0 a4)
def m_X12_reaches_w77 (p1 : Int32) (p2 : Int32) (p3 : Int32) (k116 : Int32 → (Nat → Int32) → Option ((Nat → Int32))) : Nat → Int32 → Int32 → Int32 → (Nat → Int32) → Option ((Nat → Int32))
  | 0, _, _, _, _ => none
  | n77 + 1, x4, x5, x6, a_rows =>
    if (2 * x5) ≤ x6 then (
    k116 x5 a_rows)
    else (
    rd a_rows 66100 ((x4 + (2 * p3)) + x6) fun y8 =>
    wr a_rows 66100 (x4 + x6) y8 fun a9 =>
    nm (x6 + 1) fun v10 =>
    m_X12_reaches_w77 p1 p2 p3 k116 n77 x4 x5 v10 a9)
def m_X12_reaches_j59 (p1 : Int32) (p2 : Int32) (p3 : Int32) (x4 : Int32) (a_rows : Nat → Int32) : Option ((Nat → Int32)) :=
  rd a_rows 66100 ((p1 + 64) + p2) fun y2 =>
  nm (y2 - p3) fun v3 =>
  m_X12_reaches_w77 p1 p2 p3 (m_X12_reaches_j116 p1 p2 p3) fuelN x4 v3 0 a_rows
def m_X12_reaches_w14 (p1 : Int32) (p2 : Int32) (p3 : Int32) (k59 : Int32 → (Nat → Int32) → Option ((Nat → Int32))) : Nat → Int32 → Int32 → (Nat → Int32) → Option ((Nat → Int32))
  | 0, _, _, _ => none
  | n14 + 1, x4, x5, a_rows =>
    if p3 ≤ x5 then (
    k59 x4 a_rows)
    else (
    rd a_rows 66100 (x4 + (2 * x5)) fun y11 =>
    rd a_rows 66100 ((x4 + (2 * x5)) + 1) fun y12 =>
    wr a_rows 66100 (p1 + y11) y12 fun a13 =>
    nm (x5 + 1) fun v14 =>
    m_X12_reaches_w14 p1 p2 p3 k59 n14 x4 v14 a13)
def m_X12_reaches (a_rows : Nat → Int32) (p1 : Int32) (p2 : Int32) (p3 : Int32) : Option ((Nat → Int32)) :=
  nm ((p1 + 96) + (12 * p2)) fun v1 =>
  m_X12_reaches_w14 p1 p2 p3 (m_X12_reaches_j59 p1 p2 p3) fuelN v1 0 a_rows
set_option maxHeartbeats 4000000 in
set_option maxRecDepth 100000 in
theorem c_X12_reaches (l : Launch) (D : va_G) (cI : ClassId) (h_t : Nat) (r_t : Nat → Nat) (F_t : Nat → Int32) (a_rows : Nat → Int32) (p1 : Int32) (p2 : Int32) (p3 : Int32) (Rr : (Nat → Int32)) (hf : m_X12_reaches a_rows p1 p2 p3 = some Rr) : CTv l yX12_reaches (Cond.code yX12_reaches cX12_reaches 7 none) rm_X12_reaches D cI [.ref h_t, .int p1, .int p2, .int p3] (w_X12_reaches h_t r_t F_t cI a_rows) (w_X12_reaches h_t r_t F_t cI Rr) := by
  refine z_begin_v (own := RX12) (ρ := (Nat → Int32)) (fun u => w_X12_reaches h_t r_t F_t cI u) (by decide +kernel) rfl (Nat.le_of_ble_eq_true rfl) ?_
  intro p e s m args below meth c ls Q A hx hb hml hts hcx hown hK hX hA hP hD hS hl hret
  have hl : lv_has ls 7 [(0, .ref h_t), (1, .int p1), (2, .int p2), (3, .int p3)] := hl
  have hf := (m_X12_reaches.eq_1 _ _ _ _).symm.trans hf
  have L171 : ∀ (s1 : Int32) (s2 : Int32) (a_rows : Nat → Int32) (H : Heap) (locs : List Loc) (ls : Array Slot), m_X12_reaches_j171 p1 p2 p3 s1 s2 a_rows = some Rr → va_P D vwCl (w_X12_reaches h_t r_t F_t cI a_rows) H → va_D A (w_X12_reaches h_t r_t F_t cI a_rows) → va_S A s.heap H locs → lv_has ls 7 [] → W p l e rm_X12_reaches s m args below meth c H locs 0 0 Q (F0 m 171 ls [.int s2, .int s1, .ref (r_t 0)]) := by
    intro s1 s2 a_rows H locs ls hf hP hD hS hl
    have hf := (m_X12_reaches_j171.eq_1 _ _ _ _ _ _).symm.trans hf
    refine z_iast hx hb hK hP hD hS 1 rfl (fun z => w_X12_reaches h_t r_t F_t cI z) (fun _ => rfl) dX12_reaches_171 hf (fun a7 H locs hf hP hD hS => ?_)
    exact hret a7 _ _ _ _ hf hP hD hS dX12_reaches_172
  have L116 : ∀ (x5 : Int32) (a_rows : Nat → Int32) (H : Heap) (locs : List Loc) (ls : Array Slot), m_X12_reaches_j116 p1 p2 p3 x5 a_rows = some Rr → va_P D vwCl (w_X12_reaches h_t r_t F_t cI a_rows) H → va_D A (w_X12_reaches h_t r_t F_t cI a_rows) → va_S A s.heap H locs → lv_has ls 7 [(0, .ref h_t), (1, .int p1), (2, .int p2), (3, .int p3), (5, .int x5)] → W p l e rm_X12_reaches s m args below meth c H locs 0 0 Q (F0 m 116 ls []) := by
    intro x5 a_rows H locs ls hf hP hD hS hl
    have hf := (m_X12_reaches_j116.eq_1 _ _ _ _ _).symm.trans hf
    refine lv_aload_n hx hb dX12_reaches_116 rfl (lv_at hl 0 rfl) ?_
    refine z_get (ci := 12) (C := RX12) (T := TX12) (N := 51) (v := .ref (r_t 0)) hx hb hts inT_X12 hown hK hP 0 rfl rfl 0 (by decide) tf_X12_10 rfl dX12_reaches_117 ?_
    refine lv_iload_n hx hb dX12_reaches_120 rfl (lv_at hl 1 rfl) ?_
    refine lv_bipush (v := 64) hx hb dX12_reaches_121 (by decide) ?_
    refine lv_iadd hx hb dX12_reaches_123 ?_
    refine lv_iload_n hx hb dX12_reaches_124 rfl (lv_at hl 2 rfl) ?_
    refine lv_iadd hx hb dX12_reaches_125 ?_
    refine lv_iload hx hb dX12_reaches_126 (lv_at hl 4 rfl) ?_
    refine z_iast hx hb hK hP hD hS 1 rfl (fun z => w_X12_reaches h_t r_t F_t cI z) (fun _ => rfl) dX12_reaches_128 hf (fun a4 H locs hf hP hD hS => ?_)
    refine lv_aload_n hx hb dX12_reaches_129 rfl (lv_at hl 0 rfl) ?_
    refine z_get (ci := 12) (C := RX12) (T := TX12) (N := 51) (v := .ref (r_t 0)) hx hb hts inT_X12 hown hK hP 0 rfl rfl 0 (by decide) tf_X12_10 rfl dX12_reaches_130 ?_
    refine lv_iload_n hx hb dX12_reaches_133 rfl (lv_at hl 1 rfl) ?_
    refine lv_bipush (v := 80) hx hb dX12_reaches_134 (by decide) ?_
    refine lv_iadd hx hb dX12_reaches_136 ?_
    refine lv_iload_n hx hb dX12_reaches_137 rfl (lv_at hl 2 rfl) ?_
    refine lv_iadd hx hb dX12_reaches_138 ?_
    refine lv_aload_n hx hb dX12_reaches_139 rfl (lv_at hl 0 rfl) ?_
    refine z_get (ci := 12) (C := RX12) (T := TX12) (N := 51) (v := .ref (r_t 0)) hx hb hts inT_X12 hown hK hP 0 rfl rfl 0 (by decide) tf_X12_10 rfl dX12_reaches_140 ?_
    refine lv_iload_n hx hb dX12_reaches_143 rfl (lv_at hl 1 rfl) ?_
    refine lv_bipush (v := 80) hx hb dX12_reaches_144 (by decide) ?_
    refine lv_iadd hx hb dX12_reaches_146 ?_
    refine lv_iload_n hx hb dX12_reaches_147 rfl (lv_at hl 2 rfl) ?_
    refine lv_iadd hx hb dX12_reaches_148 ?_
    refine z_iald hx hb hK hP 1 rfl dX12_reaches_149 hf (fun y5 hf => ?_)
    refine lv_iload_n hx hb dX12_reaches_150 rfl (lv_at hl 3 rfl) ?_
    refine z_icmp_ge (tgt := 158) hx hb dX12_reaches_151 (by decide) hf (fun hf => ?_) (fun hf => ?_)
    · refine lv_aload_n hx hb dX12_reaches_158 rfl (lv_at hl 0 rfl) ?_
      refine z_get (ci := 12) (C := RX12) (T := TX12) (N := 51) (v := .ref (r_t 0)) hx hb hts inT_X12 hown hK hP 0 rfl rfl 0 (by decide) tf_X12_10 rfl dX12_reaches_159 ?_
      refine lv_iload_n hx hb dX12_reaches_162 rfl (lv_at hl 1 rfl) ?_
      refine lv_bipush (v := 80) hx hb dX12_reaches_163 (by decide) ?_
      refine lv_iadd hx hb dX12_reaches_165 ?_
      refine lv_iload_n hx hb dX12_reaches_166 rfl (lv_at hl 2 rfl) ?_
      refine lv_iadd hx hb dX12_reaches_167 ?_
      refine z_iald hx hb hK hP 1 rfl dX12_reaches_168 hf (fun y6 hf => ?_)
      refine lv_iload_n hx hb dX12_reaches_169 rfl (lv_at hl 3 rfl) ?_
      refine lv_isub hx hb dX12_reaches_170 ?_
      exact L171 ((p1 + 80) + p2) (y6 - p3) a4 _ _ _ hf hP hD hS (lv_sub hl [] rfl)
    · refine lv_iconst (v := 0) hx hb dX12_reaches_154 (by decide) ?_
      refine lv_goto (tgt := 171) hx hb dX12_reaches_155 (by decide) ?_
      exact L171 ((p1 + 80) + p2) 0 a4 _ _ _ hf hP hD hS (lv_sub hl [] rfl)
  have L77 : ∀ (n77 : Nat) (x4 : Int32) (x5 : Int32) (x6 : Int32) (a_rows : Nat → Int32) (H : Heap) (locs : List Loc) (ls : Array Slot), m_X12_reaches_w77 p1 p2 p3 (m_X12_reaches_j116 p1 p2 p3) n77 x4 x5 x6 a_rows = some Rr → va_P D vwCl (w_X12_reaches h_t r_t F_t cI a_rows) H → va_D A (w_X12_reaches h_t r_t F_t cI a_rows) → va_S A s.heap H locs → lv_has ls 7 [(0, .ref h_t), (1, .int p1), (2, .int p2), (3, .int p3), (4, .int x4), (5, .int x5), (6, .int x6)] → W p l e rm_X12_reaches s m args below meth c H locs 0 0 Q (F0 m 77 ls []) := by
    intro n77
    induction n77 with
    | zero => intro x4 x5 x6 a_rows H locs ls hf; cases (show (none : Option _) = some Rr from hf)
    | succ n77 ih77 =>
      intro x4 x5 x6 a_rows H locs ls hf hP hD hS hl
      have hf := (m_X12_reaches_w77.eq_2 _ _ _ _ _ _ _ _ _).symm.trans hf
      refine lv_iload hx hb dX12_reaches_77 (lv_at hl 6 rfl) ?_
      refine lv_iconst (v := 2) hx hb dX12_reaches_79 (by decide) ?_
      refine lv_iload hx hb dX12_reaches_80 (lv_at hl 5 rfl) ?_
      refine lv_imul hx hb dX12_reaches_82 ?_
      refine z_icmp_ge (tgt := 116) hx hb dX12_reaches_83 (by decide) hf (fun hf => ?_) (fun hf => ?_)
      · exact L116 x5 a_rows _ _ _ hf hP hD hS (lv_sub hl [0, 1, 2, 3, 5] rfl)
      · refine lv_aload_n hx hb dX12_reaches_86 rfl (lv_at hl 0 rfl) ?_
        refine z_get (ci := 12) (C := RX12) (T := TX12) (N := 51) (v := .ref (r_t 0)) hx hb hts inT_X12 hown hK hP 0 rfl rfl 0 (by decide) tf_X12_10 rfl dX12_reaches_87 ?_
        refine lv_iload hx hb dX12_reaches_90 (lv_at hl 4 rfl) ?_
        refine lv_iload hx hb dX12_reaches_92 (lv_at hl 6 rfl) ?_
        refine lv_iadd hx hb dX12_reaches_94 ?_
        refine lv_aload_n hx hb dX12_reaches_95 rfl (lv_at hl 0 rfl) ?_
        refine z_get (ci := 12) (C := RX12) (T := TX12) (N := 51) (v := .ref (r_t 0)) hx hb hts inT_X12 hown hK hP 0 rfl rfl 0 (by decide) tf_X12_10 rfl dX12_reaches_96 ?_
        refine lv_iload hx hb dX12_reaches_99 (lv_at hl 4 rfl) ?_
        refine lv_iconst (v := 2) hx hb dX12_reaches_101 (by decide) ?_
        refine lv_iload_n hx hb dX12_reaches_102 rfl (lv_at hl 3 rfl) ?_
        refine lv_imul hx hb dX12_reaches_103 ?_
        refine lv_iadd hx hb dX12_reaches_104 ?_
        refine lv_iload hx hb dX12_reaches_105 (lv_at hl 6 rfl) ?_
        refine lv_iadd hx hb dX12_reaches_107 ?_
        refine z_iald hx hb hK hP 1 rfl dX12_reaches_108 hf (fun y8 hf => ?_)
        refine z_iast hx hb hK hP hD hS 1 rfl (fun z => w_X12_reaches h_t r_t F_t cI z) (fun _ => rfl) dX12_reaches_109 hf (fun a9 H locs hf hP hD hS => ?_)
        refine z_iinc (k0 := 6) (fun z => [(6, .int z), (0, .ref h_t), (1, .int p1), (2, .int p2), (3, .int p3), (4, .int x4), (5, .int x5)]) hx hb dX12_reaches_110 hl rfl (by decide) (by decide) (fun _ => rfl) hf (fun v10 ls hf hl => ?_)
        refine lv_goto (tgt := 77) hx hb dX12_reaches_113 (by decide) ?_
        exact ih77 x4 x5 v10 a9 _ _ _ hf hP hD hS (lv_sub hl [1, 2, 3, 4, 5, 6, 0] rfl)
  have L59 : ∀ (x4 : Int32) (a_rows : Nat → Int32) (H : Heap) (locs : List Loc) (ls : Array Slot), m_X12_reaches_j59 p1 p2 p3 x4 a_rows = some Rr → va_P D vwCl (w_X12_reaches h_t r_t F_t cI a_rows) H → va_D A (w_X12_reaches h_t r_t F_t cI a_rows) → va_S A s.heap H locs → lv_has ls 7 [(0, .ref h_t), (1, .int p1), (2, .int p2), (3, .int p3), (4, .int x4)] → W p l e rm_X12_reaches s m args below meth c H locs 0 0 Q (F0 m 59 ls []) := by
    intro x4 a_rows H locs ls hf hP hD hS hl
    have hf := (m_X12_reaches_j59.eq_1 _ _ _ _ _).symm.trans hf
    refine lv_aload_n hx hb dX12_reaches_59 rfl (lv_at hl 0 rfl) ?_
    refine z_get (ci := 12) (C := RX12) (T := TX12) (N := 51) (v := .ref (r_t 0)) hx hb hts inT_X12 hown hK hP 0 rfl rfl 0 (by decide) tf_X12_10 rfl dX12_reaches_60 ?_
    refine lv_iload_n hx hb dX12_reaches_63 rfl (lv_at hl 1 rfl) ?_
    refine lv_bipush (v := 64) hx hb dX12_reaches_64 (by decide) ?_
    refine lv_iadd hx hb dX12_reaches_66 ?_
    refine lv_iload_n hx hb dX12_reaches_67 rfl (lv_at hl 2 rfl) ?_
    refine lv_iadd hx hb dX12_reaches_68 ?_
    refine z_iald hx hb hK hP 1 rfl dX12_reaches_69 hf (fun y2 hf => ?_)
    refine lv_iload_n hx hb dX12_reaches_70 rfl (lv_at hl 3 rfl) ?_
    refine lv_isub hx hb dX12_reaches_71 ?_
    refine z_istore (fun z => [(5, .int z), (0, .ref h_t), (1, .int p1), (2, .int p2), (3, .int p3), (4, .int x4)]) hx hb dX12_reaches_72 hl (by decide) (fun _ => rfl) hf (fun v3 ls hf hl => ?_)
    refine lv_iconst (v := 0) hx hb dX12_reaches_74 (by decide) ?_
    refine lv_istore (lv' := [(6, .int 0), (5, .int v3), (0, .ref h_t), (1, .int p1), (2, .int p2), (3, .int p3), (4, .int x4)]) hx hb dX12_reaches_75 hl (by decide) rfl (fun ls hl => ?_)
    exact L77 fuelN x4 v3 0 a_rows _ _ _ hf hP hD hS (lv_sub hl [2, 3, 4, 5, 6, 1, 0] rfl)
  have L14 : ∀ (n14 : Nat) (x4 : Int32) (x5 : Int32) (a_rows : Nat → Int32) (H : Heap) (locs : List Loc) (ls : Array Slot), m_X12_reaches_w14 p1 p2 p3 (m_X12_reaches_j59 p1 p2 p3) n14 x4 x5 a_rows = some Rr → va_P D vwCl (w_X12_reaches h_t r_t F_t cI a_rows) H → va_D A (w_X12_reaches h_t r_t F_t cI a_rows) → va_S A s.heap H locs → lv_has ls 7 [(0, .ref h_t), (1, .int p1), (2, .int p2), (3, .int p3), (4, .int x4), (5, .int x5)] → W p l e rm_X12_reaches s m args below meth c H locs 0 0 Q (F0 m 14 ls []) := by
    intro n14
    induction n14 with
    | zero => intro x4 x5 a_rows H locs ls hf; cases (show (none : Option _) = some Rr from hf)
    | succ n14 ih14 =>
      intro x4 x5 a_rows H locs ls hf hP hD hS hl
      have hf := (m_X12_reaches_w14.eq_2 _ _ _ _ _ _ _ _).symm.trans hf
      refine lv_iload hx hb dX12_reaches_14 (lv_at hl 5 rfl) ?_
      refine lv_iload_n hx hb dX12_reaches_16 rfl (lv_at hl 3 rfl) ?_
      refine z_icmp_ge (tgt := 59) hx hb dX12_reaches_17 (by decide) hf (fun hf => ?_) (fun hf => ?_)
      · exact L59 x4 a_rows _ _ _ hf hP hD hS (lv_sub hl [0, 1, 2, 3, 4] rfl)
      · refine lv_aload_n hx hb dX12_reaches_20 rfl (lv_at hl 0 rfl) ?_
        refine z_get (ci := 12) (C := RX12) (T := TX12) (N := 51) (v := .ref (r_t 0)) hx hb hts inT_X12 hown hK hP 0 rfl rfl 0 (by decide) tf_X12_10 rfl dX12_reaches_21 ?_
        refine lv_iload_n hx hb dX12_reaches_24 rfl (lv_at hl 1 rfl) ?_
        refine lv_aload_n hx hb dX12_reaches_25 rfl (lv_at hl 0 rfl) ?_
        refine z_get (ci := 12) (C := RX12) (T := TX12) (N := 51) (v := .ref (r_t 0)) hx hb hts inT_X12 hown hK hP 0 rfl rfl 0 (by decide) tf_X12_10 rfl dX12_reaches_26 ?_
        refine lv_iload hx hb dX12_reaches_29 (lv_at hl 4 rfl) ?_
        refine lv_iconst (v := 2) hx hb dX12_reaches_31 (by decide) ?_
        refine lv_iload hx hb dX12_reaches_32 (lv_at hl 5 rfl) ?_
        refine lv_imul hx hb dX12_reaches_34 ?_
        refine lv_iadd hx hb dX12_reaches_35 ?_
        refine z_iald hx hb hK hP 1 rfl dX12_reaches_36 hf (fun y11 hf => ?_)
        refine lv_iadd hx hb dX12_reaches_37 ?_
        refine lv_aload_n hx hb dX12_reaches_38 rfl (lv_at hl 0 rfl) ?_
        refine z_get (ci := 12) (C := RX12) (T := TX12) (N := 51) (v := .ref (r_t 0)) hx hb hts inT_X12 hown hK hP 0 rfl rfl 0 (by decide) tf_X12_10 rfl dX12_reaches_39 ?_
        refine lv_iload hx hb dX12_reaches_42 (lv_at hl 4 rfl) ?_
        refine lv_iconst (v := 2) hx hb dX12_reaches_44 (by decide) ?_
        refine lv_iload hx hb dX12_reaches_45 (lv_at hl 5 rfl) ?_
        refine lv_imul hx hb dX12_reaches_47 ?_
        refine lv_iadd hx hb dX12_reaches_48 ?_
        refine lv_iconst (v := 1) hx hb dX12_reaches_49 (by decide) ?_
        refine lv_iadd hx hb dX12_reaches_50 ?_
        refine z_iald hx hb hK hP 1 rfl dX12_reaches_51 hf (fun y12 hf => ?_)
        refine z_iast hx hb hK hP hD hS 1 rfl (fun z => w_X12_reaches h_t r_t F_t cI z) (fun _ => rfl) dX12_reaches_52 hf (fun a13 H locs hf hP hD hS => ?_)
        refine z_iinc (k0 := 5) (fun z => [(5, .int z), (0, .ref h_t), (1, .int p1), (2, .int p2), (3, .int p3), (4, .int x4)]) hx hb dX12_reaches_53 hl rfl (by decide) (by decide) (fun _ => rfl) hf (fun v14 ls hf hl => ?_)
        refine lv_goto (tgt := 14) hx hb dX12_reaches_56 (by decide) ?_
        exact ih14 x4 v14 a13 _ _ _ hf hP hD hS (lv_sub hl [1, 2, 3, 4, 5, 0] rfl)
  refine lv_iload_n hx hb dX12_reaches_0 rfl (lv_at hl 1 rfl) ?_
  refine lv_bipush (v := 96) hx hb dX12_reaches_1 (by decide) ?_
  refine lv_iadd hx hb dX12_reaches_3 ?_
  refine lv_bipush (v := 12) hx hb dX12_reaches_4 (by decide) ?_
  refine lv_iload_n hx hb dX12_reaches_6 rfl (lv_at hl 2 rfl) ?_
  refine lv_imul hx hb dX12_reaches_7 ?_
  refine lv_iadd hx hb dX12_reaches_8 ?_
  refine z_istore (fun z => [(4, .int z), (0, .ref h_t), (1, .int p1), (2, .int p2), (3, .int p3)]) hx hb dX12_reaches_9 hl (by decide) (fun _ => rfl) hf (fun v1 ls hf hl => ?_)
  refine lv_iconst (v := 0) hx hb dX12_reaches_11 (by decide) ?_
  refine lv_istore (lv' := [(5, .int 0), (4, .int v1), (0, .ref h_t), (1, .int p1), (2, .int p2), (3, .int p3)]) hx hb dX12_reaches_12 hl (by decide) rfl (fun ls hl => ?_)
  exact L14 fuelN v1 0 a_rows _ _ _ hf hP hD hS (lv_sub hl [2, 3, 4, 5, 1, 0] rfl)
abbrev w_X12_stores (h_t : Nat) (r_t : Nat → Nat) (F_t : Nat → Int32) (cI : ClassId) (a_rows : Nat → Int32) : va_W := [(h_t, .inr (12, o_X12 r_t F_t)), ((r_t 0), .inl (cI, 66100, .inl a_rows))]
abbrev rm_X12_stores : Room := { frames := 1, cells := 0, slots := 0, locals := 26 }
def m_X12_stores_j30 (p1 : Int32) (p2 : Int32) (p3 : Int32) (x4 : Int32) (a_rows : Nat → Int32) : Option ((Nat → Int32)) :=
  rd a_rows 66100 ((p1 + 64) + x4) fun y3 =>
  nm (((p1 + 96) + (12 * x4)) + (2 * y3)) fun v4 =>
  wr a_rows 66100 v4 p2 fun a5 =>
  wr a5 66100 (v4 + 1) p3 fun a6 =>
  rd a6 66100 ((p1 + 64) + x4) fun y7 =>
  wr a6 66100 ((p1 + 64) + x4) (y7 + 1) fun a8 =>
  some a8
def m_X12_stores (a_rows : Nat → Int32) (p1 : Int32) (p2 : Int32) (p3 : Int32) : Option ((Nat → Int32)) :=
  nm (p2 / 4) fun v1 =>
  rd a_rows 66100 ((p1 + 64) + v1) fun y2 =>
  if y2 = 6 then (
  bd (m_X12_reaches a_rows p1 v1 1) fun u9 =>
  m_X12_stores_j30 p1 p2 p3 v1 u9)
  else (
  m_X12_stores_j30 p1 p2 p3 v1 a_rows)
set_option maxHeartbeats 4000000 in
set_option maxRecDepth 100000 in
theorem c_X12_stores (l : Launch) (D : va_G) (cI : ClassId) (h_t : Nat) (r_t : Nat → Nat) (F_t : Nat → Int32) (a_rows : Nat → Int32) (p1 : Int32) (p2 : Int32) (p3 : Int32) (Rr : (Nat → Int32)) (hf : m_X12_stores a_rows p1 p2 p3 = some Rr) : CTv l yX12_stores (Cond.code yX12_stores cX12_stores 6 none) rm_X12_stores D cI [.ref h_t, .int p1, .int p2, .int p3] (w_X12_stores h_t r_t F_t cI a_rows) (w_X12_stores h_t r_t F_t cI Rr) := by
  refine z_begin_v (own := RX12) (ρ := (Nat → Int32)) (fun u => w_X12_stores h_t r_t F_t cI u) (by decide +kernel) rfl (Nat.le_of_ble_eq_true rfl) ?_
  intro p e s m args below meth c ls Q A hx hb hml hts hcx hown hK hX hA hP hD hS hl hret
  have hl : lv_has ls 6 [(0, .ref h_t), (1, .int p1), (2, .int p2), (3, .int p3)] := hl
  have hf := (m_X12_stores.eq_1 _ _ _ _).symm.trans hf
  have L30 : ∀ (x4 : Int32) (a_rows : Nat → Int32) (H : Heap) (locs : List Loc) (ls : Array Slot), m_X12_stores_j30 p1 p2 p3 x4 a_rows = some Rr → va_P D vwCl (w_X12_stores h_t r_t F_t cI a_rows) H → va_D A (w_X12_stores h_t r_t F_t cI a_rows) → va_S A s.heap H locs → lv_has ls 6 [(0, .ref h_t), (1, .int p1), (2, .int p2), (3, .int p3), (4, .int x4)] → W p l e rm_X12_stores s m args below meth c H locs 0 0 Q (F0 m 30 ls []) := by
    intro x4 a_rows H locs ls hf hP hD hS hl
    have hf := (m_X12_stores_j30.eq_1 _ _ _ _ _).symm.trans hf
    refine lv_iload_n hx hb dX12_stores_30 rfl (lv_at hl 1 rfl) ?_
    refine lv_bipush (v := 96) hx hb dX12_stores_31 (by decide) ?_
    refine lv_iadd hx hb dX12_stores_33 ?_
    refine lv_bipush (v := 12) hx hb dX12_stores_34 (by decide) ?_
    refine lv_iload hx hb dX12_stores_36 (lv_at hl 4 rfl) ?_
    refine lv_imul hx hb dX12_stores_38 ?_
    refine lv_iadd hx hb dX12_stores_39 ?_
    refine lv_iconst (v := 2) hx hb dX12_stores_40 (by decide) ?_
    refine lv_aload_n hx hb dX12_stores_41 rfl (lv_at hl 0 rfl) ?_
    refine z_get (ci := 12) (C := RX12) (T := TX12) (N := 51) (v := .ref (r_t 0)) hx hb hts inT_X12 hown hK hP 0 rfl rfl 0 (by decide) tf_X12_10 rfl dX12_stores_42 ?_
    refine lv_iload_n hx hb dX12_stores_45 rfl (lv_at hl 1 rfl) ?_
    refine lv_bipush (v := 64) hx hb dX12_stores_46 (by decide) ?_
    refine lv_iadd hx hb dX12_stores_48 ?_
    refine lv_iload hx hb dX12_stores_49 (lv_at hl 4 rfl) ?_
    refine lv_iadd hx hb dX12_stores_51 ?_
    refine z_iald hx hb hK hP 1 rfl dX12_stores_52 hf (fun y3 hf => ?_)
    refine lv_imul hx hb dX12_stores_53 ?_
    refine lv_iadd hx hb dX12_stores_54 ?_
    refine z_istore (fun z => [(5, .int z), (0, .ref h_t), (1, .int p1), (2, .int p2), (3, .int p3), (4, .int x4)]) hx hb dX12_stores_55 hl (by decide) (fun _ => rfl) hf (fun v4 ls hf hl => ?_)
    refine lv_aload_n hx hb dX12_stores_57 rfl (lv_at hl 1 rfl) ?_
    refine z_get (ci := 12) (C := RX12) (T := TX12) (N := 51) (v := .ref (r_t 0)) hx hb hts inT_X12 hown hK hP 0 rfl rfl 0 (by decide) tf_X12_10 rfl dX12_stores_58 ?_
    refine lv_iload hx hb dX12_stores_61 (lv_at hl 0 rfl) ?_
    refine lv_iload_n hx hb dX12_stores_63 rfl (lv_at hl 3 rfl) ?_
    refine z_iast hx hb hK hP hD hS 1 rfl (fun z => w_X12_stores h_t r_t F_t cI z) (fun _ => rfl) dX12_stores_64 hf (fun a5 H locs hf hP hD hS => ?_)
    refine lv_aload_n hx hb dX12_stores_65 rfl (lv_at hl 1 rfl) ?_
    refine z_get (ci := 12) (C := RX12) (T := TX12) (N := 51) (v := .ref (r_t 0)) hx hb hts inT_X12 hown hK hP 0 rfl rfl 0 (by decide) tf_X12_10 rfl dX12_stores_66 ?_
    refine lv_iload hx hb dX12_stores_69 (lv_at hl 0 rfl) ?_
    refine lv_iconst (v := 1) hx hb dX12_stores_71 (by decide) ?_
    refine lv_iadd hx hb dX12_stores_72 ?_
    refine lv_iload_n hx hb dX12_stores_73 rfl (lv_at hl 4 rfl) ?_
    refine z_iast hx hb hK hP hD hS 1 rfl (fun z => w_X12_stores h_t r_t F_t cI z) (fun _ => rfl) dX12_stores_74 hf (fun a6 H locs hf hP hD hS => ?_)
    refine lv_aload_n hx hb dX12_stores_75 rfl (lv_at hl 1 rfl) ?_
    refine z_get (ci := 12) (C := RX12) (T := TX12) (N := 51) (v := .ref (r_t 0)) hx hb hts inT_X12 hown hK hP 0 rfl rfl 0 (by decide) tf_X12_10 rfl dX12_stores_76 ?_
    refine lv_iload_n hx hb dX12_stores_79 rfl (lv_at hl 2 rfl) ?_
    refine lv_bipush (v := 64) hx hb dX12_stores_80 (by decide) ?_
    refine lv_iadd hx hb dX12_stores_82 ?_
    refine lv_iload hx hb dX12_stores_83 (lv_at hl 5 rfl) ?_
    refine lv_iadd hx hb dX12_stores_85 ?_
    refine lv_dup2_11 hx hb dX12_stores_86 rfl rfl ?_
    refine z_iald hx hb hK hP 1 rfl dX12_stores_87 hf (fun y7 hf => ?_)
    refine lv_iconst (v := 1) hx hb dX12_stores_88 (by decide) ?_
    refine lv_iadd hx hb dX12_stores_89 ?_
    refine z_iast hx hb hK hP hD hS 1 rfl (fun z => w_X12_stores h_t r_t F_t cI z) (fun _ => rfl) dX12_stores_90 hf (fun a8 H locs hf hP hD hS => ?_)
    exact hret a8 _ _ _ _ hf hP hD hS dX12_stores_91
  refine lv_iload_n hx hb dX12_stores_0 rfl (lv_at hl 2 rfl) ?_
  refine lv_iconst (v := 4) hx hb dX12_stores_1 (by decide) ?_
  refine lv_idiv hx hb dX12_stores_2 (by decide) ?_
  refine z_istore (fun z => [(4, .int z), (0, .ref h_t), (1, .int p1), (2, .int p2), (3, .int p3)]) hx hb dX12_stores_3 hl (by decide) (fun _ => rfl) hf (fun v1 ls hf hl => ?_)
  refine lv_aload_n hx hb dX12_stores_5 rfl (lv_at hl 1 rfl) ?_
  refine z_get (ci := 12) (C := RX12) (T := TX12) (N := 51) (v := .ref (r_t 0)) hx hb hts inT_X12 hown hK hP 0 rfl rfl 0 (by decide) tf_X12_10 rfl dX12_stores_6 ?_
  refine lv_iload_n hx hb dX12_stores_9 rfl (lv_at hl 2 rfl) ?_
  refine lv_bipush (v := 64) hx hb dX12_stores_10 (by decide) ?_
  refine lv_iadd hx hb dX12_stores_12 ?_
  refine lv_iload hx hb dX12_stores_13 (lv_at hl 0 rfl) ?_
  refine lv_iadd hx hb dX12_stores_15 ?_
  refine z_iald hx hb hK hP 1 rfl dX12_stores_16 hf (fun y2 hf => ?_)
  refine lv_bipush (v := 6) hx hb dX12_stores_17 (by decide) ?_
  refine z_icmp_ne (tgt := 30) hx hb dX12_stores_19 (by decide) hf (fun hf => ?_) (fun hf => ?_)
  · exact L30 v1 a_rows _ _ _ hf hP hD hS (lv_sub hl [1, 2, 3, 4, 0] rfl)
  · refine lv_aload_n hx hb dX12_stores_22 rfl (lv_at hl 1 rfl) ?_
    refine lv_iload_n hx hb dX12_stores_23 rfl (lv_at hl 2 rfl) ?_
    refine lv_iload hx hb dX12_stores_24 (lv_at hl 0 rfl) ?_
    refine lv_iconst (v := 1) hx hb dX12_stores_26 (by decide) ?_
    obtain ⟨u9, hu9, hf⟩ := bd_some hf
    refine z_cv (ws1 := w_X12_stores h_t r_t F_t cI u9) (wr := List.filterMap (fun i : Nat => (w_X12_stores h_t r_t F_t cI a_rows)[i]?) []) (z_rV (rest := []) hx hb hml hown hcx hl.1 (c_X12_reaches l D cI h_t r_t F_t a_rows p1 v1 1 u9 hu9 _) tl_X12_66 ti_X12_reaches tz_X12_reaches tn_X12 tc_X12_reaches tm_X12_reaches rfl rfl ⟨Nat.le_of_ble_eq_true rfl, Nat.le_of_ble_eq_true rfl⟩ hK hX hS hA hP hD [0, 1] rfl rfl 0 rfl rfl rfl rfl (Nat.le_of_ble_eq_true rfl) dX12_stores_27 ⟨Nat.zero_le _, Nat.zero_le _⟩) hP hD hS hA [0, 1] [] [0, 1] rfl rfl rfl (by decide) rfl rfl (fun H locs hP hD hS => ?_)
    exact L30 v1 u9 _ _ _ hf hP hD hS (lv_sub hl [1, 2, 3, 4, 0] rfl)
abbrev w_X12_does (h_t : Nat) (r_t : Nat → Nat) (F_t : Nat → Int32) (cI : ClassId) (a_rows : Nat → Int32) : va_W := [(h_t, .inr (12, o_X12 r_t F_t)), ((r_t 0), .inl (cI, 66100, .inl a_rows))]
abbrev rm_X12_does : Room := { frames := 2, cells := 0, slots := 0, locals := 51 }
def m_X12_does_j108 (p1 : Int32) (p2 : Int32) (p3 : Int32) (p4 : Int32) (a_rows : Nat → Int32) : Option ((Nat → Int32)) :=
  rd a_rows 66100 (p1 + 785) fun y1 =>
  wr a_rows 66100 (p1 + 785) (y1 + 1) fun a2 =>
  some a2
def m_X12_does_w76 (p1 : Int32) (p2 : Int32) (p3 : Int32) (p4 : Int32) (k108 : (Nat → Int32) → Option ((Nat → Int32))) : Nat → Int32 → (Nat → Int32) → Option ((Nat → Int32))
  | 0, _, _ => none
  | n76 + 1, x5, a_rows =>
    if 16 ≤ x5 then (
    k108 a_rows)
    else (
    rd a_rows 66100 ((p1 + 80) + x5) fun y3 =>
    bd (m_X12_reaches a_rows p1 x5 y3) fun u4 =>
    nm (x5 + 1) fun v5 =>
    m_X12_does_w76 p1 p2 p3 p4 k108 n76 v5 u4)
def m_X12_does (a_rows : Nat → Int32) (p1 : Int32) (p2 : Int32) (p3 : Int32) (p4 : Int32) : Option ((Nat → Int32)) :=
  if p2 = 0 then (
  bd (m_X12_stores a_rows p1 p3 p4) fun u10 =>
  rd u10 66100 (p1 + 783) fun y11 =>
  wr u10 66100 (p1 + 783) (y11 + 1) fun a12 =>
  some a12)
  else (
  if p2 = 1 then (
  rd a_rows 66100 ((p1 + 64) + p3) fun y6 =>
  wr a_rows 66100 ((p1 + 80) + p3) y6 fun a7 =>
  rd a7 66100 (p1 + 784) fun y8 =>
  wr a7 66100 (p1 + 784) (y8 + 1) fun a9 =>
  some a9)
  else (
  m_X12_does_w76 p1 p2 p3 p4 (m_X12_does_j108 p1 p2 p3 p4) fuelN 0 a_rows))
set_option maxHeartbeats 4000000 in
set_option maxRecDepth 100000 in
theorem c_X12_does (l : Launch) (D : va_G) (cI : ClassId) (h_t : Nat) (r_t : Nat → Nat) (F_t : Nat → Int32) (a_rows : Nat → Int32) (p1 : Int32) (p2 : Int32) (p3 : Int32) (p4 : Int32) (Rr : (Nat → Int32)) (hf : m_X12_does a_rows p1 p2 p3 p4 = some Rr) : CTv l yX12_does (Cond.code yX12_does cX12_does 6 none) rm_X12_does D cI [.ref h_t, .int p1, .int p2, .int p3, .int p4] (w_X12_does h_t r_t F_t cI a_rows) (w_X12_does h_t r_t F_t cI Rr) := by
  refine z_begin_v (own := RX12) (ρ := (Nat → Int32)) (fun u => w_X12_does h_t r_t F_t cI u) (by decide +kernel) rfl (Nat.le_of_ble_eq_true rfl) ?_
  intro p e s m args below meth c ls Q A hx hb hml hts hcx hown hK hX hA hP hD hS hl hret
  have hl : lv_has ls 6 [(0, .ref h_t), (1, .int p1), (2, .int p2), (3, .int p3), (4, .int p4)] := hl
  have hf := (m_X12_does.eq_1 _ _ _ _ _).symm.trans hf
  have L108 : ∀ (a_rows : Nat → Int32) (H : Heap) (locs : List Loc) (ls : Array Slot), m_X12_does_j108 p1 p2 p3 p4 a_rows = some Rr → va_P D vwCl (w_X12_does h_t r_t F_t cI a_rows) H → va_D A (w_X12_does h_t r_t F_t cI a_rows) → va_S A s.heap H locs → lv_has ls 6 [(0, .ref h_t), (1, .int p1)] → W p l e rm_X12_does s m args below meth c H locs 0 0 Q (F0 m 108 ls []) := by
    intro a_rows H locs ls hf hP hD hS hl
    have hf := (m_X12_does_j108.eq_1 _ _ _ _ _).symm.trans hf
    refine lv_aload_n hx hb dX12_does_108 rfl (lv_at hl 0 rfl) ?_
    refine z_get (ci := 12) (C := RX12) (T := TX12) (N := 51) (v := .ref (r_t 0)) hx hb hts inT_X12 hown hK hP 0 rfl rfl 0 (by decide) tf_X12_10 rfl dX12_does_109 ?_
    refine lv_iload_n hx hb dX12_does_112 rfl (lv_at hl 1 rfl) ?_
    refine lv_sipush (v := 785) hx hb dX12_does_113 (by decide) ?_
    refine lv_iadd hx hb dX12_does_116 ?_
    refine lv_dup2_11 hx hb dX12_does_117 rfl rfl ?_
    refine z_iald hx hb hK hP 1 rfl dX12_does_118 hf (fun y1 hf => ?_)
    refine lv_iconst (v := 1) hx hb dX12_does_119 (by decide) ?_
    refine lv_iadd hx hb dX12_does_120 ?_
    refine z_iast hx hb hK hP hD hS 1 rfl (fun z => w_X12_does h_t r_t F_t cI z) (fun _ => rfl) dX12_does_121 hf (fun a2 H locs hf hP hD hS => ?_)
    exact hret a2 _ _ _ _ hf hP hD hS dX12_does_122
  have L76 : ∀ (n76 : Nat) (x5 : Int32) (a_rows : Nat → Int32) (H : Heap) (locs : List Loc) (ls : Array Slot), m_X12_does_w76 p1 p2 p3 p4 (m_X12_does_j108 p1 p2 p3 p4) n76 x5 a_rows = some Rr → va_P D vwCl (w_X12_does h_t r_t F_t cI a_rows) H → va_D A (w_X12_does h_t r_t F_t cI a_rows) → va_S A s.heap H locs → lv_has ls 6 [(0, .ref h_t), (1, .int p1), (5, .int x5)] → W p l e rm_X12_does s m args below meth c H locs 0 0 Q (F0 m 76 ls []) := by
    intro n76
    induction n76 with
    | zero => intro x5 a_rows H locs ls hf; cases (show (none : Option _) = some Rr from hf)
    | succ n76 ih76 =>
      intro x5 a_rows H locs ls hf hP hD hS hl
      have hf := (m_X12_does_w76.eq_2 _ _ _ _ _ _ _ _).symm.trans hf
      refine lv_iload hx hb dX12_does_76 (lv_at hl 2 rfl) ?_
      refine lv_bipush (v := 16) hx hb dX12_does_78 (by decide) ?_
      refine z_icmp_ge (tgt := 108) hx hb dX12_does_80 (by decide) hf (fun hf => ?_) (fun hf => ?_)
      · exact L108 a_rows _ _ _ hf hP hD hS (lv_sub hl [0, 1] rfl)
      · refine lv_aload_n hx hb dX12_does_83 rfl (lv_at hl 0 rfl) ?_
        refine lv_iload_n hx hb dX12_does_84 rfl (lv_at hl 1 rfl) ?_
        refine lv_iload hx hb dX12_does_85 (lv_at hl 2 rfl) ?_
        refine lv_aload_n hx hb dX12_does_87 rfl (lv_at hl 0 rfl) ?_
        refine z_get (ci := 12) (C := RX12) (T := TX12) (N := 51) (v := .ref (r_t 0)) hx hb hts inT_X12 hown hK hP 0 rfl rfl 0 (by decide) tf_X12_10 rfl dX12_does_88 ?_
        refine lv_iload_n hx hb dX12_does_91 rfl (lv_at hl 1 rfl) ?_
        refine lv_bipush (v := 80) hx hb dX12_does_92 (by decide) ?_
        refine lv_iadd hx hb dX12_does_94 ?_
        refine lv_iload hx hb dX12_does_95 (lv_at hl 2 rfl) ?_
        refine lv_iadd hx hb dX12_does_97 ?_
        refine z_iald hx hb hK hP 1 rfl dX12_does_98 hf (fun y3 hf => ?_)
        obtain ⟨u4, hu4, hf⟩ := bd_some hf
        refine z_cv (ws1 := w_X12_does h_t r_t F_t cI u4) (wr := List.filterMap (fun i : Nat => (w_X12_does h_t r_t F_t cI a_rows)[i]?) []) (z_rV (rest := []) hx hb hml hown hcx hl.1 (c_X12_reaches l D cI h_t r_t F_t a_rows p1 x5 y3 u4 hu4 _) tl_X12_66 ti_X12_reaches tz_X12_reaches tn_X12 tc_X12_reaches tm_X12_reaches rfl rfl ⟨Nat.le_of_ble_eq_true rfl, Nat.le_of_ble_eq_true rfl⟩ hK hX hS hA hP hD [0, 1] rfl rfl 0 rfl rfl rfl rfl (Nat.le_of_ble_eq_true rfl) dX12_does_99 ⟨Nat.zero_le _, Nat.zero_le _⟩) hP hD hS hA [0, 1] [] [0, 1] rfl rfl rfl (by decide) rfl rfl (fun H locs hP hD hS => ?_)
        refine z_iinc (k0 := 2) (fun z => [(5, .int z), (0, .ref h_t), (1, .int p1)]) hx hb dX12_does_102 hl rfl (by decide) (by decide) (fun _ => rfl) hf (fun v5 ls hf hl => ?_)
        refine lv_goto (tgt := 76) hx hb dX12_does_105 (by decide) ?_
        exact ih76 v5 u4 _ _ _ hf hP hD hS (lv_sub hl [1, 2, 0] rfl)
  refine lv_iload_n hx hb dX12_does_0 rfl (lv_at hl 2 rfl) ?_
  refine z_if_ne (tgt := 29) hx hb dX12_does_1 (by decide) hf (fun hf => ?_) (fun hf => ?_)
  · refine lv_iload_n hx hb dX12_does_29 rfl (lv_at hl 2 rfl) ?_
    refine lv_iconst (v := 1) hx hb dX12_does_30 (by decide) ?_
    refine z_icmp_ne (tgt := 73) hx hb dX12_does_31 (by decide) hf (fun hf => ?_) (fun hf => ?_)
    · refine lv_iconst (v := 0) hx hb dX12_does_73 (by decide) ?_
      refine lv_istore (lv' := [(5, .int 0), (0, .ref h_t), (1, .int p1), (2, .int p2), (3, .int p3), (4, .int p4)]) hx hb dX12_does_74 hl (by decide) rfl (fun ls hl => ?_)
      exact L76 fuelN 0 a_rows _ _ _ hf hP hD hS (lv_sub hl [1, 2, 0] rfl)
    · refine lv_aload_n hx hb dX12_does_34 rfl (lv_at hl 0 rfl) ?_
      refine z_get (ci := 12) (C := RX12) (T := TX12) (N := 51) (v := .ref (r_t 0)) hx hb hts inT_X12 hown hK hP 0 rfl rfl 0 (by decide) tf_X12_10 rfl dX12_does_35 ?_
      refine lv_iload_n hx hb dX12_does_38 rfl (lv_at hl 1 rfl) ?_
      refine lv_bipush (v := 80) hx hb dX12_does_39 (by decide) ?_
      refine lv_iadd hx hb dX12_does_41 ?_
      refine lv_iload_n hx hb dX12_does_42 rfl (lv_at hl 3 rfl) ?_
      refine lv_iadd hx hb dX12_does_43 ?_
      refine lv_aload_n hx hb dX12_does_44 rfl (lv_at hl 0 rfl) ?_
      refine z_get (ci := 12) (C := RX12) (T := TX12) (N := 51) (v := .ref (r_t 0)) hx hb hts inT_X12 hown hK hP 0 rfl rfl 0 (by decide) tf_X12_10 rfl dX12_does_45 ?_
      refine lv_iload_n hx hb dX12_does_48 rfl (lv_at hl 1 rfl) ?_
      refine lv_bipush (v := 64) hx hb dX12_does_49 (by decide) ?_
      refine lv_iadd hx hb dX12_does_51 ?_
      refine lv_iload_n hx hb dX12_does_52 rfl (lv_at hl 3 rfl) ?_
      refine lv_iadd hx hb dX12_does_53 ?_
      refine z_iald hx hb hK hP 1 rfl dX12_does_54 hf (fun y6 hf => ?_)
      refine z_iast hx hb hK hP hD hS 1 rfl (fun z => w_X12_does h_t r_t F_t cI z) (fun _ => rfl) dX12_does_55 hf (fun a7 H locs hf hP hD hS => ?_)
      refine lv_aload_n hx hb dX12_does_56 rfl (lv_at hl 0 rfl) ?_
      refine z_get (ci := 12) (C := RX12) (T := TX12) (N := 51) (v := .ref (r_t 0)) hx hb hts inT_X12 hown hK hP 0 rfl rfl 0 (by decide) tf_X12_10 rfl dX12_does_57 ?_
      refine lv_iload_n hx hb dX12_does_60 rfl (lv_at hl 1 rfl) ?_
      refine lv_sipush (v := 784) hx hb dX12_does_61 (by decide) ?_
      refine lv_iadd hx hb dX12_does_64 ?_
      refine lv_dup2_11 hx hb dX12_does_65 rfl rfl ?_
      refine z_iald hx hb hK hP 1 rfl dX12_does_66 hf (fun y8 hf => ?_)
      refine lv_iconst (v := 1) hx hb dX12_does_67 (by decide) ?_
      refine lv_iadd hx hb dX12_does_68 ?_
      refine z_iast hx hb hK hP hD hS 1 rfl (fun z => w_X12_does h_t r_t F_t cI z) (fun _ => rfl) dX12_does_69 hf (fun a9 H locs hf hP hD hS => ?_)
      refine lv_goto (tgt := 122) hx hb dX12_does_70 (by decide) ?_
      exact hret a9 _ _ _ _ hf hP hD hS dX12_does_122
  · refine lv_aload_n hx hb dX12_does_4 rfl (lv_at hl 0 rfl) ?_
    refine lv_iload_n hx hb dX12_does_5 rfl (lv_at hl 1 rfl) ?_
    refine lv_iload_n hx hb dX12_does_6 rfl (lv_at hl 3 rfl) ?_
    refine lv_iload hx hb dX12_does_7 (lv_at hl 4 rfl) ?_
    obtain ⟨u10, hu10, hf⟩ := bd_some hf
    refine z_cv (ws1 := w_X12_does h_t r_t F_t cI u10) (wr := List.filterMap (fun i : Nat => (w_X12_does h_t r_t F_t cI a_rows)[i]?) []) (z_rV (rest := []) hx hb hml hown hcx hl.1 (c_X12_stores l D cI h_t r_t F_t a_rows p1 p3 p4 u10 hu10 _) tl_X12_70 ti_X12_stores tz_X12_stores tn_X12 tc_X12_stores tm_X12_stores rfl rfl ⟨Nat.le_of_ble_eq_true rfl, Nat.le_of_ble_eq_true rfl⟩ hK hX hS hA hP hD [0, 1] rfl rfl 0 rfl rfl rfl rfl (Nat.le_of_ble_eq_true rfl) dX12_does_9 ⟨Nat.zero_le _, Nat.zero_le _⟩) hP hD hS hA [0, 1] [] [0, 1] rfl rfl rfl (by decide) rfl rfl (fun H locs hP hD hS => ?_)
    refine lv_aload_n hx hb dX12_does_12 rfl (lv_at hl 0 rfl) ?_
    refine z_get (ci := 12) (C := RX12) (T := TX12) (N := 51) (v := .ref (r_t 0)) hx hb hts inT_X12 hown hK hP 0 rfl rfl 0 (by decide) tf_X12_10 rfl dX12_does_13 ?_
    refine lv_iload_n hx hb dX12_does_16 rfl (lv_at hl 1 rfl) ?_
    refine lv_sipush (v := 783) hx hb dX12_does_17 (by decide) ?_
    refine lv_iadd hx hb dX12_does_20 ?_
    refine lv_dup2_11 hx hb dX12_does_21 rfl rfl ?_
    refine z_iald hx hb hK hP 1 rfl dX12_does_22 hf (fun y11 hf => ?_)
    refine lv_iconst (v := 1) hx hb dX12_does_23 (by decide) ?_
    refine lv_iadd hx hb dX12_does_24 ?_
    refine z_iast hx hb hK hP hD hS 1 rfl (fun z => w_X12_does h_t r_t F_t cI z) (fun _ => rfl) dX12_does_25 hf (fun a12 H locs hf hP hD hS => ?_)
    refine lv_goto (tgt := 122) hx hb dX12_does_26 (by decide) ?_
    exact hret a12 _ _ _ _ hf hP hD hS dX12_does_122
abbrev w_X12_writes (h_t : Nat) (r_t : Nat → Nat) (F_t : Nat → Int32) (cI : ClassId) (a_words : Nat → Int32) (a_address : Nat → Int32) (a_number : Nat → Int32) : va_W := [(h_t, .inr (12, o_X12 r_t F_t)), ((r_t 16), .inl (cI, 64, .inl a_words)), ((r_t 17), .inl (cI, 64, .inl a_address)), ((r_t 18), .inl (cI, 64, .inl a_number))]
abbrev rm_X12_writes : Room := { frames := 0, cells := 0, slots := 0, locals := 0 }
def m_X12_writes (F_t : Nat → Int32) (a_words : Nat → Int32) (a_address : Nat → Int32) (a_number : Nat → Int32) (p1 : Int32) (p2 : Int32) : Option ((Nat → Int32) × (Nat → Int32) × (Nat → Int32) × (Nat → Int32)) :=
  wr a_words 64 p1 p2 fun a1 =>
  wr a_address 64 (F_t 19) p1 fun a2 =>
  wr a_number 64 (F_t 19) p2 fun a3 =>
  nm (upd F_t 19 ((F_t 19) + 1)) fun F4 =>
  some (F4, a1, a2, a3)
set_option maxHeartbeats 4000000 in
set_option maxRecDepth 100000 in
theorem c_X12_writes (l : Launch) (D : va_G) (cI : ClassId) (h_t : Nat) (r_t : Nat → Nat) (F_t : Nat → Int32) (a_words : Nat → Int32) (a_address : Nat → Int32) (a_number : Nat → Int32) (p1 : Int32) (p2 : Int32) (Rr : (Nat → Int32) × (Nat → Int32) × (Nat → Int32) × (Nat → Int32)) (hf : m_X12_writes F_t a_words a_address a_number p1 p2 = some Rr) : CTv l yX12_writes (Cond.code yX12_writes cX12_writes 3 none) rm_X12_writes D cI [.ref h_t, .int p1, .int p2] (w_X12_writes h_t r_t F_t cI a_words a_address a_number) (w_X12_writes h_t r_t Rr.1 cI Rr.2.1 Rr.2.2.1 Rr.2.2.2) := by
  refine z_begin_v (own := RX12) (ρ := (Nat → Int32) × (Nat → Int32) × (Nat → Int32) × (Nat → Int32)) (fun u => w_X12_writes h_t r_t u.1 cI u.2.1 u.2.2.1 u.2.2.2) (by decide +kernel) rfl (Nat.le_of_ble_eq_true rfl) ?_
  intro p e s m args below meth c ls Q A hx hb hml hts hcx hown hK hX hA hP hD hS hl hret
  have hl : lv_has ls 3 [(0, .ref h_t), (1, .int p1), (2, .int p2)] := hl
  have hf := (m_X12_writes.eq_1 _ _ _ _ _ _).symm.trans hf
  refine lv_aload_n hx hb dX12_writes_0 rfl (lv_at hl 0 rfl) ?_
  refine z_get (ci := 12) (C := RX12) (T := TX12) (N := 51) (v := .ref (r_t 16)) hx hb hts inT_X12 hown hK hP 0 rfl rfl 16 (by decide) tf_X12_30 rfl dX12_writes_1 ?_
  refine lv_iload_n hx hb dX12_writes_4 rfl (lv_at hl 1 rfl) ?_
  refine lv_iload_n hx hb dX12_writes_5 rfl (lv_at hl 2 rfl) ?_
  refine z_iast hx hb hK hP hD hS 1 rfl (fun z => w_X12_writes h_t r_t F_t cI z a_address a_number) (fun _ => rfl) dX12_writes_6 hf (fun a1 H locs hf hP hD hS => ?_)
  refine lv_aload_n hx hb dX12_writes_7 rfl (lv_at hl 0 rfl) ?_
  refine z_get (ci := 12) (C := RX12) (T := TX12) (N := 51) (v := .ref (r_t 17)) hx hb hts inT_X12 hown hK hP 0 rfl rfl 17 (by decide) tf_X12_33 rfl dX12_writes_8 ?_
  refine lv_aload_n hx hb dX12_writes_11 rfl (lv_at hl 0 rfl) ?_
  refine z_get (ci := 12) (C := RX12) (T := TX12) (N := 51) (v := .int (F_t 19)) hx hb hts inT_X12 hown hK hP 0 rfl rfl 19 (by decide) tf_X12_73 rfl dX12_writes_12 ?_
  refine lv_iload_n hx hb dX12_writes_15 rfl (lv_at hl 1 rfl) ?_
  refine z_iast hx hb hK hP hD hS 2 rfl (fun z => w_X12_writes h_t r_t F_t cI a1 z a_number) (fun _ => rfl) dX12_writes_16 hf (fun a2 H locs hf hP hD hS => ?_)
  refine lv_aload_n hx hb dX12_writes_17 rfl (lv_at hl 0 rfl) ?_
  refine z_get (ci := 12) (C := RX12) (T := TX12) (N := 51) (v := .ref (r_t 18)) hx hb hts inT_X12 hown hK hP 0 rfl rfl 18 (by decide) tf_X12_36 rfl dX12_writes_18 ?_
  refine lv_aload_n hx hb dX12_writes_21 rfl (lv_at hl 0 rfl) ?_
  refine z_get (ci := 12) (C := RX12) (T := TX12) (N := 51) (v := .int (F_t 19)) hx hb hts inT_X12 hown hK hP 0 rfl rfl 19 (by decide) tf_X12_73 rfl dX12_writes_22 ?_
  refine lv_iload_n hx hb dX12_writes_25 rfl (lv_at hl 2 rfl) ?_
  refine z_iast hx hb hK hP hD hS 3 rfl (fun z => w_X12_writes h_t r_t F_t cI a1 a2 z) (fun _ => rfl) dX12_writes_26 hf (fun a3 H locs hf hP hD hS => ?_)
  refine lv_aload_n hx hb dX12_writes_27 rfl (lv_at hl 0 rfl) ?_
  refine lv_dup hx hb dX12_writes_28 rfl ?_
  refine z_get (ci := 12) (C := RX12) (T := TX12) (N := 51) (v := .int (F_t 19)) hx hb hts inT_X12 hown hK hP 0 rfl rfl 19 (by decide) tf_X12_73 rfl dX12_writes_29 ?_
  refine lv_iconst (v := 1) hx hb dX12_writes_32 (by decide) ?_
  refine lv_iadd hx hb dX12_writes_33 ?_
  refine z_put (ci := 12) (C := RX12) (T := TX12) (N := 51) hx hb hts inT_X12 tyX12 tyX12_ok nmX12 hown hK hP hD hS 0 rfl rfl 19 (by decide) tf_X12_73 rfl (by decide +kernel) (Nat.le_of_ble_eq_true rfl) (o_X12 r_t) (o_X12_s19 _ _ _) (fun z => w_X12_writes h_t r_t z cI a1 a2 a3) (fun _ => rfl) dX12_writes_34 hf (fun F4 H locs hf hP hD hS => ?_)
  exact hret (F4, a1, a2, a3) _ _ _ _ hf hP hD hS dX12_writes_37
abbrev w_X12_isUsed (h_p0 : Nat) (cI : ClassId) (n_p0 : Nat) (a_p0 : Nat → Int32) : va_W := [(h_p0, .inl (cI, n_p0, .inl a_p0))]
abbrev rm_X12_isUsed : Room := { frames := 1, cells := 0, slots := 0, locals := 20 }
def m_X12_isUsed (a_p0 : Nat → Int32) (n_p0 : Nat) (p1 : Int32) : Option (Int32) :=
  bd (m_X12_block p1) fun u1 =>
  rd a_p0 n_p0 u1 fun y2 =>
  if y2 = 1 then (
  some 1)
  else (
  some 0)
set_option maxHeartbeats 4000000 in
set_option maxRecDepth 100000 in
theorem c_X12_isUsed (l : Launch) (D : va_G) (cI : ClassId) (h_p0 : Nat) (n_p0 : Nat) (a_p0 : Nat → Int32) (p1 : Int32) (Rr : Int32) (hf : m_X12_isUsed a_p0 n_p0 p1 = some Rr) : CTi l yX12_isUsed (Cond.code yX12_isUsed cX12_isUsed 2 (some .boolean)) rm_X12_isUsed D cI [.ref h_p0, .int p1] (w_X12_isUsed h_p0 cI n_p0 a_p0) Rr (w_X12_isUsed h_p0 cI n_p0 a_p0) := by
  refine z_begin_z (own := RX12) (ρ := Int32) (fun u => w_X12_isUsed h_p0 cI n_p0 a_p0) (fun u => u) (by decide +kernel) rfl (Nat.le_of_ble_eq_true rfl) ?_
  intro p e s m args below meth c ls Q A hx hb hml hts hcx hown hK hX hA hP hD hS hl hret
  have hl : lv_has ls 2 [(0, .ref h_p0), (1, .int p1)] := hl
  have hf := (m_X12_isUsed.eq_1 _ _ _).symm.trans hf
  refine lv_aload_n hx hb dX12_isUsed_0 rfl (lv_at hl 0 rfl) ?_
  refine lv_iload_n hx hb dX12_isUsed_1 rfl (lv_at hl 1 rfl) ?_
  obtain ⟨u1, hu1, hf⟩ := bd_some hf
  refine z_ci (ws1 := w_X12_isUsed h_p0 cI n_p0 a_p0) (wr := List.filterMap (fun i : Nat => (w_X12_isUsed h_p0 cI n_p0 a_p0)[i]?) [0]) (z_rS (rest := [.ref h_p0]) hx hb hml hown hcx hl.1 (c_X12_block l D cI p1 u1 hu1 _) tl_X12_76 ts_X12_block tn_X12 tc_X12_block tm_X12_block rfl rfl ⟨Nat.le_of_ble_eq_true rfl, Nat.le_of_ble_eq_true rfl⟩ hK hX hS hA hP hD [] rfl rfl rfl rfl (Nat.le_of_ble_eq_true rfl) dX12_isUsed_2 ⟨Nat.zero_le _, Nat.zero_le _⟩) hP hD hS hA [] [0] [0] rfl rfl rfl (by decide) rfl rfl (fun H locs hP hD hS => ?_)
  refine z_iald hx hb hK hP 0 rfl dX12_isUsed_5 hf (fun y2 hf => ?_)
  refine lv_iconst (v := 1) hx hb dX12_isUsed_6 (by decide) ?_
  refine z_icmp_ne (tgt := 14) hx hb dX12_isUsed_7 (by decide) hf (fun hf => ?_) (fun hf => ?_)
  · refine lv_iconst (v := 0) hx hb dX12_isUsed_14 (by decide) ?_
    exact hret 0 _ _ _ _ (Or.inl rfl) hf hP hD hS dX12_isUsed_15
  · refine lv_iconst (v := 1) hx hb dX12_isUsed_10 (by decide) ?_
    refine lv_goto (tgt := 15) hx hb dX12_isUsed_11 (by decide) ?_
    exact hret 1 _ _ _ _ (Or.inr rfl) hf hP hD hS dX12_isUsed_15
abbrev w_X12_usedAt (h_p0 : Nat) (cI : ClassId) (n_p0 : Nat) (a_p0 : Nat → Int32) : va_W := [(h_p0, .inl (cI, n_p0, .inl a_p0))]
abbrev rm_X12_usedAt : Room := { frames := 2, cells := 0, slots := 0, locals := 41 }
def m_X12_usedAt (a_p0 : Nat → Int32) (n_p0 : Nat) (p1 : Int32) : Option (Int32) :=
  bd (m_X12_blockAt p1) fun u1 =>
  if u1 = (-1) then (
  some (-1))
  else (
  bd (m_X12_isUsed a_p0 n_p0 u1) fun u2 =>
  if u2 = 0 then (
  some (-1))
  else (
  some u1))
set_option maxHeartbeats 4000000 in
set_option maxRecDepth 100000 in
theorem c_X12_usedAt (l : Launch) (D : va_G) (cI : ClassId) (h_p0 : Nat) (n_p0 : Nat) (a_p0 : Nat → Int32) (p1 : Int32) (Rr : Int32) (hf : m_X12_usedAt a_p0 n_p0 p1 = some Rr) : CTi l yX12_usedAt (Cond.code yX12_usedAt cX12_usedAt 3 (some .int)) rm_X12_usedAt D cI [.ref h_p0, .int p1] (w_X12_usedAt h_p0 cI n_p0 a_p0) Rr (w_X12_usedAt h_p0 cI n_p0 a_p0) := by
  refine z_begin_i (own := RX12) (ρ := Int32) (fun u => w_X12_usedAt h_p0 cI n_p0 a_p0) (fun u => u) (by decide +kernel) rfl (Nat.le_of_ble_eq_true rfl) ?_
  intro p e s m args below meth c ls Q A hx hb hml hts hcx hown hK hX hA hP hD hS hl hret
  have hl : lv_has ls 3 [(0, .ref h_p0), (1, .int p1)] := hl
  have hf := (m_X12_usedAt.eq_1 _ _ _).symm.trans hf
  refine lv_iload_n hx hb dX12_usedAt_0 rfl (lv_at hl 1 rfl) ?_
  obtain ⟨u1, hu1, hf⟩ := bd_some hf
  refine z_ci (ws1 := w_X12_usedAt h_p0 cI n_p0 a_p0) (wr := List.filterMap (fun i : Nat => (w_X12_usedAt h_p0 cI n_p0 a_p0)[i]?) [0]) (z_rS (rest := []) hx hb hml hown hcx hl.1 (c_X12_blockAt l D cI p1 u1 hu1 _) tl_X12_80 ts_X12_blockAt tn_X12 tc_X12_blockAt tm_X12_blockAt rfl rfl ⟨Nat.le_of_ble_eq_true rfl, Nat.le_of_ble_eq_true rfl⟩ hK hX hS hA hP hD [] rfl rfl rfl rfl (Nat.le_of_ble_eq_true rfl) dX12_usedAt_1 ⟨Nat.zero_le _, Nat.zero_le _⟩) hP hD hS hA [] [0] [0] rfl rfl rfl (by decide) rfl rfl (fun H locs hP hD hS => ?_)
  refine lv_istore_n (lv' := [(2, .int u1), (0, .ref h_p0), (1, .int p1)]) hx hb dX12_usedAt_4 rfl hl (by decide) rfl (fun ls hl => ?_)
  refine lv_iload_n hx hb dX12_usedAt_5 rfl (lv_at hl 0 rfl) ?_
  refine lv_iconst (v := (-1)) hx hb dX12_usedAt_6 (by decide) ?_
  refine z_icmp_eq (tgt := 22) hx hb dX12_usedAt_7 (by decide) hf (fun hf => ?_) (fun hf => ?_)
  · refine lv_iconst (v := (-1)) hx hb dX12_usedAt_22 (by decide) ?_
    exact hret (-1) _ _ _ _ hf hP hD hS dX12_usedAt_23
  · refine lv_aload_n hx hb dX12_usedAt_10 rfl (lv_at hl 1 rfl) ?_
    refine lv_iload_n hx hb dX12_usedAt_11 rfl (lv_at hl 0 rfl) ?_
    obtain ⟨u2, hu2, hf⟩ := bd_some hf
    refine z_ci (ws1 := w_X12_usedAt h_p0 cI n_p0 a_p0) (wr := List.filterMap (fun i : Nat => (w_X12_usedAt h_p0 cI n_p0 a_p0)[i]?) []) (z_rS (rest := []) hx hb hml hown hcx hl.1 (c_X12_isUsed l D cI h_p0 n_p0 a_p0 u1 u2 hu2 _) tl_X12_83 ts_X12_isUsed tn_X12 tc_X12_isUsed tm_X12_isUsed rfl rfl ⟨Nat.le_of_ble_eq_true rfl, Nat.le_of_ble_eq_true rfl⟩ hK hX hS hA hP hD [0] rfl rfl rfl rfl (Nat.le_of_ble_eq_true rfl) dX12_usedAt_12 ⟨Nat.zero_le _, Nat.zero_le _⟩) hP hD hS hA [0] [] [0] rfl rfl rfl (by decide) rfl rfl (fun H locs hP hD hS => ?_)
    refine z_if_eq (tgt := 22) hx hb dX12_usedAt_15 (by decide) hf (fun hf => ?_) (fun hf => ?_)
    · refine lv_iconst (v := (-1)) hx hb dX12_usedAt_22 (by decide) ?_
      exact hret (-1) _ _ _ _ hf hP hD hS dX12_usedAt_23
    · refine lv_iload_n hx hb dX12_usedAt_18 rfl (lv_at hl 0 rfl) ?_
      refine lv_goto (tgt := 23) hx hb dX12_usedAt_19 (by decide) ?_
      exact hret u1 _ _ _ _ hf hP hD hS dX12_usedAt_23
abbrev w_X12_shapes (h_t : Nat) (h_p1 : Nat) (r_t : Nat → Nat) (F_t : Nat → Int32) (cI : ClassId) (n_p1 : Nat) (a_p1 : Nat → Int32) : va_W := [(h_t, .inr (12, o_X12 r_t F_t)), (h_p1, .inl (cI, n_p1, .inl a_p1))]
abbrev rm_X12_shapes : Room := { frames := 3, cells := 0, slots := 0, locals := 63 }
def m_X12_shapes_j163 (a_p1 : Nat → Int32) (n_p1 : Nat) (k17 : Int32 → (Nat → Int32) → Option ((Nat → Int32))) (x2 : Int32) (x3 : Int32) (F_t : Nat → Int32) : Option ((Nat → Int32)) :=
  nm (upd F_t 20 ((F_t 20) ||| x3)) fun F5 =>
  nm (x2 + 1) fun v6 =>
  k17 v6 F5
def m_X12_shapes_j158 (a_p1 : Nat → Int32) (n_p1 : Nat) (k44 : Int32 → Int32 → Int32 → Int32 → (Nat → Int32) → Option ((Nat → Int32))) (x2 : Int32) (x3 : Int32) (x4 : Int32) (s0 : Int32) (F_t : Nat → Int32) : Option ((Nat → Int32)) :=
  k44 x2 x3 x4 s0 F_t
def m_X12_shapes_j120 (a_p1 : Nat → Int32) (n_p1 : Nat) (k44 : Int32 → Int32 → Int32 → Int32 → (Nat → Int32) → Option ((Nat → Int32))) (x2 : Int32) (x3 : Int32) (x4 : Int32) (x6 : Int32) (s0 : Int32) (F_t : Nat → Int32) : Option ((Nat → Int32)) :=
  if s0 = 0 then (
  k44 x2 x3 x4 s0 F_t)
  else (
  nm (x3 ||| ((1 : Int32) <<< (x6 &&& 31))) fun v8 =>
  bd (m_X12_block x6) fun u9 =>
  rd a_p1 n_p1 (u9 + 1) fun y10 =>
  if y10 = 0 then (
  m_X12_shapes_j158 a_p1 n_p1 k44 x2 v8 y10 0 F_t)
  else (
  m_X12_shapes_j158 a_p1 n_p1 k44 x2 v8 y10 1 F_t))
def m_X12_shapes_j119 (a_p1 : Nat → Int32) (n_p1 : Nat) (k44 : Int32 → Int32 → Int32 → Int32 → (Nat → Int32) → Option ((Nat → Int32))) (x2 : Int32) (x3 : Int32) (x4 : Int32) (x6 : Int32) (F_t : Nat → Int32) : Option ((Nat → Int32)) :=
  m_X12_shapes_j120 a_p1 n_p1 k44 x2 x3 x4 x6 0 F_t
def m_X12_shapes_j100 (a_p1 : Nat → Int32) (n_p1 : Nat) (k44 : Int32 → Int32 → Int32 → Int32 → (Nat → Int32) → Option ((Nat → Int32))) (x2 : Int32) (x3 : Int32) (x4 : Int32) (x6 : Int32) (F_t : Nat → Int32) : Option ((Nat → Int32)) :=
  if x6 = (-1) then (
  m_X12_shapes_j119 a_p1 n_p1 k44 x2 x3 x4 x6 F_t)
  else (
  if ((x3 >>> (x6 &&& 31)) &&& 1) = 0 then (
  m_X12_shapes_j120 a_p1 n_p1 k44 x2 x3 x4 x6 1 F_t)
  else (
  m_X12_shapes_j119 a_p1 n_p1 k44 x2 x3 x4 x6 F_t))
def m_X12_shapes_w44 (a_p1 : Nat → Int32) (n_p1 : Nat) (k163 : Int32 → Int32 → (Nat → Int32) → Option ((Nat → Int32))) : Nat → Int32 → Int32 → Int32 → Int32 → (Nat → Int32) → Option ((Nat → Int32))
  | 0, _, _, _, _, _ => none
  | n44 + 1, x2, x3, x4, x5, F_t =>
    if x5 = 0 then (
    k163 x2 x3 F_t)
    else (
    bd (m_X12_usedAt a_p1 n_p1 x4) fun u7 =>
    if u7 = (-1) then (
    nm (upd F_t 21 ((F_t 21) ||| ((1 : Int32) <<< (x2 &&& 31)))) fun F12 =>
    m_X12_shapes_j100 a_p1 n_p1 (m_X12_shapes_w44 a_p1 n_p1 k163 n44) x2 x3 x4 u7 F12)
    else (
    if ((x3 >>> (u7 &&& 31)) &&& 1) = 1 then (
    nm (upd F_t 22 ((F_t 22) ||| ((1 : Int32) <<< (x2 &&& 31)))) fun F11 =>
    m_X12_shapes_j100 a_p1 n_p1 (m_X12_shapes_w44 a_p1 n_p1 k163 n44) x2 x3 x4 u7 F11)
    else (
    m_X12_shapes_j100 a_p1 n_p1 (m_X12_shapes_w44 a_p1 n_p1 k163 n44) x2 x3 x4 u7 F_t)))
def m_X12_shapes_j42 (a_p1 : Nat → Int32) (n_p1 : Nat) (k17 : Int32 → (Nat → Int32) → Option ((Nat → Int32))) (x2 : Int32) (x3 : Int32) (x4 : Int32) (s0 : Int32) (F_t : Nat → Int32) : Option ((Nat → Int32)) :=
  m_X12_shapes_w44 a_p1 n_p1 (m_X12_shapes_j163 a_p1 n_p1 k17) fuelN x2 x3 x4 s0 F_t
def m_X12_shapes_w17 (a_p1 : Nat → Int32) (n_p1 : Nat) : Nat → Int32 → (Nat → Int32) → Option ((Nat → Int32))
  | 0, _, _ => none
  | n17 + 1, x2, F_t =>
    if 4 ≤ x2 then (
    some F_t)
    else (
    rd a_p1 n_p1 (20 + x2) fun y4 =>
    if y4 = 0 then (
    m_X12_shapes_j42 a_p1 n_p1 (m_X12_shapes_w17 a_p1 n_p1 n17) x2 0 y4 0 F_t)
    else (
    m_X12_shapes_j42 a_p1 n_p1 (m_X12_shapes_w17 a_p1 n_p1 n17) x2 0 y4 1 F_t))
def m_X12_shapes (F_t : Nat → Int32) (a_p1 : Nat → Int32) (n_p1 : Nat) : Option ((Nat → Int32)) :=
  nm (upd F_t 22 0) fun F1 =>
  nm (upd F1 21 0) fun F2 =>
  nm (upd F2 20 0) fun F3 =>
  m_X12_shapes_w17 a_p1 n_p1 fuelN 0 F3
set_option maxHeartbeats 4000000 in
set_option maxRecDepth 100000 in
theorem c_X12_shapes (l : Launch) (D : va_G) (cI : ClassId) (h_t : Nat) (h_p1 : Nat) (r_t : Nat → Nat) (F_t : Nat → Int32) (n_p1 : Nat) (a_p1 : Nat → Int32) (Rr : (Nat → Int32)) (hf : m_X12_shapes F_t a_p1 n_p1 = some Rr) : CTv l yX12_shapes (Cond.code yX12_shapes cX12_shapes 7 none) rm_X12_shapes D cI [.ref h_t, .ref h_p1] (w_X12_shapes h_t h_p1 r_t F_t cI n_p1 a_p1) (w_X12_shapes h_t h_p1 r_t Rr cI n_p1 a_p1) := by
  refine z_begin_v (own := RX12) (ρ := (Nat → Int32)) (fun u => w_X12_shapes h_t h_p1 r_t u cI n_p1 a_p1) (by decide +kernel) rfl (Nat.le_of_ble_eq_true rfl) ?_
  intro p e s m args below meth c ls Q A hx hb hml hts hcx hown hK hX hA hP hD hS hl hret
  have hl : lv_has ls 7 [(0, .ref h_t), (1, .ref h_p1)] := hl
  have hf := (m_X12_shapes.eq_1 _ _ _).symm.trans hf
  have L17 : ∀ (n17 : Nat) (x2 : Int32) (F_t : Nat → Int32) (H : Heap) (locs : List Loc) (ls : Array Slot), m_X12_shapes_w17 a_p1 n_p1 n17 x2 F_t = some Rr → va_P D vwCl (w_X12_shapes h_t h_p1 r_t F_t cI n_p1 a_p1) H → va_D A (w_X12_shapes h_t h_p1 r_t F_t cI n_p1 a_p1) → va_S A s.heap H locs → lv_has ls 7 [(0, .ref h_t), (1, .ref h_p1), (2, .int x2)] → W p l e rm_X12_shapes s m args below meth c H locs 0 0 Q (F0 m 17 ls []) := by
    intro n17
    induction n17 with
    | zero => intro x2 F_t H locs ls hf; cases (show (none : Option _) = some Rr from hf)
    | succ n17 ih17 =>
      intro x2 F_t H locs ls hf hP hD hS hl
      have hf := (m_X12_shapes_w17.eq_2 _ _ _ _ _).symm.trans hf
      have L163 : ∀ (x2 : Int32) (x3 : Int32) (F_t : Nat → Int32) (H : Heap) (locs : List Loc) (ls : Array Slot), m_X12_shapes_j163 a_p1 n_p1 (m_X12_shapes_w17 a_p1 n_p1 n17) x2 x3 F_t = some Rr → va_P D vwCl (w_X12_shapes h_t h_p1 r_t F_t cI n_p1 a_p1) H → va_D A (w_X12_shapes h_t h_p1 r_t F_t cI n_p1 a_p1) → va_S A s.heap H locs → lv_has ls 7 [(0, .ref h_t), (1, .ref h_p1), (2, .int x2), (3, .int x3)] → W p l e rm_X12_shapes s m args below meth c H locs 0 0 Q (F0 m 163 ls []) := by
        intro x2 x3 F_t H locs ls hf hP hD hS hl
        have hf := (m_X12_shapes_j163.eq_1 _ _ _ _ _ _).symm.trans hf
        refine lv_aload_n hx hb dX12_shapes_163 rfl (lv_at hl 0 rfl) ?_
        refine lv_dup hx hb dX12_shapes_164 rfl ?_
        refine z_get (ci := 12) (C := RX12) (T := TX12) (N := 51) (v := .int (F_t 20)) hx hb hts inT_X12 hown hK hP 0 rfl rfl 20 (by decide) tf_X12_93 rfl dX12_shapes_165 ?_
        refine lv_iload_n hx hb dX12_shapes_168 rfl (lv_at hl 3 rfl) ?_
        refine lv_ior hx hb dX12_shapes_169 ?_
        refine z_put (ci := 12) (C := RX12) (T := TX12) (N := 51) hx hb hts inT_X12 tyX12 tyX12_ok nmX12 hown hK hP hD hS 0 rfl rfl 20 (by decide) tf_X12_93 rfl (by decide +kernel) (Nat.le_of_ble_eq_true rfl) (o_X12 r_t) (o_X12_s20 _ _ _) (fun z => w_X12_shapes h_t h_p1 r_t z cI n_p1 a_p1) (fun _ => rfl) dX12_shapes_170 hf (fun F5 H locs hf hP hD hS => ?_)
        refine z_iinc (k0 := 2) (fun z => [(2, .int z), (0, .ref h_t), (1, .ref h_p1), (3, .int x3)]) hx hb dX12_shapes_173 hl rfl (by decide) (by decide) (fun _ => rfl) hf (fun v6 ls hf hl => ?_)
        refine lv_goto (tgt := 17) hx hb dX12_shapes_176 (by decide) ?_
        exact ih17 v6 F5 _ _ _ hf hP hD hS (lv_sub hl [1, 2, 0] rfl)
      have L44 : ∀ (n44 : Nat) (x2 : Int32) (x3 : Int32) (x4 : Int32) (x5 : Int32) (F_t : Nat → Int32) (H : Heap) (locs : List Loc) (ls : Array Slot), m_X12_shapes_w44 a_p1 n_p1 (m_X12_shapes_j163 a_p1 n_p1 (m_X12_shapes_w17 a_p1 n_p1 n17)) n44 x2 x3 x4 x5 F_t = some Rr → va_P D vwCl (w_X12_shapes h_t h_p1 r_t F_t cI n_p1 a_p1) H → va_D A (w_X12_shapes h_t h_p1 r_t F_t cI n_p1 a_p1) → va_S A s.heap H locs → lv_has ls 7 [(0, .ref h_t), (1, .ref h_p1), (2, .int x2), (3, .int x3), (4, .int x4), (5, .int x5)] → W p l e rm_X12_shapes s m args below meth c H locs 0 0 Q (F0 m 44 ls []) := by
        intro n44
        induction n44 with
        | zero => intro x2 x3 x4 x5 F_t H locs ls hf; cases (show (none : Option _) = some Rr from hf)
        | succ n44 ih44 =>
          intro x2 x3 x4 x5 F_t H locs ls hf hP hD hS hl
          have hf := (m_X12_shapes_w44.eq_2 _ _ _ _ _ _ _ _ _).symm.trans hf
          have L158 : ∀ (x2 : Int32) (x3 : Int32) (x4 : Int32) (s0 : Int32) (F_t : Nat → Int32) (H : Heap) (locs : List Loc) (ls : Array Slot), m_X12_shapes_j158 a_p1 n_p1 (m_X12_shapes_w44 a_p1 n_p1 (m_X12_shapes_j163 a_p1 n_p1 (m_X12_shapes_w17 a_p1 n_p1 n17)) n44) x2 x3 x4 s0 F_t = some Rr → va_P D vwCl (w_X12_shapes h_t h_p1 r_t F_t cI n_p1 a_p1) H → va_D A (w_X12_shapes h_t h_p1 r_t F_t cI n_p1 a_p1) → va_S A s.heap H locs → lv_has ls 7 [(0, .ref h_t), (1, .ref h_p1), (2, .int x2), (3, .int x3), (4, .int x4)] → W p l e rm_X12_shapes s m args below meth c H locs 0 0 Q (F0 m 158 ls [.int s0]) := by
            intro x2 x3 x4 s0 F_t H locs ls hf hP hD hS hl
            have hf := (m_X12_shapes_j158.eq_1 _ _ _ _ _ _ _ _).symm.trans hf
            refine lv_istore (lv' := [(5, .int s0), (0, .ref h_t), (1, .ref h_p1), (2, .int x2), (3, .int x3), (4, .int x4)]) hx hb dX12_shapes_158 hl (by decide) rfl (fun ls hl => ?_)
            refine lv_goto (tgt := 44) hx hb dX12_shapes_160 (by decide) ?_
            exact ih44 x2 x3 x4 s0 F_t _ _ _ hf hP hD hS (lv_sub hl [1, 2, 3, 4, 5, 0] rfl)
          have L120 : ∀ (x2 : Int32) (x3 : Int32) (x4 : Int32) (x6 : Int32) (s0 : Int32) (F_t : Nat → Int32) (H : Heap) (locs : List Loc) (ls : Array Slot), m_X12_shapes_j120 a_p1 n_p1 (m_X12_shapes_w44 a_p1 n_p1 (m_X12_shapes_j163 a_p1 n_p1 (m_X12_shapes_w17 a_p1 n_p1 n17)) n44) x2 x3 x4 x6 s0 F_t = some Rr → va_P D vwCl (w_X12_shapes h_t h_p1 r_t F_t cI n_p1 a_p1) H → va_D A (w_X12_shapes h_t h_p1 r_t F_t cI n_p1 a_p1) → va_S A s.heap H locs → lv_has ls 7 [(0, .ref h_t), (1, .ref h_p1), (2, .int x2), (3, .int x3), (4, .int x4), (6, .int x6)] → W p l e rm_X12_shapes s m args below meth c H locs 0 0 Q (F0 m 120 ls [.int s0]) := by
            intro x2 x3 x4 x6 s0 F_t H locs ls hf hP hD hS hl
            have hf := (m_X12_shapes_j120.eq_1 _ _ _ _ _ _ _ _ _).symm.trans hf
            refine lv_istore (lv' := [(5, .int s0), (0, .ref h_t), (1, .ref h_p1), (2, .int x2), (3, .int x3), (4, .int x4), (6, .int x6)]) hx hb dX12_shapes_120 hl (by decide) rfl (fun ls hl => ?_)
            refine lv_iload hx hb dX12_shapes_122 (lv_at hl 0 rfl) ?_
            refine z_if_ne (tgt := 130) hx hb dX12_shapes_124 (by decide) hf (fun hf => ?_) (fun hf => ?_)
            · refine lv_iload_n hx hb dX12_shapes_130 rfl (lv_at hl 4 rfl) ?_
              refine lv_iconst (v := 1) hx hb dX12_shapes_131 (by decide) ?_
              refine lv_iload hx hb dX12_shapes_132 (lv_at hl 6 rfl) ?_
              refine lv_ishl hx hb dX12_shapes_134 ?_
              refine lv_ior hx hb dX12_shapes_135 ?_
              refine z_istore_n (fun z => [(3, .int z), (5, .int s0), (0, .ref h_t), (1, .ref h_p1), (2, .int x2), (4, .int x4), (6, .int x6)]) hx hb dX12_shapes_136 rfl hl (by decide) (fun _ => rfl) hf (fun v8 ls hf hl => ?_)
              refine lv_aload_n hx hb dX12_shapes_137 rfl (lv_at hl 3 rfl) ?_
              refine lv_iload hx hb dX12_shapes_138 (lv_at hl 6 rfl) ?_
              obtain ⟨u9, hu9, hf⟩ := bd_some hf
              refine z_ci (ws1 := w_X12_shapes h_t h_p1 r_t F_t cI n_p1 a_p1) (wr := List.filterMap (fun i : Nat => (w_X12_shapes h_t h_p1 r_t F_t cI n_p1 a_p1)[i]?) [0, 1]) (z_rS (rest := [.ref h_p1]) hx hb hml hown hcx hl.1 (c_X12_block l D cI x6 u9 hu9 _) tl_X12_76 ts_X12_block tn_X12 tc_X12_block tm_X12_block rfl rfl ⟨Nat.le_of_ble_eq_true rfl, Nat.le_of_ble_eq_true rfl⟩ hK hX hS hA hP hD [] rfl rfl rfl rfl (Nat.le_of_ble_eq_true rfl) dX12_shapes_140 ⟨Nat.zero_le _, Nat.zero_le _⟩) hP hD hS hA [] [0, 1] [0, 1] rfl rfl rfl (by decide) rfl rfl (fun H locs hP hD hS => ?_)
              refine lv_iconst (v := 1) hx hb dX12_shapes_143 (by decide) ?_
              refine lv_iadd hx hb dX12_shapes_144 ?_
              refine z_iald hx hb hK hP 1 rfl dX12_shapes_145 hf (fun y10 hf => ?_)
              refine lv_istore (lv' := [(4, .int y10), (3, .int v8), (5, .int s0), (0, .ref h_t), (1, .ref h_p1), (2, .int x2), (6, .int x6)]) hx hb dX12_shapes_146 hl (by decide) rfl (fun ls hl => ?_)
              refine lv_iload hx hb dX12_shapes_148 (lv_at hl 0 rfl) ?_
              refine z_if_eq (tgt := 157) hx hb dX12_shapes_150 (by decide) hf (fun hf => ?_) (fun hf => ?_)
              · refine lv_iconst (v := 0) hx hb dX12_shapes_157 (by decide) ?_
                exact L158 x2 v8 y10 0 F_t _ _ _ hf hP hD hS (lv_sub hl [3, 4, 5, 1, 0] rfl)
              · refine lv_iconst (v := 1) hx hb dX12_shapes_153 (by decide) ?_
                refine lv_goto (tgt := 158) hx hb dX12_shapes_154 (by decide) ?_
                exact L158 x2 v8 y10 1 F_t _ _ _ hf hP hD hS (lv_sub hl [3, 4, 5, 1, 0] rfl)
            · refine lv_goto (tgt := 44) hx hb dX12_shapes_127 (by decide) ?_
              exact ih44 x2 x3 x4 s0 F_t _ _ _ hf hP hD hS (lv_sub hl [1, 2, 3, 4, 5, 0] rfl)
          have L119 : ∀ (x2 : Int32) (x3 : Int32) (x4 : Int32) (x6 : Int32) (F_t : Nat → Int32) (H : Heap) (locs : List Loc) (ls : Array Slot), m_X12_shapes_j119 a_p1 n_p1 (m_X12_shapes_w44 a_p1 n_p1 (m_X12_shapes_j163 a_p1 n_p1 (m_X12_shapes_w17 a_p1 n_p1 n17)) n44) x2 x3 x4 x6 F_t = some Rr → va_P D vwCl (w_X12_shapes h_t h_p1 r_t F_t cI n_p1 a_p1) H → va_D A (w_X12_shapes h_t h_p1 r_t F_t cI n_p1 a_p1) → va_S A s.heap H locs → lv_has ls 7 [(0, .ref h_t), (1, .ref h_p1), (2, .int x2), (3, .int x3), (4, .int x4), (6, .int x6)] → W p l e rm_X12_shapes s m args below meth c H locs 0 0 Q (F0 m 119 ls []) := by
            intro x2 x3 x4 x6 F_t H locs ls hf hP hD hS hl
            have hf := (m_X12_shapes_j119.eq_1 _ _ _ _ _ _ _ _).symm.trans hf
            refine lv_iconst (v := 0) hx hb dX12_shapes_119 (by decide) ?_
            exact L120 x2 x3 x4 x6 0 F_t _ _ _ hf hP hD hS (lv_sub hl [0, 1, 2, 3, 4, 5] rfl)
          have L100 : ∀ (x2 : Int32) (x3 : Int32) (x4 : Int32) (x6 : Int32) (F_t : Nat → Int32) (H : Heap) (locs : List Loc) (ls : Array Slot), m_X12_shapes_j100 a_p1 n_p1 (m_X12_shapes_w44 a_p1 n_p1 (m_X12_shapes_j163 a_p1 n_p1 (m_X12_shapes_w17 a_p1 n_p1 n17)) n44) x2 x3 x4 x6 F_t = some Rr → va_P D vwCl (w_X12_shapes h_t h_p1 r_t F_t cI n_p1 a_p1) H → va_D A (w_X12_shapes h_t h_p1 r_t F_t cI n_p1 a_p1) → va_S A s.heap H locs → lv_has ls 7 [(0, .ref h_t), (1, .ref h_p1), (2, .int x2), (3, .int x3), (4, .int x4), (6, .int x6)] → W p l e rm_X12_shapes s m args below meth c H locs 0 0 Q (F0 m 100 ls []) := by
            intro x2 x3 x4 x6 F_t H locs ls hf hP hD hS hl
            have hf := (m_X12_shapes_j100.eq_1 _ _ _ _ _ _ _ _).symm.trans hf
            refine lv_iload hx hb dX12_shapes_100 (lv_at hl 5 rfl) ?_
            refine lv_iconst (v := (-1)) hx hb dX12_shapes_102 (by decide) ?_
            refine z_icmp_eq (tgt := 119) hx hb dX12_shapes_103 (by decide) hf (fun hf => ?_) (fun hf => ?_)
            · exact L119 x2 x3 x4 x6 F_t _ _ _ hf hP hD hS (lv_sub hl [0, 1, 2, 3, 4, 5] rfl)
            · refine lv_iload_n hx hb dX12_shapes_106 rfl (lv_at hl 3 rfl) ?_
              refine lv_iload hx hb dX12_shapes_107 (lv_at hl 5 rfl) ?_
              refine lv_ishr hx hb dX12_shapes_109 ?_
              refine lv_iconst (v := 1) hx hb dX12_shapes_110 (by decide) ?_
              refine lv_iand hx hb dX12_shapes_111 ?_
              refine z_if_ne (tgt := 119) hx hb dX12_shapes_112 (by decide) hf (fun hf => ?_) (fun hf => ?_)
              · exact L119 x2 x3 x4 x6 F_t _ _ _ hf hP hD hS (lv_sub hl [0, 1, 2, 3, 4, 5] rfl)
              · refine lv_iconst (v := 1) hx hb dX12_shapes_115 (by decide) ?_
                refine lv_goto (tgt := 120) hx hb dX12_shapes_116 (by decide) ?_
                exact L120 x2 x3 x4 x6 1 F_t _ _ _ hf hP hD hS (lv_sub hl [0, 1, 2, 3, 4, 5] rfl)
          refine lv_iload hx hb dX12_shapes_44 (lv_at hl 5 rfl) ?_
          refine z_if_eq (tgt := 163) hx hb dX12_shapes_46 (by decide) hf (fun hf => ?_) (fun hf => ?_)
          · exact L163 x2 x3 F_t _ _ _ hf hP hD hS (lv_sub hl [0, 1, 2, 3] rfl)
          · refine lv_aload_n hx hb dX12_shapes_49 rfl (lv_at hl 1 rfl) ?_
            refine lv_iload hx hb dX12_shapes_50 (lv_at hl 4 rfl) ?_
            obtain ⟨u7, hu7, hf⟩ := bd_some hf
            refine z_ci (ws1 := w_X12_shapes h_t h_p1 r_t F_t cI n_p1 a_p1) (wr := List.filterMap (fun i : Nat => (w_X12_shapes h_t h_p1 r_t F_t cI n_p1 a_p1)[i]?) [0]) (z_rS (rest := []) hx hb hml hown hcx hl.1 (c_X12_usedAt l D cI h_p1 n_p1 a_p1 x4 u7 hu7 _) tl_X12_96 ts_X12_usedAt tn_X12 tc_X12_usedAt tm_X12_usedAt rfl rfl ⟨Nat.le_of_ble_eq_true rfl, Nat.le_of_ble_eq_true rfl⟩ hK hX hS hA hP hD [1] rfl rfl rfl rfl (Nat.le_of_ble_eq_true rfl) dX12_shapes_52 ⟨Nat.zero_le _, Nat.zero_le _⟩) hP hD hS hA [1] [0] [0, 1] rfl rfl rfl (by decide) rfl rfl (fun H locs hP hD hS => ?_)
            refine lv_istore (lv' := [(6, .int u7), (0, .ref h_t), (1, .ref h_p1), (2, .int x2), (3, .int x3), (4, .int x4), (5, .int x5)]) hx hb dX12_shapes_55 hl (by decide) rfl (fun ls hl => ?_)
            refine lv_iload hx hb dX12_shapes_57 (lv_at hl 0 rfl) ?_
            refine lv_iconst (v := (-1)) hx hb dX12_shapes_59 (by decide) ?_
            refine z_icmp_ne (tgt := 78) hx hb dX12_shapes_60 (by decide) hf (fun hf => ?_) (fun hf => ?_)
            · refine lv_iload_n hx hb dX12_shapes_78 rfl (lv_at hl 4 rfl) ?_
              refine lv_iload hx hb dX12_shapes_79 (lv_at hl 0 rfl) ?_
              refine lv_ishr hx hb dX12_shapes_81 ?_
              refine lv_iconst (v := 1) hx hb dX12_shapes_82 (by decide) ?_
              refine lv_iand hx hb dX12_shapes_83 ?_
              refine lv_iconst (v := 1) hx hb dX12_shapes_84 (by decide) ?_
              refine z_icmp_ne (tgt := 100) hx hb dX12_shapes_85 (by decide) hf (fun hf => ?_) (fun hf => ?_)
              · exact L100 x2 x3 x4 u7 F_t _ _ _ hf hP hD hS (lv_sub hl [1, 2, 3, 4, 5, 0] rfl)
              · refine lv_aload_n hx hb dX12_shapes_88 rfl (lv_at hl 1 rfl) ?_
                refine lv_dup hx hb dX12_shapes_89 rfl ?_
                refine z_get (ci := 12) (C := RX12) (T := TX12) (N := 51) (v := .int (F_t 22)) hx hb hts inT_X12 hown hK hP 0 rfl rfl 22 (by decide) tf_X12_87 rfl dX12_shapes_90 ?_
                refine lv_iconst (v := 1) hx hb dX12_shapes_93 (by decide) ?_
                refine lv_iload_n hx hb dX12_shapes_94 rfl (lv_at hl 3 rfl) ?_
                refine lv_ishl hx hb dX12_shapes_95 ?_
                refine lv_ior hx hb dX12_shapes_96 ?_
                refine z_put (ci := 12) (C := RX12) (T := TX12) (N := 51) hx hb hts inT_X12 tyX12 tyX12_ok nmX12 hown hK hP hD hS 0 rfl rfl 22 (by decide) tf_X12_87 rfl (by decide +kernel) (Nat.le_of_ble_eq_true rfl) (o_X12 r_t) (o_X12_s22 _ _ _) (fun z => w_X12_shapes h_t h_p1 r_t z cI n_p1 a_p1) (fun _ => rfl) dX12_shapes_97 hf (fun F11 H locs hf hP hD hS => ?_)
                exact L100 x2 x3 x4 u7 F11 _ _ _ hf hP hD hS (lv_sub hl [1, 2, 3, 4, 5, 0] rfl)
            · refine lv_aload_n hx hb dX12_shapes_63 rfl (lv_at hl 1 rfl) ?_
              refine lv_dup hx hb dX12_shapes_64 rfl ?_
              refine z_get (ci := 12) (C := RX12) (T := TX12) (N := 51) (v := .int (F_t 21)) hx hb hts inT_X12 hown hK hP 0 rfl rfl 21 (by decide) tf_X12_90 rfl dX12_shapes_65 ?_
              refine lv_iconst (v := 1) hx hb dX12_shapes_68 (by decide) ?_
              refine lv_iload_n hx hb dX12_shapes_69 rfl (lv_at hl 3 rfl) ?_
              refine lv_ishl hx hb dX12_shapes_70 ?_
              refine lv_ior hx hb dX12_shapes_71 ?_
              refine z_put (ci := 12) (C := RX12) (T := TX12) (N := 51) hx hb hts inT_X12 tyX12 tyX12_ok nmX12 hown hK hP hD hS 0 rfl rfl 21 (by decide) tf_X12_90 rfl (by decide +kernel) (Nat.le_of_ble_eq_true rfl) (o_X12 r_t) (o_X12_s21 _ _ _) (fun z => w_X12_shapes h_t h_p1 r_t z cI n_p1 a_p1) (fun _ => rfl) dX12_shapes_72 hf (fun F12 H locs hf hP hD hS => ?_)
              refine lv_goto (tgt := 100) hx hb dX12_shapes_75 (by decide) ?_
              exact L100 x2 x3 x4 u7 F12 _ _ _ hf hP hD hS (lv_sub hl [1, 2, 3, 4, 5, 0] rfl)
      have L42 : ∀ (x2 : Int32) (x3 : Int32) (x4 : Int32) (s0 : Int32) (F_t : Nat → Int32) (H : Heap) (locs : List Loc) (ls : Array Slot), m_X12_shapes_j42 a_p1 n_p1 (m_X12_shapes_w17 a_p1 n_p1 n17) x2 x3 x4 s0 F_t = some Rr → va_P D vwCl (w_X12_shapes h_t h_p1 r_t F_t cI n_p1 a_p1) H → va_D A (w_X12_shapes h_t h_p1 r_t F_t cI n_p1 a_p1) → va_S A s.heap H locs → lv_has ls 7 [(0, .ref h_t), (1, .ref h_p1), (2, .int x2), (3, .int x3), (4, .int x4)] → W p l e rm_X12_shapes s m args below meth c H locs 0 0 Q (F0 m 42 ls [.int s0]) := by
        intro x2 x3 x4 s0 F_t H locs ls hf hP hD hS hl
        have hf := (m_X12_shapes_j42.eq_1 _ _ _ _ _ _ _ _).symm.trans hf
        refine lv_istore (lv' := [(5, .int s0), (0, .ref h_t), (1, .ref h_p1), (2, .int x2), (3, .int x3), (4, .int x4)]) hx hb dX12_shapes_42 hl (by decide) rfl (fun ls hl => ?_)
        exact L44 fuelN x2 x3 x4 s0 F_t _ _ _ hf hP hD hS (lv_sub hl [1, 2, 3, 4, 5, 0] rfl)
      refine lv_iload_n hx hb dX12_shapes_17 rfl (lv_at hl 2 rfl) ?_
      refine lv_iconst (v := 4) hx hb dX12_shapes_18 (by decide) ?_
      refine z_icmp_ge (tgt := 179) hx hb dX12_shapes_19 (by decide) hf (fun hf => ?_) (fun hf => ?_)
      · exact hret F_t _ _ _ _ hf hP hD hS dX12_shapes_179
      · refine lv_iconst (v := 0) hx hb dX12_shapes_22 (by decide) ?_
        refine lv_istore_n (lv' := [(3, .int 0), (0, .ref h_t), (1, .ref h_p1), (2, .int x2)]) hx hb dX12_shapes_23 rfl hl (by decide) rfl (fun ls hl => ?_)
        refine lv_aload_n hx hb dX12_shapes_24 rfl (lv_at hl 2 rfl) ?_
        refine lv_bipush (v := 20) hx hb dX12_shapes_25 (by decide) ?_
        refine lv_iload_n hx hb dX12_shapes_27 rfl (lv_at hl 3 rfl) ?_
        refine lv_iadd hx hb dX12_shapes_28 ?_
        refine z_iald hx hb hK hP 1 rfl dX12_shapes_29 hf (fun y4 hf => ?_)
        refine lv_istore (lv' := [(4, .int y4), (3, .int 0), (0, .ref h_t), (1, .ref h_p1), (2, .int x2)]) hx hb dX12_shapes_30 hl (by decide) rfl (fun ls hl => ?_)
        refine lv_iload hx hb dX12_shapes_32 (lv_at hl 0 rfl) ?_
        refine z_if_eq (tgt := 41) hx hb dX12_shapes_34 (by decide) hf (fun hf => ?_) (fun hf => ?_)
        · refine lv_iconst (v := 0) hx hb dX12_shapes_41 (by decide) ?_
          exact L42 x2 0 y4 0 F_t _ _ _ hf hP hD hS (lv_sub hl [2, 3, 4, 1, 0] rfl)
        · refine lv_iconst (v := 1) hx hb dX12_shapes_37 (by decide) ?_
          refine lv_goto (tgt := 42) hx hb dX12_shapes_38 (by decide) ?_
          exact L42 x2 0 y4 1 F_t _ _ _ hf hP hD hS (lv_sub hl [2, 3, 4, 1, 0] rfl)
  refine lv_aload_n hx hb dX12_shapes_0 rfl (lv_at hl 0 rfl) ?_
  refine lv_aload_n hx hb dX12_shapes_1 rfl (lv_at hl 0 rfl) ?_
  refine lv_aload_n hx hb dX12_shapes_2 rfl (lv_at hl 0 rfl) ?_
  refine lv_iconst (v := 0) hx hb dX12_shapes_3 (by decide) ?_
  refine lv_dup_x1 hx hb dX12_shapes_4 rfl rfl ?_
  refine z_put (ci := 12) (C := RX12) (T := TX12) (N := 51) hx hb hts inT_X12 tyX12 tyX12_ok nmX12 hown hK hP hD hS 0 rfl rfl 22 (by decide) tf_X12_87 rfl (by decide +kernel) (Nat.le_of_ble_eq_true rfl) (o_X12 r_t) (o_X12_s22 _ _ _) (fun z => w_X12_shapes h_t h_p1 r_t z cI n_p1 a_p1) (fun _ => rfl) dX12_shapes_5 hf (fun F1 H locs hf hP hD hS => ?_)
  refine lv_dup_x1 hx hb dX12_shapes_8 rfl rfl ?_
  refine z_put (ci := 12) (C := RX12) (T := TX12) (N := 51) hx hb hts inT_X12 tyX12 tyX12_ok nmX12 hown hK hP hD hS 0 rfl rfl 21 (by decide) tf_X12_90 rfl (by decide +kernel) (Nat.le_of_ble_eq_true rfl) (o_X12 r_t) (o_X12_s21 _ _ _) (fun z => w_X12_shapes h_t h_p1 r_t z cI n_p1 a_p1) (fun _ => rfl) dX12_shapes_9 hf (fun F2 H locs hf hP hD hS => ?_)
  refine z_put (ci := 12) (C := RX12) (T := TX12) (N := 51) hx hb hts inT_X12 tyX12 tyX12_ok nmX12 hown hK hP hD hS 0 rfl rfl 20 (by decide) tf_X12_93 rfl (by decide +kernel) (Nat.le_of_ble_eq_true rfl) (o_X12 r_t) (o_X12_s20 _ _ _) (fun z => w_X12_shapes h_t h_p1 r_t z cI n_p1 a_p1) (fun _ => rfl) dX12_shapes_12 hf (fun F3 H locs hf hP hD hS => ?_)
  refine lv_iconst (v := 0) hx hb dX12_shapes_15 (by decide) ?_
  refine lv_istore_n (lv' := [(2, .int 0), (0, .ref h_t), (1, .ref h_p1)]) hx hb dX12_shapes_16 rfl hl (by decide) rfl (fun ls hl => ?_)
  exact L17 fuelN 0 F3 _ _ _ hf hP hD hS (lv_sub hl [1, 2, 0] rfl)
abbrev w_X12_usedBlocks (h_p0 : Nat) (cI : ClassId) (n_p0 : Nat) (a_p0 : Nat → Int32) : va_W := [(h_p0, .inl (cI, n_p0, .inl a_p0))]
abbrev rm_X12_usedBlocks : Room := { frames := 2, cells := 0, slots := 0, locals := 41 }
def m_X12_usedBlocks_j24 (a_p0 : Nat → Int32) (n_p0 : Nat) (k4 : Int32 → Int32 → Option (Int32)) (x1 : Int32) (x2 : Int32) : Option (Int32) :=
  nm (x2 + 1) fun v2 =>
  k4 x1 v2
def m_X12_usedBlocks_w4 (a_p0 : Nat → Int32) (n_p0 : Nat) : Nat → Int32 → Int32 → Option (Int32)
  | 0, _, _ => none
  | n4 + 1, x1, x2 =>
    if 10 ≤ x2 then (
    some x1)
    else (
    bd (m_X12_isUsed a_p0 n_p0 x2) fun u1 =>
    if u1 = 0 then (
    m_X12_usedBlocks_j24 a_p0 n_p0 (m_X12_usedBlocks_w4 a_p0 n_p0 n4) x1 x2)
    else (
    nm (x1 ||| ((1 : Int32) <<< (x2 &&& 31))) fun v3 =>
    m_X12_usedBlocks_j24 a_p0 n_p0 (m_X12_usedBlocks_w4 a_p0 n_p0 n4) v3 x2))
def m_X12_usedBlocks (a_p0 : Nat → Int32) (n_p0 : Nat) : Option (Int32) :=
  m_X12_usedBlocks_w4 a_p0 n_p0 fuelN 0 0
set_option maxHeartbeats 4000000 in
set_option maxRecDepth 100000 in
theorem c_X12_usedBlocks (l : Launch) (D : va_G) (cI : ClassId) (h_p0 : Nat) (n_p0 : Nat) (a_p0 : Nat → Int32) (Rr : Int32) (hf : m_X12_usedBlocks a_p0 n_p0 = some Rr) : CTi l yX12_usedBlocks (Cond.code yX12_usedBlocks cX12_usedBlocks 3 (some .int)) rm_X12_usedBlocks D cI [.ref h_p0] (w_X12_usedBlocks h_p0 cI n_p0 a_p0) Rr (w_X12_usedBlocks h_p0 cI n_p0 a_p0) := by
  refine z_begin_i (own := RX12) (ρ := Int32) (fun u => w_X12_usedBlocks h_p0 cI n_p0 a_p0) (fun u => u) (by decide +kernel) rfl (Nat.le_of_ble_eq_true rfl) ?_
  intro p e s m args below meth c ls Q A hx hb hml hts hcx hown hK hX hA hP hD hS hl hret
  have hl : lv_has ls 3 [(0, .ref h_p0)] := hl
  have hf := (m_X12_usedBlocks.eq_1 _ _).symm.trans hf
  have L4 : ∀ (n4 : Nat) (x1 : Int32) (x2 : Int32) (H : Heap) (locs : List Loc) (ls : Array Slot), m_X12_usedBlocks_w4 a_p0 n_p0 n4 x1 x2 = some Rr → va_P D vwCl (w_X12_usedBlocks h_p0 cI n_p0 a_p0) H → va_D A (w_X12_usedBlocks h_p0 cI n_p0 a_p0) → va_S A s.heap H locs → lv_has ls 3 [(0, .ref h_p0), (1, .int x1), (2, .int x2)] → W p l e rm_X12_usedBlocks s m args below meth c H locs 0 0 Q (F0 m 4 ls []) := by
    intro n4
    induction n4 with
    | zero => intro x1 x2 H locs ls hf; cases (show (none : Option _) = some Rr from hf)
    | succ n4 ih4 =>
      intro x1 x2 H locs ls hf hP hD hS hl
      have hf := (m_X12_usedBlocks_w4.eq_2 _ _ _ _ _).symm.trans hf
      have L24 : ∀ (x1 : Int32) (x2 : Int32) (H : Heap) (locs : List Loc) (ls : Array Slot), m_X12_usedBlocks_j24 a_p0 n_p0 (m_X12_usedBlocks_w4 a_p0 n_p0 n4) x1 x2 = some Rr → va_P D vwCl (w_X12_usedBlocks h_p0 cI n_p0 a_p0) H → va_D A (w_X12_usedBlocks h_p0 cI n_p0 a_p0) → va_S A s.heap H locs → lv_has ls 3 [(0, .ref h_p0), (1, .int x1), (2, .int x2)] → W p l e rm_X12_usedBlocks s m args below meth c H locs 0 0 Q (F0 m 24 ls []) := by
        intro x1 x2 H locs ls hf hP hD hS hl
        have hf := (m_X12_usedBlocks_j24.eq_1 _ _ _ _ _).symm.trans hf
        refine z_iinc (k0 := 2) (fun z => [(2, .int z), (0, .ref h_p0), (1, .int x1)]) hx hb dX12_usedBlocks_24 hl rfl (by decide) (by decide) (fun _ => rfl) hf (fun v2 ls hf hl => ?_)
        refine lv_goto (tgt := 4) hx hb dX12_usedBlocks_27 (by decide) ?_
        exact ih4 x1 v2 _ _ _ hf hP hD hS (lv_sub hl [1, 2, 0] rfl)
      refine lv_iload_n hx hb dX12_usedBlocks_4 rfl (lv_at hl 2 rfl) ?_
      refine lv_bipush (v := 10) hx hb dX12_usedBlocks_5 (by decide) ?_
      refine z_icmp_ge (tgt := 30) hx hb dX12_usedBlocks_7 (by decide) hf (fun hf => ?_) (fun hf => ?_)
      · refine lv_iload_n hx hb dX12_usedBlocks_30 rfl (lv_at hl 1 rfl) ?_
        exact hret x1 _ _ _ _ hf hP hD hS dX12_usedBlocks_31
      · refine lv_aload_n hx hb dX12_usedBlocks_10 rfl (lv_at hl 0 rfl) ?_
        refine lv_iload_n hx hb dX12_usedBlocks_11 rfl (lv_at hl 2 rfl) ?_
        obtain ⟨u1, hu1, hf⟩ := bd_some hf
        refine z_ci (ws1 := w_X12_usedBlocks h_p0 cI n_p0 a_p0) (wr := List.filterMap (fun i : Nat => (w_X12_usedBlocks h_p0 cI n_p0 a_p0)[i]?) []) (z_rS (rest := []) hx hb hml hown hcx hl.1 (c_X12_isUsed l D cI h_p0 n_p0 a_p0 x2 u1 hu1 _) tl_X12_83 ts_X12_isUsed tn_X12 tc_X12_isUsed tm_X12_isUsed rfl rfl ⟨Nat.le_of_ble_eq_true rfl, Nat.le_of_ble_eq_true rfl⟩ hK hX hS hA hP hD [0] rfl rfl rfl rfl (Nat.le_of_ble_eq_true rfl) dX12_usedBlocks_12 ⟨Nat.zero_le _, Nat.zero_le _⟩) hP hD hS hA [0] [] [0] rfl rfl rfl (by decide) rfl rfl (fun H locs hP hD hS => ?_)
        refine z_if_eq (tgt := 24) hx hb dX12_usedBlocks_15 (by decide) hf (fun hf => ?_) (fun hf => ?_)
        · exact L24 x1 x2 _ _ _ hf hP hD hS (lv_sub hl [0, 1, 2] rfl)
        · refine lv_iload_n hx hb dX12_usedBlocks_18 rfl (lv_at hl 1 rfl) ?_
          refine lv_iconst (v := 1) hx hb dX12_usedBlocks_19 (by decide) ?_
          refine lv_iload_n hx hb dX12_usedBlocks_20 rfl (lv_at hl 2 rfl) ?_
          refine lv_ishl hx hb dX12_usedBlocks_21 ?_
          refine lv_ior hx hb dX12_usedBlocks_22 ?_
          refine z_istore_n (fun z => [(1, .int z), (0, .ref h_p0), (2, .int x2)]) hx hb dX12_usedBlocks_23 rfl hl (by decide) (fun _ => rfl) hf (fun v3 ls hf hl => ?_)
          exact L24 v3 x2 _ _ _ hf hP hD hS (lv_sub hl [1, 0, 2] rfl)
  refine lv_iconst (v := 0) hx hb dX12_usedBlocks_0 (by decide) ?_
  refine lv_istore_n (lv' := [(1, .int 0), (0, .ref h_p0)]) hx hb dX12_usedBlocks_1 rfl hl (by decide) rfl (fun ls hl => ?_)
  refine lv_iconst (v := 0) hx hb dX12_usedBlocks_2 (by decide) ?_
  refine lv_istore_n (lv' := [(2, .int 0), (1, .int 0), (0, .ref h_p0)]) hx hb dX12_usedBlocks_3 rfl hl (by decide) rfl (fun ls hl => ?_)
  exact L4 fuelN 0 0 _ _ _ hf hP hD hS (lv_sub hl [2, 1, 0] rfl)
abbrev w_X12_bits (cI : ClassId) : va_W := []
abbrev rm_X12_bits : Room := { frames := 0, cells := 0, slots := 0, locals := 0 }
def m_X12_bits_w4 (p0 : Int32) : Nat → Int32 → Int32 → Option (Int32)
  | 0, _, _ => none
  | n4 + 1, x1, x2 =>
    if x2 = 0 then (
    some x1)
    else (
    nm (x1 + 1) fun v1 =>
    nm (x2 &&& (x2 - 1)) fun v2 =>
    m_X12_bits_w4 p0 n4 v1 v2)
def m_X12_bits (p0 : Int32) : Option (Int32) :=
  m_X12_bits_w4 p0 fuelN 0 p0
set_option maxHeartbeats 4000000 in
set_option maxRecDepth 100000 in
theorem c_X12_bits (l : Launch) (D : va_G) (cI : ClassId) (p0 : Int32) (Rr : Int32) (hf : m_X12_bits p0 = some Rr) : CTi l yX12_bits (Cond.code yX12_bits cX12_bits 3 (some .int)) rm_X12_bits D cI [.int p0] (w_X12_bits cI) Rr (w_X12_bits cI) := by
  refine z_begin_i (own := RX12) (ρ := Int32) (fun u => w_X12_bits cI) (fun u => u) (by decide +kernel) rfl (Nat.le_of_ble_eq_true rfl) ?_
  intro p e s m args below meth c ls Q A hx hb hml hts hcx hown hK hX hA hP hD hS hl hret
  have hl : lv_has ls 3 [(0, .int p0)] := hl
  have hf := (m_X12_bits.eq_1 _).symm.trans hf
  have L4 : ∀ (n4 : Nat) (x1 : Int32) (x2 : Int32) (H : Heap) (locs : List Loc) (ls : Array Slot), m_X12_bits_w4 p0 n4 x1 x2 = some Rr → va_P D vwCl (w_X12_bits cI) H → va_D A (w_X12_bits cI) → va_S A s.heap H locs → lv_has ls 3 [(1, .int x1), (2, .int x2)] → W p l e rm_X12_bits s m args below meth c H locs 0 0 Q (F0 m 4 ls []) := by
    intro n4
    induction n4 with
    | zero => intro x1 x2 H locs ls hf; cases (show (none : Option _) = some Rr from hf)
    | succ n4 ih4 =>
      intro x1 x2 H locs ls hf hP hD hS hl
      have hf := (m_X12_bits_w4.eq_2 _ _ _ _).symm.trans hf
      refine lv_iload_n hx hb dX12_bits_4 rfl (lv_at hl 1 rfl) ?_
      refine z_if_eq (tgt := 20) hx hb dX12_bits_5 (by decide) hf (fun hf => ?_) (fun hf => ?_)
      · refine lv_iload_n hx hb dX12_bits_20 rfl (lv_at hl 0 rfl) ?_
        exact hret x1 _ _ _ _ hf hP hD hS dX12_bits_21
      · refine z_iinc (k0 := 0) (fun z => [(1, .int z), (2, .int x2)]) hx hb dX12_bits_8 hl rfl (by decide) (by decide) (fun _ => rfl) hf (fun v1 ls hf hl => ?_)
        refine lv_iload_n hx hb dX12_bits_11 rfl (lv_at hl 1 rfl) ?_
        refine lv_iload_n hx hb dX12_bits_12 rfl (lv_at hl 1 rfl) ?_
        refine lv_iconst (v := 1) hx hb dX12_bits_13 (by decide) ?_
        refine lv_isub hx hb dX12_bits_14 ?_
        refine lv_iand hx hb dX12_bits_15 ?_
        refine z_istore_n (fun z => [(2, .int z), (1, .int v1)]) hx hb dX12_bits_16 rfl hl (by decide) (fun _ => rfl) hf (fun v2 ls hf hl => ?_)
        refine lv_goto (tgt := 4) hx hb dX12_bits_17 (by decide) ?_
        exact ih4 v1 v2 _ _ _ hf hP hD hS (lv_sub hl [1, 0] rfl)
  refine lv_iconst (v := 0) hx hb dX12_bits_0 (by decide) ?_
  refine lv_istore_n (lv' := [(1, .int 0), (0, .int p0)]) hx hb dX12_bits_1 rfl hl (by decide) rfl (fun ls hl => ?_)
  refine lv_iload_n hx hb dX12_bits_2 rfl (lv_at hl 1 rfl) ?_
  refine lv_istore_n (lv' := [(2, .int p0), (1, .int 0), (0, .int p0)]) hx hb dX12_bits_3 rfl hl (by decide) rfl (fun ls hl => ?_)
  exact L4 fuelN 0 p0 _ _ _ hf hP hD hS (lv_sub hl [1, 0] rfl)
abbrev w_X12_leaked (h_t : Nat) (h_p1 : Nat) (r_t : Nat → Nat) (F_t : Nat → Int32) (cI : ClassId) (n_p1 : Nat) (a_p1 : Nat → Int32) : va_W := [(h_t, .inr (12, o_X12 r_t F_t)), (h_p1, .inl (cI, n_p1, .inl a_p1))]
abbrev rm_X12_leaked : Room := { frames := 4, cells := 0, slots := 0, locals := 89 }
def m_X12_leaked (F_t : Nat → Int32) (a_p1 : Nat → Int32) (n_p1 : Nat) : Option (Int32 × (Nat → Int32)) :=
  bd (m_X12_shapes F_t a_p1 n_p1) fun u1 =>
  bd (m_X12_usedBlocks a_p1 n_p1) fun u2 =>
  some ((u2 &&& ((u1 20) ^^^ (-1))), u1)
set_option maxHeartbeats 4000000 in
set_option maxRecDepth 100000 in
theorem c_X12_leaked (l : Launch) (D : va_G) (cI : ClassId) (h_t : Nat) (h_p1 : Nat) (r_t : Nat → Nat) (F_t : Nat → Int32) (n_p1 : Nat) (a_p1 : Nat → Int32) (Rr : Int32 × (Nat → Int32)) (hf : m_X12_leaked F_t a_p1 n_p1 = some Rr) : CTi l yX12_leaked (Cond.code yX12_leaked cX12_leaked 2 (some .int)) rm_X12_leaked D cI [.ref h_t, .ref h_p1] (w_X12_leaked h_t h_p1 r_t F_t cI n_p1 a_p1) Rr.1 (w_X12_leaked h_t h_p1 r_t Rr.2 cI n_p1 a_p1) := by
  refine z_begin_i (own := RX12) (ρ := Int32 × (Nat → Int32)) (fun u => w_X12_leaked h_t h_p1 r_t u.2 cI n_p1 a_p1) (fun u => u.1) (by decide +kernel) rfl (Nat.le_of_ble_eq_true rfl) ?_
  intro p e s m args below meth c ls Q A hx hb hml hts hcx hown hK hX hA hP hD hS hl hret
  have hl : lv_has ls 2 [(0, .ref h_t), (1, .ref h_p1)] := hl
  have hf := (m_X12_leaked.eq_1 _ _ _).symm.trans hf
  refine lv_aload_n hx hb dX12_leaked_0 rfl (lv_at hl 0 rfl) ?_
  refine lv_aload_n hx hb dX12_leaked_1 rfl (lv_at hl 1 rfl) ?_
  obtain ⟨u1, hu1, hf⟩ := bd_some hf
  refine z_cv (ws1 := w_X12_leaked h_t h_p1 r_t u1 cI n_p1 a_p1) (wr := List.filterMap (fun i : Nat => (w_X12_leaked h_t h_p1 r_t F_t cI n_p1 a_p1)[i]?) []) (z_rV (rest := []) hx hb hml hown hcx hl.1 (c_X12_shapes l D cI h_t h_p1 r_t F_t n_p1 a_p1 u1 hu1 _) tl_X12_100 ti_X12_shapes tz_X12_shapes tn_X12 tc_X12_shapes tm_X12_shapes rfl rfl ⟨Nat.le_of_ble_eq_true rfl, Nat.le_of_ble_eq_true rfl⟩ hK hX hS hA hP hD [0, 1] rfl rfl 0 rfl rfl rfl rfl (Nat.le_of_ble_eq_true rfl) dX12_leaked_2 ⟨Nat.zero_le _, Nat.zero_le _⟩) hP hD hS hA [0, 1] [] [0, 1] rfl rfl rfl (by decide) rfl rfl (fun H locs hP hD hS => ?_)
  refine lv_aload_n hx hb dX12_leaked_5 rfl (lv_at hl 1 rfl) ?_
  obtain ⟨u2, hu2, hf⟩ := bd_some hf
  refine z_ci (ws1 := w_X12_leaked h_t h_p1 r_t u1 cI n_p1 a_p1) (wr := List.filterMap (fun i : Nat => (w_X12_leaked h_t h_p1 r_t u1 cI n_p1 a_p1)[i]?) [0]) (z_rS (rest := []) hx hb hml hown hcx hl.1 (c_X12_usedBlocks l D cI h_p1 n_p1 a_p1 u2 hu2 _) tl_X12_104 ts_X12_usedBlocks tn_X12 tc_X12_usedBlocks tm_X12_usedBlocks rfl rfl ⟨Nat.le_of_ble_eq_true rfl, Nat.le_of_ble_eq_true rfl⟩ hK hX hS hA hP hD [1] rfl rfl rfl rfl (Nat.le_of_ble_eq_true rfl) dX12_leaked_6 ⟨Nat.zero_le _, Nat.zero_le _⟩) hP hD hS hA [1] [0] [0, 1] rfl rfl rfl (by decide) rfl rfl (fun H locs hP hD hS => ?_)
  refine lv_aload_n hx hb dX12_leaked_9 rfl (lv_at hl 0 rfl) ?_
  refine z_get (ci := 12) (C := RX12) (T := TX12) (N := 51) (v := .int (u1 20)) hx hb hts inT_X12 hown hK hP 0 rfl rfl 20 (by decide) tf_X12_93 rfl dX12_leaked_10 ?_
  refine lv_iconst (v := (-1)) hx hb dX12_leaked_13 (by decide) ?_
  refine lv_ixor hx hb dX12_leaked_14 ?_
  refine lv_iand hx hb dX12_leaked_15 ?_
  exact hret ((u2 &&& ((u1 20) ^^^ (-1))), u1) _ _ _ _ hf hP hD hS dX12_leaked_16
abbrev w_X12_freeBlock (h_t : Nat) (r_t : Nat → Nat) (F_t : Nat → Int32) (cI : ClassId) (a_words : Nat → Int32) : va_W := [(h_t, .inr (12, o_X12 r_t F_t)), ((r_t 16), .inl (cI, 64, .inl a_words))]
abbrev rm_X12_freeBlock : Room := { frames := 1, cells := 0, slots := 0, locals := 20 }
def m_X12_freeBlock_j26 (a_words : Nat → Int32) (x1 : Int32) : Option (Int32) :=
  if 10 ≤ x1 then (
  some (-1))
  else (
  some x1)
def m_X12_freeBlock_w2 (a_words : Nat → Int32) (k26 : Int32 → Option (Int32)) : Nat → Int32 → Option (Int32)
  | 0, _ => none
  | n2 + 1, x1 =>
    if 10 ≤ x1 then (
    k26 x1)
    else (
    bd (m_X12_block x1) fun u1 =>
    rd a_words 64 u1 fun y2 =>
    if y2 = 0 then (
    k26 x1)
    else (
    nm (x1 + 1) fun v3 =>
    m_X12_freeBlock_w2 a_words k26 n2 v3))
def m_X12_freeBlock (a_words : Nat → Int32) : Option (Int32) :=
  m_X12_freeBlock_w2 a_words (m_X12_freeBlock_j26 a_words) fuelN 0
set_option maxHeartbeats 4000000 in
set_option maxRecDepth 100000 in
theorem c_X12_freeBlock (l : Launch) (D : va_G) (cI : ClassId) (h_t : Nat) (r_t : Nat → Nat) (F_t : Nat → Int32) (a_words : Nat → Int32) (Rr : Int32) (hf : m_X12_freeBlock a_words = some Rr) : CTi l yX12_freeBlock (Cond.code yX12_freeBlock cX12_freeBlock 2 (some .int)) rm_X12_freeBlock D cI [.ref h_t] (w_X12_freeBlock h_t r_t F_t cI a_words) Rr (w_X12_freeBlock h_t r_t F_t cI a_words) := by
  refine z_begin_i (own := RX12) (ρ := Int32) (fun u => w_X12_freeBlock h_t r_t F_t cI a_words) (fun u => u) (by decide +kernel) rfl (Nat.le_of_ble_eq_true rfl) ?_
  intro p e s m args below meth c ls Q A hx hb hml hts hcx hown hK hX hA hP hD hS hl hret
  have hl : lv_has ls 2 [(0, .ref h_t)] := hl
  have hf := (m_X12_freeBlock.eq_1 _).symm.trans hf
  have L26 : ∀ (x1 : Int32) (H : Heap) (locs : List Loc) (ls : Array Slot), m_X12_freeBlock_j26 a_words x1 = some Rr → va_P D vwCl (w_X12_freeBlock h_t r_t F_t cI a_words) H → va_D A (w_X12_freeBlock h_t r_t F_t cI a_words) → va_S A s.heap H locs → lv_has ls 2 [(1, .int x1)] → W p l e rm_X12_freeBlock s m args below meth c H locs 0 0 Q (F0 m 26 ls []) := by
    intro x1 H locs ls hf hP hD hS hl
    have hf := (m_X12_freeBlock_j26.eq_1 _ _).symm.trans hf
    refine lv_iload_n hx hb dX12_freeBlock_26 rfl (lv_at hl 0 rfl) ?_
    refine lv_bipush (v := 10) hx hb dX12_freeBlock_27 (by decide) ?_
    refine z_icmp_ge (tgt := 36) hx hb dX12_freeBlock_29 (by decide) hf (fun hf => ?_) (fun hf => ?_)
    · refine lv_iconst (v := (-1)) hx hb dX12_freeBlock_36 (by decide) ?_
      exact hret (-1) _ _ _ _ hf hP hD hS dX12_freeBlock_37
    · refine lv_iload_n hx hb dX12_freeBlock_32 rfl (lv_at hl 0 rfl) ?_
      refine lv_goto (tgt := 37) hx hb dX12_freeBlock_33 (by decide) ?_
      exact hret x1 _ _ _ _ hf hP hD hS dX12_freeBlock_37
  have L2 : ∀ (n2 : Nat) (x1 : Int32) (H : Heap) (locs : List Loc) (ls : Array Slot), m_X12_freeBlock_w2 a_words (m_X12_freeBlock_j26 a_words) n2 x1 = some Rr → va_P D vwCl (w_X12_freeBlock h_t r_t F_t cI a_words) H → va_D A (w_X12_freeBlock h_t r_t F_t cI a_words) → va_S A s.heap H locs → lv_has ls 2 [(0, .ref h_t), (1, .int x1)] → W p l e rm_X12_freeBlock s m args below meth c H locs 0 0 Q (F0 m 2 ls []) := by
    intro n2
    induction n2 with
    | zero => intro x1 H locs ls hf; cases (show (none : Option _) = some Rr from hf)
    | succ n2 ih2 =>
      intro x1 H locs ls hf hP hD hS hl
      have hf := (m_X12_freeBlock_w2.eq_2 _ _ _ _).symm.trans hf
      refine lv_iload_n hx hb dX12_freeBlock_2 rfl (lv_at hl 1 rfl) ?_
      refine lv_bipush (v := 10) hx hb dX12_freeBlock_3 (by decide) ?_
      refine z_icmp_ge (tgt := 26) hx hb dX12_freeBlock_5 (by decide) hf (fun hf => ?_) (fun hf => ?_)
      · exact L26 x1 _ _ _ hf hP hD hS (lv_sub hl [1] rfl)
      · refine lv_aload_n hx hb dX12_freeBlock_8 rfl (lv_at hl 0 rfl) ?_
        refine z_get (ci := 12) (C := RX12) (T := TX12) (N := 51) (v := .ref (r_t 16)) hx hb hts inT_X12 hown hK hP 0 rfl rfl 16 (by decide) tf_X12_30 rfl dX12_freeBlock_9 ?_
        refine lv_iload_n hx hb dX12_freeBlock_12 rfl (lv_at hl 1 rfl) ?_
        obtain ⟨u1, hu1, hf⟩ := bd_some hf
        refine z_ci (ws1 := w_X12_freeBlock h_t r_t F_t cI a_words) (wr := List.filterMap (fun i : Nat => (w_X12_freeBlock h_t r_t F_t cI a_words)[i]?) [0, 1]) (z_rS (rest := [.ref (r_t 16)]) hx hb hml hown hcx hl.1 (c_X12_block l D cI x1 u1 hu1 _) tl_X12_76 ts_X12_block tn_X12 tc_X12_block tm_X12_block rfl rfl ⟨Nat.le_of_ble_eq_true rfl, Nat.le_of_ble_eq_true rfl⟩ hK hX hS hA hP hD [] rfl rfl rfl rfl (Nat.le_of_ble_eq_true rfl) dX12_freeBlock_13 ⟨Nat.zero_le _, Nat.zero_le _⟩) hP hD hS hA [] [0, 1] [0, 1] rfl rfl rfl (by decide) rfl rfl (fun H locs hP hD hS => ?_)
        refine z_iald hx hb hK hP 1 rfl dX12_freeBlock_16 hf (fun y2 hf => ?_)
        refine z_if_eq (tgt := 26) hx hb dX12_freeBlock_17 (by decide) hf (fun hf => ?_) (fun hf => ?_)
        · exact L26 x1 _ _ _ hf hP hD hS (lv_sub hl [1] rfl)
        · refine z_iinc (k0 := 1) (fun z => [(1, .int z), (0, .ref h_t)]) hx hb dX12_freeBlock_20 hl rfl (by decide) (by decide) (fun _ => rfl) hf (fun v3 ls hf hl => ?_)
          refine lv_goto (tgt := 2) hx hb dX12_freeBlock_23 (by decide) ?_
          exact ih2 v3 _ _ _ hf hP hD hS (lv_sub hl [1, 0] rfl)
  refine lv_iconst (v := 0) hx hb dX12_freeBlock_0 (by decide) ?_
  refine lv_istore_n (lv' := [(1, .int 0), (0, .ref h_t)]) hx hb dX12_freeBlock_1 rfl hl (by decide) rfl (fun ls hl => ?_)
  exact L2 fuelN 0 _ _ _ hf hP hD hS (lv_sub hl [1, 0] rfl)
abbrev w_X12_isOp (h_t : Nat) (r_t : Nat → Nat) (F_t : Nat → Int32) (cI : ClassId) (a_words : Nat → Int32) (a_address : Nat → Int32) (a_number : Nat → Int32) : va_W := [(h_t, .inr (12, o_X12 r_t F_t)), ((r_t 16), .inl (cI, 64, .inl a_words)), ((r_t 17), .inl (cI, 64, .inl a_address)), ((r_t 18), .inl (cI, 64, .inl a_number))]
abbrev rm_X12_isOp : Room := { frames := 5, cells := 0, slots := 0, locals := 110 }
def m_X12_isOp_j103 (p1 : Int32) (p2 : Int32) (p3 : Int32) (s0 : Int32) (F_t : Nat → Int32) (a_words : Nat → Int32) (a_address : Nat → Int32) (a_number : Nat → Int32) : Option (Int32 × (Nat → Int32) × (Nat → Int32) × (Nat → Int32) × (Nat → Int32)) :=
  if s0 = (-1) then (
  some (0, F_t, a_words, a_address, a_number))
  else (
  bd (m_X12_block s0) fun u3 =>
  if p1 = 0 then (
  bd (m_X12_writes F_t a_words a_address a_number u3 1) fun u12 =>
  rd u12.2.1 64 (20 + p2) fun y13 =>
  bd (m_X12_writes u12.1 u12.2.1 u12.2.2.1 u12.2.2.2 (u3 + 1) y13) fun u14 =>
  bd (m_X12_writes u14.1 u14.2.1 u14.2.2.1 u14.2.2.2 (u3 + 2) p3) fun u15 =>
  bd (m_X12_writes u15.1 u15.2.1 u15.2.2.1 u15.2.2.2 (20 + p2) u3) fun u16 =>
  some (1, u16.1, u16.2.1, u16.2.2.1, u16.2.2.2))
  else (
  if p1 = 1 then (
  rd a_words 64 (u3 + 1) fun y9 =>
  bd (m_X12_writes F_t a_words a_address a_number (20 + p2) y9) fun u10 =>
  bd (m_X12_writes u10.1 u10.2.1 u10.2.2.1 u10.2.2.2 u3 0) fun u11 =>
  some (1, u11.1, u11.2.1, u11.2.2.1, u11.2.2.2))
  else (
  rd a_words 64 (u3 + 1) fun y4 =>
  bd (m_X12_writes F_t a_words a_address a_number (20 + p2) y4) fun u5 =>
  rd u5.2.1 64 (20 + p3) fun y6 =>
  bd (m_X12_writes u5.1 u5.2.1 u5.2.2.1 u5.2.2.2 (u3 + 1) y6) fun u7 =>
  bd (m_X12_writes u7.1 u7.2.1 u7.2.2.1 u7.2.2.2 (20 + p3) u3) fun u8 =>
  some (1, u8.1, u8.2.1, u8.2.2.1, u8.2.2.2))))
def m_X12_isOp_j65 (p1 : Int32) (p2 : Int32) (p3 : Int32) (x4 : Int32) (F_t : Nat → Int32) (a_words : Nat → Int32) (a_address : Nat → Int32) (a_number : Nat → Int32) : Option (Int32 × (Nat → Int32) × (Nat → Int32) × (Nat → Int32) × (Nat → Int32)) :=
  if x4 = 0 then (
  some (0, F_t, a_words, a_address, a_number))
  else (
  some (1, F_t, a_words, a_address, a_number))
def m_X12_isOp_j59 (p1 : Int32) (p2 : Int32) (p3 : Int32) (k31 : Int32 → Int32 → (Nat → Int32) → (Nat → Int32) → (Nat → Int32) → (Nat → Int32) → Option (Int32 × (Nat → Int32) × (Nat → Int32) × (Nat → Int32) × (Nat → Int32))) (x4 : Int32) (x5 : Int32) (F_t : Nat → Int32) (a_words : Nat → Int32) (a_address : Nat → Int32) (a_number : Nat → Int32) : Option (Int32 × (Nat → Int32) × (Nat → Int32) × (Nat → Int32) × (Nat → Int32)) :=
  nm (x5 + 1) fun v19 =>
  k31 x4 v19 F_t a_words a_address a_number
def m_X12_isOp_w31 (p1 : Int32) (p2 : Int32) (p3 : Int32) (k65 : Int32 → (Nat → Int32) → (Nat → Int32) → (Nat → Int32) → (Nat → Int32) → Option (Int32 × (Nat → Int32) × (Nat → Int32) × (Nat → Int32) × (Nat → Int32))) : Nat → Int32 → Int32 → (Nat → Int32) → (Nat → Int32) → (Nat → Int32) → (Nat → Int32) → Option (Int32 × (Nat → Int32) × (Nat → Int32) × (Nat → Int32) × (Nat → Int32))
  | 0, _, _, _, _, _, _ => none
  | n31 + 1, x4, x5, F_t, a_words, a_address, a_number =>
    if 10 ≤ x5 then (
    k65 x4 F_t a_words a_address a_number)
    else (
    if ((x4 >>> (x5 &&& 31)) &&& 1) = 1 then (
    bd (m_X12_block x5) fun u20 =>
    bd (m_X12_writes F_t a_words a_address a_number u20 0) fun u21 =>
    m_X12_isOp_j59 p1 p2 p3 (m_X12_isOp_w31 p1 p2 p3 k65 n31) x4 x5 u21.1 u21.2.1 u21.2.2.1 u21.2.2.2)
    else (
    m_X12_isOp_j59 p1 p2 p3 (m_X12_isOp_w31 p1 p2 p3 k65 n31) x4 x5 F_t a_words a_address a_number))
def m_X12_isOp (F_t : Nat → Int32) (a_words : Nat → Int32) (a_address : Nat → Int32) (a_number : Nat → Int32) (p1 : Int32) (p2 : Int32) (p3 : Int32) : Option (Int32 × (Nat → Int32) × (Nat → Int32) × (Nat → Int32) × (Nat → Int32)) :=
  if p1 = 3 then (
  bd (m_X12_writes F_t a_words a_address a_number p2 p3) fun u22 =>
  some (1, u22.1, u22.2.1, u22.2.2.1, u22.2.2.2))
  else (
  if p1 = 4 then (
  bd (m_X12_leaked F_t a_words 64) fun u18 =>
  m_X12_isOp_w31 p1 p2 p3 (m_X12_isOp_j65 p1 p2 p3) fuelN u18.1 0 u18.2 a_words a_address a_number)
  else (
  if p1 = 0 then (
  bd (m_X12_freeBlock a_words) fun u17 =>
  m_X12_isOp_j103 p1 p2 p3 u17 F_t a_words a_address a_number)
  else (
  rd a_words 64 (20 + p2) fun y1 =>
  bd (m_X12_usedAt a_words 64 y1) fun u2 =>
  m_X12_isOp_j103 p1 p2 p3 u2 F_t a_words a_address a_number)))
set_option maxHeartbeats 4000000 in
set_option maxRecDepth 100000 in
theorem c_X12_isOp (l : Launch) (D : va_G) (cI : ClassId) (h_t : Nat) (r_t : Nat → Nat) (F_t : Nat → Int32) (a_words : Nat → Int32) (a_address : Nat → Int32) (a_number : Nat → Int32) (p1 : Int32) (p2 : Int32) (p3 : Int32) (Rr : Int32 × (Nat → Int32) × (Nat → Int32) × (Nat → Int32) × (Nat → Int32)) (hf : m_X12_isOp F_t a_words a_address a_number p1 p2 p3 = some Rr) : CTi l yX12_isOp (Cond.code yX12_isOp cX12_isOp 6 (some .boolean)) rm_X12_isOp D cI [.ref h_t, .int p1, .int p2, .int p3] (w_X12_isOp h_t r_t F_t cI a_words a_address a_number) Rr.1 (w_X12_isOp h_t r_t Rr.2.1 cI Rr.2.2.1 Rr.2.2.2.1 Rr.2.2.2.2) := by
  refine z_begin_z (own := RX12) (ρ := Int32 × (Nat → Int32) × (Nat → Int32) × (Nat → Int32) × (Nat → Int32)) (fun u => w_X12_isOp h_t r_t u.2.1 cI u.2.2.1 u.2.2.2.1 u.2.2.2.2) (fun u => u.1) (by decide +kernel) rfl (Nat.le_of_ble_eq_true rfl) ?_
  intro p e s m args below meth c ls Q A hx hb hml hts hcx hown hK hX hA hP hD hS hl hret
  have hl : lv_has ls 6 [(0, .ref h_t), (1, .int p1), (2, .int p2), (3, .int p3)] := hl
  have hf := (m_X12_isOp.eq_1 _ _ _ _ _ _ _).symm.trans hf
  have L103 : ∀ (s0 : Int32) (F_t : Nat → Int32) (a_words : Nat → Int32) (a_address : Nat → Int32) (a_number : Nat → Int32) (H : Heap) (locs : List Loc) (ls : Array Slot), m_X12_isOp_j103 p1 p2 p3 s0 F_t a_words a_address a_number = some Rr → va_P D vwCl (w_X12_isOp h_t r_t F_t cI a_words a_address a_number) H → va_D A (w_X12_isOp h_t r_t F_t cI a_words a_address a_number) → va_S A s.heap H locs → lv_has ls 6 [(0, .ref h_t), (1, .int p1), (2, .int p2), (3, .int p3)] → W p l e rm_X12_isOp s m args below meth c H locs 0 0 Q (F0 m 103 ls [.int s0]) := by
    intro s0 F_t a_words a_address a_number H locs ls hf hP hD hS hl
    have hf := (m_X12_isOp_j103.eq_1 _ _ _ _ _ _ _ _).symm.trans hf
    refine lv_istore (lv' := [(4, .int s0), (0, .ref h_t), (1, .int p1), (2, .int p2), (3, .int p3)]) hx hb dX12_isOp_103 hl (by decide) rfl (fun ls hl => ?_)
    refine lv_iload hx hb dX12_isOp_105 (lv_at hl 0 rfl) ?_
    refine lv_iconst (v := (-1)) hx hb dX12_isOp_107 (by decide) ?_
    refine z_icmp_ne (tgt := 113) hx hb dX12_isOp_108 (by decide) hf (fun hf => ?_) (fun hf => ?_)
    · refine lv_iload hx hb dX12_isOp_113 (lv_at hl 0 rfl) ?_
      obtain ⟨u3, hu3, hf⟩ := bd_some hf
      refine z_ci (ws1 := w_X12_isOp h_t r_t F_t cI a_words a_address a_number) (wr := List.filterMap (fun i : Nat => (w_X12_isOp h_t r_t F_t cI a_words a_address a_number)[i]?) [0, 1, 2, 3]) (z_rS (rest := []) hx hb hml hown hcx hl.1 (c_X12_block l D cI s0 u3 hu3 _) tl_X12_76 ts_X12_block tn_X12 tc_X12_block tm_X12_block rfl rfl ⟨Nat.le_of_ble_eq_true rfl, Nat.le_of_ble_eq_true rfl⟩ hK hX hS hA hP hD [] rfl rfl rfl rfl (Nat.le_of_ble_eq_true rfl) dX12_isOp_115 ⟨Nat.zero_le _, Nat.zero_le _⟩) hP hD hS hA [] [0, 1, 2, 3] [0, 1, 2, 3] rfl rfl rfl (by decide) rfl rfl (fun H locs hP hD hS => ?_)
      refine lv_istore (lv' := [(5, .int u3), (4, .int s0), (0, .ref h_t), (1, .int p1), (2, .int p2), (3, .int p3)]) hx hb dX12_isOp_118 hl (by decide) rfl (fun ls hl => ?_)
      refine lv_iload_n hx hb dX12_isOp_120 rfl (lv_at hl 3 rfl) ?_
      refine z_if_ne (tgt := 170) hx hb dX12_isOp_121 (by decide) hf (fun hf => ?_) (fun hf => ?_)
      · refine lv_iload_n hx hb dX12_isOp_170 rfl (lv_at hl 3 rfl) ?_
        refine lv_iconst (v := 1) hx hb dX12_isOp_171 (by decide) ?_
        refine z_icmp_ne (tgt := 202) hx hb dX12_isOp_172 (by decide) hf (fun hf => ?_) (fun hf => ?_)
        · refine lv_aload_n hx hb dX12_isOp_202 rfl (lv_at hl 2 rfl) ?_
          refine lv_bipush (v := 20) hx hb dX12_isOp_203 (by decide) ?_
          refine lv_iload_n hx hb dX12_isOp_205 rfl (lv_at hl 4 rfl) ?_
          refine lv_iadd hx hb dX12_isOp_206 ?_
          refine lv_aload_n hx hb dX12_isOp_207 rfl (lv_at hl 2 rfl) ?_
          refine z_get (ci := 12) (C := RX12) (T := TX12) (N := 51) (v := .ref (r_t 16)) hx hb hts inT_X12 hown hK hP 0 rfl rfl 16 (by decide) tf_X12_30 rfl dX12_isOp_208 ?_
          refine lv_iload hx hb dX12_isOp_211 (lv_at hl 0 rfl) ?_
          refine lv_iconst (v := 1) hx hb dX12_isOp_213 (by decide) ?_
          refine lv_iadd hx hb dX12_isOp_214 ?_
          refine z_iald hx hb hK hP 1 rfl dX12_isOp_215 hf (fun y4 hf => ?_)
          obtain ⟨u5, hu5, hf⟩ := bd_some hf
          refine z_cv (ws1 := w_X12_isOp h_t r_t u5.1 cI u5.2.1 u5.2.2.1 u5.2.2.2) (wr := List.filterMap (fun i : Nat => (w_X12_isOp h_t r_t F_t cI a_words a_address a_number)[i]?) []) (z_rV (rest := []) hx hb hml hown hcx hl.1 (c_X12_writes l D cI h_t r_t F_t a_words a_address a_number (20 + p2) y4 u5 hu5 _) tl_X12_108 ti_X12_writes tz_X12_writes tn_X12 tc_X12_writes tm_X12_writes rfl rfl ⟨Nat.le_of_ble_eq_true rfl, Nat.le_of_ble_eq_true rfl⟩ hK hX hS hA hP hD [0, 1, 2, 3] rfl rfl 0 rfl rfl rfl rfl (Nat.le_of_ble_eq_true rfl) dX12_isOp_216 ⟨Nat.zero_le _, Nat.zero_le _⟩) hP hD hS hA [0, 1, 2, 3] [] [0, 1, 2, 3] rfl rfl rfl (by decide) rfl rfl (fun H locs hP hD hS => ?_)
          refine lv_aload_n hx hb dX12_isOp_219 rfl (lv_at hl 2 rfl) ?_
          refine lv_iload hx hb dX12_isOp_220 (lv_at hl 0 rfl) ?_
          refine lv_iconst (v := 1) hx hb dX12_isOp_222 (by decide) ?_
          refine lv_iadd hx hb dX12_isOp_223 ?_
          refine lv_aload_n hx hb dX12_isOp_224 rfl (lv_at hl 2 rfl) ?_
          refine z_get (ci := 12) (C := RX12) (T := TX12) (N := 51) (v := .ref (r_t 16)) hx hb hts inT_X12 hown hK hP 0 rfl rfl 16 (by decide) tf_X12_30 rfl dX12_isOp_225 ?_
          refine lv_bipush (v := 20) hx hb dX12_isOp_228 (by decide) ?_
          refine lv_iload_n hx hb dX12_isOp_230 rfl (lv_at hl 5 rfl) ?_
          refine lv_iadd hx hb dX12_isOp_231 ?_
          refine z_iald hx hb hK hP 1 rfl dX12_isOp_232 hf (fun y6 hf => ?_)
          obtain ⟨u7, hu7, hf⟩ := bd_some hf
          refine z_cv (ws1 := w_X12_isOp h_t r_t u7.1 cI u7.2.1 u7.2.2.1 u7.2.2.2) (wr := List.filterMap (fun i : Nat => (w_X12_isOp h_t r_t u5.1 cI u5.2.1 u5.2.2.1 u5.2.2.2)[i]?) []) (z_rV (rest := []) hx hb hml hown hcx hl.1 (c_X12_writes l D cI h_t r_t u5.1 u5.2.1 u5.2.2.1 u5.2.2.2 (u3 + 1) y6 u7 hu7 _) tl_X12_108 ti_X12_writes tz_X12_writes tn_X12 tc_X12_writes tm_X12_writes rfl rfl ⟨Nat.le_of_ble_eq_true rfl, Nat.le_of_ble_eq_true rfl⟩ hK hX hS hA hP hD [0, 1, 2, 3] rfl rfl 0 rfl rfl rfl rfl (Nat.le_of_ble_eq_true rfl) dX12_isOp_233 ⟨Nat.zero_le _, Nat.zero_le _⟩) hP hD hS hA [0, 1, 2, 3] [] [0, 1, 2, 3] rfl rfl rfl (by decide) rfl rfl (fun H locs hP hD hS => ?_)
          refine lv_aload_n hx hb dX12_isOp_236 rfl (lv_at hl 2 rfl) ?_
          refine lv_bipush (v := 20) hx hb dX12_isOp_237 (by decide) ?_
          refine lv_iload_n hx hb dX12_isOp_239 rfl (lv_at hl 5 rfl) ?_
          refine lv_iadd hx hb dX12_isOp_240 ?_
          refine lv_iload hx hb dX12_isOp_241 (lv_at hl 0 rfl) ?_
          obtain ⟨u8, hu8, hf⟩ := bd_some hf
          refine z_cv (ws1 := w_X12_isOp h_t r_t u8.1 cI u8.2.1 u8.2.2.1 u8.2.2.2) (wr := List.filterMap (fun i : Nat => (w_X12_isOp h_t r_t u7.1 cI u7.2.1 u7.2.2.1 u7.2.2.2)[i]?) []) (z_rV (rest := []) hx hb hml hown hcx hl.1 (c_X12_writes l D cI h_t r_t u7.1 u7.2.1 u7.2.2.1 u7.2.2.2 (20 + p3) u3 u8 hu8 _) tl_X12_108 ti_X12_writes tz_X12_writes tn_X12 tc_X12_writes tm_X12_writes rfl rfl ⟨Nat.le_of_ble_eq_true rfl, Nat.le_of_ble_eq_true rfl⟩ hK hX hS hA hP hD [0, 1, 2, 3] rfl rfl 0 rfl rfl rfl rfl (Nat.le_of_ble_eq_true rfl) dX12_isOp_243 ⟨Nat.zero_le _, Nat.zero_le _⟩) hP hD hS hA [0, 1, 2, 3] [] [0, 1, 2, 3] rfl rfl rfl (by decide) rfl rfl (fun H locs hP hD hS => ?_)
          refine lv_iconst (v := 1) hx hb dX12_isOp_246 (by decide) ?_
          exact hret (1, u8.1, u8.2.1, u8.2.2.1, u8.2.2.2) _ _ _ _ (Or.inr rfl) hf hP hD hS dX12_isOp_247
        · refine lv_aload_n hx hb dX12_isOp_175 rfl (lv_at hl 2 rfl) ?_
          refine lv_bipush (v := 20) hx hb dX12_isOp_176 (by decide) ?_
          refine lv_iload_n hx hb dX12_isOp_178 rfl (lv_at hl 4 rfl) ?_
          refine lv_iadd hx hb dX12_isOp_179 ?_
          refine lv_aload_n hx hb dX12_isOp_180 rfl (lv_at hl 2 rfl) ?_
          refine z_get (ci := 12) (C := RX12) (T := TX12) (N := 51) (v := .ref (r_t 16)) hx hb hts inT_X12 hown hK hP 0 rfl rfl 16 (by decide) tf_X12_30 rfl dX12_isOp_181 ?_
          refine lv_iload hx hb dX12_isOp_184 (lv_at hl 0 rfl) ?_
          refine lv_iconst (v := 1) hx hb dX12_isOp_186 (by decide) ?_
          refine lv_iadd hx hb dX12_isOp_187 ?_
          refine z_iald hx hb hK hP 1 rfl dX12_isOp_188 hf (fun y9 hf => ?_)
          obtain ⟨u10, hu10, hf⟩ := bd_some hf
          refine z_cv (ws1 := w_X12_isOp h_t r_t u10.1 cI u10.2.1 u10.2.2.1 u10.2.2.2) (wr := List.filterMap (fun i : Nat => (w_X12_isOp h_t r_t F_t cI a_words a_address a_number)[i]?) []) (z_rV (rest := []) hx hb hml hown hcx hl.1 (c_X12_writes l D cI h_t r_t F_t a_words a_address a_number (20 + p2) y9 u10 hu10 _) tl_X12_108 ti_X12_writes tz_X12_writes tn_X12 tc_X12_writes tm_X12_writes rfl rfl ⟨Nat.le_of_ble_eq_true rfl, Nat.le_of_ble_eq_true rfl⟩ hK hX hS hA hP hD [0, 1, 2, 3] rfl rfl 0 rfl rfl rfl rfl (Nat.le_of_ble_eq_true rfl) dX12_isOp_189 ⟨Nat.zero_le _, Nat.zero_le _⟩) hP hD hS hA [0, 1, 2, 3] [] [0, 1, 2, 3] rfl rfl rfl (by decide) rfl rfl (fun H locs hP hD hS => ?_)
          refine lv_aload_n hx hb dX12_isOp_192 rfl (lv_at hl 2 rfl) ?_
          refine lv_iload hx hb dX12_isOp_193 (lv_at hl 0 rfl) ?_
          refine lv_iconst (v := 0) hx hb dX12_isOp_195 (by decide) ?_
          obtain ⟨u11, hu11, hf⟩ := bd_some hf
          refine z_cv (ws1 := w_X12_isOp h_t r_t u11.1 cI u11.2.1 u11.2.2.1 u11.2.2.2) (wr := List.filterMap (fun i : Nat => (w_X12_isOp h_t r_t u10.1 cI u10.2.1 u10.2.2.1 u10.2.2.2)[i]?) []) (z_rV (rest := []) hx hb hml hown hcx hl.1 (c_X12_writes l D cI h_t r_t u10.1 u10.2.1 u10.2.2.1 u10.2.2.2 u3 0 u11 hu11 _) tl_X12_108 ti_X12_writes tz_X12_writes tn_X12 tc_X12_writes tm_X12_writes rfl rfl ⟨Nat.le_of_ble_eq_true rfl, Nat.le_of_ble_eq_true rfl⟩ hK hX hS hA hP hD [0, 1, 2, 3] rfl rfl 0 rfl rfl rfl rfl (Nat.le_of_ble_eq_true rfl) dX12_isOp_196 ⟨Nat.zero_le _, Nat.zero_le _⟩) hP hD hS hA [0, 1, 2, 3] [] [0, 1, 2, 3] rfl rfl rfl (by decide) rfl rfl (fun H locs hP hD hS => ?_)
          refine lv_goto (tgt := 246) hx hb dX12_isOp_199 (by decide) ?_
          refine lv_iconst (v := 1) hx hb dX12_isOp_246 (by decide) ?_
          exact hret (1, u11.1, u11.2.1, u11.2.2.1, u11.2.2.2) _ _ _ _ (Or.inr rfl) hf hP hD hS dX12_isOp_247
      · refine lv_aload_n hx hb dX12_isOp_124 rfl (lv_at hl 2 rfl) ?_
        refine lv_iload hx hb dX12_isOp_125 (lv_at hl 0 rfl) ?_
        refine lv_iconst (v := 1) hx hb dX12_isOp_127 (by decide) ?_
        obtain ⟨u12, hu12, hf⟩ := bd_some hf
        refine z_cv (ws1 := w_X12_isOp h_t r_t u12.1 cI u12.2.1 u12.2.2.1 u12.2.2.2) (wr := List.filterMap (fun i : Nat => (w_X12_isOp h_t r_t F_t cI a_words a_address a_number)[i]?) []) (z_rV (rest := []) hx hb hml hown hcx hl.1 (c_X12_writes l D cI h_t r_t F_t a_words a_address a_number u3 1 u12 hu12 _) tl_X12_108 ti_X12_writes tz_X12_writes tn_X12 tc_X12_writes tm_X12_writes rfl rfl ⟨Nat.le_of_ble_eq_true rfl, Nat.le_of_ble_eq_true rfl⟩ hK hX hS hA hP hD [0, 1, 2, 3] rfl rfl 0 rfl rfl rfl rfl (Nat.le_of_ble_eq_true rfl) dX12_isOp_128 ⟨Nat.zero_le _, Nat.zero_le _⟩) hP hD hS hA [0, 1, 2, 3] [] [0, 1, 2, 3] rfl rfl rfl (by decide) rfl rfl (fun H locs hP hD hS => ?_)
        refine lv_aload_n hx hb dX12_isOp_131 rfl (lv_at hl 2 rfl) ?_
        refine lv_iload hx hb dX12_isOp_132 (lv_at hl 0 rfl) ?_
        refine lv_iconst (v := 1) hx hb dX12_isOp_134 (by decide) ?_
        refine lv_iadd hx hb dX12_isOp_135 ?_
        refine lv_aload_n hx hb dX12_isOp_136 rfl (lv_at hl 2 rfl) ?_
        refine z_get (ci := 12) (C := RX12) (T := TX12) (N := 51) (v := .ref (r_t 16)) hx hb hts inT_X12 hown hK hP 0 rfl rfl 16 (by decide) tf_X12_30 rfl dX12_isOp_137 ?_
        refine lv_bipush (v := 20) hx hb dX12_isOp_140 (by decide) ?_
        refine lv_iload_n hx hb dX12_isOp_142 rfl (lv_at hl 4 rfl) ?_
        refine lv_iadd hx hb dX12_isOp_143 ?_
        refine z_iald hx hb hK hP 1 rfl dX12_isOp_144 hf (fun y13 hf => ?_)
        obtain ⟨u14, hu14, hf⟩ := bd_some hf
        refine z_cv (ws1 := w_X12_isOp h_t r_t u14.1 cI u14.2.1 u14.2.2.1 u14.2.2.2) (wr := List.filterMap (fun i : Nat => (w_X12_isOp h_t r_t u12.1 cI u12.2.1 u12.2.2.1 u12.2.2.2)[i]?) []) (z_rV (rest := []) hx hb hml hown hcx hl.1 (c_X12_writes l D cI h_t r_t u12.1 u12.2.1 u12.2.2.1 u12.2.2.2 (u3 + 1) y13 u14 hu14 _) tl_X12_108 ti_X12_writes tz_X12_writes tn_X12 tc_X12_writes tm_X12_writes rfl rfl ⟨Nat.le_of_ble_eq_true rfl, Nat.le_of_ble_eq_true rfl⟩ hK hX hS hA hP hD [0, 1, 2, 3] rfl rfl 0 rfl rfl rfl rfl (Nat.le_of_ble_eq_true rfl) dX12_isOp_145 ⟨Nat.zero_le _, Nat.zero_le _⟩) hP hD hS hA [0, 1, 2, 3] [] [0, 1, 2, 3] rfl rfl rfl (by decide) rfl rfl (fun H locs hP hD hS => ?_)
        refine lv_aload_n hx hb dX12_isOp_148 rfl (lv_at hl 2 rfl) ?_
        refine lv_iload hx hb dX12_isOp_149 (lv_at hl 0 rfl) ?_
        refine lv_iconst (v := 2) hx hb dX12_isOp_151 (by decide) ?_
        refine lv_iadd hx hb dX12_isOp_152 ?_
        refine lv_iload_n hx hb dX12_isOp_153 rfl (lv_at hl 5 rfl) ?_
        obtain ⟨u15, hu15, hf⟩ := bd_some hf
        refine z_cv (ws1 := w_X12_isOp h_t r_t u15.1 cI u15.2.1 u15.2.2.1 u15.2.2.2) (wr := List.filterMap (fun i : Nat => (w_X12_isOp h_t r_t u14.1 cI u14.2.1 u14.2.2.1 u14.2.2.2)[i]?) []) (z_rV (rest := []) hx hb hml hown hcx hl.1 (c_X12_writes l D cI h_t r_t u14.1 u14.2.1 u14.2.2.1 u14.2.2.2 (u3 + 2) p3 u15 hu15 _) tl_X12_108 ti_X12_writes tz_X12_writes tn_X12 tc_X12_writes tm_X12_writes rfl rfl ⟨Nat.le_of_ble_eq_true rfl, Nat.le_of_ble_eq_true rfl⟩ hK hX hS hA hP hD [0, 1, 2, 3] rfl rfl 0 rfl rfl rfl rfl (Nat.le_of_ble_eq_true rfl) dX12_isOp_154 ⟨Nat.zero_le _, Nat.zero_le _⟩) hP hD hS hA [0, 1, 2, 3] [] [0, 1, 2, 3] rfl rfl rfl (by decide) rfl rfl (fun H locs hP hD hS => ?_)
        refine lv_aload_n hx hb dX12_isOp_157 rfl (lv_at hl 2 rfl) ?_
        refine lv_bipush (v := 20) hx hb dX12_isOp_158 (by decide) ?_
        refine lv_iload_n hx hb dX12_isOp_160 rfl (lv_at hl 4 rfl) ?_
        refine lv_iadd hx hb dX12_isOp_161 ?_
        refine lv_iload hx hb dX12_isOp_162 (lv_at hl 0 rfl) ?_
        obtain ⟨u16, hu16, hf⟩ := bd_some hf
        refine z_cv (ws1 := w_X12_isOp h_t r_t u16.1 cI u16.2.1 u16.2.2.1 u16.2.2.2) (wr := List.filterMap (fun i : Nat => (w_X12_isOp h_t r_t u15.1 cI u15.2.1 u15.2.2.1 u15.2.2.2)[i]?) []) (z_rV (rest := []) hx hb hml hown hcx hl.1 (c_X12_writes l D cI h_t r_t u15.1 u15.2.1 u15.2.2.1 u15.2.2.2 (20 + p2) u3 u16 hu16 _) tl_X12_108 ti_X12_writes tz_X12_writes tn_X12 tc_X12_writes tm_X12_writes rfl rfl ⟨Nat.le_of_ble_eq_true rfl, Nat.le_of_ble_eq_true rfl⟩ hK hX hS hA hP hD [0, 1, 2, 3] rfl rfl 0 rfl rfl rfl rfl (Nat.le_of_ble_eq_true rfl) dX12_isOp_164 ⟨Nat.zero_le _, Nat.zero_le _⟩) hP hD hS hA [0, 1, 2, 3] [] [0, 1, 2, 3] rfl rfl rfl (by decide) rfl rfl (fun H locs hP hD hS => ?_)
        refine lv_goto (tgt := 246) hx hb dX12_isOp_167 (by decide) ?_
        refine lv_iconst (v := 1) hx hb dX12_isOp_246 (by decide) ?_
        exact hret (1, u16.1, u16.2.1, u16.2.2.1, u16.2.2.2) _ _ _ _ (Or.inr rfl) hf hP hD hS dX12_isOp_247
    · refine lv_iconst (v := 0) hx hb dX12_isOp_111 (by decide) ?_
      exact hret (0, F_t, a_words, a_address, a_number) _ _ _ _ (Or.inl rfl) hf hP hD hS dX12_isOp_112
  have L65 : ∀ (x4 : Int32) (F_t : Nat → Int32) (a_words : Nat → Int32) (a_address : Nat → Int32) (a_number : Nat → Int32) (H : Heap) (locs : List Loc) (ls : Array Slot), m_X12_isOp_j65 p1 p2 p3 x4 F_t a_words a_address a_number = some Rr → va_P D vwCl (w_X12_isOp h_t r_t F_t cI a_words a_address a_number) H → va_D A (w_X12_isOp h_t r_t F_t cI a_words a_address a_number) → va_S A s.heap H locs → lv_has ls 6 [(4, .int x4)] → W p l e rm_X12_isOp s m args below meth c H locs 0 0 Q (F0 m 65 ls []) := by
    intro x4 F_t a_words a_address a_number H locs ls hf hP hD hS hl
    have hf := (m_X12_isOp_j65.eq_1 _ _ _ _ _ _ _ _).symm.trans hf
    refine lv_iload hx hb dX12_isOp_65 (lv_at hl 0 rfl) ?_
    refine z_if_eq (tgt := 74) hx hb dX12_isOp_67 (by decide) hf (fun hf => ?_) (fun hf => ?_)
    · refine lv_iconst (v := 0) hx hb dX12_isOp_74 (by decide) ?_
      exact hret (0, F_t, a_words, a_address, a_number) _ _ _ _ (Or.inl rfl) hf hP hD hS dX12_isOp_75
    · refine lv_iconst (v := 1) hx hb dX12_isOp_70 (by decide) ?_
      refine lv_goto (tgt := 75) hx hb dX12_isOp_71 (by decide) ?_
      exact hret (1, F_t, a_words, a_address, a_number) _ _ _ _ (Or.inr rfl) hf hP hD hS dX12_isOp_75
  have L31 : ∀ (n31 : Nat) (x4 : Int32) (x5 : Int32) (F_t : Nat → Int32) (a_words : Nat → Int32) (a_address : Nat → Int32) (a_number : Nat → Int32) (H : Heap) (locs : List Loc) (ls : Array Slot), m_X12_isOp_w31 p1 p2 p3 (m_X12_isOp_j65 p1 p2 p3) n31 x4 x5 F_t a_words a_address a_number = some Rr → va_P D vwCl (w_X12_isOp h_t r_t F_t cI a_words a_address a_number) H → va_D A (w_X12_isOp h_t r_t F_t cI a_words a_address a_number) → va_S A s.heap H locs → lv_has ls 6 [(0, .ref h_t), (4, .int x4), (5, .int x5)] → W p l e rm_X12_isOp s m args below meth c H locs 0 0 Q (F0 m 31 ls []) := by
    intro n31
    induction n31 with
    | zero => intro x4 x5 F_t a_words a_address a_number H locs ls hf; cases (show (none : Option _) = some Rr from hf)
    | succ n31 ih31 =>
      intro x4 x5 F_t a_words a_address a_number H locs ls hf hP hD hS hl
      have hf := (m_X12_isOp_w31.eq_2 _ _ _ _ _ _ _ _ _ _ _).symm.trans hf
      have L59 : ∀ (x4 : Int32) (x5 : Int32) (F_t : Nat → Int32) (a_words : Nat → Int32) (a_address : Nat → Int32) (a_number : Nat → Int32) (H : Heap) (locs : List Loc) (ls : Array Slot), m_X12_isOp_j59 p1 p2 p3 (m_X12_isOp_w31 p1 p2 p3 (m_X12_isOp_j65 p1 p2 p3) n31) x4 x5 F_t a_words a_address a_number = some Rr → va_P D vwCl (w_X12_isOp h_t r_t F_t cI a_words a_address a_number) H → va_D A (w_X12_isOp h_t r_t F_t cI a_words a_address a_number) → va_S A s.heap H locs → lv_has ls 6 [(0, .ref h_t), (4, .int x4), (5, .int x5)] → W p l e rm_X12_isOp s m args below meth c H locs 0 0 Q (F0 m 59 ls []) := by
        intro x4 x5 F_t a_words a_address a_number H locs ls hf hP hD hS hl
        have hf := (m_X12_isOp_j59.eq_1 _ _ _ _ _ _ _ _ _ _).symm.trans hf
        refine z_iinc (k0 := 2) (fun z => [(5, .int z), (0, .ref h_t), (4, .int x4)]) hx hb dX12_isOp_59 hl rfl (by decide) (by decide) (fun _ => rfl) hf (fun v19 ls hf hl => ?_)
        refine lv_goto (tgt := 31) hx hb dX12_isOp_62 (by decide) ?_
        exact ih31 x4 v19 F_t a_words a_address a_number _ _ _ hf hP hD hS (lv_sub hl [1, 2, 0] rfl)
      refine lv_iload hx hb dX12_isOp_31 (lv_at hl 2 rfl) ?_
      refine lv_bipush (v := 10) hx hb dX12_isOp_33 (by decide) ?_
      refine z_icmp_ge (tgt := 65) hx hb dX12_isOp_35 (by decide) hf (fun hf => ?_) (fun hf => ?_)
      · exact L65 x4 F_t a_words a_address a_number _ _ _ hf hP hD hS (lv_sub hl [1] rfl)
      · refine lv_iload hx hb dX12_isOp_38 (lv_at hl 1 rfl) ?_
        refine lv_iload hx hb dX12_isOp_40 (lv_at hl 2 rfl) ?_
        refine lv_ishr hx hb dX12_isOp_42 ?_
        refine lv_iconst (v := 1) hx hb dX12_isOp_43 (by decide) ?_
        refine lv_iand hx hb dX12_isOp_44 ?_
        refine lv_iconst (v := 1) hx hb dX12_isOp_45 (by decide) ?_
        refine z_icmp_ne (tgt := 59) hx hb dX12_isOp_46 (by decide) hf (fun hf => ?_) (fun hf => ?_)
        · exact L59 x4 x5 F_t a_words a_address a_number _ _ _ hf hP hD hS (lv_sub hl [0, 1, 2] rfl)
        · refine lv_aload_n hx hb dX12_isOp_49 rfl (lv_at hl 0 rfl) ?_
          refine lv_iload hx hb dX12_isOp_50 (lv_at hl 2 rfl) ?_
          obtain ⟨u20, hu20, hf⟩ := bd_some hf
          refine z_ci (ws1 := w_X12_isOp h_t r_t F_t cI a_words a_address a_number) (wr := List.filterMap (fun i : Nat => (w_X12_isOp h_t r_t F_t cI a_words a_address a_number)[i]?) [0, 1, 2, 3]) (z_rS (rest := [.ref h_t]) hx hb hml hown hcx hl.1 (c_X12_block l D cI x5 u20 hu20 _) tl_X12_76 ts_X12_block tn_X12 tc_X12_block tm_X12_block rfl rfl ⟨Nat.le_of_ble_eq_true rfl, Nat.le_of_ble_eq_true rfl⟩ hK hX hS hA hP hD [] rfl rfl rfl rfl (Nat.le_of_ble_eq_true rfl) dX12_isOp_52 ⟨Nat.zero_le _, Nat.zero_le _⟩) hP hD hS hA [] [0, 1, 2, 3] [0, 1, 2, 3] rfl rfl rfl (by decide) rfl rfl (fun H locs hP hD hS => ?_)
          refine lv_iconst (v := 0) hx hb dX12_isOp_55 (by decide) ?_
          obtain ⟨u21, hu21, hf⟩ := bd_some hf
          refine z_cv (ws1 := w_X12_isOp h_t r_t u21.1 cI u21.2.1 u21.2.2.1 u21.2.2.2) (wr := List.filterMap (fun i : Nat => (w_X12_isOp h_t r_t F_t cI a_words a_address a_number)[i]?) []) (z_rV (rest := []) hx hb hml hown hcx hl.1 (c_X12_writes l D cI h_t r_t F_t a_words a_address a_number u20 0 u21 hu21 _) tl_X12_108 ti_X12_writes tz_X12_writes tn_X12 tc_X12_writes tm_X12_writes rfl rfl ⟨Nat.le_of_ble_eq_true rfl, Nat.le_of_ble_eq_true rfl⟩ hK hX hS hA hP hD [0, 1, 2, 3] rfl rfl 0 rfl rfl rfl rfl (Nat.le_of_ble_eq_true rfl) dX12_isOp_56 ⟨Nat.zero_le _, Nat.zero_le _⟩) hP hD hS hA [0, 1, 2, 3] [] [0, 1, 2, 3] rfl rfl rfl (by decide) rfl rfl (fun H locs hP hD hS => ?_)
          exact L59 x4 x5 u21.1 u21.2.1 u21.2.2.1 u21.2.2.2 _ _ _ hf hP hD hS (lv_sub hl [0, 1, 2] rfl)
  refine lv_iload_n hx hb dX12_isOp_0 rfl (lv_at hl 1 rfl) ?_
  refine lv_iconst (v := 3) hx hb dX12_isOp_1 (by decide) ?_
  refine z_icmp_ne (tgt := 13) hx hb dX12_isOp_2 (by decide) hf (fun hf => ?_) (fun hf => ?_)
  · refine lv_iload_n hx hb dX12_isOp_13 rfl (lv_at hl 1 rfl) ?_
    refine lv_iconst (v := 4) hx hb dX12_isOp_14 (by decide) ?_
    refine z_icmp_ne (tgt := 76) hx hb dX12_isOp_15 (by decide) hf (fun hf => ?_) (fun hf => ?_)
    · refine lv_iload_n hx hb dX12_isOp_76 rfl (lv_at hl 1 rfl) ?_
      refine z_if_ne (tgt := 87) hx hb dX12_isOp_77 (by decide) hf (fun hf => ?_) (fun hf => ?_)
      · refine lv_aload_n hx hb dX12_isOp_87 rfl (lv_at hl 0 rfl) ?_
        refine z_get (ci := 12) (C := RX12) (T := TX12) (N := 51) (v := .ref (r_t 16)) hx hb hts inT_X12 hown hK hP 0 rfl rfl 16 (by decide) tf_X12_30 rfl dX12_isOp_88 ?_
        refine lv_aload_n hx hb dX12_isOp_91 rfl (lv_at hl 0 rfl) ?_
        refine z_get (ci := 12) (C := RX12) (T := TX12) (N := 51) (v := .ref (r_t 16)) hx hb hts inT_X12 hown hK hP 0 rfl rfl 16 (by decide) tf_X12_30 rfl dX12_isOp_92 ?_
        refine lv_bipush (v := 20) hx hb dX12_isOp_95 (by decide) ?_
        refine lv_iload_n hx hb dX12_isOp_97 rfl (lv_at hl 2 rfl) ?_
        refine lv_iadd hx hb dX12_isOp_98 ?_
        refine z_iald hx hb hK hP 1 rfl dX12_isOp_99 hf (fun y1 hf => ?_)
        obtain ⟨u2, hu2, hf⟩ := bd_some hf
        refine z_ci (ws1 := w_X12_isOp h_t r_t F_t cI a_words a_address a_number) (wr := List.filterMap (fun i : Nat => (w_X12_isOp h_t r_t F_t cI a_words a_address a_number)[i]?) [0, 2, 3]) (z_rS (rest := []) hx hb hml hown hcx hl.1 (c_X12_usedAt l D cI (r_t 16) 64 a_words y1 u2 hu2 _) tl_X12_96 ts_X12_usedAt tn_X12 tc_X12_usedAt tm_X12_usedAt rfl rfl ⟨Nat.le_of_ble_eq_true rfl, Nat.le_of_ble_eq_true rfl⟩ hK hX hS hA hP hD [1] rfl rfl rfl rfl (Nat.le_of_ble_eq_true rfl) dX12_isOp_100 ⟨Nat.zero_le _, Nat.zero_le _⟩) hP hD hS hA [1] [0, 2, 3] [0, 3, 1, 2] rfl rfl rfl (by decide) rfl rfl (fun H locs hP hD hS => ?_)
        exact L103 u2 F_t a_words a_address a_number _ _ _ hf hP hD hS (lv_sub hl [0, 1, 2, 3] rfl)
      · refine lv_aload_n hx hb dX12_isOp_80 rfl (lv_at hl 0 rfl) ?_
        obtain ⟨u17, hu17, hf⟩ := bd_some hf
        refine z_ci (ws1 := w_X12_isOp h_t r_t F_t cI a_words a_address a_number) (wr := List.filterMap (fun i : Nat => (w_X12_isOp h_t r_t F_t cI a_words a_address a_number)[i]?) [2, 3]) (z_rV (rest := []) hx hb hml hown hcx hl.1 (c_X12_freeBlock l D cI h_t r_t F_t a_words u17 hu17 _) tl_X12_114 ti_X12_freeBlock tz_X12_freeBlock tn_X12 tc_X12_freeBlock tm_X12_freeBlock rfl rfl ⟨Nat.le_of_ble_eq_true rfl, Nat.le_of_ble_eq_true rfl⟩ hK hX hS hA hP hD [0, 1] rfl rfl 0 rfl rfl rfl rfl (Nat.le_of_ble_eq_true rfl) dX12_isOp_81 ⟨Nat.zero_le _, Nat.zero_le _⟩) hP hD hS hA [0, 1] [2, 3] [2, 3, 0, 1] rfl rfl rfl (by decide) rfl rfl (fun H locs hP hD hS => ?_)
        refine lv_goto (tgt := 103) hx hb dX12_isOp_84 (by decide) ?_
        exact L103 u17 F_t a_words a_address a_number _ _ _ hf hP hD hS (lv_sub hl [0, 1, 2, 3] rfl)
    · refine lv_aload_n hx hb dX12_isOp_18 rfl (lv_at hl 0 rfl) ?_
      refine lv_aload_n hx hb dX12_isOp_19 rfl (lv_at hl 0 rfl) ?_
      refine z_get (ci := 12) (C := RX12) (T := TX12) (N := 51) (v := .ref (r_t 16)) hx hb hts inT_X12 hown hK hP 0 rfl rfl 16 (by decide) tf_X12_30 rfl dX12_isOp_20 ?_
      obtain ⟨u18, hu18, hf⟩ := bd_some hf
      refine z_ci (ws1 := w_X12_isOp h_t r_t u18.2 cI a_words a_address a_number) (wr := List.filterMap (fun i : Nat => (w_X12_isOp h_t r_t F_t cI a_words a_address a_number)[i]?) [2, 3]) (z_rV (rest := []) hx hb hml hown hcx hl.1 (c_X12_leaked l D cI h_t (r_t 16) r_t F_t 64 a_words u18 hu18 _) tl_X12_111 ti_X12_leaked tz_X12_leaked tn_X12 tc_X12_leaked tm_X12_leaked rfl rfl ⟨Nat.le_of_ble_eq_true rfl, Nat.le_of_ble_eq_true rfl⟩ hK hX hS hA hP hD [0, 1] rfl rfl 0 rfl rfl rfl rfl (Nat.le_of_ble_eq_true rfl) dX12_isOp_23 ⟨Nat.zero_le _, Nat.zero_le _⟩) hP hD hS hA [0, 1] [2, 3] [2, 3, 0, 1] rfl rfl rfl (by decide) rfl rfl (fun H locs hP hD hS => ?_)
      refine lv_istore (lv' := [(4, .int u18.1), (0, .ref h_t), (1, .int p1), (2, .int p2), (3, .int p3)]) hx hb dX12_isOp_26 hl (by decide) rfl (fun ls hl => ?_)
      refine lv_iconst (v := 0) hx hb dX12_isOp_28 (by decide) ?_
      refine lv_istore (lv' := [(5, .int 0), (4, .int u18.1), (0, .ref h_t), (1, .int p1), (2, .int p2), (3, .int p3)]) hx hb dX12_isOp_29 hl (by decide) rfl (fun ls hl => ?_)
      exact L31 fuelN u18.1 0 u18.2 a_words a_address a_number _ _ _ hf hP hD hS (lv_sub hl [2, 1, 0] rfl)
  · refine lv_aload_n hx hb dX12_isOp_5 rfl (lv_at hl 0 rfl) ?_
    refine lv_iload_n hx hb dX12_isOp_6 rfl (lv_at hl 2 rfl) ?_
    refine lv_iload_n hx hb dX12_isOp_7 rfl (lv_at hl 3 rfl) ?_
    obtain ⟨u22, hu22, hf⟩ := bd_some hf
    refine z_cv (ws1 := w_X12_isOp h_t r_t u22.1 cI u22.2.1 u22.2.2.1 u22.2.2.2) (wr := List.filterMap (fun i : Nat => (w_X12_isOp h_t r_t F_t cI a_words a_address a_number)[i]?) []) (z_rV (rest := []) hx hb hml hown hcx hl.1 (c_X12_writes l D cI h_t r_t F_t a_words a_address a_number p2 p3 u22 hu22 _) tl_X12_108 ti_X12_writes tz_X12_writes tn_X12 tc_X12_writes tm_X12_writes rfl rfl ⟨Nat.le_of_ble_eq_true rfl, Nat.le_of_ble_eq_true rfl⟩ hK hX hS hA hP hD [0, 1, 2, 3] rfl rfl 0 rfl rfl rfl rfl (Nat.le_of_ble_eq_true rfl) dX12_isOp_8 ⟨Nat.zero_le _, Nat.zero_le _⟩) hP hD hS hA [0, 1, 2, 3] [] [0, 1, 2, 3] rfl rfl rfl (by decide) rfl rfl (fun H locs hP hD hS => ?_)
    refine lv_iconst (v := 1) hx hb dX12_isOp_11 (by decide) ?_
    exact hret (1, u22.1, u22.2.1, u22.2.2.1, u22.2.2.2) _ _ _ _ (Or.inr rfl) hf hP hD hS dX12_isOp_12
