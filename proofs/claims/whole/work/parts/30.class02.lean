abbrev w_X11_fault (h_t : Nat) (r_t : Nat → Nat) (F_t : Nat → Int32) (kq : Option Nat) (cI : ClassId) : va_W := [(h_t, .inr (11, o_X11 r_t F_t kq))]
abbrev rm_X11_fault : Room := { frames := 0, cells := 0, slots := 0, locals := 0 }
def m_X11_fault (F_t : Nat → Int32) : Option (Int32) :=
  some (F_t 2)
set_option maxHeartbeats 4000000 in
set_option maxRecDepth 100000 in
theorem c_X11_fault (l : Launch) (D : va_G) (cI : ClassId) (h_t : Nat) (r_t : Nat → Nat) (F_t : Nat → Int32) (kq : Option Nat) (Rr : Int32) (hf : m_X11_fault F_t = some Rr) : CTi l yX11_fault (Cond.code yX11_fault cX11_fault 1 (some .int)) rm_X11_fault D cI [.ref h_t] (w_X11_fault h_t r_t F_t kq cI) Rr (w_X11_fault h_t r_t F_t kq cI) := by
  refine z_begin_i (own := RX11) (ρ := Int32) (fun u => w_X11_fault h_t r_t F_t kq cI) (fun u => u) (by decide +kernel) rfl (Nat.le_of_ble_eq_true rfl) ?_
  intro p e s m args below meth c ls Q A hx hb hml hts hcx hown hK hX hA hP hD hS hl hret
  have hl : lv_has ls 1 [(0, .ref h_t)] := hl
  have hf := (m_X11_fault.eq_1 _).symm.trans hf
  refine lv_aload_n hx hb dX11_fault_0 rfl (lv_at hl 0 rfl) ?_
  refine z_get (ci := 11) (C := RX11) (T := TX11) (N := 13) (v := .int (F_t 2)) hx hb hts inT_X11 hown hK hP 0 rfl rfl 2 (by decide) tf_X11_17 rfl dX11_fault_1 ?_
  exact hret (F_t 2) _ _ _ _ hf hP hD hS dX11_fault_4
abbrev w_X4_microsLeft (h_t : Nat) (r_t : Nat → Nat) (F_t : Nat → Int32) (cI : ClassId) : va_W := [(h_t, .inr (4, o_X4 r_t F_t))]
abbrev rm_X4_microsLeft : Room := { frames := 0, cells := 0, slots := 0, locals := 0 }
def m_X4_microsLeft (F_t : Nat → Int32) : Option (Int32) :=
  some ((F_t 3) - (F_t 2))
set_option maxHeartbeats 4000000 in
set_option maxRecDepth 100000 in
theorem c_X4_microsLeft (l : Launch) (D : va_G) (cI : ClassId) (h_t : Nat) (r_t : Nat → Nat) (F_t : Nat → Int32) (Rr : Int32) (hf : m_X4_microsLeft F_t = some Rr) : CTi l yX4_microsLeft (Cond.code yX4_microsLeft cX4_microsLeft 1 (some .int)) rm_X4_microsLeft D cI [.ref h_t] (w_X4_microsLeft h_t r_t F_t cI) Rr (w_X4_microsLeft h_t r_t F_t cI) := by
  refine z_begin_i (own := RX4) (ρ := Int32) (fun u => w_X4_microsLeft h_t r_t F_t cI) (fun u => u) (by decide +kernel) rfl (Nat.le_of_ble_eq_true rfl) ?_
  intro p e s m args below meth c ls Q A hx hb hml hts hcx hown hK hX hA hP hD hS hl hret
  have hl : lv_has ls 1 [(0, .ref h_t)] := hl
  have hf := (m_X4_microsLeft.eq_1 _).symm.trans hf
  refine lv_aload_n hx hb dX4_microsLeft_0 rfl (lv_at hl 0 rfl) ?_
  refine z_get (ci := 4) (C := RX4) (T := TX4) (N := 12) (v := .int (F_t 3)) hx hb hts inT_X4 hown hK hP 0 rfl rfl 3 (by decide) tf_X4_26 rfl dX4_microsLeft_1 ?_
  refine lv_aload_n hx hb dX4_microsLeft_4 rfl (lv_at hl 0 rfl) ?_
  refine z_get (ci := 4) (C := RX4) (T := TX4) (N := 12) (v := .int (F_t 2)) hx hb hts inT_X4 hown hK hP 0 rfl rfl 2 (by decide) tf_X4_22 rfl dX4_microsLeft_5 ?_
  refine lv_isub hx hb dX4_microsLeft_8 ?_
  exact hret ((F_t 3) - (F_t 2)) _ _ _ _ hf hP hD hS dX4_microsLeft_9
abbrev w_X1_pendingInAll (h_t : Nat) (r_t : Nat → Nat) (cI : ClassId) (a_held : Nat → Int32) : va_W := [(h_t, .inr (1, o_X1 r_t)), ((r_t 2), .inl (cI, 16, .inl a_held))]
abbrev rm_X1_pendingInAll : Room := { frames := 0, cells := 0, slots := 0, locals := 0 }
def m_X1_pendingInAll_w4 (a_held : Nat → Int32) : Nat → Int32 → Int32 → Option (Int32)
  | 0, _, _ => none
  | n4 + 1, x1, x2 =>
    if 16 ≤ x2 then (
    some x1)
    else (
    rd a_held 16 x2 fun y1 =>
    nm (x1 + y1) fun v2 =>
    nm (x2 + 1) fun v3 =>
    m_X1_pendingInAll_w4 a_held n4 v2 v3)
def m_X1_pendingInAll (a_held : Nat → Int32) : Option (Int32) :=
  m_X1_pendingInAll_w4 a_held fuelN 0 0
set_option maxHeartbeats 4000000 in
set_option maxRecDepth 100000 in
theorem c_X1_pendingInAll (l : Launch) (D : va_G) (cI : ClassId) (h_t : Nat) (r_t : Nat → Nat) (a_held : Nat → Int32) (Rr : Int32) (hf : m_X1_pendingInAll a_held = some Rr) : CTi l yX1_pendingInAll (Cond.code yX1_pendingInAll cX1_pendingInAll 3 (some .int)) rm_X1_pendingInAll D cI [.ref h_t] (w_X1_pendingInAll h_t r_t cI a_held) Rr (w_X1_pendingInAll h_t r_t cI a_held) := by
  refine z_begin_i (own := RX1) (ρ := Int32) (fun u => w_X1_pendingInAll h_t r_t cI a_held) (fun u => u) (by decide +kernel) rfl (Nat.le_of_ble_eq_true rfl) ?_
  intro p e s m args below meth c ls Q A hx hb hml hts hcx hown hK hX hA hP hD hS hl hret
  have hl : lv_has ls 3 [(0, .ref h_t)] := hl
  have hf := (m_X1_pendingInAll.eq_1 _).symm.trans hf
  have L4 : ∀ (n4 : Nat) (x1 : Int32) (x2 : Int32) (H : Heap) (locs : List Loc) (ls : Array Slot), m_X1_pendingInAll_w4 a_held n4 x1 x2 = some Rr → va_P D vwCl (w_X1_pendingInAll h_t r_t cI a_held) H → va_D A (w_X1_pendingInAll h_t r_t cI a_held) → va_S A s.heap H locs → lv_has ls 3 [(0, .ref h_t), (1, .int x1), (2, .int x2)] → W p l e rm_X1_pendingInAll s m args below meth c H locs 0 0 Q (F0 m 4 ls []) := by
    intro n4
    induction n4 with
    | zero => intro x1 x2 H locs ls hf; cases (show (none : Option _) = some Rr from hf)
    | succ n4 ih4 =>
      intro x1 x2 H locs ls hf hP hD hS hl
      have hf := (m_X1_pendingInAll_w4.eq_2 _ _ _ _).symm.trans hf
      refine lv_iload_n hx hb dX1_pendingInAll_4 rfl (lv_at hl 2 rfl) ?_
      refine lv_bipush (v := 16) hx hb dX1_pendingInAll_5 (by decide) ?_
      refine z_icmp_ge (tgt := 25) hx hb dX1_pendingInAll_7 (by decide) hf (fun hf => ?_) (fun hf => ?_)
      · refine lv_iload_n hx hb dX1_pendingInAll_25 rfl (lv_at hl 1 rfl) ?_
        exact hret x1 _ _ _ _ hf hP hD hS dX1_pendingInAll_26
      · refine lv_iload_n hx hb dX1_pendingInAll_10 rfl (lv_at hl 1 rfl) ?_
        refine lv_aload_n hx hb dX1_pendingInAll_11 rfl (lv_at hl 0 rfl) ?_
        refine z_get (ci := 1) (C := RX1) (T := TX1) (N := 4) (v := .ref (r_t 2)) hx hb hts inT_X1 hown hK hP 0 rfl rfl 2 (by decide) tf_X1_18 rfl dX1_pendingInAll_12 ?_
        refine lv_iload_n hx hb dX1_pendingInAll_15 rfl (lv_at hl 2 rfl) ?_
        refine z_iald hx hb hK hP 1 rfl dX1_pendingInAll_16 hf (fun y1 hf => ?_)
        refine lv_iadd hx hb dX1_pendingInAll_17 ?_
        refine z_istore_n (fun z => [(1, .int z), (0, .ref h_t), (2, .int x2)]) hx hb dX1_pendingInAll_18 rfl hl (by decide) (fun _ => rfl) hf (fun v2 ls hf hl => ?_)
        refine z_iinc (k0 := 2) (fun z => [(2, .int z), (1, .int v2), (0, .ref h_t)]) hx hb dX1_pendingInAll_19 hl rfl (by decide) (by decide) (fun _ => rfl) hf (fun v3 ls hf hl => ?_)
        refine lv_goto (tgt := 4) hx hb dX1_pendingInAll_22 (by decide) ?_
        exact ih4 v2 v3 _ _ _ hf hP hD hS (lv_sub hl [2, 1, 0] rfl)
  refine lv_iconst (v := 0) hx hb dX1_pendingInAll_0 (by decide) ?_
  refine lv_istore_n (lv' := [(1, .int 0), (0, .ref h_t)]) hx hb dX1_pendingInAll_1 rfl hl (by decide) rfl (fun ls hl => ?_)
  refine lv_iconst (v := 0) hx hb dX1_pendingInAll_2 (by decide) ?_
  refine lv_istore_n (lv' := [(2, .int 0), (1, .int 0), (0, .ref h_t)]) hx hb dX1_pendingInAll_3 rfl hl (by decide) rfl (fun ls hl => ?_)
  exact L4 fuelN 0 0 _ _ _ hf hP hD hS (lv_sub hl [2, 1, 0] rfl)
abbrev w_X11_isWord (cI : ClassId) : va_W := []
abbrev rm_X11_isWord : Room := { frames := 0, cells := 0, slots := 0, locals := 0 }
def m_X11_isWord (p0 : Int32) : Option (Int32) :=
  if p0 < 0 then (
  some 0)
  else (
  if 64 ≤ p0 then (
  some 0)
  else (
  some 1))
set_option maxHeartbeats 4000000 in
set_option maxRecDepth 100000 in
theorem c_X11_isWord (l : Launch) (D : va_G) (cI : ClassId) (p0 : Int32) (Rr : Int32) (hf : m_X11_isWord p0 = some Rr) : CTi l yX11_isWord (Cond.code yX11_isWord cX11_isWord 1 (some .boolean)) rm_X11_isWord D cI [.int p0] (w_X11_isWord cI) Rr (w_X11_isWord cI) := by
  refine z_begin_z (own := RX11) (ρ := Int32) (fun u => w_X11_isWord cI) (fun u => u) (by decide +kernel) rfl (Nat.le_of_ble_eq_true rfl) ?_
  intro p e s m args below meth c ls Q A hx hb hml hts hcx hown hK hX hA hP hD hS hl hret
  have hl : lv_has ls 1 [(0, .int p0)] := hl
  have hf := (m_X11_isWord.eq_1 _).symm.trans hf
  refine lv_iload_n hx hb dX11_isWord_0 rfl (lv_at hl 0 rfl) ?_
  refine z_if_lt (tgt := 14) hx hb dX11_isWord_1 (by decide) hf (fun hf => ?_) (fun hf => ?_)
  · refine lv_iconst (v := 0) hx hb dX11_isWord_14 (by decide) ?_
    exact hret 0 _ _ _ _ (Or.inl rfl) hf hP hD hS dX11_isWord_15
  · refine lv_iload_n hx hb dX11_isWord_4 rfl (lv_at hl 0 rfl) ?_
    refine lv_bipush (v := 64) hx hb dX11_isWord_5 (by decide) ?_
    refine z_icmp_ge (tgt := 14) hx hb dX11_isWord_7 (by decide) hf (fun hf => ?_) (fun hf => ?_)
    · refine lv_iconst (v := 0) hx hb dX11_isWord_14 (by decide) ?_
      exact hret 0 _ _ _ _ (Or.inl rfl) hf hP hD hS dX11_isWord_15
    · refine lv_iconst (v := 1) hx hb dX11_isWord_10 (by decide) ?_
      refine lv_goto (tgt := 15) hx hb dX11_isWord_11 (by decide) ?_
      exact hret 1 _ _ _ _ (Or.inr rfl) hf hP hD hS dX11_isWord_15
abbrev w_X1_wordNow (h_t : Nat) (r_t : Nat → Nat) (cI : ClassId) (a_media : Nat → Int32) (a_stores : Nat → Int32) (a_held : Nat → Int32) : va_W := [(h_t, .inr (1, o_X1 r_t)), ((r_t 0), .inl (cI, 64, .inl a_media)), ((r_t 1), .inl (cI, 96, .inl a_stores)), ((r_t 2), .inl (cI, 16, .inl a_held))]
abbrev rm_X1_wordNow : Room := { frames := 0, cells := 0, slots := 0, locals := 0 }
def m_X1_wordNow_j51 (a_media : Nat → Int32) (a_stores : Nat → Int32) (a_held : Nat → Int32) (p1 : Int32) : Option (Int32) :=
  rd a_media 64 p1 fun y4 =>
  some y4
def m_X1_wordNow_w13 (a_media : Nat → Int32) (a_stores : Nat → Int32) (a_held : Nat → Int32) (p1 : Int32) (k51 : Option (Int32)) : Nat → Int32 → Int32 → Option (Int32)
  | 0, _, _ => none
  | n13 + 1, x2, x3 =>
    if x3 < 0 then (
    k51)
    else (
    rd a_stores 96 ((x2 * 6) + x3) fun y5 =>
    if (y5 / 100) = p1 then (
    some (y5 - y5 / 100 * 100))
    else (
    nm (x3 + (-1)) fun v6 =>
    m_X1_wordNow_w13 a_media a_stores a_held p1 k51 n13 x2 v6))
def m_X1_wordNow (a_media : Nat → Int32) (a_stores : Nat → Int32) (a_held : Nat → Int32) (p1 : Int32) : Option (Int32) :=
  nm (p1 / 4) fun v1 =>
  rd a_held 16 v1 fun y2 =>
  nm (y2 - 1) fun v3 =>
  m_X1_wordNow_w13 a_media a_stores a_held p1 (m_X1_wordNow_j51 a_media a_stores a_held p1) fuelN v1 v3
set_option maxHeartbeats 4000000 in
set_option maxRecDepth 100000 in
theorem c_X1_wordNow (l : Launch) (D : va_G) (cI : ClassId) (h_t : Nat) (r_t : Nat → Nat) (a_media : Nat → Int32) (a_stores : Nat → Int32) (a_held : Nat → Int32) (p1 : Int32) (Rr : Int32) (hf : m_X1_wordNow a_media a_stores a_held p1 = some Rr) : CTi l yX1_wordNow (Cond.code yX1_wordNow cX1_wordNow 5 (some .int)) rm_X1_wordNow D cI [.ref h_t, .int p1] (w_X1_wordNow h_t r_t cI a_media a_stores a_held) Rr (w_X1_wordNow h_t r_t cI a_media a_stores a_held) := by
  refine z_begin_i (own := RX1) (ρ := Int32) (fun u => w_X1_wordNow h_t r_t cI a_media a_stores a_held) (fun u => u) (by decide +kernel) rfl (Nat.le_of_ble_eq_true rfl) ?_
  intro p e s m args below meth c ls Q A hx hb hml hts hcx hown hK hX hA hP hD hS hl hret
  have hl : lv_has ls 5 [(0, .ref h_t), (1, .int p1)] := hl
  have hf := (m_X1_wordNow.eq_1 _ _ _ _).symm.trans hf
  have L51 : ∀ (H : Heap) (locs : List Loc) (ls : Array Slot), m_X1_wordNow_j51 a_media a_stores a_held p1 = some Rr → va_P D vwCl (w_X1_wordNow h_t r_t cI a_media a_stores a_held) H → va_D A (w_X1_wordNow h_t r_t cI a_media a_stores a_held) → va_S A s.heap H locs → lv_has ls 5 [(0, .ref h_t), (1, .int p1)] → W p l e rm_X1_wordNow s m args below meth c H locs 0 0 Q (F0 m 51 ls []) := by
    intro  H locs ls hf hP hD hS hl
    have hf := (m_X1_wordNow_j51.eq_1 _ _ _ _).symm.trans hf
    refine lv_aload_n hx hb dX1_wordNow_51 rfl (lv_at hl 0 rfl) ?_
    refine z_get (ci := 1) (C := RX1) (T := TX1) (N := 4) (v := .ref (r_t 0)) hx hb hts inT_X1 hown hK hP 0 rfl rfl 0 (by decide) tf_X1_9 rfl dX1_wordNow_52 ?_
    refine lv_iload_n hx hb dX1_wordNow_55 rfl (lv_at hl 1 rfl) ?_
    refine z_iald hx hb hK hP 1 rfl dX1_wordNow_56 hf (fun y4 hf => ?_)
    exact hret y4 _ _ _ _ hf hP hD hS dX1_wordNow_57
  have L13 : ∀ (n13 : Nat) (x2 : Int32) (x3 : Int32) (H : Heap) (locs : List Loc) (ls : Array Slot), m_X1_wordNow_w13 a_media a_stores a_held p1 (m_X1_wordNow_j51 a_media a_stores a_held p1) n13 x2 x3 = some Rr → va_P D vwCl (w_X1_wordNow h_t r_t cI a_media a_stores a_held) H → va_D A (w_X1_wordNow h_t r_t cI a_media a_stores a_held) → va_S A s.heap H locs → lv_has ls 5 [(0, .ref h_t), (1, .int p1), (2, .int x2), (3, .int x3)] → W p l e rm_X1_wordNow s m args below meth c H locs 0 0 Q (F0 m 13 ls []) := by
    intro n13
    induction n13 with
    | zero => intro x2 x3 H locs ls hf; cases (show (none : Option _) = some Rr from hf)
    | succ n13 ih13 =>
      intro x2 x3 H locs ls hf hP hD hS hl
      have hf := (m_X1_wordNow_w13.eq_2 _ _ _ _ _ _ _ _).symm.trans hf
      refine lv_iload_n hx hb dX1_wordNow_13 rfl (lv_at hl 3 rfl) ?_
      refine z_if_lt (tgt := 51) hx hb dX1_wordNow_14 (by decide) hf (fun hf => ?_) (fun hf => ?_)
      · exact L51 _ _ _ hf hP hD hS (lv_sub hl [0, 1] rfl)
      · refine lv_aload_n hx hb dX1_wordNow_17 rfl (lv_at hl 0 rfl) ?_
        refine z_get (ci := 1) (C := RX1) (T := TX1) (N := 4) (v := .ref (r_t 1)) hx hb hts inT_X1 hown hK hP 0 rfl rfl 1 (by decide) tf_X1_15 rfl dX1_wordNow_18 ?_
        refine lv_iload_n hx hb dX1_wordNow_21 rfl (lv_at hl 2 rfl) ?_
        refine lv_bipush (v := 6) hx hb dX1_wordNow_22 (by decide) ?_
        refine lv_imul hx hb dX1_wordNow_24 ?_
        refine lv_iload_n hx hb dX1_wordNow_25 rfl (lv_at hl 3 rfl) ?_
        refine lv_iadd hx hb dX1_wordNow_26 ?_
        refine z_iald hx hb hK hP 2 rfl dX1_wordNow_27 hf (fun y5 hf => ?_)
        refine lv_istore (lv' := [(4, .int y5), (0, .ref h_t), (1, .int p1), (2, .int x2), (3, .int x3)]) hx hb dX1_wordNow_28 hl (by decide) rfl (fun ls hl => ?_)
        refine lv_iload hx hb dX1_wordNow_30 (lv_at hl 0 rfl) ?_
        refine lv_bipush (v := 100) hx hb dX1_wordNow_32 (by decide) ?_
        refine lv_idiv hx hb dX1_wordNow_34 (by decide) ?_
        refine lv_iload_n hx hb dX1_wordNow_35 rfl (lv_at hl 2 rfl) ?_
        refine z_icmp_ne (tgt := 45) hx hb dX1_wordNow_36 (by decide) hf (fun hf => ?_) (fun hf => ?_)
        · refine z_iinc (k0 := 4) (fun z => [(3, .int z), (4, .int y5), (0, .ref h_t), (1, .int p1), (2, .int x2)]) hx hb dX1_wordNow_45 hl rfl (by decide) (by decide) (fun _ => rfl) hf (fun v6 ls hf hl => ?_)
          refine lv_goto (tgt := 13) hx hb dX1_wordNow_48 (by decide) ?_
          exact ih13 x2 v6 _ _ _ hf hP hD hS (lv_sub hl [2, 3, 4, 0] rfl)
        · refine lv_iload hx hb dX1_wordNow_39 (lv_at hl 0 rfl) ?_
          refine lv_bipush (v := 100) hx hb dX1_wordNow_41 (by decide) ?_
          refine lv_irem hx hb dX1_wordNow_43 (by decide) ?_
          exact hret (y5 - y5 / 100 * 100) _ _ _ _ hf hP hD hS dX1_wordNow_44
  refine lv_iload_n hx hb dX1_wordNow_0 rfl (lv_at hl 1 rfl) ?_
  refine lv_iconst (v := 4) hx hb dX1_wordNow_1 (by decide) ?_
  refine lv_idiv hx hb dX1_wordNow_2 (by decide) ?_
  refine z_istore_n (fun z => [(2, .int z), (0, .ref h_t), (1, .int p1)]) hx hb dX1_wordNow_3 rfl hl (by decide) (fun _ => rfl) hf (fun v1 ls hf hl => ?_)
  refine lv_aload_n hx hb dX1_wordNow_4 rfl (lv_at hl 1 rfl) ?_
  refine z_get (ci := 1) (C := RX1) (T := TX1) (N := 4) (v := .ref (r_t 2)) hx hb hts inT_X1 hown hK hP 0 rfl rfl 2 (by decide) tf_X1_18 rfl dX1_wordNow_5 ?_
  refine lv_iload_n hx hb dX1_wordNow_8 rfl (lv_at hl 0 rfl) ?_
  refine z_iald hx hb hK hP 3 rfl dX1_wordNow_9 hf (fun y2 hf => ?_)
  refine lv_iconst (v := 1) hx hb dX1_wordNow_10 (by decide) ?_
  refine lv_isub hx hb dX1_wordNow_11 ?_
  refine z_istore_n (fun z => [(3, .int z), (2, .int v1), (0, .ref h_t), (1, .int p1)]) hx hb dX1_wordNow_12 rfl hl (by decide) (fun _ => rfl) hf (fun v3 ls hf hl => ?_)
  exact L13 fuelN v1 v3 _ _ _ hf hP hD hS (lv_sub hl [2, 3, 1, 0] rfl)
abbrev w_X11_isLine (cI : ClassId) : va_W := []
abbrev rm_X11_isLine : Room := { frames := 0, cells := 0, slots := 0, locals := 0 }
def m_X11_isLine (p0 : Int32) : Option (Int32) :=
  if p0 < 0 then (
  some 0)
  else (
  if 16 ≤ p0 then (
  some 0)
  else (
  some 1))
set_option maxHeartbeats 4000000 in
set_option maxRecDepth 100000 in
theorem c_X11_isLine (l : Launch) (D : va_G) (cI : ClassId) (p0 : Int32) (Rr : Int32) (hf : m_X11_isLine p0 = some Rr) : CTi l yX11_isLine (Cond.code yX11_isLine cX11_isLine 1 (some .boolean)) rm_X11_isLine D cI [.int p0] (w_X11_isLine cI) Rr (w_X11_isLine cI) := by
  refine z_begin_z (own := RX11) (ρ := Int32) (fun u => w_X11_isLine cI) (fun u => u) (by decide +kernel) rfl (Nat.le_of_ble_eq_true rfl) ?_
  intro p e s m args below meth c ls Q A hx hb hml hts hcx hown hK hX hA hP hD hS hl hret
  have hl : lv_has ls 1 [(0, .int p0)] := hl
  have hf := (m_X11_isLine.eq_1 _).symm.trans hf
  refine lv_iload_n hx hb dX11_isLine_0 rfl (lv_at hl 0 rfl) ?_
  refine z_if_lt (tgt := 14) hx hb dX11_isLine_1 (by decide) hf (fun hf => ?_) (fun hf => ?_)
  · refine lv_iconst (v := 0) hx hb dX11_isLine_14 (by decide) ?_
    exact hret 0 _ _ _ _ (Or.inl rfl) hf hP hD hS dX11_isLine_15
  · refine lv_iload_n hx hb dX11_isLine_4 rfl (lv_at hl 0 rfl) ?_
    refine lv_bipush (v := 16) hx hb dX11_isLine_5 (by decide) ?_
    refine z_icmp_ge (tgt := 14) hx hb dX11_isLine_7 (by decide) hf (fun hf => ?_) (fun hf => ?_)
    · refine lv_iconst (v := 0) hx hb dX11_isLine_14 (by decide) ?_
      exact hret 0 _ _ _ _ (Or.inl rfl) hf hP hD hS dX11_isLine_15
    · refine lv_iconst (v := 1) hx hb dX11_isLine_10 (by decide) ?_
      refine lv_goto (tgt := 15) hx hb dX11_isLine_11 (by decide) ?_
      exact hret 1 _ _ _ _ (Or.inr rfl) hf hP hD hS dX11_isLine_15
abbrev w_X1_orderTotal (h_t : Nat) (r_t : Nat → Nat) (cI : ClassId) (a_held : Nat → Int32) : va_W := [(h_t, .inr (1, o_X1 r_t)), ((r_t 2), .inl (cI, 16, .inl a_held))]
abbrev rm_X1_orderTotal : Room := { frames := 0, cells := 0, slots := 0, locals := 0 }
def m_X1_orderTotal_w4 (a_held : Nat → Int32) : Nat → Int64 → Int32 → Option (Int64)
  | 0, _, _ => none
  | n4 + 1, x1, x3 =>
    if 16 ≤ x3 then (
    some x1)
    else (
    rd a_held 16 x3 fun y1 =>
    nm (x1 * (y1 + 1).toInt64) fun v2 =>
    nm (x3 + 1) fun v3 =>
    m_X1_orderTotal_w4 a_held n4 v2 v3)
def m_X1_orderTotal (a_held : Nat → Int32) : Option (Int64) :=
  m_X1_orderTotal_w4 a_held fuelN 1 0
set_option maxHeartbeats 4000000 in
set_option maxRecDepth 100000 in
theorem c_X1_orderTotal (l : Launch) (D : va_G) (cI : ClassId) (h_t : Nat) (r_t : Nat → Nat) (a_held : Nat → Int32) (Rr : Int64) (hf : m_X1_orderTotal a_held = some Rr) : CTl l yX1_orderTotal (Cond.code yX1_orderTotal cX1_orderTotal 4 (some .long)) rm_X1_orderTotal D cI [.ref h_t] (w_X1_orderTotal h_t r_t cI a_held) Rr (w_X1_orderTotal h_t r_t cI a_held) := by
  refine z_begin_l (own := RX1) (ρ := Int64) (fun u => w_X1_orderTotal h_t r_t cI a_held) (fun u => u) (by decide +kernel) rfl (Nat.le_of_ble_eq_true rfl) ?_
  intro p e s m args below meth c ls Q A hx hb hml hts hcx hown hK hX hA hP hD hS hl hret
  have hl : lv_has ls 4 [(0, .ref h_t)] := hl
  have hf := (m_X1_orderTotal.eq_1 _).symm.trans hf
  have L4 : ∀ (n4 : Nat) (x1 : Int64) (x3 : Int32) (H : Heap) (locs : List Loc) (ls : Array Slot), m_X1_orderTotal_w4 a_held n4 x1 x3 = some Rr → va_P D vwCl (w_X1_orderTotal h_t r_t cI a_held) H → va_D A (w_X1_orderTotal h_t r_t cI a_held) → va_S A s.heap H locs → lv_has ls 4 [(0, .ref h_t), (1, .long x1), (3, .int x3)] → W p l e rm_X1_orderTotal s m args below meth c H locs 0 0 Q (F0 m 4 ls []) := by
    intro n4
    induction n4 with
    | zero => intro x1 x3 H locs ls hf; cases (show (none : Option _) = some Rr from hf)
    | succ n4 ih4 =>
      intro x1 x3 H locs ls hf hP hD hS hl
      have hf := (m_X1_orderTotal_w4.eq_2 _ _ _ _).symm.trans hf
      refine lv_iload_n hx hb dX1_orderTotal_4 rfl (lv_at hl 2 rfl) ?_
      refine lv_bipush (v := 16) hx hb dX1_orderTotal_5 (by decide) ?_
      refine z_icmp_ge (tgt := 28) hx hb dX1_orderTotal_7 (by decide) hf (fun hf => ?_) (fun hf => ?_)
      · refine lv_lload_n hx hb dX1_orderTotal_28 rfl (lv_at hl 1 rfl) ?_
        exact hret x1 _ _ _ _ hf hP hD hS dX1_orderTotal_29
      · refine lv_lload_n hx hb dX1_orderTotal_10 rfl (lv_at hl 1 rfl) ?_
        refine lv_aload_n hx hb dX1_orderTotal_11 rfl (lv_at hl 0 rfl) ?_
        refine z_get (ci := 1) (C := RX1) (T := TX1) (N := 4) (v := .ref (r_t 2)) hx hb hts inT_X1 hown hK hP 0 rfl rfl 2 (by decide) tf_X1_18 rfl dX1_orderTotal_12 ?_
        refine lv_iload_n hx hb dX1_orderTotal_15 rfl (lv_at hl 2 rfl) ?_
        refine z_iald hx hb hK hP 1 rfl dX1_orderTotal_16 hf (fun y1 hf => ?_)
        refine lv_iconst (v := 1) hx hb dX1_orderTotal_17 (by decide) ?_
        refine lv_iadd hx hb dX1_orderTotal_18 ?_
        refine lv_i2l hx hb dX1_orderTotal_19 rfl ?_
        refine lv_lmul hx hb dX1_orderTotal_20 ?_
        refine z_lstore_n (fun z => [(1, .long z), (0, .ref h_t), (3, .int x3)]) hx hb dX1_orderTotal_21 rfl hl (by decide) (fun _ => rfl) hf (fun v2 ls hf hl => ?_)
        refine z_iinc (k0 := 2) (fun z => [(3, .int z), (1, .long v2), (0, .ref h_t)]) hx hb dX1_orderTotal_22 hl rfl (by decide) (by decide) (fun _ => rfl) hf (fun v3 ls hf hl => ?_)
        refine lv_goto (tgt := 4) hx hb dX1_orderTotal_25 (by decide) ?_
        exact ih4 v2 v3 _ _ _ hf hP hD hS (lv_sub hl [2, 1, 0] rfl)
  refine lv_lconst (v := 1) hx hb dX1_orderTotal_0 (by decide) ?_
  refine lv_lstore_n (lv' := [(1, .long 1), (0, .ref h_t)]) hx hb dX1_orderTotal_1 rfl hl (by decide) rfl (fun ls hl => ?_)
  refine lv_iconst (v := 0) hx hb dX1_orderTotal_2 (by decide) ?_
  refine lv_istore_n (lv' := [(3, .int 0), (1, .long 1), (0, .ref h_t)]) hx hb dX1_orderTotal_3 rfl hl (by decide) rfl (fun ls hl => ?_)
  exact L4 fuelN 1 0 _ _ _ hf hP hD hS (lv_sub hl [2, 1, 0] rfl)
abbrev w_X11_orders (h_t : Nat) (r_t : Nat → Nat) (r_all : Nat → Nat) (r_all_machine : Nat → Nat) (r_all_machine_cache : Nat → Nat) (F_t : Nat → Int32) (F_all : Nat → Int32) (F_all_machine : Nat → Int32) (kq : Option Nat) (cI : ClassId) (a_all_machine_cache_held : Nat → Int32) : va_W := [(h_t, .inr (11, o_X11 r_t F_t kq)), ((r_t 3), .inr (0, o_X0 r_all F_all)), ((r_all 0), .inr (4, o_X4 r_all_machine F_all_machine)), ((r_all_machine 0), .inr (1, o_X1 r_all_machine_cache)), ((r_all_machine_cache 2), .inl (cI, 16, .inl a_all_machine_cache_held))]
abbrev rm_X11_orders : Room := { frames := 1, cells := 0, slots := 0, locals := 23 }
def m_X11_orders (a_all_machine_cache_held : Nat → Int32) : Option (Int64) :=
  bd (m_X1_orderTotal a_all_machine_cache_held) fun u1 =>
  some u1
set_option maxHeartbeats 4000000 in
set_option maxRecDepth 100000 in
theorem c_X11_orders (l : Launch) (D : va_G) (cI : ClassId) (h_t : Nat) (r_t : Nat → Nat) (r_all : Nat → Nat) (r_all_machine : Nat → Nat) (r_all_machine_cache : Nat → Nat) (F_t : Nat → Int32) (F_all : Nat → Int32) (F_all_machine : Nat → Int32) (kq : Option Nat) (a_all_machine_cache_held : Nat → Int32) (Rr : Int64) (hf : m_X11_orders a_all_machine_cache_held = some Rr) : CTl l yX11_orders (Cond.code yX11_orders cX11_orders 1 (some .long)) rm_X11_orders D cI [.ref h_t] (w_X11_orders h_t r_t r_all r_all_machine r_all_machine_cache F_t F_all F_all_machine kq cI a_all_machine_cache_held) Rr (w_X11_orders h_t r_t r_all r_all_machine r_all_machine_cache F_t F_all F_all_machine kq cI a_all_machine_cache_held) := by
  refine z_begin_l (own := RX11) (ρ := Int64) (fun u => w_X11_orders h_t r_t r_all r_all_machine r_all_machine_cache F_t F_all F_all_machine kq cI a_all_machine_cache_held) (fun u => u) (by decide +kernel) rfl (Nat.le_of_ble_eq_true rfl) ?_
  intro p e s m args below meth c ls Q A hx hb hml hts hcx hown hK hX hA hP hD hS hl hret
  have hl : lv_has ls 1 [(0, .ref h_t)] := hl
  have hf := (m_X11_orders.eq_1 _).symm.trans hf
  refine lv_aload_n hx hb dX11_orders_0 rfl (lv_at hl 0 rfl) ?_
  refine z_get (ci := 11) (C := RX11) (T := TX11) (N := 13) (v := .ref (r_t 3)) hx hb hts inT_X11 hown hK hP 0 rfl rfl 3 (by decide) tf_X11_23 rfl dX11_orders_1 ?_
  refine z_get (ci := 0) (C := RX0) (T := TX0) (N := 5) (v := .ref (r_all 0)) hx hb hts inT_X0 hown hK hP 1 rfl rfl 0 (by decide) tf_X11_112 rfl dX11_orders_4 ?_
  refine z_get (ci := 4) (C := RX4) (T := TX4) (N := 12) (v := .ref (r_all_machine 0)) hx hb hts inT_X4 hown hK hP 2 rfl rfl 0 (by decide) tf_X11_131 rfl dX11_orders_7 ?_
  obtain ⟨u1, hu1, hf⟩ := bd_some hf
  refine z_cl (ws1 := w_X11_orders h_t r_t r_all r_all_machine r_all_machine_cache F_t F_all F_all_machine kq cI a_all_machine_cache_held) (wr := List.filterMap (fun i : Nat => (w_X11_orders h_t r_t r_all r_all_machine r_all_machine_cache F_t F_all F_all_machine kq cI a_all_machine_cache_held)[i]?) [0, 1, 2]) (z_rV (rest := []) hx hb hml hown hcx hl.1 (c_X1_orderTotal l D cI (r_all_machine 0) r_all_machine_cache a_all_machine_cache_held u1 hu1 _) tl_X11_197 ti_X1_orderTotal tz_X1_orderTotal tn_X1 tc_X1_orderTotal tm_X1_orderTotal rfl rfl ⟨Nat.le_of_ble_eq_true rfl, Nat.le_of_ble_eq_true rfl⟩ hK hX hS hA hP hD [3, 4] rfl rfl 3 rfl rfl rfl rfl (Nat.le_of_ble_eq_true rfl) dX11_orders_10 ⟨Nat.zero_le _, Nat.zero_le _⟩) hP hD hS hA [3, 4] [0, 1, 2] [0, 1, 2, 3, 4] rfl rfl rfl (by decide) rfl rfl (fun H locs hP hD hS => ?_)
  exact hret u1 _ _ _ _ hf hP hD hS dX11_orders_13
abbrev w_X1_fillWords (h_t : Nat) (h_p1 : Nat) (r_t : Nat → Nat) (cI : ClassId) (n_p1 : Nat) (a_media : Nat → Int32) (a_stores : Nat → Int32) (a_held : Nat → Int32) (a_p1 : Nat → Int32) : va_W := [(h_t, .inr (1, o_X1 r_t)), ((r_t 0), .inl (cI, 64, .inl a_media)), ((r_t 1), .inl (cI, 96, .inl a_stores)), ((r_t 2), .inl (cI, 16, .inl a_held)), (h_p1, .inl (cI, n_p1, .inl a_p1))]
abbrev rm_X1_fillWords : Room := { frames := 1, cells := 0, slots := 0, locals := 40 }
def m_X1_fillWords_j63 (a_media : Nat → Int32) (a_stores : Nat → Int32) (a_held : Nat → Int32) (n_p1 : Nat) (k14 : Int32 → (Nat → Int32) → Option ((Nat → Int32))) (x2 : Int32) (a_p1 : Nat → Int32) : Option ((Nat → Int32)) :=
  nm (x2 + 1) fun v3 =>
  k14 v3 a_p1
def m_X1_fillWords_w22 (a_media : Nat → Int32) (a_stores : Nat → Int32) (a_held : Nat → Int32) (n_p1 : Nat) (k63 : Int32 → (Nat → Int32) → Option ((Nat → Int32))) : Nat → Int32 → Int32 → (Nat → Int32) → Option ((Nat → Int32))
  | 0, _, _, _ => none
  | n22 + 1, x2, x3, a_p1 =>
    rd a_held 16 x2 fun y2 =>
    if y2 ≤ x3 then (
    k63 x2 a_p1)
    else (
    rd a_stores 96 ((x2 * 6) + x3) fun y4 =>
    wr a_p1 n_p1 (y4 / 100) (y4 - y4 / 100 * 100) fun a5 =>
    nm (x3 + 1) fun v6 =>
    m_X1_fillWords_w22 a_media a_stores a_held n_p1 k63 n22 x2 v6 a5)
def m_X1_fillWords_w14 (a_media : Nat → Int32) (a_stores : Nat → Int32) (a_held : Nat → Int32) (n_p1 : Nat) : Nat → Int32 → (Nat → Int32) → Option ((Nat → Int32))
  | 0, _, _ => none
  | n14 + 1, x2, a_p1 =>
    if 16 ≤ x2 then (
    some a_p1)
    else (
    m_X1_fillWords_w22 a_media a_stores a_held n_p1 (m_X1_fillWords_j63 a_media a_stores a_held n_p1 (m_X1_fillWords_w14 a_media a_stores a_held n_p1 n14)) fuelN x2 0 a_p1)
def m_X1_fillWords (a_media : Nat → Int32) (a_stores : Nat → Int32) (a_held : Nat → Int32) (a_p1 : Nat → Int32) (n_p1 : Nat) : Option ((Nat → Int32)) :=
  cp a_media a_p1 64 n_p1 0 0 64 fun a1 =>
  m_X1_fillWords_w14 a_media a_stores a_held n_p1 fuelN 0 a1
set_option maxHeartbeats 4000000 in
set_option maxRecDepth 100000 in
theorem c_X1_fillWords (l : Launch) (D : va_G) (cI : ClassId) (h_t : Nat) (h_p1 : Nat) (r_t : Nat → Nat) (n_p1 : Nat) (a_media : Nat → Int32) (a_stores : Nat → Int32) (a_held : Nat → Int32) (a_p1 : Nat → Int32) (Rr : (Nat → Int32)) (hf : m_X1_fillWords a_media a_stores a_held a_p1 n_p1 = some Rr) : CTv l yX1_fillWords (Cond.code yX1_fillWords cX1_fillWords 5 none) rm_X1_fillWords D cI [.ref h_t, .ref h_p1] (w_X1_fillWords h_t h_p1 r_t cI n_p1 a_media a_stores a_held a_p1) (w_X1_fillWords h_t h_p1 r_t cI n_p1 a_media a_stores a_held Rr) := by
  refine z_begin_v (own := RX1) (ρ := (Nat → Int32)) (fun u => w_X1_fillWords h_t h_p1 r_t cI n_p1 a_media a_stores a_held u) (by decide +kernel) rfl (Nat.le_of_ble_eq_true rfl) ?_
  intro p e s m args below meth c ls Q A hx hb hml hts hcx hown hK hX hA hP hD hS hl hret
  have hl : lv_has ls 5 [(0, .ref h_t), (1, .ref h_p1)] := hl
  have hf := (m_X1_fillWords.eq_1 _ _ _ _ _).symm.trans hf
  have L14 : ∀ (n14 : Nat) (x2 : Int32) (a_p1 : Nat → Int32) (H : Heap) (locs : List Loc) (ls : Array Slot), m_X1_fillWords_w14 a_media a_stores a_held n_p1 n14 x2 a_p1 = some Rr → va_P D vwCl (w_X1_fillWords h_t h_p1 r_t cI n_p1 a_media a_stores a_held a_p1) H → va_D A (w_X1_fillWords h_t h_p1 r_t cI n_p1 a_media a_stores a_held a_p1) → va_S A s.heap H locs → lv_has ls 5 [(0, .ref h_t), (1, .ref h_p1), (2, .int x2)] → W p l e rm_X1_fillWords s m args below meth c H locs 0 0 Q (F0 m 14 ls []) := by
    intro n14
    induction n14 with
    | zero => intro x2 a_p1 H locs ls hf; cases (show (none : Option _) = some Rr from hf)
    | succ n14 ih14 =>
      intro x2 a_p1 H locs ls hf hP hD hS hl
      have hf := (m_X1_fillWords_w14.eq_2 _ _ _ _ _ _ _).symm.trans hf
      have L63 : ∀ (x2 : Int32) (a_p1 : Nat → Int32) (H : Heap) (locs : List Loc) (ls : Array Slot), m_X1_fillWords_j63 a_media a_stores a_held n_p1 (m_X1_fillWords_w14 a_media a_stores a_held n_p1 n14) x2 a_p1 = some Rr → va_P D vwCl (w_X1_fillWords h_t h_p1 r_t cI n_p1 a_media a_stores a_held a_p1) H → va_D A (w_X1_fillWords h_t h_p1 r_t cI n_p1 a_media a_stores a_held a_p1) → va_S A s.heap H locs → lv_has ls 5 [(0, .ref h_t), (1, .ref h_p1), (2, .int x2)] → W p l e rm_X1_fillWords s m args below meth c H locs 0 0 Q (F0 m 63 ls []) := by
        intro x2 a_p1 H locs ls hf hP hD hS hl
        have hf := (m_X1_fillWords_j63.eq_1 _ _ _ _ _ _ _).symm.trans hf
        refine z_iinc (k0 := 2) (fun z => [(2, .int z), (0, .ref h_t), (1, .ref h_p1)]) hx hb dX1_fillWords_63 hl rfl (by decide) (by decide) (fun _ => rfl) hf (fun v3 ls hf hl => ?_)
        refine lv_goto (tgt := 14) hx hb dX1_fillWords_66 (by decide) ?_
        exact ih14 v3 a_p1 _ _ _ hf hP hD hS (lv_sub hl [1, 2, 0] rfl)
      have L22 : ∀ (n22 : Nat) (x2 : Int32) (x3 : Int32) (a_p1 : Nat → Int32) (H : Heap) (locs : List Loc) (ls : Array Slot), m_X1_fillWords_w22 a_media a_stores a_held n_p1 (m_X1_fillWords_j63 a_media a_stores a_held n_p1 (m_X1_fillWords_w14 a_media a_stores a_held n_p1 n14)) n22 x2 x3 a_p1 = some Rr → va_P D vwCl (w_X1_fillWords h_t h_p1 r_t cI n_p1 a_media a_stores a_held a_p1) H → va_D A (w_X1_fillWords h_t h_p1 r_t cI n_p1 a_media a_stores a_held a_p1) → va_S A s.heap H locs → lv_has ls 5 [(0, .ref h_t), (1, .ref h_p1), (2, .int x2), (3, .int x3)] → W p l e rm_X1_fillWords s m args below meth c H locs 0 0 Q (F0 m 22 ls []) := by
        intro n22
        induction n22 with
        | zero => intro x2 x3 a_p1 H locs ls hf; cases (show (none : Option _) = some Rr from hf)
        | succ n22 ih22 =>
          intro x2 x3 a_p1 H locs ls hf hP hD hS hl
          have hf := (m_X1_fillWords_w22.eq_2 _ _ _ _ _ _ _ _ _).symm.trans hf
          refine lv_iload_n hx hb dX1_fillWords_22 rfl (lv_at hl 3 rfl) ?_
          refine lv_aload_n hx hb dX1_fillWords_23 rfl (lv_at hl 0 rfl) ?_
          refine z_get (ci := 1) (C := RX1) (T := TX1) (N := 4) (v := .ref (r_t 2)) hx hb hts inT_X1 hown hK hP 0 rfl rfl 2 (by decide) tf_X1_18 rfl dX1_fillWords_24 ?_
          refine lv_iload_n hx hb dX1_fillWords_27 rfl (lv_at hl 2 rfl) ?_
          refine z_iald hx hb hK hP 3 rfl dX1_fillWords_28 hf (fun y2 hf => ?_)
          refine z_icmp_ge (tgt := 63) hx hb dX1_fillWords_29 (by decide) hf (fun hf => ?_) (fun hf => ?_)
          · exact L63 x2 a_p1 _ _ _ hf hP hD hS (lv_sub hl [0, 1, 2] rfl)
          · refine lv_aload_n hx hb dX1_fillWords_32 rfl (lv_at hl 0 rfl) ?_
            refine z_get (ci := 1) (C := RX1) (T := TX1) (N := 4) (v := .ref (r_t 1)) hx hb hts inT_X1 hown hK hP 0 rfl rfl 1 (by decide) tf_X1_15 rfl dX1_fillWords_33 ?_
            refine lv_iload_n hx hb dX1_fillWords_36 rfl (lv_at hl 2 rfl) ?_
            refine lv_bipush (v := 6) hx hb dX1_fillWords_37 (by decide) ?_
            refine lv_imul hx hb dX1_fillWords_39 ?_
            refine lv_iload_n hx hb dX1_fillWords_40 rfl (lv_at hl 3 rfl) ?_
            refine lv_iadd hx hb dX1_fillWords_41 ?_
            refine z_iald hx hb hK hP 2 rfl dX1_fillWords_42 hf (fun y4 hf => ?_)
            refine lv_istore (lv' := [(4, .int y4), (0, .ref h_t), (1, .ref h_p1), (2, .int x2), (3, .int x3)]) hx hb dX1_fillWords_43 hl (by decide) rfl (fun ls hl => ?_)
            refine lv_aload_n hx hb dX1_fillWords_45 rfl (lv_at hl 2 rfl) ?_
            refine lv_iload hx hb dX1_fillWords_46 (lv_at hl 0 rfl) ?_
            refine lv_bipush (v := 100) hx hb dX1_fillWords_48 (by decide) ?_
            refine lv_idiv hx hb dX1_fillWords_50 (by decide) ?_
            refine lv_iload hx hb dX1_fillWords_51 (lv_at hl 0 rfl) ?_
            refine lv_bipush (v := 100) hx hb dX1_fillWords_53 (by decide) ?_
            refine lv_irem hx hb dX1_fillWords_55 (by decide) ?_
            refine z_iast hx hb hK hP hD hS 4 rfl (fun z => w_X1_fillWords h_t h_p1 r_t cI n_p1 a_media a_stores a_held z) (fun _ => rfl) dX1_fillWords_56 hf (fun a5 H locs hf hP hD hS => ?_)
            refine z_iinc (k0 := 4) (fun z => [(3, .int z), (4, .int y4), (0, .ref h_t), (1, .ref h_p1), (2, .int x2)]) hx hb dX1_fillWords_57 hl rfl (by decide) (by decide) (fun _ => rfl) hf (fun v6 ls hf hl => ?_)
            refine lv_goto (tgt := 22) hx hb dX1_fillWords_60 (by decide) ?_
            exact ih22 x2 v6 a5 _ _ _ hf hP hD hS (lv_sub hl [2, 3, 4, 0] rfl)
      refine lv_iload_n hx hb dX1_fillWords_14 rfl (lv_at hl 2 rfl) ?_
      refine lv_bipush (v := 16) hx hb dX1_fillWords_15 (by decide) ?_
      refine z_icmp_ge (tgt := 69) hx hb dX1_fillWords_17 (by decide) hf (fun hf => ?_) (fun hf => ?_)
      · exact hret a_p1 _ _ _ _ hf hP hD hS dX1_fillWords_69
      · refine lv_iconst (v := 0) hx hb dX1_fillWords_20 (by decide) ?_
        refine lv_istore_n (lv' := [(3, .int 0), (0, .ref h_t), (1, .ref h_p1), (2, .int x2)]) hx hb dX1_fillWords_21 rfl hl (by decide) rfl (fun ls hl => ?_)
        exact L22 fuelN x2 0 a_p1 _ _ _ hf hP hD hS (lv_sub hl [1, 2, 3, 0] rfl)
  refine lv_aload_n hx hb dX1_fillWords_0 rfl (lv_at hl 0 rfl) ?_
  refine z_get (ci := 1) (C := RX1) (T := TX1) (N := 4) (v := .ref (r_t 0)) hx hb hts inT_X1 hown hK hP 0 rfl rfl 0 (by decide) tf_X1_9 rfl dX1_fillWords_1 ?_
  refine lv_iconst (v := 0) hx hb dX1_fillWords_4 (by decide) ?_
  refine lv_aload_n hx hb dX1_fillWords_5 rfl (lv_at hl 1 rfl) ?_
  refine lv_iconst (v := 0) hx hb dX1_fillWords_6 (by decide) ?_
  refine lv_bipush (v := 64) hx hb dX1_fillWords_7 (by decide) ?_
  refine z_copy (rest := []) hx hb (hml.trans hl.1.symm) hown hts tl_X1_24 tnat_copy ts_copy tn_J10 hK hP hD hS 1 4 rfl rfl (fun z => w_X1_fillWords h_t h_p1 r_t cI n_p1 a_media a_stores a_held z) (fun _ => rfl) (Nat.le_of_ble_eq_true rfl) (by decide) dX1_fillWords_9 hf (fun a1 H locs hf hP hD hS => ?_)
  refine lv_iconst (v := 0) hx hb dX1_fillWords_12 (by decide) ?_
  refine lv_istore_n (lv' := [(2, .int 0), (0, .ref h_t), (1, .ref h_p1)]) hx hb dX1_fillWords_13 rfl hl (by decide) rfl (fun ls hl => ?_)
  exact L14 fuelN 0 a1 _ _ _ hf hP hD hS (lv_sub hl [1, 2, 0] rfl)
abbrev w_X11_isBlockAddress (cI : ClassId) : va_W := []
abbrev rm_X11_isBlockAddress : Room := { frames := 0, cells := 0, slots := 0, locals := 0 }
def m_X11_isBlockAddress (p0 : Int32) : Option (Int32) :=
  if p0 < 24 then (
  some 0)
  else (
  if 64 ≤ p0 then (
  some 0)
  else (
  if (p0 - p0 / 4 * 4) = 0 then (
  some 1)
  else (
  some 0)))
set_option maxHeartbeats 4000000 in
set_option maxRecDepth 100000 in
theorem c_X11_isBlockAddress (l : Launch) (D : va_G) (cI : ClassId) (p0 : Int32) (Rr : Int32) (hf : m_X11_isBlockAddress p0 = some Rr) : CTi l yX11_isBlockAddress (Cond.code yX11_isBlockAddress cX11_isBlockAddress 1 (some .boolean)) rm_X11_isBlockAddress D cI [.int p0] (w_X11_isBlockAddress cI) Rr (w_X11_isBlockAddress cI) := by
  refine z_begin_z (own := RX11) (ρ := Int32) (fun u => w_X11_isBlockAddress cI) (fun u => u) (by decide +kernel) rfl (Nat.le_of_ble_eq_true rfl) ?_
  intro p e s m args below meth c ls Q A hx hb hml hts hcx hown hK hX hA hP hD hS hl hret
  have hl : lv_has ls 1 [(0, .int p0)] := hl
  have hf := (m_X11_isBlockAddress.eq_1 _).symm.trans hf
  refine lv_iload_n hx hb dX11_isBlockAddress_0 rfl (lv_at hl 0 rfl) ?_
  refine lv_bipush (v := 24) hx hb dX11_isBlockAddress_1 (by decide) ?_
  refine z_icmp_lt (tgt := 22) hx hb dX11_isBlockAddress_3 (by decide) hf (fun hf => ?_) (fun hf => ?_)
  · refine lv_iconst (v := 0) hx hb dX11_isBlockAddress_22 (by decide) ?_
    exact hret 0 _ _ _ _ (Or.inl rfl) hf hP hD hS dX11_isBlockAddress_23
  · refine lv_iload_n hx hb dX11_isBlockAddress_6 rfl (lv_at hl 0 rfl) ?_
    refine lv_bipush (v := 64) hx hb dX11_isBlockAddress_7 (by decide) ?_
    refine z_icmp_ge (tgt := 22) hx hb dX11_isBlockAddress_9 (by decide) hf (fun hf => ?_) (fun hf => ?_)
    · refine lv_iconst (v := 0) hx hb dX11_isBlockAddress_22 (by decide) ?_
      exact hret 0 _ _ _ _ (Or.inl rfl) hf hP hD hS dX11_isBlockAddress_23
    · refine lv_iload_n hx hb dX11_isBlockAddress_12 rfl (lv_at hl 0 rfl) ?_
      refine lv_iconst (v := 4) hx hb dX11_isBlockAddress_13 (by decide) ?_
      refine lv_irem hx hb dX11_isBlockAddress_14 (by decide) ?_
      refine z_if_ne (tgt := 22) hx hb dX11_isBlockAddress_15 (by decide) hf (fun hf => ?_) (fun hf => ?_)
      · refine lv_iconst (v := 0) hx hb dX11_isBlockAddress_22 (by decide) ?_
        exact hret 0 _ _ _ _ (Or.inl rfl) hf hP hD hS dX11_isBlockAddress_23
      · refine lv_iconst (v := 1) hx hb dX11_isBlockAddress_18 (by decide) ?_
        refine lv_goto (tgt := 23) hx hb dX11_isBlockAddress_19 (by decide) ?_
        exact hret 1 _ _ _ _ (Or.inr rfl) hf hP hD hS dX11_isBlockAddress_23
abbrev w_X7_follow (h_t : Nat) (h_p1 : Nat) (r_t : Nat → Nat) (F_t : Nat → Int32) (cI : ClassId) (n_p1 : Nat) (a_p1 : Nat → Int32) : va_W := [(h_t, .inr (7, o_X7 r_t F_t)), (h_p1, .inl (cI, n_p1, .inl a_p1))]
abbrev rm_X7_follow : Room := { frames := 1, cells := 0, slots := 0, locals := 20 }
def m_X7_follow_j114 (a_p1 : Nat → Int32) (n_p1 : Nat) (p2 : Int32) (x3 : Int32) (F_t : Nat → Int32) : Option ((Nat → Int32)) :=
  nm (upd F_t 0 ((F_t 0) ||| x3)) fun F2 =>
  some F2
def m_X7_follow_j80 (a_p1 : Nat → Int32) (n_p1 : Nat) (p2 : Int32) (x3 : Int32) (F_t : Nat → Int32) : Option ((Nat → Int32)) :=
  nm (upd F_t 4 ((F_t 4) ||| ((1 : Int32) <<< (p2 &&& 31)))) fun F7 =>
  m_X7_follow_j114 a_p1 n_p1 p2 x3 F7
def m_X7_follow_j58 (a_p1 : Nat → Int32) (n_p1 : Nat) (p2 : Int32) (x3 : Int32) (F_t : Nat → Int32) : Option ((Nat → Int32)) :=
  nm (upd F_t 3 ((F_t 3) ||| ((1 : Int32) <<< (p2 &&& 31)))) fun F8 =>
  m_X7_follow_j114 a_p1 n_p1 p2 x3 F8
def m_X7_follow_j46 (a_p1 : Nat → Int32) (n_p1 : Nat) (p2 : Int32) (k13 : Int32 → Int32 → Int32 → (Nat → Int32) → Option ((Nat → Int32))) (k58 : Int32 → (Nat → Int32) → Option ((Nat → Int32))) (k80 : Int32 → (Nat → Int32) → Option ((Nat → Int32))) (x3 : Int32) (x4 : Int32) (x5 : Int32) (s0 : Int32) (F_t : Nat → Int32) : Option ((Nat → Int32)) :=
  if ((F_t 2) &&& s0) = 0 then (
  k58 x3 F_t)
  else (
  if (x3 &&& s0) = 0 then (
  nm (x3 ||| s0) fun v4 =>
  rd a_p1 n_p1 (x4 + 1) fun y5 =>
  nm (x5 + 1) fun v6 =>
  k13 v4 y5 v6 F_t)
  else (
  k80 x3 F_t))
def m_X7_follow_w13 (a_p1 : Nat → Int32) (n_p1 : Nat) (p2 : Int32) (k58 : Int32 → (Nat → Int32) → Option ((Nat → Int32))) (k80 : Int32 → (Nat → Int32) → Option ((Nat → Int32))) (k114 : Int32 → (Nat → Int32) → Option ((Nat → Int32))) : Nat → Int32 → Int32 → Int32 → (Nat → Int32) → Option ((Nat → Int32))
  | 0, _, _, _, _ => none
  | n13 + 1, x3, x4, x5, F_t =>
    if 10 < x5 then (
    k114 x3 F_t)
    else (
    if x4 = 0 then (
    k114 x3 F_t)
    else (
    bd (m_X11_isBlockAddress x4) fun u3 =>
    if u3 = 0 then (
    m_X7_follow_j46 a_p1 n_p1 p2 (m_X7_follow_w13 a_p1 n_p1 p2 k58 k80 k114 n13) k58 k80 x3 x4 x5 0 F_t)
    else (
    m_X7_follow_j46 a_p1 n_p1 p2 (m_X7_follow_w13 a_p1 n_p1 p2 k58 k80 k114 n13) k58 k80 x3 x4 x5 ((1 : Int32) <<< (((x4 - 24) / 4) &&& 31)) F_t)))
def m_X7_follow (F_t : Nat → Int32) (a_p1 : Nat → Int32) (n_p1 : Nat) (p2 : Int32) : Option ((Nat → Int32)) :=
  rd a_p1 n_p1 (20 + p2) fun y1 =>
  m_X7_follow_w13 a_p1 n_p1 p2 (m_X7_follow_j58 a_p1 n_p1 p2) (m_X7_follow_j80 a_p1 n_p1 p2) (m_X7_follow_j114 a_p1 n_p1 p2) fuelN 0 y1 0 F_t
set_option maxHeartbeats 4000000 in
set_option maxRecDepth 100000 in
theorem c_X7_follow (l : Launch) (D : va_G) (cI : ClassId) (h_t : Nat) (h_p1 : Nat) (r_t : Nat → Nat) (F_t : Nat → Int32) (n_p1 : Nat) (a_p1 : Nat → Int32) (p2 : Int32) (Rr : (Nat → Int32)) (hf : m_X7_follow F_t a_p1 n_p1 p2 = some Rr) : CTv l yX7_follow (Cond.code yX7_follow cX7_follow 7 none) rm_X7_follow D cI [.ref h_t, .ref h_p1, .int p2] (w_X7_follow h_t h_p1 r_t F_t cI n_p1 a_p1) (w_X7_follow h_t h_p1 r_t Rr cI n_p1 a_p1) := by
  refine z_begin_v (own := RX7) (ρ := (Nat → Int32)) (fun u => w_X7_follow h_t h_p1 r_t u cI n_p1 a_p1) (by decide +kernel) rfl (Nat.le_of_ble_eq_true rfl) ?_
  intro p e s m args below meth c ls Q A hx hb hml hts hcx hown hK hX hA hP hD hS hl hret
  have hl : lv_has ls 7 [(0, .ref h_t), (1, .ref h_p1), (2, .int p2)] := hl
  have hf := (m_X7_follow.eq_1 _ _ _ _).symm.trans hf
  have L114 : ∀ (x3 : Int32) (F_t : Nat → Int32) (H : Heap) (locs : List Loc) (ls : Array Slot), m_X7_follow_j114 a_p1 n_p1 p2 x3 F_t = some Rr → va_P D vwCl (w_X7_follow h_t h_p1 r_t F_t cI n_p1 a_p1) H → va_D A (w_X7_follow h_t h_p1 r_t F_t cI n_p1 a_p1) → va_S A s.heap H locs → lv_has ls 7 [(0, .ref h_t), (3, .int x3)] → W p l e rm_X7_follow s m args below meth c H locs 0 0 Q (F0 m 114 ls []) := by
    intro x3 F_t H locs ls hf hP hD hS hl
    have hf := (m_X7_follow_j114.eq_1 _ _ _ _ _).symm.trans hf
    refine lv_aload_n hx hb dX7_follow_114 rfl (lv_at hl 0 rfl) ?_
    refine lv_dup hx hb dX7_follow_115 rfl ?_
    refine z_get (ci := 7) (C := RX7) (T := TX7) (N := 5) (v := .int (F_t 0)) hx hb hts inT_X7 hown hK hP 0 rfl rfl 0 (by decide) tf_X7_9 rfl dX7_follow_116 ?_
    refine lv_iload_n hx hb dX7_follow_119 rfl (lv_at hl 1 rfl) ?_
    refine lv_ior hx hb dX7_follow_120 ?_
    refine z_put (ci := 7) (C := RX7) (T := TX7) (N := 5) hx hb hts inT_X7 tyX7 tyX7_ok nmX7 hown hK hP hD hS 0 rfl rfl 0 (by decide) tf_X7_9 rfl (by decide +kernel) (Nat.le_of_ble_eq_true rfl) (o_X7 r_t) (o_X7_s0 _ _ _) (fun z => w_X7_follow h_t h_p1 r_t z cI n_p1 a_p1) (fun _ => rfl) dX7_follow_121 hf (fun F2 H locs hf hP hD hS => ?_)
    exact hret F2 _ _ _ _ hf hP hD hS dX7_follow_124
  have L80 : ∀ (x3 : Int32) (F_t : Nat → Int32) (H : Heap) (locs : List Loc) (ls : Array Slot), m_X7_follow_j80 a_p1 n_p1 p2 x3 F_t = some Rr → va_P D vwCl (w_X7_follow h_t h_p1 r_t F_t cI n_p1 a_p1) H → va_D A (w_X7_follow h_t h_p1 r_t F_t cI n_p1 a_p1) → va_S A s.heap H locs → lv_has ls 7 [(0, .ref h_t), (2, .int p2), (3, .int x3)] → W p l e rm_X7_follow s m args below meth c H locs 0 0 Q (F0 m 80 ls []) := by
    intro x3 F_t H locs ls hf hP hD hS hl
    have hf := (m_X7_follow_j80.eq_1 _ _ _ _ _).symm.trans hf
    refine lv_aload_n hx hb dX7_follow_80 rfl (lv_at hl 0 rfl) ?_
    refine lv_dup hx hb dX7_follow_81 rfl ?_
    refine z_get (ci := 7) (C := RX7) (T := TX7) (N := 5) (v := .int (F_t 4)) hx hb hts inT_X7 hown hK hP 0 rfl rfl 4 (by decide) tf_X7_24 rfl dX7_follow_82 ?_
    refine lv_iconst (v := 1) hx hb dX7_follow_85 (by decide) ?_
    refine lv_iload_n hx hb dX7_follow_86 rfl (lv_at hl 1 rfl) ?_
    refine lv_ishl hx hb dX7_follow_87 ?_
    refine lv_ior hx hb dX7_follow_88 ?_
    refine z_put (ci := 7) (C := RX7) (T := TX7) (N := 5) hx hb hts inT_X7 tyX7 tyX7_ok nmX7 hown hK hP hD hS 0 rfl rfl 4 (by decide) tf_X7_24 rfl (by decide +kernel) (Nat.le_of_ble_eq_true rfl) (o_X7 r_t) (o_X7_s4 _ _ _) (fun z => w_X7_follow h_t h_p1 r_t z cI n_p1 a_p1) (fun _ => rfl) dX7_follow_89 hf (fun F7 H locs hf hP hD hS => ?_)
    refine lv_goto (tgt := 114) hx hb dX7_follow_92 (by decide) ?_
    exact L114 x3 F7 _ _ _ hf hP hD hS (lv_sub hl [0, 2] rfl)
  have L58 : ∀ (x3 : Int32) (F_t : Nat → Int32) (H : Heap) (locs : List Loc) (ls : Array Slot), m_X7_follow_j58 a_p1 n_p1 p2 x3 F_t = some Rr → va_P D vwCl (w_X7_follow h_t h_p1 r_t F_t cI n_p1 a_p1) H → va_D A (w_X7_follow h_t h_p1 r_t F_t cI n_p1 a_p1) → va_S A s.heap H locs → lv_has ls 7 [(0, .ref h_t), (2, .int p2), (3, .int x3)] → W p l e rm_X7_follow s m args below meth c H locs 0 0 Q (F0 m 58 ls []) := by
    intro x3 F_t H locs ls hf hP hD hS hl
    have hf := (m_X7_follow_j58.eq_1 _ _ _ _ _).symm.trans hf
    refine lv_aload_n hx hb dX7_follow_58 rfl (lv_at hl 0 rfl) ?_
    refine lv_dup hx hb dX7_follow_59 rfl ?_
    refine z_get (ci := 7) (C := RX7) (T := TX7) (N := 5) (v := .int (F_t 3)) hx hb hts inT_X7 hown hK hP 0 rfl rfl 3 (by decide) tf_X7_21 rfl dX7_follow_60 ?_
    refine lv_iconst (v := 1) hx hb dX7_follow_63 (by decide) ?_
    refine lv_iload_n hx hb dX7_follow_64 rfl (lv_at hl 1 rfl) ?_
    refine lv_ishl hx hb dX7_follow_65 ?_
    refine lv_ior hx hb dX7_follow_66 ?_
    refine z_put (ci := 7) (C := RX7) (T := TX7) (N := 5) hx hb hts inT_X7 tyX7 tyX7_ok nmX7 hown hK hP hD hS 0 rfl rfl 3 (by decide) tf_X7_21 rfl (by decide +kernel) (Nat.le_of_ble_eq_true rfl) (o_X7 r_t) (o_X7_s3 _ _ _) (fun z => w_X7_follow h_t h_p1 r_t z cI n_p1 a_p1) (fun _ => rfl) dX7_follow_67 hf (fun F8 H locs hf hP hD hS => ?_)
    refine lv_goto (tgt := 114) hx hb dX7_follow_70 (by decide) ?_
    exact L114 x3 F8 _ _ _ hf hP hD hS (lv_sub hl [0, 2] rfl)
  have L13 : ∀ (n13 : Nat) (x3 : Int32) (x4 : Int32) (x5 : Int32) (F_t : Nat → Int32) (H : Heap) (locs : List Loc) (ls : Array Slot), m_X7_follow_w13 a_p1 n_p1 p2 (m_X7_follow_j58 a_p1 n_p1 p2) (m_X7_follow_j80 a_p1 n_p1 p2) (m_X7_follow_j114 a_p1 n_p1 p2) n13 x3 x4 x5 F_t = some Rr → va_P D vwCl (w_X7_follow h_t h_p1 r_t F_t cI n_p1 a_p1) H → va_D A (w_X7_follow h_t h_p1 r_t F_t cI n_p1 a_p1) → va_S A s.heap H locs → lv_has ls 7 [(0, .ref h_t), (1, .ref h_p1), (2, .int p2), (3, .int x3), (4, .int x4), (5, .int x5)] → W p l e rm_X7_follow s m args below meth c H locs 0 0 Q (F0 m 13 ls []) := by
    intro n13
    induction n13 with
    | zero => intro x3 x4 x5 F_t H locs ls hf; cases (show (none : Option _) = some Rr from hf)
    | succ n13 ih13 =>
      intro x3 x4 x5 F_t H locs ls hf hP hD hS hl
      have hf := (m_X7_follow_w13.eq_2 _ _ _ _ _ _ _ _ _ _ _).symm.trans hf
      have L46 : ∀ (x3 : Int32) (x4 : Int32) (x5 : Int32) (s0 : Int32) (F_t : Nat → Int32) (H : Heap) (locs : List Loc) (ls : Array Slot), m_X7_follow_j46 a_p1 n_p1 p2 (m_X7_follow_w13 a_p1 n_p1 p2 (m_X7_follow_j58 a_p1 n_p1 p2) (m_X7_follow_j80 a_p1 n_p1 p2) (m_X7_follow_j114 a_p1 n_p1 p2) n13) (m_X7_follow_j58 a_p1 n_p1 p2) (m_X7_follow_j80 a_p1 n_p1 p2) x3 x4 x5 s0 F_t = some Rr → va_P D vwCl (w_X7_follow h_t h_p1 r_t F_t cI n_p1 a_p1) H → va_D A (w_X7_follow h_t h_p1 r_t F_t cI n_p1 a_p1) → va_S A s.heap H locs → lv_has ls 7 [(0, .ref h_t), (1, .ref h_p1), (2, .int p2), (3, .int x3), (4, .int x4), (5, .int x5)] → W p l e rm_X7_follow s m args below meth c H locs 0 0 Q (F0 m 46 ls [.int s0]) := by
        intro x3 x4 x5 s0 F_t H locs ls hf hP hD hS hl
        have hf := (m_X7_follow_j46.eq_1 _ _ _ _ _ _ _ _ _ _ _).symm.trans hf
        refine lv_istore (lv' := [(6, .int s0), (0, .ref h_t), (1, .ref h_p1), (2, .int p2), (3, .int x3), (4, .int x4), (5, .int x5)]) hx hb dX7_follow_46 hl (by decide) rfl (fun ls hl => ?_)
        refine lv_aload_n hx hb dX7_follow_48 rfl (lv_at hl 1 rfl) ?_
        refine z_get (ci := 7) (C := RX7) (T := TX7) (N := 5) (v := .int (F_t 2)) hx hb hts inT_X7 hown hK hP 0 rfl rfl 2 (by decide) tf_X7_18 rfl dX7_follow_49 ?_
        refine lv_iload hx hb dX7_follow_52 (lv_at hl 0 rfl) ?_
        refine lv_iand hx hb dX7_follow_54 ?_
        refine z_if_ne (tgt := 73) hx hb dX7_follow_55 (by decide) hf (fun hf => ?_) (fun hf => ?_)
        · refine lv_iload_n hx hb dX7_follow_73 rfl (lv_at hl 4 rfl) ?_
          refine lv_iload hx hb dX7_follow_74 (lv_at hl 0 rfl) ?_
          refine lv_iand hx hb dX7_follow_76 ?_
          refine z_if_eq (tgt := 95) hx hb dX7_follow_77 (by decide) hf (fun hf => ?_) (fun hf => ?_)
          · refine lv_iload_n hx hb dX7_follow_95 rfl (lv_at hl 4 rfl) ?_
            refine lv_iload hx hb dX7_follow_96 (lv_at hl 0 rfl) ?_
            refine lv_ior hx hb dX7_follow_98 ?_
            refine z_istore_n (fun z => [(3, .int z), (6, .int s0), (0, .ref h_t), (1, .ref h_p1), (2, .int p2), (4, .int x4), (5, .int x5)]) hx hb dX7_follow_99 rfl hl (by decide) (fun _ => rfl) hf (fun v4 ls hf hl => ?_)
            refine lv_aload_n hx hb dX7_follow_100 rfl (lv_at hl 3 rfl) ?_
            refine lv_iload hx hb dX7_follow_101 (lv_at hl 5 rfl) ?_
            refine lv_iconst (v := 1) hx hb dX7_follow_103 (by decide) ?_
            refine lv_iadd hx hb dX7_follow_104 ?_
            refine z_iald hx hb hK hP 1 rfl dX7_follow_105 hf (fun y5 hf => ?_)
            refine lv_istore (lv' := [(4, .int y5), (3, .int v4), (6, .int s0), (0, .ref h_t), (1, .ref h_p1), (2, .int p2), (5, .int x5)]) hx hb dX7_follow_106 hl (by decide) rfl (fun ls hl => ?_)
            refine z_iinc (k0 := 6) (fun z => [(5, .int z), (4, .int y5), (3, .int v4), (6, .int s0), (0, .ref h_t), (1, .ref h_p1), (2, .int p2)]) hx hb dX7_follow_108 hl rfl (by decide) (by decide) (fun _ => rfl) hf (fun v6 ls hf hl => ?_)
            refine lv_goto (tgt := 13) hx hb dX7_follow_111 (by decide) ?_
            exact ih13 v4 y5 v6 F_t _ _ _ hf hP hD hS (lv_sub hl [4, 5, 6, 2, 1, 0] rfl)
          · exact L80 x3 F_t _ _ _ hf hP hD hS (lv_sub hl [1, 3, 4] rfl)
        · exact L58 x3 F_t _ _ _ hf hP hD hS (lv_sub hl [1, 3, 4] rfl)
      refine lv_iload hx hb dX7_follow_13 (lv_at hl 5 rfl) ?_
      refine lv_bipush (v := 10) hx hb dX7_follow_15 (by decide) ?_
      refine z_icmp_gt (tgt := 114) hx hb dX7_follow_17 (by decide) hf (fun hf => ?_) (fun hf => ?_)
      · exact L114 x3 F_t _ _ _ hf hP hD hS (lv_sub hl [0, 3] rfl)
      · refine lv_iload hx hb dX7_follow_20 (lv_at hl 4 rfl) ?_
        refine z_if_eq (tgt := 114) hx hb dX7_follow_22 (by decide) hf (fun hf => ?_) (fun hf => ?_)
        · exact L114 x3 F_t _ _ _ hf hP hD hS (lv_sub hl [0, 3] rfl)
        · refine lv_iload hx hb dX7_follow_25 (lv_at hl 4 rfl) ?_
          obtain ⟨u3, hu3, hf⟩ := bd_some hf
          refine z_ci (ws1 := w_X7_follow h_t h_p1 r_t F_t cI n_p1 a_p1) (wr := List.filterMap (fun i : Nat => (w_X7_follow h_t h_p1 r_t F_t cI n_p1 a_p1)[i]?) [0, 1]) (z_rN (rest := []) hx hb hml hown hcx hl.1 (c_X11_isBlockAddress l D cI x4 u3 hu3 _) tl_X7_35 ts_X11_isBlockAddress tn_X11 tc_X11_isBlockAddress tm_X11_isBlockAddress rfl rfl ⟨Nat.le_of_ble_eq_true rfl, Nat.le_of_ble_eq_true rfl⟩ hK hX hS hA hP hD [] rfl rfl rfl rfl (Nat.le_of_ble_eq_true rfl) dX7_follow_27 ⟨Nat.zero_le _, Nat.zero_le _⟩) hP hD hS hA [] [0, 1] [0, 1] rfl rfl rfl (by decide) rfl rfl (fun H locs hP hD hS => ?_)
          refine z_if_eq (tgt := 45) hx hb dX7_follow_30 (by decide) hf (fun hf => ?_) (fun hf => ?_)
          · refine lv_iconst (v := 0) hx hb dX7_follow_45 (by decide) ?_
            exact L46 x3 x4 x5 0 F_t _ _ _ hf hP hD hS (lv_sub hl [0, 1, 2, 3, 4, 5] rfl)
          · refine lv_iconst (v := 1) hx hb dX7_follow_33 (by decide) ?_
            refine lv_iload hx hb dX7_follow_34 (lv_at hl 4 rfl) ?_
            refine lv_bipush (v := 24) hx hb dX7_follow_36 (by decide) ?_
            refine lv_isub hx hb dX7_follow_38 ?_
            refine lv_iconst (v := 4) hx hb dX7_follow_39 (by decide) ?_
            refine lv_idiv hx hb dX7_follow_40 (by decide) ?_
            refine lv_ishl hx hb dX7_follow_41 ?_
            refine lv_goto (tgt := 46) hx hb dX7_follow_42 (by decide) ?_
            exact L46 x3 x4 x5 ((1 : Int32) <<< (((x4 - 24) / 4) &&& 31)) F_t _ _ _ hf hP hD hS (lv_sub hl [0, 1, 2, 3, 4, 5] rfl)
  refine lv_iconst (v := 0) hx hb dX7_follow_0 (by decide) ?_
  refine lv_istore_n (lv' := [(3, .int 0), (0, .ref h_t), (1, .ref h_p1), (2, .int p2)]) hx hb dX7_follow_1 rfl hl (by decide) rfl (fun ls hl => ?_)
  refine lv_aload_n hx hb dX7_follow_2 rfl (lv_at hl 2 rfl) ?_
  refine lv_bipush (v := 20) hx hb dX7_follow_3 (by decide) ?_
  refine lv_iload_n hx hb dX7_follow_5 rfl (lv_at hl 3 rfl) ?_
  refine lv_iadd hx hb dX7_follow_6 ?_
  refine z_iald hx hb hK hP 1 rfl dX7_follow_7 hf (fun y1 hf => ?_)
  refine lv_istore (lv' := [(4, .int y1), (3, .int 0), (0, .ref h_t), (1, .ref h_p1), (2, .int p2)]) hx hb dX7_follow_8 hl (by decide) rfl (fun ls hl => ?_)
  refine lv_iconst (v := 0) hx hb dX7_follow_10 (by decide) ?_
  refine lv_istore (lv' := [(5, .int 0), (4, .int y1), (3, .int 0), (0, .ref h_t), (1, .ref h_p1), (2, .int p2)]) hx hb dX7_follow_11 hl (by decide) rfl (fun ls hl => ?_)
  exact L13 fuelN 0 y1 0 F_t _ _ _ hf hP hD hS (lv_sub hl [3, 4, 5, 2, 1, 0] rfl)
abbrev w_X7_survey (h_t : Nat) (h_p1 : Nat) (r_t : Nat → Nat) (F_t : Nat → Int32) (cI : ClassId) (n_p1 : Nat) (a_p1 : Nat → Int32) : va_W := [(h_t, .inr (7, o_X7 r_t F_t)), (h_p1, .inl (cI, n_p1, .inl a_p1))]
abbrev rm_X7_survey : Room := { frames := 2, cells := 0, slots := 0, locals := 46 }
def m_X7_survey_j79 (a_p1 : Nat → Int32) (n_p1 : Nat) (F_t : Nat → Int32) : Option ((Nat → Int32)) :=
  nm (upd F_t 1 ((F_t 2) &&& ((F_t 0) ^^^ (-1)))) fun F5 =>
  some F5
def m_X7_survey_w62 (a_p1 : Nat → Int32) (n_p1 : Nat) (k79 : (Nat → Int32) → Option ((Nat → Int32))) : Nat → Int32 → (Nat → Int32) → Option ((Nat → Int32))
  | 0, _, _ => none
  | n62 + 1, x2, F_t =>
    if 4 ≤ x2 then (
    k79 F_t)
    else (
    bd (m_X7_follow F_t a_p1 n_p1 x2) fun u6 =>
    nm (x2 + 1) fun v7 =>
    m_X7_survey_w62 a_p1 n_p1 k79 n62 v7 u6)
def m_X7_survey_j45 (a_p1 : Nat → Int32) (n_p1 : Nat) (F_t : Nat → Int32) : Option ((Nat → Int32)) :=
  nm (upd F_t 0 0) fun F2 =>
  nm (upd F2 3 0) fun F3 =>
  nm (upd F3 4 0) fun F4 =>
  m_X7_survey_w62 a_p1 n_p1 (m_X7_survey_j79 a_p1 n_p1) fuelN 0 F4
def m_X7_survey_j35 (a_p1 : Nat → Int32) (n_p1 : Nat) (k7 : Int32 → (Nat → Int32) → Option ((Nat → Int32))) (x2 : Int32) (s1 : Int32) (s2 : Int32) (F_t : Nat → Int32) : Option ((Nat → Int32)) :=
  nm (upd F_t 2 (s1 ||| s2)) fun F10 =>
  nm (x2 + 1) fun v11 =>
  k7 v11 F10
def m_X7_survey_w7 (a_p1 : Nat → Int32) (n_p1 : Nat) (k45 : (Nat → Int32) → Option ((Nat → Int32))) : Nat → Int32 → (Nat → Int32) → Option ((Nat → Int32))
  | 0, _, _ => none
  | n7 + 1, x2, F_t =>
    if 10 ≤ x2 then (
    k45 F_t)
    else (
    bd (m_X11_blockAddress x2) fun u8 =>
    rd a_p1 n_p1 u8 fun y9 =>
    if y9 = 1 then (
    m_X7_survey_j35 a_p1 n_p1 (m_X7_survey_w7 a_p1 n_p1 k45 n7) x2 (F_t 2) ((1 : Int32) <<< (x2 &&& 31)) F_t)
    else (
    m_X7_survey_j35 a_p1 n_p1 (m_X7_survey_w7 a_p1 n_p1 k45 n7) x2 (F_t 2) 0 F_t))
def m_X7_survey (F_t : Nat → Int32) (a_p1 : Nat → Int32) (n_p1 : Nat) : Option ((Nat → Int32)) :=
  nm (upd F_t 2 0) fun F1 =>
  m_X7_survey_w7 a_p1 n_p1 (m_X7_survey_j45 a_p1 n_p1) fuelN 0 F1
set_option maxHeartbeats 4000000 in
set_option maxRecDepth 100000 in
theorem c_X7_survey (l : Launch) (D : va_G) (cI : ClassId) (h_t : Nat) (h_p1 : Nat) (r_t : Nat → Nat) (F_t : Nat → Int32) (n_p1 : Nat) (a_p1 : Nat → Int32) (Rr : (Nat → Int32)) (hf : m_X7_survey F_t a_p1 n_p1 = some Rr) : CTv l yX7_survey (Cond.code yX7_survey cX7_survey 3 none) rm_X7_survey D cI [.ref h_t, .ref h_p1] (w_X7_survey h_t h_p1 r_t F_t cI n_p1 a_p1) (w_X7_survey h_t h_p1 r_t Rr cI n_p1 a_p1) := by
  refine z_begin_v (own := RX7) (ρ := (Nat → Int32)) (fun u => w_X7_survey h_t h_p1 r_t u cI n_p1 a_p1) (by decide +kernel) rfl (Nat.le_of_ble_eq_true rfl) ?_
  intro p e s m args below meth c ls Q A hx hb hml hts hcx hown hK hX hA hP hD hS hl hret
  have hl : lv_has ls 3 [(0, .ref h_t), (1, .ref h_p1)] := hl
  have hf := (m_X7_survey.eq_1 _ _ _).symm.trans hf
  have L79 : ∀ (F_t : Nat → Int32) (H : Heap) (locs : List Loc) (ls : Array Slot), m_X7_survey_j79 a_p1 n_p1 F_t = some Rr → va_P D vwCl (w_X7_survey h_t h_p1 r_t F_t cI n_p1 a_p1) H → va_D A (w_X7_survey h_t h_p1 r_t F_t cI n_p1 a_p1) → va_S A s.heap H locs → lv_has ls 3 [(0, .ref h_t)] → W p l e rm_X7_survey s m args below meth c H locs 0 0 Q (F0 m 79 ls []) := by
    intro F_t H locs ls hf hP hD hS hl
    have hf := (m_X7_survey_j79.eq_1 _ _ _).symm.trans hf
    refine lv_aload_n hx hb dX7_survey_79 rfl (lv_at hl 0 rfl) ?_
    refine lv_aload_n hx hb dX7_survey_80 rfl (lv_at hl 0 rfl) ?_
    refine z_get (ci := 7) (C := RX7) (T := TX7) (N := 5) (v := .int (F_t 2)) hx hb hts inT_X7 hown hK hP 0 rfl rfl 2 (by decide) tf_X7_18 rfl dX7_survey_81 ?_
    refine lv_aload_n hx hb dX7_survey_84 rfl (lv_at hl 0 rfl) ?_
    refine z_get (ci := 7) (C := RX7) (T := TX7) (N := 5) (v := .int (F_t 0)) hx hb hts inT_X7 hown hK hP 0 rfl rfl 0 (by decide) tf_X7_9 rfl dX7_survey_85 ?_
    refine lv_iconst (v := (-1)) hx hb dX7_survey_88 (by decide) ?_
    refine lv_ixor hx hb dX7_survey_89 ?_
    refine lv_iand hx hb dX7_survey_90 ?_
    refine z_put (ci := 7) (C := RX7) (T := TX7) (N := 5) hx hb hts inT_X7 tyX7 tyX7_ok nmX7 hown hK hP hD hS 0 rfl rfl 1 (by decide) tf_X7_15 rfl (by decide +kernel) (Nat.le_of_ble_eq_true rfl) (o_X7 r_t) (o_X7_s1 _ _ _) (fun z => w_X7_survey h_t h_p1 r_t z cI n_p1 a_p1) (fun _ => rfl) dX7_survey_91 hf (fun F5 H locs hf hP hD hS => ?_)
    exact hret F5 _ _ _ _ hf hP hD hS dX7_survey_94
  have L62 : ∀ (n62 : Nat) (x2 : Int32) (F_t : Nat → Int32) (H : Heap) (locs : List Loc) (ls : Array Slot), m_X7_survey_w62 a_p1 n_p1 (m_X7_survey_j79 a_p1 n_p1) n62 x2 F_t = some Rr → va_P D vwCl (w_X7_survey h_t h_p1 r_t F_t cI n_p1 a_p1) H → va_D A (w_X7_survey h_t h_p1 r_t F_t cI n_p1 a_p1) → va_S A s.heap H locs → lv_has ls 3 [(0, .ref h_t), (1, .ref h_p1), (2, .int x2)] → W p l e rm_X7_survey s m args below meth c H locs 0 0 Q (F0 m 62 ls []) := by
    intro n62
    induction n62 with
    | zero => intro x2 F_t H locs ls hf; cases (show (none : Option _) = some Rr from hf)
    | succ n62 ih62 =>
      intro x2 F_t H locs ls hf hP hD hS hl
      have hf := (m_X7_survey_w62.eq_2 _ _ _ _ _ _).symm.trans hf
      refine lv_iload_n hx hb dX7_survey_62 rfl (lv_at hl 2 rfl) ?_
      refine lv_iconst (v := 4) hx hb dX7_survey_63 (by decide) ?_
      refine z_icmp_ge (tgt := 79) hx hb dX7_survey_64 (by decide) hf (fun hf => ?_) (fun hf => ?_)
      · exact L79 F_t _ _ _ hf hP hD hS (lv_sub hl [0] rfl)
      · refine lv_aload_n hx hb dX7_survey_67 rfl (lv_at hl 0 rfl) ?_
        refine lv_aload_n hx hb dX7_survey_68 rfl (lv_at hl 1 rfl) ?_
        refine lv_iload_n hx hb dX7_survey_69 rfl (lv_at hl 2 rfl) ?_
        obtain ⟨u6, hu6, hf⟩ := bd_some hf
        refine z_cv (ws1 := w_X7_survey h_t h_p1 r_t u6 cI n_p1 a_p1) (wr := List.filterMap (fun i : Nat => (w_X7_survey h_t h_p1 r_t F_t cI n_p1 a_p1)[i]?) []) (z_rV (rest := []) hx hb hml hown hcx hl.1 (c_X7_follow l D cI h_t h_p1 r_t F_t n_p1 a_p1 x2 u6 hu6 _) tl_X7_31 ti_X7_follow tz_X7_follow tn_X7 tc_X7_follow tm_X7_follow rfl rfl ⟨Nat.le_of_ble_eq_true rfl, Nat.le_of_ble_eq_true rfl⟩ hK hX hS hA hP hD [0, 1] rfl rfl 0 rfl rfl rfl rfl (Nat.le_of_ble_eq_true rfl) dX7_survey_70 ⟨Nat.zero_le _, Nat.zero_le _⟩) hP hD hS hA [0, 1] [] [0, 1] rfl rfl rfl (by decide) rfl rfl (fun H locs hP hD hS => ?_)
        refine z_iinc (k0 := 2) (fun z => [(2, .int z), (0, .ref h_t), (1, .ref h_p1)]) hx hb dX7_survey_73 hl rfl (by decide) (by decide) (fun _ => rfl) hf (fun v7 ls hf hl => ?_)
        refine lv_goto (tgt := 62) hx hb dX7_survey_76 (by decide) ?_
        exact ih62 v7 u6 _ _ _ hf hP hD hS (lv_sub hl [1, 2, 0] rfl)
  have L45 : ∀ (F_t : Nat → Int32) (H : Heap) (locs : List Loc) (ls : Array Slot), m_X7_survey_j45 a_p1 n_p1 F_t = some Rr → va_P D vwCl (w_X7_survey h_t h_p1 r_t F_t cI n_p1 a_p1) H → va_D A (w_X7_survey h_t h_p1 r_t F_t cI n_p1 a_p1) → va_S A s.heap H locs → lv_has ls 3 [(0, .ref h_t), (1, .ref h_p1)] → W p l e rm_X7_survey s m args below meth c H locs 0 0 Q (F0 m 45 ls []) := by
    intro F_t H locs ls hf hP hD hS hl
    have hf := (m_X7_survey_j45.eq_1 _ _ _).symm.trans hf
    refine lv_aload_n hx hb dX7_survey_45 rfl (lv_at hl 0 rfl) ?_
    refine lv_iconst (v := 0) hx hb dX7_survey_46 (by decide) ?_
    refine z_put (ci := 7) (C := RX7) (T := TX7) (N := 5) hx hb hts inT_X7 tyX7 tyX7_ok nmX7 hown hK hP hD hS 0 rfl rfl 0 (by decide) tf_X7_9 rfl (by decide +kernel) (Nat.le_of_ble_eq_true rfl) (o_X7 r_t) (o_X7_s0 _ _ _) (fun z => w_X7_survey h_t h_p1 r_t z cI n_p1 a_p1) (fun _ => rfl) dX7_survey_47 hf (fun F2 H locs hf hP hD hS => ?_)
    refine lv_aload_n hx hb dX7_survey_50 rfl (lv_at hl 0 rfl) ?_
    refine lv_iconst (v := 0) hx hb dX7_survey_51 (by decide) ?_
    refine z_put (ci := 7) (C := RX7) (T := TX7) (N := 5) hx hb hts inT_X7 tyX7 tyX7_ok nmX7 hown hK hP hD hS 0 rfl rfl 3 (by decide) tf_X7_21 rfl (by decide +kernel) (Nat.le_of_ble_eq_true rfl) (o_X7 r_t) (o_X7_s3 _ _ _) (fun z => w_X7_survey h_t h_p1 r_t z cI n_p1 a_p1) (fun _ => rfl) dX7_survey_52 hf (fun F3 H locs hf hP hD hS => ?_)
    refine lv_aload_n hx hb dX7_survey_55 rfl (lv_at hl 0 rfl) ?_
    refine lv_iconst (v := 0) hx hb dX7_survey_56 (by decide) ?_
    refine z_put (ci := 7) (C := RX7) (T := TX7) (N := 5) hx hb hts inT_X7 tyX7 tyX7_ok nmX7 hown hK hP hD hS 0 rfl rfl 4 (by decide) tf_X7_24 rfl (by decide +kernel) (Nat.le_of_ble_eq_true rfl) (o_X7 r_t) (o_X7_s4 _ _ _) (fun z => w_X7_survey h_t h_p1 r_t z cI n_p1 a_p1) (fun _ => rfl) dX7_survey_57 hf (fun F4 H locs hf hP hD hS => ?_)
    refine lv_iconst (v := 0) hx hb dX7_survey_60 (by decide) ?_
    refine lv_istore_n (lv' := [(2, .int 0), (0, .ref h_t), (1, .ref h_p1)]) hx hb dX7_survey_61 rfl hl (by decide) rfl (fun ls hl => ?_)
    exact L62 fuelN 0 F4 _ _ _ hf hP hD hS (lv_sub hl [1, 2, 0] rfl)
  have L7 : ∀ (n7 : Nat) (x2 : Int32) (F_t : Nat → Int32) (H : Heap) (locs : List Loc) (ls : Array Slot), m_X7_survey_w7 a_p1 n_p1 (m_X7_survey_j45 a_p1 n_p1) n7 x2 F_t = some Rr → va_P D vwCl (w_X7_survey h_t h_p1 r_t F_t cI n_p1 a_p1) H → va_D A (w_X7_survey h_t h_p1 r_t F_t cI n_p1 a_p1) → va_S A s.heap H locs → lv_has ls 3 [(0, .ref h_t), (1, .ref h_p1), (2, .int x2)] → W p l e rm_X7_survey s m args below meth c H locs 0 0 Q (F0 m 7 ls []) := by
    intro n7
    induction n7 with
    | zero => intro x2 F_t H locs ls hf; cases (show (none : Option _) = some Rr from hf)
    | succ n7 ih7 =>
      intro x2 F_t H locs ls hf hP hD hS hl
      have hf := (m_X7_survey_w7.eq_2 _ _ _ _ _ _).symm.trans hf
      have L35 : ∀ (x2 : Int32) (s1 : Int32) (s2 : Int32) (F_t : Nat → Int32) (H : Heap) (locs : List Loc) (ls : Array Slot), m_X7_survey_j35 a_p1 n_p1 (m_X7_survey_w7 a_p1 n_p1 (m_X7_survey_j45 a_p1 n_p1) n7) x2 s1 s2 F_t = some Rr → va_P D vwCl (w_X7_survey h_t h_p1 r_t F_t cI n_p1 a_p1) H → va_D A (w_X7_survey h_t h_p1 r_t F_t cI n_p1 a_p1) → va_S A s.heap H locs → lv_has ls 3 [(0, .ref h_t), (1, .ref h_p1), (2, .int x2)] → W p l e rm_X7_survey s m args below meth c H locs 0 0 Q (F0 m 35 ls [.int s2, .int s1, .ref h_t]) := by
        intro x2 s1 s2 F_t H locs ls hf hP hD hS hl
        have hf := (m_X7_survey_j35.eq_1 _ _ _ _ _ _ _).symm.trans hf
        refine lv_ior hx hb dX7_survey_35 ?_
        refine z_put (ci := 7) (C := RX7) (T := TX7) (N := 5) hx hb hts inT_X7 tyX7 tyX7_ok nmX7 hown hK hP hD hS 0 rfl rfl 2 (by decide) tf_X7_18 rfl (by decide +kernel) (Nat.le_of_ble_eq_true rfl) (o_X7 r_t) (o_X7_s2 _ _ _) (fun z => w_X7_survey h_t h_p1 r_t z cI n_p1 a_p1) (fun _ => rfl) dX7_survey_36 hf (fun F10 H locs hf hP hD hS => ?_)
        refine z_iinc (k0 := 2) (fun z => [(2, .int z), (0, .ref h_t), (1, .ref h_p1)]) hx hb dX7_survey_39 hl rfl (by decide) (by decide) (fun _ => rfl) hf (fun v11 ls hf hl => ?_)
        refine lv_goto (tgt := 7) hx hb dX7_survey_42 (by decide) ?_
        exact ih7 v11 F10 _ _ _ hf hP hD hS (lv_sub hl [1, 2, 0] rfl)
      refine lv_iload_n hx hb dX7_survey_7 rfl (lv_at hl 2 rfl) ?_
      refine lv_bipush (v := 10) hx hb dX7_survey_8 (by decide) ?_
      refine z_icmp_ge (tgt := 45) hx hb dX7_survey_10 (by decide) hf (fun hf => ?_) (fun hf => ?_)
      · exact L45 F_t _ _ _ hf hP hD hS (lv_sub hl [0, 1] rfl)
      · refine lv_aload_n hx hb dX7_survey_13 rfl (lv_at hl 0 rfl) ?_
        refine lv_dup hx hb dX7_survey_14 rfl ?_
        refine z_get (ci := 7) (C := RX7) (T := TX7) (N := 5) (v := .int (F_t 2)) hx hb hts inT_X7 hown hK hP 0 rfl rfl 2 (by decide) tf_X7_18 rfl dX7_survey_15 ?_
        refine lv_aload_n hx hb dX7_survey_18 rfl (lv_at hl 1 rfl) ?_
        refine lv_iload_n hx hb dX7_survey_19 rfl (lv_at hl 2 rfl) ?_
        obtain ⟨u8, hu8, hf⟩ := bd_some hf
        refine z_ci (ws1 := w_X7_survey h_t h_p1 r_t F_t cI n_p1 a_p1) (wr := List.filterMap (fun i : Nat => (w_X7_survey h_t h_p1 r_t F_t cI n_p1 a_p1)[i]?) [0, 1]) (z_rN (rest := [.ref h_p1, .int (F_t 2), .ref h_t]) hx hb hml hown hcx hl.1 (c_X11_blockAddress l D cI x2 u8 hu8 _) tl_X7_27 ts_X11_blockAddress tn_X11 tc_X11_blockAddress tm_X11_blockAddress rfl rfl ⟨Nat.le_of_ble_eq_true rfl, Nat.le_of_ble_eq_true rfl⟩ hK hX hS hA hP hD [] rfl rfl rfl rfl (Nat.le_of_ble_eq_true rfl) dX7_survey_20 ⟨Nat.zero_le _, Nat.zero_le _⟩) hP hD hS hA [] [0, 1] [0, 1] rfl rfl rfl (by decide) rfl rfl (fun H locs hP hD hS => ?_)
        refine z_iald hx hb hK hP 1 rfl dX7_survey_23 hf (fun y9 hf => ?_)
        refine lv_iconst (v := 1) hx hb dX7_survey_24 (by decide) ?_
        refine z_icmp_ne (tgt := 34) hx hb dX7_survey_25 (by decide) hf (fun hf => ?_) (fun hf => ?_)
        · refine lv_iconst (v := 0) hx hb dX7_survey_34 (by decide) ?_
          exact L35 x2 (F_t 2) 0 F_t _ _ _ hf hP hD hS (lv_sub hl [0, 1, 2] rfl)
        · refine lv_iconst (v := 1) hx hb dX7_survey_28 (by decide) ?_
          refine lv_iload_n hx hb dX7_survey_29 rfl (lv_at hl 2 rfl) ?_
          refine lv_ishl hx hb dX7_survey_30 ?_
          refine lv_goto (tgt := 35) hx hb dX7_survey_31 (by decide) ?_
          exact L35 x2 (F_t 2) ((1 : Int32) <<< (x2 &&& 31)) F_t _ _ _ hf hP hD hS (lv_sub hl [0, 1, 2] rfl)
  refine lv_aload_n hx hb dX7_survey_0 rfl (lv_at hl 0 rfl) ?_
  refine lv_iconst (v := 0) hx hb dX7_survey_1 (by decide) ?_
  refine z_put (ci := 7) (C := RX7) (T := TX7) (N := 5) hx hb hts inT_X7 tyX7 tyX7_ok nmX7 hown hK hP hD hS 0 rfl rfl 2 (by decide) tf_X7_18 rfl (by decide +kernel) (Nat.le_of_ble_eq_true rfl) (o_X7 r_t) (o_X7_s2 _ _ _) (fun z => w_X7_survey h_t h_p1 r_t z cI n_p1 a_p1) (fun _ => rfl) dX7_survey_2 hf (fun F1 H locs hf hP hD hS => ?_)
  refine lv_iconst (v := 0) hx hb dX7_survey_5 (by decide) ?_
  refine lv_istore_n (lv' := [(2, .int 0), (0, .ref h_t), (1, .ref h_p1)]) hx hb dX7_survey_6 rfl hl (by decide) rfl (fun ls hl => ?_)
  exact L7 fuelN 0 F1 _ _ _ hf hP hD hS (lv_sub hl [1, 2, 0] rfl)
abbrev w_X9_start (h_t : Nat) (h_p1 : Nat) (r_t : Nat → Nat) (r_p1 : Nat → Nat) (cI : ClassId) (a_row : Nat → Int32) (a_picture : Nat → Int32) (a_p1_media : Nat → Int32) : va_W := [(h_t, .inr (9, o_X9 r_t)), ((r_t 0), .inl (cI, 16, .inl a_row)), ((r_t 1), .inl (cI, 64, .inl a_picture)), (h_p1, .inr (1, o_X1 r_p1)), ((r_p1 0), .inl (cI, 64, .inl a_p1_media))]
abbrev rm_X9_start : Room := { frames := 1, cells := 0, slots := 0, locals := 40 }
def m_X9_start (a_row : Nat → Int32) (a_picture : Nat → Int32) (a_p1_media : Nat → Int32) : Option ((Nat → Int32) × (Nat → Int32)) :=
  bd (m_J7_fill_53178 a_row 16 0) fun u1 =>
  cp a_p1_media a_picture 64 64 0 0 64 fun a2 =>
  some (u1, a2)
set_option maxHeartbeats 4000000 in
set_option maxRecDepth 100000 in
theorem c_X9_start (l : Launch) (D : va_G) (cI : ClassId) (h_t : Nat) (h_p1 : Nat) (r_t : Nat → Nat) (r_p1 : Nat → Nat) (a_row : Nat → Int32) (a_picture : Nat → Int32) (a_p1_media : Nat → Int32) (Rr : (Nat → Int32) × (Nat → Int32)) (hf : m_X9_start a_row a_picture a_p1_media = some Rr) : CTv l yX9_start (Cond.code yX9_start cX9_start 2 none) rm_X9_start D cI [.ref h_t, .ref h_p1] (w_X9_start h_t h_p1 r_t r_p1 cI a_row a_picture a_p1_media) (w_X9_start h_t h_p1 r_t r_p1 cI Rr.1 Rr.2 a_p1_media) := by
  refine z_begin_v (own := RX9) (ρ := (Nat → Int32) × (Nat → Int32)) (fun u => w_X9_start h_t h_p1 r_t r_p1 cI u.1 u.2 a_p1_media) (by decide +kernel) rfl (Nat.le_of_ble_eq_true rfl) ?_
  intro p e s m args below meth c ls Q A hx hb hml hts hcx hown hK hX hA hP hD hS hl hret
  have hl : lv_has ls 2 [(0, .ref h_t), (1, .ref h_p1)] := hl
  have hf := (m_X9_start.eq_1 _ _ _).symm.trans hf
  refine lv_aload_n hx hb dX9_start_0 rfl (lv_at hl 0 rfl) ?_
  refine z_get (ci := 9) (C := RX9) (T := TX9) (N := 3) (v := .ref (r_t 0)) hx hb hts inT_X9 hown hK hP 0 rfl rfl 0 (by decide) tf_X9_9 rfl dX9_start_1 ?_
  refine lv_iconst (v := 0) hx hb dX9_start_4 (by decide) ?_
  obtain ⟨u1, hu1, hf⟩ := bd_some hf
  refine z_cv (ws1 := w_X9_start h_t h_p1 r_t r_p1 cI u1 a_picture a_p1_media) (wr := List.filterMap (fun i : Nat => (w_X9_start h_t h_p1 r_t r_p1 cI a_row a_picture a_p1_media)[i]?) [0, 2, 3, 4]) (z_rS (rest := []) hx hb hml hown hcx hl.1 (c_J7_fill_53178 l D cI (r_t 0) 16 a_row 0 u1 hu1 _) tl_X9_21 ts_J7_fill_53178 tn_J7 tc_J7_fill_53178 tm_J7_fill_53178 rfl rfl ⟨Nat.le_of_ble_eq_true rfl, Nat.le_of_ble_eq_true rfl⟩ hK hX hS hA hP hD [1] rfl rfl rfl rfl (Nat.le_of_ble_eq_true rfl) dX9_start_5 ⟨Nat.zero_le _, Nat.zero_le _⟩) hP hD hS hA [1] [0, 2, 3, 4] [0, 4, 1, 2, 3] rfl rfl rfl (by decide) rfl rfl (fun H locs hP hD hS => ?_)
  refine lv_aload_n hx hb dX9_start_8 rfl (lv_at hl 1 rfl) ?_
  refine z_get (ci := 1) (C := RX1) (T := TX1) (N := 4) (v := .ref (r_p1 0)) hx hb hts inT_X1 hown hK hP 3 rfl rfl 0 (by decide) tf_X9_27 rfl dX9_start_9 ?_
  refine lv_iconst (v := 0) hx hb dX9_start_12 (by decide) ?_
  refine lv_aload_n hx hb dX9_start_13 rfl (lv_at hl 0 rfl) ?_
  refine z_get (ci := 9) (C := RX9) (T := TX9) (N := 3) (v := .ref (r_t 1)) hx hb hts inT_X9 hown hK hP 0 rfl rfl 1 (by decide) tf_X9_15 rfl dX9_start_14 ?_
  refine lv_iconst (v := 0) hx hb dX9_start_17 (by decide) ?_
  refine lv_bipush (v := 64) hx hb dX9_start_18 (by decide) ?_
  refine z_copy (rest := []) hx hb (hml.trans hl.1.symm) hown hts tl_X9_32 tnat_copy ts_copy tn_J10 hK hP hD hS 4 2 rfl rfl (fun z => w_X9_start h_t h_p1 r_t r_p1 cI u1 z a_p1_media) (fun _ => rfl) (Nat.le_of_ble_eq_true rfl) (by decide) dX9_start_20 hf (fun a2 H locs hf hP hD hS => ?_)
  exact hret (u1, a2) _ _ _ _ hf hP hD hS dX9_start_23
abbrev w_X11_entryPlace (cI : ClassId) : va_W := []
abbrev rm_X11_entryPlace : Room := { frames := 0, cells := 0, slots := 0, locals := 0 }
def m_X11_entryPlace (p0 : Int32) (p1 : Int32) (p2 : Int32) : Option (Int32) :=
  if p2 = 0 then (
  some (4 + (2 * ((p1 - 1) - p0))))
  else (
  some (4 + (2 * p0)))
set_option maxHeartbeats 4000000 in
set_option maxRecDepth 100000 in
theorem c_X11_entryPlace (l : Launch) (D : va_G) (cI : ClassId) (p0 : Int32) (p1 : Int32) (p2 : Int32) (Rr : Int32) (hf : m_X11_entryPlace p0 p1 p2 = some Rr) : CTi l yX11_entryPlace (Cond.code yX11_entryPlace cX11_entryPlace 3 (some .int)) rm_X11_entryPlace D cI [.int p0, .int p1, .int p2] (w_X11_entryPlace cI) Rr (w_X11_entryPlace cI) := by
  refine z_begin_i (own := RX11) (ρ := Int32) (fun u => w_X11_entryPlace cI) (fun u => u) (by decide +kernel) rfl (Nat.le_of_ble_eq_true rfl) ?_
  intro p e s m args below meth c ls Q A hx hb hml hts hcx hown hK hX hA hP hD hS hl hret
  have hl : lv_has ls 3 [(0, .int p0), (1, .int p1), (2, .int p2)] := hl
  have hf := (m_X11_entryPlace.eq_1 _ _ _).symm.trans hf
  refine lv_iconst (v := 4) hx hb dX11_entryPlace_0 (by decide) ?_
  refine lv_iconst (v := 2) hx hb dX11_entryPlace_1 (by decide) ?_
  refine lv_iload_n hx hb dX11_entryPlace_2 rfl (lv_at hl 2 rfl) ?_
  refine z_if_ne (tgt := 14) hx hb dX11_entryPlace_3 (by decide) hf (fun hf => ?_) (fun hf => ?_)
  · refine lv_iload_n hx hb dX11_entryPlace_14 rfl (lv_at hl 0 rfl) ?_
    refine lv_imul hx hb dX11_entryPlace_15 ?_
    refine lv_iadd hx hb dX11_entryPlace_16 ?_
    exact hret (4 + (2 * p0)) _ _ _ _ hf hP hD hS dX11_entryPlace_17
  · refine lv_iload_n hx hb dX11_entryPlace_6 rfl (lv_at hl 1 rfl) ?_
    refine lv_iconst (v := 1) hx hb dX11_entryPlace_7 (by decide) ?_
    refine lv_isub hx hb dX11_entryPlace_8 ?_
    refine lv_iload_n hx hb dX11_entryPlace_9 rfl (lv_at hl 0 rfl) ?_
    refine lv_isub hx hb dX11_entryPlace_10 ?_
    refine lv_goto (tgt := 15) hx hb dX11_entryPlace_11 (by decide) ?_
    refine lv_imul hx hb dX11_entryPlace_15 ?_
    refine lv_iadd hx hb dX11_entryPlace_16 ?_
    exact hret (4 + (2 * ((p1 - 1) - p0))) _ _ _ _ hf hP hD hS dX11_entryPlace_17
abbrev w_X11_isHeapAddress (cI : ClassId) : va_W := []
abbrev rm_X11_isHeapAddress : Room := { frames := 0, cells := 0, slots := 0, locals := 0 }
def m_X11_isHeapAddress (p0 : Int32) : Option (Int32) :=
  if p0 < 20 then (
  some 0)
  else (
  if 64 ≤ p0 then (
  some 0)
  else (
  some 1))
set_option maxHeartbeats 4000000 in
set_option maxRecDepth 100000 in
theorem c_X11_isHeapAddress (l : Launch) (D : va_G) (cI : ClassId) (p0 : Int32) (Rr : Int32) (hf : m_X11_isHeapAddress p0 = some Rr) : CTi l yX11_isHeapAddress (Cond.code yX11_isHeapAddress cX11_isHeapAddress 1 (some .boolean)) rm_X11_isHeapAddress D cI [.int p0] (w_X11_isHeapAddress cI) Rr (w_X11_isHeapAddress cI) := by
  refine z_begin_z (own := RX11) (ρ := Int32) (fun u => w_X11_isHeapAddress cI) (fun u => u) (by decide +kernel) rfl (Nat.le_of_ble_eq_true rfl) ?_
  intro p e s m args below meth c ls Q A hx hb hml hts hcx hown hK hX hA hP hD hS hl hret
  have hl : lv_has ls 1 [(0, .int p0)] := hl
  have hf := (m_X11_isHeapAddress.eq_1 _).symm.trans hf
  refine lv_iload_n hx hb dX11_isHeapAddress_0 rfl (lv_at hl 0 rfl) ?_
  refine lv_bipush (v := 20) hx hb dX11_isHeapAddress_1 (by decide) ?_
  refine z_icmp_lt (tgt := 16) hx hb dX11_isHeapAddress_3 (by decide) hf (fun hf => ?_) (fun hf => ?_)
  · refine lv_iconst (v := 0) hx hb dX11_isHeapAddress_16 (by decide) ?_
    exact hret 0 _ _ _ _ (Or.inl rfl) hf hP hD hS dX11_isHeapAddress_17
  · refine lv_iload_n hx hb dX11_isHeapAddress_6 rfl (lv_at hl 0 rfl) ?_
    refine lv_bipush (v := 64) hx hb dX11_isHeapAddress_7 (by decide) ?_
    refine z_icmp_ge (tgt := 16) hx hb dX11_isHeapAddress_9 (by decide) hf (fun hf => ?_) (fun hf => ?_)
    · refine lv_iconst (v := 0) hx hb dX11_isHeapAddress_16 (by decide) ?_
      exact hret 0 _ _ _ _ (Or.inl rfl) hf hP hD hS dX11_isHeapAddress_17
    · refine lv_iconst (v := 1) hx hb dX11_isHeapAddress_12 (by decide) ?_
      refine lv_goto (tgt := 17) hx hb dX11_isHeapAddress_13 (by decide) ?_
      exact hret 1 _ _ _ _ (Or.inr rfl) hf hP hD hS dX11_isHeapAddress_17
abbrev w_X11_recoverWords (h_p0 : Nat) (cI : ClassId) (n_p0 : Nat) (a_p0 : Nat → Int32) : va_W := [(h_p0, .inl (cI, n_p0, .inl a_p0))]
abbrev rm_X11_recoverWords : Room := { frames := 1, cells := 0, slots := 0, locals := 22 }
def m_X11_recoverWords_j52 (n_p0 : Nat) (p1 : Int32) (a_p0 : Nat → Int32) : Option ((Nat → Int32)) :=
  wr a_p0 n_p0 0 0 fun a3 =>
  some a3
def m_X11_recoverWords_j46 (n_p0 : Nat) (p1 : Int32) (k11 : Int32 → Int32 → (Nat → Int32) → Option ((Nat → Int32))) (x2 : Int32) (x3 : Int32) (a_p0 : Nat → Int32) : Option ((Nat → Int32)) :=
  nm (x3 + 1) fun v7 =>
  k11 x2 v7 a_p0
def m_X11_recoverWords_w11 (n_p0 : Nat) (p1 : Int32) (k52 : (Nat → Int32) → Option ((Nat → Int32))) : Nat → Int32 → Int32 → (Nat → Int32) → Option ((Nat → Int32))
  | 0, _, _, _ => none
  | n11 + 1, x2, x3, a_p0 =>
    if x2 ≤ x3 then (
    k52 a_p0)
    else (
    bd (m_X11_entryPlace x3 x2 p1) fun u4 =>
    rd a_p0 n_p0 u4 fun y5 =>
    bd (m_X11_isHeapAddress y5) fun u6 =>
    if u6 = 0 then (
    m_X11_recoverWords_j46 n_p0 p1 (m_X11_recoverWords_w11 n_p0 p1 k52 n11) x2 x3 a_p0)
    else (
    rd a_p0 n_p0 u4 fun y8 =>
    rd a_p0 n_p0 (u4 + 1) fun y9 =>
    wr a_p0 n_p0 y8 y9 fun a10 =>
    m_X11_recoverWords_j46 n_p0 p1 (m_X11_recoverWords_w11 n_p0 p1 k52 n11) x2 x3 a10))
def m_X11_recoverWords (a_p0 : Nat → Int32) (n_p0 : Nat) (p1 : Int32) : Option ((Nat → Int32)) :=
  rd a_p0 n_p0 0 fun y1 =>
  nm (if 8 < y1 then 8 else y1) fun v2 =>
  m_X11_recoverWords_w11 n_p0 p1 (m_X11_recoverWords_j52 n_p0 p1) fuelN v2 0 a_p0
set_option maxHeartbeats 4000000 in
set_option maxRecDepth 100000 in
theorem c_X11_recoverWords (l : Launch) (D : va_G) (cI : ClassId) (h_p0 : Nat) (n_p0 : Nat) (a_p0 : Nat → Int32) (p1 : Int32) (Rr : (Nat → Int32)) (hf : m_X11_recoverWords a_p0 n_p0 p1 = some Rr) : CTv l yX11_recoverWords (Cond.code yX11_recoverWords cX11_recoverWords 5 none) rm_X11_recoverWords D cI [.ref h_p0, .int p1] (w_X11_recoverWords h_p0 cI n_p0 a_p0) (w_X11_recoverWords h_p0 cI n_p0 Rr) := by
  refine z_begin_v (own := RX11) (ρ := (Nat → Int32)) (fun u => w_X11_recoverWords h_p0 cI n_p0 u) (by decide +kernel) rfl (Nat.le_of_ble_eq_true rfl) ?_
  intro p e s m args below meth c ls Q A hx hb hml hts hcx hown hK hX hA hP hD hS hl hret
  have hl : lv_has ls 5 [(0, .ref h_p0), (1, .int p1)] := hl
  have hf := (m_X11_recoverWords.eq_1 _ _ _).symm.trans hf
  have L52 : ∀ (a_p0 : Nat → Int32) (H : Heap) (locs : List Loc) (ls : Array Slot), m_X11_recoverWords_j52 n_p0 p1 a_p0 = some Rr → va_P D vwCl (w_X11_recoverWords h_p0 cI n_p0 a_p0) H → va_D A (w_X11_recoverWords h_p0 cI n_p0 a_p0) → va_S A s.heap H locs → lv_has ls 5 [(0, .ref h_p0)] → W p l e rm_X11_recoverWords s m args below meth c H locs 0 0 Q (F0 m 52 ls []) := by
    intro a_p0 H locs ls hf hP hD hS hl
    have hf := (m_X11_recoverWords_j52.eq_1 _ _ _).symm.trans hf
    refine lv_aload_n hx hb dX11_recoverWords_52 rfl (lv_at hl 0 rfl) ?_
    refine lv_iconst (v := 0) hx hb dX11_recoverWords_53 (by decide) ?_
    refine lv_iconst (v := 0) hx hb dX11_recoverWords_54 (by decide) ?_
    refine z_iast hx hb hK hP hD hS 0 rfl (fun z => w_X11_recoverWords h_p0 cI n_p0 z) (fun _ => rfl) dX11_recoverWords_55 hf (fun a3 H locs hf hP hD hS => ?_)
    exact hret a3 _ _ _ _ hf hP hD hS dX11_recoverWords_56
  have L11 : ∀ (n11 : Nat) (x2 : Int32) (x3 : Int32) (a_p0 : Nat → Int32) (H : Heap) (locs : List Loc) (ls : Array Slot), m_X11_recoverWords_w11 n_p0 p1 (m_X11_recoverWords_j52 n_p0 p1) n11 x2 x3 a_p0 = some Rr → va_P D vwCl (w_X11_recoverWords h_p0 cI n_p0 a_p0) H → va_D A (w_X11_recoverWords h_p0 cI n_p0 a_p0) → va_S A s.heap H locs → lv_has ls 5 [(0, .ref h_p0), (1, .int p1), (2, .int x2), (3, .int x3)] → W p l e rm_X11_recoverWords s m args below meth c H locs 0 0 Q (F0 m 11 ls []) := by
    intro n11
    induction n11 with
    | zero => intro x2 x3 a_p0 H locs ls hf; cases (show (none : Option _) = some Rr from hf)
    | succ n11 ih11 =>
      intro x2 x3 a_p0 H locs ls hf hP hD hS hl
      have hf := (m_X11_recoverWords_w11.eq_2 _ _ _ _ _ _ _).symm.trans hf
      have L46 : ∀ (x2 : Int32) (x3 : Int32) (a_p0 : Nat → Int32) (H : Heap) (locs : List Loc) (ls : Array Slot), m_X11_recoverWords_j46 n_p0 p1 (m_X11_recoverWords_w11 n_p0 p1 (m_X11_recoverWords_j52 n_p0 p1) n11) x2 x3 a_p0 = some Rr → va_P D vwCl (w_X11_recoverWords h_p0 cI n_p0 a_p0) H → va_D A (w_X11_recoverWords h_p0 cI n_p0 a_p0) → va_S A s.heap H locs → lv_has ls 5 [(0, .ref h_p0), (1, .int p1), (2, .int x2), (3, .int x3)] → W p l e rm_X11_recoverWords s m args below meth c H locs 0 0 Q (F0 m 46 ls []) := by
        intro x2 x3 a_p0 H locs ls hf hP hD hS hl
        have hf := (m_X11_recoverWords_j46.eq_1 _ _ _ _ _ _).symm.trans hf
        refine z_iinc (k0 := 3) (fun z => [(3, .int z), (0, .ref h_p0), (1, .int p1), (2, .int x2)]) hx hb dX11_recoverWords_46 hl rfl (by decide) (by decide) (fun _ => rfl) hf (fun v7 ls hf hl => ?_)
        refine lv_goto (tgt := 11) hx hb dX11_recoverWords_49 (by decide) ?_
        exact ih11 x2 v7 a_p0 _ _ _ hf hP hD hS (lv_sub hl [1, 2, 3, 0] rfl)
      refine lv_iload_n hx hb dX11_recoverWords_11 rfl (lv_at hl 3 rfl) ?_
      refine lv_iload_n hx hb dX11_recoverWords_12 rfl (lv_at hl 2 rfl) ?_
      refine z_icmp_ge (tgt := 52) hx hb dX11_recoverWords_13 (by decide) hf (fun hf => ?_) (fun hf => ?_)
      · exact L52 a_p0 _ _ _ hf hP hD hS (lv_sub hl [0] rfl)
      · refine lv_iload_n hx hb dX11_recoverWords_16 rfl (lv_at hl 3 rfl) ?_
        refine lv_iload_n hx hb dX11_recoverWords_17 rfl (lv_at hl 2 rfl) ?_
        refine lv_iload_n hx hb dX11_recoverWords_18 rfl (lv_at hl 1 rfl) ?_
        obtain ⟨u4, hu4, hf⟩ := bd_some hf
        refine z_ci (ws1 := w_X11_recoverWords h_p0 cI n_p0 a_p0) (wr := List.filterMap (fun i : Nat => (w_X11_recoverWords h_p0 cI n_p0 a_p0)[i]?) [0]) (z_rS (rest := []) hx hb hml hown hcx hl.1 (c_X11_entryPlace l D cI x3 x2 p1 u4 hu4 _) tl_X11_394 ts_X11_entryPlace tn_X11 tc_X11_entryPlace tm_X11_entryPlace rfl rfl ⟨Nat.le_of_ble_eq_true rfl, Nat.le_of_ble_eq_true rfl⟩ hK hX hS hA hP hD [] rfl rfl rfl rfl (Nat.le_of_ble_eq_true rfl) dX11_recoverWords_19 ⟨Nat.zero_le _, Nat.zero_le _⟩) hP hD hS hA [] [0] [0] rfl rfl rfl (by decide) rfl rfl (fun H locs hP hD hS => ?_)
        refine lv_istore (lv' := [(4, .int u4), (0, .ref h_p0), (1, .int p1), (2, .int x2), (3, .int x3)]) hx hb dX11_recoverWords_22 hl (by decide) rfl (fun ls hl => ?_)
        refine lv_aload_n hx hb dX11_recoverWords_24 rfl (lv_at hl 1 rfl) ?_
        refine lv_iload hx hb dX11_recoverWords_25 (lv_at hl 0 rfl) ?_
        refine z_iald hx hb hK hP 0 rfl dX11_recoverWords_27 hf (fun y5 hf => ?_)
        obtain ⟨u6, hu6, hf⟩ := bd_some hf
        refine z_ci (ws1 := w_X11_recoverWords h_p0 cI n_p0 a_p0) (wr := List.filterMap (fun i : Nat => (w_X11_recoverWords h_p0 cI n_p0 a_p0)[i]?) [0]) (z_rS (rest := []) hx hb hml hown hcx hl.1 (c_X11_isHeapAddress l D cI y5 u6 hu6 _) tl_X11_397 ts_X11_isHeapAddress tn_X11 tc_X11_isHeapAddress tm_X11_isHeapAddress rfl rfl ⟨Nat.le_of_ble_eq_true rfl, Nat.le_of_ble_eq_true rfl⟩ hK hX hS hA hP hD [] rfl rfl rfl rfl (Nat.le_of_ble_eq_true rfl) dX11_recoverWords_28 ⟨Nat.zero_le _, Nat.zero_le _⟩) hP hD hS hA [] [0] [0] rfl rfl rfl (by decide) rfl rfl (fun H locs hP hD hS => ?_)
        refine z_if_eq (tgt := 46) hx hb dX11_recoverWords_31 (by decide) hf (fun hf => ?_) (fun hf => ?_)
        · exact L46 x2 x3 a_p0 _ _ _ hf hP hD hS (lv_sub hl [1, 2, 3, 4] rfl)
        · refine lv_aload_n hx hb dX11_recoverWords_34 rfl (lv_at hl 1 rfl) ?_
          refine lv_aload_n hx hb dX11_recoverWords_35 rfl (lv_at hl 1 rfl) ?_
          refine lv_iload hx hb dX11_recoverWords_36 (lv_at hl 0 rfl) ?_
          refine z_iald hx hb hK hP 0 rfl dX11_recoverWords_38 hf (fun y8 hf => ?_)
          refine lv_aload_n hx hb dX11_recoverWords_39 rfl (lv_at hl 1 rfl) ?_
          refine lv_iload hx hb dX11_recoverWords_40 (lv_at hl 0 rfl) ?_
          refine lv_iconst (v := 1) hx hb dX11_recoverWords_42 (by decide) ?_
          refine lv_iadd hx hb dX11_recoverWords_43 ?_
          refine z_iald hx hb hK hP 0 rfl dX11_recoverWords_44 hf (fun y9 hf => ?_)
          refine z_iast hx hb hK hP hD hS 0 rfl (fun z => w_X11_recoverWords h_p0 cI n_p0 z) (fun _ => rfl) dX11_recoverWords_45 hf (fun a10 H locs hf hP hD hS => ?_)
          exact L46 x2 x3 a10 _ _ _ hf hP hD hS (lv_sub hl [1, 2, 3, 4] rfl)
  refine lv_aload_n hx hb dX11_recoverWords_0 rfl (lv_at hl 0 rfl) ?_
  refine lv_iconst (v := 0) hx hb dX11_recoverWords_1 (by decide) ?_
  refine z_iald hx hb hK hP 0 rfl dX11_recoverWords_2 hf (fun y1 hf => ?_)
  refine lv_bipush (v := 8) hx hb dX11_recoverWords_3 (by decide) ?_
  refine z_min (rest := []) hx hb (hml.trans hl.1.symm) hown hts tl_X11_391 ts_min tn_J9 tc_min (Nat.le_of_ble_eq_true rfl) (Nat.le_of_ble_eq_true rfl) ⟨Nat.zero_le _, Nat.zero_le _⟩ dX11_recoverWords_5 ?_
  refine z_istore_n (fun z => [(2, .int z), (0, .ref h_p0), (1, .int p1)]) hx hb dX11_recoverWords_8 rfl hl (by decide) (fun _ => rfl) hf (fun v2 ls hf hl => ?_)
  refine lv_iconst (v := 0) hx hb dX11_recoverWords_9 (by decide) ?_
  refine lv_istore_n (lv' := [(3, .int 0), (2, .int v2), (0, .ref h_p0), (1, .int p1)]) hx hb dX11_recoverWords_10 rfl hl (by decide) rfl (fun ls hl => ?_)
  exact L11 fuelN v2 0 a_p0 _ _ _ hf hP hD hS (lv_sub hl [2, 3, 1, 0] rfl)
abbrev w_X9_recoverPicture (h_t : Nat) (r_t : Nat → Nat) (cI : ClassId) (a_picture : Nat → Int32) (a_settled : Nat → Int32) : va_W := [(h_t, .inr (9, o_X9 r_t)), ((r_t 1), .inl (cI, 64, .inl a_picture)), ((r_t 2), .inl (cI, 64, .inl a_settled))]
abbrev rm_X9_recoverPicture : Room := { frames := 2, cells := 0, slots := 0, locals := 46 }
def m_X9_recoverPicture (a_picture : Nat → Int32) (a_settled : Nat → Int32) (p1 : Int32) : Option ((Nat → Int32)) :=
  cp a_picture a_settled 64 64 0 0 64 fun a1 =>
  bd (m_X11_recoverWords a1 64 p1) fun u2 =>
  some u2
set_option maxHeartbeats 4000000 in
set_option maxRecDepth 100000 in
theorem c_X9_recoverPicture (l : Launch) (D : va_G) (cI : ClassId) (h_t : Nat) (r_t : Nat → Nat) (a_picture : Nat → Int32) (a_settled : Nat → Int32) (p1 : Int32) (Rr : (Nat → Int32)) (hf : m_X9_recoverPicture a_picture a_settled p1 = some Rr) : CTv l yX9_recoverPicture (Cond.code yX9_recoverPicture cX9_recoverPicture 2 none) rm_X9_recoverPicture D cI [.ref h_t, .int p1] (w_X9_recoverPicture h_t r_t cI a_picture a_settled) (w_X9_recoverPicture h_t r_t cI a_picture Rr) := by
  refine z_begin_v (own := RX9) (ρ := (Nat → Int32)) (fun u => w_X9_recoverPicture h_t r_t cI a_picture u) (by decide +kernel) rfl (Nat.le_of_ble_eq_true rfl) ?_
  intro p e s m args below meth c ls Q A hx hb hml hts hcx hown hK hX hA hP hD hS hl hret
  have hl : lv_has ls 2 [(0, .ref h_t), (1, .int p1)] := hl
  have hf := (m_X9_recoverPicture.eq_1 _ _ _).symm.trans hf
  refine lv_aload_n hx hb dX9_recoverPicture_0 rfl (lv_at hl 0 rfl) ?_
  refine z_get (ci := 9) (C := RX9) (T := TX9) (N := 3) (v := .ref (r_t 1)) hx hb hts inT_X9 hown hK hP 0 rfl rfl 1 (by decide) tf_X9_15 rfl dX9_recoverPicture_1 ?_
  refine lv_iconst (v := 0) hx hb dX9_recoverPicture_4 (by decide) ?_
  refine lv_aload_n hx hb dX9_recoverPicture_5 rfl (lv_at hl 0 rfl) ?_
  refine z_get (ci := 9) (C := RX9) (T := TX9) (N := 3) (v := .ref (r_t 2)) hx hb hts inT_X9 hown hK hP 0 rfl rfl 2 (by decide) tf_X9_18 rfl dX9_recoverPicture_6 ?_
  refine lv_iconst (v := 0) hx hb dX9_recoverPicture_9 (by decide) ?_
  refine lv_bipush (v := 64) hx hb dX9_recoverPicture_10 (by decide) ?_
  refine z_copy (rest := []) hx hb (hml.trans hl.1.symm) hown hts tl_X9_32 tnat_copy ts_copy tn_J10 hK hP hD hS 1 2 rfl rfl (fun z => w_X9_recoverPicture h_t r_t cI a_picture z) (fun _ => rfl) (Nat.le_of_ble_eq_true rfl) (by decide) dX9_recoverPicture_12 hf (fun a1 H locs hf hP hD hS => ?_)
  refine lv_aload_n hx hb dX9_recoverPicture_15 rfl (lv_at hl 0 rfl) ?_
  refine z_get (ci := 9) (C := RX9) (T := TX9) (N := 3) (v := .ref (r_t 2)) hx hb hts inT_X9 hown hK hP 0 rfl rfl 2 (by decide) tf_X9_18 rfl dX9_recoverPicture_16 ?_
  refine lv_iload_n hx hb dX9_recoverPicture_19 rfl (lv_at hl 1 rfl) ?_
  obtain ⟨u2, hu2, hf⟩ := bd_some hf
  refine z_cv (ws1 := w_X9_recoverPicture h_t r_t cI a_picture u2) (wr := List.filterMap (fun i : Nat => (w_X9_recoverPicture h_t r_t cI a_picture a1)[i]?) [0, 1]) (z_rN (rest := []) hx hb hml hown hcx hl.1 (c_X11_recoverWords l D cI (r_t 2) 64 a1 p1 u2 hu2 _) tl_X9_52 ts_X11_recoverWords tn_X11 tc_X11_recoverWords tm_X11_recoverWords rfl rfl ⟨Nat.le_of_ble_eq_true rfl, Nat.le_of_ble_eq_true rfl⟩ hK hX hS hA hP hD [2] rfl rfl rfl rfl (Nat.le_of_ble_eq_true rfl) dX9_recoverPicture_20 ⟨Nat.zero_le _, Nat.zero_le _⟩) hP hD hS hA [2] [0, 1] [0, 1, 2] rfl rfl rfl (by decide) rfl rfl (fun H locs hP hD hS => ?_)
  exact hret u2 _ _ _ _ hf hP hD hS dX9_recoverPicture_23
abbrev w_X7_answer (h_t : Nat) (r_t : Nat → Nat) (F_t : Nat → Int32) (cI : ClassId) : va_W := [(h_t, .inr (7, o_X7 r_t F_t))]
abbrev rm_X7_answer : Room := { frames := 0, cells := 0, slots := 0, locals := 0 }
def m_X7_answer (F_t : Nat → Int32) (p1 : Int32) : Option (Int32) :=
  if p1 = 0 then (
  some (F_t 0))
  else (
  if p1 = 1 then (
  some (F_t 1))
  else (
  if p1 = 2 then (
  some (F_t 2))
  else (
  if p1 = 3 then (
  some (F_t 3))
  else (
  some (F_t 4)))))
set_option maxHeartbeats 4000000 in
set_option maxRecDepth 100000 in
theorem c_X7_answer (l : Launch) (D : va_G) (cI : ClassId) (h_t : Nat) (r_t : Nat → Nat) (F_t : Nat → Int32) (p1 : Int32) (Rr : Int32) (hf : m_X7_answer F_t p1 = some Rr) : CTi l yX7_answer (Cond.code yX7_answer cX7_answer 2 (some .int)) rm_X7_answer D cI [.ref h_t, .int p1] (w_X7_answer h_t r_t F_t cI) Rr (w_X7_answer h_t r_t F_t cI) := by
  refine z_begin_i (own := RX7) (ρ := Int32) (fun u => w_X7_answer h_t r_t F_t cI) (fun u => u) (by decide +kernel) rfl (Nat.le_of_ble_eq_true rfl) ?_
  intro p e s m args below meth c ls Q A hx hb hml hts hcx hown hK hX hA hP hD hS hl hret
  have hl : lv_has ls 2 [(0, .ref h_t), (1, .int p1)] := hl
  have hf := (m_X7_answer.eq_1 _ _).symm.trans hf
  refine lv_iload_n hx hb dX7_answer_0 rfl (lv_at hl 1 rfl) ?_
  refine z_tabin (v := 0) (off := 31) (tgt := 32) hx hb dX7_answer_1 (by decide) (by decide) (by decide) (by decide) hf (fun hf => ?_) (fun hn0 hf => ?_)
  · refine lv_aload_n hx hb dX7_answer_32 rfl (lv_at hl 0 rfl) ?_
    refine z_get (ci := 7) (C := RX7) (T := TX7) (N := 5) (v := .int (F_t 0)) hx hb hts inT_X7 hown hK hP 0 rfl rfl 0 (by decide) tf_X7_9 rfl dX7_answer_33 ?_
    exact hret (F_t 0) _ _ _ _ hf hP hD hS dX7_answer_36
  refine z_tabin (v := 1) (off := 36) (tgt := 37) hx hb dX7_answer_1 (by decide) (by decide) (by decide) (by decide) hf (fun hf => ?_) (fun hn1 hf => ?_)
  · refine lv_aload_n hx hb dX7_answer_37 rfl (lv_at hl 0 rfl) ?_
    refine z_get (ci := 7) (C := RX7) (T := TX7) (N := 5) (v := .int (F_t 1)) hx hb hts inT_X7 hown hK hP 0 rfl rfl 1 (by decide) tf_X7_15 rfl dX7_answer_38 ?_
    exact hret (F_t 1) _ _ _ _ hf hP hD hS dX7_answer_41
  refine z_tabin (v := 2) (off := 41) (tgt := 42) hx hb dX7_answer_1 (by decide) (by decide) (by decide) (by decide) hf (fun hf => ?_) (fun hn2 hf => ?_)
  · refine lv_aload_n hx hb dX7_answer_42 rfl (lv_at hl 0 rfl) ?_
    refine z_get (ci := 7) (C := RX7) (T := TX7) (N := 5) (v := .int (F_t 2)) hx hb hts inT_X7 hown hK hP 0 rfl rfl 2 (by decide) tf_X7_18 rfl dX7_answer_43 ?_
    exact hret (F_t 2) _ _ _ _ hf hP hD hS dX7_answer_46
  refine z_tabin (v := 3) (off := 46) (tgt := 47) hx hb dX7_answer_1 (by decide) (by decide) (by decide) (by decide) hf (fun hf => ?_) (fun hn3 hf => ?_)
  · refine lv_aload_n hx hb dX7_answer_47 rfl (lv_at hl 0 rfl) ?_
    refine z_get (ci := 7) (C := RX7) (T := TX7) (N := 5) (v := .int (F_t 3)) hx hb hts inT_X7 hown hK hP 0 rfl rfl 3 (by decide) tf_X7_21 rfl dX7_answer_48 ?_
    exact hret (F_t 3) _ _ _ _ hf hP hD hS dX7_answer_51
  refine z_tabout (tgt := 52) hx hb dX7_answer_1 (fun i h1 h2 => by rcases (show i = 0 ∨ i = 1 ∨ i = 2 ∨ i = 3 by omega) with rfl | rfl | rfl | rfl <;> first | exact hn0 | exact hn1 | exact hn2 | exact hn3) (by decide) ?_
  refine lv_aload_n hx hb dX7_answer_52 rfl (lv_at hl 0 rfl) ?_
  refine z_get (ci := 7) (C := RX7) (T := TX7) (N := 5) (v := .int (F_t 4)) hx hb hts inT_X7 hown hK hP 0 rfl rfl 4 (by decide) tf_X7_24 rfl dX7_answer_53 ?_
  exact hret (F_t 4) _ _ _ _ hf hP hD hS dX7_answer_56
abbrev w_X4_isIdle (h_t : Nat) (r_t : Nat → Nat) (F_t : Nat → Int32) (cI : ClassId) : va_W := [(h_t, .inr (4, o_X4 r_t F_t))]
abbrev rm_X4_isIdle : Room := { frames := 0, cells := 0, slots := 0, locals := 0 }
def m_X4_isIdle (F_t : Nat → Int32) : Option (Int32) :=
  if (F_t 2) = (F_t 3) then (
  some 1)
  else (
  some 0)
set_option maxHeartbeats 4000000 in
set_option maxRecDepth 100000 in
theorem c_X4_isIdle (l : Launch) (D : va_G) (cI : ClassId) (h_t : Nat) (r_t : Nat → Nat) (F_t : Nat → Int32) (Rr : Int32) (hf : m_X4_isIdle F_t = some Rr) : CTi l yX4_isIdle (Cond.code yX4_isIdle cX4_isIdle 1 (some .boolean)) rm_X4_isIdle D cI [.ref h_t] (w_X4_isIdle h_t r_t F_t cI) Rr (w_X4_isIdle h_t r_t F_t cI) := by
  refine z_begin_z (own := RX4) (ρ := Int32) (fun u => w_X4_isIdle h_t r_t F_t cI) (fun u => u) (by decide +kernel) rfl (Nat.le_of_ble_eq_true rfl) ?_
  intro p e s m args below meth c ls Q A hx hb hml hts hcx hown hK hX hA hP hD hS hl hret
  have hl : lv_has ls 1 [(0, .ref h_t)] := hl
  have hf := (m_X4_isIdle.eq_1 _).symm.trans hf
  refine lv_aload_n hx hb dX4_isIdle_0 rfl (lv_at hl 0 rfl) ?_
  refine z_get (ci := 4) (C := RX4) (T := TX4) (N := 12) (v := .int (F_t 2)) hx hb hts inT_X4 hown hK hP 0 rfl rfl 2 (by decide) tf_X4_22 rfl dX4_isIdle_1 ?_
  refine lv_aload_n hx hb dX4_isIdle_4 rfl (lv_at hl 0 rfl) ?_
  refine z_get (ci := 4) (C := RX4) (T := TX4) (N := 12) (v := .int (F_t 3)) hx hb hts inT_X4 hown hK hP 0 rfl rfl 3 (by decide) tf_X4_26 rfl dX4_isIdle_5 ?_
  refine z_icmp_ne (tgt := 15) hx hb dX4_isIdle_8 (by decide) hf (fun hf => ?_) (fun hf => ?_)
  · refine lv_iconst (v := 0) hx hb dX4_isIdle_15 (by decide) ?_
    exact hret 0 _ _ _ _ (Or.inl rfl) hf hP hD hS dX4_isIdle_16
  · refine lv_iconst (v := 1) hx hb dX4_isIdle_11 (by decide) ?_
    refine lv_goto (tgt := 16) hx hb dX4_isIdle_12 (by decide) ?_
    exact hret 1 _ _ _ _ (Or.inr rfl) hf hP hD hS dX4_isIdle_16
abbrev w_X5_write (h_t : Nat) (r_t : Nat → Nat) (F_t : Nat → Int32) (cI : ClassId) (a_words : Nat → Int32) (a_addresses : Nat → Int32) (a_numbers : Nat → Int32) (a_olds : Nat → Int32) : va_W := [(h_t, .inr (5, o_X5 r_t F_t)), ((r_t 0), .inl (cI, 64, .inl a_words)), ((r_t 1), .inl (cI, 8, .inl a_addresses)), ((r_t 2), .inl (cI, 8, .inl a_numbers)), ((r_t 3), .inl (cI, 8, .inl a_olds))]
abbrev rm_X5_write : Room := { frames := 0, cells := 0, slots := 0, locals := 0 }
def m_X5_write (F_t : Nat → Int32) (a_words : Nat → Int32) (a_addresses : Nat → Int32) (a_numbers : Nat → Int32) (a_olds : Nat → Int32) (p1 : Int32) (p2 : Int32) : Option ((Nat → Int32) × (Nat → Int32) × (Nat → Int32) × (Nat → Int32) × (Nat → Int32)) :=
  if (F_t 4) = 8 then (
  cb 0 (
  nm (upd F_t 5 0) fun F7 =>
  some (F7, a_words, a_addresses, a_numbers, a_olds)))
  else (
  wr a_addresses 8 (F_t 4) p1 fun a1 =>
  wr a_numbers 8 (F_t 4) p2 fun a2 =>
  rd a_words 64 p1 fun y3 =>
  wr a_olds 8 (F_t 4) y3 fun a4 =>
  wr a_words 64 p1 p2 fun a5 =>
  nm (upd F_t 4 ((F_t 4) + 1)) fun F6 =>
  some (F6, a5, a1, a2, a4))
set_option maxHeartbeats 4000000 in
set_option maxRecDepth 100000 in
theorem c_X5_write (l : Launch) (D : va_G) (cI : ClassId) (h_t : Nat) (r_t : Nat → Nat) (F_t : Nat → Int32) (a_words : Nat → Int32) (a_addresses : Nat → Int32) (a_numbers : Nat → Int32) (a_olds : Nat → Int32) (p1 : Int32) (p2 : Int32) (Rr : (Nat → Int32) × (Nat → Int32) × (Nat → Int32) × (Nat → Int32) × (Nat → Int32)) (hf : m_X5_write F_t a_words a_addresses a_numbers a_olds p1 p2 = some Rr) : CTv l yX5_write (Cond.code yX5_write cX5_write 3 none) rm_X5_write D cI [.ref h_t, .int p1, .int p2] (w_X5_write h_t r_t F_t cI a_words a_addresses a_numbers a_olds) (w_X5_write h_t r_t Rr.1 cI Rr.2.1 Rr.2.2.1 Rr.2.2.2.1 Rr.2.2.2.2) := by
  refine z_begin_v (own := RX5) (ρ := (Nat → Int32) × (Nat → Int32) × (Nat → Int32) × (Nat → Int32) × (Nat → Int32)) (fun u => w_X5_write h_t r_t u.1 cI u.2.1 u.2.2.1 u.2.2.2.1 u.2.2.2.2) (by decide +kernel) rfl (Nat.le_of_ble_eq_true rfl) ?_
  intro p e s m args below meth c ls Q A hx hb hml hts hcx hown hK hX hA hP hD hS hl hret
  have hl : lv_has ls 3 [(0, .ref h_t), (1, .int p1), (2, .int p2)] := hl
  have hf := (m_X5_write.eq_1 _ _ _ _ _ _ _).symm.trans hf
  refine lv_aload_n hx hb dX5_write_0 rfl (lv_at hl 0 rfl) ?_
  refine z_get (ci := 5) (C := RX5) (T := TX5) (N := 7) (v := .int (F_t 4)) hx hb hts inT_X5 hown hK hP 0 rfl rfl 4 (by decide) tf_X5_24 rfl dX5_write_1 ?_
  refine lv_bipush (v := 8) hx hb dX5_write_4 (by decide) ?_
  refine z_icmp_ne (tgt := 15) hx hb dX5_write_6 (by decide) hf (fun hf => ?_) (fun hf => ?_)
  · refine lv_aload_n hx hb dX5_write_15 rfl (lv_at hl 0 rfl) ?_
    refine z_get (ci := 5) (C := RX5) (T := TX5) (N := 7) (v := .ref (r_t 1)) hx hb hts inT_X5 hown hK hP 0 rfl rfl 1 (by decide) tf_X5_15 rfl dX5_write_16 ?_
    refine lv_aload_n hx hb dX5_write_19 rfl (lv_at hl 0 rfl) ?_
    refine z_get (ci := 5) (C := RX5) (T := TX5) (N := 7) (v := .int (F_t 4)) hx hb hts inT_X5 hown hK hP 0 rfl rfl 4 (by decide) tf_X5_24 rfl dX5_write_20 ?_
    refine lv_iload_n hx hb dX5_write_23 rfl (lv_at hl 1 rfl) ?_
    refine z_iast hx hb hK hP hD hS 2 rfl (fun z => w_X5_write h_t r_t F_t cI a_words z a_numbers a_olds) (fun _ => rfl) dX5_write_24 hf (fun a1 H locs hf hP hD hS => ?_)
    refine lv_aload_n hx hb dX5_write_25 rfl (lv_at hl 0 rfl) ?_
    refine z_get (ci := 5) (C := RX5) (T := TX5) (N := 7) (v := .ref (r_t 2)) hx hb hts inT_X5 hown hK hP 0 rfl rfl 2 (by decide) tf_X5_18 rfl dX5_write_26 ?_
    refine lv_aload_n hx hb dX5_write_29 rfl (lv_at hl 0 rfl) ?_
    refine z_get (ci := 5) (C := RX5) (T := TX5) (N := 7) (v := .int (F_t 4)) hx hb hts inT_X5 hown hK hP 0 rfl rfl 4 (by decide) tf_X5_24 rfl dX5_write_30 ?_
    refine lv_iload_n hx hb dX5_write_33 rfl (lv_at hl 2 rfl) ?_
    refine z_iast hx hb hK hP hD hS 3 rfl (fun z => w_X5_write h_t r_t F_t cI a_words a1 z a_olds) (fun _ => rfl) dX5_write_34 hf (fun a2 H locs hf hP hD hS => ?_)
    refine lv_aload_n hx hb dX5_write_35 rfl (lv_at hl 0 rfl) ?_
    refine z_get (ci := 5) (C := RX5) (T := TX5) (N := 7) (v := .ref (r_t 3)) hx hb hts inT_X5 hown hK hP 0 rfl rfl 3 (by decide) tf_X5_21 rfl dX5_write_36 ?_
    refine lv_aload_n hx hb dX5_write_39 rfl (lv_at hl 0 rfl) ?_
    refine z_get (ci := 5) (C := RX5) (T := TX5) (N := 7) (v := .int (F_t 4)) hx hb hts inT_X5 hown hK hP 0 rfl rfl 4 (by decide) tf_X5_24 rfl dX5_write_40 ?_
    refine lv_aload_n hx hb dX5_write_43 rfl (lv_at hl 0 rfl) ?_
    refine z_get (ci := 5) (C := RX5) (T := TX5) (N := 7) (v := .ref (r_t 0)) hx hb hts inT_X5 hown hK hP 0 rfl rfl 0 (by decide) tf_X5_9 rfl dX5_write_44 ?_
    refine lv_iload_n hx hb dX5_write_47 rfl (lv_at hl 1 rfl) ?_
    refine z_iald hx hb hK hP 1 rfl dX5_write_48 hf (fun y3 hf => ?_)
    refine z_iast hx hb hK hP hD hS 4 rfl (fun z => w_X5_write h_t r_t F_t cI a_words a1 a2 z) (fun _ => rfl) dX5_write_49 hf (fun a4 H locs hf hP hD hS => ?_)
    refine lv_aload_n hx hb dX5_write_50 rfl (lv_at hl 0 rfl) ?_
    refine z_get (ci := 5) (C := RX5) (T := TX5) (N := 7) (v := .ref (r_t 0)) hx hb hts inT_X5 hown hK hP 0 rfl rfl 0 (by decide) tf_X5_9 rfl dX5_write_51 ?_
    refine lv_iload_n hx hb dX5_write_54 rfl (lv_at hl 1 rfl) ?_
    refine lv_iload_n hx hb dX5_write_55 rfl (lv_at hl 2 rfl) ?_
    refine z_iast hx hb hK hP hD hS 1 rfl (fun z => w_X5_write h_t r_t F_t cI z a1 a2 a4) (fun _ => rfl) dX5_write_56 hf (fun a5 H locs hf hP hD hS => ?_)
    refine lv_aload_n hx hb dX5_write_57 rfl (lv_at hl 0 rfl) ?_
    refine lv_dup hx hb dX5_write_58 rfl ?_
    refine z_get (ci := 5) (C := RX5) (T := TX5) (N := 7) (v := .int (F_t 4)) hx hb hts inT_X5 hown hK hP 0 rfl rfl 4 (by decide) tf_X5_24 rfl dX5_write_59 ?_
    refine lv_iconst (v := 1) hx hb dX5_write_62 (by decide) ?_
    refine lv_iadd hx hb dX5_write_63 ?_
    refine z_put (ci := 5) (C := RX5) (T := TX5) (N := 7) hx hb hts inT_X5 tyX5 tyX5_ok nmX5 hown hK hP hD hS 0 rfl rfl 4 (by decide) tf_X5_24 rfl (by decide +kernel) (Nat.le_of_ble_eq_true rfl) (o_X5 r_t) (o_X5_s4 _ _ _) (fun z => w_X5_write h_t r_t z cI a5 a1 a2 a4) (fun _ => rfl) dX5_write_64 hf (fun F6 H locs hf hP hD hS => ?_)
    exact hret (F6, a5, a1, a2, a4) _ _ _ _ hf hP hD hS dX5_write_67
  · refine lv_aload_n hx hb dX5_write_9 rfl (lv_at hl 0 rfl) ?_
    refine lv_iconst (v := 0) hx hb dX5_write_10 (by decide) ?_
    refine z_putb (ci := 5) (C := RX5) (T := TX5) (N := 7) hx hb hts inT_X5 tyX5 tyX5_ok nmX5 hown hK hP hD hS 0 rfl rfl 5 (by decide) tf_X5_28 rfl (by decide +kernel) (Nat.le_of_ble_eq_true rfl) (o_X5 r_t) (o_X5_s5 _ _ _) (fun z => w_X5_write h_t r_t z cI a_words a_addresses a_numbers a_olds) (fun _ => rfl) dX5_write_11 hf (fun F7 H locs hf hP hD hS => ?_)
    exact hret (F7, a_words, a_addresses, a_numbers, a_olds) _ _ _ _ hf hP hD hS dX5_write_14
abbrev w_X5_planNew (h_t : Nat) (r_t : Nat → Nat) (F_t : Nat → Int32) (cI : ClassId) (a_words : Nat → Int32) (a_addresses : Nat → Int32) (a_numbers : Nat → Int32) (a_olds : Nat → Int32) : va_W := [(h_t, .inr (5, o_X5 r_t F_t)), ((r_t 0), .inl (cI, 64, .inl a_words)), ((r_t 1), .inl (cI, 8, .inl a_addresses)), ((r_t 2), .inl (cI, 8, .inl a_numbers)), ((r_t 3), .inl (cI, 8, .inl a_olds))]
abbrev rm_X5_planNew : Room := { frames := 1, cells := 0, slots := 0, locals := 22 }
def m_X5_planNew_j26 (p1 : Int32) (p2 : Int32) (x3 : Int32) (F_t : Nat → Int32) (a_words : Nat → Int32) (a_addresses : Nat → Int32) (a_numbers : Nat → Int32) (a_olds : Nat → Int32) : Option ((Nat → Int32) × (Nat → Int32) × (Nat → Int32) × (Nat → Int32) × (Nat → Int32)) :=
  if x3 = 10 then (
  cb 0 (
  nm (upd F_t 5 0) fun F7 =>
  some (F7, a_words, a_addresses, a_numbers, a_olds)))
  else (
  bd (m_X11_blockAddress x3) fun u1 =>
  bd (m_X5_write F_t a_words a_addresses a_numbers a_olds u1 1) fun u2 =>
  rd u2.2.1 64 (20 + p1) fun y3 =>
  bd (m_X5_write u2.1 u2.2.1 u2.2.2.1 u2.2.2.2.1 u2.2.2.2.2 (u1 + 1) y3) fun u4 =>
  bd (m_X5_write u4.1 u4.2.1 u4.2.2.1 u4.2.2.2.1 u4.2.2.2.2 (u1 + 2) p2) fun u5 =>
  bd (m_X5_write u5.1 u5.2.1 u5.2.2.1 u5.2.2.2.1 u5.2.2.2.2 (20 + p1) u1) fun u6 =>
  some (u6.1, u6.2.1, u6.2.2.1, u6.2.2.2.1, u6.2.2.2.2))
def m_X5_planNew_w2 (p1 : Int32) (p2 : Int32) (k26 : Int32 → (Nat → Int32) → (Nat → Int32) → (Nat → Int32) → (Nat → Int32) → (Nat → Int32) → Option ((Nat → Int32) × (Nat → Int32) × (Nat → Int32) × (Nat → Int32) × (Nat → Int32))) : Nat → Int32 → (Nat → Int32) → (Nat → Int32) → (Nat → Int32) → (Nat → Int32) → (Nat → Int32) → Option ((Nat → Int32) × (Nat → Int32) × (Nat → Int32) × (Nat → Int32) × (Nat → Int32))
  | 0, _, _, _, _, _, _ => none
  | n2 + 1, x3, F_t, a_words, a_addresses, a_numbers, a_olds =>
    if 10 ≤ x3 then (
    k26 x3 F_t a_words a_addresses a_numbers a_olds)
    else (
    bd (m_X11_blockAddress x3) fun u8 =>
    rd a_words 64 u8 fun y9 =>
    if y9 = 0 then (
    k26 x3 F_t a_words a_addresses a_numbers a_olds)
    else (
    nm (x3 + 1) fun v10 =>
    m_X5_planNew_w2 p1 p2 k26 n2 v10 F_t a_words a_addresses a_numbers a_olds))
def m_X5_planNew (F_t : Nat → Int32) (a_words : Nat → Int32) (a_addresses : Nat → Int32) (a_numbers : Nat → Int32) (a_olds : Nat → Int32) (p1 : Int32) (p2 : Int32) : Option ((Nat → Int32) × (Nat → Int32) × (Nat → Int32) × (Nat → Int32) × (Nat → Int32)) :=
  m_X5_planNew_w2 p1 p2 (m_X5_planNew_j26 p1 p2) fuelN 0 F_t a_words a_addresses a_numbers a_olds
set_option maxHeartbeats 4000000 in
set_option maxRecDepth 100000 in
theorem c_X5_planNew (l : Launch) (D : va_G) (cI : ClassId) (h_t : Nat) (r_t : Nat → Nat) (F_t : Nat → Int32) (a_words : Nat → Int32) (a_addresses : Nat → Int32) (a_numbers : Nat → Int32) (a_olds : Nat → Int32) (p1 : Int32) (p2 : Int32) (Rr : (Nat → Int32) × (Nat → Int32) × (Nat → Int32) × (Nat → Int32) × (Nat → Int32)) (hf : m_X5_planNew F_t a_words a_addresses a_numbers a_olds p1 p2 = some Rr) : CTv l yX5_planNew (Cond.code yX5_planNew cX5_planNew 5 none) rm_X5_planNew D cI [.ref h_t, .int p1, .int p2] (w_X5_planNew h_t r_t F_t cI a_words a_addresses a_numbers a_olds) (w_X5_planNew h_t r_t Rr.1 cI Rr.2.1 Rr.2.2.1 Rr.2.2.2.1 Rr.2.2.2.2) := by
  refine z_begin_v (own := RX5) (ρ := (Nat → Int32) × (Nat → Int32) × (Nat → Int32) × (Nat → Int32) × (Nat → Int32)) (fun u => w_X5_planNew h_t r_t u.1 cI u.2.1 u.2.2.1 u.2.2.2.1 u.2.2.2.2) (by decide +kernel) rfl (Nat.le_of_ble_eq_true rfl) ?_
  intro p e s m args below meth c ls Q A hx hb hml hts hcx hown hK hX hA hP hD hS hl hret
  have hl : lv_has ls 5 [(0, .ref h_t), (1, .int p1), (2, .int p2)] := hl
  have hf := (m_X5_planNew.eq_1 _ _ _ _ _ _ _).symm.trans hf
  have L26 : ∀ (x3 : Int32) (F_t : Nat → Int32) (a_words : Nat → Int32) (a_addresses : Nat → Int32) (a_numbers : Nat → Int32) (a_olds : Nat → Int32) (H : Heap) (locs : List Loc) (ls : Array Slot), m_X5_planNew_j26 p1 p2 x3 F_t a_words a_addresses a_numbers a_olds = some Rr → va_P D vwCl (w_X5_planNew h_t r_t F_t cI a_words a_addresses a_numbers a_olds) H → va_D A (w_X5_planNew h_t r_t F_t cI a_words a_addresses a_numbers a_olds) → va_S A s.heap H locs → lv_has ls 5 [(0, .ref h_t), (1, .int p1), (2, .int p2), (3, .int x3)] → W p l e rm_X5_planNew s m args below meth c H locs 0 0 Q (F0 m 26 ls []) := by
    intro x3 F_t a_words a_addresses a_numbers a_olds H locs ls hf hP hD hS hl
    have hf := (m_X5_planNew_j26.eq_1 _ _ _ _ _ _ _ _).symm.trans hf
    refine lv_iload_n hx hb dX5_planNew_26 rfl (lv_at hl 3 rfl) ?_
    refine lv_bipush (v := 10) hx hb dX5_planNew_27 (by decide) ?_
    refine z_icmp_ne (tgt := 38) hx hb dX5_planNew_29 (by decide) hf (fun hf => ?_) (fun hf => ?_)
    · refine lv_iload_n hx hb dX5_planNew_38 rfl (lv_at hl 3 rfl) ?_
      obtain ⟨u1, hu1, hf⟩ := bd_some hf
      refine z_ci (ws1 := w_X5_planNew h_t r_t F_t cI a_words a_addresses a_numbers a_olds) (wr := List.filterMap (fun i : Nat => (w_X5_planNew h_t r_t F_t cI a_words a_addresses a_numbers a_olds)[i]?) [0, 1, 2, 3, 4]) (z_rN (rest := []) hx hb hml hown hcx hl.1 (c_X11_blockAddress l D cI x3 u1 hu1 _) tl_X5_62 ts_X11_blockAddress tn_X11 tc_X11_blockAddress tm_X11_blockAddress rfl rfl ⟨Nat.le_of_ble_eq_true rfl, Nat.le_of_ble_eq_true rfl⟩ hK hX hS hA hP hD [] rfl rfl rfl rfl (Nat.le_of_ble_eq_true rfl) dX5_planNew_39 ⟨Nat.zero_le _, Nat.zero_le _⟩) hP hD hS hA [] [0, 1, 2, 3, 4] [0, 1, 2, 3, 4] rfl rfl rfl (by decide) rfl rfl (fun H locs hP hD hS => ?_)
      refine lv_istore (lv' := [(4, .int u1), (0, .ref h_t), (1, .int p1), (2, .int p2), (3, .int x3)]) hx hb dX5_planNew_42 hl (by decide) rfl (fun ls hl => ?_)
      refine lv_aload_n hx hb dX5_planNew_44 rfl (lv_at hl 1 rfl) ?_
      refine lv_iload hx hb dX5_planNew_45 (lv_at hl 0 rfl) ?_
      refine lv_iconst (v := 1) hx hb dX5_planNew_47 (by decide) ?_
      obtain ⟨u2, hu2, hf⟩ := bd_some hf
      refine z_cv (ws1 := w_X5_planNew h_t r_t u2.1 cI u2.2.1 u2.2.2.1 u2.2.2.2.1 u2.2.2.2.2) (wr := List.filterMap (fun i : Nat => (w_X5_planNew h_t r_t F_t cI a_words a_addresses a_numbers a_olds)[i]?) []) (z_rV (rest := []) hx hb hml hown hcx hl.1 (c_X5_write l D cI h_t r_t F_t a_words a_addresses a_numbers a_olds u1 1 u2 hu2 _) tl_X5_56 ti_X5_write tz_X5_write tn_X5 tc_X5_write tm_X5_write rfl rfl ⟨Nat.le_of_ble_eq_true rfl, Nat.le_of_ble_eq_true rfl⟩ hK hX hS hA hP hD [0, 1, 2, 3, 4] rfl rfl 0 rfl rfl rfl rfl (Nat.le_of_ble_eq_true rfl) dX5_planNew_48 ⟨Nat.zero_le _, Nat.zero_le _⟩) hP hD hS hA [0, 1, 2, 3, 4] [] [0, 1, 2, 3, 4] rfl rfl rfl (by decide) rfl rfl (fun H locs hP hD hS => ?_)
      refine lv_aload_n hx hb dX5_planNew_51 rfl (lv_at hl 1 rfl) ?_
      refine lv_iload hx hb dX5_planNew_52 (lv_at hl 0 rfl) ?_
      refine lv_iconst (v := 1) hx hb dX5_planNew_54 (by decide) ?_
      refine lv_iadd hx hb dX5_planNew_55 ?_
      refine lv_aload_n hx hb dX5_planNew_56 rfl (lv_at hl 1 rfl) ?_
      refine z_get (ci := 5) (C := RX5) (T := TX5) (N := 7) (v := .ref (r_t 0)) hx hb hts inT_X5 hown hK hP 0 rfl rfl 0 (by decide) tf_X5_9 rfl dX5_planNew_57 ?_
      refine lv_bipush (v := 20) hx hb dX5_planNew_60 (by decide) ?_
      refine lv_iload_n hx hb dX5_planNew_62 rfl (lv_at hl 2 rfl) ?_
      refine lv_iadd hx hb dX5_planNew_63 ?_
      refine z_iald hx hb hK hP 1 rfl dX5_planNew_64 hf (fun y3 hf => ?_)
      obtain ⟨u4, hu4, hf⟩ := bd_some hf
      refine z_cv (ws1 := w_X5_planNew h_t r_t u4.1 cI u4.2.1 u4.2.2.1 u4.2.2.2.1 u4.2.2.2.2) (wr := List.filterMap (fun i : Nat => (w_X5_planNew h_t r_t u2.1 cI u2.2.1 u2.2.2.1 u2.2.2.2.1 u2.2.2.2.2)[i]?) []) (z_rV (rest := []) hx hb hml hown hcx hl.1 (c_X5_write l D cI h_t r_t u2.1 u2.2.1 u2.2.2.1 u2.2.2.2.1 u2.2.2.2.2 (u1 + 1) y3 u4 hu4 _) tl_X5_56 ti_X5_write tz_X5_write tn_X5 tc_X5_write tm_X5_write rfl rfl ⟨Nat.le_of_ble_eq_true rfl, Nat.le_of_ble_eq_true rfl⟩ hK hX hS hA hP hD [0, 1, 2, 3, 4] rfl rfl 0 rfl rfl rfl rfl (Nat.le_of_ble_eq_true rfl) dX5_planNew_65 ⟨Nat.zero_le _, Nat.zero_le _⟩) hP hD hS hA [0, 1, 2, 3, 4] [] [0, 1, 2, 3, 4] rfl rfl rfl (by decide) rfl rfl (fun H locs hP hD hS => ?_)
      refine lv_aload_n hx hb dX5_planNew_68 rfl (lv_at hl 1 rfl) ?_
      refine lv_iload hx hb dX5_planNew_69 (lv_at hl 0 rfl) ?_
      refine lv_iconst (v := 2) hx hb dX5_planNew_71 (by decide) ?_
      refine lv_iadd hx hb dX5_planNew_72 ?_
      refine lv_iload_n hx hb dX5_planNew_73 rfl (lv_at hl 3 rfl) ?_
      obtain ⟨u5, hu5, hf⟩ := bd_some hf
      refine z_cv (ws1 := w_X5_planNew h_t r_t u5.1 cI u5.2.1 u5.2.2.1 u5.2.2.2.1 u5.2.2.2.2) (wr := List.filterMap (fun i : Nat => (w_X5_planNew h_t r_t u4.1 cI u4.2.1 u4.2.2.1 u4.2.2.2.1 u4.2.2.2.2)[i]?) []) (z_rV (rest := []) hx hb hml hown hcx hl.1 (c_X5_write l D cI h_t r_t u4.1 u4.2.1 u4.2.2.1 u4.2.2.2.1 u4.2.2.2.2 (u1 + 2) p2 u5 hu5 _) tl_X5_56 ti_X5_write tz_X5_write tn_X5 tc_X5_write tm_X5_write rfl rfl ⟨Nat.le_of_ble_eq_true rfl, Nat.le_of_ble_eq_true rfl⟩ hK hX hS hA hP hD [0, 1, 2, 3, 4] rfl rfl 0 rfl rfl rfl rfl (Nat.le_of_ble_eq_true rfl) dX5_planNew_74 ⟨Nat.zero_le _, Nat.zero_le _⟩) hP hD hS hA [0, 1, 2, 3, 4] [] [0, 1, 2, 3, 4] rfl rfl rfl (by decide) rfl rfl (fun H locs hP hD hS => ?_)
      refine lv_aload_n hx hb dX5_planNew_77 rfl (lv_at hl 1 rfl) ?_
      refine lv_bipush (v := 20) hx hb dX5_planNew_78 (by decide) ?_
      refine lv_iload_n hx hb dX5_planNew_80 rfl (lv_at hl 2 rfl) ?_
      refine lv_iadd hx hb dX5_planNew_81 ?_
      refine lv_iload hx hb dX5_planNew_82 (lv_at hl 0 rfl) ?_
      obtain ⟨u6, hu6, hf⟩ := bd_some hf
      refine z_cv (ws1 := w_X5_planNew h_t r_t u6.1 cI u6.2.1 u6.2.2.1 u6.2.2.2.1 u6.2.2.2.2) (wr := List.filterMap (fun i : Nat => (w_X5_planNew h_t r_t u5.1 cI u5.2.1 u5.2.2.1 u5.2.2.2.1 u5.2.2.2.2)[i]?) []) (z_rV (rest := []) hx hb hml hown hcx hl.1 (c_X5_write l D cI h_t r_t u5.1 u5.2.1 u5.2.2.1 u5.2.2.2.1 u5.2.2.2.2 (20 + p1) u1 u6 hu6 _) tl_X5_56 ti_X5_write tz_X5_write tn_X5 tc_X5_write tm_X5_write rfl rfl ⟨Nat.le_of_ble_eq_true rfl, Nat.le_of_ble_eq_true rfl⟩ hK hX hS hA hP hD [0, 1, 2, 3, 4] rfl rfl 0 rfl rfl rfl rfl (Nat.le_of_ble_eq_true rfl) dX5_planNew_84 ⟨Nat.zero_le _, Nat.zero_le _⟩) hP hD hS hA [0, 1, 2, 3, 4] [] [0, 1, 2, 3, 4] rfl rfl rfl (by decide) rfl rfl (fun H locs hP hD hS => ?_)
      exact hret (u6.1, u6.2.1, u6.2.2.1, u6.2.2.2.1, u6.2.2.2.2) _ _ _ _ hf hP hD hS dX5_planNew_87
    · refine lv_aload_n hx hb dX5_planNew_32 rfl (lv_at hl 0 rfl) ?_
      refine lv_iconst (v := 0) hx hb dX5_planNew_33 (by decide) ?_
      refine z_putb (ci := 5) (C := RX5) (T := TX5) (N := 7) hx hb hts inT_X5 tyX5 tyX5_ok nmX5 hown hK hP hD hS 0 rfl rfl 5 (by decide) tf_X5_28 rfl (by decide +kernel) (Nat.le_of_ble_eq_true rfl) (o_X5 r_t) (o_X5_s5 _ _ _) (fun z => w_X5_planNew h_t r_t z cI a_words a_addresses a_numbers a_olds) (fun _ => rfl) dX5_planNew_34 hf (fun F7 H locs hf hP hD hS => ?_)
      exact hret (F7, a_words, a_addresses, a_numbers, a_olds) _ _ _ _ hf hP hD hS dX5_planNew_37
  have L2 : ∀ (n2 : Nat) (x3 : Int32) (F_t : Nat → Int32) (a_words : Nat → Int32) (a_addresses : Nat → Int32) (a_numbers : Nat → Int32) (a_olds : Nat → Int32) (H : Heap) (locs : List Loc) (ls : Array Slot), m_X5_planNew_w2 p1 p2 (m_X5_planNew_j26 p1 p2) n2 x3 F_t a_words a_addresses a_numbers a_olds = some Rr → va_P D vwCl (w_X5_planNew h_t r_t F_t cI a_words a_addresses a_numbers a_olds) H → va_D A (w_X5_planNew h_t r_t F_t cI a_words a_addresses a_numbers a_olds) → va_S A s.heap H locs → lv_has ls 5 [(0, .ref h_t), (1, .int p1), (2, .int p2), (3, .int x3)] → W p l e rm_X5_planNew s m args below meth c H locs 0 0 Q (F0 m 2 ls []) := by
    intro n2
    induction n2 with
    | zero => intro x3 F_t a_words a_addresses a_numbers a_olds H locs ls hf; cases (show (none : Option _) = some Rr from hf)
    | succ n2 ih2 =>
      intro x3 F_t a_words a_addresses a_numbers a_olds H locs ls hf hP hD hS hl
      have hf := (m_X5_planNew_w2.eq_2 _ _ _ _ _ _ _ _ _ _).symm.trans hf
      refine lv_iload_n hx hb dX5_planNew_2 rfl (lv_at hl 3 rfl) ?_
      refine lv_bipush (v := 10) hx hb dX5_planNew_3 (by decide) ?_
      refine z_icmp_ge (tgt := 26) hx hb dX5_planNew_5 (by decide) hf (fun hf => ?_) (fun hf => ?_)
      · exact L26 x3 F_t a_words a_addresses a_numbers a_olds _ _ _ hf hP hD hS (lv_sub hl [0, 1, 2, 3] rfl)
      · refine lv_aload_n hx hb dX5_planNew_8 rfl (lv_at hl 0 rfl) ?_
        refine z_get (ci := 5) (C := RX5) (T := TX5) (N := 7) (v := .ref (r_t 0)) hx hb hts inT_X5 hown hK hP 0 rfl rfl 0 (by decide) tf_X5_9 rfl dX5_planNew_9 ?_
        refine lv_iload_n hx hb dX5_planNew_12 rfl (lv_at hl 3 rfl) ?_
        obtain ⟨u8, hu8, hf⟩ := bd_some hf
        refine z_ci (ws1 := w_X5_planNew h_t r_t F_t cI a_words a_addresses a_numbers a_olds) (wr := List.filterMap (fun i : Nat => (w_X5_planNew h_t r_t F_t cI a_words a_addresses a_numbers a_olds)[i]?) [0, 1, 2, 3, 4]) (z_rN (rest := [.ref (r_t 0)]) hx hb hml hown hcx hl.1 (c_X11_blockAddress l D cI x3 u8 hu8 _) tl_X5_62 ts_X11_blockAddress tn_X11 tc_X11_blockAddress tm_X11_blockAddress rfl rfl ⟨Nat.le_of_ble_eq_true rfl, Nat.le_of_ble_eq_true rfl⟩ hK hX hS hA hP hD [] rfl rfl rfl rfl (Nat.le_of_ble_eq_true rfl) dX5_planNew_13 ⟨Nat.zero_le _, Nat.zero_le _⟩) hP hD hS hA [] [0, 1, 2, 3, 4] [0, 1, 2, 3, 4] rfl rfl rfl (by decide) rfl rfl (fun H locs hP hD hS => ?_)
        refine z_iald hx hb hK hP 1 rfl dX5_planNew_16 hf (fun y9 hf => ?_)
        refine z_if_eq (tgt := 26) hx hb dX5_planNew_17 (by decide) hf (fun hf => ?_) (fun hf => ?_)
        · exact L26 x3 F_t a_words a_addresses a_numbers a_olds _ _ _ hf hP hD hS (lv_sub hl [0, 1, 2, 3] rfl)
        · refine z_iinc (k0 := 3) (fun z => [(3, .int z), (0, .ref h_t), (1, .int p1), (2, .int p2)]) hx hb dX5_planNew_20 hl rfl (by decide) (by decide) (fun _ => rfl) hf (fun v10 ls hf hl => ?_)
          refine lv_goto (tgt := 2) hx hb dX5_planNew_23 (by decide) ?_
          exact ih2 v10 F_t a_words a_addresses a_numbers a_olds _ _ _ hf hP hD hS (lv_sub hl [1, 2, 3, 0] rfl)
  refine lv_iconst (v := 0) hx hb dX5_planNew_0 (by decide) ?_
  refine lv_istore_n (lv' := [(3, .int 0), (0, .ref h_t), (1, .int p1), (2, .int p2)]) hx hb dX5_planNew_1 rfl hl (by decide) rfl (fun ls hl => ?_)
  exact L2 fuelN 0 F_t a_words a_addresses a_numbers a_olds _ _ _ hf hP hD hS (lv_sub hl [1, 2, 3, 0] rfl)
abbrev w_X5_planDrop (h_t : Nat) (r_t : Nat → Nat) (F_t : Nat → Int32) (cI : ClassId) (a_words : Nat → Int32) (a_addresses : Nat → Int32) (a_numbers : Nat → Int32) (a_olds : Nat → Int32) : va_W := [(h_t, .inr (5, o_X5 r_t F_t)), ((r_t 0), .inl (cI, 64, .inl a_words)), ((r_t 1), .inl (cI, 8, .inl a_addresses)), ((r_t 2), .inl (cI, 8, .inl a_numbers)), ((r_t 3), .inl (cI, 8, .inl a_olds))]
abbrev rm_X5_planDrop : Room := { frames := 1, cells := 0, slots := 0, locals := 22 }
def m_X5_planDrop_j27 (p1 : Int32) (F_t : Nat → Int32) (a_words : Nat → Int32) (a_addresses : Nat → Int32) (a_numbers : Nat → Int32) (a_olds : Nat → Int32) : Option ((Nat → Int32) × (Nat → Int32) × (Nat → Int32) × (Nat → Int32) × (Nat → Int32)) :=
  cb 0 (
  nm (upd F_t 5 0) fun F3 =>
  some (F3, a_words, a_addresses, a_numbers, a_olds))
def m_X5_planDrop (F_t : Nat → Int32) (a_words : Nat → Int32) (a_addresses : Nat → Int32) (a_numbers : Nat → Int32) (a_olds : Nat → Int32) (p1 : Int32) : Option ((Nat → Int32) × (Nat → Int32) × (Nat → Int32) × (Nat → Int32) × (Nat → Int32)) :=
  rd a_words 64 (20 + p1) fun y1 =>
  bd (m_X11_isBlockAddress y1) fun u2 =>
  if u2 = 0 then (
  m_X5_planDrop_j27 p1 F_t a_words a_addresses a_numbers a_olds)
  else (
  rd a_words 64 y1 fun y4 =>
  if y4 = 1 then (
  rd a_words 64 (y1 + 1) fun y5 =>
  bd (m_X5_write F_t a_words a_addresses a_numbers a_olds (20 + p1) y5) fun u6 =>
  bd (m_X5_write u6.1 u6.2.1 u6.2.2.1 u6.2.2.2.1 u6.2.2.2.2 y1 0) fun u7 =>
  some (u7.1, u7.2.1, u7.2.2.1, u7.2.2.2.1, u7.2.2.2.2))
  else (
  m_X5_planDrop_j27 p1 F_t a_words a_addresses a_numbers a_olds))
set_option maxHeartbeats 4000000 in
set_option maxRecDepth 100000 in
theorem c_X5_planDrop (l : Launch) (D : va_G) (cI : ClassId) (h_t : Nat) (r_t : Nat → Nat) (F_t : Nat → Int32) (a_words : Nat → Int32) (a_addresses : Nat → Int32) (a_numbers : Nat → Int32) (a_olds : Nat → Int32) (p1 : Int32) (Rr : (Nat → Int32) × (Nat → Int32) × (Nat → Int32) × (Nat → Int32) × (Nat → Int32)) (hf : m_X5_planDrop F_t a_words a_addresses a_numbers a_olds p1 = some Rr) : CTv l yX5_planDrop (Cond.code yX5_planDrop cX5_planDrop 3 none) rm_X5_planDrop D cI [.ref h_t, .int p1] (w_X5_planDrop h_t r_t F_t cI a_words a_addresses a_numbers a_olds) (w_X5_planDrop h_t r_t Rr.1 cI Rr.2.1 Rr.2.2.1 Rr.2.2.2.1 Rr.2.2.2.2) := by
  refine z_begin_v (own := RX5) (ρ := (Nat → Int32) × (Nat → Int32) × (Nat → Int32) × (Nat → Int32) × (Nat → Int32)) (fun u => w_X5_planDrop h_t r_t u.1 cI u.2.1 u.2.2.1 u.2.2.2.1 u.2.2.2.2) (by decide +kernel) rfl (Nat.le_of_ble_eq_true rfl) ?_
  intro p e s m args below meth c ls Q A hx hb hml hts hcx hown hK hX hA hP hD hS hl hret
  have hl : lv_has ls 3 [(0, .ref h_t), (1, .int p1)] := hl
  have hf := (m_X5_planDrop.eq_1 _ _ _ _ _ _).symm.trans hf
  have L27 : ∀ (F_t : Nat → Int32) (a_words : Nat → Int32) (a_addresses : Nat → Int32) (a_numbers : Nat → Int32) (a_olds : Nat → Int32) (H : Heap) (locs : List Loc) (ls : Array Slot), m_X5_planDrop_j27 p1 F_t a_words a_addresses a_numbers a_olds = some Rr → va_P D vwCl (w_X5_planDrop h_t r_t F_t cI a_words a_addresses a_numbers a_olds) H → va_D A (w_X5_planDrop h_t r_t F_t cI a_words a_addresses a_numbers a_olds) → va_S A s.heap H locs → lv_has ls 3 [(0, .ref h_t)] → W p l e rm_X5_planDrop s m args below meth c H locs 0 0 Q (F0 m 27 ls []) := by
    intro F_t a_words a_addresses a_numbers a_olds H locs ls hf hP hD hS hl
    have hf := (m_X5_planDrop_j27.eq_1 _ _ _ _ _ _).symm.trans hf
    refine lv_aload_n hx hb dX5_planDrop_27 rfl (lv_at hl 0 rfl) ?_
    refine lv_iconst (v := 0) hx hb dX5_planDrop_28 (by decide) ?_
    refine z_putb (ci := 5) (C := RX5) (T := TX5) (N := 7) hx hb hts inT_X5 tyX5 tyX5_ok nmX5 hown hK hP hD hS 0 rfl rfl 5 (by decide) tf_X5_28 rfl (by decide +kernel) (Nat.le_of_ble_eq_true rfl) (o_X5 r_t) (o_X5_s5 _ _ _) (fun z => w_X5_planDrop h_t r_t z cI a_words a_addresses a_numbers a_olds) (fun _ => rfl) dX5_planDrop_29 hf (fun F3 H locs hf hP hD hS => ?_)
    exact hret (F3, a_words, a_addresses, a_numbers, a_olds) _ _ _ _ hf hP hD hS dX5_planDrop_32
  refine lv_aload_n hx hb dX5_planDrop_0 rfl (lv_at hl 0 rfl) ?_
  refine z_get (ci := 5) (C := RX5) (T := TX5) (N := 7) (v := .ref (r_t 0)) hx hb hts inT_X5 hown hK hP 0 rfl rfl 0 (by decide) tf_X5_9 rfl dX5_planDrop_1 ?_
  refine lv_bipush (v := 20) hx hb dX5_planDrop_4 (by decide) ?_
  refine lv_iload_n hx hb dX5_planDrop_6 rfl (lv_at hl 1 rfl) ?_
  refine lv_iadd hx hb dX5_planDrop_7 ?_
  refine z_iald hx hb hK hP 1 rfl dX5_planDrop_8 hf (fun y1 hf => ?_)
  refine lv_istore_n (lv' := [(2, .int y1), (0, .ref h_t), (1, .int p1)]) hx hb dX5_planDrop_9 rfl hl (by decide) rfl (fun ls hl => ?_)
  refine lv_iload_n hx hb dX5_planDrop_10 rfl (lv_at hl 0 rfl) ?_
  obtain ⟨u2, hu2, hf⟩ := bd_some hf
  refine z_ci (ws1 := w_X5_planDrop h_t r_t F_t cI a_words a_addresses a_numbers a_olds) (wr := List.filterMap (fun i : Nat => (w_X5_planDrop h_t r_t F_t cI a_words a_addresses a_numbers a_olds)[i]?) [0, 1, 2, 3, 4]) (z_rN (rest := []) hx hb hml hown hcx hl.1 (c_X11_isBlockAddress l D cI y1 u2 hu2 _) tl_X5_66 ts_X11_isBlockAddress tn_X11 tc_X11_isBlockAddress tm_X11_isBlockAddress rfl rfl ⟨Nat.le_of_ble_eq_true rfl, Nat.le_of_ble_eq_true rfl⟩ hK hX hS hA hP hD [] rfl rfl rfl rfl (Nat.le_of_ble_eq_true rfl) dX5_planDrop_11 ⟨Nat.zero_le _, Nat.zero_le _⟩) hP hD hS hA [] [0, 1, 2, 3, 4] [0, 1, 2, 3, 4] rfl rfl rfl (by decide) rfl rfl (fun H locs hP hD hS => ?_)
  refine z_if_eq (tgt := 27) hx hb dX5_planDrop_14 (by decide) hf (fun hf => ?_) (fun hf => ?_)
  · exact L27 F_t a_words a_addresses a_numbers a_olds _ _ _ hf hP hD hS (lv_sub hl [1] rfl)
  · refine lv_aload_n hx hb dX5_planDrop_17 rfl (lv_at hl 1 rfl) ?_
    refine z_get (ci := 5) (C := RX5) (T := TX5) (N := 7) (v := .ref (r_t 0)) hx hb hts inT_X5 hown hK hP 0 rfl rfl 0 (by decide) tf_X5_9 rfl dX5_planDrop_18 ?_
    refine lv_iload_n hx hb dX5_planDrop_21 rfl (lv_at hl 0 rfl) ?_
    refine z_iald hx hb hK hP 1 rfl dX5_planDrop_22 hf (fun y4 hf => ?_)
    refine lv_iconst (v := 1) hx hb dX5_planDrop_23 (by decide) ?_
    refine z_icmp_eq (tgt := 33) hx hb dX5_planDrop_24 (by decide) hf (fun hf => ?_) (fun hf => ?_)
    · refine lv_aload_n hx hb dX5_planDrop_33 rfl (lv_at hl 1 rfl) ?_
      refine lv_bipush (v := 20) hx hb dX5_planDrop_34 (by decide) ?_
      refine lv_iload_n hx hb dX5_planDrop_36 rfl (lv_at hl 2 rfl) ?_
      refine lv_iadd hx hb dX5_planDrop_37 ?_
      refine lv_aload_n hx hb dX5_planDrop_38 rfl (lv_at hl 1 rfl) ?_
      refine z_get (ci := 5) (C := RX5) (T := TX5) (N := 7) (v := .ref (r_t 0)) hx hb hts inT_X5 hown hK hP 0 rfl rfl 0 (by decide) tf_X5_9 rfl dX5_planDrop_39 ?_
      refine lv_iload_n hx hb dX5_planDrop_42 rfl (lv_at hl 0 rfl) ?_
      refine lv_iconst (v := 1) hx hb dX5_planDrop_43 (by decide) ?_
      refine lv_iadd hx hb dX5_planDrop_44 ?_
      refine z_iald hx hb hK hP 1 rfl dX5_planDrop_45 hf (fun y5 hf => ?_)
      obtain ⟨u6, hu6, hf⟩ := bd_some hf
      refine z_cv (ws1 := w_X5_planDrop h_t r_t u6.1 cI u6.2.1 u6.2.2.1 u6.2.2.2.1 u6.2.2.2.2) (wr := List.filterMap (fun i : Nat => (w_X5_planDrop h_t r_t F_t cI a_words a_addresses a_numbers a_olds)[i]?) []) (z_rV (rest := []) hx hb hml hown hcx hl.1 (c_X5_write l D cI h_t r_t F_t a_words a_addresses a_numbers a_olds (20 + p1) y5 u6 hu6 _) tl_X5_56 ti_X5_write tz_X5_write tn_X5 tc_X5_write tm_X5_write rfl rfl ⟨Nat.le_of_ble_eq_true rfl, Nat.le_of_ble_eq_true rfl⟩ hK hX hS hA hP hD [0, 1, 2, 3, 4] rfl rfl 0 rfl rfl rfl rfl (Nat.le_of_ble_eq_true rfl) dX5_planDrop_46 ⟨Nat.zero_le _, Nat.zero_le _⟩) hP hD hS hA [0, 1, 2, 3, 4] [] [0, 1, 2, 3, 4] rfl rfl rfl (by decide) rfl rfl (fun H locs hP hD hS => ?_)
      refine lv_aload_n hx hb dX5_planDrop_49 rfl (lv_at hl 1 rfl) ?_
      refine lv_iload_n hx hb dX5_planDrop_50 rfl (lv_at hl 0 rfl) ?_
      refine lv_iconst (v := 0) hx hb dX5_planDrop_51 (by decide) ?_
      obtain ⟨u7, hu7, hf⟩ := bd_some hf
      refine z_cv (ws1 := w_X5_planDrop h_t r_t u7.1 cI u7.2.1 u7.2.2.1 u7.2.2.2.1 u7.2.2.2.2) (wr := List.filterMap (fun i : Nat => (w_X5_planDrop h_t r_t u6.1 cI u6.2.1 u6.2.2.1 u6.2.2.2.1 u6.2.2.2.2)[i]?) []) (z_rV (rest := []) hx hb hml hown hcx hl.1 (c_X5_write l D cI h_t r_t u6.1 u6.2.1 u6.2.2.1 u6.2.2.2.1 u6.2.2.2.2 y1 0 u7 hu7 _) tl_X5_56 ti_X5_write tz_X5_write tn_X5 tc_X5_write tm_X5_write rfl rfl ⟨Nat.le_of_ble_eq_true rfl, Nat.le_of_ble_eq_true rfl⟩ hK hX hS hA hP hD [0, 1, 2, 3, 4] rfl rfl 0 rfl rfl rfl rfl (Nat.le_of_ble_eq_true rfl) dX5_planDrop_52 ⟨Nat.zero_le _, Nat.zero_le _⟩) hP hD hS hA [0, 1, 2, 3, 4] [] [0, 1, 2, 3, 4] rfl rfl rfl (by decide) rfl rfl (fun H locs hP hD hS => ?_)
      exact hret (u7.1, u7.2.1, u7.2.2.1, u7.2.2.2.1, u7.2.2.2.2) _ _ _ _ hf hP hD hS dX5_planDrop_55
    · exact L27 F_t a_words a_addresses a_numbers a_olds _ _ _ hf hP hD hS (lv_sub hl [1] rfl)
abbrev w_X5_planMove (h_t : Nat) (r_t : Nat → Nat) (F_t : Nat → Int32) (cI : ClassId) (a_words : Nat → Int32) (a_addresses : Nat → Int32) (a_numbers : Nat → Int32) (a_olds : Nat → Int32) : va_W := [(h_t, .inr (5, o_X5 r_t F_t)), ((r_t 0), .inl (cI, 64, .inl a_words)), ((r_t 1), .inl (cI, 8, .inl a_addresses)), ((r_t 2), .inl (cI, 8, .inl a_numbers)), ((r_t 3), .inl (cI, 8, .inl a_olds))]
abbrev rm_X5_planMove : Room := { frames := 1, cells := 0, slots := 0, locals := 22 }
def m_X5_planMove_j27 (p1 : Int32) (p2 : Int32) (F_t : Nat → Int32) (a_words : Nat → Int32) (a_addresses : Nat → Int32) (a_numbers : Nat → Int32) (a_olds : Nat → Int32) : Option ((Nat → Int32) × (Nat → Int32) × (Nat → Int32) × (Nat → Int32) × (Nat → Int32)) :=
  cb 0 (
  nm (upd F_t 5 0) fun F3 =>
  some (F3, a_words, a_addresses, a_numbers, a_olds))
def m_X5_planMove (F_t : Nat → Int32) (a_words : Nat → Int32) (a_addresses : Nat → Int32) (a_numbers : Nat → Int32) (a_olds : Nat → Int32) (p1 : Int32) (p2 : Int32) : Option ((Nat → Int32) × (Nat → Int32) × (Nat → Int32) × (Nat → Int32) × (Nat → Int32)) :=
  rd a_words 64 (20 + p1) fun y1 =>
  bd (m_X11_isBlockAddress y1) fun u2 =>
  if u2 = 0 then (
  m_X5_planMove_j27 p1 p2 F_t a_words a_addresses a_numbers a_olds)
  else (
  rd a_words 64 y1 fun y4 =>
  if y4 = 1 then (
  rd a_words 64 (y1 + 1) fun y5 =>
  bd (m_X5_write F_t a_words a_addresses a_numbers a_olds (20 + p1) y5) fun u6 =>
  rd u6.2.1 64 (20 + p2) fun y7 =>
  bd (m_X5_write u6.1 u6.2.1 u6.2.2.1 u6.2.2.2.1 u6.2.2.2.2 (y1 + 1) y7) fun u8 =>
  bd (m_X5_write u8.1 u8.2.1 u8.2.2.1 u8.2.2.2.1 u8.2.2.2.2 (20 + p2) y1) fun u9 =>
  some (u9.1, u9.2.1, u9.2.2.1, u9.2.2.2.1, u9.2.2.2.2))
  else (
  m_X5_planMove_j27 p1 p2 F_t a_words a_addresses a_numbers a_olds))
set_option maxHeartbeats 4000000 in
set_option maxRecDepth 100000 in
theorem c_X5_planMove (l : Launch) (D : va_G) (cI : ClassId) (h_t : Nat) (r_t : Nat → Nat) (F_t : Nat → Int32) (a_words : Nat → Int32) (a_addresses : Nat → Int32) (a_numbers : Nat → Int32) (a_olds : Nat → Int32) (p1 : Int32) (p2 : Int32) (Rr : (Nat → Int32) × (Nat → Int32) × (Nat → Int32) × (Nat → Int32) × (Nat → Int32)) (hf : m_X5_planMove F_t a_words a_addresses a_numbers a_olds p1 p2 = some Rr) : CTv l yX5_planMove (Cond.code yX5_planMove cX5_planMove 4 none) rm_X5_planMove D cI [.ref h_t, .int p1, .int p2] (w_X5_planMove h_t r_t F_t cI a_words a_addresses a_numbers a_olds) (w_X5_planMove h_t r_t Rr.1 cI Rr.2.1 Rr.2.2.1 Rr.2.2.2.1 Rr.2.2.2.2) := by
  refine z_begin_v (own := RX5) (ρ := (Nat → Int32) × (Nat → Int32) × (Nat → Int32) × (Nat → Int32) × (Nat → Int32)) (fun u => w_X5_planMove h_t r_t u.1 cI u.2.1 u.2.2.1 u.2.2.2.1 u.2.2.2.2) (by decide +kernel) rfl (Nat.le_of_ble_eq_true rfl) ?_
  intro p e s m args below meth c ls Q A hx hb hml hts hcx hown hK hX hA hP hD hS hl hret
  have hl : lv_has ls 4 [(0, .ref h_t), (1, .int p1), (2, .int p2)] := hl
  have hf := (m_X5_planMove.eq_1 _ _ _ _ _ _ _).symm.trans hf
  have L27 : ∀ (F_t : Nat → Int32) (a_words : Nat → Int32) (a_addresses : Nat → Int32) (a_numbers : Nat → Int32) (a_olds : Nat → Int32) (H : Heap) (locs : List Loc) (ls : Array Slot), m_X5_planMove_j27 p1 p2 F_t a_words a_addresses a_numbers a_olds = some Rr → va_P D vwCl (w_X5_planMove h_t r_t F_t cI a_words a_addresses a_numbers a_olds) H → va_D A (w_X5_planMove h_t r_t F_t cI a_words a_addresses a_numbers a_olds) → va_S A s.heap H locs → lv_has ls 4 [(0, .ref h_t)] → W p l e rm_X5_planMove s m args below meth c H locs 0 0 Q (F0 m 27 ls []) := by
    intro F_t a_words a_addresses a_numbers a_olds H locs ls hf hP hD hS hl
    have hf := (m_X5_planMove_j27.eq_1 _ _ _ _ _ _ _).symm.trans hf
    refine lv_aload_n hx hb dX5_planMove_27 rfl (lv_at hl 0 rfl) ?_
    refine lv_iconst (v := 0) hx hb dX5_planMove_28 (by decide) ?_
    refine z_putb (ci := 5) (C := RX5) (T := TX5) (N := 7) hx hb hts inT_X5 tyX5 tyX5_ok nmX5 hown hK hP hD hS 0 rfl rfl 5 (by decide) tf_X5_28 rfl (by decide +kernel) (Nat.le_of_ble_eq_true rfl) (o_X5 r_t) (o_X5_s5 _ _ _) (fun z => w_X5_planMove h_t r_t z cI a_words a_addresses a_numbers a_olds) (fun _ => rfl) dX5_planMove_29 hf (fun F3 H locs hf hP hD hS => ?_)
    exact hret (F3, a_words, a_addresses, a_numbers, a_olds) _ _ _ _ hf hP hD hS dX5_planMove_32
  refine lv_aload_n hx hb dX5_planMove_0 rfl (lv_at hl 0 rfl) ?_
  refine z_get (ci := 5) (C := RX5) (T := TX5) (N := 7) (v := .ref (r_t 0)) hx hb hts inT_X5 hown hK hP 0 rfl rfl 0 (by decide) tf_X5_9 rfl dX5_planMove_1 ?_
  refine lv_bipush (v := 20) hx hb dX5_planMove_4 (by decide) ?_
  refine lv_iload_n hx hb dX5_planMove_6 rfl (lv_at hl 1 rfl) ?_
  refine lv_iadd hx hb dX5_planMove_7 ?_
  refine z_iald hx hb hK hP 1 rfl dX5_planMove_8 hf (fun y1 hf => ?_)
  refine lv_istore_n (lv' := [(3, .int y1), (0, .ref h_t), (1, .int p1), (2, .int p2)]) hx hb dX5_planMove_9 rfl hl (by decide) rfl (fun ls hl => ?_)
  refine lv_iload_n hx hb dX5_planMove_10 rfl (lv_at hl 0 rfl) ?_
  obtain ⟨u2, hu2, hf⟩ := bd_some hf
  refine z_ci (ws1 := w_X5_planMove h_t r_t F_t cI a_words a_addresses a_numbers a_olds) (wr := List.filterMap (fun i : Nat => (w_X5_planMove h_t r_t F_t cI a_words a_addresses a_numbers a_olds)[i]?) [0, 1, 2, 3, 4]) (z_rN (rest := []) hx hb hml hown hcx hl.1 (c_X11_isBlockAddress l D cI y1 u2 hu2 _) tl_X5_66 ts_X11_isBlockAddress tn_X11 tc_X11_isBlockAddress tm_X11_isBlockAddress rfl rfl ⟨Nat.le_of_ble_eq_true rfl, Nat.le_of_ble_eq_true rfl⟩ hK hX hS hA hP hD [] rfl rfl rfl rfl (Nat.le_of_ble_eq_true rfl) dX5_planMove_11 ⟨Nat.zero_le _, Nat.zero_le _⟩) hP hD hS hA [] [0, 1, 2, 3, 4] [0, 1, 2, 3, 4] rfl rfl rfl (by decide) rfl rfl (fun H locs hP hD hS => ?_)
  refine z_if_eq (tgt := 27) hx hb dX5_planMove_14 (by decide) hf (fun hf => ?_) (fun hf => ?_)
  · exact L27 F_t a_words a_addresses a_numbers a_olds _ _ _ hf hP hD hS (lv_sub hl [1] rfl)
  · refine lv_aload_n hx hb dX5_planMove_17 rfl (lv_at hl 1 rfl) ?_
    refine z_get (ci := 5) (C := RX5) (T := TX5) (N := 7) (v := .ref (r_t 0)) hx hb hts inT_X5 hown hK hP 0 rfl rfl 0 (by decide) tf_X5_9 rfl dX5_planMove_18 ?_
    refine lv_iload_n hx hb dX5_planMove_21 rfl (lv_at hl 0 rfl) ?_
    refine z_iald hx hb hK hP 1 rfl dX5_planMove_22 hf (fun y4 hf => ?_)
    refine lv_iconst (v := 1) hx hb dX5_planMove_23 (by decide) ?_
    refine z_icmp_eq (tgt := 33) hx hb dX5_planMove_24 (by decide) hf (fun hf => ?_) (fun hf => ?_)
    · refine lv_aload_n hx hb dX5_planMove_33 rfl (lv_at hl 1 rfl) ?_
      refine lv_bipush (v := 20) hx hb dX5_planMove_34 (by decide) ?_
      refine lv_iload_n hx hb dX5_planMove_36 rfl (lv_at hl 2 rfl) ?_
      refine lv_iadd hx hb dX5_planMove_37 ?_
      refine lv_aload_n hx hb dX5_planMove_38 rfl (lv_at hl 1 rfl) ?_
      refine z_get (ci := 5) (C := RX5) (T := TX5) (N := 7) (v := .ref (r_t 0)) hx hb hts inT_X5 hown hK hP 0 rfl rfl 0 (by decide) tf_X5_9 rfl dX5_planMove_39 ?_
      refine lv_iload_n hx hb dX5_planMove_42 rfl (lv_at hl 0 rfl) ?_
      refine lv_iconst (v := 1) hx hb dX5_planMove_43 (by decide) ?_
      refine lv_iadd hx hb dX5_planMove_44 ?_
      refine z_iald hx hb hK hP 1 rfl dX5_planMove_45 hf (fun y5 hf => ?_)
      obtain ⟨u6, hu6, hf⟩ := bd_some hf
      refine z_cv (ws1 := w_X5_planMove h_t r_t u6.1 cI u6.2.1 u6.2.2.1 u6.2.2.2.1 u6.2.2.2.2) (wr := List.filterMap (fun i : Nat => (w_X5_planMove h_t r_t F_t cI a_words a_addresses a_numbers a_olds)[i]?) []) (z_rV (rest := []) hx hb hml hown hcx hl.1 (c_X5_write l D cI h_t r_t F_t a_words a_addresses a_numbers a_olds (20 + p1) y5 u6 hu6 _) tl_X5_56 ti_X5_write tz_X5_write tn_X5 tc_X5_write tm_X5_write rfl rfl ⟨Nat.le_of_ble_eq_true rfl, Nat.le_of_ble_eq_true rfl⟩ hK hX hS hA hP hD [0, 1, 2, 3, 4] rfl rfl 0 rfl rfl rfl rfl (Nat.le_of_ble_eq_true rfl) dX5_planMove_46 ⟨Nat.zero_le _, Nat.zero_le _⟩) hP hD hS hA [0, 1, 2, 3, 4] [] [0, 1, 2, 3, 4] rfl rfl rfl (by decide) rfl rfl (fun H locs hP hD hS => ?_)
      refine lv_aload_n hx hb dX5_planMove_49 rfl (lv_at hl 1 rfl) ?_
      refine lv_iload_n hx hb dX5_planMove_50 rfl (lv_at hl 0 rfl) ?_
      refine lv_iconst (v := 1) hx hb dX5_planMove_51 (by decide) ?_
      refine lv_iadd hx hb dX5_planMove_52 ?_
      refine lv_aload_n hx hb dX5_planMove_53 rfl (lv_at hl 1 rfl) ?_
      refine z_get (ci := 5) (C := RX5) (T := TX5) (N := 7) (v := .ref (r_t 0)) hx hb hts inT_X5 hown hK hP 0 rfl rfl 0 (by decide) tf_X5_9 rfl dX5_planMove_54 ?_
      refine lv_bipush (v := 20) hx hb dX5_planMove_57 (by decide) ?_
      refine lv_iload_n hx hb dX5_planMove_59 rfl (lv_at hl 3 rfl) ?_
      refine lv_iadd hx hb dX5_planMove_60 ?_
      refine z_iald hx hb hK hP 1 rfl dX5_planMove_61 hf (fun y7 hf => ?_)
      obtain ⟨u8, hu8, hf⟩ := bd_some hf
      refine z_cv (ws1 := w_X5_planMove h_t r_t u8.1 cI u8.2.1 u8.2.2.1 u8.2.2.2.1 u8.2.2.2.2) (wr := List.filterMap (fun i : Nat => (w_X5_planMove h_t r_t u6.1 cI u6.2.1 u6.2.2.1 u6.2.2.2.1 u6.2.2.2.2)[i]?) []) (z_rV (rest := []) hx hb hml hown hcx hl.1 (c_X5_write l D cI h_t r_t u6.1 u6.2.1 u6.2.2.1 u6.2.2.2.1 u6.2.2.2.2 (y1 + 1) y7 u8 hu8 _) tl_X5_56 ti_X5_write tz_X5_write tn_X5 tc_X5_write tm_X5_write rfl rfl ⟨Nat.le_of_ble_eq_true rfl, Nat.le_of_ble_eq_true rfl⟩ hK hX hS hA hP hD [0, 1, 2, 3, 4] rfl rfl 0 rfl rfl rfl rfl (Nat.le_of_ble_eq_true rfl) dX5_planMove_62 ⟨Nat.zero_le _, Nat.zero_le _⟩) hP hD hS hA [0, 1, 2, 3, 4] [] [0, 1, 2, 3, 4] rfl rfl rfl (by decide) rfl rfl (fun H locs hP hD hS => ?_)
      refine lv_aload_n hx hb dX5_planMove_65 rfl (lv_at hl 1 rfl) ?_
      refine lv_bipush (v := 20) hx hb dX5_planMove_66 (by decide) ?_
      refine lv_iload_n hx hb dX5_planMove_68 rfl (lv_at hl 3 rfl) ?_
      refine lv_iadd hx hb dX5_planMove_69 ?_
      refine lv_iload_n hx hb dX5_planMove_70 rfl (lv_at hl 0 rfl) ?_
      obtain ⟨u9, hu9, hf⟩ := bd_some hf
      refine z_cv (ws1 := w_X5_planMove h_t r_t u9.1 cI u9.2.1 u9.2.2.1 u9.2.2.2.1 u9.2.2.2.2) (wr := List.filterMap (fun i : Nat => (w_X5_planMove h_t r_t u8.1 cI u8.2.1 u8.2.2.1 u8.2.2.2.1 u8.2.2.2.2)[i]?) []) (z_rV (rest := []) hx hb hml hown hcx hl.1 (c_X5_write l D cI h_t r_t u8.1 u8.2.1 u8.2.2.1 u8.2.2.2.1 u8.2.2.2.2 (20 + p2) y1 u9 hu9 _) tl_X5_56 ti_X5_write tz_X5_write tn_X5 tc_X5_write tm_X5_write rfl rfl ⟨Nat.le_of_ble_eq_true rfl, Nat.le_of_ble_eq_true rfl⟩ hK hX hS hA hP hD [0, 1, 2, 3, 4] rfl rfl 0 rfl rfl rfl rfl (Nat.le_of_ble_eq_true rfl) dX5_planMove_71 ⟨Nat.zero_le _, Nat.zero_le _⟩) hP hD hS hA [0, 1, 2, 3, 4] [] [0, 1, 2, 3, 4] rfl rfl rfl (by decide) rfl rfl (fun H locs hP hD hS => ?_)
      exact hret (u9.1, u9.2.1, u9.2.2.1, u9.2.2.2.1, u9.2.2.2.2) _ _ _ _ hf hP hD hS dX5_planMove_74
    · exact L27 F_t a_words a_addresses a_numbers a_olds _ _ _ hf hP hD hS (lv_sub hl [1] rfl)
abbrev w_X5_planSweep (h_t : Nat) (r_t : Nat → Nat) (r_shapeNow : Nat → Nat) (F_t : Nat → Int32) (F_shapeNow : Nat → Int32) (cI : ClassId) (a_words : Nat → Int32) (a_addresses : Nat → Int32) (a_numbers : Nat → Int32) (a_olds : Nat → Int32) : va_W := [(h_t, .inr (5, o_X5 r_t F_t)), ((r_t 0), .inl (cI, 64, .inl a_words)), ((r_t 1), .inl (cI, 8, .inl a_addresses)), ((r_t 2), .inl (cI, 8, .inl a_numbers)), ((r_t 3), .inl (cI, 8, .inl a_olds)), ((r_t 6), .inr (7, o_X7 r_shapeNow F_shapeNow))]
abbrev rm_X5_planSweep : Room := { frames := 3, cells := 0, slots := 0, locals := 68 }
def m_X5_planSweep_j58 (k29 : Int32 → (Nat → Int32) → (Nat → Int32) → (Nat → Int32) → (Nat → Int32) → (Nat → Int32) → (Nat → Int32) → Option ((Nat → Int32) × (Nat → Int32) × (Nat → Int32) × (Nat → Int32) × (Nat → Int32) × (Nat → Int32))) (x1 : Int32) (F_t : Nat → Int32) (F_shapeNow : Nat → Int32) (a_words : Nat → Int32) (a_addresses : Nat → Int32) (a_numbers : Nat → Int32) (a_olds : Nat → Int32) : Option ((Nat → Int32) × (Nat → Int32) × (Nat → Int32) × (Nat → Int32) × (Nat → Int32) × (Nat → Int32)) :=
  nm (x1 + 1) fun v2 =>
  k29 v2 F_t F_shapeNow a_words a_addresses a_numbers a_olds
def m_X5_planSweep_w29 : Nat → Int32 → (Nat → Int32) → (Nat → Int32) → (Nat → Int32) → (Nat → Int32) → (Nat → Int32) → (Nat → Int32) → Option ((Nat → Int32) × (Nat → Int32) × (Nat → Int32) × (Nat → Int32) × (Nat → Int32) × (Nat → Int32))
  | 0, _, _, _, _, _, _, _ => none
  | n29 + 1, x1, F_t, F_shapeNow, a_words, a_addresses, a_numbers, a_olds =>
    if 10 ≤ x1 then (
    some (F_t, F_shapeNow, a_words, a_addresses, a_numbers, a_olds))
    else (
    if (((F_shapeNow 1) >>> (x1 &&& 31)) &&& 1) = 0 then (
    m_X5_planSweep_j58 (m_X5_planSweep_w29 n29) x1 F_t F_shapeNow a_words a_addresses a_numbers a_olds)
    else (
    bd (m_X11_blockAddress x1) fun u3 =>
    bd (m_X5_write F_t a_words a_addresses a_numbers a_olds u3 0) fun u4 =>
    m_X5_planSweep_j58 (m_X5_planSweep_w29 n29) x1 u4.1 F_shapeNow u4.2.1 u4.2.2.1 u4.2.2.2.1 u4.2.2.2.2))
def m_X5_planSweep (F_t : Nat → Int32) (F_shapeNow : Nat → Int32) (a_words : Nat → Int32) (a_addresses : Nat → Int32) (a_numbers : Nat → Int32) (a_olds : Nat → Int32) : Option ((Nat → Int32) × (Nat → Int32) × (Nat → Int32) × (Nat → Int32) × (Nat → Int32) × (Nat → Int32)) :=
  bd (m_X7_survey F_shapeNow a_words 64) fun u1 =>
  if (u1 1) = 0 then (
  cb 0 (
  nm (upd F_t 5 0) fun F5 =>
  some (F5, u1, a_words, a_addresses, a_numbers, a_olds)))
  else (
  m_X5_planSweep_w29 fuelN 0 F_t u1 a_words a_addresses a_numbers a_olds)
set_option maxHeartbeats 4000000 in
set_option maxRecDepth 100000 in
theorem c_X5_planSweep (l : Launch) (D : va_G) (cI : ClassId) (h_t : Nat) (r_t : Nat → Nat) (r_shapeNow : Nat → Nat) (F_t : Nat → Int32) (F_shapeNow : Nat → Int32) (a_words : Nat → Int32) (a_addresses : Nat → Int32) (a_numbers : Nat → Int32) (a_olds : Nat → Int32) (Rr : (Nat → Int32) × (Nat → Int32) × (Nat → Int32) × (Nat → Int32) × (Nat → Int32) × (Nat → Int32)) (hf : m_X5_planSweep F_t F_shapeNow a_words a_addresses a_numbers a_olds = some Rr) : CTv l yX5_planSweep (Cond.code yX5_planSweep cX5_planSweep 2 none) rm_X5_planSweep D cI [.ref h_t] (w_X5_planSweep h_t r_t r_shapeNow F_t F_shapeNow cI a_words a_addresses a_numbers a_olds) (w_X5_planSweep h_t r_t r_shapeNow Rr.1 Rr.2.1 cI Rr.2.2.1 Rr.2.2.2.1 Rr.2.2.2.2.1 Rr.2.2.2.2.2) := by
  refine z_begin_v (own := RX5) (ρ := (Nat → Int32) × (Nat → Int32) × (Nat → Int32) × (Nat → Int32) × (Nat → Int32) × (Nat → Int32)) (fun u => w_X5_planSweep h_t r_t r_shapeNow u.1 u.2.1 cI u.2.2.1 u.2.2.2.1 u.2.2.2.2.1 u.2.2.2.2.2) (by decide +kernel) rfl (Nat.le_of_ble_eq_true rfl) ?_
  intro p e s m args below meth c ls Q A hx hb hml hts hcx hown hK hX hA hP hD hS hl hret
  have hl : lv_has ls 2 [(0, .ref h_t)] := hl
  have hf := (m_X5_planSweep.eq_1 _ _ _ _ _ _).symm.trans hf
  have L29 : ∀ (n29 : Nat) (x1 : Int32) (F_t : Nat → Int32) (F_shapeNow : Nat → Int32) (a_words : Nat → Int32) (a_addresses : Nat → Int32) (a_numbers : Nat → Int32) (a_olds : Nat → Int32) (H : Heap) (locs : List Loc) (ls : Array Slot), m_X5_planSweep_w29 n29 x1 F_t F_shapeNow a_words a_addresses a_numbers a_olds = some Rr → va_P D vwCl (w_X5_planSweep h_t r_t r_shapeNow F_t F_shapeNow cI a_words a_addresses a_numbers a_olds) H → va_D A (w_X5_planSweep h_t r_t r_shapeNow F_t F_shapeNow cI a_words a_addresses a_numbers a_olds) → va_S A s.heap H locs → lv_has ls 2 [(0, .ref h_t), (1, .int x1)] → W p l e rm_X5_planSweep s m args below meth c H locs 0 0 Q (F0 m 29 ls []) := by
    intro n29
    induction n29 with
    | zero => intro x1 F_t F_shapeNow a_words a_addresses a_numbers a_olds H locs ls hf; cases (show (none : Option _) = some Rr from hf)
    | succ n29 ih29 =>
      intro x1 F_t F_shapeNow a_words a_addresses a_numbers a_olds H locs ls hf hP hD hS hl
      have hf := (m_X5_planSweep_w29.eq_2 _ _ _ _ _ _ _ _).symm.trans hf
      have L58 : ∀ (x1 : Int32) (F_t : Nat → Int32) (F_shapeNow : Nat → Int32) (a_words : Nat → Int32) (a_addresses : Nat → Int32) (a_numbers : Nat → Int32) (a_olds : Nat → Int32) (H : Heap) (locs : List Loc) (ls : Array Slot), m_X5_planSweep_j58 (m_X5_planSweep_w29 n29) x1 F_t F_shapeNow a_words a_addresses a_numbers a_olds = some Rr → va_P D vwCl (w_X5_planSweep h_t r_t r_shapeNow F_t F_shapeNow cI a_words a_addresses a_numbers a_olds) H → va_D A (w_X5_planSweep h_t r_t r_shapeNow F_t F_shapeNow cI a_words a_addresses a_numbers a_olds) → va_S A s.heap H locs → lv_has ls 2 [(0, .ref h_t), (1, .int x1)] → W p l e rm_X5_planSweep s m args below meth c H locs 0 0 Q (F0 m 58 ls []) := by
        intro x1 F_t F_shapeNow a_words a_addresses a_numbers a_olds H locs ls hf hP hD hS hl
        have hf := (m_X5_planSweep_j58.eq_1 _ _ _ _ _ _ _ _).symm.trans hf
        refine z_iinc (k0 := 1) (fun z => [(1, .int z), (0, .ref h_t)]) hx hb dX5_planSweep_58 hl rfl (by decide) (by decide) (fun _ => rfl) hf (fun v2 ls hf hl => ?_)
        refine lv_goto (tgt := 29) hx hb dX5_planSweep_61 (by decide) ?_
        exact ih29 v2 F_t F_shapeNow a_words a_addresses a_numbers a_olds _ _ _ hf hP hD hS (lv_sub hl [1, 0] rfl)
      refine lv_iload_n hx hb dX5_planSweep_29 rfl (lv_at hl 1 rfl) ?_
      refine lv_bipush (v := 10) hx hb dX5_planSweep_30 (by decide) ?_
      refine z_icmp_ge (tgt := 64) hx hb dX5_planSweep_32 (by decide) hf (fun hf => ?_) (fun hf => ?_)
      · exact hret (F_t, F_shapeNow, a_words, a_addresses, a_numbers, a_olds) _ _ _ _ hf hP hD hS dX5_planSweep_64
      · refine lv_aload_n hx hb dX5_planSweep_35 rfl (lv_at hl 0 rfl) ?_
        refine z_get (ci := 5) (C := RX5) (T := TX5) (N := 7) (v := .ref (r_t 6)) hx hb hts inT_X5 hown hK hP 0 rfl rfl 6 (by decide) tf_X5_35 rfl dX5_planSweep_36 ?_
        refine z_getN (ci := 7) (C := RX7) (T := TX7) (N := 5) (v := .int (F_shapeNow 1)) hx hb hts inT_X7 hown hK hP 5 rfl rfl 1 (by decide) tf_X5_73 rfl dX5_planSweep_39 ?_
        refine lv_iload_n hx hb dX5_planSweep_42 rfl (lv_at hl 1 rfl) ?_
        refine lv_ishr hx hb dX5_planSweep_43 ?_
        refine lv_iconst (v := 1) hx hb dX5_planSweep_44 (by decide) ?_
        refine lv_iand hx hb dX5_planSweep_45 ?_
        refine z_if_eq (tgt := 58) hx hb dX5_planSweep_46 (by decide) hf (fun hf => ?_) (fun hf => ?_)
        · exact L58 x1 F_t F_shapeNow a_words a_addresses a_numbers a_olds _ _ _ hf hP hD hS (lv_sub hl [0, 1] rfl)
        · refine lv_aload_n hx hb dX5_planSweep_49 rfl (lv_at hl 0 rfl) ?_
          refine lv_iload_n hx hb dX5_planSweep_50 rfl (lv_at hl 1 rfl) ?_
          obtain ⟨u3, hu3, hf⟩ := bd_some hf
          refine z_ci (ws1 := w_X5_planSweep h_t r_t r_shapeNow F_t F_shapeNow cI a_words a_addresses a_numbers a_olds) (wr := List.filterMap (fun i : Nat => (w_X5_planSweep h_t r_t r_shapeNow F_t F_shapeNow cI a_words a_addresses a_numbers a_olds)[i]?) [0, 1, 2, 3, 4, 5]) (z_rN (rest := [.ref h_t]) hx hb hml hown hcx hl.1 (c_X11_blockAddress l D cI x1 u3 hu3 _) tl_X5_62 ts_X11_blockAddress tn_X11 tc_X11_blockAddress tm_X11_blockAddress rfl rfl ⟨Nat.le_of_ble_eq_true rfl, Nat.le_of_ble_eq_true rfl⟩ hK hX hS hA hP hD [] rfl rfl rfl rfl (Nat.le_of_ble_eq_true rfl) dX5_planSweep_51 ⟨Nat.zero_le _, Nat.zero_le _⟩) hP hD hS hA [] [0, 1, 2, 3, 4, 5] [0, 1, 2, 3, 4, 5] rfl rfl rfl (by decide) rfl rfl (fun H locs hP hD hS => ?_)
          refine lv_iconst (v := 0) hx hb dX5_planSweep_54 (by decide) ?_
          obtain ⟨u4, hu4, hf⟩ := bd_some hf
          refine z_cv (ws1 := w_X5_planSweep h_t r_t r_shapeNow u4.1 F_shapeNow cI u4.2.1 u4.2.2.1 u4.2.2.2.1 u4.2.2.2.2) (wr := List.filterMap (fun i : Nat => (w_X5_planSweep h_t r_t r_shapeNow F_t F_shapeNow cI a_words a_addresses a_numbers a_olds)[i]?) [5]) (z_rV (rest := []) hx hb hml hown hcx hl.1 (c_X5_write l D cI h_t r_t F_t a_words a_addresses a_numbers a_olds u3 0 u4 hu4 _) tl_X5_56 ti_X5_write tz_X5_write tn_X5 tc_X5_write tm_X5_write rfl rfl ⟨Nat.le_of_ble_eq_true rfl, Nat.le_of_ble_eq_true rfl⟩ hK hX hS hA hP hD [0, 1, 2, 3, 4] rfl rfl 0 rfl rfl rfl rfl (Nat.le_of_ble_eq_true rfl) dX5_planSweep_55 ⟨Nat.zero_le _, Nat.zero_le _⟩) hP hD hS hA [0, 1, 2, 3, 4] [5] [1, 2, 3, 4, 5, 0] rfl rfl rfl (by decide) rfl rfl (fun H locs hP hD hS => ?_)
          exact L58 x1 u4.1 F_shapeNow u4.2.1 u4.2.2.1 u4.2.2.2.1 u4.2.2.2.2 _ _ _ hf hP hD hS (lv_sub hl [0, 1] rfl)
  refine lv_aload_n hx hb dX5_planSweep_0 rfl (lv_at hl 0 rfl) ?_
  refine z_get (ci := 5) (C := RX5) (T := TX5) (N := 7) (v := .ref (r_t 6)) hx hb hts inT_X5 hown hK hP 0 rfl rfl 6 (by decide) tf_X5_35 rfl dX5_planSweep_1 ?_
  refine lv_aload_n hx hb dX5_planSweep_4 rfl (lv_at hl 0 rfl) ?_
  refine z_get (ci := 5) (C := RX5) (T := TX5) (N := 7) (v := .ref (r_t 0)) hx hb hts inT_X5 hown hK hP 0 rfl rfl 0 (by decide) tf_X5_9 rfl dX5_planSweep_5 ?_
  obtain ⟨u1, hu1, hf⟩ := bd_some hf
  refine z_cv (ws1 := w_X5_planSweep h_t r_t r_shapeNow F_t u1 cI a_words a_addresses a_numbers a_olds) (wr := List.filterMap (fun i : Nat => (w_X5_planSweep h_t r_t r_shapeNow F_t F_shapeNow cI a_words a_addresses a_numbers a_olds)[i]?) [0, 2, 3, 4]) (z_rV (rest := []) hx hb hml hown hcx hl.1 (c_X7_survey l D cI (r_t 6) (r_t 0) r_shapeNow F_shapeNow 64 a_words u1 hu1 _) tl_X5_70 ti_X7_survey tz_X7_survey tn_X7 tc_X7_survey tm_X7_survey rfl rfl ⟨Nat.le_of_ble_eq_true rfl, Nat.le_of_ble_eq_true rfl⟩ hK hX hS hA hP hD [5, 1] rfl rfl 5 rfl rfl rfl rfl (Nat.le_of_ble_eq_true rfl) dX5_planSweep_8 ⟨Nat.zero_le _, Nat.zero_le _⟩) hP hD hS hA [5, 1] [0, 2, 3, 4] [0, 5, 1, 2, 3, 4] rfl rfl rfl (by decide) rfl rfl (fun H locs hP hD hS => ?_)
  refine lv_aload_n hx hb dX5_planSweep_11 rfl (lv_at hl 0 rfl) ?_
  refine z_get (ci := 5) (C := RX5) (T := TX5) (N := 7) (v := .ref (r_t 6)) hx hb hts inT_X5 hown hK hP 0 rfl rfl 6 (by decide) tf_X5_35 rfl dX5_planSweep_12 ?_
  refine z_getN (ci := 7) (C := RX7) (T := TX7) (N := 5) (v := .int (u1 1)) hx hb hts inT_X7 hown hK hP 5 rfl rfl 1 (by decide) tf_X5_73 rfl dX5_planSweep_15 ?_
  refine z_if_ne (tgt := 27) hx hb dX5_planSweep_18 (by decide) hf (fun hf => ?_) (fun hf => ?_)
  · refine lv_iconst (v := 0) hx hb dX5_planSweep_27 (by decide) ?_
    refine lv_istore_n (lv' := [(1, .int 0), (0, .ref h_t)]) hx hb dX5_planSweep_28 rfl hl (by decide) rfl (fun ls hl => ?_)
    exact L29 fuelN 0 F_t u1 a_words a_addresses a_numbers a_olds _ _ _ hf hP hD hS (lv_sub hl [1, 0] rfl)
  · refine lv_aload_n hx hb dX5_planSweep_21 rfl (lv_at hl 0 rfl) ?_
    refine lv_iconst (v := 0) hx hb dX5_planSweep_22 (by decide) ?_
    refine z_putb (ci := 5) (C := RX5) (T := TX5) (N := 7) hx hb hts inT_X5 tyX5 tyX5_ok nmX5 hown hK hP hD hS 0 rfl rfl 5 (by decide) tf_X5_28 rfl (by decide +kernel) (Nat.le_of_ble_eq_true rfl) (o_X5 r_t) (o_X5_s5 _ _ _) (fun z => w_X5_planSweep h_t r_t r_shapeNow z u1 cI a_words a_addresses a_numbers a_olds) (fun _ => rfl) dX5_planSweep_23 hf (fun F5 H locs hf hP hD hS => ?_)
    exact hret (F5, u1, a_words, a_addresses, a_numbers, a_olds) _ _ _ _ hf hP hD hS dX5_planSweep_26
abbrev w_X5_plan (h_t : Nat) (h_p1 : Nat) (h_p2 : Nat) (r_t : Nat → Nat) (r_shapeNow : Nat → Nat) (r_p1 : Nat → Nat) (F_t : Nat → Int32) (F_shapeNow : Nat → Int32) (cI : ClassId) (n_p2 : Nat) (a_words : Nat → Int32) (a_addresses : Nat → Int32) (a_numbers : Nat → Int32) (a_olds : Nat → Int32) (a_p1_media : Nat → Int32) (a_p1_stores : Nat → Int32) (a_p1_held : Nat → Int32) (a_p2 : Nat → Int32) : va_W := [(h_t, .inr (5, o_X5 r_t F_t)), ((r_t 0), .inl (cI, 64, .inl a_words)), ((r_t 1), .inl (cI, 8, .inl a_addresses)), ((r_t 2), .inl (cI, 8, .inl a_numbers)), ((r_t 3), .inl (cI, 8, .inl a_olds)), ((r_t 6), .inr (7, o_X7 r_shapeNow F_shapeNow)), (h_p1, .inr (1, o_X1 r_p1)), ((r_p1 0), .inl (cI, 64, .inl a_p1_media)), ((r_p1 1), .inl (cI, 96, .inl a_p1_stores)), ((r_p1 2), .inl (cI, 16, .inl a_p1_held)), (h_p2, .inl (cI, n_p2, .inl a_p2))]
abbrev rm_X5_plan : Room := { frames := 4, cells := 0, slots := 0, locals := 89 }
def m_X5_plan_j149 (a_p1_media : Nat → Int32) (a_p1_stores : Nat → Int32) (a_p1_held : Nat → Int32) (a_p2 : Nat → Int32) (n_p2 : Nat) (p3 : Int32) (k23 : Int32 → (Nat → Int32) → (Nat → Int32) → (Nat → Int32) → (Nat → Int32) → (Nat → Int32) → (Nat → Int32) → Option (Int32 × (Nat → Int32) × (Nat → Int32) × (Nat → Int32) × (Nat → Int32) × (Nat → Int32) × (Nat → Int32))) (x4 : Int32) (F_t : Nat → Int32) (F_shapeNow : Nat → Int32) (a_words : Nat → Int32) (a_addresses : Nat → Int32) (a_numbers : Nat → Int32) (a_olds : Nat → Int32) : Option (Int32 × (Nat → Int32) × (Nat → Int32) × (Nat → Int32) × (Nat → Int32) × (Nat → Int32) × (Nat → Int32)) :=
  nm (x4 + 1) fun v11 =>
  k23 v11 F_t F_shapeNow a_words a_addresses a_numbers a_olds
def m_X5_plan_w23 (a_p1_media : Nat → Int32) (a_p1_stores : Nat → Int32) (a_p1_held : Nat → Int32) (a_p2 : Nat → Int32) (n_p2 : Nat) (p3 : Int32) : Nat → Int32 → (Nat → Int32) → (Nat → Int32) → (Nat → Int32) → (Nat → Int32) → (Nat → Int32) → (Nat → Int32) → Option (Int32 × (Nat → Int32) × (Nat → Int32) × (Nat → Int32) × (Nat → Int32) × (Nat → Int32) × (Nat → Int32))
  | 0, _, _, _, _, _, _, _ => none
  | n23 + 1, x4, F_t, F_shapeNow, a_words, a_addresses, a_numbers, a_olds =>
    if ((p3 + 1) * 4) ≤ x4 then (
    cb (F_t 5) (some ((F_t 5), F_t, F_shapeNow, a_words, a_addresses, a_numbers, a_olds)))
    else (
    rd a_p2 n_p2 x4 fun y5 =>
    nm ((y5 - y5 / 10000 * 10000) / 100) fun v6 =>
    rd a_p2 n_p2 x4 fun y7 =>
    nm (y7 - y7 / 100 * 100) fun v8 =>
    rd a_p2 n_p2 x4 fun y9 =>
    if ((y9 / 10000) - 1) = 0 then (
    bd (m_X5_planNew F_t a_words a_addresses a_numbers a_olds v6 v8) fun u10 =>
    m_X5_plan_j149 a_p1_media a_p1_stores a_p1_held a_p2 n_p2 p3 (m_X5_plan_w23 a_p1_media a_p1_stores a_p1_held a_p2 n_p2 p3 n23) x4 u10.1 F_shapeNow u10.2.1 u10.2.2.1 u10.2.2.2.1 u10.2.2.2.2)
    else (
    if ((y9 / 10000) - 1) = 1 then (
    bd (m_X5_planDrop F_t a_words a_addresses a_numbers a_olds v6) fun u12 =>
    m_X5_plan_j149 a_p1_media a_p1_stores a_p1_held a_p2 n_p2 p3 (m_X5_plan_w23 a_p1_media a_p1_stores a_p1_held a_p2 n_p2 p3 n23) x4 u12.1 F_shapeNow u12.2.1 u12.2.2.1 u12.2.2.2.1 u12.2.2.2.2)
    else (
    if ((y9 / 10000) - 1) = 2 then (
    bd (m_X5_planMove F_t a_words a_addresses a_numbers a_olds v6 v8) fun u13 =>
    m_X5_plan_j149 a_p1_media a_p1_stores a_p1_held a_p2 n_p2 p3 (m_X5_plan_w23 a_p1_media a_p1_stores a_p1_held a_p2 n_p2 p3 n23) x4 u13.1 F_shapeNow u13.2.1 u13.2.2.1 u13.2.2.2.1 u13.2.2.2.2)
    else (
    if ((y9 / 10000) - 1) = 3 then (
    bd (m_X5_write F_t a_words a_addresses a_numbers a_olds v6 v8) fun u14 =>
    m_X5_plan_j149 a_p1_media a_p1_stores a_p1_held a_p2 n_p2 p3 (m_X5_plan_w23 a_p1_media a_p1_stores a_p1_held a_p2 n_p2 p3 n23) x4 u14.1 F_shapeNow u14.2.1 u14.2.2.1 u14.2.2.2.1 u14.2.2.2.2)
    else (
    if ((y9 / 10000) - 1) = 4 then (
    bd (m_X5_planSweep F_t F_shapeNow a_words a_addresses a_numbers a_olds) fun u15 =>
    m_X5_plan_j149 a_p1_media a_p1_stores a_p1_held a_p2 n_p2 p3 (m_X5_plan_w23 a_p1_media a_p1_stores a_p1_held a_p2 n_p2 p3 n23) x4 u15.1 u15.2.1 u15.2.2.1 u15.2.2.2.1 u15.2.2.2.2.1 u15.2.2.2.2.2)
    else (
    m_X5_plan_j149 a_p1_media a_p1_stores a_p1_held a_p2 n_p2 p3 (m_X5_plan_w23 a_p1_media a_p1_stores a_p1_held a_p2 n_p2 p3 n23) x4 F_t F_shapeNow a_words a_addresses a_numbers a_olds))))))
def m_X5_plan (F_t : Nat → Int32) (F_shapeNow : Nat → Int32) (a_words : Nat → Int32) (a_addresses : Nat → Int32) (a_numbers : Nat → Int32) (a_olds : Nat → Int32) (a_p1_media : Nat → Int32) (a_p1_stores : Nat → Int32) (a_p1_held : Nat → Int32) (a_p2 : Nat → Int32) (n_p2 : Nat) (p3 : Int32) : Option (Int32 × (Nat → Int32) × (Nat → Int32) × (Nat → Int32) × (Nat → Int32) × (Nat → Int32) × (Nat → Int32)) :=
  bd (m_X1_fillWords a_p1_media a_p1_stores a_p1_held a_words 64) fun u1 =>
  nm (upd F_t 4 0) fun F2 =>
  cb 1 (
  nm (upd F2 5 1) fun F3 =>
  nm (p3 * 4) fun v4 =>
  m_X5_plan_w23 a_p1_media a_p1_stores a_p1_held a_p2 n_p2 p3 fuelN v4 F3 F_shapeNow u1 a_addresses a_numbers a_olds)
set_option maxHeartbeats 4000000 in
set_option maxRecDepth 100000 in
theorem c_X5_plan (l : Launch) (D : va_G) (cI : ClassId) (h_t : Nat) (h_p1 : Nat) (h_p2 : Nat) (r_t : Nat → Nat) (r_shapeNow : Nat → Nat) (r_p1 : Nat → Nat) (F_t : Nat → Int32) (F_shapeNow : Nat → Int32) (n_p2 : Nat) (a_words : Nat → Int32) (a_addresses : Nat → Int32) (a_numbers : Nat → Int32) (a_olds : Nat → Int32) (a_p1_media : Nat → Int32) (a_p1_stores : Nat → Int32) (a_p1_held : Nat → Int32) (a_p2 : Nat → Int32) (p3 : Int32) (Rr : Int32 × (Nat → Int32) × (Nat → Int32) × (Nat → Int32) × (Nat → Int32) × (Nat → Int32) × (Nat → Int32)) (hf : m_X5_plan F_t F_shapeNow a_words a_addresses a_numbers a_olds a_p1_media a_p1_stores a_p1_held a_p2 n_p2 p3 = some Rr) : CTi l yX5_plan (Cond.code yX5_plan cX5_plan 7 (some .boolean)) rm_X5_plan D cI [.ref h_t, .ref h_p1, .ref h_p2, .int p3] (w_X5_plan h_t h_p1 h_p2 r_t r_shapeNow r_p1 F_t F_shapeNow cI n_p2 a_words a_addresses a_numbers a_olds a_p1_media a_p1_stores a_p1_held a_p2) Rr.1 (w_X5_plan h_t h_p1 h_p2 r_t r_shapeNow r_p1 Rr.2.1 Rr.2.2.1 cI n_p2 Rr.2.2.2.1 Rr.2.2.2.2.1 Rr.2.2.2.2.2.1 Rr.2.2.2.2.2.2 a_p1_media a_p1_stores a_p1_held a_p2) := by
  refine z_begin_z (own := RX5) (ρ := Int32 × (Nat → Int32) × (Nat → Int32) × (Nat → Int32) × (Nat → Int32) × (Nat → Int32) × (Nat → Int32)) (fun u => w_X5_plan h_t h_p1 h_p2 r_t r_shapeNow r_p1 u.2.1 u.2.2.1 cI n_p2 u.2.2.2.1 u.2.2.2.2.1 u.2.2.2.2.2.1 u.2.2.2.2.2.2 a_p1_media a_p1_stores a_p1_held a_p2) (fun u => u.1) (by decide +kernel) rfl (Nat.le_of_ble_eq_true rfl) ?_
  intro p e s m args below meth c ls Q A hx hb hml hts hcx hown hK hX hA hP hD hS hl hret
  have hl : lv_has ls 7 [(0, .ref h_t), (1, .ref h_p1), (2, .ref h_p2), (3, .int p3)] := hl
  have hf := (m_X5_plan.eq_1 _ _ _ _ _ _ _ _ _ _ _ _).symm.trans hf
  have L23 : ∀ (n23 : Nat) (x4 : Int32) (F_t : Nat → Int32) (F_shapeNow : Nat → Int32) (a_words : Nat → Int32) (a_addresses : Nat → Int32) (a_numbers : Nat → Int32) (a_olds : Nat → Int32) (H : Heap) (locs : List Loc) (ls : Array Slot), m_X5_plan_w23 a_p1_media a_p1_stores a_p1_held a_p2 n_p2 p3 n23 x4 F_t F_shapeNow a_words a_addresses a_numbers a_olds = some Rr → va_P D vwCl (w_X5_plan h_t h_p1 h_p2 r_t r_shapeNow r_p1 F_t F_shapeNow cI n_p2 a_words a_addresses a_numbers a_olds a_p1_media a_p1_stores a_p1_held a_p2) H → va_D A (w_X5_plan h_t h_p1 h_p2 r_t r_shapeNow r_p1 F_t F_shapeNow cI n_p2 a_words a_addresses a_numbers a_olds a_p1_media a_p1_stores a_p1_held a_p2) → va_S A s.heap H locs → lv_has ls 7 [(0, .ref h_t), (2, .ref h_p2), (3, .int p3), (4, .int x4)] → W p l e rm_X5_plan s m args below meth c H locs 0 0 Q (F0 m 23 ls []) := by
    intro n23
    induction n23 with
    | zero => intro x4 F_t F_shapeNow a_words a_addresses a_numbers a_olds H locs ls hf; cases (show (none : Option _) = some Rr from hf)
    | succ n23 ih23 =>
      intro x4 F_t F_shapeNow a_words a_addresses a_numbers a_olds H locs ls hf hP hD hS hl
      have hf := (m_X5_plan_w23.eq_2 _ _ _ _ _ _ _ _ _ _ _ _ _ _).symm.trans hf
      have L149 : ∀ (x4 : Int32) (F_t : Nat → Int32) (F_shapeNow : Nat → Int32) (a_words : Nat → Int32) (a_addresses : Nat → Int32) (a_numbers : Nat → Int32) (a_olds : Nat → Int32) (H : Heap) (locs : List Loc) (ls : Array Slot), m_X5_plan_j149 a_p1_media a_p1_stores a_p1_held a_p2 n_p2 p3 (m_X5_plan_w23 a_p1_media a_p1_stores a_p1_held a_p2 n_p2 p3 n23) x4 F_t F_shapeNow a_words a_addresses a_numbers a_olds = some Rr → va_P D vwCl (w_X5_plan h_t h_p1 h_p2 r_t r_shapeNow r_p1 F_t F_shapeNow cI n_p2 a_words a_addresses a_numbers a_olds a_p1_media a_p1_stores a_p1_held a_p2) H → va_D A (w_X5_plan h_t h_p1 h_p2 r_t r_shapeNow r_p1 F_t F_shapeNow cI n_p2 a_words a_addresses a_numbers a_olds a_p1_media a_p1_stores a_p1_held a_p2) → va_S A s.heap H locs → lv_has ls 7 [(0, .ref h_t), (2, .ref h_p2), (3, .int p3), (4, .int x4)] → W p l e rm_X5_plan s m args below meth c H locs 0 0 Q (F0 m 149 ls []) := by
        intro x4 F_t F_shapeNow a_words a_addresses a_numbers a_olds H locs ls hf hP hD hS hl
        have hf := (m_X5_plan_j149.eq_1 _ _ _ _ _ _ _ _ _ _ _ _ _ _).symm.trans hf
        refine z_iinc (k0 := 3) (fun z => [(4, .int z), (0, .ref h_t), (2, .ref h_p2), (3, .int p3)]) hx hb dX5_plan_149 hl rfl (by decide) (by decide) (fun _ => rfl) hf (fun v11 ls hf hl => ?_)
        refine lv_goto (tgt := 23) hx hb dX5_plan_152 (by decide) ?_
        exact ih23 v11 F_t F_shapeNow a_words a_addresses a_numbers a_olds _ _ _ hf hP hD hS (lv_sub hl [1, 2, 3, 0] rfl)
      refine lv_iload hx hb dX5_plan_23 (lv_at hl 3 rfl) ?_
      refine lv_iload_n hx hb dX5_plan_25 rfl (lv_at hl 2 rfl) ?_
      refine lv_iconst (v := 1) hx hb dX5_plan_26 (by decide) ?_
      refine lv_iadd hx hb dX5_plan_27 ?_
      refine lv_iconst (v := 4) hx hb dX5_plan_28 (by decide) ?_
      refine lv_imul hx hb dX5_plan_29 ?_
      refine z_icmp_ge (tgt := 155) hx hb dX5_plan_30 (by decide) hf (fun hf => ?_) (fun hf => ?_)
      · refine lv_aload_n hx hb dX5_plan_155 rfl (lv_at hl 0 rfl) ?_
        refine z_get (ci := 5) (C := RX5) (T := TX5) (N := 7) (v := .int (F_t 5)) hx hb hts inT_X5 hown hK hP 0 rfl rfl 5 (by decide) tf_X5_28 rfl dX5_plan_156 ?_
        obtain ⟨h01, hf⟩ := cb_some hf
        exact hret ((F_t 5), F_t, F_shapeNow, a_words, a_addresses, a_numbers, a_olds) _ _ _ _ h01 hf hP hD hS dX5_plan_159
      · refine lv_aload_n hx hb dX5_plan_33 rfl (lv_at hl 1 rfl) ?_
        refine lv_iload hx hb dX5_plan_34 (lv_at hl 3 rfl) ?_
        refine z_iald hx hb hK hP 10 rfl dX5_plan_36 hf (fun y5 hf => ?_)
        refine lv_sipush (v := 10000) hx hb dX5_plan_37 (by decide) ?_
        refine lv_irem hx hb dX5_plan_40 (by decide) ?_
        refine lv_bipush (v := 100) hx hb dX5_plan_41 (by decide) ?_
        refine lv_idiv hx hb dX5_plan_43 (by decide) ?_
        refine z_istore (fun z => [(5, .int z), (0, .ref h_t), (2, .ref h_p2), (3, .int p3), (4, .int x4)]) hx hb dX5_plan_44 hl (by decide) (fun _ => rfl) hf (fun v6 ls hf hl => ?_)
        refine lv_aload_n hx hb dX5_plan_46 rfl (lv_at hl 2 rfl) ?_
        refine lv_iload hx hb dX5_plan_47 (lv_at hl 4 rfl) ?_
        refine z_iald hx hb hK hP 10 rfl dX5_plan_49 hf (fun y7 hf => ?_)
        refine lv_bipush (v := 100) hx hb dX5_plan_50 (by decide) ?_
        refine lv_irem hx hb dX5_plan_52 (by decide) ?_
        refine z_istore (fun z => [(6, .int z), (5, .int v6), (0, .ref h_t), (2, .ref h_p2), (3, .int p3), (4, .int x4)]) hx hb dX5_plan_53 hl (by decide) (fun _ => rfl) hf (fun v8 ls hf hl => ?_)
        refine lv_aload_n hx hb dX5_plan_55 rfl (lv_at hl 3 rfl) ?_
        refine lv_iload hx hb dX5_plan_56 (lv_at hl 5 rfl) ?_
        refine z_iald hx hb hK hP 10 rfl dX5_plan_58 hf (fun y9 hf => ?_)
        refine lv_sipush (v := 10000) hx hb dX5_plan_59 (by decide) ?_
        refine lv_idiv hx hb dX5_plan_62 (by decide) ?_
        refine lv_iconst (v := 1) hx hb dX5_plan_63 (by decide) ?_
        refine lv_isub hx hb dX5_plan_64 ?_
        refine z_tabin (v := 0) (off := 35) (tgt := 100) hx hb dX5_plan_65 (by decide) (by decide) (by decide) (by decide) hf (fun hf => ?_) (fun hn0 hf => ?_)
        · refine lv_aload_n hx hb dX5_plan_100 rfl (lv_at hl 2 rfl) ?_
          refine lv_iload hx hb dX5_plan_101 (lv_at hl 1 rfl) ?_
          refine lv_iload hx hb dX5_plan_103 (lv_at hl 0 rfl) ?_
          obtain ⟨u10, hu10, hf⟩ := bd_some hf
          refine z_cv (ws1 := w_X5_plan h_t h_p1 h_p2 r_t r_shapeNow r_p1 u10.1 F_shapeNow cI n_p2 u10.2.1 u10.2.2.1 u10.2.2.2.1 u10.2.2.2.2 a_p1_media a_p1_stores a_p1_held a_p2) (wr := List.filterMap (fun i : Nat => (w_X5_plan h_t h_p1 h_p2 r_t r_shapeNow r_p1 F_t F_shapeNow cI n_p2 a_words a_addresses a_numbers a_olds a_p1_media a_p1_stores a_p1_held a_p2)[i]?) [5, 6, 7, 8, 9, 10]) (z_rV (rest := []) hx hb hml hown hcx hl.1 (c_X5_planNew l D cI h_t r_t F_t a_words a_addresses a_numbers a_olds v6 v8 u10 hu10 _) tl_X5_45 ti_X5_planNew tz_X5_planNew tn_X5 tc_X5_planNew tm_X5_planNew rfl rfl ⟨Nat.le_of_ble_eq_true rfl, Nat.le_of_ble_eq_true rfl⟩ hK hX hS hA hP hD [0, 1, 2, 3, 4] rfl rfl 0 rfl rfl rfl rfl (Nat.le_of_ble_eq_true rfl) dX5_plan_105 ⟨Nat.zero_le _, Nat.zero_le _⟩) hP hD hS hA [0, 1, 2, 3, 4] [5, 6, 7, 8, 9, 10] [6, 7, 8, 9, 10, 0, 1, 2, 3, 4, 5] rfl rfl rfl (by decide) rfl rfl (fun H locs hP hD hS => ?_)
          refine lv_goto (tgt := 149) hx hb dX5_plan_108 (by decide) ?_
          exact L149 x4 u10.1 F_shapeNow u10.2.1 u10.2.2.1 u10.2.2.2.1 u10.2.2.2.2 _ _ _ hf hP hD hS (lv_sub hl [2, 3, 4, 5] rfl)
        refine z_tabin (v := 1) (off := 46) (tgt := 111) hx hb dX5_plan_65 (by decide) (by decide) (by decide) (by decide) hf (fun hf => ?_) (fun hn1 hf => ?_)
        · refine lv_aload_n hx hb dX5_plan_111 rfl (lv_at hl 2 rfl) ?_
          refine lv_iload hx hb dX5_plan_112 (lv_at hl 1 rfl) ?_
          obtain ⟨u12, hu12, hf⟩ := bd_some hf
          refine z_cv (ws1 := w_X5_plan h_t h_p1 h_p2 r_t r_shapeNow r_p1 u12.1 F_shapeNow cI n_p2 u12.2.1 u12.2.2.1 u12.2.2.2.1 u12.2.2.2.2 a_p1_media a_p1_stores a_p1_held a_p2) (wr := List.filterMap (fun i : Nat => (w_X5_plan h_t h_p1 h_p2 r_t r_shapeNow r_p1 F_t F_shapeNow cI n_p2 a_words a_addresses a_numbers a_olds a_p1_media a_p1_stores a_p1_held a_p2)[i]?) [5, 6, 7, 8, 9, 10]) (z_rV (rest := []) hx hb hml hown hcx hl.1 (c_X5_planDrop l D cI h_t r_t F_t a_words a_addresses a_numbers a_olds v6 u12 hu12 _) tl_X5_49 ti_X5_planDrop tz_X5_planDrop tn_X5 tc_X5_planDrop tm_X5_planDrop rfl rfl ⟨Nat.le_of_ble_eq_true rfl, Nat.le_of_ble_eq_true rfl⟩ hK hX hS hA hP hD [0, 1, 2, 3, 4] rfl rfl 0 rfl rfl rfl rfl (Nat.le_of_ble_eq_true rfl) dX5_plan_114 ⟨Nat.zero_le _, Nat.zero_le _⟩) hP hD hS hA [0, 1, 2, 3, 4] [5, 6, 7, 8, 9, 10] [6, 7, 8, 9, 10, 0, 1, 2, 3, 4, 5] rfl rfl rfl (by decide) rfl rfl (fun H locs hP hD hS => ?_)
          refine lv_goto (tgt := 149) hx hb dX5_plan_117 (by decide) ?_
          exact L149 x4 u12.1 F_shapeNow u12.2.1 u12.2.2.1 u12.2.2.2.1 u12.2.2.2.2 _ _ _ hf hP hD hS (lv_sub hl [2, 3, 4, 5] rfl)
        refine z_tabin (v := 2) (off := 55) (tgt := 120) hx hb dX5_plan_65 (by decide) (by decide) (by decide) (by decide) hf (fun hf => ?_) (fun hn2 hf => ?_)
        · refine lv_aload_n hx hb dX5_plan_120 rfl (lv_at hl 2 rfl) ?_
          refine lv_iload hx hb dX5_plan_121 (lv_at hl 1 rfl) ?_
          refine lv_iload hx hb dX5_plan_123 (lv_at hl 0 rfl) ?_
          obtain ⟨u13, hu13, hf⟩ := bd_some hf
          refine z_cv (ws1 := w_X5_plan h_t h_p1 h_p2 r_t r_shapeNow r_p1 u13.1 F_shapeNow cI n_p2 u13.2.1 u13.2.2.1 u13.2.2.2.1 u13.2.2.2.2 a_p1_media a_p1_stores a_p1_held a_p2) (wr := List.filterMap (fun i : Nat => (w_X5_plan h_t h_p1 h_p2 r_t r_shapeNow r_p1 F_t F_shapeNow cI n_p2 a_words a_addresses a_numbers a_olds a_p1_media a_p1_stores a_p1_held a_p2)[i]?) [5, 6, 7, 8, 9, 10]) (z_rV (rest := []) hx hb hml hown hcx hl.1 (c_X5_planMove l D cI h_t r_t F_t a_words a_addresses a_numbers a_olds v6 v8 u13 hu13 _) tl_X5_53 ti_X5_planMove tz_X5_planMove tn_X5 tc_X5_planMove tm_X5_planMove rfl rfl ⟨Nat.le_of_ble_eq_true rfl, Nat.le_of_ble_eq_true rfl⟩ hK hX hS hA hP hD [0, 1, 2, 3, 4] rfl rfl 0 rfl rfl rfl rfl (Nat.le_of_ble_eq_true rfl) dX5_plan_125 ⟨Nat.zero_le _, Nat.zero_le _⟩) hP hD hS hA [0, 1, 2, 3, 4] [5, 6, 7, 8, 9, 10] [6, 7, 8, 9, 10, 0, 1, 2, 3, 4, 5] rfl rfl rfl (by decide) rfl rfl (fun H locs hP hD hS => ?_)
          refine lv_goto (tgt := 149) hx hb dX5_plan_128 (by decide) ?_
          exact L149 x4 u13.1 F_shapeNow u13.2.1 u13.2.2.1 u13.2.2.2.1 u13.2.2.2.2 _ _ _ hf hP hD hS (lv_sub hl [2, 3, 4, 5] rfl)
        refine z_tabin (v := 3) (off := 66) (tgt := 131) hx hb dX5_plan_65 (by decide) (by decide) (by decide) (by decide) hf (fun hf => ?_) (fun hn3 hf => ?_)
        · refine lv_aload_n hx hb dX5_plan_131 rfl (lv_at hl 2 rfl) ?_
          refine lv_iload hx hb dX5_plan_132 (lv_at hl 1 rfl) ?_
          refine lv_iload hx hb dX5_plan_134 (lv_at hl 0 rfl) ?_
          obtain ⟨u14, hu14, hf⟩ := bd_some hf
          refine z_cv (ws1 := w_X5_plan h_t h_p1 h_p2 r_t r_shapeNow r_p1 u14.1 F_shapeNow cI n_p2 u14.2.1 u14.2.2.1 u14.2.2.2.1 u14.2.2.2.2 a_p1_media a_p1_stores a_p1_held a_p2) (wr := List.filterMap (fun i : Nat => (w_X5_plan h_t h_p1 h_p2 r_t r_shapeNow r_p1 F_t F_shapeNow cI n_p2 a_words a_addresses a_numbers a_olds a_p1_media a_p1_stores a_p1_held a_p2)[i]?) [5, 6, 7, 8, 9, 10]) (z_rV (rest := []) hx hb hml hown hcx hl.1 (c_X5_write l D cI h_t r_t F_t a_words a_addresses a_numbers a_olds v6 v8 u14 hu14 _) tl_X5_56 ti_X5_write tz_X5_write tn_X5 tc_X5_write tm_X5_write rfl rfl ⟨Nat.le_of_ble_eq_true rfl, Nat.le_of_ble_eq_true rfl⟩ hK hX hS hA hP hD [0, 1, 2, 3, 4] rfl rfl 0 rfl rfl rfl rfl (Nat.le_of_ble_eq_true rfl) dX5_plan_136 ⟨Nat.zero_le _, Nat.zero_le _⟩) hP hD hS hA [0, 1, 2, 3, 4] [5, 6, 7, 8, 9, 10] [6, 7, 8, 9, 10, 0, 1, 2, 3, 4, 5] rfl rfl rfl (by decide) rfl rfl (fun H locs hP hD hS => ?_)
          refine lv_goto (tgt := 149) hx hb dX5_plan_139 (by decide) ?_
          exact L149 x4 u14.1 F_shapeNow u14.2.1 u14.2.2.1 u14.2.2.2.1 u14.2.2.2.2 _ _ _ hf hP hD hS (lv_sub hl [2, 3, 4, 5] rfl)
        refine z_tabin (v := 4) (off := 77) (tgt := 142) hx hb dX5_plan_65 (by decide) (by decide) (by decide) (by decide) hf (fun hf => ?_) (fun hn4 hf => ?_)
        · refine lv_aload_n hx hb dX5_plan_142 rfl (lv_at hl 2 rfl) ?_
          obtain ⟨u15, hu15, hf⟩ := bd_some hf
          refine z_cv (ws1 := w_X5_plan h_t h_p1 h_p2 r_t r_shapeNow r_p1 u15.1 u15.2.1 cI n_p2 u15.2.2.1 u15.2.2.2.1 u15.2.2.2.2.1 u15.2.2.2.2.2 a_p1_media a_p1_stores a_p1_held a_p2) (wr := List.filterMap (fun i : Nat => (w_X5_plan h_t h_p1 h_p2 r_t r_shapeNow r_p1 F_t F_shapeNow cI n_p2 a_words a_addresses a_numbers a_olds a_p1_media a_p1_stores a_p1_held a_p2)[i]?) [6, 7, 8, 9, 10]) (z_rV (rest := []) hx hb hml hown hcx hl.1 (c_X5_planSweep l D cI h_t r_t r_shapeNow F_t F_shapeNow a_words a_addresses a_numbers a_olds u15 hu15 _) tl_X5_59 ti_X5_planSweep tz_X5_planSweep tn_X5 tc_X5_planSweep tm_X5_planSweep rfl rfl ⟨Nat.le_of_ble_eq_true rfl, Nat.le_of_ble_eq_true rfl⟩ hK hX hS hA hP hD [0, 1, 2, 3, 4, 5] rfl rfl 0 rfl rfl rfl rfl (Nat.le_of_ble_eq_true rfl) dX5_plan_143 ⟨Nat.zero_le _, Nat.zero_le _⟩) hP hD hS hA [0, 1, 2, 3, 4, 5] [6, 7, 8, 9, 10] [5, 6, 7, 8, 9, 10, 0, 1, 2, 3, 4] rfl rfl rfl (by decide) rfl rfl (fun H locs hP hD hS => ?_)
          refine lv_goto (tgt := 149) hx hb dX5_plan_146 (by decide) ?_
          exact L149 x4 u15.1 u15.2.1 u15.2.2.1 u15.2.2.2.1 u15.2.2.2.2.1 u15.2.2.2.2.2 _ _ _ hf hP hD hS (lv_sub hl [2, 3, 4, 5] rfl)
        refine z_tabout (tgt := 149) hx hb dX5_plan_65 (fun i h1 h2 => by rcases (show i = 0 ∨ i = 1 ∨ i = 2 ∨ i = 3 ∨ i = 4 by omega) with rfl | rfl | rfl | rfl | rfl <;> first | exact hn0 | exact hn1 | exact hn2 | exact hn3 | exact hn4) (by decide) ?_
        exact L149 x4 F_t F_shapeNow a_words a_addresses a_numbers a_olds _ _ _ hf hP hD hS (lv_sub hl [2, 3, 4, 5] rfl)
  refine lv_aload_n hx hb dX5_plan_0 rfl (lv_at hl 1 rfl) ?_
  refine lv_aload_n hx hb dX5_plan_1 rfl (lv_at hl 0 rfl) ?_
  refine z_get (ci := 5) (C := RX5) (T := TX5) (N := 7) (v := .ref (r_t 0)) hx hb hts inT_X5 hown hK hP 0 rfl rfl 0 (by decide) tf_X5_9 rfl dX5_plan_2 ?_
  obtain ⟨u1, hu1, hf⟩ := bd_some hf
  refine z_cv (ws1 := w_X5_plan h_t h_p1 h_p2 r_t r_shapeNow r_p1 F_t F_shapeNow cI n_p2 u1 a_addresses a_numbers a_olds a_p1_media a_p1_stores a_p1_held a_p2) (wr := List.filterMap (fun i : Nat => (w_X5_plan h_t h_p1 h_p2 r_t r_shapeNow r_p1 F_t F_shapeNow cI n_p2 a_words a_addresses a_numbers a_olds a_p1_media a_p1_stores a_p1_held a_p2)[i]?) [0, 2, 3, 4, 5, 10]) (z_rV (rest := []) hx hb hml hown hcx hl.1 (c_X1_fillWords l D cI h_p1 (r_t 0) r_p1 64 a_p1_media a_p1_stores a_p1_held a_words u1 hu1 _) tl_X5_39 ti_X1_fillWords tz_X1_fillWords tn_X1 tc_X1_fillWords tm_X1_fillWords rfl rfl ⟨Nat.le_of_ble_eq_true rfl, Nat.le_of_ble_eq_true rfl⟩ hK hX hS hA hP hD [6, 7, 8, 9, 1] rfl rfl 6 rfl rfl rfl rfl (Nat.le_of_ble_eq_true rfl) dX5_plan_5 ⟨Nat.zero_le _, Nat.zero_le _⟩) hP hD hS hA [6, 7, 8, 9, 1] [0, 2, 3, 4, 5, 10] [0, 10, 1, 2, 3, 4, 6, 7, 8, 9, 5] rfl rfl rfl (by decide) rfl rfl (fun H locs hP hD hS => ?_)
  refine lv_aload_n hx hb dX5_plan_8 rfl (lv_at hl 0 rfl) ?_
  refine lv_iconst (v := 0) hx hb dX5_plan_9 (by decide) ?_
  refine z_put (ci := 5) (C := RX5) (T := TX5) (N := 7) hx hb hts inT_X5 tyX5 tyX5_ok nmX5 hown hK hP hD hS 0 rfl rfl 4 (by decide) tf_X5_24 rfl (by decide +kernel) (Nat.le_of_ble_eq_true rfl) (o_X5 r_t) (o_X5_s4 _ _ _) (fun z => w_X5_plan h_t h_p1 h_p2 r_t r_shapeNow r_p1 z F_shapeNow cI n_p2 u1 a_addresses a_numbers a_olds a_p1_media a_p1_stores a_p1_held a_p2) (fun _ => rfl) dX5_plan_10 hf (fun F2 H locs hf hP hD hS => ?_)
  refine lv_aload_n hx hb dX5_plan_13 rfl (lv_at hl 0 rfl) ?_
  refine lv_iconst (v := 1) hx hb dX5_plan_14 (by decide) ?_
  refine z_putb (ci := 5) (C := RX5) (T := TX5) (N := 7) hx hb hts inT_X5 tyX5 tyX5_ok nmX5 hown hK hP hD hS 0 rfl rfl 5 (by decide) tf_X5_28 rfl (by decide +kernel) (Nat.le_of_ble_eq_true rfl) (o_X5 r_t) (o_X5_s5 _ _ _) (fun z => w_X5_plan h_t h_p1 h_p2 r_t r_shapeNow r_p1 z F_shapeNow cI n_p2 u1 a_addresses a_numbers a_olds a_p1_media a_p1_stores a_p1_held a_p2) (fun _ => rfl) dX5_plan_15 hf (fun F3 H locs hf hP hD hS => ?_)
  refine lv_iload_n hx hb dX5_plan_18 rfl (lv_at hl 3 rfl) ?_
  refine lv_iconst (v := 4) hx hb dX5_plan_19 (by decide) ?_
  refine lv_imul hx hb dX5_plan_20 ?_
  refine z_istore (fun z => [(4, .int z), (0, .ref h_t), (1, .ref h_p1), (2, .ref h_p2), (3, .int p3)]) hx hb dX5_plan_21 hl (by decide) (fun _ => rfl) hf (fun v4 ls hf hl => ?_)
  exact L23 fuelN v4 F3 F_shapeNow u1 a_addresses a_numbers a_olds _ _ _ hf hP hD hS (lv_sub hl [1, 3, 4, 0] rfl)
abbrev w_X4_isReady (h_t : Nat) (h_p1 : Nat) (r_t : Nat → Nat) (r_cache : Nat → Nat) (r_p1 : Nat → Nat) (r_p1_shapeNow : Nat → Nat) (F_t : Nat → Int32) (F_p1 : Nat → Int32) (F_p1_shapeNow : Nat → Int32) (cI : ClassId) (a_cache_media : Nat → Int32) (a_cache_stores : Nat → Int32) (a_cache_held : Nat → Int32) (a_waiting : Nat → Int32) (a_p1_words : Nat → Int32) (a_p1_addresses : Nat → Int32) (a_p1_numbers : Nat → Int32) (a_p1_olds : Nat → Int32) : va_W := [(h_t, .inr (4, o_X4 r_t F_t)), ((r_t 0), .inr (1, o_X1 r_cache)), ((r_cache 0), .inl (cI, 64, .inl a_cache_media)), ((r_cache 1), .inl (cI, 96, .inl a_cache_stores)), ((r_cache 2), .inl (cI, 16, .inl a_cache_held)), ((r_t 6), .inl (cI, 48, .inl a_waiting)), (h_p1, .inr (5, o_X5 r_p1 F_p1)), ((r_p1 0), .inl (cI, 64, .inl a_p1_words)), ((r_p1 1), .inl (cI, 8, .inl a_p1_addresses)), ((r_p1 2), .inl (cI, 8, .inl a_p1_numbers)), ((r_p1 3), .inl (cI, 8, .inl a_p1_olds)), ((r_p1 6), .inr (7, o_X7 r_p1_shapeNow F_p1_shapeNow))]
abbrev rm_X4_isReady : Room := { frames := 5, cells := 0, slots := 0, locals := 115 }
def m_X4_isReady_w18 (F_t : Nat → Int32) (a_cache_media : Nat → Int32) (a_cache_stores : Nat → Int32) (a_cache_held : Nat → Int32) (a_waiting : Nat → Int32) : Nat → Int32 → (Nat → Int32) → (Nat → Int32) → (Nat → Int32) → (Nat → Int32) → (Nat → Int32) → (Nat → Int32) → Option (Int32 × (Nat → Int32) × (Nat → Int32) × (Nat → Int32) × (Nat → Int32) × (Nat → Int32) × (Nat → Int32))
  | 0, _, _, _, _, _, _, _ => none
  | n18 + 1, x2, F_p1, F_p1_shapeNow, a_p1_words, a_p1_addresses, a_p1_numbers, a_p1_olds =>
    if (F_t 7) ≤ x2 then (
    some (0, F_p1, F_p1_shapeNow, a_p1_words, a_p1_addresses, a_p1_numbers, a_p1_olds))
    else (
    bd (m_X5_plan F_p1 F_p1_shapeNow a_p1_words a_p1_addresses a_p1_numbers a_p1_olds a_cache_media a_cache_stores a_cache_held a_waiting 48 x2) fun u2 =>
    if u2.1 = 0 then (
    nm (x2 + 1) fun v3 =>
    m_X4_isReady_w18 F_t a_cache_media a_cache_stores a_cache_held a_waiting n18 v3 u2.2.1 u2.2.2.1 u2.2.2.2.1 u2.2.2.2.2.1 u2.2.2.2.2.2.1 u2.2.2.2.2.2.2)
    else (
    some (1, u2.2.1, u2.2.2.1, u2.2.2.2.1, u2.2.2.2.2.1, u2.2.2.2.2.2.1, u2.2.2.2.2.2.2)))
def m_X4_isReady (F_t : Nat → Int32) (F_p1 : Nat → Int32) (F_p1_shapeNow : Nat → Int32) (a_cache_media : Nat → Int32) (a_cache_stores : Nat → Int32) (a_cache_held : Nat → Int32) (a_waiting : Nat → Int32) (a_p1_words : Nat → Int32) (a_p1_addresses : Nat → Int32) (a_p1_numbers : Nat → Int32) (a_p1_olds : Nat → Int32) : Option (Int32 × (Nat → Int32) × (Nat → Int32) × (Nat → Int32) × (Nat → Int32) × (Nat → Int32) × (Nat → Int32)) :=
  if (F_t 8) = 0 then (
  bd (m_X4_isIdle F_t) fun u1 =>
  if u1 = 0 then (
  some (0, F_p1, F_p1_shapeNow, a_p1_words, a_p1_addresses, a_p1_numbers, a_p1_olds))
  else (
  m_X4_isReady_w18 F_t a_cache_media a_cache_stores a_cache_held a_waiting fuelN 0 F_p1 F_p1_shapeNow a_p1_words a_p1_addresses a_p1_numbers a_p1_olds))
  else (
  some (0, F_p1, F_p1_shapeNow, a_p1_words, a_p1_addresses, a_p1_numbers, a_p1_olds))
set_option maxHeartbeats 4000000 in
set_option maxRecDepth 100000 in
theorem c_X4_isReady (l : Launch) (D : va_G) (cI : ClassId) (h_t : Nat) (h_p1 : Nat) (r_t : Nat → Nat) (r_cache : Nat → Nat) (r_p1 : Nat → Nat) (r_p1_shapeNow : Nat → Nat) (F_t : Nat → Int32) (F_p1 : Nat → Int32) (F_p1_shapeNow : Nat → Int32) (a_cache_media : Nat → Int32) (a_cache_stores : Nat → Int32) (a_cache_held : Nat → Int32) (a_waiting : Nat → Int32) (a_p1_words : Nat → Int32) (a_p1_addresses : Nat → Int32) (a_p1_numbers : Nat → Int32) (a_p1_olds : Nat → Int32) (Rr : Int32 × (Nat → Int32) × (Nat → Int32) × (Nat → Int32) × (Nat → Int32) × (Nat → Int32) × (Nat → Int32)) (hf : m_X4_isReady F_t F_p1 F_p1_shapeNow a_cache_media a_cache_stores a_cache_held a_waiting a_p1_words a_p1_addresses a_p1_numbers a_p1_olds = some Rr) : CTi l yX4_isReady (Cond.code yX4_isReady cX4_isReady 3 (some .boolean)) rm_X4_isReady D cI [.ref h_t, .ref h_p1] (w_X4_isReady h_t h_p1 r_t r_cache r_p1 r_p1_shapeNow F_t F_p1 F_p1_shapeNow cI a_cache_media a_cache_stores a_cache_held a_waiting a_p1_words a_p1_addresses a_p1_numbers a_p1_olds) Rr.1 (w_X4_isReady h_t h_p1 r_t r_cache r_p1 r_p1_shapeNow F_t Rr.2.1 Rr.2.2.1 cI a_cache_media a_cache_stores a_cache_held a_waiting Rr.2.2.2.1 Rr.2.2.2.2.1 Rr.2.2.2.2.2.1 Rr.2.2.2.2.2.2) := by
  refine z_begin_z (own := RX4) (ρ := Int32 × (Nat → Int32) × (Nat → Int32) × (Nat → Int32) × (Nat → Int32) × (Nat → Int32) × (Nat → Int32)) (fun u => w_X4_isReady h_t h_p1 r_t r_cache r_p1 r_p1_shapeNow F_t u.2.1 u.2.2.1 cI a_cache_media a_cache_stores a_cache_held a_waiting u.2.2.2.1 u.2.2.2.2.1 u.2.2.2.2.2.1 u.2.2.2.2.2.2) (fun u => u.1) (by decide +kernel) rfl (Nat.le_of_ble_eq_true rfl) ?_
  intro p e s m args below meth c ls Q A hx hb hml hts hcx hown hK hX hA hP hD hS hl hret
  have hl : lv_has ls 3 [(0, .ref h_t), (1, .ref h_p1)] := hl
  have hf := (m_X4_isReady.eq_1 _ _ _ _ _ _ _ _ _ _ _).symm.trans hf
  have L18 : ∀ (n18 : Nat) (x2 : Int32) (F_p1 : Nat → Int32) (F_p1_shapeNow : Nat → Int32) (a_p1_words : Nat → Int32) (a_p1_addresses : Nat → Int32) (a_p1_numbers : Nat → Int32) (a_p1_olds : Nat → Int32) (H : Heap) (locs : List Loc) (ls : Array Slot), m_X4_isReady_w18 F_t a_cache_media a_cache_stores a_cache_held a_waiting n18 x2 F_p1 F_p1_shapeNow a_p1_words a_p1_addresses a_p1_numbers a_p1_olds = some Rr → va_P D vwCl (w_X4_isReady h_t h_p1 r_t r_cache r_p1 r_p1_shapeNow F_t F_p1 F_p1_shapeNow cI a_cache_media a_cache_stores a_cache_held a_waiting a_p1_words a_p1_addresses a_p1_numbers a_p1_olds) H → va_D A (w_X4_isReady h_t h_p1 r_t r_cache r_p1 r_p1_shapeNow F_t F_p1 F_p1_shapeNow cI a_cache_media a_cache_stores a_cache_held a_waiting a_p1_words a_p1_addresses a_p1_numbers a_p1_olds) → va_S A s.heap H locs → lv_has ls 3 [(0, .ref h_t), (1, .ref h_p1), (2, .int x2)] → W p l e rm_X4_isReady s m args below meth c H locs 0 0 Q (F0 m 18 ls []) := by
    intro n18
    induction n18 with
    | zero => intro x2 F_p1 F_p1_shapeNow a_p1_words a_p1_addresses a_p1_numbers a_p1_olds H locs ls hf; cases (show (none : Option _) = some Rr from hf)
    | succ n18 ih18 =>
      intro x2 F_p1 F_p1_shapeNow a_p1_words a_p1_addresses a_p1_numbers a_p1_olds H locs ls hf hP hD hS hl
      have hf := (m_X4_isReady_w18.eq_2 _ _ _ _ _ _ _ _ _ _ _ _ _).symm.trans hf
      refine lv_iload_n hx hb dX4_isReady_18 rfl (lv_at hl 2 rfl) ?_
      refine lv_aload_n hx hb dX4_isReady_19 rfl (lv_at hl 0 rfl) ?_
      refine z_get (ci := 4) (C := RX4) (T := TX4) (N := 12) (v := .int (F_t 7)) hx hb hts inT_X4 hown hK hP 0 rfl rfl 7 (by decide) tf_X4_38 rfl dX4_isReady_20 ?_
      refine z_icmp_ge (tgt := 50) hx hb dX4_isReady_23 (by decide) hf (fun hf => ?_) (fun hf => ?_)
      · refine lv_iconst (v := 0) hx hb dX4_isReady_50 (by decide) ?_
        exact hret (0, F_p1, F_p1_shapeNow, a_p1_words, a_p1_addresses, a_p1_numbers, a_p1_olds) _ _ _ _ (Or.inl rfl) hf hP hD hS dX4_isReady_51
      · refine lv_aload_n hx hb dX4_isReady_26 rfl (lv_at hl 1 rfl) ?_
        refine lv_aload_n hx hb dX4_isReady_27 rfl (lv_at hl 0 rfl) ?_
        refine z_get (ci := 4) (C := RX4) (T := TX4) (N := 12) (v := .ref (r_t 0)) hx hb hts inT_X4 hown hK hP 0 rfl rfl 0 (by decide) tf_X4_12 rfl dX4_isReady_28 ?_
        refine lv_aload_n hx hb dX4_isReady_31 rfl (lv_at hl 0 rfl) ?_
        refine z_get (ci := 4) (C := RX4) (T := TX4) (N := 12) (v := .ref (r_t 6)) hx hb hts inT_X4 hown hK hP 0 rfl rfl 6 (by decide) tf_X4_35 rfl dX4_isReady_32 ?_
        refine lv_iload_n hx hb dX4_isReady_35 rfl (lv_at hl 2 rfl) ?_
        obtain ⟨u2, hu2, hf⟩ := bd_some hf
        refine z_ci (ws1 := w_X4_isReady h_t h_p1 r_t r_cache r_p1 r_p1_shapeNow F_t u2.2.1 u2.2.2.1 cI a_cache_media a_cache_stores a_cache_held a_waiting u2.2.2.2.1 u2.2.2.2.2.1 u2.2.2.2.2.2.1 u2.2.2.2.2.2.2) (wr := List.filterMap (fun i : Nat => (w_X4_isReady h_t h_p1 r_t r_cache r_p1 r_p1_shapeNow F_t F_p1 F_p1_shapeNow cI a_cache_media a_cache_stores a_cache_held a_waiting a_p1_words a_p1_addresses a_p1_numbers a_p1_olds)[i]?) [0]) (z_rV (rest := []) hx hb hml hown hcx hl.1 (c_X5_plan l D cI h_p1 (r_t 0) (r_t 6) r_p1 r_p1_shapeNow r_cache F_p1 F_p1_shapeNow 48 a_p1_words a_p1_addresses a_p1_numbers a_p1_olds a_cache_media a_cache_stores a_cache_held a_waiting x2 u2 hu2 _) tl_X4_67 ti_X5_plan tz_X5_plan tn_X5 tc_X5_plan tm_X5_plan rfl rfl ⟨Nat.le_of_ble_eq_true rfl, Nat.le_of_ble_eq_true rfl⟩ hK hX hS hA hP hD [6, 7, 8, 9, 10, 11, 1, 2, 3, 4, 5] rfl rfl 6 rfl rfl rfl rfl (Nat.le_of_ble_eq_true rfl) dX4_isReady_36 ⟨Nat.zero_le _, Nat.zero_le _⟩) hP hD hS hA [6, 7, 8, 9, 10, 11, 1, 2, 3, 4, 5] [0] [0, 7, 8, 9, 10, 11, 1, 2, 3, 4, 5, 6] rfl rfl rfl (by decide) rfl rfl (fun H locs hP hD hS => ?_)
        refine z_if_eq (tgt := 44) hx hb dX4_isReady_39 (by decide) hf (fun hf => ?_) (fun hf => ?_)
        · refine z_iinc (k0 := 2) (fun z => [(2, .int z), (0, .ref h_t), (1, .ref h_p1)]) hx hb dX4_isReady_44 hl rfl (by decide) (by decide) (fun _ => rfl) hf (fun v3 ls hf hl => ?_)
          refine lv_goto (tgt := 18) hx hb dX4_isReady_47 (by decide) ?_
          exact ih18 v3 u2.2.1 u2.2.2.1 u2.2.2.2.1 u2.2.2.2.2.1 u2.2.2.2.2.2.1 u2.2.2.2.2.2.2 _ _ _ hf hP hD hS (lv_sub hl [1, 2, 0] rfl)
        · refine lv_iconst (v := 1) hx hb dX4_isReady_42 (by decide) ?_
          exact hret (1, u2.2.1, u2.2.2.1, u2.2.2.2.1, u2.2.2.2.2.1, u2.2.2.2.2.2.1, u2.2.2.2.2.2.2) _ _ _ _ (Or.inr rfl) hf hP hD hS dX4_isReady_43
  refine lv_aload_n hx hb dX4_isReady_0 rfl (lv_at hl 0 rfl) ?_
  refine z_get (ci := 4) (C := RX4) (T := TX4) (N := 12) (v := .int (F_t 8)) hx hb hts inT_X4 hown hK hP 0 rfl rfl 8 (by decide) tf_X4_41 rfl dX4_isReady_1 ?_
  refine z_if_ne (tgt := 14) hx hb dX4_isReady_4 (by decide) hf (fun hf => ?_) (fun hf => ?_)
  · refine lv_iconst (v := 0) hx hb dX4_isReady_14 (by decide) ?_
    exact hret (0, F_p1, F_p1_shapeNow, a_p1_words, a_p1_addresses, a_p1_numbers, a_p1_olds) _ _ _ _ (Or.inl rfl) hf hP hD hS dX4_isReady_15
  · refine lv_aload_n hx hb dX4_isReady_7 rfl (lv_at hl 0 rfl) ?_
    obtain ⟨u1, hu1, hf⟩ := bd_some hf
    refine z_ci (ws1 := w_X4_isReady h_t h_p1 r_t r_cache r_p1 r_p1_shapeNow F_t F_p1 F_p1_shapeNow cI a_cache_media a_cache_stores a_cache_held a_waiting a_p1_words a_p1_addresses a_p1_numbers a_p1_olds) (wr := List.filterMap (fun i : Nat => (w_X4_isReady h_t h_p1 r_t r_cache r_p1 r_p1_shapeNow F_t F_p1 F_p1_shapeNow cI a_cache_media a_cache_stores a_cache_held a_waiting a_p1_words a_p1_addresses a_p1_numbers a_p1_olds)[i]?) [1, 2, 3, 4, 5, 6, 7, 8, 9, 10, 11]) (z_rV (rest := []) hx hb hml hown hcx hl.1 (c_X4_isIdle l D cI h_t r_t F_t u1 hu1 _) tl_X4_63 ti_X4_isIdle tz_X4_isIdle tn_X4 tc_X4_isIdle tm_X4_isIdle rfl rfl ⟨Nat.le_of_ble_eq_true rfl, Nat.le_of_ble_eq_true rfl⟩ hK hX hS hA hP hD [0] rfl rfl 0 rfl rfl rfl rfl (Nat.le_of_ble_eq_true rfl) dX4_isReady_8 ⟨Nat.zero_le _, Nat.zero_le _⟩) hP hD hS hA [0] [1, 2, 3, 4, 5, 6, 7, 8, 9, 10, 11] [11, 0, 1, 2, 3, 4, 5, 6, 7, 8, 9, 10] rfl rfl rfl (by decide) rfl rfl (fun H locs hP hD hS => ?_)
    refine z_if_ne (tgt := 16) hx hb dX4_isReady_11 (by decide) hf (fun hf => ?_) (fun hf => ?_)
    · refine lv_iconst (v := 0) hx hb dX4_isReady_16 (by decide) ?_
      refine lv_istore_n (lv' := [(2, .int 0), (0, .ref h_t), (1, .ref h_p1)]) hx hb dX4_isReady_17 rfl hl (by decide) rfl (fun ls hl => ?_)
      exact L18 fuelN 0 F_p1 F_p1_shapeNow a_p1_words a_p1_addresses a_p1_numbers a_p1_olds _ _ _ hf hP hD hS (lv_sub hl [1, 2, 0] rfl)
    · refine lv_iconst (v := 0) hx hb dX4_isReady_14 (by decide) ?_
      exact hret (0, F_p1, F_p1_shapeNow, a_p1_words, a_p1_addresses, a_p1_numbers, a_p1_olds) _ _ _ _ (Or.inl rfl) hf hP hD hS dX4_isReady_15
