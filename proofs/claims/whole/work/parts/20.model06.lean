abbrev w_X12_forget (h_t : Nat) (r_t : Nat → Nat) (F_t : Nat → Int32) (cI : ClassId) : va_W := [(h_t, .inr (12, o_X12 r_t F_t))]
abbrev rm_X12_forget : Room := { frames := 0, cells := 0, slots := 0, locals := 0 }
def m_X12_forget (F_t : Nat → Int32) : Option ((Nat → Int32)) :=
  nm (upd F_t 4 0) fun F1 =>
  nm (upd F1 7 0) fun F2 =>
  some F2
set_option maxHeartbeats 4000000 in
set_option maxRecDepth 100000 in
theorem c_X12_forget (l : Launch) (D : va_G) (cI : ClassId) (h_t : Nat) (r_t : Nat → Nat) (F_t : Nat → Int32) (Rr : (Nat → Int32)) (hf : m_X12_forget F_t = some Rr) : CTv l yX12_forget (Cond.code yX12_forget cX12_forget 1 none) rm_X12_forget D cI [.ref h_t] (w_X12_forget h_t r_t F_t cI) (w_X12_forget h_t r_t Rr cI) := by
  refine z_begin_v (own := RX12) (ρ := (Nat → Int32)) (fun u => w_X12_forget h_t r_t u cI) (by decide +kernel) rfl (Nat.le_of_ble_eq_true rfl) ?_
  intro p e s m args below meth c ls Q A hx hb hml hts hcx hown hK hA hP hD hS hl hret
  have hl : lv_has ls 1 [(0, .ref h_t)] := hl
  have hf := (m_X12_forget.eq_1 _).symm.trans hf
  refine lv_aload_n hx hb dX12_forget_0 rfl (lv_at hl 0 rfl) ?_
  refine lv_iconst (v := 0) hx hb dX12_forget_1 (by decide) ?_
  refine z_put (ci := 12) (C := RX12) (T := TX12) (N := 51) hx hb hts inT_X12 tyX12 tyX12_ok nmX12 hown hK hP hD hS 0 rfl rfl 4 (by decide) tf_X12_63 rfl (by decide +kernel) (Nat.le_of_ble_eq_true rfl) (o_X12 r_t) (o_X12_s4 _ _ _) (fun z => w_X12_forget h_t r_t z cI) (fun _ => rfl) dX12_forget_2 hf (fun F1 H locs hf hP hD hS => ?_)
  refine lv_aload_n hx hb dX12_forget_5 rfl (lv_at hl 0 rfl) ?_
  refine lv_iconst (v := 0) hx hb dX12_forget_6 (by decide) ?_
  refine z_put (ci := 12) (C := RX12) (T := TX12) (N := 51) hx hb hts inT_X12 tyX12 tyX12_ok nmX12 hown hK hP hD hS 0 rfl rfl 7 (by decide) tf_X12_330 rfl (by decide +kernel) (Nat.le_of_ble_eq_true rfl) (o_X12 r_t) (o_X12_s7 _ _ _) (fun z => w_X12_forget h_t r_t z cI) (fun _ => rfl) dX12_forget_7 hf (fun F2 H locs hf hP hD hS => ?_)
  exact hret F2 _ _ _ _ hf hP hD hS dX12_forget_10
abbrev w_X12_draw (h_t : Nat) (r_t : Nat → Nat) (F_t : Nat → Int32) (cI : ClassId) : va_W := [(h_t, .inr (12, o_X12 r_t F_t))]
abbrev rm_X12_draw : Room := { frames := 0, cells := 0, slots := 0, locals := 0 }
def m_X12_draw (F_t : Nat → Int32) (p1 : Int32) : Option (Int32 × (Nat → Int32)) :=
  nm (upd F_t 49 (((F_t 49) * 1103515245) + 12345)) fun F1 =>
  dz p1 (
  some (((((F1 49) >>> (16 &&& 31)) &&& 32767) - (((F1 49) >>> (16 &&& 31)) &&& 32767) / p1 * p1), F1))
set_option maxHeartbeats 4000000 in
set_option maxRecDepth 100000 in
theorem c_X12_draw (l : Launch) (D : va_G) (cI : ClassId) (h_t : Nat) (r_t : Nat → Nat) (F_t : Nat → Int32) (p1 : Int32) (Rr : Int32 × (Nat → Int32)) (hf : m_X12_draw F_t p1 = some Rr) : CTi l yX12_draw (Cond.code yX12_draw cX12_draw 2 (some .int)) rm_X12_draw D cI [.ref h_t, .int p1] (w_X12_draw h_t r_t F_t cI) Rr.1 (w_X12_draw h_t r_t Rr.2 cI) := by
  refine z_begin_i (own := RX12) (ρ := Int32 × (Nat → Int32)) (fun u => w_X12_draw h_t r_t u.2 cI) (fun u => u.1) (by decide +kernel) rfl (Nat.le_of_ble_eq_true rfl) ?_
  intro p e s m args below meth c ls Q A hx hb hml hts hcx hown hK hA hP hD hS hl hret
  have hl : lv_has ls 2 [(0, .ref h_t), (1, .int p1)] := hl
  have hf := (m_X12_draw.eq_1 _ _).symm.trans hf
  refine lv_aload_n hx hb dX12_draw_0 rfl (lv_at hl 0 rfl) ?_
  refine lv_aload_n hx hb dX12_draw_1 rfl (lv_at hl 0 rfl) ?_
  refine z_get (ci := 12) (C := RX12) (T := TX12) (N := 51) (v := .int (F_t 49)) hx hb hts inT_X12 hown hK hP 0 rfl rfl 49 (by decide) tf_X12_400 rfl dX12_draw_2 ?_
  refine lv_ldcw hx hb hown (hts _ tk_X12_403) dX12_draw_5 ?_
  refine lv_imul hx hb dX12_draw_8 ?_
  refine lv_sipush (v := 12345) hx hb dX12_draw_9 (by decide) ?_
  refine lv_iadd hx hb dX12_draw_12 ?_
  refine z_put (ci := 12) (C := RX12) (T := TX12) (N := 51) hx hb hts inT_X12 tyX12 tyX12_ok nmX12 hown hK hP hD hS 0 rfl rfl 49 (by decide) tf_X12_400 rfl (by decide +kernel) (Nat.le_of_ble_eq_true rfl) (o_X12 r_t) (o_X12_s49 _ _ _) (fun z => w_X12_draw h_t r_t z cI) (fun _ => rfl) dX12_draw_13 hf (fun F1 H locs hf hP hD hS => ?_)
  refine lv_aload_n hx hb dX12_draw_16 rfl (lv_at hl 0 rfl) ?_
  refine z_get (ci := 12) (C := RX12) (T := TX12) (N := 51) (v := .int (F1 49)) hx hb hts inT_X12 hown hK hP 0 rfl rfl 49 (by decide) tf_X12_400 rfl dX12_draw_17 ?_
  refine lv_bipush (v := 16) hx hb dX12_draw_20 (by decide) ?_
  refine lv_ishr hx hb dX12_draw_22 ?_
  refine lv_sipush (v := 32767) hx hb dX12_draw_23 (by decide) ?_
  refine lv_iand hx hb dX12_draw_26 ?_
  refine lv_iload_n hx hb dX12_draw_27 rfl (lv_at hl 1 rfl) ?_
  refine z_irem hx hb dX12_draw_28 hf (fun hf => ?_)
  exact hret (((((F1 49) >>> (16 &&& 31)) &&& 32767) - (((F1 49) >>> (16 &&& 31)) &&& 32767) / p1 * p1), F1) _ _ _ _ hf hP hD hS dX12_draw_29
abbrev w_X12_crashesByDraws (h_t : Nat) (r_t : Nat → Nat) (F_t : Nat → Int32) (cI : ClassId) (a_rows : Nat → Int32) (a_memory : Nat → Int32) (a_order : Nat → Int32) (a_image : Nat → Int32) (a_well : Nat → Int32) : va_W := [(h_t, .inr (12, o_X12 r_t F_t)), ((r_t 0), .inl (cI, 66100, .inl a_rows)), ((r_t 23), .inl (cI, 64, .inl a_memory)), ((r_t 24), .inl (cI, 16, .inl a_order)), ((r_t 25), .inl (cI, 64, .inl a_image)), ((r_t 26), .inl (cI, 88, .inl a_well))]
abbrev rm_X12_crashesByDraws : Room := { frames := 4, cells := 0, slots := 0, locals := 93 }
def m_X12_crashesByDraws_j131 (F_t : Nat → Int32) (a_rows : Nat → Int32) (a_memory : Nat → Int32) (a_order : Nat → Int32) (a_image : Nat → Int32) (a_well : Nat → Int32) : Option ((Nat → Int32) × (Nat → Int32) × (Nat → Int32) × (Nat → Int32) × (Nat → Int32) × (Nat → Int32)) :=
  wr a_rows 66100 1558 0 fun a4 =>
  some (F_t, a4, a_memory, a_order, a_image, a_well)
def m_X12_crashesByDraws_w103 (k131 : (Nat → Int32) → (Nat → Int32) → (Nat → Int32) → (Nat → Int32) → (Nat → Int32) → (Nat → Int32) → Option ((Nat → Int32) × (Nat → Int32) × (Nat → Int32) × (Nat → Int32) × (Nat → Int32) × (Nat → Int32))) : Nat → Int32 → (Nat → Int32) → (Nat → Int32) → (Nat → Int32) → (Nat → Int32) → (Nat → Int32) → (Nat → Int32) → Option ((Nat → Int32) × (Nat → Int32) × (Nat → Int32) × (Nat → Int32) × (Nat → Int32) × (Nat → Int32))
  | 0, _, _, _, _, _, _, _ => none
  | n103 + 1, x1, F_t, a_rows, a_memory, a_order, a_image, a_well =>
    if 64 ≤ x1 then (
    k131 F_t a_rows a_memory a_order a_image a_well)
    else (
    rd a_memory 64 x1 fun y5 =>
    wr a_rows 66100 (786 + x1) y5 fun a6 =>
    nm (x1 + 1) fun v7 =>
    m_X12_crashesByDraws_w103 k131 n103 v7 F_t a6 a_memory a_order a_image a_well)
def m_X12_crashesByDraws_j86 (F_t : Nat → Int32) (a_rows : Nat → Int32) (a_memory : Nat → Int32) (a_order : Nat → Int32) (a_image : Nat → Int32) (a_well : Nat → Int32) : Option ((Nat → Int32) × (Nat → Int32) × (Nat → Int32) × (Nat → Int32) × (Nat → Int32) × (Nat → Int32)) :=
  bd (m_X12_laysMemory a_rows a_memory 786) fun u2 =>
  bd (m_X12_recovers F_t u2) fun u3 =>
  m_X12_crashesByDraws_w103 m_X12_crashesByDraws_j131 fuelN 0 F_t a_rows u3 a_order a_image a_well
def m_X12_crashesByDraws_j65 (F_t : Nat → Int32) (a_rows : Nat → Int32) (a_memory : Nat → Int32) (a_order : Nat → Int32) (a_image : Nat → Int32) (a_well : Nat → Int32) : Option ((Nat → Int32) × (Nat → Int32) × (Nat → Int32) × (Nat → Int32) × (Nat → Int32) × (Nat → Int32)) :=
  bd (m_X12_crashes F_t a_rows a_memory a_order a_image a_well 786) fun u8 =>
  if u8.1 = 3 then (
  nm (upd u8.2.1 50 ((u8.2.1 50) + 1)) fun F9 =>
  m_X12_crashesByDraws_j86 F9 u8.2.2.1 u8.2.2.2.1 a_order u8.2.2.2.2.1 u8.2.2.2.2.2)
  else (
  m_X12_crashesByDraws_j86 u8.2.1 u8.2.2.1 u8.2.2.2.1 a_order u8.2.2.2.2.1 u8.2.2.2.2.2)
def m_X12_crashesByDraws_j58 (k14 : Int32 → (Nat → Int32) → (Nat → Int32) → (Nat → Int32) → (Nat → Int32) → (Nat → Int32) → (Nat → Int32) → Option ((Nat → Int32) × (Nat → Int32) × (Nat → Int32) × (Nat → Int32) × (Nat → Int32) × (Nat → Int32))) (x1 : Int32) (s1 : Int32) (s2 : Int32) (F_t : Nat → Int32) (a_rows : Nat → Int32) (a_memory : Nat → Int32) (a_order : Nat → Int32) (a_image : Nat → Int32) (a_well : Nat → Int32) : Option ((Nat → Int32) × (Nat → Int32) × (Nat → Int32) × (Nat → Int32) × (Nat → Int32) × (Nat → Int32)) :=
  wr a_order 16 s1 s2 fun a13 =>
  nm (x1 + 1) fun v14 =>
  k14 v14 F_t a_rows a_memory a13 a_image a_well
def m_X12_crashesByDraws_w14 (k65 : (Nat → Int32) → (Nat → Int32) → (Nat → Int32) → (Nat → Int32) → (Nat → Int32) → (Nat → Int32) → Option ((Nat → Int32) × (Nat → Int32) × (Nat → Int32) × (Nat → Int32) × (Nat → Int32) × (Nat → Int32))) : Nat → Int32 → (Nat → Int32) → (Nat → Int32) → (Nat → Int32) → (Nat → Int32) → (Nat → Int32) → (Nat → Int32) → Option ((Nat → Int32) × (Nat → Int32) × (Nat → Int32) × (Nat → Int32) × (Nat → Int32) × (Nat → Int32))
  | 0, _, _, _, _, _, _, _ => none
  | n14 + 1, x1, F_t, a_rows, a_memory, a_order, a_image, a_well =>
    if 16 ≤ x1 then (
    k65 F_t a_rows a_memory a_order a_image a_well)
    else (
    rd a_rows 66100 (850 + x1) fun y10 =>
    if y10 = 0 then (
    m_X12_crashesByDraws_j58 (m_X12_crashesByDraws_w14 k65 n14) x1 x1 0 F_t a_rows a_memory a_order a_image a_well)
    else (
    rd a_rows 66100 (850 + x1) fun y11 =>
    bd (m_X12_draw F_t (y11 + 1)) fun u12 =>
    m_X12_crashesByDraws_j58 (m_X12_crashesByDraws_w14 k65 n14) x1 x1 u12.1 u12.2 a_rows a_memory a_order a_image a_well))
def m_X12_crashesByDraws (F_t : Nat → Int32) (a_rows : Nat → Int32) (a_memory : Nat → Int32) (a_order : Nat → Int32) (a_image : Nat → Int32) (a_well : Nat → Int32) : Option ((Nat → Int32) × (Nat → Int32) × (Nat → Int32) × (Nat → Int32) × (Nat → Int32) × (Nat → Int32)) :=
  rd a_rows 66100 1558 fun y1 =>
  if y1 = 1 then (
  m_X12_crashesByDraws_j86 F_t a_rows a_memory a_order a_image a_well)
  else (
  m_X12_crashesByDraws_w14 m_X12_crashesByDraws_j65 fuelN 0 F_t a_rows a_memory a_order a_image a_well)
set_option maxHeartbeats 4000000 in
set_option maxRecDepth 100000 in
theorem c_X12_crashesByDraws (l : Launch) (D : va_G) (cI : ClassId) (h_t : Nat) (r_t : Nat → Nat) (F_t : Nat → Int32) (a_rows : Nat → Int32) (a_memory : Nat → Int32) (a_order : Nat → Int32) (a_image : Nat → Int32) (a_well : Nat → Int32) (Rr : (Nat → Int32) × (Nat → Int32) × (Nat → Int32) × (Nat → Int32) × (Nat → Int32) × (Nat → Int32)) (hf : m_X12_crashesByDraws F_t a_rows a_memory a_order a_image a_well = some Rr) : CTv l yX12_crashesByDraws (Cond.code yX12_crashesByDraws cX12_crashesByDraws 2 none) rm_X12_crashesByDraws D cI [.ref h_t] (w_X12_crashesByDraws h_t r_t F_t cI a_rows a_memory a_order a_image a_well) (w_X12_crashesByDraws h_t r_t Rr.1 cI Rr.2.1 Rr.2.2.1 Rr.2.2.2.1 Rr.2.2.2.2.1 Rr.2.2.2.2.2) := by
  refine z_begin_v (own := RX12) (ρ := (Nat → Int32) × (Nat → Int32) × (Nat → Int32) × (Nat → Int32) × (Nat → Int32) × (Nat → Int32)) (fun u => w_X12_crashesByDraws h_t r_t u.1 cI u.2.1 u.2.2.1 u.2.2.2.1 u.2.2.2.2.1 u.2.2.2.2.2) (by decide +kernel) rfl (Nat.le_of_ble_eq_true rfl) ?_
  intro p e s m args below meth c ls Q A hx hb hml hts hcx hown hK hA hP hD hS hl hret
  have hl : lv_has ls 2 [(0, .ref h_t)] := hl
  have hf := (m_X12_crashesByDraws.eq_1 _ _ _ _ _ _).symm.trans hf
  have L131 : ∀ (F_t : Nat → Int32) (a_rows : Nat → Int32) (a_memory : Nat → Int32) (a_order : Nat → Int32) (a_image : Nat → Int32) (a_well : Nat → Int32) (H : Heap) (locs : List Loc) (ls : Array Slot), m_X12_crashesByDraws_j131 F_t a_rows a_memory a_order a_image a_well = some Rr → va_P D vwCl (w_X12_crashesByDraws h_t r_t F_t cI a_rows a_memory a_order a_image a_well) H → va_D A (w_X12_crashesByDraws h_t r_t F_t cI a_rows a_memory a_order a_image a_well) → va_S A s.heap H locs → lv_has ls 2 [(0, .ref h_t)] → W p l e rm_X12_crashesByDraws s m args below meth c H locs 0 0 Q (F0 m 131 ls []) := by
    intro F_t a_rows a_memory a_order a_image a_well H locs ls hf hP hD hS hl
    have hf := (m_X12_crashesByDraws_j131.eq_1 _ _ _ _ _ _).symm.trans hf
    refine lv_aload_n hx hb dX12_crashesByDraws_131 rfl (lv_at hl 0 rfl) ?_
    refine z_get (ci := 12) (C := RX12) (T := TX12) (N := 51) (v := .ref (r_t 0)) hx hb hts inT_X12 hown hK hP 0 rfl rfl 0 (by decide) tf_X12_10 rfl dX12_crashesByDraws_132 ?_
    refine lv_sipush (v := 1558) hx hb dX12_crashesByDraws_135 (by decide) ?_
    refine lv_iconst (v := 0) hx hb dX12_crashesByDraws_138 (by decide) ?_
    refine z_iast hx hb hK hP hD hS 1 rfl (fun z => w_X12_crashesByDraws h_t r_t F_t cI z a_memory a_order a_image a_well) (fun _ => rfl) dX12_crashesByDraws_139 hf (fun a4 H locs hf hP hD hS => ?_)
    exact hret (F_t, a4, a_memory, a_order, a_image, a_well) _ _ _ _ hf hP hD hS dX12_crashesByDraws_140
  have L103 : ∀ (n103 : Nat) (x1 : Int32) (F_t : Nat → Int32) (a_rows : Nat → Int32) (a_memory : Nat → Int32) (a_order : Nat → Int32) (a_image : Nat → Int32) (a_well : Nat → Int32) (H : Heap) (locs : List Loc) (ls : Array Slot), m_X12_crashesByDraws_w103 m_X12_crashesByDraws_j131 n103 x1 F_t a_rows a_memory a_order a_image a_well = some Rr → va_P D vwCl (w_X12_crashesByDraws h_t r_t F_t cI a_rows a_memory a_order a_image a_well) H → va_D A (w_X12_crashesByDraws h_t r_t F_t cI a_rows a_memory a_order a_image a_well) → va_S A s.heap H locs → lv_has ls 2 [(0, .ref h_t), (1, .int x1)] → W p l e rm_X12_crashesByDraws s m args below meth c H locs 0 0 Q (F0 m 103 ls []) := by
    intro n103
    induction n103 with
    | zero => intro x1 F_t a_rows a_memory a_order a_image a_well H locs ls hf; cases (show (none : Option _) = some Rr from hf)
    | succ n103 ih103 =>
      intro x1 F_t a_rows a_memory a_order a_image a_well H locs ls hf hP hD hS hl
      have hf := (m_X12_crashesByDraws_w103.eq_2 _ _ _ _ _ _ _ _ _).symm.trans hf
      refine lv_iload_n hx hb dX12_crashesByDraws_103 rfl (lv_at hl 1 rfl) ?_
      refine lv_bipush (v := 64) hx hb dX12_crashesByDraws_104 (by decide) ?_
      refine z_icmp_ge (tgt := 131) hx hb dX12_crashesByDraws_106 (by decide) hf (fun hf => ?_) (fun hf => ?_)
      · exact L131 F_t a_rows a_memory a_order a_image a_well _ _ _ hf hP hD hS (lv_sub hl [0] rfl)
      · refine lv_aload_n hx hb dX12_crashesByDraws_109 rfl (lv_at hl 0 rfl) ?_
        refine z_get (ci := 12) (C := RX12) (T := TX12) (N := 51) (v := .ref (r_t 0)) hx hb hts inT_X12 hown hK hP 0 rfl rfl 0 (by decide) tf_X12_10 rfl dX12_crashesByDraws_110 ?_
        refine lv_sipush (v := 786) hx hb dX12_crashesByDraws_113 (by decide) ?_
        refine lv_iload_n hx hb dX12_crashesByDraws_116 rfl (lv_at hl 1 rfl) ?_
        refine lv_iadd hx hb dX12_crashesByDraws_117 ?_
        refine lv_aload_n hx hb dX12_crashesByDraws_118 rfl (lv_at hl 0 rfl) ?_
        refine z_get (ci := 12) (C := RX12) (T := TX12) (N := 51) (v := .ref (r_t 23)) hx hb hts inT_X12 hown hK hP 0 rfl rfl 23 (by decide) tf_X12_39 rfl dX12_crashesByDraws_119 ?_
        refine lv_iload_n hx hb dX12_crashesByDraws_122 rfl (lv_at hl 1 rfl) ?_
        refine z_iald hx hb hK hP 2 rfl dX12_crashesByDraws_123 hf (fun y5 hf => ?_)
        refine z_iast hx hb hK hP hD hS 1 rfl (fun z => w_X12_crashesByDraws h_t r_t F_t cI z a_memory a_order a_image a_well) (fun _ => rfl) dX12_crashesByDraws_124 hf (fun a6 H locs hf hP hD hS => ?_)
        refine z_iinc (k0 := 1) (fun z => [(1, .int z), (0, .ref h_t)]) hx hb dX12_crashesByDraws_125 hl rfl (by decide) (by decide) (fun _ => rfl) hf (fun v7 ls hf hl => ?_)
        refine lv_goto (tgt := 103) hx hb dX12_crashesByDraws_128 (by decide) ?_
        exact ih103 v7 F_t a6 a_memory a_order a_image a_well _ _ _ hf hP hD hS (lv_sub hl [1, 0] rfl)
  have L86 : ∀ (F_t : Nat → Int32) (a_rows : Nat → Int32) (a_memory : Nat → Int32) (a_order : Nat → Int32) (a_image : Nat → Int32) (a_well : Nat → Int32) (H : Heap) (locs : List Loc) (ls : Array Slot), m_X12_crashesByDraws_j86 F_t a_rows a_memory a_order a_image a_well = some Rr → va_P D vwCl (w_X12_crashesByDraws h_t r_t F_t cI a_rows a_memory a_order a_image a_well) H → va_D A (w_X12_crashesByDraws h_t r_t F_t cI a_rows a_memory a_order a_image a_well) → va_S A s.heap H locs → lv_has ls 2 [(0, .ref h_t)] → W p l e rm_X12_crashesByDraws s m args below meth c H locs 0 0 Q (F0 m 86 ls []) := by
    intro F_t a_rows a_memory a_order a_image a_well H locs ls hf hP hD hS hl
    have hf := (m_X12_crashesByDraws_j86.eq_1 _ _ _ _ _ _).symm.trans hf
    refine lv_aload_n hx hb dX12_crashesByDraws_86 rfl (lv_at hl 0 rfl) ?_
    refine lv_sipush (v := 786) hx hb dX12_crashesByDraws_87 (by decide) ?_
    obtain ⟨u2, hu2, hf⟩ := bd_some hf
    refine z_cv (ws1 := w_X12_crashesByDraws h_t r_t F_t cI a_rows u2 a_order a_image a_well) (wr := List.filterMap (fun i : Nat => (w_X12_crashesByDraws h_t r_t F_t cI a_rows a_memory a_order a_image a_well)[i]?) [3, 4, 5]) (z_rV (rest := []) hx hb hml hown hcx hl.1 (c_X12_laysMemory l D cI h_t r_t F_t a_rows a_memory 786 u2 hu2 _) tl_X12_175 ti_X12_laysMemory tz_X12_laysMemory tn_X12 tc_X12_laysMemory tm_X12_laysMemory rfl rfl ⟨Nat.le_of_ble_eq_true rfl, Nat.le_of_ble_eq_true rfl⟩ hK hP hD [0, 1, 2] rfl rfl 0 rfl rfl rfl rfl (Nat.le_of_ble_eq_true rfl) dX12_crashesByDraws_90 ⟨Nat.zero_le _, Nat.zero_le _⟩) hP hD hS hA [0, 1, 2] [3, 4, 5] [3, 4, 5, 0, 1, 2] rfl rfl rfl (by decide) rfl rfl (fun H locs hP hD hS => ?_)
    refine lv_aload_n hx hb dX12_crashesByDraws_93 rfl (lv_at hl 0 rfl) ?_
    refine lv_aload_n hx hb dX12_crashesByDraws_94 rfl (lv_at hl 0 rfl) ?_
    refine z_get (ci := 12) (C := RX12) (T := TX12) (N := 51) (v := .ref (r_t 23)) hx hb hts inT_X12 hown hK hP 0 rfl rfl 23 (by decide) tf_X12_39 rfl dX12_crashesByDraws_95 ?_
    obtain ⟨u3, hu3, hf⟩ := bd_some hf
    refine z_cv (ws1 := w_X12_crashesByDraws h_t r_t F_t cI a_rows u3 a_order a_image a_well) (wr := List.filterMap (fun i : Nat => (w_X12_crashesByDraws h_t r_t F_t cI a_rows u2 a_order a_image a_well)[i]?) [1, 3, 4, 5]) (z_rV (rest := []) hx hb hml hown hcx hl.1 (c_X12_recovers l D cI h_t (r_t 23) r_t F_t u2 u3 hu3 _) tl_X12_178 ti_X12_recovers tz_X12_recovers tn_X12 tc_X12_recovers tm_X12_recovers rfl rfl ⟨Nat.le_of_ble_eq_true rfl, Nat.le_of_ble_eq_true rfl⟩ hK hP hD [0, 2] rfl rfl 0 rfl rfl rfl rfl (Nat.le_of_ble_eq_true rfl) dX12_crashesByDraws_98 ⟨Nat.zero_le _, Nat.zero_le _⟩) hP hD hS hA [0, 2] [1, 3, 4, 5] [4, 0, 5, 1, 2, 3] rfl rfl rfl (by decide) rfl rfl (fun H locs hP hD hS => ?_)
    refine lv_iconst (v := 0) hx hb dX12_crashesByDraws_101 (by decide) ?_
    refine lv_istore_n (lv' := [(1, .int 0), (0, .ref h_t)]) hx hb dX12_crashesByDraws_102 rfl hl (by decide) rfl (fun ls hl => ?_)
    exact L103 fuelN 0 F_t a_rows u3 a_order a_image a_well _ _ _ hf hP hD hS (lv_sub hl [1, 0] rfl)
  have L65 : ∀ (F_t : Nat → Int32) (a_rows : Nat → Int32) (a_memory : Nat → Int32) (a_order : Nat → Int32) (a_image : Nat → Int32) (a_well : Nat → Int32) (H : Heap) (locs : List Loc) (ls : Array Slot), m_X12_crashesByDraws_j65 F_t a_rows a_memory a_order a_image a_well = some Rr → va_P D vwCl (w_X12_crashesByDraws h_t r_t F_t cI a_rows a_memory a_order a_image a_well) H → va_D A (w_X12_crashesByDraws h_t r_t F_t cI a_rows a_memory a_order a_image a_well) → va_S A s.heap H locs → lv_has ls 2 [(0, .ref h_t)] → W p l e rm_X12_crashesByDraws s m args below meth c H locs 0 0 Q (F0 m 65 ls []) := by
    intro F_t a_rows a_memory a_order a_image a_well H locs ls hf hP hD hS hl
    have hf := (m_X12_crashesByDraws_j65.eq_1 _ _ _ _ _ _).symm.trans hf
    refine lv_aload_n hx hb dX12_crashesByDraws_65 rfl (lv_at hl 0 rfl) ?_
    refine lv_sipush (v := 786) hx hb dX12_crashesByDraws_66 (by decide) ?_
    obtain ⟨u8, hu8, hf⟩ := bd_some hf
    refine z_ci (ws1 := w_X12_crashesByDraws h_t r_t u8.2.1 cI u8.2.2.1 u8.2.2.2.1 a_order u8.2.2.2.2.1 u8.2.2.2.2.2) (wr := List.filterMap (fun i : Nat => (w_X12_crashesByDraws h_t r_t F_t cI a_rows a_memory a_order a_image a_well)[i]?) []) (z_rV (rest := []) hx hb hml hown hcx hl.1 (c_X12_crashes l D cI h_t r_t F_t a_rows a_memory a_order a_image a_well 786 u8 hu8 _) tl_X12_363 ti_X12_crashes tz_X12_crashes tn_X12 tc_X12_crashes tm_X12_crashes rfl rfl ⟨Nat.le_of_ble_eq_true rfl, Nat.le_of_ble_eq_true rfl⟩ hK hP hD [0, 1, 2, 3, 4, 5] rfl rfl 0 rfl rfl rfl rfl (Nat.le_of_ble_eq_true rfl) dX12_crashesByDraws_69 ⟨Nat.zero_le _, Nat.zero_le _⟩) hP hD hS hA [0, 1, 2, 3, 4, 5] [] [0, 1, 2, 3, 4, 5] rfl rfl rfl (by decide) rfl rfl (fun H locs hP hD hS => ?_)
    refine lv_iconst (v := 3) hx hb dX12_crashesByDraws_72 (by decide) ?_
    refine z_icmp_ne (tgt := 86) hx hb dX12_crashesByDraws_73 (by decide) hf (fun hf => ?_) (fun hf => ?_)
    · exact L86 u8.2.1 u8.2.2.1 u8.2.2.2.1 a_order u8.2.2.2.2.1 u8.2.2.2.2.2 _ _ _ hf hP hD hS (lv_sub hl [0] rfl)
    · refine lv_aload_n hx hb dX12_crashesByDraws_76 rfl (lv_at hl 0 rfl) ?_
      refine lv_dup hx hb dX12_crashesByDraws_77 rfl ?_
      refine z_get (ci := 12) (C := RX12) (T := TX12) (N := 51) (v := .int (u8.2.1 50)) hx hb hts inT_X12 hown hK hP 0 rfl rfl 50 (by decide) tf_X12_407 rfl dX12_crashesByDraws_78 ?_
      refine lv_iconst (v := 1) hx hb dX12_crashesByDraws_81 (by decide) ?_
      refine lv_iadd hx hb dX12_crashesByDraws_82 ?_
      refine z_put (ci := 12) (C := RX12) (T := TX12) (N := 51) hx hb hts inT_X12 tyX12 tyX12_ok nmX12 hown hK hP hD hS 0 rfl rfl 50 (by decide) tf_X12_407 rfl (by decide +kernel) (Nat.le_of_ble_eq_true rfl) (o_X12 r_t) (o_X12_s50 _ _ _) (fun z => w_X12_crashesByDraws h_t r_t z cI u8.2.2.1 u8.2.2.2.1 a_order u8.2.2.2.2.1 u8.2.2.2.2.2) (fun _ => rfl) dX12_crashesByDraws_83 hf (fun F9 H locs hf hP hD hS => ?_)
      exact L86 F9 u8.2.2.1 u8.2.2.2.1 a_order u8.2.2.2.2.1 u8.2.2.2.2.2 _ _ _ hf hP hD hS (lv_sub hl [0] rfl)
  have L14 : ∀ (n14 : Nat) (x1 : Int32) (F_t : Nat → Int32) (a_rows : Nat → Int32) (a_memory : Nat → Int32) (a_order : Nat → Int32) (a_image : Nat → Int32) (a_well : Nat → Int32) (H : Heap) (locs : List Loc) (ls : Array Slot), m_X12_crashesByDraws_w14 m_X12_crashesByDraws_j65 n14 x1 F_t a_rows a_memory a_order a_image a_well = some Rr → va_P D vwCl (w_X12_crashesByDraws h_t r_t F_t cI a_rows a_memory a_order a_image a_well) H → va_D A (w_X12_crashesByDraws h_t r_t F_t cI a_rows a_memory a_order a_image a_well) → va_S A s.heap H locs → lv_has ls 2 [(0, .ref h_t), (1, .int x1)] → W p l e rm_X12_crashesByDraws s m args below meth c H locs 0 0 Q (F0 m 14 ls []) := by
    intro n14
    induction n14 with
    | zero => intro x1 F_t a_rows a_memory a_order a_image a_well H locs ls hf; cases (show (none : Option _) = some Rr from hf)
    | succ n14 ih14 =>
      intro x1 F_t a_rows a_memory a_order a_image a_well H locs ls hf hP hD hS hl
      have hf := (m_X12_crashesByDraws_w14.eq_2 _ _ _ _ _ _ _ _ _).symm.trans hf
      have L58 : ∀ (x1 : Int32) (s1 : Int32) (s2 : Int32) (F_t : Nat → Int32) (a_rows : Nat → Int32) (a_memory : Nat → Int32) (a_order : Nat → Int32) (a_image : Nat → Int32) (a_well : Nat → Int32) (H : Heap) (locs : List Loc) (ls : Array Slot), m_X12_crashesByDraws_j58 (m_X12_crashesByDraws_w14 m_X12_crashesByDraws_j65 n14) x1 s1 s2 F_t a_rows a_memory a_order a_image a_well = some Rr → va_P D vwCl (w_X12_crashesByDraws h_t r_t F_t cI a_rows a_memory a_order a_image a_well) H → va_D A (w_X12_crashesByDraws h_t r_t F_t cI a_rows a_memory a_order a_image a_well) → va_S A s.heap H locs → lv_has ls 2 [(0, .ref h_t), (1, .int x1)] → W p l e rm_X12_crashesByDraws s m args below meth c H locs 0 0 Q (F0 m 58 ls [.int s2, .int s1, .ref (r_t 24)]) := by
        intro x1 s1 s2 F_t a_rows a_memory a_order a_image a_well H locs ls hf hP hD hS hl
        have hf := (m_X12_crashesByDraws_j58.eq_1 _ _ _ _ _ _ _ _ _ _).symm.trans hf
        refine z_iast hx hb hK hP hD hS 3 rfl (fun z => w_X12_crashesByDraws h_t r_t F_t cI a_rows a_memory z a_image a_well) (fun _ => rfl) dX12_crashesByDraws_58 hf (fun a13 H locs hf hP hD hS => ?_)
        refine z_iinc (k0 := 1) (fun z => [(1, .int z), (0, .ref h_t)]) hx hb dX12_crashesByDraws_59 hl rfl (by decide) (by decide) (fun _ => rfl) hf (fun v14 ls hf hl => ?_)
        refine lv_goto (tgt := 14) hx hb dX12_crashesByDraws_62 (by decide) ?_
        exact ih14 v14 F_t a_rows a_memory a13 a_image a_well _ _ _ hf hP hD hS (lv_sub hl [1, 0] rfl)
      refine lv_iload_n hx hb dX12_crashesByDraws_14 rfl (lv_at hl 1 rfl) ?_
      refine lv_bipush (v := 16) hx hb dX12_crashesByDraws_15 (by decide) ?_
      refine z_icmp_ge (tgt := 65) hx hb dX12_crashesByDraws_17 (by decide) hf (fun hf => ?_) (fun hf => ?_)
      · exact L65 F_t a_rows a_memory a_order a_image a_well _ _ _ hf hP hD hS (lv_sub hl [0] rfl)
      · refine lv_aload_n hx hb dX12_crashesByDraws_20 rfl (lv_at hl 0 rfl) ?_
        refine z_get (ci := 12) (C := RX12) (T := TX12) (N := 51) (v := .ref (r_t 24)) hx hb hts inT_X12 hown hK hP 0 rfl rfl 24 (by decide) tf_X12_42 rfl dX12_crashesByDraws_21 ?_
        refine lv_iload_n hx hb dX12_crashesByDraws_24 rfl (lv_at hl 1 rfl) ?_
        refine lv_aload_n hx hb dX12_crashesByDraws_25 rfl (lv_at hl 0 rfl) ?_
        refine z_get (ci := 12) (C := RX12) (T := TX12) (N := 51) (v := .ref (r_t 0)) hx hb hts inT_X12 hown hK hP 0 rfl rfl 0 (by decide) tf_X12_10 rfl dX12_crashesByDraws_26 ?_
        refine lv_sipush (v := 850) hx hb dX12_crashesByDraws_29 (by decide) ?_
        refine lv_iload_n hx hb dX12_crashesByDraws_32 rfl (lv_at hl 1 rfl) ?_
        refine lv_iadd hx hb dX12_crashesByDraws_33 ?_
        refine z_iald hx hb hK hP 1 rfl dX12_crashesByDraws_34 hf (fun y10 hf => ?_)
        refine z_if_ne (tgt := 42) hx hb dX12_crashesByDraws_35 (by decide) hf (fun hf => ?_) (fun hf => ?_)
        · refine lv_aload_n hx hb dX12_crashesByDraws_42 rfl (lv_at hl 0 rfl) ?_
          refine lv_aload_n hx hb dX12_crashesByDraws_43 rfl (lv_at hl 0 rfl) ?_
          refine z_get (ci := 12) (C := RX12) (T := TX12) (N := 51) (v := .ref (r_t 0)) hx hb hts inT_X12 hown hK hP 0 rfl rfl 0 (by decide) tf_X12_10 rfl dX12_crashesByDraws_44 ?_
          refine lv_sipush (v := 850) hx hb dX12_crashesByDraws_47 (by decide) ?_
          refine lv_iload_n hx hb dX12_crashesByDraws_50 rfl (lv_at hl 1 rfl) ?_
          refine lv_iadd hx hb dX12_crashesByDraws_51 ?_
          refine z_iald hx hb hK hP 1 rfl dX12_crashesByDraws_52 hf (fun y11 hf => ?_)
          refine lv_iconst (v := 1) hx hb dX12_crashesByDraws_53 (by decide) ?_
          refine lv_iadd hx hb dX12_crashesByDraws_54 ?_
          obtain ⟨u12, hu12, hf⟩ := bd_some hf
          refine z_ci (ws1 := w_X12_crashesByDraws h_t r_t u12.2 cI a_rows a_memory a_order a_image a_well) (wr := List.filterMap (fun i : Nat => (w_X12_crashesByDraws h_t r_t F_t cI a_rows a_memory a_order a_image a_well)[i]?) [1, 2, 3, 4, 5]) (z_rV (rest := [.int x1, .ref (r_t 24)]) hx hb hml hown hcx hl.1 (c_X12_draw l D cI h_t r_t F_t (y11 + 1) u12 hu12 _) tl_X12_404 ti_X12_draw tz_X12_draw tn_X12 tc_X12_draw tm_X12_draw rfl rfl ⟨Nat.le_of_ble_eq_true rfl, Nat.le_of_ble_eq_true rfl⟩ hK hP hD [0] rfl rfl 0 rfl rfl rfl rfl (Nat.le_of_ble_eq_true rfl) dX12_crashesByDraws_55 ⟨Nat.zero_le _, Nat.zero_le _⟩) hP hD hS hA [0] [1, 2, 3, 4, 5] [5, 0, 1, 2, 3, 4] rfl rfl rfl (by decide) rfl rfl (fun H locs hP hD hS => ?_)
          exact L58 x1 x1 u12.1 u12.2 a_rows a_memory a_order a_image a_well _ _ _ hf hP hD hS (lv_sub hl [0, 1] rfl)
        · refine lv_iconst (v := 0) hx hb dX12_crashesByDraws_38 (by decide) ?_
          refine lv_goto (tgt := 58) hx hb dX12_crashesByDraws_39 (by decide) ?_
          exact L58 x1 x1 0 F_t a_rows a_memory a_order a_image a_well _ _ _ hf hP hD hS (lv_sub hl [0, 1] rfl)
  refine lv_aload_n hx hb dX12_crashesByDraws_0 rfl (lv_at hl 0 rfl) ?_
  refine z_get (ci := 12) (C := RX12) (T := TX12) (N := 51) (v := .ref (r_t 0)) hx hb hts inT_X12 hown hK hP 0 rfl rfl 0 (by decide) tf_X12_10 rfl dX12_crashesByDraws_1 ?_
  refine lv_sipush (v := 1558) hx hb dX12_crashesByDraws_4 (by decide) ?_
  refine z_iald hx hb hK hP 1 rfl dX12_crashesByDraws_7 hf (fun y1 hf => ?_)
  refine lv_iconst (v := 1) hx hb dX12_crashesByDraws_8 (by decide) ?_
  refine z_icmp_eq (tgt := 86) hx hb dX12_crashesByDraws_9 (by decide) hf (fun hf => ?_) (fun hf => ?_)
  · exact L86 F_t a_rows a_memory a_order a_image a_well _ _ _ hf hP hD hS (lv_sub hl [0] rfl)
  · refine lv_iconst (v := 0) hx hb dX12_crashesByDraws_12 (by decide) ?_
    refine lv_istore_n (lv' := [(1, .int 0), (0, .ref h_t)]) hx hb dX12_crashesByDraws_13 rfl hl (by decide) rfl (fun ls hl => ?_)
    exact L14 fuelN 0 F_t a_rows a_memory a_order a_image a_well _ _ _ hf hP hD hS (lv_sub hl [1, 0] rfl)
abbrev w_X12_year (h_t : Nat) (r_t : Nat → Nat) (F_t : Nat → Int32) (cI : ClassId) (a_rows : Nat → Int32) (a_words : Nat → Int32) (a_address : Nat → Int32) (a_number : Nat → Int32) (a_memory : Nat → Int32) (a_order : Nat → Int32) (a_image : Nat → Int32) (a_well : Nat → Int32) : va_W := [(h_t, .inr (12, o_X12 r_t F_t)), ((r_t 0), .inl (cI, 66100, .inl a_rows)), ((r_t 16), .inl (cI, 64, .inl a_words)), ((r_t 17), .inl (cI, 64, .inl a_address)), ((r_t 18), .inl (cI, 64, .inl a_number)), ((r_t 23), .inl (cI, 64, .inl a_memory)), ((r_t 24), .inl (cI, 16, .inl a_order)), ((r_t 25), .inl (cI, 64, .inl a_image)), ((r_t 26), .inl (cI, 88, .inl a_well))]
abbrev rm_X12_year : Room := { frames := 10, cells := 0, slots := 0, locals := 228 }
def m_X12_year_j102 (x1 : Int32) (x2 : Int32) (s0 : Int32) (F_t : Nat → Int32) (a_rows : Nat → Int32) (a_words : Nat → Int32) (a_address : Nat → Int32) (a_number : Nat → Int32) (a_memory : Nat → Int32) (a_order : Nat → Int32) (a_image : Nat → Int32) (a_well : Nat → Int32) : Option ((Nat → Int32) × (Nat → Int32) × (Nat → Int32) × (Nat → Int32) × (Nat → Int32) × (Nat → Int32) × (Nat → Int32) × (Nat → Int32) × (Nat → Int32)) :=
  rd a_rows 66100 1563 fun y3 =>
  if 12 ≤ y3 then (
  some (F_t, a_rows, a_words, a_address, a_number, a_memory, a_order, a_image, a_well))
  else (
  bd (m_X12_waits a_rows 786 (x1 - 6) x2 s0) fun u4 =>
  some (F_t, u4, a_words, a_address, a_number, a_memory, a_order, a_image, a_well))
def m_X12_year (F_t : Nat → Int32) (a_rows : Nat → Int32) (a_words : Nat → Int32) (a_address : Nat → Int32) (a_number : Nat → Int32) (a_memory : Nat → Int32) (a_order : Nat → Int32) (a_image : Nat → Int32) (a_well : Nat → Int32) : Option ((Nat → Int32) × (Nat → Int32) × (Nat → Int32) × (Nat → Int32) × (Nat → Int32) × (Nat → Int32) × (Nat → Int32) × (Nat → Int32) × (Nat → Int32)) :=
  bd (m_X12_draw F_t 8) fun u1 =>
  if 4 ≤ u1.1 then (
  if u1.1 = 4 then (
  bd (m_X12_draw u1.2 16) fun u7 =>
  rd a_rows 66100 (850 + u7.1) fun y8 =>
  if y8 ≤ 0 then (
  some (u7.2, a_rows, a_words, a_address, a_number, a_memory, a_order, a_image, a_well))
  else (
  bd (m_X12_reaches a_rows 786 u7.1 1) fun u9 =>
  some (u7.2, u9, a_words, a_address, a_number, a_memory, a_order, a_image, a_well)))
  else (
  if u1.1 = 5 then (
  bd (m_X12_crashesByDraws u1.2 a_rows a_memory a_order a_image a_well) fun u6 =>
  some (u6.1, u6.2.1, a_words, a_address, a_number, u6.2.2.1, u6.2.2.2.1, u6.2.2.2.2.1, u6.2.2.2.2.2))
  else (
  bd (m_X12_draw u1.2 4) fun u2 =>
  if u1.1 = 6 then (
  bd (m_X12_draw u2.2 10) fun u5 =>
  m_X12_year_j102 u1.1 u2.1 u5.1 u5.2 a_rows a_words a_address a_number a_memory a_order a_image a_well)
  else (
  m_X12_year_j102 u1.1 u2.1 0 u2.2 a_rows a_words a_address a_number a_memory a_order a_image a_well))))
  else (
  bd (m_X12_draw u1.2 6) fun u10 =>
  bd (m_X12_goes u10.2 a_rows a_words a_address a_number 786 (u10.1 + 1)) fun u11 =>
  some (u11.2.1, u11.2.2.1, u11.2.2.2.1, u11.2.2.2.2.1, u11.2.2.2.2.2, a_memory, a_order, a_image, a_well))
set_option maxHeartbeats 4000000 in
set_option maxRecDepth 100000 in
theorem c_X12_year (l : Launch) (D : va_G) (cI : ClassId) (h_t : Nat) (r_t : Nat → Nat) (F_t : Nat → Int32) (a_rows : Nat → Int32) (a_words : Nat → Int32) (a_address : Nat → Int32) (a_number : Nat → Int32) (a_memory : Nat → Int32) (a_order : Nat → Int32) (a_image : Nat → Int32) (a_well : Nat → Int32) (Rr : (Nat → Int32) × (Nat → Int32) × (Nat → Int32) × (Nat → Int32) × (Nat → Int32) × (Nat → Int32) × (Nat → Int32) × (Nat → Int32) × (Nat → Int32)) (hf : m_X12_year F_t a_rows a_words a_address a_number a_memory a_order a_image a_well = some Rr) : CTv l yX12_year (Cond.code yX12_year cX12_year 4 none) rm_X12_year D cI [.ref h_t] (w_X12_year h_t r_t F_t cI a_rows a_words a_address a_number a_memory a_order a_image a_well) (w_X12_year h_t r_t Rr.1 cI Rr.2.1 Rr.2.2.1 Rr.2.2.2.1 Rr.2.2.2.2.1 Rr.2.2.2.2.2.1 Rr.2.2.2.2.2.2.1 Rr.2.2.2.2.2.2.2.1 Rr.2.2.2.2.2.2.2.2) := by
  refine z_begin_v (own := RX12) (ρ := (Nat → Int32) × (Nat → Int32) × (Nat → Int32) × (Nat → Int32) × (Nat → Int32) × (Nat → Int32) × (Nat → Int32) × (Nat → Int32) × (Nat → Int32)) (fun u => w_X12_year h_t r_t u.1 cI u.2.1 u.2.2.1 u.2.2.2.1 u.2.2.2.2.1 u.2.2.2.2.2.1 u.2.2.2.2.2.2.1 u.2.2.2.2.2.2.2.1 u.2.2.2.2.2.2.2.2) (by decide +kernel) rfl (Nat.le_of_ble_eq_true rfl) ?_
  intro p e s m args below meth c ls Q A hx hb hml hts hcx hown hK hA hP hD hS hl hret
  have hl : lv_has ls 4 [(0, .ref h_t)] := hl
  have hf := (m_X12_year.eq_1 _ _ _ _ _ _ _ _ _).symm.trans hf
  have L102 : ∀ (x1 : Int32) (x2 : Int32) (s0 : Int32) (F_t : Nat → Int32) (a_rows : Nat → Int32) (a_words : Nat → Int32) (a_address : Nat → Int32) (a_number : Nat → Int32) (a_memory : Nat → Int32) (a_order : Nat → Int32) (a_image : Nat → Int32) (a_well : Nat → Int32) (H : Heap) (locs : List Loc) (ls : Array Slot), m_X12_year_j102 x1 x2 s0 F_t a_rows a_words a_address a_number a_memory a_order a_image a_well = some Rr → va_P D vwCl (w_X12_year h_t r_t F_t cI a_rows a_words a_address a_number a_memory a_order a_image a_well) H → va_D A (w_X12_year h_t r_t F_t cI a_rows a_words a_address a_number a_memory a_order a_image a_well) → va_S A s.heap H locs → lv_has ls 4 [(0, .ref h_t), (1, .int x1), (2, .int x2)] → W p l e rm_X12_year s m args below meth c H locs 0 0 Q (F0 m 102 ls [.int s0]) := by
    intro x1 x2 s0 F_t a_rows a_words a_address a_number a_memory a_order a_image a_well H locs ls hf hP hD hS hl
    have hf := (m_X12_year_j102.eq_1 _ _ _ _ _ _ _ _ _ _ _ _).symm.trans hf
    refine lv_istore_n (lv' := [(3, .int s0), (0, .ref h_t), (1, .int x1), (2, .int x2)]) hx hb dX12_year_102 rfl hl (by decide) rfl (fun ls hl => ?_)
    refine lv_aload_n hx hb dX12_year_103 rfl (lv_at hl 1 rfl) ?_
    refine z_get (ci := 12) (C := RX12) (T := TX12) (N := 51) (v := .ref (r_t 0)) hx hb hts inT_X12 hown hK hP 0 rfl rfl 0 (by decide) tf_X12_10 rfl dX12_year_104 ?_
    refine lv_sipush (v := 1563) hx hb dX12_year_107 (by decide) ?_
    refine z_iald hx hb hK hP 1 rfl dX12_year_110 hf (fun y3 hf => ?_)
    refine lv_bipush (v := 12) hx hb dX12_year_111 (by decide) ?_
    refine z_icmp_ge (tgt := 129) hx hb dX12_year_113 (by decide) hf (fun hf => ?_) (fun hf => ?_)
    · exact hret (F_t, a_rows, a_words, a_address, a_number, a_memory, a_order, a_image, a_well) _ _ _ _ hf hP hD hS dX12_year_129
    · refine lv_aload_n hx hb dX12_year_116 rfl (lv_at hl 1 rfl) ?_
      refine lv_sipush (v := 786) hx hb dX12_year_117 (by decide) ?_
      refine lv_iload_n hx hb dX12_year_120 rfl (lv_at hl 2 rfl) ?_
      refine lv_bipush (v := 6) hx hb dX12_year_121 (by decide) ?_
      refine lv_isub hx hb dX12_year_123 ?_
      refine lv_iload_n hx hb dX12_year_124 rfl (lv_at hl 3 rfl) ?_
      refine lv_iload_n hx hb dX12_year_125 rfl (lv_at hl 0 rfl) ?_
      obtain ⟨u4, hu4, hf⟩ := bd_some hf
      refine z_cv (ws1 := w_X12_year h_t r_t F_t cI u4 a_words a_address a_number a_memory a_order a_image a_well) (wr := List.filterMap (fun i : Nat => (w_X12_year h_t r_t F_t cI a_rows a_words a_address a_number a_memory a_order a_image a_well)[i]?) [2, 3, 4, 5, 6, 7, 8]) (z_rV (rest := []) hx hb hml hown hcx hl.1 (c_X12_waits l D cI h_t r_t F_t a_rows 786 (x1 - 6) x2 s0 u4 hu4 _) tl_X12_369 ti_X12_waits tz_X12_waits tn_X12 tc_X12_waits tm_X12_waits rfl rfl ⟨Nat.le_of_ble_eq_true rfl, Nat.le_of_ble_eq_true rfl⟩ hK hP hD [0, 1] rfl rfl 0 rfl rfl rfl rfl (Nat.le_of_ble_eq_true rfl) dX12_year_126 ⟨Nat.zero_le _, Nat.zero_le _⟩) hP hD hS hA [0, 1] [2, 3, 4, 5, 6, 7, 8] [7, 8, 0, 1, 2, 3, 4, 5, 6] rfl rfl rfl (by decide) rfl rfl (fun H locs hP hD hS => ?_)
      exact hret (F_t, u4, a_words, a_address, a_number, a_memory, a_order, a_image, a_well) _ _ _ _ hf hP hD hS dX12_year_129
  refine lv_aload_n hx hb dX12_year_0 rfl (lv_at hl 0 rfl) ?_
  refine lv_bipush (v := 8) hx hb dX12_year_1 (by decide) ?_
  obtain ⟨u1, hu1, hf⟩ := bd_some hf
  refine z_ci (ws1 := w_X12_year h_t r_t u1.2 cI a_rows a_words a_address a_number a_memory a_order a_image a_well) (wr := List.filterMap (fun i : Nat => (w_X12_year h_t r_t F_t cI a_rows a_words a_address a_number a_memory a_order a_image a_well)[i]?) [1, 2, 3, 4, 5, 6, 7, 8]) (z_rV (rest := []) hx hb hml hown hcx hl.1 (c_X12_draw l D cI h_t r_t F_t 8 u1 hu1 _) tl_X12_404 ti_X12_draw tz_X12_draw tn_X12 tc_X12_draw tm_X12_draw rfl rfl ⟨Nat.le_of_ble_eq_true rfl, Nat.le_of_ble_eq_true rfl⟩ hK hP hD [0] rfl rfl 0 rfl rfl rfl rfl (Nat.le_of_ble_eq_true rfl) dX12_year_3 ⟨Nat.zero_le _, Nat.zero_le _⟩) hP hD hS hA [0] [1, 2, 3, 4, 5, 6, 7, 8] [8, 0, 1, 2, 3, 4, 5, 6, 7] rfl rfl rfl (by decide) rfl rfl (fun H locs hP hD hS => ?_)
  refine lv_istore_n (lv' := [(1, .int u1.1), (0, .ref h_t)]) hx hb dX12_year_6 rfl hl (by decide) rfl (fun ls hl => ?_)
  refine lv_iload_n hx hb dX12_year_7 rfl (lv_at hl 0 rfl) ?_
  refine lv_iconst (v := 4) hx hb dX12_year_8 (by decide) ?_
  refine z_icmp_ge (tgt := 31) hx hb dX12_year_9 (by decide) hf (fun hf => ?_) (fun hf => ?_)
  · refine lv_iload_n hx hb dX12_year_31 rfl (lv_at hl 0 rfl) ?_
    refine lv_iconst (v := 4) hx hb dX12_year_32 (by decide) ?_
    refine z_icmp_ne (tgt := 68) hx hb dX12_year_33 (by decide) hf (fun hf => ?_) (fun hf => ?_)
    · refine lv_iload_n hx hb dX12_year_68 rfl (lv_at hl 0 rfl) ?_
      refine lv_iconst (v := 5) hx hb dX12_year_69 (by decide) ?_
      refine z_icmp_ne (tgt := 80) hx hb dX12_year_70 (by decide) hf (fun hf => ?_) (fun hf => ?_)
      · refine lv_aload_n hx hb dX12_year_80 rfl (lv_at hl 1 rfl) ?_
        refine lv_iconst (v := 4) hx hb dX12_year_81 (by decide) ?_
        obtain ⟨u2, hu2, hf⟩ := bd_some hf
        refine z_ci (ws1 := w_X12_year h_t r_t u2.2 cI a_rows a_words a_address a_number a_memory a_order a_image a_well) (wr := List.filterMap (fun i : Nat => (w_X12_year h_t r_t u1.2 cI a_rows a_words a_address a_number a_memory a_order a_image a_well)[i]?) [1, 2, 3, 4, 5, 6, 7, 8]) (z_rV (rest := []) hx hb hml hown hcx hl.1 (c_X12_draw l D cI h_t r_t u1.2 4 u2 hu2 _) tl_X12_404 ti_X12_draw tz_X12_draw tn_X12 tc_X12_draw tm_X12_draw rfl rfl ⟨Nat.le_of_ble_eq_true rfl, Nat.le_of_ble_eq_true rfl⟩ hK hP hD [0] rfl rfl 0 rfl rfl rfl rfl (Nat.le_of_ble_eq_true rfl) dX12_year_82 ⟨Nat.zero_le _, Nat.zero_le _⟩) hP hD hS hA [0] [1, 2, 3, 4, 5, 6, 7, 8] [8, 0, 1, 2, 3, 4, 5, 6, 7] rfl rfl rfl (by decide) rfl rfl (fun H locs hP hD hS => ?_)
        refine lv_istore_n (lv' := [(2, .int u2.1), (1, .int u1.1), (0, .ref h_t)]) hx hb dX12_year_85 rfl hl (by decide) rfl (fun ls hl => ?_)
        refine lv_iload_n hx hb dX12_year_86 rfl (lv_at hl 1 rfl) ?_
        refine lv_bipush (v := 6) hx hb dX12_year_87 (by decide) ?_
        refine z_icmp_ne (tgt := 101) hx hb dX12_year_89 (by decide) hf (fun hf => ?_) (fun hf => ?_)
        · refine lv_iconst (v := 0) hx hb dX12_year_101 (by decide) ?_
          exact L102 u1.1 u2.1 0 u2.2 a_rows a_words a_address a_number a_memory a_order a_image a_well _ _ _ hf hP hD hS (lv_sub hl [2, 1, 0] rfl)
        · refine lv_aload_n hx hb dX12_year_92 rfl (lv_at hl 2 rfl) ?_
          refine lv_bipush (v := 10) hx hb dX12_year_93 (by decide) ?_
          obtain ⟨u5, hu5, hf⟩ := bd_some hf
          refine z_ci (ws1 := w_X12_year h_t r_t u5.2 cI a_rows a_words a_address a_number a_memory a_order a_image a_well) (wr := List.filterMap (fun i : Nat => (w_X12_year h_t r_t u2.2 cI a_rows a_words a_address a_number a_memory a_order a_image a_well)[i]?) [1, 2, 3, 4, 5, 6, 7, 8]) (z_rV (rest := []) hx hb hml hown hcx hl.1 (c_X12_draw l D cI h_t r_t u2.2 10 u5 hu5 _) tl_X12_404 ti_X12_draw tz_X12_draw tn_X12 tc_X12_draw tm_X12_draw rfl rfl ⟨Nat.le_of_ble_eq_true rfl, Nat.le_of_ble_eq_true rfl⟩ hK hP hD [0] rfl rfl 0 rfl rfl rfl rfl (Nat.le_of_ble_eq_true rfl) dX12_year_95 ⟨Nat.zero_le _, Nat.zero_le _⟩) hP hD hS hA [0] [1, 2, 3, 4, 5, 6, 7, 8] [8, 0, 1, 2, 3, 4, 5, 6, 7] rfl rfl rfl (by decide) rfl rfl (fun H locs hP hD hS => ?_)
          refine lv_goto (tgt := 102) hx hb dX12_year_98 (by decide) ?_
          exact L102 u1.1 u2.1 u5.1 u5.2 a_rows a_words a_address a_number a_memory a_order a_image a_well _ _ _ hf hP hD hS (lv_sub hl [2, 1, 0] rfl)
      · refine lv_aload_n hx hb dX12_year_73 rfl (lv_at hl 1 rfl) ?_
        obtain ⟨u6, hu6, hf⟩ := bd_some hf
        refine z_cv (ws1 := w_X12_year h_t r_t u6.1 cI u6.2.1 a_words a_address a_number u6.2.2.1 u6.2.2.2.1 u6.2.2.2.2.1 u6.2.2.2.2.2) (wr := List.filterMap (fun i : Nat => (w_X12_year h_t r_t u1.2 cI a_rows a_words a_address a_number a_memory a_order a_image a_well)[i]?) [2, 3, 4]) (z_rV (rest := []) hx hb hml hown hcx hl.1 (c_X12_crashesByDraws l D cI h_t r_t u1.2 a_rows a_memory a_order a_image a_well u6 hu6 _) tl_X12_410 ti_X12_crashesByDraws tz_X12_crashesByDraws tn_X12 tc_X12_crashesByDraws tm_X12_crashesByDraws rfl rfl ⟨Nat.le_of_ble_eq_true rfl, Nat.le_of_ble_eq_true rfl⟩ hK hP hD [0, 1, 5, 6, 7, 8] rfl rfl 0 rfl rfl rfl rfl (Nat.le_of_ble_eq_true rfl) dX12_year_74 ⟨Nat.zero_le _, Nat.zero_le _⟩) hP hD hS hA [0, 1, 5, 6, 7, 8] [2, 3, 4] [3, 4, 0, 1, 2, 5, 6, 7, 8] rfl rfl rfl (by decide) rfl rfl (fun H locs hP hD hS => ?_)
        refine lv_goto (tgt := 129) hx hb dX12_year_77 (by decide) ?_
        exact hret (u6.1, u6.2.1, a_words, a_address, a_number, u6.2.2.1, u6.2.2.2.1, u6.2.2.2.2.1, u6.2.2.2.2.2) _ _ _ _ hf hP hD hS dX12_year_129
    · refine lv_aload_n hx hb dX12_year_36 rfl (lv_at hl 1 rfl) ?_
      refine lv_bipush (v := 16) hx hb dX12_year_37 (by decide) ?_
      obtain ⟨u7, hu7, hf⟩ := bd_some hf
      refine z_ci (ws1 := w_X12_year h_t r_t u7.2 cI a_rows a_words a_address a_number a_memory a_order a_image a_well) (wr := List.filterMap (fun i : Nat => (w_X12_year h_t r_t u1.2 cI a_rows a_words a_address a_number a_memory a_order a_image a_well)[i]?) [1, 2, 3, 4, 5, 6, 7, 8]) (z_rV (rest := []) hx hb hml hown hcx hl.1 (c_X12_draw l D cI h_t r_t u1.2 16 u7 hu7 _) tl_X12_404 ti_X12_draw tz_X12_draw tn_X12 tc_X12_draw tm_X12_draw rfl rfl ⟨Nat.le_of_ble_eq_true rfl, Nat.le_of_ble_eq_true rfl⟩ hK hP hD [0] rfl rfl 0 rfl rfl rfl rfl (Nat.le_of_ble_eq_true rfl) dX12_year_39 ⟨Nat.zero_le _, Nat.zero_le _⟩) hP hD hS hA [0] [1, 2, 3, 4, 5, 6, 7, 8] [8, 0, 1, 2, 3, 4, 5, 6, 7] rfl rfl rfl (by decide) rfl rfl (fun H locs hP hD hS => ?_)
      refine lv_istore_n (lv' := [(2, .int u7.1), (1, .int u1.1), (0, .ref h_t)]) hx hb dX12_year_42 rfl hl (by decide) rfl (fun ls hl => ?_)
      refine lv_aload_n hx hb dX12_year_43 rfl (lv_at hl 2 rfl) ?_
      refine z_get (ci := 12) (C := RX12) (T := TX12) (N := 51) (v := .ref (r_t 0)) hx hb hts inT_X12 hown hK hP 0 rfl rfl 0 (by decide) tf_X12_10 rfl dX12_year_44 ?_
      refine lv_sipush (v := 850) hx hb dX12_year_47 (by decide) ?_
      refine lv_iload_n hx hb dX12_year_50 rfl (lv_at hl 0 rfl) ?_
      refine lv_iadd hx hb dX12_year_51 ?_
      refine z_iald hx hb hK hP 1 rfl dX12_year_52 hf (fun y8 hf => ?_)
      refine z_if_le (tgt := 65) hx hb dX12_year_53 (by decide) hf (fun hf => ?_) (fun hf => ?_)
      · refine lv_goto (tgt := 129) hx hb dX12_year_65 (by decide) ?_
        exact hret (u7.2, a_rows, a_words, a_address, a_number, a_memory, a_order, a_image, a_well) _ _ _ _ hf hP hD hS dX12_year_129
      · refine lv_aload_n hx hb dX12_year_56 rfl (lv_at hl 2 rfl) ?_
        refine lv_sipush (v := 786) hx hb dX12_year_57 (by decide) ?_
        refine lv_iload_n hx hb dX12_year_60 rfl (lv_at hl 0 rfl) ?_
        refine lv_iconst (v := 1) hx hb dX12_year_61 (by decide) ?_
        obtain ⟨u9, hu9, hf⟩ := bd_some hf
        refine z_cv (ws1 := w_X12_year h_t r_t u7.2 cI u9 a_words a_address a_number a_memory a_order a_image a_well) (wr := List.filterMap (fun i : Nat => (w_X12_year h_t r_t u7.2 cI a_rows a_words a_address a_number a_memory a_order a_image a_well)[i]?) [2, 3, 4, 5, 6, 7, 8]) (z_rV (rest := []) hx hb hml hown hcx hl.1 (c_X12_reaches l D cI h_t r_t u7.2 a_rows 786 u7.1 1 u9 hu9 _) tl_X12_66 ti_X12_reaches tz_X12_reaches tn_X12 tc_X12_reaches tm_X12_reaches rfl rfl ⟨Nat.le_of_ble_eq_true rfl, Nat.le_of_ble_eq_true rfl⟩ hK hP hD [0, 1] rfl rfl 0 rfl rfl rfl rfl (Nat.le_of_ble_eq_true rfl) dX12_year_62 ⟨Nat.zero_le _, Nat.zero_le _⟩) hP hD hS hA [0, 1] [2, 3, 4, 5, 6, 7, 8] [7, 8, 0, 1, 2, 3, 4, 5, 6] rfl rfl rfl (by decide) rfl rfl (fun H locs hP hD hS => ?_)
        refine lv_goto (tgt := 129) hx hb dX12_year_65 (by decide) ?_
        exact hret (u7.2, u9, a_words, a_address, a_number, a_memory, a_order, a_image, a_well) _ _ _ _ hf hP hD hS dX12_year_129
  · refine lv_aload_n hx hb dX12_year_12 rfl (lv_at hl 1 rfl) ?_
    refine lv_sipush (v := 786) hx hb dX12_year_13 (by decide) ?_
    refine lv_aload_n hx hb dX12_year_16 rfl (lv_at hl 1 rfl) ?_
    refine lv_bipush (v := 6) hx hb dX12_year_17 (by decide) ?_
    obtain ⟨u10, hu10, hf⟩ := bd_some hf
    refine z_ci (ws1 := w_X12_year h_t r_t u10.2 cI a_rows a_words a_address a_number a_memory a_order a_image a_well) (wr := List.filterMap (fun i : Nat => (w_X12_year h_t r_t u1.2 cI a_rows a_words a_address a_number a_memory a_order a_image a_well)[i]?) [1, 2, 3, 4, 5, 6, 7, 8]) (z_rV (rest := [.int 786, .ref h_t]) hx hb hml hown hcx hl.1 (c_X12_draw l D cI h_t r_t u1.2 6 u10 hu10 _) tl_X12_404 ti_X12_draw tz_X12_draw tn_X12 tc_X12_draw tm_X12_draw rfl rfl ⟨Nat.le_of_ble_eq_true rfl, Nat.le_of_ble_eq_true rfl⟩ hK hP hD [0] rfl rfl 0 rfl rfl rfl rfl (Nat.le_of_ble_eq_true rfl) dX12_year_19 ⟨Nat.zero_le _, Nat.zero_le _⟩) hP hD hS hA [0] [1, 2, 3, 4, 5, 6, 7, 8] [8, 0, 1, 2, 3, 4, 5, 6, 7] rfl rfl rfl (by decide) rfl rfl (fun H locs hP hD hS => ?_)
    refine lv_iconst (v := 1) hx hb dX12_year_22 (by decide) ?_
    refine lv_iadd hx hb dX12_year_23 ?_
    obtain ⟨u11, hu11, hf⟩ := bd_some hf
    refine z_ci (ws1 := w_X12_year h_t r_t u11.2.1 cI u11.2.2.1 u11.2.2.2.1 u11.2.2.2.2.1 u11.2.2.2.2.2 a_memory a_order a_image a_well) (wr := List.filterMap (fun i : Nat => (w_X12_year h_t r_t u10.2 cI a_rows a_words a_address a_number a_memory a_order a_image a_well)[i]?) [5, 6, 7, 8]) (z_rV (rest := []) hx hb hml hown hcx hl.1 (c_X12_goes l D cI h_t r_t u10.2 a_rows a_words a_address a_number 786 (u10.1 + 1) u11 hu11 _) tl_X12_351 ti_X12_goes tz_X12_goes tn_X12 tc_X12_goes tm_X12_goes rfl rfl ⟨Nat.le_of_ble_eq_true rfl, Nat.le_of_ble_eq_true rfl⟩ hK hP hD [0, 1, 2, 3, 4] rfl rfl 0 rfl rfl rfl rfl (Nat.le_of_ble_eq_true rfl) dX12_year_24 ⟨Nat.zero_le _, Nat.zero_le _⟩) hP hD hS hA [0, 1, 2, 3, 4] [5, 6, 7, 8] [4, 5, 6, 7, 8, 0, 1, 2, 3] rfl rfl rfl (by decide) rfl rfl (fun H locs hP hD hS => ?_)
    refine lv_pop hx hb dX12_year_27 rfl ?_
    refine lv_goto (tgt := 129) hx hb dX12_year_28 (by decide) ?_
    exact hret (u11.2.1, u11.2.2.1, u11.2.2.2.1, u11.2.2.2.2.1, u11.2.2.2.2.2, a_memory, a_order, a_image, a_well) _ _ _ _ hf hP hD hS dX12_year_129
abbrev w_X12_years (h_t : Nat) (r_t : Nat → Nat) (F_t : Nat → Int32) (cI : ClassId) (a_rows : Nat → Int32) (a_words : Nat → Int32) (a_address : Nat → Int32) (a_number : Nat → Int32) (a_memory : Nat → Int32) (a_order : Nat → Int32) (a_image : Nat → Int32) (a_well : Nat → Int32) : va_W := [(h_t, .inr (12, o_X12 r_t F_t)), ((r_t 0), .inl (cI, 66100, .inl a_rows)), ((r_t 16), .inl (cI, 64, .inl a_words)), ((r_t 17), .inl (cI, 64, .inl a_address)), ((r_t 18), .inl (cI, 64, .inl a_number)), ((r_t 23), .inl (cI, 64, .inl a_memory)), ((r_t 24), .inl (cI, 16, .inl a_order)), ((r_t 25), .inl (cI, 64, .inl a_image)), ((r_t 26), .inl (cI, 88, .inl a_well))]
abbrev rm_X12_years : Room := { frames := 11, cells := 0, slots := 0, locals := 251 }
def m_X12_years_j69 (p1 : Int32) (p2 : Int32) (p3 : Int32) (F_t : Nat → Int32) (a_rows : Nat → Int32) (a_words : Nat → Int32) (a_address : Nat → Int32) (a_number : Nat → Int32) (a_memory : Nat → Int32) (a_order : Nat → Int32) (a_image : Nat → Int32) (a_well : Nat → Int32) : Option (Int32 × (Nat → Int32) × (Nat → Int32) × (Nat → Int32) × (Nat → Int32) × (Nat → Int32) × (Nat → Int32) × (Nat → Int32) × (Nat → Int32) × (Nat → Int32)) :=
  bd (m_X12_laysMemory a_rows a_memory 786) fun u9 =>
  if p3 = 0 then (
  rd a_rows 66100 1566 fun y12 =>
  rd a_rows 66100 780 fun y13 =>
  some ((y12 - y13), F_t, a_rows, a_words, a_address, a_number, u9, a_order, a_image, a_well))
  else (
  if p3 = 1 then (
  some ((F_t 50), F_t, a_rows, a_words, a_address, a_number, u9, a_order, a_image, a_well))
  else (
  bd (m_X12_leaked F_t u9) fun u10 =>
  bd (m_X12_bits u10.1) fun u11 =>
  some (u11, u10.2, a_rows, a_words, a_address, a_number, u9, a_order, a_image, a_well)))
def m_X12_years_w53 (p1 : Int32) (p2 : Int32) (p3 : Int32) (k69 : (Nat → Int32) → (Nat → Int32) → (Nat → Int32) → (Nat → Int32) → (Nat → Int32) → (Nat → Int32) → (Nat → Int32) → (Nat → Int32) → (Nat → Int32) → Option (Int32 × (Nat → Int32) × (Nat → Int32) × (Nat → Int32) × (Nat → Int32) × (Nat → Int32) × (Nat → Int32) × (Nat → Int32) × (Nat → Int32) × (Nat → Int32))) : Nat → Int32 → (Nat → Int32) → (Nat → Int32) → (Nat → Int32) → (Nat → Int32) → (Nat → Int32) → (Nat → Int32) → (Nat → Int32) → (Nat → Int32) → (Nat → Int32) → Option (Int32 × (Nat → Int32) × (Nat → Int32) × (Nat → Int32) × (Nat → Int32) × (Nat → Int32) × (Nat → Int32) × (Nat → Int32) × (Nat → Int32) × (Nat → Int32))
  | 0, _, _, _, _, _, _, _, _, _, _ => none
  | n53 + 1, x4, F_t, a_rows, a_words, a_address, a_number, a_memory, a_order, a_image, a_well =>
    if p2 ≤ x4 then (
    k69 F_t a_rows a_words a_address a_number a_memory a_order a_image a_well)
    else (
    bd (m_X12_year F_t a_rows a_words a_address a_number a_memory a_order a_image a_well) fun u14 =>
    nm (x4 + 1) fun v15 =>
    m_X12_years_w53 p1 p2 p3 k69 n53 v15 u14.1 u14.2.1 u14.2.2.1 u14.2.2.2.1 u14.2.2.2.2.1 u14.2.2.2.2.2.1 u14.2.2.2.2.2.2.1 u14.2.2.2.2.2.2.2.1 u14.2.2.2.2.2.2.2.2)
def m_X12_years (F_t : Nat → Int32) (a_rows : Nat → Int32) (a_words : Nat → Int32) (a_address : Nat → Int32) (a_number : Nat → Int32) (a_memory : Nat → Int32) (a_order : Nat → Int32) (a_image : Nat → Int32) (a_well : Nat → Int32) (p1 : Int32) (p2 : Int32) (p3 : Int32) : Option (Int32 × (Nat → Int32) × (Nat → Int32) × (Nat → Int32) × (Nat → Int32) × (Nat → Int32) × (Nat → Int32) × (Nat → Int32) × (Nat → Int32) × (Nat → Int32)) :=
  nm (upd F_t 4 0) fun F1 =>
  bd (m_X12_within p3 0 2) fun u2 =>
  bd (m_X12_right F1 u2 1) fun u3 =>
  if u3.1 = 0 then (
  some (0, u3.2, a_rows, a_words, a_address, a_number, a_memory, a_order, a_image, a_well))
  else (
  bd (m_X12_within p2 0 30) fun u4 =>
  bd (m_X12_right u3.2 u4 2) fun u5 =>
  if u5.1 = 0 then (
  some (0, u5.2, a_rows, a_words, a_address, a_number, a_memory, a_order, a_image, a_well))
  else (
  bd (m_X12_tries a_rows) fun u6 =>
  nm (upd u5.2 49 p1) fun F7 =>
  nm (upd F7 50 0) fun F8 =>
  m_X12_years_w53 p1 p2 p3 (m_X12_years_j69 p1 p2 p3) fuelN 0 F8 u6 a_words a_address a_number a_memory a_order a_image a_well))
set_option maxHeartbeats 4000000 in
set_option maxRecDepth 100000 in
theorem c_X12_years (l : Launch) (D : va_G) (cI : ClassId) (h_t : Nat) (r_t : Nat → Nat) (F_t : Nat → Int32) (a_rows : Nat → Int32) (a_words : Nat → Int32) (a_address : Nat → Int32) (a_number : Nat → Int32) (a_memory : Nat → Int32) (a_order : Nat → Int32) (a_image : Nat → Int32) (a_well : Nat → Int32) (p1 : Int32) (p2 : Int32) (p3 : Int32) (Rr : Int32 × (Nat → Int32) × (Nat → Int32) × (Nat → Int32) × (Nat → Int32) × (Nat → Int32) × (Nat → Int32) × (Nat → Int32) × (Nat → Int32) × (Nat → Int32)) (hf : m_X12_years F_t a_rows a_words a_address a_number a_memory a_order a_image a_well p1 p2 p3 = some Rr) : CTi l yX12_years (Cond.code yX12_years cX12_years 5 (some .int)) rm_X12_years D cI [.ref h_t, .int p1, .int p2, .int p3] (w_X12_years h_t r_t F_t cI a_rows a_words a_address a_number a_memory a_order a_image a_well) Rr.1 (w_X12_years h_t r_t Rr.2.1 cI Rr.2.2.1 Rr.2.2.2.1 Rr.2.2.2.2.1 Rr.2.2.2.2.2.1 Rr.2.2.2.2.2.2.1 Rr.2.2.2.2.2.2.2.1 Rr.2.2.2.2.2.2.2.2.1 Rr.2.2.2.2.2.2.2.2.2) := by
  refine z_begin_i (own := RX12) (ρ := Int32 × (Nat → Int32) × (Nat → Int32) × (Nat → Int32) × (Nat → Int32) × (Nat → Int32) × (Nat → Int32) × (Nat → Int32) × (Nat → Int32) × (Nat → Int32)) (fun u => w_X12_years h_t r_t u.2.1 cI u.2.2.1 u.2.2.2.1 u.2.2.2.2.1 u.2.2.2.2.2.1 u.2.2.2.2.2.2.1 u.2.2.2.2.2.2.2.1 u.2.2.2.2.2.2.2.2.1 u.2.2.2.2.2.2.2.2.2) (fun u => u.1) (by decide +kernel) rfl (Nat.le_of_ble_eq_true rfl) ?_
  intro p e s m args below meth c ls Q A hx hb hml hts hcx hown hK hA hP hD hS hl hret
  have hl : lv_has ls 5 [(0, .ref h_t), (1, .int p1), (2, .int p2), (3, .int p3)] := hl
  have hf := (m_X12_years.eq_1 _ _ _ _ _ _ _ _ _ _ _ _).symm.trans hf
  have L69 : ∀ (F_t : Nat → Int32) (a_rows : Nat → Int32) (a_words : Nat → Int32) (a_address : Nat → Int32) (a_number : Nat → Int32) (a_memory : Nat → Int32) (a_order : Nat → Int32) (a_image : Nat → Int32) (a_well : Nat → Int32) (H : Heap) (locs : List Loc) (ls : Array Slot), m_X12_years_j69 p1 p2 p3 F_t a_rows a_words a_address a_number a_memory a_order a_image a_well = some Rr → va_P D vwCl (w_X12_years h_t r_t F_t cI a_rows a_words a_address a_number a_memory a_order a_image a_well) H → va_D A (w_X12_years h_t r_t F_t cI a_rows a_words a_address a_number a_memory a_order a_image a_well) → va_S A s.heap H locs → lv_has ls 5 [(0, .ref h_t), (3, .int p3)] → W p l e rm_X12_years s m args below meth c H locs 0 0 Q (F0 m 69 ls []) := by
    intro F_t a_rows a_words a_address a_number a_memory a_order a_image a_well H locs ls hf hP hD hS hl
    have hf := (m_X12_years_j69.eq_1 _ _ _ _ _ _ _ _ _ _ _ _).symm.trans hf
    refine lv_aload_n hx hb dX12_years_69 rfl (lv_at hl 0 rfl) ?_
    refine lv_sipush (v := 786) hx hb dX12_years_70 (by decide) ?_
    obtain ⟨u9, hu9, hf⟩ := bd_some hf
    refine z_cv (ws1 := w_X12_years h_t r_t F_t cI a_rows a_words a_address a_number u9 a_order a_image a_well) (wr := List.filterMap (fun i : Nat => (w_X12_years h_t r_t F_t cI a_rows a_words a_address a_number a_memory a_order a_image a_well)[i]?) [2, 3, 4, 6, 7, 8]) (z_rV (rest := []) hx hb hml hown hcx hl.1 (c_X12_laysMemory l D cI h_t r_t F_t a_rows a_memory 786 u9 hu9 _) tl_X12_175 ti_X12_laysMemory tz_X12_laysMemory tn_X12 tc_X12_laysMemory tm_X12_laysMemory rfl rfl ⟨Nat.le_of_ble_eq_true rfl, Nat.le_of_ble_eq_true rfl⟩ hK hP hD [0, 1, 5] rfl rfl 0 rfl rfl rfl rfl (Nat.le_of_ble_eq_true rfl) dX12_years_73 ⟨Nat.zero_le _, Nat.zero_le _⟩) hP hD hS hA [0, 1, 5] [2, 3, 4, 6, 7, 8] [6, 7, 0, 1, 2, 8, 3, 4, 5] rfl rfl rfl (by decide) rfl rfl (fun H locs hP hD hS => ?_)
    refine lv_iload_n hx hb dX12_years_76 rfl (lv_at hl 1 rfl) ?_
    refine z_if_ne (tgt := 100) hx hb dX12_years_77 (by decide) hf (fun hf => ?_) (fun hf => ?_)
    · refine lv_iload_n hx hb dX12_years_100 rfl (lv_at hl 1 rfl) ?_
      refine lv_iconst (v := 1) hx hb dX12_years_101 (by decide) ?_
      refine z_icmp_ne (tgt := 112) hx hb dX12_years_102 (by decide) hf (fun hf => ?_) (fun hf => ?_)
      · refine lv_aload_n hx hb dX12_years_112 rfl (lv_at hl 0 rfl) ?_
        refine lv_aload_n hx hb dX12_years_113 rfl (lv_at hl 0 rfl) ?_
        refine z_get (ci := 12) (C := RX12) (T := TX12) (N := 51) (v := .ref (r_t 23)) hx hb hts inT_X12 hown hK hP 0 rfl rfl 23 (by decide) tf_X12_39 rfl dX12_years_114 ?_
        obtain ⟨u10, hu10, hf⟩ := bd_some hf
        refine z_ci (ws1 := w_X12_years h_t r_t u10.2 cI a_rows a_words a_address a_number u9 a_order a_image a_well) (wr := List.filterMap (fun i : Nat => (w_X12_years h_t r_t F_t cI a_rows a_words a_address a_number u9 a_order a_image a_well)[i]?) [1, 2, 3, 4, 6, 7, 8]) (z_rV (rest := []) hx hb hml hown hcx hl.1 (c_X12_leaked l D cI h_t (r_t 23) r_t F_t u9 u10 hu10 _) tl_X12_111 ti_X12_leaked tz_X12_leaked tn_X12 tc_X12_leaked tm_X12_leaked rfl rfl ⟨Nat.le_of_ble_eq_true rfl, Nat.le_of_ble_eq_true rfl⟩ hK hP hD [0, 5] rfl rfl 0 rfl rfl rfl rfl (Nat.le_of_ble_eq_true rfl) dX12_years_117 ⟨Nat.zero_le _, Nat.zero_le _⟩) hP hD hS hA [0, 5] [1, 2, 3, 4, 6, 7, 8] [7, 0, 1, 2, 3, 8, 4, 5, 6] rfl rfl rfl (by decide) rfl rfl (fun H locs hP hD hS => ?_)
        obtain ⟨u11, hu11, hf⟩ := bd_some hf
        refine z_ci (ws1 := w_X12_years h_t r_t u10.2 cI a_rows a_words a_address a_number u9 a_order a_image a_well) (wr := List.filterMap (fun i : Nat => (w_X12_years h_t r_t u10.2 cI a_rows a_words a_address a_number u9 a_order a_image a_well)[i]?) [0, 1, 2, 3, 4, 5, 6, 7, 8]) (z_rS (rest := []) hx hb hml hown hcx hl.1 (c_X12_bits l D cI u10.1 u11 hu11 _) tl_X12_379 ts_X12_bits tn_X12 tc_X12_bits tm_X12_bits rfl rfl ⟨Nat.le_of_ble_eq_true rfl, Nat.le_of_ble_eq_true rfl⟩ hK hP hD [] rfl rfl rfl rfl (Nat.le_of_ble_eq_true rfl) dX12_years_120 ⟨Nat.zero_le _, Nat.zero_le _⟩) hP hD hS hA [] [0, 1, 2, 3, 4, 5, 6, 7, 8] [0, 1, 2, 3, 4, 5, 6, 7, 8] rfl rfl rfl (by decide) rfl rfl (fun H locs hP hD hS => ?_)
        exact hret (u11, u10.2, a_rows, a_words, a_address, a_number, u9, a_order, a_image, a_well) _ _ _ _ hf hP hD hS dX12_years_123
      · refine lv_aload_n hx hb dX12_years_105 rfl (lv_at hl 0 rfl) ?_
        refine z_get (ci := 12) (C := RX12) (T := TX12) (N := 51) (v := .int (F_t 50)) hx hb hts inT_X12 hown hK hP 0 rfl rfl 50 (by decide) tf_X12_407 rfl dX12_years_106 ?_
        refine lv_goto (tgt := 123) hx hb dX12_years_109 (by decide) ?_
        exact hret ((F_t 50), F_t, a_rows, a_words, a_address, a_number, u9, a_order, a_image, a_well) _ _ _ _ hf hP hD hS dX12_years_123
    · refine lv_aload_n hx hb dX12_years_80 rfl (lv_at hl 0 rfl) ?_
      refine z_get (ci := 12) (C := RX12) (T := TX12) (N := 51) (v := .ref (r_t 0)) hx hb hts inT_X12 hown hK hP 0 rfl rfl 0 (by decide) tf_X12_10 rfl dX12_years_81 ?_
      refine lv_sipush (v := 1566) hx hb dX12_years_84 (by decide) ?_
      refine z_iald hx hb hK hP 1 rfl dX12_years_87 hf (fun y12 hf => ?_)
      refine lv_aload_n hx hb dX12_years_88 rfl (lv_at hl 0 rfl) ?_
      refine z_get (ci := 12) (C := RX12) (T := TX12) (N := 51) (v := .ref (r_t 0)) hx hb hts inT_X12 hown hK hP 0 rfl rfl 0 (by decide) tf_X12_10 rfl dX12_years_89 ?_
      refine lv_sipush (v := 780) hx hb dX12_years_92 (by decide) ?_
      refine z_iald hx hb hK hP 1 rfl dX12_years_95 hf (fun y13 hf => ?_)
      refine lv_isub hx hb dX12_years_96 ?_
      refine lv_goto (tgt := 123) hx hb dX12_years_97 (by decide) ?_
      exact hret ((y12 - y13), F_t, a_rows, a_words, a_address, a_number, u9, a_order, a_image, a_well) _ _ _ _ hf hP hD hS dX12_years_123
  have L53 : ∀ (n53 : Nat) (x4 : Int32) (F_t : Nat → Int32) (a_rows : Nat → Int32) (a_words : Nat → Int32) (a_address : Nat → Int32) (a_number : Nat → Int32) (a_memory : Nat → Int32) (a_order : Nat → Int32) (a_image : Nat → Int32) (a_well : Nat → Int32) (H : Heap) (locs : List Loc) (ls : Array Slot), m_X12_years_w53 p1 p2 p3 (m_X12_years_j69 p1 p2 p3) n53 x4 F_t a_rows a_words a_address a_number a_memory a_order a_image a_well = some Rr → va_P D vwCl (w_X12_years h_t r_t F_t cI a_rows a_words a_address a_number a_memory a_order a_image a_well) H → va_D A (w_X12_years h_t r_t F_t cI a_rows a_words a_address a_number a_memory a_order a_image a_well) → va_S A s.heap H locs → lv_has ls 5 [(0, .ref h_t), (2, .int p2), (3, .int p3), (4, .int x4)] → W p l e rm_X12_years s m args below meth c H locs 0 0 Q (F0 m 53 ls []) := by
    intro n53
    induction n53 with
    | zero => intro x4 F_t a_rows a_words a_address a_number a_memory a_order a_image a_well H locs ls hf; cases (show (none : Option _) = some Rr from hf)
    | succ n53 ih53 =>
      intro x4 F_t a_rows a_words a_address a_number a_memory a_order a_image a_well H locs ls hf hP hD hS hl
      have hf := (m_X12_years_w53.eq_2 _ _ _ _ _ _ _ _ _ _ _ _ _ _ _).symm.trans hf
      refine lv_iload hx hb dX12_years_53 (lv_at hl 3 rfl) ?_
      refine lv_iload_n hx hb dX12_years_55 rfl (lv_at hl 1 rfl) ?_
      refine z_icmp_ge (tgt := 69) hx hb dX12_years_56 (by decide) hf (fun hf => ?_) (fun hf => ?_)
      · exact L69 F_t a_rows a_words a_address a_number a_memory a_order a_image a_well _ _ _ hf hP hD hS (lv_sub hl [0, 2] rfl)
      · refine lv_aload_n hx hb dX12_years_59 rfl (lv_at hl 0 rfl) ?_
        obtain ⟨u14, hu14, hf⟩ := bd_some hf
        refine z_cv (ws1 := w_X12_years h_t r_t u14.1 cI u14.2.1 u14.2.2.1 u14.2.2.2.1 u14.2.2.2.2.1 u14.2.2.2.2.2.1 u14.2.2.2.2.2.2.1 u14.2.2.2.2.2.2.2.1 u14.2.2.2.2.2.2.2.2) (wr := List.filterMap (fun i : Nat => (w_X12_years h_t r_t F_t cI a_rows a_words a_address a_number a_memory a_order a_image a_well)[i]?) []) (z_rV (rest := []) hx hb hml hown hcx hl.1 (c_X12_year l D cI h_t r_t F_t a_rows a_words a_address a_number a_memory a_order a_image a_well u14 hu14 _) tl_X12_413 ti_X12_year tz_X12_year tn_X12 tc_X12_year tm_X12_year rfl rfl ⟨Nat.le_of_ble_eq_true rfl, Nat.le_of_ble_eq_true rfl⟩ hK hP hD [0, 1, 2, 3, 4, 5, 6, 7, 8] rfl rfl 0 rfl rfl rfl rfl (Nat.le_of_ble_eq_true rfl) dX12_years_60 ⟨Nat.zero_le _, Nat.zero_le _⟩) hP hD hS hA [0, 1, 2, 3, 4, 5, 6, 7, 8] [] [0, 1, 2, 3, 4, 5, 6, 7, 8] rfl rfl rfl (by decide) rfl rfl (fun H locs hP hD hS => ?_)
        refine z_iinc (k0 := 3) (fun z => [(4, .int z), (0, .ref h_t), (2, .int p2), (3, .int p3)]) hx hb dX12_years_63 hl rfl (by decide) (by decide) (fun _ => rfl) hf (fun v15 ls hf hl => ?_)
        refine lv_goto (tgt := 53) hx hb dX12_years_66 (by decide) ?_
        exact ih53 v15 u14.1 u14.2.1 u14.2.2.1 u14.2.2.2.1 u14.2.2.2.2.1 u14.2.2.2.2.2.1 u14.2.2.2.2.2.2.1 u14.2.2.2.2.2.2.2.1 u14.2.2.2.2.2.2.2.2 _ _ _ hf hP hD hS (lv_sub hl [1, 2, 3, 0] rfl)
  refine lv_aload_n hx hb dX12_years_0 rfl (lv_at hl 0 rfl) ?_
  refine lv_iconst (v := 0) hx hb dX12_years_1 (by decide) ?_
  refine z_put (ci := 12) (C := RX12) (T := TX12) (N := 51) hx hb hts inT_X12 tyX12 tyX12_ok nmX12 hown hK hP hD hS 0 rfl rfl 4 (by decide) tf_X12_63 rfl (by decide +kernel) (Nat.le_of_ble_eq_true rfl) (o_X12 r_t) (o_X12_s4 _ _ _) (fun z => w_X12_years h_t r_t z cI a_rows a_words a_address a_number a_memory a_order a_image a_well) (fun _ => rfl) dX12_years_2 hf (fun F1 H locs hf hP hD hS => ?_)
  refine lv_aload_n hx hb dX12_years_5 rfl (lv_at hl 0 rfl) ?_
  refine lv_iload_n hx hb dX12_years_6 rfl (lv_at hl 3 rfl) ?_
  refine lv_iconst (v := 0) hx hb dX12_years_7 (by decide) ?_
  refine lv_iconst (v := 2) hx hb dX12_years_8 (by decide) ?_
  obtain ⟨u2, hu2, hf⟩ := bd_some hf
  refine z_ci (ws1 := w_X12_years h_t r_t F1 cI a_rows a_words a_address a_number a_memory a_order a_image a_well) (wr := List.filterMap (fun i : Nat => (w_X12_years h_t r_t F1 cI a_rows a_words a_address a_number a_memory a_order a_image a_well)[i]?) [0, 1, 2, 3, 4, 5, 6, 7, 8]) (z_rS (rest := [.ref h_t]) hx hb hml hown hcx hl.1 (c_X12_within l D cI p3 0 2 u2 hu2 _) tl_X12_172 ts_X12_within tn_X12 tc_X12_within tm_X12_within rfl rfl ⟨Nat.le_of_ble_eq_true rfl, Nat.le_of_ble_eq_true rfl⟩ hK hP hD [] rfl rfl rfl rfl (Nat.le_of_ble_eq_true rfl) dX12_years_9 ⟨Nat.zero_le _, Nat.zero_le _⟩) hP hD hS hA [] [0, 1, 2, 3, 4, 5, 6, 7, 8] [0, 1, 2, 3, 4, 5, 6, 7, 8] rfl rfl rfl (by decide) rfl rfl (fun H locs hP hD hS => ?_)
  refine lv_iconst (v := 1) hx hb dX12_years_12 (by decide) ?_
  obtain ⟨u3, hu3, hf⟩ := bd_some hf
  refine z_ci (ws1 := w_X12_years h_t r_t u3.2 cI a_rows a_words a_address a_number a_memory a_order a_image a_well) (wr := List.filterMap (fun i : Nat => (w_X12_years h_t r_t F1 cI a_rows a_words a_address a_number a_memory a_order a_image a_well)[i]?) [1, 2, 3, 4, 5, 6, 7, 8]) (z_rV (rest := []) hx hb hml hown hcx hl.1 (c_X12_right l D cI h_t r_t F1 u2 1 u3 hu3 _) tl_X12_321 ti_X12_right tz_X12_right tn_X12 tc_X12_right tm_X12_right rfl rfl ⟨Nat.le_of_ble_eq_true rfl, Nat.le_of_ble_eq_true rfl⟩ hK hP hD [0] rfl rfl 0 rfl rfl rfl rfl (Nat.le_of_ble_eq_true rfl) dX12_years_13 ⟨Nat.zero_le _, Nat.zero_le _⟩) hP hD hS hA [0] [1, 2, 3, 4, 5, 6, 7, 8] [8, 0, 1, 2, 3, 4, 5, 6, 7] rfl rfl rfl (by decide) rfl rfl (fun H locs hP hD hS => ?_)
  refine z_if_eq (tgt := 34) hx hb dX12_years_16 (by decide) hf (fun hf => ?_) (fun hf => ?_)
  · refine lv_iconst (v := 0) hx hb dX12_years_34 (by decide) ?_
    exact hret (0, u3.2, a_rows, a_words, a_address, a_number, a_memory, a_order, a_image, a_well) _ _ _ _ hf hP hD hS dX12_years_35
  · refine lv_aload_n hx hb dX12_years_19 rfl (lv_at hl 0 rfl) ?_
    refine lv_iload_n hx hb dX12_years_20 rfl (lv_at hl 2 rfl) ?_
    refine lv_iconst (v := 0) hx hb dX12_years_21 (by decide) ?_
    refine lv_bipush (v := 30) hx hb dX12_years_22 (by decide) ?_
    obtain ⟨u4, hu4, hf⟩ := bd_some hf
    refine z_ci (ws1 := w_X12_years h_t r_t u3.2 cI a_rows a_words a_address a_number a_memory a_order a_image a_well) (wr := List.filterMap (fun i : Nat => (w_X12_years h_t r_t u3.2 cI a_rows a_words a_address a_number a_memory a_order a_image a_well)[i]?) [0, 1, 2, 3, 4, 5, 6, 7, 8]) (z_rS (rest := [.ref h_t]) hx hb hml hown hcx hl.1 (c_X12_within l D cI p2 0 30 u4 hu4 _) tl_X12_172 ts_X12_within tn_X12 tc_X12_within tm_X12_within rfl rfl ⟨Nat.le_of_ble_eq_true rfl, Nat.le_of_ble_eq_true rfl⟩ hK hP hD [] rfl rfl rfl rfl (Nat.le_of_ble_eq_true rfl) dX12_years_24 ⟨Nat.zero_le _, Nat.zero_le _⟩) hP hD hS hA [] [0, 1, 2, 3, 4, 5, 6, 7, 8] [0, 1, 2, 3, 4, 5, 6, 7, 8] rfl rfl rfl (by decide) rfl rfl (fun H locs hP hD hS => ?_)
    refine lv_iconst (v := 2) hx hb dX12_years_27 (by decide) ?_
    obtain ⟨u5, hu5, hf⟩ := bd_some hf
    refine z_ci (ws1 := w_X12_years h_t r_t u5.2 cI a_rows a_words a_address a_number a_memory a_order a_image a_well) (wr := List.filterMap (fun i : Nat => (w_X12_years h_t r_t u3.2 cI a_rows a_words a_address a_number a_memory a_order a_image a_well)[i]?) [1, 2, 3, 4, 5, 6, 7, 8]) (z_rV (rest := []) hx hb hml hown hcx hl.1 (c_X12_right l D cI h_t r_t u3.2 u4 2 u5 hu5 _) tl_X12_321 ti_X12_right tz_X12_right tn_X12 tc_X12_right tm_X12_right rfl rfl ⟨Nat.le_of_ble_eq_true rfl, Nat.le_of_ble_eq_true rfl⟩ hK hP hD [0] rfl rfl 0 rfl rfl rfl rfl (Nat.le_of_ble_eq_true rfl) dX12_years_28 ⟨Nat.zero_le _, Nat.zero_le _⟩) hP hD hS hA [0] [1, 2, 3, 4, 5, 6, 7, 8] [8, 0, 1, 2, 3, 4, 5, 6, 7] rfl rfl rfl (by decide) rfl rfl (fun H locs hP hD hS => ?_)
    refine z_if_ne (tgt := 36) hx hb dX12_years_31 (by decide) hf (fun hf => ?_) (fun hf => ?_)
    · refine lv_aload_n hx hb dX12_years_36 rfl (lv_at hl 0 rfl) ?_
      obtain ⟨u6, hu6, hf⟩ := bd_some hf
      refine z_cv (ws1 := w_X12_years h_t r_t u5.2 cI u6 a_words a_address a_number a_memory a_order a_image a_well) (wr := List.filterMap (fun i : Nat => (w_X12_years h_t r_t u5.2 cI a_rows a_words a_address a_number a_memory a_order a_image a_well)[i]?) [2, 3, 4, 5, 6, 7, 8]) (z_rV (rest := []) hx hb hml hown hcx hl.1 (c_X12_tries l D cI h_t r_t u5.2 a_rows u6 hu6 _) tl_X12_218 ti_X12_tries tz_X12_tries tn_X12 tc_X12_tries tm_X12_tries rfl rfl ⟨Nat.le_of_ble_eq_true rfl, Nat.le_of_ble_eq_true rfl⟩ hK hP hD [0, 1] rfl rfl 0 rfl rfl rfl rfl (Nat.le_of_ble_eq_true rfl) dX12_years_37 ⟨Nat.zero_le _, Nat.zero_le _⟩) hP hD hS hA [0, 1] [2, 3, 4, 5, 6, 7, 8] [7, 8, 0, 1, 2, 3, 4, 5, 6] rfl rfl rfl (by decide) rfl rfl (fun H locs hP hD hS => ?_)
      refine lv_aload_n hx hb dX12_years_40 rfl (lv_at hl 0 rfl) ?_
      refine lv_iload_n hx hb dX12_years_41 rfl (lv_at hl 1 rfl) ?_
      refine z_put (ci := 12) (C := RX12) (T := TX12) (N := 51) hx hb hts inT_X12 tyX12 tyX12_ok nmX12 hown hK hP hD hS 0 rfl rfl 49 (by decide) tf_X12_400 rfl (by decide +kernel) (Nat.le_of_ble_eq_true rfl) (o_X12 r_t) (o_X12_s49 _ _ _) (fun z => w_X12_years h_t r_t z cI u6 a_words a_address a_number a_memory a_order a_image a_well) (fun _ => rfl) dX12_years_42 hf (fun F7 H locs hf hP hD hS => ?_)
      refine lv_aload_n hx hb dX12_years_45 rfl (lv_at hl 0 rfl) ?_
      refine lv_iconst (v := 0) hx hb dX12_years_46 (by decide) ?_
      refine z_put (ci := 12) (C := RX12) (T := TX12) (N := 51) hx hb hts inT_X12 tyX12 tyX12_ok nmX12 hown hK hP hD hS 0 rfl rfl 50 (by decide) tf_X12_407 rfl (by decide +kernel) (Nat.le_of_ble_eq_true rfl) (o_X12 r_t) (o_X12_s50 _ _ _) (fun z => w_X12_years h_t r_t z cI u6 a_words a_address a_number a_memory a_order a_image a_well) (fun _ => rfl) dX12_years_47 hf (fun F8 H locs hf hP hD hS => ?_)
      refine lv_iconst (v := 0) hx hb dX12_years_50 (by decide) ?_
      refine lv_istore (lv' := [(4, .int 0), (0, .ref h_t), (1, .int p1), (2, .int p2), (3, .int p3)]) hx hb dX12_years_51 hl (by decide) rfl (fun ls hl => ?_)
      exact L53 fuelN 0 F8 u6 a_words a_address a_number a_memory a_order a_image a_well _ _ _ hf hP hD hS (lv_sub hl [1, 3, 4, 0] rfl)
    · refine lv_iconst (v := 0) hx hb dX12_years_34 (by decide) ?_
      exact hret (0, u5.2, a_rows, a_words, a_address, a_number, a_memory, a_order, a_image, a_well) _ _ _ _ hf hP hD hS dX12_years_35
abbrev w_X12_image (h_t : Nat) (r_t : Nat → Nat) (F_t : Nat → Int32) (cI : ClassId) (a_rows : Nat → Int32) (a_seenWord : Nat → Int32) (a_seenNumber : Nat → Int32) (a_refused : Nat → Int32) : va_W := [(h_t, .inr (12, o_X12 r_t F_t)), ((r_t 0), .inl (cI, 66100, .inl a_rows)), ((r_t 1), .inl (cI, 16, .inl a_seenWord)), ((r_t 2), .inl (cI, 16, .inl a_seenNumber)), ((r_t 3), .inl (cI, 6, .inl a_refused))]
abbrev rm_X12_image : Room := { frames := 1, cells := 0, slots := 0, locals := 24 }
def m_X12_image_j124 (F_t : Nat → Int32) (a_rows : Nat → Int32) (a_seenWord : Nat → Int32) (a_seenNumber : Nat → Int32) (a_refused : Nat → Int32) : Option ((Nat → Int32) × (Nat → Int32) × (Nat → Int32) × (Nat → Int32) × (Nat → Int32)) :=
  nm (upd F_t 11 1) fun F7 =>
  some (F7, a_rows, a_seenWord, a_seenNumber, a_refused)
def m_X12_image_w99 (k124 : (Nat → Int32) → (Nat → Int32) → (Nat → Int32) → (Nat → Int32) → (Nat → Int32) → Option ((Nat → Int32) × (Nat → Int32) × (Nat → Int32) × (Nat → Int32) × (Nat → Int32))) : Nat → Int32 → (Nat → Int32) → (Nat → Int32) → (Nat → Int32) → (Nat → Int32) → (Nat → Int32) → Option ((Nat → Int32) × (Nat → Int32) × (Nat → Int32) × (Nat → Int32) × (Nat → Int32))
  | 0, _, _, _, _, _, _ => none
  | n99 + 1, x1, F_t, a_rows, a_seenWord, a_seenNumber, a_refused =>
    if 3 ≤ x1 then (
    k124 F_t a_rows a_seenWord a_seenNumber a_refused)
    else (
    rd a_refused 6 x1 fun y8 =>
    wr a_refused 6 (3 + x1) y8 fun a9 =>
    nm (x1 + 1) fun v10 =>
    m_X12_image_w99 k124 n99 v10 F_t a_rows a_seenWord a_seenNumber a9)
def m_X12_image_j97 (F_t : Nat → Int32) (a_rows : Nat → Int32) (a_seenWord : Nat → Int32) (a_seenNumber : Nat → Int32) (a_refused : Nat → Int32) : Option ((Nat → Int32) × (Nat → Int32) × (Nat → Int32) × (Nat → Int32) × (Nat → Int32)) :=
  m_X12_image_w99 m_X12_image_j124 fuelN 0 F_t a_rows a_seenWord a_seenNumber a_refused
def m_X12_image_w55 (k97 : (Nat → Int32) → (Nat → Int32) → (Nat → Int32) → (Nat → Int32) → (Nat → Int32) → Option ((Nat → Int32) × (Nat → Int32) × (Nat → Int32) × (Nat → Int32) × (Nat → Int32))) : Nat → Int32 → (Nat → Int32) → (Nat → Int32) → (Nat → Int32) → (Nat → Int32) → (Nat → Int32) → Option ((Nat → Int32) × (Nat → Int32) × (Nat → Int32) × (Nat → Int32) × (Nat → Int32))
  | 0, _, _, _, _, _, _ => none
  | n55 + 1, x1, F_t, a_rows, a_seenWord, a_seenNumber, a_refused =>
    if 8 ≤ x1 then (
    k97 F_t a_rows a_seenWord a_seenNumber a_refused)
    else (
    rd a_seenWord 16 x1 fun y11 =>
    wr a_seenWord 16 (8 + x1) y11 fun a12 =>
    rd a_seenNumber 16 x1 fun y13 =>
    wr a_seenNumber 16 (8 + x1) y13 fun a14 =>
    nm (x1 + 1) fun v15 =>
    m_X12_image_w55 k97 n55 v15 F_t a_rows a12 a14 a_refused)
def m_X12_image (F_t : Nat → Int32) (a_rows : Nat → Int32) (a_seenWord : Nat → Int32) (a_seenNumber : Nat → Int32) (a_refused : Nat → Int32) : Option ((Nat → Int32) × (Nat → Int32) × (Nat → Int32) × (Nat → Int32) × (Nat → Int32)) :=
  nm (upd F_t 4 0) fun F1 =>
  bd (m_X12_copies a_rows 0 33798 786) fun u2 =>
  bd (m_X12_copies u2 2358 34584 31440) fun u3 =>
  nm (upd F1 8 (F1 5)) fun F4 =>
  nm (upd F4 9 (F4 6)) fun F5 =>
  nm (upd F5 10 (F5 7)) fun F6 =>
  m_X12_image_w55 m_X12_image_j97 fuelN 0 F6 u3 a_seenWord a_seenNumber a_refused
set_option maxHeartbeats 4000000 in
set_option maxRecDepth 100000 in
theorem c_X12_image (l : Launch) (D : va_G) (cI : ClassId) (h_t : Nat) (r_t : Nat → Nat) (F_t : Nat → Int32) (a_rows : Nat → Int32) (a_seenWord : Nat → Int32) (a_seenNumber : Nat → Int32) (a_refused : Nat → Int32) (Rr : (Nat → Int32) × (Nat → Int32) × (Nat → Int32) × (Nat → Int32) × (Nat → Int32)) (hf : m_X12_image F_t a_rows a_seenWord a_seenNumber a_refused = some Rr) : CTv l yX12_image (Cond.code yX12_image cX12_image 2 none) rm_X12_image D cI [.ref h_t] (w_X12_image h_t r_t F_t cI a_rows a_seenWord a_seenNumber a_refused) (w_X12_image h_t r_t Rr.1 cI Rr.2.1 Rr.2.2.1 Rr.2.2.2.1 Rr.2.2.2.2) := by
  refine z_begin_v (own := RX12) (ρ := (Nat → Int32) × (Nat → Int32) × (Nat → Int32) × (Nat → Int32) × (Nat → Int32)) (fun u => w_X12_image h_t r_t u.1 cI u.2.1 u.2.2.1 u.2.2.2.1 u.2.2.2.2) (by decide +kernel) rfl (Nat.le_of_ble_eq_true rfl) ?_
  intro p e s m args below meth c ls Q A hx hb hml hts hcx hown hK hA hP hD hS hl hret
  have hl : lv_has ls 2 [(0, .ref h_t)] := hl
  have hf := (m_X12_image.eq_1 _ _ _ _ _).symm.trans hf
  have L124 : ∀ (F_t : Nat → Int32) (a_rows : Nat → Int32) (a_seenWord : Nat → Int32) (a_seenNumber : Nat → Int32) (a_refused : Nat → Int32) (H : Heap) (locs : List Loc) (ls : Array Slot), m_X12_image_j124 F_t a_rows a_seenWord a_seenNumber a_refused = some Rr → va_P D vwCl (w_X12_image h_t r_t F_t cI a_rows a_seenWord a_seenNumber a_refused) H → va_D A (w_X12_image h_t r_t F_t cI a_rows a_seenWord a_seenNumber a_refused) → va_S A s.heap H locs → lv_has ls 2 [(0, .ref h_t)] → W p l e rm_X12_image s m args below meth c H locs 0 0 Q (F0 m 124 ls []) := by
    intro F_t a_rows a_seenWord a_seenNumber a_refused H locs ls hf hP hD hS hl
    have hf := (m_X12_image_j124.eq_1 _ _ _ _ _).symm.trans hf
    refine lv_aload_n hx hb dX12_image_124 rfl (lv_at hl 0 rfl) ?_
    refine lv_iconst (v := 1) hx hb dX12_image_125 (by decide) ?_
    refine z_put (ci := 12) (C := RX12) (T := TX12) (N := 51) hx hb hts inT_X12 tyX12 tyX12_ok nmX12 hown hK hP hD hS 0 rfl rfl 11 (by decide) tf_X12_327 rfl (by decide +kernel) (Nat.le_of_ble_eq_true rfl) (o_X12 r_t) (o_X12_s11 _ _ _) (fun z => w_X12_image h_t r_t z cI a_rows a_seenWord a_seenNumber a_refused) (fun _ => rfl) dX12_image_126 hf (fun F7 H locs hf hP hD hS => ?_)
    exact hret (F7, a_rows, a_seenWord, a_seenNumber, a_refused) _ _ _ _ hf hP hD hS dX12_image_129
  have L99 : ∀ (n99 : Nat) (x1 : Int32) (F_t : Nat → Int32) (a_rows : Nat → Int32) (a_seenWord : Nat → Int32) (a_seenNumber : Nat → Int32) (a_refused : Nat → Int32) (H : Heap) (locs : List Loc) (ls : Array Slot), m_X12_image_w99 m_X12_image_j124 n99 x1 F_t a_rows a_seenWord a_seenNumber a_refused = some Rr → va_P D vwCl (w_X12_image h_t r_t F_t cI a_rows a_seenWord a_seenNumber a_refused) H → va_D A (w_X12_image h_t r_t F_t cI a_rows a_seenWord a_seenNumber a_refused) → va_S A s.heap H locs → lv_has ls 2 [(0, .ref h_t), (1, .int x1)] → W p l e rm_X12_image s m args below meth c H locs 0 0 Q (F0 m 99 ls []) := by
    intro n99
    induction n99 with
    | zero => intro x1 F_t a_rows a_seenWord a_seenNumber a_refused H locs ls hf; cases (show (none : Option _) = some Rr from hf)
    | succ n99 ih99 =>
      intro x1 F_t a_rows a_seenWord a_seenNumber a_refused H locs ls hf hP hD hS hl
      have hf := (m_X12_image_w99.eq_2 _ _ _ _ _ _ _ _).symm.trans hf
      refine lv_iload_n hx hb dX12_image_99 rfl (lv_at hl 1 rfl) ?_
      refine lv_iconst (v := 3) hx hb dX12_image_100 (by decide) ?_
      refine z_icmp_ge (tgt := 124) hx hb dX12_image_101 (by decide) hf (fun hf => ?_) (fun hf => ?_)
      · exact L124 F_t a_rows a_seenWord a_seenNumber a_refused _ _ _ hf hP hD hS (lv_sub hl [0] rfl)
      · refine lv_aload_n hx hb dX12_image_104 rfl (lv_at hl 0 rfl) ?_
        refine z_get (ci := 12) (C := RX12) (T := TX12) (N := 51) (v := .ref (r_t 3)) hx hb hts inT_X12 hown hK hP 0 rfl rfl 3 (by decide) tf_X12_20 rfl dX12_image_105 ?_
        refine lv_iconst (v := 3) hx hb dX12_image_108 (by decide) ?_
        refine lv_iload_n hx hb dX12_image_109 rfl (lv_at hl 1 rfl) ?_
        refine lv_iadd hx hb dX12_image_110 ?_
        refine lv_aload_n hx hb dX12_image_111 rfl (lv_at hl 0 rfl) ?_
        refine z_get (ci := 12) (C := RX12) (T := TX12) (N := 51) (v := .ref (r_t 3)) hx hb hts inT_X12 hown hK hP 0 rfl rfl 3 (by decide) tf_X12_20 rfl dX12_image_112 ?_
        refine lv_iload_n hx hb dX12_image_115 rfl (lv_at hl 1 rfl) ?_
        refine z_iald hx hb hK hP 4 rfl dX12_image_116 hf (fun y8 hf => ?_)
        refine z_iast hx hb hK hP hD hS 4 rfl (fun z => w_X12_image h_t r_t F_t cI a_rows a_seenWord a_seenNumber z) (fun _ => rfl) dX12_image_117 hf (fun a9 H locs hf hP hD hS => ?_)
        refine z_iinc (k0 := 1) (fun z => [(1, .int z), (0, .ref h_t)]) hx hb dX12_image_118 hl rfl (by decide) (by decide) (fun _ => rfl) hf (fun v10 ls hf hl => ?_)
        refine lv_goto (tgt := 99) hx hb dX12_image_121 (by decide) ?_
        exact ih99 v10 F_t a_rows a_seenWord a_seenNumber a9 _ _ _ hf hP hD hS (lv_sub hl [1, 0] rfl)
  have L97 : ∀ (F_t : Nat → Int32) (a_rows : Nat → Int32) (a_seenWord : Nat → Int32) (a_seenNumber : Nat → Int32) (a_refused : Nat → Int32) (H : Heap) (locs : List Loc) (ls : Array Slot), m_X12_image_j97 F_t a_rows a_seenWord a_seenNumber a_refused = some Rr → va_P D vwCl (w_X12_image h_t r_t F_t cI a_rows a_seenWord a_seenNumber a_refused) H → va_D A (w_X12_image h_t r_t F_t cI a_rows a_seenWord a_seenNumber a_refused) → va_S A s.heap H locs → lv_has ls 2 [(0, .ref h_t)] → W p l e rm_X12_image s m args below meth c H locs 0 0 Q (F0 m 97 ls []) := by
    intro F_t a_rows a_seenWord a_seenNumber a_refused H locs ls hf hP hD hS hl
    have hf := (m_X12_image_j97.eq_1 _ _ _ _ _).symm.trans hf
    refine lv_iconst (v := 0) hx hb dX12_image_97 (by decide) ?_
    refine lv_istore_n (lv' := [(1, .int 0), (0, .ref h_t)]) hx hb dX12_image_98 rfl hl (by decide) rfl (fun ls hl => ?_)
    exact L99 fuelN 0 F_t a_rows a_seenWord a_seenNumber a_refused _ _ _ hf hP hD hS (lv_sub hl [1, 0] rfl)
  have L55 : ∀ (n55 : Nat) (x1 : Int32) (F_t : Nat → Int32) (a_rows : Nat → Int32) (a_seenWord : Nat → Int32) (a_seenNumber : Nat → Int32) (a_refused : Nat → Int32) (H : Heap) (locs : List Loc) (ls : Array Slot), m_X12_image_w55 m_X12_image_j97 n55 x1 F_t a_rows a_seenWord a_seenNumber a_refused = some Rr → va_P D vwCl (w_X12_image h_t r_t F_t cI a_rows a_seenWord a_seenNumber a_refused) H → va_D A (w_X12_image h_t r_t F_t cI a_rows a_seenWord a_seenNumber a_refused) → va_S A s.heap H locs → lv_has ls 2 [(0, .ref h_t), (1, .int x1)] → W p l e rm_X12_image s m args below meth c H locs 0 0 Q (F0 m 55 ls []) := by
    intro n55
    induction n55 with
    | zero => intro x1 F_t a_rows a_seenWord a_seenNumber a_refused H locs ls hf; cases (show (none : Option _) = some Rr from hf)
    | succ n55 ih55 =>
      intro x1 F_t a_rows a_seenWord a_seenNumber a_refused H locs ls hf hP hD hS hl
      have hf := (m_X12_image_w55.eq_2 _ _ _ _ _ _ _ _).symm.trans hf
      refine lv_iload_n hx hb dX12_image_55 rfl (lv_at hl 1 rfl) ?_
      refine lv_bipush (v := 8) hx hb dX12_image_56 (by decide) ?_
      refine z_icmp_ge (tgt := 97) hx hb dX12_image_58 (by decide) hf (fun hf => ?_) (fun hf => ?_)
      · exact L97 F_t a_rows a_seenWord a_seenNumber a_refused _ _ _ hf hP hD hS (lv_sub hl [0] rfl)
      · refine lv_aload_n hx hb dX12_image_61 rfl (lv_at hl 0 rfl) ?_
        refine z_get (ci := 12) (C := RX12) (T := TX12) (N := 51) (v := .ref (r_t 1)) hx hb hts inT_X12 hown hK hP 0 rfl rfl 1 (by decide) tf_X12_14 rfl dX12_image_62 ?_
        refine lv_bipush (v := 8) hx hb dX12_image_65 (by decide) ?_
        refine lv_iload_n hx hb dX12_image_67 rfl (lv_at hl 1 rfl) ?_
        refine lv_iadd hx hb dX12_image_68 ?_
        refine lv_aload_n hx hb dX12_image_69 rfl (lv_at hl 0 rfl) ?_
        refine z_get (ci := 12) (C := RX12) (T := TX12) (N := 51) (v := .ref (r_t 1)) hx hb hts inT_X12 hown hK hP 0 rfl rfl 1 (by decide) tf_X12_14 rfl dX12_image_70 ?_
        refine lv_iload_n hx hb dX12_image_73 rfl (lv_at hl 1 rfl) ?_
        refine z_iald hx hb hK hP 2 rfl dX12_image_74 hf (fun y11 hf => ?_)
        refine z_iast hx hb hK hP hD hS 2 rfl (fun z => w_X12_image h_t r_t F_t cI a_rows z a_seenNumber a_refused) (fun _ => rfl) dX12_image_75 hf (fun a12 H locs hf hP hD hS => ?_)
        refine lv_aload_n hx hb dX12_image_76 rfl (lv_at hl 0 rfl) ?_
        refine z_get (ci := 12) (C := RX12) (T := TX12) (N := 51) (v := .ref (r_t 2)) hx hb hts inT_X12 hown hK hP 0 rfl rfl 2 (by decide) tf_X12_17 rfl dX12_image_77 ?_
        refine lv_bipush (v := 8) hx hb dX12_image_80 (by decide) ?_
        refine lv_iload_n hx hb dX12_image_82 rfl (lv_at hl 1 rfl) ?_
        refine lv_iadd hx hb dX12_image_83 ?_
        refine lv_aload_n hx hb dX12_image_84 rfl (lv_at hl 0 rfl) ?_
        refine z_get (ci := 12) (C := RX12) (T := TX12) (N := 51) (v := .ref (r_t 2)) hx hb hts inT_X12 hown hK hP 0 rfl rfl 2 (by decide) tf_X12_17 rfl dX12_image_85 ?_
        refine lv_iload_n hx hb dX12_image_88 rfl (lv_at hl 1 rfl) ?_
        refine z_iald hx hb hK hP 3 rfl dX12_image_89 hf (fun y13 hf => ?_)
        refine z_iast hx hb hK hP hD hS 3 rfl (fun z => w_X12_image h_t r_t F_t cI a_rows a12 z a_refused) (fun _ => rfl) dX12_image_90 hf (fun a14 H locs hf hP hD hS => ?_)
        refine z_iinc (k0 := 1) (fun z => [(1, .int z), (0, .ref h_t)]) hx hb dX12_image_91 hl rfl (by decide) (by decide) (fun _ => rfl) hf (fun v15 ls hf hl => ?_)
        refine lv_goto (tgt := 55) hx hb dX12_image_94 (by decide) ?_
        exact ih55 v15 F_t a_rows a12 a14 a_refused _ _ _ hf hP hD hS (lv_sub hl [1, 0] rfl)
  refine lv_aload_n hx hb dX12_image_0 rfl (lv_at hl 0 rfl) ?_
  refine lv_iconst (v := 0) hx hb dX12_image_1 (by decide) ?_
  refine z_put (ci := 12) (C := RX12) (T := TX12) (N := 51) hx hb hts inT_X12 tyX12 tyX12_ok nmX12 hown hK hP hD hS 0 rfl rfl 4 (by decide) tf_X12_63 rfl (by decide +kernel) (Nat.le_of_ble_eq_true rfl) (o_X12 r_t) (o_X12_s4 _ _ _) (fun z => w_X12_image h_t r_t z cI a_rows a_seenWord a_seenNumber a_refused) (fun _ => rfl) dX12_image_2 hf (fun F1 H locs hf hP hD hS => ?_)
  refine lv_aload_n hx hb dX12_image_5 rfl (lv_at hl 0 rfl) ?_
  refine lv_iconst (v := 0) hx hb dX12_image_6 (by decide) ?_
  refine lv_ldcw hx hb hown (hts _ tk_X12_416) dX12_image_7 ?_
  refine lv_sipush (v := 786) hx hb dX12_image_10 (by decide) ?_
  obtain ⟨u2, hu2, hf⟩ := bd_some hf
  refine z_cv (ws1 := w_X12_image h_t r_t F1 cI u2 a_seenWord a_seenNumber a_refused) (wr := List.filterMap (fun i : Nat => (w_X12_image h_t r_t F1 cI a_rows a_seenWord a_seenNumber a_refused)[i]?) [2, 3, 4]) (z_rV (rest := []) hx hb hml hown hcx hl.1 (c_X12_copies l D cI h_t r_t F1 a_rows 0 33798 786 u2 hu2 _) tl_X12_224 ti_X12_copies tz_X12_copies tn_X12 tc_X12_copies tm_X12_copies rfl rfl ⟨Nat.le_of_ble_eq_true rfl, Nat.le_of_ble_eq_true rfl⟩ hK hP hD [0, 1] rfl rfl 0 rfl rfl rfl rfl (Nat.le_of_ble_eq_true rfl) dX12_image_13 ⟨Nat.zero_le _, Nat.zero_le _⟩) hP hD hS hA [0, 1] [2, 3, 4] [3, 4, 0, 1, 2] rfl rfl rfl (by decide) rfl rfl (fun H locs hP hD hS => ?_)
  refine lv_aload_n hx hb dX12_image_16 rfl (lv_at hl 0 rfl) ?_
  refine lv_sipush (v := 2358) hx hb dX12_image_17 (by decide) ?_
  refine lv_ldcw hx hb hown (hts _ tk_X12_417) dX12_image_20 ?_
  refine lv_sipush (v := 31440) hx hb dX12_image_23 (by decide) ?_
  obtain ⟨u3, hu3, hf⟩ := bd_some hf
  refine z_cv (ws1 := w_X12_image h_t r_t F1 cI u3 a_seenWord a_seenNumber a_refused) (wr := List.filterMap (fun i : Nat => (w_X12_image h_t r_t F1 cI u2 a_seenWord a_seenNumber a_refused)[i]?) [2, 3, 4]) (z_rV (rest := []) hx hb hml hown hcx hl.1 (c_X12_copies l D cI h_t r_t F1 u2 2358 34584 31440 u3 hu3 _) tl_X12_224 ti_X12_copies tz_X12_copies tn_X12 tc_X12_copies tm_X12_copies rfl rfl ⟨Nat.le_of_ble_eq_true rfl, Nat.le_of_ble_eq_true rfl⟩ hK hP hD [0, 1] rfl rfl 0 rfl rfl rfl rfl (Nat.le_of_ble_eq_true rfl) dX12_image_26 ⟨Nat.zero_le _, Nat.zero_le _⟩) hP hD hS hA [0, 1] [2, 3, 4] [3, 4, 0, 1, 2] rfl rfl rfl (by decide) rfl rfl (fun H locs hP hD hS => ?_)
  refine lv_aload_n hx hb dX12_image_29 rfl (lv_at hl 0 rfl) ?_
  refine lv_aload_n hx hb dX12_image_30 rfl (lv_at hl 0 rfl) ?_
  refine z_get (ci := 12) (C := RX12) (T := TX12) (N := 51) (v := .int (F1 5)) hx hb hts inT_X12 hown hK hP 0 rfl rfl 5 (by decide) tf_X12_336 rfl dX12_image_31 ?_
  refine z_put (ci := 12) (C := RX12) (T := TX12) (N := 51) hx hb hts inT_X12 tyX12 tyX12_ok nmX12 hown hK hP hD hS 0 rfl rfl 8 (by decide) tf_X12_418 rfl (by decide +kernel) (Nat.le_of_ble_eq_true rfl) (o_X12 r_t) (o_X12_s8 _ _ _) (fun z => w_X12_image h_t r_t z cI u3 a_seenWord a_seenNumber a_refused) (fun _ => rfl) dX12_image_34 hf (fun F4 H locs hf hP hD hS => ?_)
  refine lv_aload_n hx hb dX12_image_37 rfl (lv_at hl 0 rfl) ?_
  refine lv_aload_n hx hb dX12_image_38 rfl (lv_at hl 0 rfl) ?_
  refine z_get (ci := 12) (C := RX12) (T := TX12) (N := 51) (v := .int (F4 6)) hx hb hts inT_X12 hown hK hP 0 rfl rfl 6 (by decide) tf_X12_333 rfl dX12_image_39 ?_
  refine z_put (ci := 12) (C := RX12) (T := TX12) (N := 51) hx hb hts inT_X12 tyX12 tyX12_ok nmX12 hown hK hP hD hS 0 rfl rfl 9 (by decide) tf_X12_421 rfl (by decide +kernel) (Nat.le_of_ble_eq_true rfl) (o_X12 r_t) (o_X12_s9 _ _ _) (fun z => w_X12_image h_t r_t z cI u3 a_seenWord a_seenNumber a_refused) (fun _ => rfl) dX12_image_42 hf (fun F5 H locs hf hP hD hS => ?_)
  refine lv_aload_n hx hb dX12_image_45 rfl (lv_at hl 0 rfl) ?_
  refine lv_aload_n hx hb dX12_image_46 rfl (lv_at hl 0 rfl) ?_
  refine z_get (ci := 12) (C := RX12) (T := TX12) (N := 51) (v := .int (F5 7)) hx hb hts inT_X12 hown hK hP 0 rfl rfl 7 (by decide) tf_X12_330 rfl dX12_image_47 ?_
  refine z_put (ci := 12) (C := RX12) (T := TX12) (N := 51) hx hb hts inT_X12 tyX12 tyX12_ok nmX12 hown hK hP hD hS 0 rfl rfl 10 (by decide) tf_X12_424 rfl (by decide +kernel) (Nat.le_of_ble_eq_true rfl) (o_X12 r_t) (o_X12_s10 _ _ _) (fun z => w_X12_image h_t r_t z cI u3 a_seenWord a_seenNumber a_refused) (fun _ => rfl) dX12_image_50 hf (fun F6 H locs hf hP hD hS => ?_)
  refine lv_iconst (v := 0) hx hb dX12_image_53 (by decide) ?_
  refine lv_istore_n (lv' := [(1, .int 0), (0, .ref h_t)]) hx hb dX12_image_54 rfl hl (by decide) rfl (fun ls hl => ?_)
  exact L55 fuelN 0 F6 u3 a_seenWord a_seenNumber a_refused _ _ _ hf hP hD hS (lv_sub hl [1, 0] rfl)
abbrev w_X12_restore (h_t : Nat) (r_t : Nat → Nat) (F_t : Nat → Int32) (cI : ClassId) (a_rows : Nat → Int32) (a_seenWord : Nat → Int32) (a_seenNumber : Nat → Int32) (a_refused : Nat → Int32) : va_W := [(h_t, .inr (12, o_X12 r_t F_t)), ((r_t 0), .inl (cI, 66100, .inl a_rows)), ((r_t 1), .inl (cI, 16, .inl a_seenWord)), ((r_t 2), .inl (cI, 16, .inl a_seenNumber)), ((r_t 3), .inl (cI, 6, .inl a_refused))]
abbrev rm_X12_restore : Room := { frames := 1, cells := 0, slots := 0, locals := 24 }
def m_X12_restore_w108 : Nat → Int32 → (Nat → Int32) → (Nat → Int32) → (Nat → Int32) → (Nat → Int32) → (Nat → Int32) → Option (Int32 × (Nat → Int32) × (Nat → Int32) × (Nat → Int32) × (Nat → Int32) × (Nat → Int32))
  | 0, _, _, _, _, _, _ => none
  | n108 + 1, x1, F_t, a_rows, a_seenWord, a_seenNumber, a_refused =>
    if 3 ≤ x1 then (
    some (1, F_t, a_rows, a_seenWord, a_seenNumber, a_refused))
    else (
    rd a_refused 6 (3 + x1) fun y7 =>
    wr a_refused 6 x1 y7 fun a8 =>
    nm (x1 + 1) fun v9 =>
    m_X12_restore_w108 n108 v9 F_t a_rows a_seenWord a_seenNumber a8)
def m_X12_restore_j106 (F_t : Nat → Int32) (a_rows : Nat → Int32) (a_seenWord : Nat → Int32) (a_seenNumber : Nat → Int32) (a_refused : Nat → Int32) : Option (Int32 × (Nat → Int32) × (Nat → Int32) × (Nat → Int32) × (Nat → Int32) × (Nat → Int32)) :=
  m_X12_restore_w108 fuelN 0 F_t a_rows a_seenWord a_seenNumber a_refused
def m_X12_restore_w64 (k106 : (Nat → Int32) → (Nat → Int32) → (Nat → Int32) → (Nat → Int32) → (Nat → Int32) → Option (Int32 × (Nat → Int32) × (Nat → Int32) × (Nat → Int32) × (Nat → Int32) × (Nat → Int32))) : Nat → Int32 → (Nat → Int32) → (Nat → Int32) → (Nat → Int32) → (Nat → Int32) → (Nat → Int32) → Option (Int32 × (Nat → Int32) × (Nat → Int32) × (Nat → Int32) × (Nat → Int32) × (Nat → Int32))
  | 0, _, _, _, _, _, _ => none
  | n64 + 1, x1, F_t, a_rows, a_seenWord, a_seenNumber, a_refused =>
    if 8 ≤ x1 then (
    k106 F_t a_rows a_seenWord a_seenNumber a_refused)
    else (
    rd a_seenWord 16 (8 + x1) fun y10 =>
    wr a_seenWord 16 x1 y10 fun a11 =>
    rd a_seenNumber 16 (8 + x1) fun y12 =>
    wr a_seenNumber 16 x1 y12 fun a13 =>
    nm (x1 + 1) fun v14 =>
    m_X12_restore_w64 k106 n64 v14 F_t a_rows a11 a13 a_refused)
def m_X12_restore (F_t : Nat → Int32) (a_rows : Nat → Int32) (a_seenWord : Nat → Int32) (a_seenNumber : Nat → Int32) (a_refused : Nat → Int32) : Option (Int32 × (Nat → Int32) × (Nat → Int32) × (Nat → Int32) × (Nat → Int32) × (Nat → Int32)) :=
  nm (upd F_t 4 0) fun F1 =>
  if (F1 11) = 0 then (
  some (0, F1, a_rows, a_seenWord, a_seenNumber, a_refused))
  else (
  bd (m_X12_copies a_rows 33798 0 786) fun u2 =>
  bd (m_X12_copies u2 34584 2358 31440) fun u3 =>
  nm (upd F1 5 (F1 8)) fun F4 =>
  nm (upd F4 6 (F4 9)) fun F5 =>
  nm (upd F5 7 (F5 10)) fun F6 =>
  m_X12_restore_w64 m_X12_restore_j106 fuelN 0 F6 u3 a_seenWord a_seenNumber a_refused)
set_option maxHeartbeats 4000000 in
set_option maxRecDepth 100000 in
theorem c_X12_restore (l : Launch) (D : va_G) (cI : ClassId) (h_t : Nat) (r_t : Nat → Nat) (F_t : Nat → Int32) (a_rows : Nat → Int32) (a_seenWord : Nat → Int32) (a_seenNumber : Nat → Int32) (a_refused : Nat → Int32) (Rr : Int32 × (Nat → Int32) × (Nat → Int32) × (Nat → Int32) × (Nat → Int32) × (Nat → Int32)) (hf : m_X12_restore F_t a_rows a_seenWord a_seenNumber a_refused = some Rr) : CTi l yX12_restore (Cond.code yX12_restore cX12_restore 2 (some .boolean)) rm_X12_restore D cI [.ref h_t] (w_X12_restore h_t r_t F_t cI a_rows a_seenWord a_seenNumber a_refused) Rr.1 (w_X12_restore h_t r_t Rr.2.1 cI Rr.2.2.1 Rr.2.2.2.1 Rr.2.2.2.2.1 Rr.2.2.2.2.2) := by
  refine z_begin_z (own := RX12) (ρ := Int32 × (Nat → Int32) × (Nat → Int32) × (Nat → Int32) × (Nat → Int32) × (Nat → Int32)) (fun u => w_X12_restore h_t r_t u.2.1 cI u.2.2.1 u.2.2.2.1 u.2.2.2.2.1 u.2.2.2.2.2) (fun u => u.1) (by decide +kernel) rfl (Nat.le_of_ble_eq_true rfl) ?_
  intro p e s m args below meth c ls Q A hx hb hml hts hcx hown hK hA hP hD hS hl hret
  have hl : lv_has ls 2 [(0, .ref h_t)] := hl
  have hf := (m_X12_restore.eq_1 _ _ _ _ _).symm.trans hf
  have L108 : ∀ (n108 : Nat) (x1 : Int32) (F_t : Nat → Int32) (a_rows : Nat → Int32) (a_seenWord : Nat → Int32) (a_seenNumber : Nat → Int32) (a_refused : Nat → Int32) (H : Heap) (locs : List Loc) (ls : Array Slot), m_X12_restore_w108 n108 x1 F_t a_rows a_seenWord a_seenNumber a_refused = some Rr → va_P D vwCl (w_X12_restore h_t r_t F_t cI a_rows a_seenWord a_seenNumber a_refused) H → va_D A (w_X12_restore h_t r_t F_t cI a_rows a_seenWord a_seenNumber a_refused) → va_S A s.heap H locs → lv_has ls 2 [(0, .ref h_t), (1, .int x1)] → W p l e rm_X12_restore s m args below meth c H locs 0 0 Q (F0 m 108 ls []) := by
    intro n108
    induction n108 with
    | zero => intro x1 F_t a_rows a_seenWord a_seenNumber a_refused H locs ls hf; cases (show (none : Option _) = some Rr from hf)
    | succ n108 ih108 =>
      intro x1 F_t a_rows a_seenWord a_seenNumber a_refused H locs ls hf hP hD hS hl
      have hf := (m_X12_restore_w108.eq_2 _ _ _ _ _ _ _).symm.trans hf
      refine lv_iload_n hx hb dX12_restore_108 rfl (lv_at hl 1 rfl) ?_
      refine lv_iconst (v := 3) hx hb dX12_restore_109 (by decide) ?_
      refine z_icmp_ge (tgt := 133) hx hb dX12_restore_110 (by decide) hf (fun hf => ?_) (fun hf => ?_)
      · refine lv_iconst (v := 1) hx hb dX12_restore_133 (by decide) ?_
        exact hret (1, F_t, a_rows, a_seenWord, a_seenNumber, a_refused) _ _ _ _ (Or.inr rfl) hf hP hD hS dX12_restore_134
      · refine lv_aload_n hx hb dX12_restore_113 rfl (lv_at hl 0 rfl) ?_
        refine z_get (ci := 12) (C := RX12) (T := TX12) (N := 51) (v := .ref (r_t 3)) hx hb hts inT_X12 hown hK hP 0 rfl rfl 3 (by decide) tf_X12_20 rfl dX12_restore_114 ?_
        refine lv_iload_n hx hb dX12_restore_117 rfl (lv_at hl 1 rfl) ?_
        refine lv_aload_n hx hb dX12_restore_118 rfl (lv_at hl 0 rfl) ?_
        refine z_get (ci := 12) (C := RX12) (T := TX12) (N := 51) (v := .ref (r_t 3)) hx hb hts inT_X12 hown hK hP 0 rfl rfl 3 (by decide) tf_X12_20 rfl dX12_restore_119 ?_
        refine lv_iconst (v := 3) hx hb dX12_restore_122 (by decide) ?_
        refine lv_iload_n hx hb dX12_restore_123 rfl (lv_at hl 1 rfl) ?_
        refine lv_iadd hx hb dX12_restore_124 ?_
        refine z_iald hx hb hK hP 4 rfl dX12_restore_125 hf (fun y7 hf => ?_)
        refine z_iast hx hb hK hP hD hS 4 rfl (fun z => w_X12_restore h_t r_t F_t cI a_rows a_seenWord a_seenNumber z) (fun _ => rfl) dX12_restore_126 hf (fun a8 H locs hf hP hD hS => ?_)
        refine z_iinc (k0 := 1) (fun z => [(1, .int z), (0, .ref h_t)]) hx hb dX12_restore_127 hl rfl (by decide) (by decide) (fun _ => rfl) hf (fun v9 ls hf hl => ?_)
        refine lv_goto (tgt := 108) hx hb dX12_restore_130 (by decide) ?_
        exact ih108 v9 F_t a_rows a_seenWord a_seenNumber a8 _ _ _ hf hP hD hS (lv_sub hl [1, 0] rfl)
  have L106 : ∀ (F_t : Nat → Int32) (a_rows : Nat → Int32) (a_seenWord : Nat → Int32) (a_seenNumber : Nat → Int32) (a_refused : Nat → Int32) (H : Heap) (locs : List Loc) (ls : Array Slot), m_X12_restore_j106 F_t a_rows a_seenWord a_seenNumber a_refused = some Rr → va_P D vwCl (w_X12_restore h_t r_t F_t cI a_rows a_seenWord a_seenNumber a_refused) H → va_D A (w_X12_restore h_t r_t F_t cI a_rows a_seenWord a_seenNumber a_refused) → va_S A s.heap H locs → lv_has ls 2 [(0, .ref h_t)] → W p l e rm_X12_restore s m args below meth c H locs 0 0 Q (F0 m 106 ls []) := by
    intro F_t a_rows a_seenWord a_seenNumber a_refused H locs ls hf hP hD hS hl
    have hf := (m_X12_restore_j106.eq_1 _ _ _ _ _).symm.trans hf
    refine lv_iconst (v := 0) hx hb dX12_restore_106 (by decide) ?_
    refine lv_istore_n (lv' := [(1, .int 0), (0, .ref h_t)]) hx hb dX12_restore_107 rfl hl (by decide) rfl (fun ls hl => ?_)
    exact L108 fuelN 0 F_t a_rows a_seenWord a_seenNumber a_refused _ _ _ hf hP hD hS (lv_sub hl [1, 0] rfl)
  have L64 : ∀ (n64 : Nat) (x1 : Int32) (F_t : Nat → Int32) (a_rows : Nat → Int32) (a_seenWord : Nat → Int32) (a_seenNumber : Nat → Int32) (a_refused : Nat → Int32) (H : Heap) (locs : List Loc) (ls : Array Slot), m_X12_restore_w64 m_X12_restore_j106 n64 x1 F_t a_rows a_seenWord a_seenNumber a_refused = some Rr → va_P D vwCl (w_X12_restore h_t r_t F_t cI a_rows a_seenWord a_seenNumber a_refused) H → va_D A (w_X12_restore h_t r_t F_t cI a_rows a_seenWord a_seenNumber a_refused) → va_S A s.heap H locs → lv_has ls 2 [(0, .ref h_t), (1, .int x1)] → W p l e rm_X12_restore s m args below meth c H locs 0 0 Q (F0 m 64 ls []) := by
    intro n64
    induction n64 with
    | zero => intro x1 F_t a_rows a_seenWord a_seenNumber a_refused H locs ls hf; cases (show (none : Option _) = some Rr from hf)
    | succ n64 ih64 =>
      intro x1 F_t a_rows a_seenWord a_seenNumber a_refused H locs ls hf hP hD hS hl
      have hf := (m_X12_restore_w64.eq_2 _ _ _ _ _ _ _ _).symm.trans hf
      refine lv_iload_n hx hb dX12_restore_64 rfl (lv_at hl 1 rfl) ?_
      refine lv_bipush (v := 8) hx hb dX12_restore_65 (by decide) ?_
      refine z_icmp_ge (tgt := 106) hx hb dX12_restore_67 (by decide) hf (fun hf => ?_) (fun hf => ?_)
      · exact L106 F_t a_rows a_seenWord a_seenNumber a_refused _ _ _ hf hP hD hS (lv_sub hl [0] rfl)
      · refine lv_aload_n hx hb dX12_restore_70 rfl (lv_at hl 0 rfl) ?_
        refine z_get (ci := 12) (C := RX12) (T := TX12) (N := 51) (v := .ref (r_t 1)) hx hb hts inT_X12 hown hK hP 0 rfl rfl 1 (by decide) tf_X12_14 rfl dX12_restore_71 ?_
        refine lv_iload_n hx hb dX12_restore_74 rfl (lv_at hl 1 rfl) ?_
        refine lv_aload_n hx hb dX12_restore_75 rfl (lv_at hl 0 rfl) ?_
        refine z_get (ci := 12) (C := RX12) (T := TX12) (N := 51) (v := .ref (r_t 1)) hx hb hts inT_X12 hown hK hP 0 rfl rfl 1 (by decide) tf_X12_14 rfl dX12_restore_76 ?_
        refine lv_bipush (v := 8) hx hb dX12_restore_79 (by decide) ?_
        refine lv_iload_n hx hb dX12_restore_81 rfl (lv_at hl 1 rfl) ?_
        refine lv_iadd hx hb dX12_restore_82 ?_
        refine z_iald hx hb hK hP 2 rfl dX12_restore_83 hf (fun y10 hf => ?_)
        refine z_iast hx hb hK hP hD hS 2 rfl (fun z => w_X12_restore h_t r_t F_t cI a_rows z a_seenNumber a_refused) (fun _ => rfl) dX12_restore_84 hf (fun a11 H locs hf hP hD hS => ?_)
        refine lv_aload_n hx hb dX12_restore_85 rfl (lv_at hl 0 rfl) ?_
        refine z_get (ci := 12) (C := RX12) (T := TX12) (N := 51) (v := .ref (r_t 2)) hx hb hts inT_X12 hown hK hP 0 rfl rfl 2 (by decide) tf_X12_17 rfl dX12_restore_86 ?_
        refine lv_iload_n hx hb dX12_restore_89 rfl (lv_at hl 1 rfl) ?_
        refine lv_aload_n hx hb dX12_restore_90 rfl (lv_at hl 0 rfl) ?_
        refine z_get (ci := 12) (C := RX12) (T := TX12) (N := 51) (v := .ref (r_t 2)) hx hb hts inT_X12 hown hK hP 0 rfl rfl 2 (by decide) tf_X12_17 rfl dX12_restore_91 ?_
        refine lv_bipush (v := 8) hx hb dX12_restore_94 (by decide) ?_
        refine lv_iload_n hx hb dX12_restore_96 rfl (lv_at hl 1 rfl) ?_
        refine lv_iadd hx hb dX12_restore_97 ?_
        refine z_iald hx hb hK hP 3 rfl dX12_restore_98 hf (fun y12 hf => ?_)
        refine z_iast hx hb hK hP hD hS 3 rfl (fun z => w_X12_restore h_t r_t F_t cI a_rows a11 z a_refused) (fun _ => rfl) dX12_restore_99 hf (fun a13 H locs hf hP hD hS => ?_)
        refine z_iinc (k0 := 1) (fun z => [(1, .int z), (0, .ref h_t)]) hx hb dX12_restore_100 hl rfl (by decide) (by decide) (fun _ => rfl) hf (fun v14 ls hf hl => ?_)
        refine lv_goto (tgt := 64) hx hb dX12_restore_103 (by decide) ?_
        exact ih64 v14 F_t a_rows a11 a13 a_refused _ _ _ hf hP hD hS (lv_sub hl [1, 0] rfl)
  refine lv_aload_n hx hb dX12_restore_0 rfl (lv_at hl 0 rfl) ?_
  refine lv_iconst (v := 0) hx hb dX12_restore_1 (by decide) ?_
  refine z_put (ci := 12) (C := RX12) (T := TX12) (N := 51) hx hb hts inT_X12 tyX12 tyX12_ok nmX12 hown hK hP hD hS 0 rfl rfl 4 (by decide) tf_X12_63 rfl (by decide +kernel) (Nat.le_of_ble_eq_true rfl) (o_X12 r_t) (o_X12_s4 _ _ _) (fun z => w_X12_restore h_t r_t z cI a_rows a_seenWord a_seenNumber a_refused) (fun _ => rfl) dX12_restore_2 hf (fun F1 H locs hf hP hD hS => ?_)
  refine lv_aload_n hx hb dX12_restore_5 rfl (lv_at hl 0 rfl) ?_
  refine z_get (ci := 12) (C := RX12) (T := TX12) (N := 51) (v := .int (F1 11)) hx hb hts inT_X12 hown hK hP 0 rfl rfl 11 (by decide) tf_X12_327 rfl dX12_restore_6 ?_
  refine z_if_ne (tgt := 14) hx hb dX12_restore_9 (by decide) hf (fun hf => ?_) (fun hf => ?_)
  · refine lv_aload_n hx hb dX12_restore_14 rfl (lv_at hl 0 rfl) ?_
    refine lv_ldcw hx hb hown (hts _ tk_X12_416) dX12_restore_15 ?_
    refine lv_iconst (v := 0) hx hb dX12_restore_18 (by decide) ?_
    refine lv_sipush (v := 786) hx hb dX12_restore_19 (by decide) ?_
    obtain ⟨u2, hu2, hf⟩ := bd_some hf
    refine z_cv (ws1 := w_X12_restore h_t r_t F1 cI u2 a_seenWord a_seenNumber a_refused) (wr := List.filterMap (fun i : Nat => (w_X12_restore h_t r_t F1 cI a_rows a_seenWord a_seenNumber a_refused)[i]?) [2, 3, 4]) (z_rV (rest := []) hx hb hml hown hcx hl.1 (c_X12_copies l D cI h_t r_t F1 a_rows 33798 0 786 u2 hu2 _) tl_X12_224 ti_X12_copies tz_X12_copies tn_X12 tc_X12_copies tm_X12_copies rfl rfl ⟨Nat.le_of_ble_eq_true rfl, Nat.le_of_ble_eq_true rfl⟩ hK hP hD [0, 1] rfl rfl 0 rfl rfl rfl rfl (Nat.le_of_ble_eq_true rfl) dX12_restore_22 ⟨Nat.zero_le _, Nat.zero_le _⟩) hP hD hS hA [0, 1] [2, 3, 4] [3, 4, 0, 1, 2] rfl rfl rfl (by decide) rfl rfl (fun H locs hP hD hS => ?_)
    refine lv_aload_n hx hb dX12_restore_25 rfl (lv_at hl 0 rfl) ?_
    refine lv_ldcw hx hb hown (hts _ tk_X12_417) dX12_restore_26 ?_
    refine lv_sipush (v := 2358) hx hb dX12_restore_29 (by decide) ?_
    refine lv_sipush (v := 31440) hx hb dX12_restore_32 (by decide) ?_
    obtain ⟨u3, hu3, hf⟩ := bd_some hf
    refine z_cv (ws1 := w_X12_restore h_t r_t F1 cI u3 a_seenWord a_seenNumber a_refused) (wr := List.filterMap (fun i : Nat => (w_X12_restore h_t r_t F1 cI u2 a_seenWord a_seenNumber a_refused)[i]?) [2, 3, 4]) (z_rV (rest := []) hx hb hml hown hcx hl.1 (c_X12_copies l D cI h_t r_t F1 u2 34584 2358 31440 u3 hu3 _) tl_X12_224 ti_X12_copies tz_X12_copies tn_X12 tc_X12_copies tm_X12_copies rfl rfl ⟨Nat.le_of_ble_eq_true rfl, Nat.le_of_ble_eq_true rfl⟩ hK hP hD [0, 1] rfl rfl 0 rfl rfl rfl rfl (Nat.le_of_ble_eq_true rfl) dX12_restore_35 ⟨Nat.zero_le _, Nat.zero_le _⟩) hP hD hS hA [0, 1] [2, 3, 4] [3, 4, 0, 1, 2] rfl rfl rfl (by decide) rfl rfl (fun H locs hP hD hS => ?_)
    refine lv_aload_n hx hb dX12_restore_38 rfl (lv_at hl 0 rfl) ?_
    refine lv_aload_n hx hb dX12_restore_39 rfl (lv_at hl 0 rfl) ?_
    refine z_get (ci := 12) (C := RX12) (T := TX12) (N := 51) (v := .int (F1 8)) hx hb hts inT_X12 hown hK hP 0 rfl rfl 8 (by decide) tf_X12_418 rfl dX12_restore_40 ?_
    refine z_put (ci := 12) (C := RX12) (T := TX12) (N := 51) hx hb hts inT_X12 tyX12 tyX12_ok nmX12 hown hK hP hD hS 0 rfl rfl 5 (by decide) tf_X12_336 rfl (by decide +kernel) (Nat.le_of_ble_eq_true rfl) (o_X12 r_t) (o_X12_s5 _ _ _) (fun z => w_X12_restore h_t r_t z cI u3 a_seenWord a_seenNumber a_refused) (fun _ => rfl) dX12_restore_43 hf (fun F4 H locs hf hP hD hS => ?_)
    refine lv_aload_n hx hb dX12_restore_46 rfl (lv_at hl 0 rfl) ?_
    refine lv_aload_n hx hb dX12_restore_47 rfl (lv_at hl 0 rfl) ?_
    refine z_get (ci := 12) (C := RX12) (T := TX12) (N := 51) (v := .int (F4 9)) hx hb hts inT_X12 hown hK hP 0 rfl rfl 9 (by decide) tf_X12_421 rfl dX12_restore_48 ?_
    refine z_put (ci := 12) (C := RX12) (T := TX12) (N := 51) hx hb hts inT_X12 tyX12 tyX12_ok nmX12 hown hK hP hD hS 0 rfl rfl 6 (by decide) tf_X12_333 rfl (by decide +kernel) (Nat.le_of_ble_eq_true rfl) (o_X12 r_t) (o_X12_s6 _ _ _) (fun z => w_X12_restore h_t r_t z cI u3 a_seenWord a_seenNumber a_refused) (fun _ => rfl) dX12_restore_51 hf (fun F5 H locs hf hP hD hS => ?_)
    refine lv_aload_n hx hb dX12_restore_54 rfl (lv_at hl 0 rfl) ?_
    refine lv_aload_n hx hb dX12_restore_55 rfl (lv_at hl 0 rfl) ?_
    refine z_get (ci := 12) (C := RX12) (T := TX12) (N := 51) (v := .int (F5 10)) hx hb hts inT_X12 hown hK hP 0 rfl rfl 10 (by decide) tf_X12_424 rfl dX12_restore_56 ?_
    refine z_put (ci := 12) (C := RX12) (T := TX12) (N := 51) hx hb hts inT_X12 tyX12 tyX12_ok nmX12 hown hK hP hD hS 0 rfl rfl 7 (by decide) tf_X12_330 rfl (by decide +kernel) (Nat.le_of_ble_eq_true rfl) (o_X12 r_t) (o_X12_s7 _ _ _) (fun z => w_X12_restore h_t r_t z cI u3 a_seenWord a_seenNumber a_refused) (fun _ => rfl) dX12_restore_59 hf (fun F6 H locs hf hP hD hS => ?_)
    refine lv_iconst (v := 0) hx hb dX12_restore_62 (by decide) ?_
    refine lv_istore_n (lv' := [(1, .int 0), (0, .ref h_t)]) hx hb dX12_restore_63 rfl hl (by decide) rfl (fun ls hl => ?_)
    exact L64 fuelN 0 F6 u3 a_seenWord a_seenNumber a_refused _ _ _ hf hP hD hS (lv_sub hl [1, 0] rfl)
  · refine lv_iconst (v := 0) hx hb dX12_restore_12 (by decide) ?_
    exact hret (0, F1, a_rows, a_seenWord, a_seenNumber, a_refused) _ _ _ _ (Or.inl rfl) hf hP hD hS dX12_restore_13
