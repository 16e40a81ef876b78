abbrev w_X12_chance (h_t : Nat) (r_t : Nat → Nat) (F_t : Nat → Int32) (cI : ClassId) (a_rows : Nat → Int32) (a_memory : Nat → Int32) (a_order : Nat → Int32) (a_image : Nat → Int32) (a_well : Nat → Int32) : va_W := [(h_t, .inr (12, o_X12 r_t F_t)), ((r_t 0), .inl (cI, 66100, .inl a_rows)), ((r_t 23), .inl (cI, 64, .inl a_memory)), ((r_t 24), .inl (cI, 16, .inl a_order)), ((r_t 25), .inl (cI, 64, .inl a_image)), ((r_t 26), .inl (cI, 88, .inl a_well))]
abbrev rm_X12_chance : Room := { frames := 3, cells := 0, slots := 0, locals := 70 }
def m_X12_chance_j104 (a_rows : Nat → Int32) (p1 : Int32) (x2 : Int64) (x4 : Int32) (s0 : Int32) (F_t : Nat → Int32) (a_memory : Nat → Int32) (a_order : Nat → Int32) (a_image : Nat → Int32) (a_well : Nat → Int32) : Option (Int32 × (Nat → Int32) × (Nat → Int32) × (Nat → Int32) × (Nat → Int32) × (Nat → Int32)) :=
  bd (m_X12_divisor x4 x2.toInt32) fun u7 =>
  dz u7 (
  some ((s0 / u7), F_t, a_memory, a_order, a_image, a_well))
def m_X12_chance_j93 (a_rows : Nat → Int32) (p1 : Int32) (x2 : Int64) (x4 : Int32) (F_t : Nat → Int32) (a_memory : Nat → Int32) (a_order : Nat → Int32) (a_image : Nat → Int32) (a_well : Nat → Int32) : Option (Int32 × (Nat → Int32) × (Nat → Int32) × (Nat → Int32) × (Nat → Int32) × (Nat → Int32)) :=
  if p1 = 0 then (
  m_X12_chance_j104 a_rows p1 x2 x4 x4 F_t a_memory a_order a_image a_well)
  else (
  m_X12_chance_j104 a_rows p1 x2 x4 x2.toInt32 F_t a_memory a_order a_image a_well)
def m_X12_chance_j82 (a_rows : Nat → Int32) (p1 : Int32) (k52 : Int64 → Int32 → Int32 → (Nat → Int32) → (Nat → Int32) → (Nat → Int32) → (Nat → Int32) → (Nat → Int32) → Option (Int32 × (Nat → Int32) × (Nat → Int32) × (Nat → Int32) × (Nat → Int32) × (Nat → Int32))) (x2 : Int64) (x4 : Int32) (x5 : Int32) (F_t : Nat → Int32) (a_memory : Nat → Int32) (a_order : Nat → Int32) (a_image : Nat → Int32) (a_well : Nat → Int32) : Option (Int32 × (Nat → Int32) × (Nat → Int32) × (Nat → Int32) × (Nat → Int32) × (Nat → Int32)) :=
  bd (m_X12_nextOrder a_rows a_order 0) fun u10 =>
  nm (x5 + 1) fun v11 =>
  k52 x2 x4 v11 F_t a_memory u10 a_image a_well
def m_X12_chance_j79 (a_rows : Nat → Int32) (p1 : Int32) (k52 : Int64 → Int32 → Int32 → (Nat → Int32) → (Nat → Int32) → (Nat → Int32) → (Nat → Int32) → (Nat → Int32) → Option (Int32 × (Nat → Int32) × (Nat → Int32) × (Nat → Int32) × (Nat → Int32) × (Nat → Int32))) (x2 : Int64) (x4 : Int32) (x5 : Int32) (F_t : Nat → Int32) (a_memory : Nat → Int32) (a_order : Nat → Int32) (a_image : Nat → Int32) (a_well : Nat → Int32) : Option (Int32 × (Nat → Int32) × (Nat → Int32) × (Nat → Int32) × (Nat → Int32) × (Nat → Int32)) :=
  nm (x4 + 1) fun v9 =>
  m_X12_chance_j82 a_rows p1 k52 x2 v9 x5 F_t a_memory a_order a_image a_well
def m_X12_chance_w52 (a_rows : Nat → Int32) (p1 : Int32) (k93 : Int64 → Int32 → (Nat → Int32) → (Nat → Int32) → (Nat → Int32) → (Nat → Int32) → (Nat → Int32) → Option (Int32 × (Nat → Int32) × (Nat → Int32) × (Nat → Int32) × (Nat → Int32) × (Nat → Int32))) : Nat → Int64 → Int32 → Int32 → (Nat → Int32) → (Nat → Int32) → (Nat → Int32) → (Nat → Int32) → (Nat → Int32) → Option (Int32 × (Nat → Int32) × (Nat → Int32) × (Nat → Int32) × (Nat → Int32) × (Nat → Int32))
  | 0, _, _, _, _, _, _, _, _ => none
  | n52 + 1, x2, x4, x5, F_t, a_memory, a_order, a_image, a_well =>
    if 0 ≤ (lg_cmp x5.toInt64 x2) then (
    k93 x2 x4 F_t a_memory a_order a_image a_well)
    else (
    bd (m_X12_fateHere F_t a_rows a_order a_image a_well 0) fun u8 =>
    if u8.1 = 1 then (
    m_X12_chance_j79 a_rows p1 (m_X12_chance_w52 a_rows p1 k93 n52) x2 x4 x5 F_t a_memory a_order u8.2 a_well)
    else (
    if u8.1 = 2 then (
    m_X12_chance_j79 a_rows p1 (m_X12_chance_w52 a_rows p1 k93 n52) x2 x4 x5 F_t a_memory a_order u8.2 a_well)
    else (
    m_X12_chance_j82 a_rows p1 (m_X12_chance_w52 a_rows p1 k93 n52) x2 x4 x5 F_t a_memory a_order u8.2 a_well)))
def m_X12_chance (F_t : Nat → Int32) (a_rows : Nat → Int32) (a_memory : Nat → Int32) (a_order : Nat → Int32) (a_image : Nat → Int32) (a_well : Nat → Int32) (p1 : Int32) : Option (Int32 × (Nat → Int32) × (Nat → Int32) × (Nat → Int32) × (Nat → Int32) × (Nat → Int32)) :=
  nm (upd F_t 4 0) fun F1 =>
  bd (m_X12_within p1 0 1) fun u2 =>
  bd (m_X12_right F1 u2 1) fun u3 =>
  if u3.1 = 0 then (
  some (0, u3.2, a_memory, a_order, a_image, a_well))
  else (
  bd (m_X12_ordersOf a_rows 0) fun u4 =>
  if (lg_cmp u4 2000) ≤ 0 then (
  bd (m_X12_laysWell u3.2 a_rows a_memory a_well 0) fun u5 =>
  bd (m_X12_firstOrder a_order) fun u6 =>
  m_X12_chance_w52 a_rows p1 (m_X12_chance_j93 a_rows p1) fuelN u4 0 0 u5.1 u5.2.1 u6 a_image u5.2.2)
  else (
  some ((-1), u3.2, a_memory, a_order, a_image, a_well)))
set_option maxHeartbeats 4000000 in
set_option maxRecDepth 100000 in
theorem c_X12_chance (l : Launch) (D : va_G) (cI : ClassId) (h_t : Nat) (r_t : Nat → Nat) (F_t : Nat → Int32) (a_rows : Nat → Int32) (a_memory : Nat → Int32) (a_order : Nat → Int32) (a_image : Nat → Int32) (a_well : Nat → Int32) (p1 : Int32) (Rr : Int32 × (Nat → Int32) × (Nat → Int32) × (Nat → Int32) × (Nat → Int32) × (Nat → Int32)) (hf : m_X12_chance F_t a_rows a_memory a_order a_image a_well p1 = some Rr) : CTi l yX12_chance (Cond.code yX12_chance cX12_chance 7 (some .int)) rm_X12_chance D cI [.ref h_t, .int p1] (w_X12_chance h_t r_t F_t cI a_rows a_memory a_order a_image a_well) Rr.1 (w_X12_chance h_t r_t Rr.2.1 cI a_rows Rr.2.2.1 Rr.2.2.2.1 Rr.2.2.2.2.1 Rr.2.2.2.2.2) := by
  refine z_begin_i (own := RX12) (ρ := Int32 × (Nat → Int32) × (Nat → Int32) × (Nat → Int32) × (Nat → Int32) × (Nat → Int32)) (fun u => w_X12_chance h_t r_t u.2.1 cI a_rows u.2.2.1 u.2.2.2.1 u.2.2.2.2.1 u.2.2.2.2.2) (fun u => u.1) (by decide +kernel) rfl (Nat.le_of_ble_eq_true rfl) ?_
  intro p e s m args below meth c ls Q A hx hb hml hts hcx hown hK hX hA hP hD hS hl hret
  have hl : lv_has ls 7 [(0, .ref h_t), (1, .int p1)] := hl
  have hf := (m_X12_chance.eq_1 _ _ _ _ _ _ _).symm.trans hf
  have L104 : ∀ (x2 : Int64) (x4 : Int32) (s0 : Int32) (F_t : Nat → Int32) (a_memory : Nat → Int32) (a_order : Nat → Int32) (a_image : Nat → Int32) (a_well : Nat → Int32) (H : Heap) (locs : List Loc) (ls : Array Slot), m_X12_chance_j104 a_rows p1 x2 x4 s0 F_t a_memory a_order a_image a_well = some Rr → va_P D vwCl (w_X12_chance h_t r_t F_t cI a_rows a_memory a_order a_image a_well) H → va_D A (w_X12_chance h_t r_t F_t cI a_rows a_memory a_order a_image a_well) → va_S A s.heap H locs → lv_has ls 7 [(2, .long x2), (4, .int x4)] → W p l e rm_X12_chance s m args below meth c H locs 0 0 Q (F0 m 104 ls [.int s0]) := by
    intro x2 x4 s0 F_t a_memory a_order a_image a_well H locs ls hf hP hD hS hl
    have hf := (m_X12_chance_j104.eq_1 _ _ _ _ _ _ _ _ _ _).symm.trans hf
    refine lv_iload hx hb dX12_chance_104 (lv_at hl 1 rfl) ?_
    refine lv_lload_n hx hb dX12_chance_106 rfl (lv_at hl 0 rfl) ?_
    refine lv_l2i hx hb dX12_chance_107 rfl ?_
    obtain ⟨u7, hu7, hf⟩ := bd_some hf
    refine z_ci (ws1 := w_X12_chance h_t r_t F_t cI a_rows a_memory a_order a_image a_well) (wr := List.filterMap (fun i : Nat => (w_X12_chance h_t r_t F_t cI a_rows a_memory a_order a_image a_well)[i]?) [0, 1, 2, 3, 4, 5]) (z_rS (rest := [.int s0]) hx hb hml hown hcx hl.1 (c_X12_divisor l D cI x4 x2.toInt32 u7 hu7 _) tl_X12_382 ts_X12_divisor tn_X12 tc_X12_divisor tm_X12_divisor rfl rfl ⟨Nat.le_of_ble_eq_true rfl, Nat.le_of_ble_eq_true rfl⟩ hK hX hS hA hP hD [] rfl rfl rfl rfl (Nat.le_of_ble_eq_true rfl) dX12_chance_108 ⟨Nat.zero_le _, Nat.zero_le _⟩) hP hD hS hA [] [0, 1, 2, 3, 4, 5] [0, 1, 2, 3, 4, 5] rfl rfl rfl (by decide) rfl rfl (fun H locs hP hD hS => ?_)
    refine z_idiv hx hb dX12_chance_111 hf (fun hf => ?_)
    exact hret ((s0 / u7), F_t, a_memory, a_order, a_image, a_well) _ _ _ _ hf hP hD hS dX12_chance_112
  have L93 : ∀ (x2 : Int64) (x4 : Int32) (F_t : Nat → Int32) (a_memory : Nat → Int32) (a_order : Nat → Int32) (a_image : Nat → Int32) (a_well : Nat → Int32) (H : Heap) (locs : List Loc) (ls : Array Slot), m_X12_chance_j93 a_rows p1 x2 x4 F_t a_memory a_order a_image a_well = some Rr → va_P D vwCl (w_X12_chance h_t r_t F_t cI a_rows a_memory a_order a_image a_well) H → va_D A (w_X12_chance h_t r_t F_t cI a_rows a_memory a_order a_image a_well) → va_S A s.heap H locs → lv_has ls 7 [(1, .int p1), (2, .long x2), (4, .int x4)] → W p l e rm_X12_chance s m args below meth c H locs 0 0 Q (F0 m 93 ls []) := by
    intro x2 x4 F_t a_memory a_order a_image a_well H locs ls hf hP hD hS hl
    have hf := (m_X12_chance_j93.eq_1 _ _ _ _ _ _ _ _ _).symm.trans hf
    refine lv_iload_n hx hb dX12_chance_93 rfl (lv_at hl 0 rfl) ?_
    refine z_if_ne (tgt := 102) hx hb dX12_chance_94 (by decide) hf (fun hf => ?_) (fun hf => ?_)
    · refine lv_lload_n hx hb dX12_chance_102 rfl (lv_at hl 1 rfl) ?_
      refine lv_l2i hx hb dX12_chance_103 rfl ?_
      exact L104 x2 x4 x2.toInt32 F_t a_memory a_order a_image a_well _ _ _ hf hP hD hS (lv_sub hl [1, 2] rfl)
    · refine lv_iload hx hb dX12_chance_97 (lv_at hl 2 rfl) ?_
      refine lv_goto (tgt := 104) hx hb dX12_chance_99 (by decide) ?_
      exact L104 x2 x4 x4 F_t a_memory a_order a_image a_well _ _ _ hf hP hD hS (lv_sub hl [1, 2] rfl)
  have L52 : ∀ (n52 : Nat) (x2 : Int64) (x4 : Int32) (x5 : Int32) (F_t : Nat → Int32) (a_memory : Nat → Int32) (a_order : Nat → Int32) (a_image : Nat → Int32) (a_well : Nat → Int32) (H : Heap) (locs : List Loc) (ls : Array Slot), m_X12_chance_w52 a_rows p1 (m_X12_chance_j93 a_rows p1) n52 x2 x4 x5 F_t a_memory a_order a_image a_well = some Rr → va_P D vwCl (w_X12_chance h_t r_t F_t cI a_rows a_memory a_order a_image a_well) H → va_D A (w_X12_chance h_t r_t F_t cI a_rows a_memory a_order a_image a_well) → va_S A s.heap H locs → lv_has ls 7 [(0, .ref h_t), (1, .int p1), (2, .long x2), (4, .int x4), (5, .int x5)] → W p l e rm_X12_chance s m args below meth c H locs 0 0 Q (F0 m 52 ls []) := by
    intro n52
    induction n52 with
    | zero => intro x2 x4 x5 F_t a_memory a_order a_image a_well H locs ls hf; cases (show (none : Option _) = some Rr from hf)
    | succ n52 ih52 =>
      intro x2 x4 x5 F_t a_memory a_order a_image a_well H locs ls hf hP hD hS hl
      have hf := (m_X12_chance_w52.eq_2 _ _ _ _ _ _ _ _ _ _ _ _).symm.trans hf
      have L82 : ∀ (x2 : Int64) (x4 : Int32) (x5 : Int32) (F_t : Nat → Int32) (a_memory : Nat → Int32) (a_order : Nat → Int32) (a_image : Nat → Int32) (a_well : Nat → Int32) (H : Heap) (locs : List Loc) (ls : Array Slot), m_X12_chance_j82 a_rows p1 (m_X12_chance_w52 a_rows p1 (m_X12_chance_j93 a_rows p1) n52) x2 x4 x5 F_t a_memory a_order a_image a_well = some Rr → va_P D vwCl (w_X12_chance h_t r_t F_t cI a_rows a_memory a_order a_image a_well) H → va_D A (w_X12_chance h_t r_t F_t cI a_rows a_memory a_order a_image a_well) → va_S A s.heap H locs → lv_has ls 7 [(0, .ref h_t), (1, .int p1), (2, .long x2), (4, .int x4), (5, .int x5)] → W p l e rm_X12_chance s m args below meth c H locs 0 0 Q (F0 m 82 ls []) := by
        intro x2 x4 x5 F_t a_memory a_order a_image a_well H locs ls hf hP hD hS hl
        have hf := (m_X12_chance_j82.eq_1 _ _ _ _ _ _ _ _ _ _ _).symm.trans hf
        refine lv_aload_n hx hb dX12_chance_82 rfl (lv_at hl 0 rfl) ?_
        refine lv_iconst (v := 0) hx hb dX12_chance_83 (by decide) ?_
        obtain ⟨u10, hu10, hf⟩ := bd_some hf
        refine z_cv (ws1 := w_X12_chance h_t r_t F_t cI a_rows a_memory u10 a_image a_well) (wr := List.filterMap (fun i : Nat => (w_X12_chance h_t r_t F_t cI a_rows a_memory a_order a_image a_well)[i]?) [2, 4, 5]) (z_rV (rest := []) hx hb hml hown hcx hl.1 (c_X12_nextOrder l D cI h_t r_t F_t a_rows a_order 0 u10 hu10 _) tl_X12_215 ti_X12_nextOrder tz_X12_nextOrder tn_X12 tc_X12_nextOrder tm_X12_nextOrder rfl rfl ⟨Nat.le_of_ble_eq_true rfl, Nat.le_of_ble_eq_true rfl⟩ hK hX hS hA hP hD [0, 1, 3] rfl rfl 0 rfl rfl rfl rfl (Nat.le_of_ble_eq_true rfl) dX12_chance_84 ⟨Nat.zero_le _, Nat.zero_le _⟩) hP hD hS hA [0, 1, 3] [2, 4, 5] [3, 4, 0, 5, 1, 2] rfl rfl rfl (by decide) rfl rfl (fun H locs hP hD hS => ?_)
        refine z_iinc (k0 := 4) (fun z => [(5, .int z), (0, .ref h_t), (1, .int p1), (2, .long x2), (4, .int x4)]) hx hb dX12_chance_87 hl rfl (by decide) (by decide) (fun _ => rfl) hf (fun v11 ls hf hl => ?_)
        refine lv_goto (tgt := 52) hx hb dX12_chance_90 (by decide) ?_
        exact ih52 x2 x4 v11 F_t a_memory u10 a_image a_well _ _ _ hf hP hD hS (lv_sub hl [1, 2, 3, 4, 0] rfl)
      have L79 : ∀ (x2 : Int64) (x4 : Int32) (x5 : Int32) (F_t : Nat → Int32) (a_memory : Nat → Int32) (a_order : Nat → Int32) (a_image : Nat → Int32) (a_well : Nat → Int32) (H : Heap) (locs : List Loc) (ls : Array Slot), m_X12_chance_j79 a_rows p1 (m_X12_chance_w52 a_rows p1 (m_X12_chance_j93 a_rows p1) n52) x2 x4 x5 F_t a_memory a_order a_image a_well = some Rr → va_P D vwCl (w_X12_chance h_t r_t F_t cI a_rows a_memory a_order a_image a_well) H → va_D A (w_X12_chance h_t r_t F_t cI a_rows a_memory a_order a_image a_well) → va_S A s.heap H locs → lv_has ls 7 [(0, .ref h_t), (1, .int p1), (2, .long x2), (4, .int x4), (5, .int x5)] → W p l e rm_X12_chance s m args below meth c H locs 0 0 Q (F0 m 79 ls []) := by
        intro x2 x4 x5 F_t a_memory a_order a_image a_well H locs ls hf hP hD hS hl
        have hf := (m_X12_chance_j79.eq_1 _ _ _ _ _ _ _ _ _ _ _).symm.trans hf
        refine z_iinc (k0 := 3) (fun z => [(4, .int z), (0, .ref h_t), (1, .int p1), (2, .long x2), (5, .int x5)]) hx hb dX12_chance_79 hl rfl (by decide) (by decide) (fun _ => rfl) hf (fun v9 ls hf hl => ?_)
        exact L82 x2 v9 x5 F_t a_memory a_order a_image a_well _ _ _ hf hP hD hS (lv_sub hl [1, 2, 3, 0, 4] rfl)
      refine lv_iload hx hb dX12_chance_52 (lv_at hl 4 rfl) ?_
      refine lv_i2l hx hb dX12_chance_54 rfl ?_
      refine lv_lload_n hx hb dX12_chance_55 rfl (lv_at hl 2 rfl) ?_
      refine W.lcmp hx hb dX12_chance_56 ?_
      refine z_if_ge (tgt := 93) hx hb dX12_chance_57 (by decide) hf (fun hf => ?_) (fun hf => ?_)
      · exact L93 x2 x4 F_t a_memory a_order a_image a_well _ _ _ hf hP hD hS (lv_sub hl [1, 2, 3] rfl)
      · refine lv_aload_n hx hb dX12_chance_60 rfl (lv_at hl 0 rfl) ?_
        refine lv_iconst (v := 0) hx hb dX12_chance_61 (by decide) ?_
        obtain ⟨u8, hu8, hf⟩ := bd_some hf
        refine z_ci (ws1 := w_X12_chance h_t r_t F_t cI a_rows a_memory a_order u8.2 a_well) (wr := List.filterMap (fun i : Nat => (w_X12_chance h_t r_t F_t cI a_rows a_memory a_order a_image a_well)[i]?) [2]) (z_rV (rest := []) hx hb hml hown hcx hl.1 (c_X12_fateHere l D cI h_t r_t F_t a_rows a_order a_image a_well 0 u8 hu8 _) tl_X12_203 ti_X12_fateHere tz_X12_fateHere tn_X12 tc_X12_fateHere tm_X12_fateHere rfl rfl ⟨Nat.le_of_ble_eq_true rfl, Nat.le_of_ble_eq_true rfl⟩ hK hX hS hA hP hD [0, 1, 3, 4, 5] rfl rfl 0 rfl rfl rfl rfl (Nat.le_of_ble_eq_true rfl) dX12_chance_62 ⟨Nat.zero_le _, Nat.zero_le _⟩) hP hD hS hA [0, 1, 3, 4, 5] [2] [1, 2, 0, 3, 4, 5] rfl rfl rfl (by decide) rfl rfl (fun H locs hP hD hS => ?_)
        refine lv_istore (lv' := [(6, .int u8.1), (0, .ref h_t), (1, .int p1), (2, .long x2), (4, .int x4), (5, .int x5)]) hx hb dX12_chance_65 hl (by decide) rfl (fun ls hl => ?_)
        refine lv_iload hx hb dX12_chance_67 (lv_at hl 0 rfl) ?_
        refine lv_iconst (v := 1) hx hb dX12_chance_69 (by decide) ?_
        refine z_icmp_eq (tgt := 79) hx hb dX12_chance_70 (by decide) hf (fun hf => ?_) (fun hf => ?_)
        · exact L79 x2 x4 x5 F_t a_memory a_order u8.2 a_well _ _ _ hf hP hD hS (lv_sub hl [1, 2, 3, 4, 5] rfl)
        · refine lv_iload hx hb dX12_chance_73 (lv_at hl 0 rfl) ?_
          refine lv_iconst (v := 2) hx hb dX12_chance_75 (by decide) ?_
          refine z_icmp_ne (tgt := 82) hx hb dX12_chance_76 (by decide) hf (fun hf => ?_) (fun hf => ?_)
          · exact L82 x2 x4 x5 F_t a_memory a_order u8.2 a_well _ _ _ hf hP hD hS (lv_sub hl [1, 2, 3, 4, 5] rfl)
          · exact L79 x2 x4 x5 F_t a_memory a_order u8.2 a_well _ _ _ hf hP hD hS (lv_sub hl [1, 2, 3, 4, 5] rfl)
  refine lv_aload_n hx hb dX12_chance_0 rfl (lv_at hl 0 rfl) ?_
  refine lv_iconst (v := 0) hx hb dX12_chance_1 (by decide) ?_
  refine z_put (ci := 12) (C := RX12) (T := TX12) (N := 51) hx hb hts inT_X12 tyX12 tyX12_ok nmX12 hown hK hP hD hS 0 rfl rfl 4 (by decide) tf_X12_63 rfl (by decide +kernel) (Nat.le_of_ble_eq_true rfl) (o_X12 r_t) (o_X12_s4 _ _ _) (fun z => w_X12_chance h_t r_t z cI a_rows a_memory a_order a_image a_well) (fun _ => rfl) dX12_chance_2 hf (fun F1 H locs hf hP hD hS => ?_)
  refine lv_aload_n hx hb dX12_chance_5 rfl (lv_at hl 0 rfl) ?_
  refine lv_iload_n hx hb dX12_chance_6 rfl (lv_at hl 1 rfl) ?_
  refine lv_iconst (v := 0) hx hb dX12_chance_7 (by decide) ?_
  refine lv_iconst (v := 1) hx hb dX12_chance_8 (by decide) ?_
  obtain ⟨u2, hu2, hf⟩ := bd_some hf
  refine z_ci (ws1 := w_X12_chance h_t r_t F1 cI a_rows a_memory a_order a_image a_well) (wr := List.filterMap (fun i : Nat => (w_X12_chance h_t r_t F1 cI a_rows a_memory a_order a_image a_well)[i]?) [0, 1, 2, 3, 4, 5]) (z_rS (rest := [.ref h_t]) hx hb hml hown hcx hl.1 (c_X12_within l D cI p1 0 1 u2 hu2 _) tl_X12_172 ts_X12_within tn_X12 tc_X12_within tm_X12_within rfl rfl ⟨Nat.le_of_ble_eq_true rfl, Nat.le_of_ble_eq_true rfl⟩ hK hX hS hA hP hD [] rfl rfl rfl rfl (Nat.le_of_ble_eq_true rfl) dX12_chance_9 ⟨Nat.zero_le _, Nat.zero_le _⟩) hP hD hS hA [] [0, 1, 2, 3, 4, 5] [0, 1, 2, 3, 4, 5] rfl rfl rfl (by decide) rfl rfl (fun H locs hP hD hS => ?_)
  refine lv_iconst (v := 1) hx hb dX12_chance_12 (by decide) ?_
  obtain ⟨u3, hu3, hf⟩ := bd_some hf
  refine z_ci (ws1 := w_X12_chance h_t r_t u3.2 cI a_rows a_memory a_order a_image a_well) (wr := List.filterMap (fun i : Nat => (w_X12_chance h_t r_t F1 cI a_rows a_memory a_order a_image a_well)[i]?) [1, 2, 3, 4, 5]) (z_rV (rest := []) hx hb hml hown hcx hl.1 (c_X12_right l D cI h_t r_t F1 u2 1 u3 hu3 _) tl_X12_321 ti_X12_right tz_X12_right tn_X12 tc_X12_right tm_X12_right rfl rfl ⟨Nat.le_of_ble_eq_true rfl, Nat.le_of_ble_eq_true rfl⟩ hK hX hS hA hP hD [0] rfl rfl 0 rfl rfl rfl rfl (Nat.le_of_ble_eq_true rfl) dX12_chance_13 ⟨Nat.zero_le _, Nat.zero_le _⟩) hP hD hS hA [0] [1, 2, 3, 4, 5] [5, 0, 1, 2, 3, 4] rfl rfl rfl (by decide) rfl rfl (fun H locs hP hD hS => ?_)
  refine z_if_ne (tgt := 21) hx hb dX12_chance_16 (by decide) hf (fun hf => ?_) (fun hf => ?_)
  · refine lv_aload_n hx hb dX12_chance_21 rfl (lv_at hl 0 rfl) ?_
    refine lv_iconst (v := 0) hx hb dX12_chance_22 (by decide) ?_
    obtain ⟨u4, hu4, hf⟩ := bd_some hf
    refine z_cl (ws1 := w_X12_chance h_t r_t u3.2 cI a_rows a_memory a_order a_image a_well) (wr := List.filterMap (fun i : Nat => (w_X12_chance h_t r_t u3.2 cI a_rows a_memory a_order a_image a_well)[i]?) [2, 3, 4, 5]) (z_rV (rest := []) hx hb hml hown hcx hl.1 (c_X12_ordersOf l D cI h_t r_t u3.2 a_rows 0 u4 hu4 _) tl_X12_188 ti_X12_ordersOf tz_X12_ordersOf tn_X12 tc_X12_ordersOf tm_X12_ordersOf rfl rfl ⟨Nat.le_of_ble_eq_true rfl, Nat.le_of_ble_eq_true rfl⟩ hK hX hS hA hP hD [0, 1] rfl rfl 0 rfl rfl rfl rfl (Nat.le_of_ble_eq_true rfl) dX12_chance_23 ⟨Nat.zero_le _, Nat.zero_le _⟩) hP hD hS hA [0, 1] [2, 3, 4, 5] [4, 5, 0, 1, 2, 3] rfl rfl rfl (by decide) rfl rfl (fun H locs hP hD hS => ?_)
    refine lv_lstore_n (lv' := [(2, .long u4), (0, .ref h_t), (1, .int p1)]) hx hb dX12_chance_26 rfl hl (by decide) rfl (fun ls hl => ?_)
    refine lv_lload_n hx hb dX12_chance_27 rfl (lv_at hl 0 rfl) ?_
    refine lv_ldc2 hx hb hown (hts _ tk_X12_192) dX12_chance_28 ?_
    refine W.lcmp hx hb dX12_chance_31 ?_
    refine z_if_le (tgt := 37) hx hb dX12_chance_32 (by decide) hf (fun hf => ?_) (fun hf => ?_)
    · refine lv_iconst (v := 0) hx hb dX12_chance_37 (by decide) ?_
      refine lv_istore (lv' := [(4, .int 0), (2, .long u4), (0, .ref h_t), (1, .int p1)]) hx hb dX12_chance_38 hl (by decide) rfl (fun ls hl => ?_)
      refine lv_aload_n hx hb dX12_chance_40 rfl (lv_at hl 2 rfl) ?_
      refine lv_iconst (v := 0) hx hb dX12_chance_41 (by decide) ?_
      obtain ⟨u5, hu5, hf⟩ := bd_some hf
      refine z_cv (ws1 := w_X12_chance h_t r_t u5.1 cI a_rows u5.2.1 a_order a_image u5.2.2) (wr := List.filterMap (fun i : Nat => (w_X12_chance h_t r_t u3.2 cI a_rows a_memory a_order a_image a_well)[i]?) [3, 4]) (z_rV (rest := []) hx hb hml hown hcx hl.1 (c_X12_laysWell l D cI h_t r_t u3.2 a_rows a_memory a_well 0 u5 hu5 _) tl_X12_197 ti_X12_laysWell tz_X12_laysWell tn_X12 tc_X12_laysWell tm_X12_laysWell rfl rfl ⟨Nat.le_of_ble_eq_true rfl, Nat.le_of_ble_eq_true rfl⟩ hK hX hS hA hP hD [0, 1, 2, 5] rfl rfl 0 rfl rfl rfl rfl (Nat.le_of_ble_eq_true rfl) dX12_chance_42 ⟨Nat.zero_le _, Nat.zero_le _⟩) hP hD hS hA [0, 1, 2, 5] [3, 4] [2, 3, 4, 0, 1, 5] rfl rfl rfl (by decide) rfl rfl (fun H locs hP hD hS => ?_)
      refine lv_aload_n hx hb dX12_chance_45 rfl (lv_at hl 2 rfl) ?_
      obtain ⟨u6, hu6, hf⟩ := bd_some hf
      refine z_cv (ws1 := w_X12_chance h_t r_t u5.1 cI a_rows u5.2.1 u6 a_image u5.2.2) (wr := List.filterMap (fun i : Nat => (w_X12_chance h_t r_t u5.1 cI a_rows u5.2.1 a_order a_image u5.2.2)[i]?) [1, 2, 4, 5]) (z_rV (rest := []) hx hb hml hown hcx hl.1 (c_X12_firstOrder l D cI h_t r_t u5.1 a_order u6 hu6 _) tl_X12_200 ti_X12_firstOrder tz_X12_firstOrder tn_X12 tc_X12_firstOrder tm_X12_firstOrder rfl rfl ⟨Nat.le_of_ble_eq_true rfl, Nat.le_of_ble_eq_true rfl⟩ hK hX hS hA hP hD [0, 3] rfl rfl 0 rfl rfl rfl rfl (Nat.le_of_ble_eq_true rfl) dX12_chance_46 ⟨Nat.zero_le _, Nat.zero_le _⟩) hP hD hS hA [0, 3] [1, 2, 4, 5] [4, 0, 1, 5, 2, 3] rfl rfl rfl (by decide) rfl rfl (fun H locs hP hD hS => ?_)
      refine lv_iconst (v := 0) hx hb dX12_chance_49 (by decide) ?_
      refine lv_istore (lv' := [(5, .int 0), (4, .int 0), (2, .long u4), (0, .ref h_t), (1, .int p1)]) hx hb dX12_chance_50 hl (by decide) rfl (fun ls hl => ?_)
      exact L52 fuelN u4 0 0 u5.1 u5.2.1 u6 a_image u5.2.2 _ _ _ hf hP hD hS (lv_sub hl [3, 4, 2, 1, 0] rfl)
    · refine lv_iconst (v := (-1)) hx hb dX12_chance_35 (by decide) ?_
      exact hret ((-1), u3.2, a_memory, a_order, a_image, a_well) _ _ _ _ hf hP hD hS dX12_chance_36
  · refine lv_iconst (v := 0) hx hb dX12_chance_19 (by decide) ?_
    exact hret (0, u3.2, a_memory, a_order, a_image, a_well) _ _ _ _ hf hP hD hS dX12_chance_20
abbrev w_X12_see (h_t : Nat) (r_t : Nat → Nat) (F_t : Nat → Int32) (cI : ClassId) (a_seenWord : Nat → Int32) (a_seenNumber : Nat → Int32) (a_refused : Nat → Int32) : va_W := [(h_t, .inr (12, o_X12 r_t F_t)), ((r_t 1), .inl (cI, 16, .inl a_seenWord)), ((r_t 2), .inl (cI, 16, .inl a_seenNumber)), ((r_t 3), .inl (cI, 6, .inl a_refused))]
abbrev rm_X12_see : Room := { frames := 1, cells := 0, slots := 0, locals := 22 }
def m_X12_see_j35 (p1 : Int32) (p2 : Int32) (F_t : Nat → Int32) (a_seenWord : Nat → Int32) (a_seenNumber : Nat → Int32) (a_refused : Nat → Int32) : Option (Int32 × (Nat → Int32) × (Nat → Int32) × (Nat → Int32) × (Nat → Int32)) :=
  bd (m_X12_refuses a_refused 2) fun u2 =>
  some (u2.1, F_t, a_seenWord, a_seenNumber, u2.2)
def m_X12_see (F_t : Nat → Int32) (a_seenWord : Nat → Int32) (a_seenNumber : Nat → Int32) (a_refused : Nat → Int32) (p1 : Int32) (p2 : Int32) : Option (Int32 × (Nat → Int32) × (Nat → Int32) × (Nat → Int32) × (Nat → Int32)) :=
  nm (upd F_t 4 0) fun F1 =>
  if (F1 7) = 8 then (
  m_X12_see_j35 p1 p2 F1 a_seenWord a_seenNumber a_refused)
  else (
  bd (m_X12_within p1 0 63) fun u3 =>
  if u3 = 0 then (
  m_X12_see_j35 p1 p2 F1 a_seenWord a_seenNumber a_refused)
  else (
  bd (m_X12_within p2 0 999) fun u4 =>
  if u4 = 0 then (
  m_X12_see_j35 p1 p2 F1 a_seenWord a_seenNumber a_refused)
  else (
  wr a_seenWord 16 (F1 7) p1 fun a5 =>
  wr a_seenNumber 16 (F1 7) p2 fun a6 =>
  nm (upd F1 7 ((F1 7) + 1)) fun F7 =>
  some ((F7 7), F7, a5, a6, a_refused))))
set_option maxHeartbeats 4000000 in
set_option maxRecDepth 100000 in
theorem c_X12_see (l : Launch) (D : va_G) (cI : ClassId) (h_t : Nat) (r_t : Nat → Nat) (F_t : Nat → Int32) (a_seenWord : Nat → Int32) (a_seenNumber : Nat → Int32) (a_refused : Nat → Int32) (p1 : Int32) (p2 : Int32) (Rr : Int32 × (Nat → Int32) × (Nat → Int32) × (Nat → Int32) × (Nat → Int32)) (hf : m_X12_see F_t a_seenWord a_seenNumber a_refused p1 p2 = some Rr) : CTi l yX12_see (Cond.code yX12_see cX12_see 3 (some .int)) rm_X12_see D cI [.ref h_t, .int p1, .int p2] (w_X12_see h_t r_t F_t cI a_seenWord a_seenNumber a_refused) Rr.1 (w_X12_see h_t r_t Rr.2.1 cI Rr.2.2.1 Rr.2.2.2.1 Rr.2.2.2.2) := by
  refine z_begin_i (own := RX12) (ρ := Int32 × (Nat → Int32) × (Nat → Int32) × (Nat → Int32) × (Nat → Int32)) (fun u => w_X12_see h_t r_t u.2.1 cI u.2.2.1 u.2.2.2.1 u.2.2.2.2) (fun u => u.1) (by decide +kernel) rfl (Nat.le_of_ble_eq_true rfl) ?_
  intro p e s m args below meth c ls Q A hx hb hml hts hcx hown hK hX hA hP hD hS hl hret
  have hl : lv_has ls 3 [(0, .ref h_t), (1, .int p1), (2, .int p2)] := hl
  have hf := (m_X12_see.eq_1 _ _ _ _ _ _).symm.trans hf
  have L35 : ∀ (F_t : Nat → Int32) (a_seenWord : Nat → Int32) (a_seenNumber : Nat → Int32) (a_refused : Nat → Int32) (H : Heap) (locs : List Loc) (ls : Array Slot), m_X12_see_j35 p1 p2 F_t a_seenWord a_seenNumber a_refused = some Rr → va_P D vwCl (w_X12_see h_t r_t F_t cI a_seenWord a_seenNumber a_refused) H → va_D A (w_X12_see h_t r_t F_t cI a_seenWord a_seenNumber a_refused) → va_S A s.heap H locs → lv_has ls 3 [(0, .ref h_t)] → W p l e rm_X12_see s m args below meth c H locs 0 0 Q (F0 m 35 ls []) := by
    intro F_t a_seenWord a_seenNumber a_refused H locs ls hf hP hD hS hl
    have hf := (m_X12_see_j35.eq_1 _ _ _ _ _ _).symm.trans hf
    refine lv_aload_n hx hb dX12_see_35 rfl (lv_at hl 0 rfl) ?_
    refine lv_iconst (v := 2) hx hb dX12_see_36 (by decide) ?_
    obtain ⟨u2, hu2, hf⟩ := bd_some hf
    refine z_ci (ws1 := w_X12_see h_t r_t F_t cI a_seenWord a_seenNumber u2.2) (wr := List.filterMap (fun i : Nat => (w_X12_see h_t r_t F_t cI a_seenWord a_seenNumber a_refused)[i]?) [1, 2]) (z_rV (rest := []) hx hb hml hown hcx hl.1 (c_X12_refuses l D cI h_t r_t F_t a_refused 2 u2 hu2 _) tl_X12_345 ti_X12_refuses tz_X12_refuses tn_X12 tc_X12_refuses tm_X12_refuses rfl rfl ⟨Nat.le_of_ble_eq_true rfl, Nat.le_of_ble_eq_true rfl⟩ hK hX hS hA hP hD [0, 3] rfl rfl 0 rfl rfl rfl rfl (Nat.le_of_ble_eq_true rfl) dX12_see_37 ⟨Nat.zero_le _, Nat.zero_le _⟩) hP hD hS hA [0, 3] [1, 2] [2, 0, 1, 3] rfl rfl rfl (by decide) rfl rfl (fun H locs hP hD hS => ?_)
    exact hret (u2.1, F_t, a_seenWord, a_seenNumber, u2.2) _ _ _ _ hf hP hD hS dX12_see_40
  refine lv_aload_n hx hb dX12_see_0 rfl (lv_at hl 0 rfl) ?_
  refine lv_iconst (v := 0) hx hb dX12_see_1 (by decide) ?_
  refine z_put (ci := 12) (C := RX12) (T := TX12) (N := 51) hx hb hts inT_X12 tyX12 tyX12_ok nmX12 hown hK hP hD hS 0 rfl rfl 4 (by decide) tf_X12_63 rfl (by decide +kernel) (Nat.le_of_ble_eq_true rfl) (o_X12 r_t) (o_X12_s4 _ _ _) (fun z => w_X12_see h_t r_t z cI a_seenWord a_seenNumber a_refused) (fun _ => rfl) dX12_see_2 hf (fun F1 H locs hf hP hD hS => ?_)
  refine lv_aload_n hx hb dX12_see_5 rfl (lv_at hl 0 rfl) ?_
  refine z_get (ci := 12) (C := RX12) (T := TX12) (N := 51) (v := .int (F1 7)) hx hb hts inT_X12 hown hK hP 0 rfl rfl 7 (by decide) tf_X12_330 rfl dX12_see_6 ?_
  refine lv_bipush (v := 8) hx hb dX12_see_9 (by decide) ?_
  refine z_icmp_eq (tgt := 35) hx hb dX12_see_11 (by decide) hf (fun hf => ?_) (fun hf => ?_)
  · exact L35 F1 a_seenWord a_seenNumber a_refused _ _ _ hf hP hD hS (lv_sub hl [0] rfl)
  · refine lv_iload_n hx hb dX12_see_14 rfl (lv_at hl 1 rfl) ?_
    refine lv_iconst (v := 0) hx hb dX12_see_15 (by decide) ?_
    refine lv_bipush (v := 63) hx hb dX12_see_16 (by decide) ?_
    obtain ⟨u3, hu3, hf⟩ := bd_some hf
    refine z_ci (ws1 := w_X12_see h_t r_t F1 cI a_seenWord a_seenNumber a_refused) (wr := List.filterMap (fun i : Nat => (w_X12_see h_t r_t F1 cI a_seenWord a_seenNumber a_refused)[i]?) [0, 1, 2, 3]) (z_rS (rest := []) hx hb hml hown hcx hl.1 (c_X12_within l D cI p1 0 63 u3 hu3 _) tl_X12_172 ts_X12_within tn_X12 tc_X12_within tm_X12_within rfl rfl ⟨Nat.le_of_ble_eq_true rfl, Nat.le_of_ble_eq_true rfl⟩ hK hX hS hA hP hD [] rfl rfl rfl rfl (Nat.le_of_ble_eq_true rfl) dX12_see_18 ⟨Nat.zero_le _, Nat.zero_le _⟩) hP hD hS hA [] [0, 1, 2, 3] [0, 1, 2, 3] rfl rfl rfl (by decide) rfl rfl (fun H locs hP hD hS => ?_)
    refine z_if_eq (tgt := 35) hx hb dX12_see_21 (by decide) hf (fun hf => ?_) (fun hf => ?_)
    · exact L35 F1 a_seenWord a_seenNumber a_refused _ _ _ hf hP hD hS (lv_sub hl [0] rfl)
    · refine lv_iload_n hx hb dX12_see_24 rfl (lv_at hl 2 rfl) ?_
      refine lv_iconst (v := 0) hx hb dX12_see_25 (by decide) ?_
      refine lv_sipush (v := 999) hx hb dX12_see_26 (by decide) ?_
      obtain ⟨u4, hu4, hf⟩ := bd_some hf
      refine z_ci (ws1 := w_X12_see h_t r_t F1 cI a_seenWord a_seenNumber a_refused) (wr := List.filterMap (fun i : Nat => (w_X12_see h_t r_t F1 cI a_seenWord a_seenNumber a_refused)[i]?) [0, 1, 2, 3]) (z_rS (rest := []) hx hb hml hown hcx hl.1 (c_X12_within l D cI p2 0 999 u4 hu4 _) tl_X12_172 ts_X12_within tn_X12 tc_X12_within tm_X12_within rfl rfl ⟨Nat.le_of_ble_eq_true rfl, Nat.le_of_ble_eq_true rfl⟩ hK hX hS hA hP hD [] rfl rfl rfl rfl (Nat.le_of_ble_eq_true rfl) dX12_see_29 ⟨Nat.zero_le _, Nat.zero_le _⟩) hP hD hS hA [] [0, 1, 2, 3] [0, 1, 2, 3] rfl rfl rfl (by decide) rfl rfl (fun H locs hP hD hS => ?_)
      refine z_if_ne (tgt := 41) hx hb dX12_see_32 (by decide) hf (fun hf => ?_) (fun hf => ?_)
      · refine lv_aload_n hx hb dX12_see_41 rfl (lv_at hl 0 rfl) ?_
        refine z_get (ci := 12) (C := RX12) (T := TX12) (N := 51) (v := .ref (r_t 1)) hx hb hts inT_X12 hown hK hP 0 rfl rfl 1 (by decide) tf_X12_14 rfl dX12_see_42 ?_
        refine lv_aload_n hx hb dX12_see_45 rfl (lv_at hl 0 rfl) ?_
        refine z_get (ci := 12) (C := RX12) (T := TX12) (N := 51) (v := .int (F1 7)) hx hb hts inT_X12 hown hK hP 0 rfl rfl 7 (by decide) tf_X12_330 rfl dX12_see_46 ?_
        refine lv_iload_n hx hb dX12_see_49 rfl (lv_at hl 1 rfl) ?_
        refine z_iast hx hb hK hP hD hS 1 rfl (fun z => w_X12_see h_t r_t F1 cI z a_seenNumber a_refused) (fun _ => rfl) dX12_see_50 hf (fun a5 H locs hf hP hD hS => ?_)
        refine lv_aload_n hx hb dX12_see_51 rfl (lv_at hl 0 rfl) ?_
        refine z_get (ci := 12) (C := RX12) (T := TX12) (N := 51) (v := .ref (r_t 2)) hx hb hts inT_X12 hown hK hP 0 rfl rfl 2 (by decide) tf_X12_17 rfl dX12_see_52 ?_
        refine lv_aload_n hx hb dX12_see_55 rfl (lv_at hl 0 rfl) ?_
        refine z_get (ci := 12) (C := RX12) (T := TX12) (N := 51) (v := .int (F1 7)) hx hb hts inT_X12 hown hK hP 0 rfl rfl 7 (by decide) tf_X12_330 rfl dX12_see_56 ?_
        refine lv_iload_n hx hb dX12_see_59 rfl (lv_at hl 2 rfl) ?_
        refine z_iast hx hb hK hP hD hS 2 rfl (fun z => w_X12_see h_t r_t F1 cI a5 z a_refused) (fun _ => rfl) dX12_see_60 hf (fun a6 H locs hf hP hD hS => ?_)
        refine lv_aload_n hx hb dX12_see_61 rfl (lv_at hl 0 rfl) ?_
        refine lv_dup hx hb dX12_see_62 rfl ?_
        refine z_get (ci := 12) (C := RX12) (T := TX12) (N := 51) (v := .int (F1 7)) hx hb hts inT_X12 hown hK hP 0 rfl rfl 7 (by decide) tf_X12_330 rfl dX12_see_63 ?_
        refine lv_iconst (v := 1) hx hb dX12_see_66 (by decide) ?_
        refine lv_iadd hx hb dX12_see_67 ?_
        refine z_put (ci := 12) (C := RX12) (T := TX12) (N := 51) hx hb hts inT_X12 tyX12 tyX12_ok nmX12 hown hK hP hD hS 0 rfl rfl 7 (by decide) tf_X12_330 rfl (by decide +kernel) (Nat.le_of_ble_eq_true rfl) (o_X12 r_t) (o_X12_s7 _ _ _) (fun z => w_X12_see h_t r_t z cI a5 a6 a_refused) (fun _ => rfl) dX12_see_68 hf (fun F7 H locs hf hP hD hS => ?_)
        refine lv_aload_n hx hb dX12_see_71 rfl (lv_at hl 0 rfl) ?_
        refine z_get (ci := 12) (C := RX12) (T := TX12) (N := 51) (v := .int (F7 7)) hx hb hts inT_X12 hown hK hP 0 rfl rfl 7 (by decide) tf_X12_330 rfl dX12_see_72 ?_
        exact hret ((F7 7), F7, a5, a6, a_refused) _ _ _ _ hf hP hD hS dX12_see_75
      · exact L35 F1 a_seenWord a_seenNumber a_refused _ _ _ hf hP hD hS (lv_sub hl [0] rfl)
abbrev w_X12_isSeen (h_t : Nat) (r_t : Nat → Nat) (F_t : Nat → Int32) (cI : ClassId) (a_rows : Nat → Int32) (a_seenWord : Nat → Int32) (a_seenNumber : Nat → Int32) (a_order : Nat → Int32) (a_image : Nat → Int32) : va_W := [(h_t, .inr (12, o_X12 r_t F_t)), ((r_t 0), .inl (cI, 66100, .inl a_rows)), ((r_t 1), .inl (cI, 16, .inl a_seenWord)), ((r_t 2), .inl (cI, 16, .inl a_seenNumber)), ((r_t 24), .inl (cI, 16, .inl a_order)), ((r_t 25), .inl (cI, 64, .inl a_image))]
abbrev rm_X12_isSeen : Room := { frames := 1, cells := 0, slots := 0, locals := 24 }
def m_X12_isSeen_w7 (F_t : Nat → Int32) (a_rows : Nat → Int32) (a_seenWord : Nat → Int32) (a_seenNumber : Nat → Int32) (a_order : Nat → Int32) : Nat → Int32 → (Nat → Int32) → Option (Int32 × (Nat → Int32))
  | 0, _, _ => none
  | n7 + 1, x1, a_image =>
    if (F_t 7) ≤ x1 then (
    some (1, a_image))
    else (
    rd a_seenWord 16 x1 fun y2 =>
    rd a_image 64 y2 fun y3 =>
    rd a_seenNumber 16 x1 fun y4 =>
    if y3 = y4 then (
    nm (x1 + 1) fun v5 =>
    m_X12_isSeen_w7 F_t a_rows a_seenWord a_seenNumber a_order n7 v5 a_image)
    else (
    some (0, a_image)))
def m_X12_isSeen (F_t : Nat → Int32) (a_rows : Nat → Int32) (a_seenWord : Nat → Int32) (a_seenNumber : Nat → Int32) (a_order : Nat → Int32) (a_image : Nat → Int32) : Option (Int32 × (Nat → Int32)) :=
  bd (m_X12_laysImage a_rows a_order a_image 0) fun u1 =>
  m_X12_isSeen_w7 F_t a_rows a_seenWord a_seenNumber a_order fuelN 0 u1
set_option maxHeartbeats 4000000 in
set_option maxRecDepth 100000 in
theorem c_X12_isSeen (l : Launch) (D : va_G) (cI : ClassId) (h_t : Nat) (r_t : Nat → Nat) (F_t : Nat → Int32) (a_rows : Nat → Int32) (a_seenWord : Nat → Int32) (a_seenNumber : Nat → Int32) (a_order : Nat → Int32) (a_image : Nat → Int32) (Rr : Int32 × (Nat → Int32)) (hf : m_X12_isSeen F_t a_rows a_seenWord a_seenNumber a_order a_image = some Rr) : CTi l yX12_isSeen (Cond.code yX12_isSeen cX12_isSeen 2 (some .boolean)) rm_X12_isSeen D cI [.ref h_t] (w_X12_isSeen h_t r_t F_t cI a_rows a_seenWord a_seenNumber a_order a_image) Rr.1 (w_X12_isSeen h_t r_t F_t cI a_rows a_seenWord a_seenNumber a_order Rr.2) := by
  refine z_begin_z (own := RX12) (ρ := Int32 × (Nat → Int32)) (fun u => w_X12_isSeen h_t r_t F_t cI a_rows a_seenWord a_seenNumber a_order u.2) (fun u => u.1) (by decide +kernel) rfl (Nat.le_of_ble_eq_true rfl) ?_
  intro p e s m args below meth c ls Q A hx hb hml hts hcx hown hK hX hA hP hD hS hl hret
  have hl : lv_has ls 2 [(0, .ref h_t)] := hl
  have hf := (m_X12_isSeen.eq_1 _ _ _ _ _ _).symm.trans hf
  have L7 : ∀ (n7 : Nat) (x1 : Int32) (a_image : Nat → Int32) (H : Heap) (locs : List Loc) (ls : Array Slot), m_X12_isSeen_w7 F_t a_rows a_seenWord a_seenNumber a_order n7 x1 a_image = some Rr → va_P D vwCl (w_X12_isSeen h_t r_t F_t cI a_rows a_seenWord a_seenNumber a_order a_image) H → va_D A (w_X12_isSeen h_t r_t F_t cI a_rows a_seenWord a_seenNumber a_order a_image) → va_S A s.heap H locs → lv_has ls 2 [(0, .ref h_t), (1, .int x1)] → W p l e rm_X12_isSeen s m args below meth c H locs 0 0 Q (F0 m 7 ls []) := by
    intro n7
    induction n7 with
    | zero => intro x1 a_image H locs ls hf; cases (show (none : Option _) = some Rr from hf)
    | succ n7 ih7 =>
      intro x1 a_image H locs ls hf hP hD hS hl
      have hf := (m_X12_isSeen_w7.eq_2 _ _ _ _ _ _ _ _).symm.trans hf
      refine lv_iload_n hx hb dX12_isSeen_7 rfl (lv_at hl 1 rfl) ?_
      refine lv_aload_n hx hb dX12_isSeen_8 rfl (lv_at hl 0 rfl) ?_
      refine z_get (ci := 12) (C := RX12) (T := TX12) (N := 51) (v := .int (F_t 7)) hx hb hts inT_X12 hown hK hP 0 rfl rfl 7 (by decide) tf_X12_330 rfl dX12_isSeen_9 ?_
      refine z_icmp_ge (tgt := 43) hx hb dX12_isSeen_12 (by decide) hf (fun hf => ?_) (fun hf => ?_)
      · refine lv_iconst (v := 1) hx hb dX12_isSeen_43 (by decide) ?_
        exact hret (1, a_image) _ _ _ _ (Or.inr rfl) hf hP hD hS dX12_isSeen_44
      · refine lv_aload_n hx hb dX12_isSeen_15 rfl (lv_at hl 0 rfl) ?_
        refine z_get (ci := 12) (C := RX12) (T := TX12) (N := 51) (v := .ref (r_t 25)) hx hb hts inT_X12 hown hK hP 0 rfl rfl 25 (by decide) tf_X12_45 rfl dX12_isSeen_16 ?_
        refine lv_aload_n hx hb dX12_isSeen_19 rfl (lv_at hl 0 rfl) ?_
        refine z_get (ci := 12) (C := RX12) (T := TX12) (N := 51) (v := .ref (r_t 1)) hx hb hts inT_X12 hown hK hP 0 rfl rfl 1 (by decide) tf_X12_14 rfl dX12_isSeen_20 ?_
        refine lv_iload_n hx hb dX12_isSeen_23 rfl (lv_at hl 1 rfl) ?_
        refine z_iald hx hb hK hP 2 rfl dX12_isSeen_24 hf (fun y2 hf => ?_)
        refine z_iald hx hb hK hP 5 rfl dX12_isSeen_25 hf (fun y3 hf => ?_)
        refine lv_aload_n hx hb dX12_isSeen_26 rfl (lv_at hl 0 rfl) ?_
        refine z_get (ci := 12) (C := RX12) (T := TX12) (N := 51) (v := .ref (r_t 2)) hx hb hts inT_X12 hown hK hP 0 rfl rfl 2 (by decide) tf_X12_17 rfl dX12_isSeen_27 ?_
        refine lv_iload_n hx hb dX12_isSeen_30 rfl (lv_at hl 1 rfl) ?_
        refine z_iald hx hb hK hP 3 rfl dX12_isSeen_31 hf (fun y4 hf => ?_)
        refine z_icmp_eq (tgt := 37) hx hb dX12_isSeen_32 (by decide) hf (fun hf => ?_) (fun hf => ?_)
        · refine z_iinc (k0 := 1) (fun z => [(1, .int z), (0, .ref h_t)]) hx hb dX12_isSeen_37 hl rfl (by decide) (by decide) (fun _ => rfl) hf (fun v5 ls hf hl => ?_)
          refine lv_goto (tgt := 7) hx hb dX12_isSeen_40 (by decide) ?_
          exact ih7 v5 a_image _ _ _ hf hP hD hS (lv_sub hl [1, 0] rfl)
        · refine lv_iconst (v := 0) hx hb dX12_isSeen_35 (by decide) ?_
          exact hret (0, a_image) _ _ _ _ (Or.inl rfl) hf hP hD hS dX12_isSeen_36
  refine lv_aload_n hx hb dX12_isSeen_0 rfl (lv_at hl 0 rfl) ?_
  refine lv_iconst (v := 0) hx hb dX12_isSeen_1 (by decide) ?_
  obtain ⟨u1, hu1, hf⟩ := bd_some hf
  refine z_cv (ws1 := w_X12_isSeen h_t r_t F_t cI a_rows a_seenWord a_seenNumber a_order u1) (wr := List.filterMap (fun i : Nat => (w_X12_isSeen h_t r_t F_t cI a_rows a_seenWord a_seenNumber a_order a_image)[i]?) [2, 3]) (z_rV (rest := []) hx hb hml hown hcx hl.1 (c_X12_laysImage l D cI h_t r_t F_t a_rows a_order a_image 0 u1 hu1 _) tl_X12_185 ti_X12_laysImage tz_X12_laysImage tn_X12 tc_X12_laysImage tm_X12_laysImage rfl rfl ⟨Nat.le_of_ble_eq_true rfl, Nat.le_of_ble_eq_true rfl⟩ hK hX hS hA hP hD [0, 1, 4, 5] rfl rfl 0 rfl rfl rfl rfl (Nat.le_of_ble_eq_true rfl) dX12_isSeen_2 ⟨Nat.zero_le _, Nat.zero_le _⟩) hP hD hS hA [0, 1, 4, 5] [2, 3] [2, 3, 0, 1, 4, 5] rfl rfl rfl (by decide) rfl rfl (fun H locs hP hD hS => ?_)
  refine lv_iconst (v := 0) hx hb dX12_isSeen_5 (by decide) ?_
  refine lv_istore_n (lv' := [(1, .int 0), (0, .ref h_t)]) hx hb dX12_isSeen_6 rfl hl (by decide) rfl (fun ls hl => ?_)
  exact L7 fuelN 0 u1 _ _ _ hf hP hD hS (lv_sub hl [1, 0] rfl)
abbrev w_X12_fits (h_t : Nat) (r_t : Nat → Nat) (F_t : Nat → Int32) (cI : ClassId) (a_rows : Nat → Int32) (a_seenWord : Nat → Int32) (a_seenNumber : Nat → Int32) (a_order : Nat → Int32) (a_image : Nat → Int32) (a_wordBy : Nat → Int32) : va_W := [(h_t, .inr (12, o_X12 r_t F_t)), ((r_t 0), .inl (cI, 66100, .inl a_rows)), ((r_t 1), .inl (cI, 16, .inl a_seenWord)), ((r_t 2), .inl (cI, 16, .inl a_seenNumber)), ((r_t 24), .inl (cI, 16, .inl a_order)), ((r_t 25), .inl (cI, 64, .inl a_image)), ((r_t 47), .inl (cI, 2000, .inl a_wordBy))]
abbrev rm_X12_fits : Room := { frames := 2, cells := 0, slots := 0, locals := 45 }
def m_X12_fits_j75 (a_rows : Nat → Int32) (a_seenWord : Nat → Int32) (a_seenNumber : Nat → Int32) (p1 : Int32) (k21 : Int64 → Int32 → Int32 → (Nat → Int32) → (Nat → Int32) → (Nat → Int32) → (Nat → Int32) → Option (Int32 × (Nat → Int32) × (Nat → Int32) × (Nat → Int32) × (Nat → Int32))) (x2 : Int64) (x4 : Int32) (x5 : Int32) (F_t : Nat → Int32) (a_order : Nat → Int32) (a_image : Nat → Int32) (a_wordBy : Nat → Int32) : Option (Int32 × (Nat → Int32) × (Nat → Int32) × (Nat → Int32) × (Nat → Int32)) :=
  bd (m_X12_nextOrder a_rows a_order 0) fun u5 =>
  nm (x5 + 1) fun v6 =>
  k21 x2 x4 v6 F_t u5 a_image a_wordBy
def m_X12_fits_j71 (a_rows : Nat → Int32) (a_seenWord : Nat → Int32) (a_seenNumber : Nat → Int32) (p1 : Int32) (k21 : Int64 → Int32 → Int32 → (Nat → Int32) → (Nat → Int32) → (Nat → Int32) → (Nat → Int32) → Option (Int32 × (Nat → Int32) × (Nat → Int32) × (Nat → Int32) × (Nat → Int32))) (x2 : Int64) (x4 : Int32) (x5 : Int32) (s1 : Int32) (s2 : Int32) (F_t : Nat → Int32) (a_order : Nat → Int32) (a_image : Nat → Int32) (a_wordBy : Nat → Int32) : Option (Int32 × (Nat → Int32) × (Nat → Int32) × (Nat → Int32) × (Nat → Int32)) :=
  wr a_wordBy 2000 s1 s2 fun a8 =>
  nm (x4 + 1) fun v9 =>
  m_X12_fits_j75 a_rows a_seenWord a_seenNumber p1 k21 x2 v9 x5 F_t a_order a_image a8
def m_X12_fits_j50 (a_rows : Nat → Int32) (a_seenWord : Nat → Int32) (a_seenNumber : Nat → Int32) (p1 : Int32) (k21 : Int64 → Int32 → Int32 → (Nat → Int32) → (Nat → Int32) → (Nat → Int32) → (Nat → Int32) → Option (Int32 × (Nat → Int32) × (Nat → Int32) × (Nat → Int32) × (Nat → Int32))) (x2 : Int64) (x4 : Int32) (x5 : Int32) (F_t : Nat → Int32) (a_order : Nat → Int32) (a_image : Nat → Int32) (a_wordBy : Nat → Int32) : Option (Int32 × (Nat → Int32) × (Nat → Int32) × (Nat → Int32) × (Nat → Int32)) :=
  if p1 = (-1) then (
  m_X12_fits_j71 a_rows a_seenWord a_seenNumber p1 k21 x2 x4 x5 x4 0 F_t a_order a_image a_wordBy)
  else (
  rd a_image 64 p1 fun y7 =>
  m_X12_fits_j71 a_rows a_seenWord a_seenNumber p1 k21 x2 x4 x5 x4 y7 F_t a_order a_image a_wordBy)
def m_X12_fits_w21 (a_rows : Nat → Int32) (a_seenWord : Nat → Int32) (a_seenNumber : Nat → Int32) (p1 : Int32) : Nat → Int64 → Int32 → Int32 → (Nat → Int32) → (Nat → Int32) → (Nat → Int32) → (Nat → Int32) → Option (Int32 × (Nat → Int32) × (Nat → Int32) × (Nat → Int32) × (Nat → Int32))
  | 0, _, _, _, _, _, _, _ => none
  | n21 + 1, x2, x4, x5, F_t, a_order, a_image, a_wordBy =>
    if 0 ≤ (lg_cmp x5.toInt64 x2) then (
    some (x4, F_t, a_order, a_image, a_wordBy))
    else (
    bd (m_X12_isSeen F_t a_rows a_seenWord a_seenNumber a_order a_image) fun u4 =>
    if u4.1 = 0 then (
    m_X12_fits_j75 a_rows a_seenWord a_seenNumber p1 (m_X12_fits_w21 a_rows a_seenWord a_seenNumber p1 n21) x2 x4 x5 F_t a_order u4.2 a_wordBy)
    else (
    if (F_t 48) = (-1) then (
    nm (upd F_t 48 x5) fun F10 =>
    m_X12_fits_j50 a_rows a_seenWord a_seenNumber p1 (m_X12_fits_w21 a_rows a_seenWord a_seenNumber p1 n21) x2 x4 x5 F10 a_order u4.2 a_wordBy)
    else (
    m_X12_fits_j50 a_rows a_seenWord a_seenNumber p1 (m_X12_fits_w21 a_rows a_seenWord a_seenNumber p1 n21) x2 x4 x5 F_t a_order u4.2 a_wordBy)))
def m_X12_fits (F_t : Nat → Int32) (a_rows : Nat → Int32) (a_seenWord : Nat → Int32) (a_seenNumber : Nat → Int32) (a_order : Nat → Int32) (a_image : Nat → Int32) (a_wordBy : Nat → Int32) (p1 : Int32) : Option (Int32 × (Nat → Int32) × (Nat → Int32) × (Nat → Int32) × (Nat → Int32)) :=
  bd (m_X12_ordersOf a_rows 0) fun u1 =>
  nm (upd F_t 48 (-1)) fun F2 =>
  bd (m_X12_firstOrder a_order) fun u3 =>
  m_X12_fits_w21 a_rows a_seenWord a_seenNumber p1 fuelN u1 0 0 F2 u3 a_image a_wordBy
set_option maxHeartbeats 4000000 in
set_option maxRecDepth 100000 in
theorem c_X12_fits (l : Launch) (D : va_G) (cI : ClassId) (h_t : Nat) (r_t : Nat → Nat) (F_t : Nat → Int32) (a_rows : Nat → Int32) (a_seenWord : Nat → Int32) (a_seenNumber : Nat → Int32) (a_order : Nat → Int32) (a_image : Nat → Int32) (a_wordBy : Nat → Int32) (p1 : Int32) (Rr : Int32 × (Nat → Int32) × (Nat → Int32) × (Nat → Int32) × (Nat → Int32)) (hf : m_X12_fits F_t a_rows a_seenWord a_seenNumber a_order a_image a_wordBy p1 = some Rr) : CTi l yX12_fits (Cond.code yX12_fits cX12_fits 6 (some .int)) rm_X12_fits D cI [.ref h_t, .int p1] (w_X12_fits h_t r_t F_t cI a_rows a_seenWord a_seenNumber a_order a_image a_wordBy) Rr.1 (w_X12_fits h_t r_t Rr.2.1 cI a_rows a_seenWord a_seenNumber Rr.2.2.1 Rr.2.2.2.1 Rr.2.2.2.2) := by
  refine z_begin_i (own := RX12) (ρ := Int32 × (Nat → Int32) × (Nat → Int32) × (Nat → Int32) × (Nat → Int32)) (fun u => w_X12_fits h_t r_t u.2.1 cI a_rows a_seenWord a_seenNumber u.2.2.1 u.2.2.2.1 u.2.2.2.2) (fun u => u.1) (by decide +kernel) rfl (Nat.le_of_ble_eq_true rfl) ?_
  intro p e s m args below meth c ls Q A hx hb hml hts hcx hown hK hX hA hP hD hS hl hret
  have hl : lv_has ls 6 [(0, .ref h_t), (1, .int p1)] := hl
  have hf := (m_X12_fits.eq_1 _ _ _ _ _ _ _ _).symm.trans hf
  have L21 : ∀ (n21 : Nat) (x2 : Int64) (x4 : Int32) (x5 : Int32) (F_t : Nat → Int32) (a_order : Nat → Int32) (a_image : Nat → Int32) (a_wordBy : Nat → Int32) (H : Heap) (locs : List Loc) (ls : Array Slot), m_X12_fits_w21 a_rows a_seenWord a_seenNumber p1 n21 x2 x4 x5 F_t a_order a_image a_wordBy = some Rr → va_P D vwCl (w_X12_fits h_t r_t F_t cI a_rows a_seenWord a_seenNumber a_order a_image a_wordBy) H → va_D A (w_X12_fits h_t r_t F_t cI a_rows a_seenWord a_seenNumber a_order a_image a_wordBy) → va_S A s.heap H locs → lv_has ls 6 [(0, .ref h_t), (1, .int p1), (2, .long x2), (4, .int x4), (5, .int x5)] → W p l e rm_X12_fits s m args below meth c H locs 0 0 Q (F0 m 21 ls []) := by
    intro n21
    induction n21 with
    | zero => intro x2 x4 x5 F_t a_order a_image a_wordBy H locs ls hf; cases (show (none : Option _) = some Rr from hf)
    | succ n21 ih21 =>
      intro x2 x4 x5 F_t a_order a_image a_wordBy H locs ls hf hP hD hS hl
      have hf := (m_X12_fits_w21.eq_2 _ _ _ _ _ _ _ _ _ _ _ _).symm.trans hf
      have L75 : ∀ (x2 : Int64) (x4 : Int32) (x5 : Int32) (F_t : Nat → Int32) (a_order : Nat → Int32) (a_image : Nat → Int32) (a_wordBy : Nat → Int32) (H : Heap) (locs : List Loc) (ls : Array Slot), m_X12_fits_j75 a_rows a_seenWord a_seenNumber p1 (m_X12_fits_w21 a_rows a_seenWord a_seenNumber p1 n21) x2 x4 x5 F_t a_order a_image a_wordBy = some Rr → va_P D vwCl (w_X12_fits h_t r_t F_t cI a_rows a_seenWord a_seenNumber a_order a_image a_wordBy) H → va_D A (w_X12_fits h_t r_t F_t cI a_rows a_seenWord a_seenNumber a_order a_image a_wordBy) → va_S A s.heap H locs → lv_has ls 6 [(0, .ref h_t), (1, .int p1), (2, .long x2), (4, .int x4), (5, .int x5)] → W p l e rm_X12_fits s m args below meth c H locs 0 0 Q (F0 m 75 ls []) := by
        intro x2 x4 x5 F_t a_order a_image a_wordBy H locs ls hf hP hD hS hl
        have hf := (m_X12_fits_j75.eq_1 _ _ _ _ _ _ _ _ _ _ _ _).symm.trans hf
        refine lv_aload_n hx hb dX12_fits_75 rfl (lv_at hl 0 rfl) ?_
        refine lv_iconst (v := 0) hx hb dX12_fits_76 (by decide) ?_
        obtain ⟨u5, hu5, hf⟩ := bd_some hf
        refine z_cv (ws1 := w_X12_fits h_t r_t F_t cI a_rows a_seenWord a_seenNumber u5 a_image a_wordBy) (wr := List.filterMap (fun i : Nat => (w_X12_fits h_t r_t F_t cI a_rows a_seenWord a_seenNumber a_order a_image a_wordBy)[i]?) [2, 3, 5, 6]) (z_rV (rest := []) hx hb hml hown hcx hl.1 (c_X12_nextOrder l D cI h_t r_t F_t a_rows a_order 0 u5 hu5 _) tl_X12_215 ti_X12_nextOrder tz_X12_nextOrder tn_X12 tc_X12_nextOrder tm_X12_nextOrder rfl rfl ⟨Nat.le_of_ble_eq_true rfl, Nat.le_of_ble_eq_true rfl⟩ hK hX hS hA hP hD [0, 1, 4] rfl rfl 0 rfl rfl rfl rfl (Nat.le_of_ble_eq_true rfl) dX12_fits_77 ⟨Nat.zero_le _, Nat.zero_le _⟩) hP hD hS hA [0, 1, 4] [2, 3, 5, 6] [4, 5, 0, 1, 6, 2, 3] rfl rfl rfl (by decide) rfl rfl (fun H locs hP hD hS => ?_)
        refine z_iinc (k0 := 4) (fun z => [(5, .int z), (0, .ref h_t), (1, .int p1), (2, .long x2), (4, .int x4)]) hx hb dX12_fits_80 hl rfl (by decide) (by decide) (fun _ => rfl) hf (fun v6 ls hf hl => ?_)
        refine lv_goto (tgt := 21) hx hb dX12_fits_83 (by decide) ?_
        exact ih21 x2 x4 v6 F_t u5 a_image a_wordBy _ _ _ hf hP hD hS (lv_sub hl [1, 2, 3, 4, 0] rfl)
      have L71 : ∀ (x2 : Int64) (x4 : Int32) (x5 : Int32) (s1 : Int32) (s2 : Int32) (F_t : Nat → Int32) (a_order : Nat → Int32) (a_image : Nat → Int32) (a_wordBy : Nat → Int32) (H : Heap) (locs : List Loc) (ls : Array Slot), m_X12_fits_j71 a_rows a_seenWord a_seenNumber p1 (m_X12_fits_w21 a_rows a_seenWord a_seenNumber p1 n21) x2 x4 x5 s1 s2 F_t a_order a_image a_wordBy = some Rr → va_P D vwCl (w_X12_fits h_t r_t F_t cI a_rows a_seenWord a_seenNumber a_order a_image a_wordBy) H → va_D A (w_X12_fits h_t r_t F_t cI a_rows a_seenWord a_seenNumber a_order a_image a_wordBy) → va_S A s.heap H locs → lv_has ls 6 [(0, .ref h_t), (1, .int p1), (2, .long x2), (4, .int x4), (5, .int x5)] → W p l e rm_X12_fits s m args below meth c H locs 0 0 Q (F0 m 71 ls [.int s2, .int s1, .ref (r_t 47)]) := by
        intro x2 x4 x5 s1 s2 F_t a_order a_image a_wordBy H locs ls hf hP hD hS hl
        have hf := (m_X12_fits_j71.eq_1 _ _ _ _ _ _ _ _ _ _ _ _ _ _).symm.trans hf
        refine z_iast hx hb hK hP hD hS 6 rfl (fun z => w_X12_fits h_t r_t F_t cI a_rows a_seenWord a_seenNumber a_order a_image z) (fun _ => rfl) dX12_fits_71 hf (fun a8 H locs hf hP hD hS => ?_)
        refine z_iinc (k0 := 3) (fun z => [(4, .int z), (0, .ref h_t), (1, .int p1), (2, .long x2), (5, .int x5)]) hx hb dX12_fits_72 hl rfl (by decide) (by decide) (fun _ => rfl) hf (fun v9 ls hf hl => ?_)
        exact L75 x2 v9 x5 F_t a_order a_image a8 _ _ _ hf hP hD hS (lv_sub hl [1, 2, 3, 0, 4] rfl)
      have L50 : ∀ (x2 : Int64) (x4 : Int32) (x5 : Int32) (F_t : Nat → Int32) (a_order : Nat → Int32) (a_image : Nat → Int32) (a_wordBy : Nat → Int32) (H : Heap) (locs : List Loc) (ls : Array Slot), m_X12_fits_j50 a_rows a_seenWord a_seenNumber p1 (m_X12_fits_w21 a_rows a_seenWord a_seenNumber p1 n21) x2 x4 x5 F_t a_order a_image a_wordBy = some Rr → va_P D vwCl (w_X12_fits h_t r_t F_t cI a_rows a_seenWord a_seenNumber a_order a_image a_wordBy) H → va_D A (w_X12_fits h_t r_t F_t cI a_rows a_seenWord a_seenNumber a_order a_image a_wordBy) → va_S A s.heap H locs → lv_has ls 6 [(0, .ref h_t), (1, .int p1), (2, .long x2), (4, .int x4), (5, .int x5)] → W p l e rm_X12_fits s m args below meth c H locs 0 0 Q (F0 m 50 ls []) := by
        intro x2 x4 x5 F_t a_order a_image a_wordBy H locs ls hf hP hD hS hl
        have hf := (m_X12_fits_j50.eq_1 _ _ _ _ _ _ _ _ _ _ _ _).symm.trans hf
        refine lv_aload_n hx hb dX12_fits_50 rfl (lv_at hl 0 rfl) ?_
        refine z_get (ci := 12) (C := RX12) (T := TX12) (N := 51) (v := .ref (r_t 47)) hx hb hts inT_X12 hown hK hP 0 rfl rfl 47 (by decide) tf_X12_57 rfl dX12_fits_51 ?_
        refine lv_iload hx hb dX12_fits_54 (lv_at hl 3 rfl) ?_
        refine lv_iload_n hx hb dX12_fits_56 rfl (lv_at hl 1 rfl) ?_
        refine lv_iconst (v := (-1)) hx hb dX12_fits_57 (by decide) ?_
        refine z_icmp_ne (tgt := 65) hx hb dX12_fits_58 (by decide) hf (fun hf => ?_) (fun hf => ?_)
        · refine lv_aload_n hx hb dX12_fits_65 rfl (lv_at hl 0 rfl) ?_
          refine z_get (ci := 12) (C := RX12) (T := TX12) (N := 51) (v := .ref (r_t 25)) hx hb hts inT_X12 hown hK hP 0 rfl rfl 25 (by decide) tf_X12_45 rfl dX12_fits_66 ?_
          refine lv_iload_n hx hb dX12_fits_69 rfl (lv_at hl 1 rfl) ?_
          refine z_iald hx hb hK hP 5 rfl dX12_fits_70 hf (fun y7 hf => ?_)
          exact L71 x2 x4 x5 x4 y7 F_t a_order a_image a_wordBy _ _ _ hf hP hD hS (lv_sub hl [0, 1, 2, 3, 4] rfl)
        · refine lv_iconst (v := 0) hx hb dX12_fits_61 (by decide) ?_
          refine lv_goto (tgt := 71) hx hb dX12_fits_62 (by decide) ?_
          exact L71 x2 x4 x5 x4 0 F_t a_order a_image a_wordBy _ _ _ hf hP hD hS (lv_sub hl [0, 1, 2, 3, 4] rfl)
      refine lv_iload hx hb dX12_fits_21 (lv_at hl 4 rfl) ?_
      refine lv_i2l hx hb dX12_fits_23 rfl ?_
      refine lv_lload_n hx hb dX12_fits_24 rfl (lv_at hl 2 rfl) ?_
      refine W.lcmp hx hb dX12_fits_25 ?_
      refine z_if_ge (tgt := 86) hx hb dX12_fits_26 (by decide) hf (fun hf => ?_) (fun hf => ?_)
      · refine lv_iload hx hb dX12_fits_86 (lv_at hl 3 rfl) ?_
        exact hret (x4, F_t, a_order, a_image, a_wordBy) _ _ _ _ hf hP hD hS dX12_fits_88
      · refine lv_aload_n hx hb dX12_fits_29 rfl (lv_at hl 0 rfl) ?_
        obtain ⟨u4, hu4, hf⟩ := bd_some hf
        refine z_ci (ws1 := w_X12_fits h_t r_t F_t cI a_rows a_seenWord a_seenNumber a_order u4.2 a_wordBy) (wr := List.filterMap (fun i : Nat => (w_X12_fits h_t r_t F_t cI a_rows a_seenWord a_seenNumber a_order a_image a_wordBy)[i]?) [6]) (z_rV (rest := []) hx hb hml hown hcx hl.1 (c_X12_isSeen l D cI h_t r_t F_t a_rows a_seenWord a_seenNumber a_order a_image u4 hu4 _) tl_X12_388 ti_X12_isSeen tz_X12_isSeen tn_X12 tc_X12_isSeen tm_X12_isSeen rfl rfl ⟨Nat.le_of_ble_eq_true rfl, Nat.le_of_ble_eq_true rfl⟩ hK hX hS hA hP hD [0, 1, 2, 3, 4, 5] rfl rfl 0 rfl rfl rfl rfl (Nat.le_of_ble_eq_true rfl) dX12_fits_30 ⟨Nat.zero_le _, Nat.zero_le _⟩) hP hD hS hA [0, 1, 2, 3, 4, 5] [6] [1, 2, 3, 4, 5, 6, 0] rfl rfl rfl (by decide) rfl rfl (fun H locs hP hD hS => ?_)
        refine z_if_eq (tgt := 75) hx hb dX12_fits_33 (by decide) hf (fun hf => ?_) (fun hf => ?_)
        · exact L75 x2 x4 x5 F_t a_order u4.2 a_wordBy _ _ _ hf hP hD hS (lv_sub hl [0, 1, 2, 3, 4] rfl)
        · refine lv_aload_n hx hb dX12_fits_36 rfl (lv_at hl 0 rfl) ?_
          refine z_get (ci := 12) (C := RX12) (T := TX12) (N := 51) (v := .int (F_t 48)) hx hb hts inT_X12 hown hK hP 0 rfl rfl 48 (by decide) tf_X12_385 rfl dX12_fits_37 ?_
          refine lv_iconst (v := (-1)) hx hb dX12_fits_40 (by decide) ?_
          refine z_icmp_ne (tgt := 50) hx hb dX12_fits_41 (by decide) hf (fun hf => ?_) (fun hf => ?_)
          · exact L50 x2 x4 x5 F_t a_order u4.2 a_wordBy _ _ _ hf hP hD hS (lv_sub hl [0, 1, 2, 3, 4] rfl)
          · refine lv_aload_n hx hb dX12_fits_44 rfl (lv_at hl 0 rfl) ?_
            refine lv_iload hx hb dX12_fits_45 (lv_at hl 4 rfl) ?_
            refine z_put (ci := 12) (C := RX12) (T := TX12) (N := 51) hx hb hts inT_X12 tyX12 tyX12_ok nmX12 hown hK hP hD hS 0 rfl rfl 48 (by decide) tf_X12_385 rfl (by decide +kernel) (Nat.le_of_ble_eq_true rfl) (o_X12 r_t) (o_X12_s48 _ _ _) (fun z => w_X12_fits h_t r_t z cI a_rows a_seenWord a_seenNumber a_order u4.2 a_wordBy) (fun _ => rfl) dX12_fits_47 hf (fun F10 H locs hf hP hD hS => ?_)
            exact L50 x2 x4 x5 F10 a_order u4.2 a_wordBy _ _ _ hf hP hD hS (lv_sub hl [0, 1, 2, 3, 4] rfl)
  refine lv_aload_n hx hb dX12_fits_0 rfl (lv_at hl 0 rfl) ?_
  refine lv_iconst (v := 0) hx hb dX12_fits_1 (by decide) ?_
  obtain ⟨u1, hu1, hf⟩ := bd_some hf
  refine z_cl (ws1 := w_X12_fits h_t r_t F_t cI a_rows a_seenWord a_seenNumber a_order a_image a_wordBy) (wr := List.filterMap (fun i : Nat => (w_X12_fits h_t r_t F_t cI a_rows a_seenWord a_seenNumber a_order a_image a_wordBy)[i]?) [2, 3, 4, 5, 6]) (z_rV (rest := []) hx hb hml hown hcx hl.1 (c_X12_ordersOf l D cI h_t r_t F_t a_rows 0 u1 hu1 _) tl_X12_188 ti_X12_ordersOf tz_X12_ordersOf tn_X12 tc_X12_ordersOf tm_X12_ordersOf rfl rfl ⟨Nat.le_of_ble_eq_true rfl, Nat.le_of_ble_eq_true rfl⟩ hK hX hS hA hP hD [0, 1] rfl rfl 0 rfl rfl rfl rfl (Nat.le_of_ble_eq_true rfl) dX12_fits_2 ⟨Nat.zero_le _, Nat.zero_le _⟩) hP hD hS hA [0, 1] [2, 3, 4, 5, 6] [5, 6, 0, 1, 2, 3, 4] rfl rfl rfl (by decide) rfl rfl (fun H locs hP hD hS => ?_)
  refine lv_lstore_n (lv' := [(2, .long u1), (0, .ref h_t), (1, .int p1)]) hx hb dX12_fits_5 rfl hl (by decide) rfl (fun ls hl => ?_)
  refine lv_iconst (v := 0) hx hb dX12_fits_6 (by decide) ?_
  refine lv_istore (lv' := [(4, .int 0), (2, .long u1), (0, .ref h_t), (1, .int p1)]) hx hb dX12_fits_7 hl (by decide) rfl (fun ls hl => ?_)
  refine lv_aload_n hx hb dX12_fits_9 rfl (lv_at hl 2 rfl) ?_
  refine lv_iconst (v := (-1)) hx hb dX12_fits_10 (by decide) ?_
  refine z_put (ci := 12) (C := RX12) (T := TX12) (N := 51) hx hb hts inT_X12 tyX12 tyX12_ok nmX12 hown hK hP hD hS 0 rfl rfl 48 (by decide) tf_X12_385 rfl (by decide +kernel) (Nat.le_of_ble_eq_true rfl) (o_X12 r_t) (o_X12_s48 _ _ _) (fun z => w_X12_fits h_t r_t z cI a_rows a_seenWord a_seenNumber a_order a_image a_wordBy) (fun _ => rfl) dX12_fits_11 hf (fun F2 H locs hf hP hD hS => ?_)
  refine lv_aload_n hx hb dX12_fits_14 rfl (lv_at hl 2 rfl) ?_
  obtain ⟨u3, hu3, hf⟩ := bd_some hf
  refine z_cv (ws1 := w_X12_fits h_t r_t F2 cI a_rows a_seenWord a_seenNumber u3 a_image a_wordBy) (wr := List.filterMap (fun i : Nat => (w_X12_fits h_t r_t F2 cI a_rows a_seenWord a_seenNumber a_order a_image a_wordBy)[i]?) [1, 2, 3, 5, 6]) (z_rV (rest := []) hx hb hml hown hcx hl.1 (c_X12_firstOrder l D cI h_t r_t F2 a_order u3 hu3 _) tl_X12_200 ti_X12_firstOrder tz_X12_firstOrder tn_X12 tc_X12_firstOrder tm_X12_firstOrder rfl rfl ⟨Nat.le_of_ble_eq_true rfl, Nat.le_of_ble_eq_true rfl⟩ hK hX hS hA hP hD [0, 4] rfl rfl 0 rfl rfl rfl rfl (Nat.le_of_ble_eq_true rfl) dX12_fits_15 ⟨Nat.zero_le _, Nat.zero_le _⟩) hP hD hS hA [0, 4] [1, 2, 3, 5, 6] [5, 0, 1, 2, 6, 3, 4] rfl rfl rfl (by decide) rfl rfl (fun H locs hP hD hS => ?_)
  refine lv_iconst (v := 0) hx hb dX12_fits_18 (by decide) ?_
  refine lv_istore (lv' := [(5, .int 0), (4, .int 0), (2, .long u1), (0, .ref h_t), (1, .int p1)]) hx hb dX12_fits_19 hl (by decide) rfl (fun ls hl => ?_)
  exact L21 fuelN u1 0 0 F2 u3 a_image a_wordBy _ _ _ hf hP hD hS (lv_sub hl [3, 4, 2, 1, 0] rfl)
abbrev w_X12_explained (h_t : Nat) (r_t : Nat → Nat) (F_t : Nat → Int32) (cI : ClassId) (a_rows : Nat → Int32) (a_seenWord : Nat → Int32) (a_seenNumber : Nat → Int32) (a_order : Nat → Int32) (a_image : Nat → Int32) (a_wordBy : Nat → Int32) : va_W := [(h_t, .inr (12, o_X12 r_t F_t)), ((r_t 0), .inl (cI, 66100, .inl a_rows)), ((r_t 1), .inl (cI, 16, .inl a_seenWord)), ((r_t 2), .inl (cI, 16, .inl a_seenNumber)), ((r_t 24), .inl (cI, 16, .inl a_order)), ((r_t 25), .inl (cI, 64, .inl a_image)), ((r_t 47), .inl (cI, 2000, .inl a_wordBy))]
abbrev rm_X12_explained : Room := { frames := 3, cells := 0, slots := 0, locals := 70 }
def m_X12_explained (F_t : Nat → Int32) (a_rows : Nat → Int32) (a_seenWord : Nat → Int32) (a_seenNumber : Nat → Int32) (a_order : Nat → Int32) (a_image : Nat → Int32) (a_wordBy : Nat → Int32) (p1 : Int32) : Option (Int32 × (Nat → Int32) × (Nat → Int32) × (Nat → Int32) × (Nat → Int32)) :=
  nm (upd F_t 4 0) fun F1 =>
  bd (m_X12_within p1 0 1) fun u2 =>
  bd (m_X12_right F1 u2 1) fun u3 =>
  if u3.1 = 0 then (
  some (0, u3.2, a_order, a_image, a_wordBy))
  else (
  bd (m_X12_ordersOf a_rows 0) fun u4 =>
  if (lg_cmp u4 2000) ≤ 0 then (
  bd (m_X12_fits u3.2 a_rows a_seenWord a_seenNumber a_order a_image a_wordBy (-1)) fun u5 =>
  if p1 = 0 then (
  some (u5.1, u5.2.1, u5.2.2.1, u5.2.2.2.1, u5.2.2.2.2))
  else (
  some ((u5.2.1 48), u5.2.1, u5.2.2.1, u5.2.2.2.1, u5.2.2.2.2)))
  else (
  some ((-2), u3.2, a_order, a_image, a_wordBy)))
set_option maxHeartbeats 4000000 in
set_option maxRecDepth 100000 in
theorem c_X12_explained (l : Launch) (D : va_G) (cI : ClassId) (h_t : Nat) (r_t : Nat → Nat) (F_t : Nat → Int32) (a_rows : Nat → Int32) (a_seenWord : Nat → Int32) (a_seenNumber : Nat → Int32) (a_order : Nat → Int32) (a_image : Nat → Int32) (a_wordBy : Nat → Int32) (p1 : Int32) (Rr : Int32 × (Nat → Int32) × (Nat → Int32) × (Nat → Int32) × (Nat → Int32)) (hf : m_X12_explained F_t a_rows a_seenWord a_seenNumber a_order a_image a_wordBy p1 = some Rr) : CTi l yX12_explained (Cond.code yX12_explained cX12_explained 3 (some .int)) rm_X12_explained D cI [.ref h_t, .int p1] (w_X12_explained h_t r_t F_t cI a_rows a_seenWord a_seenNumber a_order a_image a_wordBy) Rr.1 (w_X12_explained h_t r_t Rr.2.1 cI a_rows a_seenWord a_seenNumber Rr.2.2.1 Rr.2.2.2.1 Rr.2.2.2.2) := by
  refine z_begin_i (own := RX12) (ρ := Int32 × (Nat → Int32) × (Nat → Int32) × (Nat → Int32) × (Nat → Int32)) (fun u => w_X12_explained h_t r_t u.2.1 cI a_rows a_seenWord a_seenNumber u.2.2.1 u.2.2.2.1 u.2.2.2.2) (fun u => u.1) (by decide +kernel) rfl (Nat.le_of_ble_eq_true rfl) ?_
  intro p e s m args below meth c ls Q A hx hb hml hts hcx hown hK hX hA hP hD hS hl hret
  have hl : lv_has ls 3 [(0, .ref h_t), (1, .int p1)] := hl
  have hf := (m_X12_explained.eq_1 _ _ _ _ _ _ _ _).symm.trans hf
  refine lv_aload_n hx hb dX12_explained_0 rfl (lv_at hl 0 rfl) ?_
  refine lv_iconst (v := 0) hx hb dX12_explained_1 (by decide) ?_
  refine z_put (ci := 12) (C := RX12) (T := TX12) (N := 51) hx hb hts inT_X12 tyX12 tyX12_ok nmX12 hown hK hP hD hS 0 rfl rfl 4 (by decide) tf_X12_63 rfl (by decide +kernel) (Nat.le_of_ble_eq_true rfl) (o_X12 r_t) (o_X12_s4 _ _ _) (fun z => w_X12_explained h_t r_t z cI a_rows a_seenWord a_seenNumber a_order a_image a_wordBy) (fun _ => rfl) dX12_explained_2 hf (fun F1 H locs hf hP hD hS => ?_)
  refine lv_aload_n hx hb dX12_explained_5 rfl (lv_at hl 0 rfl) ?_
  refine lv_iload_n hx hb dX12_explained_6 rfl (lv_at hl 1 rfl) ?_
  refine lv_iconst (v := 0) hx hb dX12_explained_7 (by decide) ?_
  refine lv_iconst (v := 1) hx hb dX12_explained_8 (by decide) ?_
  obtain ⟨u2, hu2, hf⟩ := bd_some hf
  refine z_ci (ws1 := w_X12_explained h_t r_t F1 cI a_rows a_seenWord a_seenNumber a_order a_image a_wordBy) (wr := List.filterMap (fun i : Nat => (w_X12_explained h_t r_t F1 cI a_rows a_seenWord a_seenNumber a_order a_image a_wordBy)[i]?) [0, 1, 2, 3, 4, 5, 6]) (z_rS (rest := [.ref h_t]) hx hb hml hown hcx hl.1 (c_X12_within l D cI p1 0 1 u2 hu2 _) tl_X12_172 ts_X12_within tn_X12 tc_X12_within tm_X12_within rfl rfl ⟨Nat.le_of_ble_eq_true rfl, Nat.le_of_ble_eq_true rfl⟩ hK hX hS hA hP hD [] rfl rfl rfl rfl (Nat.le_of_ble_eq_true rfl) dX12_explained_9 ⟨Nat.zero_le _, Nat.zero_le _⟩) hP hD hS hA [] [0, 1, 2, 3, 4, 5, 6] [0, 1, 2, 3, 4, 5, 6] rfl rfl rfl (by decide) rfl rfl (fun H locs hP hD hS => ?_)
  refine lv_iconst (v := 1) hx hb dX12_explained_12 (by decide) ?_
  obtain ⟨u3, hu3, hf⟩ := bd_some hf
  refine z_ci (ws1 := w_X12_explained h_t r_t u3.2 cI a_rows a_seenWord a_seenNumber a_order a_image a_wordBy) (wr := List.filterMap (fun i : Nat => (w_X12_explained h_t r_t F1 cI a_rows a_seenWord a_seenNumber a_order a_image a_wordBy)[i]?) [1, 2, 3, 4, 5, 6]) (z_rV (rest := []) hx hb hml hown hcx hl.1 (c_X12_right l D cI h_t r_t F1 u2 1 u3 hu3 _) tl_X12_321 ti_X12_right tz_X12_right tn_X12 tc_X12_right tm_X12_right rfl rfl ⟨Nat.le_of_ble_eq_true rfl, Nat.le_of_ble_eq_true rfl⟩ hK hX hS hA hP hD [0] rfl rfl 0 rfl rfl rfl rfl (Nat.le_of_ble_eq_true rfl) dX12_explained_13 ⟨Nat.zero_le _, Nat.zero_le _⟩) hP hD hS hA [0] [1, 2, 3, 4, 5, 6] [6, 0, 1, 2, 3, 4, 5] rfl rfl rfl (by decide) rfl rfl (fun H locs hP hD hS => ?_)
  refine z_if_ne (tgt := 21) hx hb dX12_explained_16 (by decide) hf (fun hf => ?_) (fun hf => ?_)
  · refine lv_aload_n hx hb dX12_explained_21 rfl (lv_at hl 0 rfl) ?_
    refine lv_iconst (v := 0) hx hb dX12_explained_22 (by decide) ?_
    obtain ⟨u4, hu4, hf⟩ := bd_some hf
    refine z_cl (ws1 := w_X12_explained h_t r_t u3.2 cI a_rows a_seenWord a_seenNumber a_order a_image a_wordBy) (wr := List.filterMap (fun i : Nat => (w_X12_explained h_t r_t u3.2 cI a_rows a_seenWord a_seenNumber a_order a_image a_wordBy)[i]?) [2, 3, 4, 5, 6]) (z_rV (rest := []) hx hb hml hown hcx hl.1 (c_X12_ordersOf l D cI h_t r_t u3.2 a_rows 0 u4 hu4 _) tl_X12_188 ti_X12_ordersOf tz_X12_ordersOf tn_X12 tc_X12_ordersOf tm_X12_ordersOf rfl rfl ⟨Nat.le_of_ble_eq_true rfl, Nat.le_of_ble_eq_true rfl⟩ hK hX hS hA hP hD [0, 1] rfl rfl 0 rfl rfl rfl rfl (Nat.le_of_ble_eq_true rfl) dX12_explained_23 ⟨Nat.zero_le _, Nat.zero_le _⟩) hP hD hS hA [0, 1] [2, 3, 4, 5, 6] [5, 6, 0, 1, 2, 3, 4] rfl rfl rfl (by decide) rfl rfl (fun H locs hP hD hS => ?_)
    refine lv_ldc2 hx hb hown (hts _ tk_X12_192) dX12_explained_26 ?_
    refine W.lcmp hx hb dX12_explained_29 ?_
    refine z_if_le (tgt := 36) hx hb dX12_explained_30 (by decide) hf (fun hf => ?_) (fun hf => ?_)
    · refine lv_aload_n hx hb dX12_explained_36 rfl (lv_at hl 0 rfl) ?_
      refine lv_iconst (v := (-1)) hx hb dX12_explained_37 (by decide) ?_
      obtain ⟨u5, hu5, hf⟩ := bd_some hf
      refine z_ci (ws1 := w_X12_explained h_t r_t u5.2.1 cI a_rows a_seenWord a_seenNumber u5.2.2.1 u5.2.2.2.1 u5.2.2.2.2) (wr := List.filterMap (fun i : Nat => (w_X12_explained h_t r_t u3.2 cI a_rows a_seenWord a_seenNumber a_order a_image a_wordBy)[i]?) []) (z_rV (rest := []) hx hb hml hown hcx hl.1 (c_X12_fits l D cI h_t r_t u3.2 a_rows a_seenWord a_seenNumber a_order a_image a_wordBy (-1) u5 hu5 _) tl_X12_391 ti_X12_fits tz_X12_fits tn_X12 tc_X12_fits tm_X12_fits rfl rfl ⟨Nat.le_of_ble_eq_true rfl, Nat.le_of_ble_eq_true rfl⟩ hK hX hS hA hP hD [0, 1, 2, 3, 4, 5, 6] rfl rfl 0 rfl rfl rfl rfl (Nat.le_of_ble_eq_true rfl) dX12_explained_38 ⟨Nat.zero_le _, Nat.zero_le _⟩) hP hD hS hA [0, 1, 2, 3, 4, 5, 6] [] [0, 1, 2, 3, 4, 5, 6] rfl rfl rfl (by decide) rfl rfl (fun H locs hP hD hS => ?_)
      refine lv_istore_n (lv' := [(2, .int u5.1), (0, .ref h_t), (1, .int p1)]) hx hb dX12_explained_41 rfl hl (by decide) rfl (fun ls hl => ?_)
      refine lv_iload_n hx hb dX12_explained_42 rfl (lv_at hl 2 rfl) ?_
      refine z_if_ne (tgt := 50) hx hb dX12_explained_43 (by decide) hf (fun hf => ?_) (fun hf => ?_)
      · refine lv_aload_n hx hb dX12_explained_50 rfl (lv_at hl 1 rfl) ?_
        refine z_get (ci := 12) (C := RX12) (T := TX12) (N := 51) (v := .int (u5.2.1 48)) hx hb hts inT_X12 hown hK hP 0 rfl rfl 48 (by decide) tf_X12_385 rfl dX12_explained_51 ?_
        exact hret ((u5.2.1 48), u5.2.1, u5.2.2.1, u5.2.2.2.1, u5.2.2.2.2) _ _ _ _ hf hP hD hS dX12_explained_54
      · refine lv_iload_n hx hb dX12_explained_46 rfl (lv_at hl 0 rfl) ?_
        refine lv_goto (tgt := 54) hx hb dX12_explained_47 (by decide) ?_
        exact hret (u5.1, u5.2.1, u5.2.2.1, u5.2.2.2.1, u5.2.2.2.2) _ _ _ _ hf hP hD hS dX12_explained_54
    · refine lv_bipush (v := (-2)) hx hb dX12_explained_33 (by decide) ?_
      exact hret ((-2), u3.2, a_order, a_image, a_wordBy) _ _ _ _ hf hP hD hS dX12_explained_35
  · refine lv_iconst (v := 0) hx hb dX12_explained_19 (by decide) ?_
    exact hret (0, u3.2, a_order, a_image, a_wordBy) _ _ _ _ hf hP hD hS dX12_explained_20
abbrev w_X12_unlike (h_t : Nat) (r_t : Nat → Nat) (F_t : Nat → Int32) (cI : ClassId) (a_wordBy : Nat → Int32) : va_W := [(h_t, .inr (12, o_X12 r_t F_t)), ((r_t 47), .inl (cI, 2000, .inl a_wordBy))]
abbrev rm_X12_unlike : Room := { frames := 0, cells := 0, slots := 0, locals := 0 }
def m_X12_unlike_j63 (a_wordBy : Nat → Int32) (p1 : Int32) (k4 : Int32 → Int32 → Option (Int32)) (x2 : Int32) (x3 : Int32) : Option (Int32) :=
  nm (x3 + 1) fun v1 =>
  k4 x2 v1
def m_X12_unlike_j55 (a_wordBy : Nat → Int32) (p1 : Int32) (k4 : Int32 → Int32 → Option (Int32)) (x2 : Int32) (x3 : Int32) (x4 : Int32) : Option (Int32) :=
  if x4 = 0 then (
  m_X12_unlike_j63 a_wordBy p1 k4 x2 x3)
  else (
  nm (x2 + 1) fun v2 =>
  m_X12_unlike_j63 a_wordBy p1 k4 v2 x3)
def m_X12_unlike_j47 (a_wordBy : Nat → Int32) (p1 : Int32) (k15 : Int32 → Int32 → Int32 → Int32 → Option (Int32)) (x2 : Int32) (x3 : Int32) (x5 : Int32) (s0 : Int32) : Option (Int32) :=
  nm (x5 + 1) fun v5 =>
  k15 x2 x3 s0 v5
def m_X12_unlike_w15 (a_wordBy : Nat → Int32) (p1 : Int32) (k55 : Int32 → Int32 → Int32 → Option (Int32)) : Nat → Int32 → Int32 → Int32 → Int32 → Option (Int32)
  | 0, _, _, _, _ => none
  | n15 + 1, x2, x3, x4, x5 =>
    if x3 ≤ x5 then (
    k55 x2 x3 x4)
    else (
    if x4 = 0 then (
    k55 x2 x3 x4)
    else (
    rd a_wordBy 2000 x5 fun y3 =>
    rd a_wordBy 2000 x3 fun y4 =>
    if y3 = y4 then (
    m_X12_unlike_j47 a_wordBy p1 (m_X12_unlike_w15 a_wordBy p1 k55 n15) x2 x3 x5 0)
    else (
    m_X12_unlike_j47 a_wordBy p1 (m_X12_unlike_w15 a_wordBy p1 k55 n15) x2 x3 x5 1)))
def m_X12_unlike_w4 (a_wordBy : Nat → Int32) (p1 : Int32) : Nat → Int32 → Int32 → Option (Int32)
  | 0, _, _ => none
  | n4 + 1, x2, x3 =>
    if p1 ≤ x3 then (
    some x2)
    else (
    m_X12_unlike_w15 a_wordBy p1 (m_X12_unlike_j55 a_wordBy p1 (m_X12_unlike_w4 a_wordBy p1 n4)) fuelN x2 x3 1 0)
def m_X12_unlike (a_wordBy : Nat → Int32) (p1 : Int32) : Option (Int32) :=
  m_X12_unlike_w4 a_wordBy p1 fuelN 0 0
set_option maxHeartbeats 4000000 in
set_option maxRecDepth 100000 in
theorem c_X12_unlike (l : Launch) (D : va_G) (cI : ClassId) (h_t : Nat) (r_t : Nat → Nat) (F_t : Nat → Int32) (a_wordBy : Nat → Int32) (p1 : Int32) (Rr : Int32) (hf : m_X12_unlike a_wordBy p1 = some Rr) : CTi l yX12_unlike (Cond.code yX12_unlike cX12_unlike 6 (some .int)) rm_X12_unlike D cI [.ref h_t, .int p1] (w_X12_unlike h_t r_t F_t cI a_wordBy) Rr (w_X12_unlike h_t r_t F_t cI a_wordBy) := by
  refine z_begin_i (own := RX12) (ρ := Int32) (fun u => w_X12_unlike h_t r_t F_t cI a_wordBy) (fun u => u) (by decide +kernel) rfl (Nat.le_of_ble_eq_true rfl) ?_
  intro p e s m args below meth c ls Q A hx hb hml hts hcx hown hK hX hA hP hD hS hl hret
  have hl : lv_has ls 6 [(0, .ref h_t), (1, .int p1)] := hl
  have hf := (m_X12_unlike.eq_1 _ _).symm.trans hf
  have L4 : ∀ (n4 : Nat) (x2 : Int32) (x3 : Int32) (H : Heap) (locs : List Loc) (ls : Array Slot), m_X12_unlike_w4 a_wordBy p1 n4 x2 x3 = some Rr → va_P D vwCl (w_X12_unlike h_t r_t F_t cI a_wordBy) H → va_D A (w_X12_unlike h_t r_t F_t cI a_wordBy) → va_S A s.heap H locs → lv_has ls 6 [(0, .ref h_t), (1, .int p1), (2, .int x2), (3, .int x3)] → W p l e rm_X12_unlike s m args below meth c H locs 0 0 Q (F0 m 4 ls []) := by
    intro n4
    induction n4 with
    | zero => intro x2 x3 H locs ls hf; cases (show (none : Option _) = some Rr from hf)
    | succ n4 ih4 =>
      intro x2 x3 H locs ls hf hP hD hS hl
      have hf := (m_X12_unlike_w4.eq_2 _ _ _ _ _).symm.trans hf
      have L63 : ∀ (x2 : Int32) (x3 : Int32) (H : Heap) (locs : List Loc) (ls : Array Slot), m_X12_unlike_j63 a_wordBy p1 (m_X12_unlike_w4 a_wordBy p1 n4) x2 x3 = some Rr → va_P D vwCl (w_X12_unlike h_t r_t F_t cI a_wordBy) H → va_D A (w_X12_unlike h_t r_t F_t cI a_wordBy) → va_S A s.heap H locs → lv_has ls 6 [(0, .ref h_t), (1, .int p1), (2, .int x2), (3, .int x3)] → W p l e rm_X12_unlike s m args below meth c H locs 0 0 Q (F0 m 63 ls []) := by
        intro x2 x3 H locs ls hf hP hD hS hl
        have hf := (m_X12_unlike_j63.eq_1 _ _ _ _ _).symm.trans hf
        refine z_iinc (k0 := 3) (fun z => [(3, .int z), (0, .ref h_t), (1, .int p1), (2, .int x2)]) hx hb dX12_unlike_63 hl rfl (by decide) (by decide) (fun _ => rfl) hf (fun v1 ls hf hl => ?_)
        refine lv_goto (tgt := 4) hx hb dX12_unlike_66 (by decide) ?_
        exact ih4 x2 v1 _ _ _ hf hP hD hS (lv_sub hl [1, 2, 3, 0] rfl)
      have L55 : ∀ (x2 : Int32) (x3 : Int32) (x4 : Int32) (H : Heap) (locs : List Loc) (ls : Array Slot), m_X12_unlike_j55 a_wordBy p1 (m_X12_unlike_w4 a_wordBy p1 n4) x2 x3 x4 = some Rr → va_P D vwCl (w_X12_unlike h_t r_t F_t cI a_wordBy) H → va_D A (w_X12_unlike h_t r_t F_t cI a_wordBy) → va_S A s.heap H locs → lv_has ls 6 [(0, .ref h_t), (1, .int p1), (2, .int x2), (3, .int x3), (4, .int x4)] → W p l e rm_X12_unlike s m args below meth c H locs 0 0 Q (F0 m 55 ls []) := by
        intro x2 x3 x4 H locs ls hf hP hD hS hl
        have hf := (m_X12_unlike_j55.eq_1 _ _ _ _ _ _).symm.trans hf
        refine lv_iload hx hb dX12_unlike_55 (lv_at hl 4 rfl) ?_
        refine z_if_eq (tgt := 63) hx hb dX12_unlike_57 (by decide) hf (fun hf => ?_) (fun hf => ?_)
        · exact L63 x2 x3 _ _ _ hf hP hD hS (lv_sub hl [0, 1, 2, 3] rfl)
        · refine z_iinc (k0 := 2) (fun z => [(2, .int z), (0, .ref h_t), (1, .int p1), (3, .int x3), (4, .int x4)]) hx hb dX12_unlike_60 hl rfl (by decide) (by decide) (fun _ => rfl) hf (fun v2 ls hf hl => ?_)
          exact L63 v2 x3 _ _ _ hf hP hD hS (lv_sub hl [1, 2, 0, 3] rfl)
      have L15 : ∀ (n15 : Nat) (x2 : Int32) (x3 : Int32) (x4 : Int32) (x5 : Int32) (H : Heap) (locs : List Loc) (ls : Array Slot), m_X12_unlike_w15 a_wordBy p1 (m_X12_unlike_j55 a_wordBy p1 (m_X12_unlike_w4 a_wordBy p1 n4)) n15 x2 x3 x4 x5 = some Rr → va_P D vwCl (w_X12_unlike h_t r_t F_t cI a_wordBy) H → va_D A (w_X12_unlike h_t r_t F_t cI a_wordBy) → va_S A s.heap H locs → lv_has ls 6 [(0, .ref h_t), (1, .int p1), (2, .int x2), (3, .int x3), (4, .int x4), (5, .int x5)] → W p l e rm_X12_unlike s m args below meth c H locs 0 0 Q (F0 m 15 ls []) := by
        intro n15
        induction n15 with
        | zero => intro x2 x3 x4 x5 H locs ls hf; cases (show (none : Option _) = some Rr from hf)
        | succ n15 ih15 =>
          intro x2 x3 x4 x5 H locs ls hf hP hD hS hl
          have hf := (m_X12_unlike_w15.eq_2 _ _ _ _ _ _ _ _).symm.trans hf
          have L47 : ∀ (x2 : Int32) (x3 : Int32) (x5 : Int32) (s0 : Int32) (H : Heap) (locs : List Loc) (ls : Array Slot), m_X12_unlike_j47 a_wordBy p1 (m_X12_unlike_w15 a_wordBy p1 (m_X12_unlike_j55 a_wordBy p1 (m_X12_unlike_w4 a_wordBy p1 n4)) n15) x2 x3 x5 s0 = some Rr → va_P D vwCl (w_X12_unlike h_t r_t F_t cI a_wordBy) H → va_D A (w_X12_unlike h_t r_t F_t cI a_wordBy) → va_S A s.heap H locs → lv_has ls 6 [(0, .ref h_t), (1, .int p1), (2, .int x2), (3, .int x3), (5, .int x5)] → W p l e rm_X12_unlike s m args below meth c H locs 0 0 Q (F0 m 47 ls [.int s0]) := by
            intro x2 x3 x5 s0 H locs ls hf hP hD hS hl
            have hf := (m_X12_unlike_j47.eq_1 _ _ _ _ _ _ _).symm.trans hf
            refine lv_istore (lv' := [(4, .int s0), (0, .ref h_t), (1, .int p1), (2, .int x2), (3, .int x3), (5, .int x5)]) hx hb dX12_unlike_47 hl (by decide) rfl (fun ls hl => ?_)
            refine z_iinc (k0 := 5) (fun z => [(5, .int z), (4, .int s0), (0, .ref h_t), (1, .int p1), (2, .int x2), (3, .int x3)]) hx hb dX12_unlike_49 hl rfl (by decide) (by decide) (fun _ => rfl) hf (fun v5 ls hf hl => ?_)
            refine lv_goto (tgt := 15) hx hb dX12_unlike_52 (by decide) ?_
            exact ih15 x2 x3 s0 v5 _ _ _ hf hP hD hS (lv_sub hl [2, 3, 4, 5, 1, 0] rfl)
          refine lv_iload hx hb dX12_unlike_15 (lv_at hl 5 rfl) ?_
          refine lv_iload_n hx hb dX12_unlike_17 rfl (lv_at hl 3 rfl) ?_
          refine z_icmp_ge (tgt := 55) hx hb dX12_unlike_18 (by decide) hf (fun hf => ?_) (fun hf => ?_)
          · exact L55 x2 x3 x4 _ _ _ hf hP hD hS (lv_sub hl [0, 1, 2, 3, 4] rfl)
          · refine lv_iload hx hb dX12_unlike_21 (lv_at hl 4 rfl) ?_
            refine z_if_eq (tgt := 55) hx hb dX12_unlike_23 (by decide) hf (fun hf => ?_) (fun hf => ?_)
            · exact L55 x2 x3 x4 _ _ _ hf hP hD hS (lv_sub hl [0, 1, 2, 3, 4] rfl)
            · refine lv_aload_n hx hb dX12_unlike_26 rfl (lv_at hl 0 rfl) ?_
              refine z_get (ci := 12) (C := RX12) (T := TX12) (N := 51) (v := .ref (r_t 47)) hx hb hts inT_X12 hown hK hP 0 rfl rfl 47 (by decide) tf_X12_57 rfl dX12_unlike_27 ?_
              refine lv_iload hx hb dX12_unlike_30 (lv_at hl 5 rfl) ?_
              refine z_iald hx hb hK hP 1 rfl dX12_unlike_32 hf (fun y3 hf => ?_)
              refine lv_aload_n hx hb dX12_unlike_33 rfl (lv_at hl 0 rfl) ?_
              refine z_get (ci := 12) (C := RX12) (T := TX12) (N := 51) (v := .ref (r_t 47)) hx hb hts inT_X12 hown hK hP 0 rfl rfl 47 (by decide) tf_X12_57 rfl dX12_unlike_34 ?_
              refine lv_iload_n hx hb dX12_unlike_37 rfl (lv_at hl 3 rfl) ?_
              refine z_iald hx hb hK hP 1 rfl dX12_unlike_38 hf (fun y4 hf => ?_)
              refine z_icmp_eq (tgt := 46) hx hb dX12_unlike_39 (by decide) hf (fun hf => ?_) (fun hf => ?_)
              · refine lv_iconst (v := 0) hx hb dX12_unlike_46 (by decide) ?_
                exact L47 x2 x3 x5 0 _ _ _ hf hP hD hS (lv_sub hl [0, 1, 2, 3, 5] rfl)
              · refine lv_iconst (v := 1) hx hb dX12_unlike_42 (by decide) ?_
                refine lv_goto (tgt := 47) hx hb dX12_unlike_43 (by decide) ?_
                exact L47 x2 x3 x5 1 _ _ _ hf hP hD hS (lv_sub hl [0, 1, 2, 3, 5] rfl)
      refine lv_iload_n hx hb dX12_unlike_4 rfl (lv_at hl 3 rfl) ?_
      refine lv_iload_n hx hb dX12_unlike_5 rfl (lv_at hl 1 rfl) ?_
      refine z_icmp_ge (tgt := 69) hx hb dX12_unlike_6 (by decide) hf (fun hf => ?_) (fun hf => ?_)
      · refine lv_iload_n hx hb dX12_unlike_69 rfl (lv_at hl 2 rfl) ?_
        exact hret x2 _ _ _ _ hf hP hD hS dX12_unlike_70
      · refine lv_iconst (v := 1) hx hb dX12_unlike_9 (by decide) ?_
        refine lv_istore (lv' := [(4, .int 1), (0, .ref h_t), (1, .int p1), (2, .int x2), (3, .int x3)]) hx hb dX12_unlike_10 hl (by decide) rfl (fun ls hl => ?_)
        refine lv_iconst (v := 0) hx hb dX12_unlike_12 (by decide) ?_
        refine lv_istore (lv' := [(5, .int 0), (4, .int 1), (0, .ref h_t), (1, .int p1), (2, .int x2), (3, .int x3)]) hx hb dX12_unlike_13 hl (by decide) rfl (fun ls hl => ?_)
        exact L15 fuelN x2 x3 1 0 _ _ _ hf hP hD hS (lv_sub hl [2, 3, 4, 5, 1, 0] rfl)
  refine lv_iconst (v := 0) hx hb dX12_unlike_0 (by decide) ?_
  refine lv_istore_n (lv' := [(2, .int 0), (0, .ref h_t), (1, .int p1)]) hx hb dX12_unlike_1 rfl hl (by decide) rfl (fun ls hl => ?_)
  refine lv_iconst (v := 0) hx hb dX12_unlike_2 (by decide) ?_
  refine lv_istore_n (lv' := [(3, .int 0), (2, .int 0), (0, .ref h_t), (1, .int p1)]) hx hb dX12_unlike_3 rfl hl (by decide) rfl (fun ls hl => ?_)
  exact L4 fuelN 0 0 _ _ _ hf hP hD hS (lv_sub hl [2, 3, 1, 0] rfl)
abbrev w_X12_isPending (h_t : Nat) (r_t : Nat → Nat) (F_t : Nat → Int32) (cI : ClassId) (a_rows : Nat → Int32) : va_W := [(h_t, .inr (12, o_X12 r_t F_t)), ((r_t 0), .inl (cI, 66100, .inl a_rows))]
abbrev rm_X12_isPending : Room := { frames := 0, cells := 0, slots := 0, locals := 0 }
def m_X12_isPending_w6 (a_rows : Nat → Int32) (p1 : Int32) : Nat → Int32 → Int32 → Option (Int32)
  | 0, _, _ => none
  | n6 + 1, x2, x3 =>
    rd a_rows 66100 (64 + x2) fun y2 =>
    if y2 ≤ x3 then (
    some 0)
    else (
    rd a_rows 66100 ((96 + (12 * x2)) + (2 * x3)) fun y3 =>
    if y3 = p1 then (
    some 1)
    else (
    nm (x3 + 1) fun v4 =>
    m_X12_isPending_w6 a_rows p1 n6 x2 v4))
def m_X12_isPending (a_rows : Nat → Int32) (p1 : Int32) : Option (Int32) :=
  nm (p1 / 4) fun v1 =>
  m_X12_isPending_w6 a_rows p1 fuelN v1 0
set_option maxHeartbeats 4000000 in
set_option maxRecDepth 100000 in
theorem c_X12_isPending (l : Launch) (D : va_G) (cI : ClassId) (h_t : Nat) (r_t : Nat → Nat) (F_t : Nat → Int32) (a_rows : Nat → Int32) (p1 : Int32) (Rr : Int32) (hf : m_X12_isPending a_rows p1 = some Rr) : CTi l yX12_isPending (Cond.code yX12_isPending cX12_isPending 4 (some .boolean)) rm_X12_isPending D cI [.ref h_t, .int p1] (w_X12_isPending h_t r_t F_t cI a_rows) Rr (w_X12_isPending h_t r_t F_t cI a_rows) := by
  refine z_begin_z (own := RX12) (ρ := Int32) (fun u => w_X12_isPending h_t r_t F_t cI a_rows) (fun u => u) (by decide +kernel) rfl (Nat.le_of_ble_eq_true rfl) ?_
  intro p e s m args below meth c ls Q A hx hb hml hts hcx hown hK hX hA hP hD hS hl hret
  have hl : lv_has ls 4 [(0, .ref h_t), (1, .int p1)] := hl
  have hf := (m_X12_isPending.eq_1 _ _).symm.trans hf
  have L6 : ∀ (n6 : Nat) (x2 : Int32) (x3 : Int32) (H : Heap) (locs : List Loc) (ls : Array Slot), m_X12_isPending_w6 a_rows p1 n6 x2 x3 = some Rr → va_P D vwCl (w_X12_isPending h_t r_t F_t cI a_rows) H → va_D A (w_X12_isPending h_t r_t F_t cI a_rows) → va_S A s.heap H locs → lv_has ls 4 [(0, .ref h_t), (1, .int p1), (2, .int x2), (3, .int x3)] → W p l e rm_X12_isPending s m args below meth c H locs 0 0 Q (F0 m 6 ls []) := by
    intro n6
    induction n6 with
    | zero => intro x2 x3 H locs ls hf; cases (show (none : Option _) = some Rr from hf)
    | succ n6 ih6 =>
      intro x2 x3 H locs ls hf hP hD hS hl
      have hf := (m_X12_isPending_w6.eq_2 _ _ _ _ _).symm.trans hf
      refine lv_iload_n hx hb dX12_isPending_6 rfl (lv_at hl 3 rfl) ?_
      refine lv_aload_n hx hb dX12_isPending_7 rfl (lv_at hl 0 rfl) ?_
      refine z_get (ci := 12) (C := RX12) (T := TX12) (N := 51) (v := .ref (r_t 0)) hx hb hts inT_X12 hown hK hP 0 rfl rfl 0 (by decide) tf_X12_10 rfl dX12_isPending_8 ?_
      refine lv_bipush (v := 64) hx hb dX12_isPending_11 (by decide) ?_
      refine lv_iload_n hx hb dX12_isPending_13 rfl (lv_at hl 2 rfl) ?_
      refine lv_iadd hx hb dX12_isPending_14 ?_
      refine z_iald hx hb hK hP 1 rfl dX12_isPending_15 hf (fun y2 hf => ?_)
      refine z_icmp_ge (tgt := 47) hx hb dX12_isPending_16 (by decide) hf (fun hf => ?_) (fun hf => ?_)
      · refine lv_iconst (v := 0) hx hb dX12_isPending_47 (by decide) ?_
        exact hret 0 _ _ _ _ (Or.inl rfl) hf hP hD hS dX12_isPending_48
      · refine lv_aload_n hx hb dX12_isPending_19 rfl (lv_at hl 0 rfl) ?_
        refine z_get (ci := 12) (C := RX12) (T := TX12) (N := 51) (v := .ref (r_t 0)) hx hb hts inT_X12 hown hK hP 0 rfl rfl 0 (by decide) tf_X12_10 rfl dX12_isPending_20 ?_
        refine lv_bipush (v := 96) hx hb dX12_isPending_23 (by decide) ?_
        refine lv_bipush (v := 12) hx hb dX12_isPending_25 (by decide) ?_
        refine lv_iload_n hx hb dX12_isPending_27 rfl (lv_at hl 2 rfl) ?_
        refine lv_imul hx hb dX12_isPending_28 ?_
        refine lv_iadd hx hb dX12_isPending_29 ?_
        refine lv_iconst (v := 2) hx hb dX12_isPending_30 (by decide) ?_
        refine lv_iload_n hx hb dX12_isPending_31 rfl (lv_at hl 3 rfl) ?_
        refine lv_imul hx hb dX12_isPending_32 ?_
        refine lv_iadd hx hb dX12_isPending_33 ?_
        refine z_iald hx hb hK hP 1 rfl dX12_isPending_34 hf (fun y3 hf => ?_)
        refine lv_iload_n hx hb dX12_isPending_35 rfl (lv_at hl 1 rfl) ?_
        refine z_icmp_ne (tgt := 41) hx hb dX12_isPending_36 (by decide) hf (fun hf => ?_) (fun hf => ?_)
        · refine z_iinc (k0 := 3) (fun z => [(3, .int z), (0, .ref h_t), (1, .int p1), (2, .int x2)]) hx hb dX12_isPending_41 hl rfl (by decide) (by decide) (fun _ => rfl) hf (fun v4 ls hf hl => ?_)
          refine lv_goto (tgt := 6) hx hb dX12_isPending_44 (by decide) ?_
          exact ih6 x2 v4 _ _ _ hf hP hD hS (lv_sub hl [1, 2, 3, 0] rfl)
        · refine lv_iconst (v := 1) hx hb dX12_isPending_39 (by decide) ?_
          exact hret 1 _ _ _ _ (Or.inr rfl) hf hP hD hS dX12_isPending_40
  refine lv_iload_n hx hb dX12_isPending_0 rfl (lv_at hl 1 rfl) ?_
  refine lv_iconst (v := 4) hx hb dX12_isPending_1 (by decide) ?_
  refine lv_idiv hx hb dX12_isPending_2 (by decide) ?_
  refine z_istore_n (fun z => [(2, .int z), (0, .ref h_t), (1, .int p1)]) hx hb dX12_isPending_3 rfl hl (by decide) (fun _ => rfl) hf (fun v1 ls hf hl => ?_)
  refine lv_iconst (v := 0) hx hb dX12_isPending_4 (by decide) ?_
  refine lv_istore_n (lv' := [(3, .int 0), (2, .int v1), (0, .ref h_t), (1, .int p1)]) hx hb dX12_isPending_5 rfl hl (by decide) rfl (fun ls hl => ?_)
  exact L6 fuelN v1 0 _ _ _ hf hP hD hS (lv_sub hl [2, 3, 1, 0] rfl)
abbrev w_X12_look (h_t : Nat) (r_t : Nat → Nat) (F_t : Nat → Int32) (cI : ClassId) (a_rows : Nat → Int32) (a_seenWord : Nat → Int32) (a_seenNumber : Nat → Int32) (a_order : Nat → Int32) (a_image : Nat → Int32) (a_wordBy : Nat → Int32) : va_W := [(h_t, .inr (12, o_X12 r_t F_t)), ((r_t 0), .inl (cI, 66100, .inl a_rows)), ((r_t 1), .inl (cI, 16, .inl a_seenWord)), ((r_t 2), .inl (cI, 16, .inl a_seenNumber)), ((r_t 24), .inl (cI, 16, .inl a_order)), ((r_t 25), .inl (cI, 64, .inl a_image)), ((r_t 47), .inl (cI, 2000, .inl a_wordBy))]
abbrev rm_X12_look : Room := { frames := 3, cells := 0, slots := 0, locals := 70 }
def m_X12_look_j101 (a_rows : Nat → Int32) (a_seenWord : Nat → Int32) (a_seenNumber : Nat → Int32) (p1 : Int32) (x2 : Int32) (x3 : Int32) (F_t : Nat → Int32) (a_order : Nat → Int32) (a_image : Nat → Int32) (a_wordBy : Nat → Int32) : Option (Int32 × (Nat → Int32) × (Nat → Int32) × (Nat → Int32) × (Nat → Int32)) :=
  if p1 = 0 then (
  some (x2, F_t, a_order, a_image, a_wordBy))
  else (
  some (x3, F_t, a_order, a_image, a_wordBy))
def m_X12_look_j95 (a_rows : Nat → Int32) (a_seenWord : Nat → Int32) (a_seenNumber : Nat → Int32) (p1 : Int32) (k48 : Int32 → Int32 → Int32 → (Nat → Int32) → (Nat → Int32) → (Nat → Int32) → (Nat → Int32) → Option (Int32 × (Nat → Int32) × (Nat → Int32) × (Nat → Int32) × (Nat → Int32))) (x2 : Int32) (x3 : Int32) (x4 : Int32) (F_t : Nat → Int32) (a_order : Nat → Int32) (a_image : Nat → Int32) (a_wordBy : Nat → Int32) : Option (Int32 × (Nat → Int32) × (Nat → Int32) × (Nat → Int32) × (Nat → Int32)) :=
  nm (x4 + 1) fun v7 =>
  k48 x2 x3 v7 F_t a_order a_image a_wordBy
def m_X12_look_j78 (a_rows : Nat → Int32) (a_seenWord : Nat → Int32) (a_seenNumber : Nat → Int32) (p1 : Int32) (k48 : Int32 → Int32 → Int32 → (Nat → Int32) → (Nat → Int32) → (Nat → Int32) → (Nat → Int32) → Option (Int32 × (Nat → Int32) × (Nat → Int32) × (Nat → Int32) × (Nat → Int32))) (x2 : Int32) (x3 : Int32) (x4 : Int32) (s0 : Int32) (F_t : Nat → Int32) (a_order : Nat → Int32) (a_image : Nat → Int32) (a_wordBy : Nat → Int32) : Option (Int32 × (Nat → Int32) × (Nat → Int32) × (Nat → Int32) × (Nat → Int32)) :=
  if x3 < s0 then (
  m_X12_look_j95 a_rows a_seenWord a_seenNumber p1 k48 x4 s0 x4 F_t a_order a_image a_wordBy)
  else (
  m_X12_look_j95 a_rows a_seenWord a_seenNumber p1 k48 x2 x3 x4 F_t a_order a_image a_wordBy)
def m_X12_look_w48 (a_rows : Nat → Int32) (a_seenWord : Nat → Int32) (a_seenNumber : Nat → Int32) (p1 : Int32) (k101 : Int32 → Int32 → (Nat → Int32) → (Nat → Int32) → (Nat → Int32) → (Nat → Int32) → Option (Int32 × (Nat → Int32) × (Nat → Int32) × (Nat → Int32) × (Nat → Int32))) : Nat → Int32 → Int32 → Int32 → (Nat → Int32) → (Nat → Int32) → (Nat → Int32) → (Nat → Int32) → Option (Int32 × (Nat → Int32) × (Nat → Int32) × (Nat → Int32) × (Nat → Int32))
  | 0, _, _, _, _, _, _, _ => none
  | n48 + 1, x2, x3, x4, F_t, a_order, a_image, a_wordBy =>
    if 64 ≤ x4 then (
    k101 x2 x3 F_t a_order a_image a_wordBy)
    else (
    bd (m_X12_isPending a_rows x4) fun u6 =>
    if u6 = 0 then (
    m_X12_look_j78 a_rows a_seenWord a_seenNumber p1 (m_X12_look_w48 a_rows a_seenWord a_seenNumber p1 k101 n48) x2 x3 x4 1 F_t a_order a_image a_wordBy)
    else (
    bd (m_X12_fits F_t a_rows a_seenWord a_seenNumber a_order a_image a_wordBy x4) fun u8 =>
    bd (m_X12_unlike u8.2.2.2.2 u8.1) fun u9 =>
    m_X12_look_j78 a_rows a_seenWord a_seenNumber p1 (m_X12_look_w48 a_rows a_seenWord a_seenNumber p1 k101 n48) x2 x3 x4 u9 u8.2.1 u8.2.2.1 u8.2.2.2.1 u8.2.2.2.2))
def m_X12_look (F_t : Nat → Int32) (a_rows : Nat → Int32) (a_seenWord : Nat → Int32) (a_seenNumber : Nat → Int32) (a_order : Nat → Int32) (a_image : Nat → Int32) (a_wordBy : Nat → Int32) (p1 : Int32) : Option (Int32 × (Nat → Int32) × (Nat → Int32) × (Nat → Int32) × (Nat → Int32)) :=
  nm (upd F_t 4 0) fun F1 =>
  bd (m_X12_within p1 0 1) fun u2 =>
  bd (m_X12_right F1 u2 1) fun u3 =>
  if u3.1 = 0 then (
  some (0, u3.2, a_order, a_image, a_wordBy))
  else (
  bd (m_X12_ordersOf a_rows 0) fun u4 =>
  if 0 < (lg_cmp u4 2000) then (
  m_X12_look_j101 a_rows a_seenWord a_seenNumber p1 (-1) 0 u3.2 a_order a_image a_wordBy)
  else (
  bd (m_X12_fits u3.2 a_rows a_seenWord a_seenNumber a_order a_image a_wordBy (-1)) fun u5 =>
  if u5.1 ≤ 0 then (
  m_X12_look_j101 a_rows a_seenWord a_seenNumber p1 (-1) 0 u5.2.1 u5.2.2.1 u5.2.2.2.1 u5.2.2.2.2)
  else (
  m_X12_look_w48 a_rows a_seenWord a_seenNumber p1 (m_X12_look_j101 a_rows a_seenWord a_seenNumber p1) fuelN (-1) 0 0 u5.2.1 u5.2.2.1 u5.2.2.2.1 u5.2.2.2.2)))
set_option maxHeartbeats 4000000 in
set_option maxRecDepth 100000 in
theorem c_X12_look (l : Launch) (D : va_G) (cI : ClassId) (h_t : Nat) (r_t : Nat → Nat) (F_t : Nat → Int32) (a_rows : Nat → Int32) (a_seenWord : Nat → Int32) (a_seenNumber : Nat → Int32) (a_order : Nat → Int32) (a_image : Nat → Int32) (a_wordBy : Nat → Int32) (p1 : Int32) (Rr : Int32 × (Nat → Int32) × (Nat → Int32) × (Nat → Int32) × (Nat → Int32)) (hf : m_X12_look F_t a_rows a_seenWord a_seenNumber a_order a_image a_wordBy p1 = some Rr) : CTi l yX12_look (Cond.code yX12_look cX12_look 6 (some .int)) rm_X12_look D cI [.ref h_t, .int p1] (w_X12_look h_t r_t F_t cI a_rows a_seenWord a_seenNumber a_order a_image a_wordBy) Rr.1 (w_X12_look h_t r_t Rr.2.1 cI a_rows a_seenWord a_seenNumber Rr.2.2.1 Rr.2.2.2.1 Rr.2.2.2.2) := by
  refine z_begin_i (own := RX12) (ρ := Int32 × (Nat → Int32) × (Nat → Int32) × (Nat → Int32) × (Nat → Int32)) (fun u => w_X12_look h_t r_t u.2.1 cI a_rows a_seenWord a_seenNumber u.2.2.1 u.2.2.2.1 u.2.2.2.2) (fun u => u.1) (by decide +kernel) rfl (Nat.le_of_ble_eq_true rfl) ?_
  intro p e s m args below meth c ls Q A hx hb hml hts hcx hown hK hX hA hP hD hS hl hret
  have hl : lv_has ls 6 [(0, .ref h_t), (1, .int p1)] := hl
  have hf := (m_X12_look.eq_1 _ _ _ _ _ _ _ _).symm.trans hf
  have L101 : ∀ (x2 : Int32) (x3 : Int32) (F_t : Nat → Int32) (a_order : Nat → Int32) (a_image : Nat → Int32) (a_wordBy : Nat → Int32) (H : Heap) (locs : List Loc) (ls : Array Slot), m_X12_look_j101 a_rows a_seenWord a_seenNumber p1 x2 x3 F_t a_order a_image a_wordBy = some Rr → va_P D vwCl (w_X12_look h_t r_t F_t cI a_rows a_seenWord a_seenNumber a_order a_image a_wordBy) H → va_D A (w_X12_look h_t r_t F_t cI a_rows a_seenWord a_seenNumber a_order a_image a_wordBy) → va_S A s.heap H locs → lv_has ls 6 [(1, .int p1), (2, .int x2), (3, .int x3)] → W p l e rm_X12_look s m args below meth c H locs 0 0 Q (F0 m 101 ls []) := by
    intro x2 x3 F_t a_order a_image a_wordBy H locs ls hf hP hD hS hl
    have hf := (m_X12_look_j101.eq_1 _ _ _ _ _ _ _ _ _ _).symm.trans hf
    refine lv_iload_n hx hb dX12_look_101 rfl (lv_at hl 0 rfl) ?_
    refine z_if_ne (tgt := 109) hx hb dX12_look_102 (by decide) hf (fun hf => ?_) (fun hf => ?_)
    · refine lv_iload_n hx hb dX12_look_109 rfl (lv_at hl 2 rfl) ?_
      exact hret (x3, F_t, a_order, a_image, a_wordBy) _ _ _ _ hf hP hD hS dX12_look_110
    · refine lv_iload_n hx hb dX12_look_105 rfl (lv_at hl 1 rfl) ?_
      refine lv_goto (tgt := 110) hx hb dX12_look_106 (by decide) ?_
      exact hret (x2, F_t, a_order, a_image, a_wordBy) _ _ _ _ hf hP hD hS dX12_look_110
  have L48 : ∀ (n48 : Nat) (x2 : Int32) (x3 : Int32) (x4 : Int32) (F_t : Nat → Int32) (a_order : Nat → Int32) (a_image : Nat → Int32) (a_wordBy : Nat → Int32) (H : Heap) (locs : List Loc) (ls : Array Slot), m_X12_look_w48 a_rows a_seenWord a_seenNumber p1 (m_X12_look_j101 a_rows a_seenWord a_seenNumber p1) n48 x2 x3 x4 F_t a_order a_image a_wordBy = some Rr → va_P D vwCl (w_X12_look h_t r_t F_t cI a_rows a_seenWord a_seenNumber a_order a_image a_wordBy) H → va_D A (w_X12_look h_t r_t F_t cI a_rows a_seenWord a_seenNumber a_order a_image a_wordBy) → va_S A s.heap H locs → lv_has ls 6 [(0, .ref h_t), (1, .int p1), (2, .int x2), (3, .int x3), (4, .int x4)] → W p l e rm_X12_look s m args below meth c H locs 0 0 Q (F0 m 48 ls []) := by
    intro n48
    induction n48 with
    | zero => intro x2 x3 x4 F_t a_order a_image a_wordBy H locs ls hf; cases (show (none : Option _) = some Rr from hf)
    | succ n48 ih48 =>
      intro x2 x3 x4 F_t a_order a_image a_wordBy H locs ls hf hP hD hS hl
      have hf := (m_X12_look_w48.eq_2 _ _ _ _ _ _ _ _ _ _ _ _ _).symm.trans hf
      have L95 : ∀ (x2 : Int32) (x3 : Int32) (x4 : Int32) (F_t : Nat → Int32) (a_order : Nat → Int32) (a_image : Nat → Int32) (a_wordBy : Nat → Int32) (H : Heap) (locs : List Loc) (ls : Array Slot), m_X12_look_j95 a_rows a_seenWord a_seenNumber p1 (m_X12_look_w48 a_rows a_seenWord a_seenNumber p1 (m_X12_look_j101 a_rows a_seenWord a_seenNumber p1) n48) x2 x3 x4 F_t a_order a_image a_wordBy = some Rr → va_P D vwCl (w_X12_look h_t r_t F_t cI a_rows a_seenWord a_seenNumber a_order a_image a_wordBy) H → va_D A (w_X12_look h_t r_t F_t cI a_rows a_seenWord a_seenNumber a_order a_image a_wordBy) → va_S A s.heap H locs → lv_has ls 6 [(0, .ref h_t), (1, .int p1), (2, .int x2), (3, .int x3), (4, .int x4)] → W p l e rm_X12_look s m args below meth c H locs 0 0 Q (F0 m 95 ls []) := by
        intro x2 x3 x4 F_t a_order a_image a_wordBy H locs ls hf hP hD hS hl
        have hf := (m_X12_look_j95.eq_1 _ _ _ _ _ _ _ _ _ _ _ _).symm.trans hf
        refine z_iinc (k0 := 4) (fun z => [(4, .int z), (0, .ref h_t), (1, .int p1), (2, .int x2), (3, .int x3)]) hx hb dX12_look_95 hl rfl (by decide) (by decide) (fun _ => rfl) hf (fun v7 ls hf hl => ?_)
        refine lv_goto (tgt := 48) hx hb dX12_look_98 (by decide) ?_
        exact ih48 x2 x3 v7 F_t a_order a_image a_wordBy _ _ _ hf hP hD hS (lv_sub hl [1, 2, 3, 4, 0] rfl)
      have L78 : ∀ (x2 : Int32) (x3 : Int32) (x4 : Int32) (s0 : Int32) (F_t : Nat → Int32) (a_order : Nat → Int32) (a_image : Nat → Int32) (a_wordBy : Nat → Int32) (H : Heap) (locs : List Loc) (ls : Array Slot), m_X12_look_j78 a_rows a_seenWord a_seenNumber p1 (m_X12_look_w48 a_rows a_seenWord a_seenNumber p1 (m_X12_look_j101 a_rows a_seenWord a_seenNumber p1) n48) x2 x3 x4 s0 F_t a_order a_image a_wordBy = some Rr → va_P D vwCl (w_X12_look h_t r_t F_t cI a_rows a_seenWord a_seenNumber a_order a_image a_wordBy) H → va_D A (w_X12_look h_t r_t F_t cI a_rows a_seenWord a_seenNumber a_order a_image a_wordBy) → va_S A s.heap H locs → lv_has ls 6 [(0, .ref h_t), (1, .int p1), (2, .int x2), (3, .int x3), (4, .int x4)] → W p l e rm_X12_look s m args below meth c H locs 0 0 Q (F0 m 78 ls [.int s0]) := by
        intro x2 x3 x4 s0 F_t a_order a_image a_wordBy H locs ls hf hP hD hS hl
        have hf := (m_X12_look_j78.eq_1 _ _ _ _ _ _ _ _ _ _ _ _ _).symm.trans hf
        refine lv_istore (lv' := [(5, .int s0), (0, .ref h_t), (1, .int p1), (2, .int x2), (3, .int x3), (4, .int x4)]) hx hb dX12_look_78 hl (by decide) rfl (fun ls hl => ?_)
        refine lv_iload hx hb dX12_look_80 (lv_at hl 0 rfl) ?_
        refine lv_iload_n hx hb dX12_look_82 rfl (lv_at hl 4 rfl) ?_
        refine z_icmp_gt (tgt := 89) hx hb dX12_look_83 (by decide) hf (fun hf => ?_) (fun hf => ?_)
        · refine lv_iload hx hb dX12_look_89 (lv_at hl 5 rfl) ?_
          refine lv_istore_n (lv' := [(2, .int x4), (5, .int s0), (0, .ref h_t), (1, .int p1), (3, .int x3), (4, .int x4)]) hx hb dX12_look_91 rfl hl (by decide) rfl (fun ls hl => ?_)
          refine lv_iload hx hb dX12_look_92 (lv_at hl 1 rfl) ?_
          refine lv_istore_n (lv' := [(3, .int s0), (2, .int x4), (5, .int s0), (0, .ref h_t), (1, .int p1), (4, .int x4)]) hx hb dX12_look_94 rfl hl (by decide) rfl (fun ls hl => ?_)
          exact L95 x4 s0 x4 F_t a_order a_image a_wordBy _ _ _ hf hP hD hS (lv_sub hl [3, 4, 1, 0, 5] rfl)
        · refine lv_goto (tgt := 95) hx hb dX12_look_86 (by decide) ?_
          exact L95 x2 x3 x4 F_t a_order a_image a_wordBy _ _ _ hf hP hD hS (lv_sub hl [1, 2, 3, 4, 5] rfl)
      refine lv_iload hx hb dX12_look_48 (lv_at hl 4 rfl) ?_
      refine lv_bipush (v := 64) hx hb dX12_look_50 (by decide) ?_
      refine z_icmp_ge (tgt := 101) hx hb dX12_look_52 (by decide) hf (fun hf => ?_) (fun hf => ?_)
      · exact L101 x2 x3 F_t a_order a_image a_wordBy _ _ _ hf hP hD hS (lv_sub hl [1, 2, 3] rfl)
      · refine lv_aload_n hx hb dX12_look_55 rfl (lv_at hl 0 rfl) ?_
        refine lv_iload hx hb dX12_look_56 (lv_at hl 4 rfl) ?_
        obtain ⟨u6, hu6, hf⟩ := bd_some hf
        refine z_ci (ws1 := w_X12_look h_t r_t F_t cI a_rows a_seenWord a_seenNumber a_order a_image a_wordBy) (wr := List.filterMap (fun i : Nat => (w_X12_look h_t r_t F_t cI a_rows a_seenWord a_seenNumber a_order a_image a_wordBy)[i]?) [2, 3, 4, 5, 6]) (z_rV (rest := []) hx hb hml hown hcx hl.1 (c_X12_isPending l D cI h_t r_t F_t a_rows x4 u6 hu6 _) tl_X12_394 ti_X12_isPending tz_X12_isPending tn_X12 tc_X12_isPending tm_X12_isPending rfl rfl ⟨Nat.le_of_ble_eq_true rfl, Nat.le_of_ble_eq_true rfl⟩ hK hX hS hA hP hD [0, 1] rfl rfl 0 rfl rfl rfl rfl (Nat.le_of_ble_eq_true rfl) dX12_look_58 ⟨Nat.zero_le _, Nat.zero_le _⟩) hP hD hS hA [0, 1] [2, 3, 4, 5, 6] [5, 6, 0, 1, 2, 3, 4] rfl rfl rfl (by decide) rfl rfl (fun H locs hP hD hS => ?_)
        refine z_if_eq (tgt := 77) hx hb dX12_look_61 (by decide) hf (fun hf => ?_) (fun hf => ?_)
        · refine lv_iconst (v := 1) hx hb dX12_look_77 (by decide) ?_
          exact L78 x2 x3 x4 1 F_t a_order a_image a_wordBy _ _ _ hf hP hD hS (lv_sub hl [0, 1, 2, 3, 4] rfl)
        · refine lv_aload_n hx hb dX12_look_64 rfl (lv_at hl 0 rfl) ?_
          refine lv_aload_n hx hb dX12_look_65 rfl (lv_at hl 0 rfl) ?_
          refine lv_iload hx hb dX12_look_66 (lv_at hl 4 rfl) ?_
          obtain ⟨u8, hu8, hf⟩ := bd_some hf
          refine z_ci (ws1 := w_X12_look h_t r_t u8.2.1 cI a_rows a_seenWord a_seenNumber u8.2.2.1 u8.2.2.2.1 u8.2.2.2.2) (wr := List.filterMap (fun i : Nat => (w_X12_look h_t r_t F_t cI a_rows a_seenWord a_seenNumber a_order a_image a_wordBy)[i]?) []) (z_rV (rest := [.ref h_t]) hx hb hml hown hcx hl.1 (c_X12_fits l D cI h_t r_t F_t a_rows a_seenWord a_seenNumber a_order a_image a_wordBy x4 u8 hu8 _) tl_X12_391 ti_X12_fits tz_X12_fits tn_X12 tc_X12_fits tm_X12_fits rfl rfl ⟨Nat.le_of_ble_eq_true rfl, Nat.le_of_ble_eq_true rfl⟩ hK hX hS hA hP hD [0, 1, 2, 3, 4, 5, 6] rfl rfl 0 rfl rfl rfl rfl (Nat.le_of_ble_eq_true rfl) dX12_look_68 ⟨Nat.zero_le _, Nat.zero_le _⟩) hP hD hS hA [0, 1, 2, 3, 4, 5, 6] [] [0, 1, 2, 3, 4, 5, 6] rfl rfl rfl (by decide) rfl rfl (fun H locs hP hD hS => ?_)
          obtain ⟨u9, hu9, hf⟩ := bd_some hf
          refine z_ci (ws1 := w_X12_look h_t r_t u8.2.1 cI a_rows a_seenWord a_seenNumber u8.2.2.1 u8.2.2.2.1 u8.2.2.2.2) (wr := List.filterMap (fun i : Nat => (w_X12_look h_t r_t u8.2.1 cI a_rows a_seenWord a_seenNumber u8.2.2.1 u8.2.2.2.1 u8.2.2.2.2)[i]?) [1, 2, 3, 4, 5]) (z_rV (rest := []) hx hb hml hown hcx hl.1 (c_X12_unlike l D cI h_t r_t u8.2.1 u8.2.2.2.2 u8.1 u9 hu9 _) tl_X12_397 ti_X12_unlike tz_X12_unlike tn_X12 tc_X12_unlike tm_X12_unlike rfl rfl ⟨Nat.le_of_ble_eq_true rfl, Nat.le_of_ble_eq_true rfl⟩ hK hX hS hA hP hD [0, 6] rfl rfl 0 rfl rfl rfl rfl (Nat.le_of_ble_eq_true rfl) dX12_look_71 ⟨Nat.zero_le _, Nat.zero_le _⟩) hP hD hS hA [0, 6] [1, 2, 3, 4, 5] [5, 0, 1, 2, 3, 4, 6] rfl rfl rfl (by decide) rfl rfl (fun H locs hP hD hS => ?_)
          refine lv_goto (tgt := 78) hx hb dX12_look_74 (by decide) ?_
          exact L78 x2 x3 x4 u9 u8.2.1 u8.2.2.1 u8.2.2.2.1 u8.2.2.2.2 _ _ _ hf hP hD hS (lv_sub hl [0, 1, 2, 3, 4] rfl)
  refine lv_aload_n hx hb dX12_look_0 rfl (lv_at hl 0 rfl) ?_
  refine lv_iconst (v := 0) hx hb dX12_look_1 (by decide) ?_
  refine z_put (ci := 12) (C := RX12) (T := TX12) (N := 51) hx hb hts inT_X12 tyX12 tyX12_ok nmX12 hown hK hP hD hS 0 rfl rfl 4 (by decide) tf_X12_63 rfl (by decide +kernel) (Nat.le_of_ble_eq_true rfl) (o_X12 r_t) (o_X12_s4 _ _ _) (fun z => w_X12_look h_t r_t z cI a_rows a_seenWord a_seenNumber a_order a_image a_wordBy) (fun _ => rfl) dX12_look_2 hf (fun F1 H locs hf hP hD hS => ?_)
  refine lv_aload_n hx hb dX12_look_5 rfl (lv_at hl 0 rfl) ?_
  refine lv_iload_n hx hb dX12_look_6 rfl (lv_at hl 1 rfl) ?_
  refine lv_iconst (v := 0) hx hb dX12_look_7 (by decide) ?_
  refine lv_iconst (v := 1) hx hb dX12_look_8 (by decide) ?_
  obtain ⟨u2, hu2, hf⟩ := bd_some hf
  refine z_ci (ws1 := w_X12_look h_t r_t F1 cI a_rows a_seenWord a_seenNumber a_order a_image a_wordBy) (wr := List.filterMap (fun i : Nat => (w_X12_look h_t r_t F1 cI a_rows a_seenWord a_seenNumber a_order a_image a_wordBy)[i]?) [0, 1, 2, 3, 4, 5, 6]) (z_rS (rest := [.ref h_t]) hx hb hml hown hcx hl.1 (c_X12_within l D cI p1 0 1 u2 hu2 _) tl_X12_172 ts_X12_within tn_X12 tc_X12_within tm_X12_within rfl rfl ⟨Nat.le_of_ble_eq_true rfl, Nat.le_of_ble_eq_true rfl⟩ hK hX hS hA hP hD [] rfl rfl rfl rfl (Nat.le_of_ble_eq_true rfl) dX12_look_9 ⟨Nat.zero_le _, Nat.zero_le _⟩) hP hD hS hA [] [0, 1, 2, 3, 4, 5, 6] [0, 1, 2, 3, 4, 5, 6] rfl rfl rfl (by decide) rfl rfl (fun H locs hP hD hS => ?_)
  refine lv_iconst (v := 1) hx hb dX12_look_12 (by decide) ?_
  obtain ⟨u3, hu3, hf⟩ := bd_some hf
  refine z_ci (ws1 := w_X12_look h_t r_t u3.2 cI a_rows a_seenWord a_seenNumber a_order a_image a_wordBy) (wr := List.filterMap (fun i : Nat => (w_X12_look h_t r_t F1 cI a_rows a_seenWord a_seenNumber a_order a_image a_wordBy)[i]?) [1, 2, 3, 4, 5, 6]) (z_rV (rest := []) hx hb hml hown hcx hl.1 (c_X12_right l D cI h_t r_t F1 u2 1 u3 hu3 _) tl_X12_321 ti_X12_right tz_X12_right tn_X12 tc_X12_right tm_X12_right rfl rfl ⟨Nat.le_of_ble_eq_true rfl, Nat.le_of_ble_eq_true rfl⟩ hK hX hS hA hP hD [0] rfl rfl 0 rfl rfl rfl rfl (Nat.le_of_ble_eq_true rfl) dX12_look_13 ⟨Nat.zero_le _, Nat.zero_le _⟩) hP hD hS hA [0] [1, 2, 3, 4, 5, 6] [6, 0, 1, 2, 3, 4, 5] rfl rfl rfl (by decide) rfl rfl (fun H locs hP hD hS => ?_)
  refine z_if_ne (tgt := 21) hx hb dX12_look_16 (by decide) hf (fun hf => ?_) (fun hf => ?_)
  · refine lv_iconst (v := (-1)) hx hb dX12_look_21 (by decide) ?_
    refine lv_istore_n (lv' := [(2, .int (-1)), (0, .ref h_t), (1, .int p1)]) hx hb dX12_look_22 rfl hl (by decide) rfl (fun ls hl => ?_)
    refine lv_iconst (v := 0) hx hb dX12_look_23 (by decide) ?_
    refine lv_istore_n (lv' := [(3, .int 0), (2, .int (-1)), (0, .ref h_t), (1, .int p1)]) hx hb dX12_look_24 rfl hl (by decide) rfl (fun ls hl => ?_)
    refine lv_aload_n hx hb dX12_look_25 rfl (lv_at hl 2 rfl) ?_
    refine lv_iconst (v := 0) hx hb dX12_look_26 (by decide) ?_
    obtain ⟨u4, hu4, hf⟩ := bd_some hf
    refine z_cl (ws1 := w_X12_look h_t r_t u3.2 cI a_rows a_seenWord a_seenNumber a_order a_image a_wordBy) (wr := List.filterMap (fun i : Nat => (w_X12_look h_t r_t u3.2 cI a_rows a_seenWord a_seenNumber a_order a_image a_wordBy)[i]?) [2, 3, 4, 5, 6]) (z_rV (rest := []) hx hb hml hown hcx hl.1 (c_X12_ordersOf l D cI h_t r_t u3.2 a_rows 0 u4 hu4 _) tl_X12_188 ti_X12_ordersOf tz_X12_ordersOf tn_X12 tc_X12_ordersOf tm_X12_ordersOf rfl rfl ⟨Nat.le_of_ble_eq_true rfl, Nat.le_of_ble_eq_true rfl⟩ hK hX hS hA hP hD [0, 1] rfl rfl 0 rfl rfl rfl rfl (Nat.le_of_ble_eq_true rfl) dX12_look_27 ⟨Nat.zero_le _, Nat.zero_le _⟩) hP hD hS hA [0, 1] [2, 3, 4, 5, 6] [5, 6, 0, 1, 2, 3, 4] rfl rfl rfl (by decide) rfl rfl (fun H locs hP hD hS => ?_)
    refine lv_ldc2 hx hb hown (hts _ tk_X12_192) dX12_look_30 ?_
    refine W.lcmp hx hb dX12_look_33 ?_
    refine z_if_gt (tgt := 101) hx hb dX12_look_34 (by decide) hf (fun hf => ?_) (fun hf => ?_)
    · exact L101 (-1) 0 u3.2 a_order a_image a_wordBy _ _ _ hf hP hD hS (lv_sub hl [3, 1, 0] rfl)
    · refine lv_aload_n hx hb dX12_look_37 rfl (lv_at hl 2 rfl) ?_
      refine lv_iconst (v := (-1)) hx hb dX12_look_38 (by decide) ?_
      obtain ⟨u5, hu5, hf⟩ := bd_some hf
      refine z_ci (ws1 := w_X12_look h_t r_t u5.2.1 cI a_rows a_seenWord a_seenNumber u5.2.2.1 u5.2.2.2.1 u5.2.2.2.2) (wr := List.filterMap (fun i : Nat => (w_X12_look h_t r_t u3.2 cI a_rows a_seenWord a_seenNumber a_order a_image a_wordBy)[i]?) []) (z_rV (rest := []) hx hb hml hown hcx hl.1 (c_X12_fits l D cI h_t r_t u3.2 a_rows a_seenWord a_seenNumber a_order a_image a_wordBy (-1) u5 hu5 _) tl_X12_391 ti_X12_fits tz_X12_fits tn_X12 tc_X12_fits tm_X12_fits rfl rfl ⟨Nat.le_of_ble_eq_true rfl, Nat.le_of_ble_eq_true rfl⟩ hK hX hS hA hP hD [0, 1, 2, 3, 4, 5, 6] rfl rfl 0 rfl rfl rfl rfl (Nat.le_of_ble_eq_true rfl) dX12_look_39 ⟨Nat.zero_le _, Nat.zero_le _⟩) hP hD hS hA [0, 1, 2, 3, 4, 5, 6] [] [0, 1, 2, 3, 4, 5, 6] rfl rfl rfl (by decide) rfl rfl (fun H locs hP hD hS => ?_)
      refine z_if_le (tgt := 101) hx hb dX12_look_42 (by decide) hf (fun hf => ?_) (fun hf => ?_)
      · exact L101 (-1) 0 u5.2.1 u5.2.2.1 u5.2.2.2.1 u5.2.2.2.2 _ _ _ hf hP hD hS (lv_sub hl [3, 1, 0] rfl)
      · refine lv_iconst (v := 0) hx hb dX12_look_45 (by decide) ?_
        refine lv_istore (lv' := [(4, .int 0), (3, .int 0), (2, .int (-1)), (0, .ref h_t), (1, .int p1)]) hx hb dX12_look_46 hl (by decide) rfl (fun ls hl => ?_)
        exact L48 fuelN (-1) 0 0 u5.2.1 u5.2.2.1 u5.2.2.2.1 u5.2.2.2.2 _ _ _ hf hP hD hS (lv_sub hl [3, 4, 2, 1, 0] rfl)
  · refine lv_iconst (v := 0) hx hb dX12_look_19 (by decide) ?_
    exact hret (0, u3.2, a_order, a_image, a_wordBy) _ _ _ _ hf hP hD hS dX12_look_20
abbrev w_X12_forget (h_t : Nat) (r_t : Nat → Nat) (F_t : Nat → Int32) (cI : ClassId) : va_W := [(h_t, .inr (12, o_X12 r_t F_t))]
abbrev rm_X12_forget : Room := { frames := 0, cells := 0, slots := 0, locals := 0 }
def m_X12_forget (F_t : Nat → Int32) : Option ((Nat → Int32)) :=
  nm (upd F_t 4 0) fun F1 =>
  nm (upd F1 7 0) fun F2 =>
  some F2
set_option maxHeartbeats 4000000 in
set_option maxRecDepth 100000 in
theorem c_X12_forget (l : Launch) (D : va_G) (cI : ClassId) (h_t : Nat) (r_t : Nat → Nat) (F_t : Nat → Int32) (Rr : (Nat → Int32)) (hf : m_X12_forget F_t = some Rr) : CTv l yX12_forget (Cond.code yX12_forget cX12_forget 1 none) rm_X12_forget D cI [.ref h_t] (w_X12_forget h_t r_t F_t cI) (w_X12_forget h_t r_t Rr cI) := by
  refine z_begin_v (own := RX12) (ρ := (Nat → Int32)) (fun u => w_X12_forget h_t r_t u cI) (by decide +kernel) rfl (Nat.le_of_ble_eq_true rfl) ?_
  intro p e s m args below meth c ls Q A hx hb hml hts hcx hown hK hX hA hP hD hS hl hret
  have hl : lv_has ls 1 [(0, .ref h_t)] := hl
  have hf := (m_X12_forget.eq_1 _).symm.trans hf
  refine lv_aload_n hx hb dX12_forget_0 rfl (lv_at hl 0 rfl) ?_
  refine lv_iconst (v := 0) hx hb dX12_forget_1 (by decide) ?_
  refine z_put (ci := 12) (C := RX12) (T := TX12) (N := 51) hx hb hts inT_X12 tyX12 tyX12_ok nmX12 hown hK hP hD hS 0 rfl rfl 4 (by decide) tf_X12_63 rfl (by decide +kernel) (Nat.le_of_ble_eq_true rfl) (o_X12 r_t) (o_X12_s4 _ _ _) (fun z => w_X12_forget h_t r_t z cI) (fun _ => rfl) dX12_forget_2 hf (fun F1 H locs hf hP hD hS => ?_)
  refine lv_aload_n hx hb dX12_forget_5 rfl (lv_at hl 0 rfl) ?_
  refine lv_iconst (v := 0) hx hb dX12_forget_6 (by decide) ?_
  refine z_put (ci := 12) (C := RX12) (T := TX12) (N := 51) hx hb hts inT_X12 tyX12 tyX12_ok nmX12 hown hK hP hD hS 0 rfl rfl 7 (by decide) tf_X12_330 rfl (by decide +kernel) (Nat.le_of_ble_eq_true rfl) (o_X12 r_t) (o_X12_s7 _ _ _) (fun z => w_X12_forget h_t r_t z cI) (fun _ => rfl) dX12_forget_7 hf (fun F2 H locs hf hP hD hS => ?_)
  exact hret F2 _ _ _ _ hf hP hD hS dX12_forget_10
abbrev w_X12_draw (h_t : Nat) (r_t : Nat → Nat) (F_t : Nat → Int32) (cI : ClassId) : va_W := [(h_t, .inr (12, o_X12 r_t F_t))]
abbrev rm_X12_draw : Room := { frames := 0, cells := 0, slots := 0, locals := 0 }
def m_X12_draw (F_t : Nat → Int32) (p1 : Int32) : Option (Int32 × (Nat → Int32)) :=
  nm (upd F_t 49 (((F_t 49) * 1103515245) + 12345)) fun F1 =>
  dz p1 (
  some (((((F1 49) >>> ((16 : Int32) &&& 31)) &&& 32767) - (((F1 49) >>> ((16 : Int32) &&& 31)) &&& 32767) / p1 * p1), F1))
set_option maxHeartbeats 4000000 in
set_option maxRecDepth 100000 in
theorem c_X12_draw (l : Launch) (D : va_G) (cI : ClassId) (h_t : Nat) (r_t : Nat → Nat) (F_t : Nat → Int32) (p1 : Int32) (Rr : Int32 × (Nat → Int32)) (hf : m_X12_draw F_t p1 = some Rr) : CTi l yX12_draw (Cond.code yX12_draw cX12_draw 2 (some .int)) rm_X12_draw D cI [.ref h_t, .int p1] (w_X12_draw h_t r_t F_t cI) Rr.1 (w_X12_draw h_t r_t Rr.2 cI) := by
  refine z_begin_i (own := RX12) (ρ := Int32 × (Nat → Int32)) (fun u => w_X12_draw h_t r_t u.2 cI) (fun u => u.1) (by decide +kernel) rfl (Nat.le_of_ble_eq_true rfl) ?_
  intro p e s m args below meth c ls Q A hx hb hml hts hcx hown hK hX hA hP hD hS hl hret
  have hl : lv_has ls 2 [(0, .ref h_t), (1, .int p1)] := hl
  have hf := (m_X12_draw.eq_1 _ _).symm.trans hf
  refine lv_aload_n hx hb dX12_draw_0 rfl (lv_at hl 0 rfl) ?_
  refine lv_aload_n hx hb dX12_draw_1 rfl (lv_at hl 0 rfl) ?_
  refine z_get (ci := 12) (C := RX12) (T := TX12) (N := 51) (v := .int (F_t 49)) hx hb hts inT_X12 hown hK hP 0 rfl rfl 49 (by decide) tf_X12_400 rfl dX12_draw_2 ?_
  refine lv_ldcw hx hb hown (hts _ tk_X12_403) dX12_draw_5 ?_
  refine lv_imul hx hb dX12_draw_8 ?_
  refine lv_sipush (v := 12345) hx hb dX12_draw_9 (by decide) ?_
  refine lv_iadd hx hb dX12_draw_12 ?_
  refine z_put (ci := 12) (C := RX12) (T := TX12) (N := 51) hx hb hts inT_X12 tyX12 tyX12_ok nmX12 hown hK hP hD hS 0 rfl rfl 49 (by decide) tf_X12_400 rfl (by decide +kernel) (Nat.le_of_ble_eq_true rfl) (o_X12 r_t) (o_X12_s49 _ _ _) (fun z => w_X12_draw h_t r_t z cI) (fun _ => rfl) dX12_draw_13 hf (fun F1 H locs hf hP hD hS => ?_)
  refine lv_aload_n hx hb dX12_draw_16 rfl (lv_at hl 0 rfl) ?_
  refine z_get (ci := 12) (C := RX12) (T := TX12) (N := 51) (v := .int (F1 49)) hx hb hts inT_X12 hown hK hP 0 rfl rfl 49 (by decide) tf_X12_400 rfl dX12_draw_17 ?_
  refine lv_bipush (v := 16) hx hb dX12_draw_20 (by decide) ?_
  refine lv_ishr hx hb dX12_draw_22 ?_
  refine lv_sipush (v := 32767) hx hb dX12_draw_23 (by decide) ?_
  refine lv_iand hx hb dX12_draw_26 ?_
  refine lv_iload_n hx hb dX12_draw_27 rfl (lv_at hl 1 rfl) ?_
  refine z_irem hx hb dX12_draw_28 hf (fun hf => ?_)
  exact hret (((((F1 49) >>> ((16 : Int32) &&& 31)) &&& 32767) - (((F1 49) >>> ((16 : Int32) &&& 31)) &&& 32767) / p1 * p1), F1) _ _ _ _ hf hP hD hS dX12_draw_29
abbrev w_X12_crashesByDraws (h_t : Nat) (r_t : Nat → Nat) (F_t : Nat → Int32) (cI : ClassId) (a_rows : Nat → Int32) (a_memory : Nat → Int32) (a_order : Nat → Int32) (a_image : Nat → Int32) (a_well : Nat → Int32) : va_W := [(h_t, .inr (12, o_X12 r_t F_t)), ((r_t 0), .inl (cI, 66100, .inl a_rows)), ((r_t 23), .inl (cI, 64, .inl a_memory)), ((r_t 24), .inl (cI, 16, .inl a_order)), ((r_t 25), .inl (cI, 64, .inl a_image)), ((r_t 26), .inl (cI, 88, .inl a_well))]
abbrev rm_X12_crashesByDraws : Room := { frames := 4, cells := 0, slots := 0, locals := 93 }
def m_X12_crashesByDraws_j131 (F_t : Nat → Int32) (a_rows : Nat → Int32) (a_memory : Nat → Int32) (a_order : Nat → Int32) (a_image : Nat → Int32) (a_well : Nat → Int32) : Option ((Nat → Int32) × (Nat → Int32) × (Nat → Int32) × (Nat → Int32) × (Nat → Int32) × (Nat → Int32)) :=
  wr a_rows 66100 1558 0 fun a4 =>
  some (F_t, a4, a_memory, a_order, a_image, a_well)
def m_X12_crashesByDraws_w103 (k131 : (Nat → Int32) → (Nat → Int32) → (Nat → Int32) → (Nat → Int32) → (Nat → Int32) → (Nat → Int32) → Option ((Nat → Int32) × (Nat → Int32) × (Nat → Int32) × (Nat → Int32) × (Nat → Int32) × (Nat → Int32))) : Nat → Int32 → (Nat → Int32) → (Nat → Int32) → (Nat → Int32) → (Nat → Int32) → (Nat → Int32) → (Nat → Int32) → Option ((Nat → Int32) × (Nat → Int32) × (Nat → Int32) × (Nat → Int32) × (Nat → Int32) × (Nat → Int32))
  | 0, _, _, _, _, _, _, _ => none
  | n103 + 1, x1, F_t, a_rows, a_memory, a_order, a_image, a_well =>
    if 64 ≤ x1 then (
    k131 F_t a_rows a_memory a_order a_image a_well)
    else (
    rd a_memory 64 x1 fun y5 =>
    wr a_rows 66100 (786 + x1) y5 fun a6 =>
    nm (x1 + 1) fun v7 =>
    m_X12_crashesByDraws_w103 k131 n103 v7 F_t a6 a_memory a_order a_image a_well)
def m_X12_crashesByDraws_j86 (F_t : Nat → Int32) (a_rows : Nat → Int32) (a_memory : Nat → Int32) (a_order : Nat → Int32) (a_image : Nat → Int32) (a_well : Nat → Int32) : Option ((Nat → Int32) × (Nat → Int32) × (Nat → Int32) × (Nat → Int32) × (Nat → Int32) × (Nat → Int32)) :=
  bd (m_X12_laysMemory a_rows a_memory 786) fun u2 =>
  bd (m_X12_recovers F_t u2 64) fun u3 =>
  m_X12_crashesByDraws_w103 m_X12_crashesByDraws_j131 fuelN 0 F_t a_rows u3 a_order a_image a_well
def m_X12_crashesByDraws_j65 (F_t : Nat → Int32) (a_rows : Nat → Int32) (a_memory : Nat → Int32) (a_order : Nat → Int32) (a_image : Nat → Int32) (a_well : Nat → Int32) : Option ((Nat → Int32) × (Nat → Int32) × (Nat → Int32) × (Nat → Int32) × (Nat → Int32) × (Nat → Int32)) :=
  bd (m_X12_crashes F_t a_rows a_memory a_order a_image a_well 786) fun u8 =>
  if u8.1 = 3 then (
  nm (upd u8.2.1 50 ((u8.2.1 50) + 1)) fun F9 =>
  m_X12_crashesByDraws_j86 F9 u8.2.2.1 u8.2.2.2.1 a_order u8.2.2.2.2.1 u8.2.2.2.2.2)
  else (
  m_X12_crashesByDraws_j86 u8.2.1 u8.2.2.1 u8.2.2.2.1 a_order u8.2.2.2.2.1 u8.2.2.2.2.2)
def m_X12_crashesByDraws_j58 (k14 : Int32 → (Nat → Int32) → (Nat → Int32) → (Nat → Int32) → (Nat → Int32) → (Nat → Int32) → (Nat → Int32) → Option ((Nat → Int32) × (Nat → Int32) × (Nat → Int32) × (Nat → Int32) × (Nat → Int32) × (Nat → Int32))) (x1 : Int32) (s1 : Int32) (s2 : Int32) (F_t : Nat → Int32) (a_rows : Nat → Int32) (a_memory : Nat → Int32) (a_order : Nat → Int32) (a_image : Nat → Int32) (a_well : Nat → Int32) : Option ((Nat → Int32) × (Nat → Int32) × (Nat → Int32) × (Nat → Int32) × (Nat → Int32) × (Nat → Int32)) :=
  wr a_order 16 s1 s2 fun a13 =>
  nm (x1 + 1) fun v14 =>
  k14 v14 F_t a_rows a_memory a13 a_image a_well
def m_X12_crashesByDraws_w14 (k65 : (Nat → Int32) → (Nat → Int32) → (Nat → Int32) → (Nat → Int32) → (Nat → Int32) → (Nat → Int32) → Option ((Nat → Int32) × (Nat → Int32) × (Nat → Int32) × (Nat → Int32) × (Nat → Int32) × (Nat → Int32))) : Nat → Int32 → (Nat → Int32) → (Nat → Int32) → (Nat → Int32) → (Nat → Int32) → (Nat → Int32) → (Nat → Int32) → Option ((Nat → Int32) × (Nat → Int32) × (Nat → Int32) × (Nat → Int32) × (Nat → Int32) × (Nat → Int32))
  | 0, _, _, _, _, _, _, _ => none
  | n14 + 1, x1, F_t, a_rows, a_memory, a_order, a_image, a_well =>
    if 16 ≤ x1 then (
    k65 F_t a_rows a_memory a_order a_image a_well)
    else (
    rd a_rows 66100 (850 + x1) fun y10 =>
    if y10 = 0 then (
    m_X12_crashesByDraws_j58 (m_X12_crashesByDraws_w14 k65 n14) x1 x1 0 F_t a_rows a_memory a_order a_image a_well)
    else (
    rd a_rows 66100 (850 + x1) fun y11 =>
    bd (m_X12_draw F_t (y11 + 1)) fun u12 =>
    m_X12_crashesByDraws_j58 (m_X12_crashesByDraws_w14 k65 n14) x1 x1 u12.1 u12.2 a_rows a_memory a_order a_image a_well))
def m_X12_crashesByDraws (F_t : Nat → Int32) (a_rows : Nat → Int32) (a_memory : Nat → Int32) (a_order : Nat → Int32) (a_image : Nat → Int32) (a_well : Nat → Int32) : Option ((Nat → Int32) × (Nat → Int32) × (Nat → Int32) × (Nat → Int32) × (Nat → Int32) × (Nat → Int32)) :=
  rd a_rows 66100 1558 fun y1 =>
  if y1 = 1 then (
  m_X12_crashesByDraws_j86 F_t a_rows a_memory a_order a_image a_well)
  else (
  m_X12_crashesByDraws_w14 m_X12_crashesByDraws_j65 fuelN 0 F_t a_rows a_memory a_order a_image a_well)
set_option maxHeartbeats 4000000 in
set_option maxRecDepth 100000 in
theorem c_X12_crashesByDraws (l : Launch) (D : va_G) (cI : ClassId) (h_t : Nat) (r_t : Nat → Nat) (F_t : Nat → Int32) (a_rows : Nat → Int32) (a_memory : Nat → Int32) (a_order : Nat → Int32) (a_image : Nat → Int32) (a_well : Nat → Int32) (Rr : (Nat → Int32) × (Nat → Int32) × (Nat → Int32) × (Nat → Int32) × (Nat → Int32) × (Nat → Int32)) (hf : m_X12_crashesByDraws F_t a_rows a_memory a_order a_image a_well = some Rr) : CTv l yX12_crashesByDraws (Cond.code yX12_crashesByDraws cX12_crashesByDraws 2 none) rm_X12_crashesByDraws D cI [.ref h_t] (w_X12_crashesByDraws h_t r_t F_t cI a_rows a_memory a_order a_image a_well) (w_X12_crashesByDraws h_t r_t Rr.1 cI Rr.2.1 Rr.2.2.1 Rr.2.2.2.1 Rr.2.2.2.2.1 Rr.2.2.2.2.2) := by
  refine z_begin_v (own := RX12) (ρ := (Nat → Int32) × (Nat → Int32) × (Nat → Int32) × (Nat → Int32) × (Nat → Int32) × (Nat → Int32)) (fun u => w_X12_crashesByDraws h_t r_t u.1 cI u.2.1 u.2.2.1 u.2.2.2.1 u.2.2.2.2.1 u.2.2.2.2.2) (by decide +kernel) rfl (Nat.le_of_ble_eq_true rfl) ?_
  intro p e s m args below meth c ls Q A hx hb hml hts hcx hown hK hX hA hP hD hS hl hret
  have hl : lv_has ls 2 [(0, .ref h_t)] := hl
  have hf := (m_X12_crashesByDraws.eq_1 _ _ _ _ _ _).symm.trans hf
  have L131 : ∀ (F_t : Nat → Int32) (a_rows : Nat → Int32) (a_memory : Nat → Int32) (a_order : Nat → Int32) (a_image : Nat → Int32) (a_well : Nat → Int32) (H : Heap) (locs : List Loc) (ls : Array Slot), m_X12_crashesByDraws_j131 F_t a_rows a_memory a_order a_image a_well = some Rr → va_P D vwCl (w_X12_crashesByDraws h_t r_t F_t cI a_rows a_memory a_order a_image a_well) H → va_D A (w_X12_crashesByDraws h_t r_t F_t cI a_rows a_memory a_order a_image a_well) → va_S A s.heap H locs → lv_has ls 2 [(0, .ref h_t)] → W p l e rm_X12_crashesByDraws s m args below meth c H locs 0 0 Q (F0 m 131 ls []) := by
    intro F_t a_rows a_memory a_order a_image a_well H locs ls hf hP hD hS hl
    have hf := (m_X12_crashesByDraws_j131.eq_1 _ _ _ _ _ _).symm.trans hf
    refine lv_aload_n hx hb dX12_crashesByDraws_131 rfl (lv_at hl 0 rfl) ?_
    refine z_get (ci := 12) (C := RX12) (T := TX12) (N := 51) (v := .ref (r_t 0)) hx hb hts inT_X12 hown hK hP 0 rfl rfl 0 (by decide) tf_X12_10 rfl dX12_crashesByDraws_132 ?_
    refine lv_sipush (v := 1558) hx hb dX12_crashesByDraws_135 (by decide) ?_
    refine lv_iconst (v := 0) hx hb dX12_crashesByDraws_138 (by decide) ?_
    refine z_iast hx hb hK hP hD hS 1 rfl (fun z => w_X12_crashesByDraws h_t r_t F_t cI z a_memory a_order a_image a_well) (fun _ => rfl) dX12_crashesByDraws_139 hf (fun a4 H locs hf hP hD hS => ?_)
    exact hret (F_t, a4, a_memory, a_order, a_image, a_well) _ _ _ _ hf hP hD hS dX12_crashesByDraws_140
  have L103 : ∀ (n103 : Nat) (x1 : Int32) (F_t : Nat → Int32) (a_rows : Nat → Int32) (a_memory : Nat → Int32) (a_order : Nat → Int32) (a_image : Nat → Int32) (a_well : Nat → Int32) (H : Heap) (locs : List Loc) (ls : Array Slot), m_X12_crashesByDraws_w103 m_X12_crashesByDraws_j131 n103 x1 F_t a_rows a_memory a_order a_image a_well = some Rr → va_P D vwCl (w_X12_crashesByDraws h_t r_t F_t cI a_rows a_memory a_order a_image a_well) H → va_D A (w_X12_crashesByDraws h_t r_t F_t cI a_rows a_memory a_order a_image a_well) → va_S A s.heap H locs → lv_has ls 2 [(0, .ref h_t), (1, .int x1)] → W p l e rm_X12_crashesByDraws s m args below meth c H locs 0 0 Q (F0 m 103 ls []) := by
    intro n103
    induction n103 with
    | zero => intro x1 F_t a_rows a_memory a_order a_image a_well H locs ls hf; cases (show (none : Option _) = some Rr from hf)
    | succ n103 ih103 =>
      intro x1 F_t a_rows a_memory a_order a_image a_well H locs ls hf hP hD hS hl
      have hf := (m_X12_crashesByDraws_w103.eq_2 _ _ _ _ _ _ _ _ _).symm.trans hf
      refine lv_iload_n hx hb dX12_crashesByDraws_103 rfl (lv_at hl 1 rfl) ?_
      refine lv_bipush (v := 64) hx hb dX12_crashesByDraws_104 (by decide) ?_
      refine z_icmp_ge (tgt := 131) hx hb dX12_crashesByDraws_106 (by decide) hf (fun hf => ?_) (fun hf => ?_)
      · exact L131 F_t a_rows a_memory a_order a_image a_well _ _ _ hf hP hD hS (lv_sub hl [0] rfl)
      · refine lv_aload_n hx hb dX12_crashesByDraws_109 rfl (lv_at hl 0 rfl) ?_
        refine z_get (ci := 12) (C := RX12) (T := TX12) (N := 51) (v := .ref (r_t 0)) hx hb hts inT_X12 hown hK hP 0 rfl rfl 0 (by decide) tf_X12_10 rfl dX12_crashesByDraws_110 ?_
        refine lv_sipush (v := 786) hx hb dX12_crashesByDraws_113 (by decide) ?_
        refine lv_iload_n hx hb dX12_crashesByDraws_116 rfl (lv_at hl 1 rfl) ?_
        refine lv_iadd hx hb dX12_crashesByDraws_117 ?_
        refine lv_aload_n hx hb dX12_crashesByDraws_118 rfl (lv_at hl 0 rfl) ?_
        refine z_get (ci := 12) (C := RX12) (T := TX12) (N := 51) (v := .ref (r_t 23)) hx hb hts inT_X12 hown hK hP 0 rfl rfl 23 (by decide) tf_X12_39 rfl dX12_crashesByDraws_119 ?_
        refine lv_iload_n hx hb dX12_crashesByDraws_122 rfl (lv_at hl 1 rfl) ?_
        refine z_iald hx hb hK hP 2 rfl dX12_crashesByDraws_123 hf (fun y5 hf => ?_)
        refine z_iast hx hb hK hP hD hS 1 rfl (fun z => w_X12_crashesByDraws h_t r_t F_t cI z a_memory a_order a_image a_well) (fun _ => rfl) dX12_crashesByDraws_124 hf (fun a6 H locs hf hP hD hS => ?_)
        refine z_iinc (k0 := 1) (fun z => [(1, .int z), (0, .ref h_t)]) hx hb dX12_crashesByDraws_125 hl rfl (by decide) (by decide) (fun _ => rfl) hf (fun v7 ls hf hl => ?_)
        refine lv_goto (tgt := 103) hx hb dX12_crashesByDraws_128 (by decide) ?_
        exact ih103 v7 F_t a6 a_memory a_order a_image a_well _ _ _ hf hP hD hS (lv_sub hl [1, 0] rfl)
  have L86 : ∀ (F_t : Nat → Int32) (a_rows : Nat → Int32) (a_memory : Nat → Int32) (a_order : Nat → Int32) (a_image : Nat → Int32) (a_well : Nat → Int32) (H : Heap) (locs : List Loc) (ls : Array Slot), m_X12_crashesByDraws_j86 F_t a_rows a_memory a_order a_image a_well = some Rr → va_P D vwCl (w_X12_crashesByDraws h_t r_t F_t cI a_rows a_memory a_order a_image a_well) H → va_D A (w_X12_crashesByDraws h_t r_t F_t cI a_rows a_memory a_order a_image a_well) → va_S A s.heap H locs → lv_has ls 2 [(0, .ref h_t)] → W p l e rm_X12_crashesByDraws s m args below meth c H locs 0 0 Q (F0 m 86 ls []) := by
    intro F_t a_rows a_memory a_order a_image a_well H locs ls hf hP hD hS hl
    have hf := (m_X12_crashesByDraws_j86.eq_1 _ _ _ _ _ _).symm.trans hf
    refine lv_aload_n hx hb dX12_crashesByDraws_86 rfl (lv_at hl 0 rfl) ?_
    refine lv_sipush (v := 786) hx hb dX12_crashesByDraws_87 (by decide) ?_
    obtain ⟨u2, hu2, hf⟩ := bd_some hf
    refine z_cv (ws1 := w_X12_crashesByDraws h_t r_t F_t cI a_rows u2 a_order a_image a_well) (wr := List.filterMap (fun i : Nat => (w_X12_crashesByDraws h_t r_t F_t cI a_rows a_memory a_order a_image a_well)[i]?) [3, 4, 5]) (z_rV (rest := []) hx hb hml hown hcx hl.1 (c_X12_laysMemory l D cI h_t r_t F_t a_rows a_memory 786 u2 hu2 _) tl_X12_175 ti_X12_laysMemory tz_X12_laysMemory tn_X12 tc_X12_laysMemory tm_X12_laysMemory rfl rfl ⟨Nat.le_of_ble_eq_true rfl, Nat.le_of_ble_eq_true rfl⟩ hK hX hS hA hP hD [0, 1, 2] rfl rfl 0 rfl rfl rfl rfl (Nat.le_of_ble_eq_true rfl) dX12_crashesByDraws_90 ⟨Nat.zero_le _, Nat.zero_le _⟩) hP hD hS hA [0, 1, 2] [3, 4, 5] [3, 4, 5, 0, 1, 2] rfl rfl rfl (by decide) rfl rfl (fun H locs hP hD hS => ?_)
    refine lv_aload_n hx hb dX12_crashesByDraws_93 rfl (lv_at hl 0 rfl) ?_
    refine lv_aload_n hx hb dX12_crashesByDraws_94 rfl (lv_at hl 0 rfl) ?_
    refine z_get (ci := 12) (C := RX12) (T := TX12) (N := 51) (v := .ref (r_t 23)) hx hb hts inT_X12 hown hK hP 0 rfl rfl 23 (by decide) tf_X12_39 rfl dX12_crashesByDraws_95 ?_
    obtain ⟨u3, hu3, hf⟩ := bd_some hf
    refine z_cv (ws1 := w_X12_crashesByDraws h_t r_t F_t cI a_rows u3 a_order a_image a_well) (wr := List.filterMap (fun i : Nat => (w_X12_crashesByDraws h_t r_t F_t cI a_rows u2 a_order a_image a_well)[i]?) [1, 3, 4, 5]) (z_rV (rest := []) hx hb hml hown hcx hl.1 (c_X12_recovers l D cI h_t (r_t 23) r_t F_t 64 u2 u3 hu3 _) tl_X12_178 ti_X12_recovers tz_X12_recovers tn_X12 tc_X12_recovers tm_X12_recovers rfl rfl ⟨Nat.le_of_ble_eq_true rfl, Nat.le_of_ble_eq_true rfl⟩ hK hX hS hA hP hD [0, 2] rfl rfl 0 rfl rfl rfl rfl (Nat.le_of_ble_eq_true rfl) dX12_crashesByDraws_98 ⟨Nat.zero_le _, Nat.zero_le _⟩) hP hD hS hA [0, 2] [1, 3, 4, 5] [4, 0, 5, 1, 2, 3] rfl rfl rfl (by decide) rfl rfl (fun H locs hP hD hS => ?_)
    refine lv_iconst (v := 0) hx hb dX12_crashesByDraws_101 (by decide) ?_
    refine lv_istore_n (lv' := [(1, .int 0), (0, .ref h_t)]) hx hb dX12_crashesByDraws_102 rfl hl (by decide) rfl (fun ls hl => ?_)
    exact L103 fuelN 0 F_t a_rows u3 a_order a_image a_well _ _ _ hf hP hD hS (lv_sub hl [1, 0] rfl)
  have L65 : ∀ (F_t : Nat → Int32) (a_rows : Nat → Int32) (a_memory : Nat → Int32) (a_order : Nat → Int32) (a_image : Nat → Int32) (a_well : Nat → Int32) (H : Heap) (locs : List Loc) (ls : Array Slot), m_X12_crashesByDraws_j65 F_t a_rows a_memory a_order a_image a_well = some Rr → va_P D vwCl (w_X12_crashesByDraws h_t r_t F_t cI a_rows a_memory a_order a_image a_well) H → va_D A (w_X12_crashesByDraws h_t r_t F_t cI a_rows a_memory a_order a_image a_well) → va_S A s.heap H locs → lv_has ls 2 [(0, .ref h_t)] → W p l e rm_X12_crashesByDraws s m args below meth c H locs 0 0 Q (F0 m 65 ls []) := by
    intro F_t a_rows a_memory a_order a_image a_well H locs ls hf hP hD hS hl
    have hf := (m_X12_crashesByDraws_j65.eq_1 _ _ _ _ _ _).symm.trans hf
    refine lv_aload_n hx hb dX12_crashesByDraws_65 rfl (lv_at hl 0 rfl) ?_
    refine lv_sipush (v := 786) hx hb dX12_crashesByDraws_66 (by decide) ?_
    obtain ⟨u8, hu8, hf⟩ := bd_some hf
    refine z_ci (ws1 := w_X12_crashesByDraws h_t r_t u8.2.1 cI u8.2.2.1 u8.2.2.2.1 a_order u8.2.2.2.2.1 u8.2.2.2.2.2) (wr := List.filterMap (fun i : Nat => (w_X12_crashesByDraws h_t r_t F_t cI a_rows a_memory a_order a_image a_well)[i]?) []) (z_rV (rest := []) hx hb hml hown hcx hl.1 (c_X12_crashes l D cI h_t r_t F_t a_rows a_memory a_order a_image a_well 786 u8 hu8 _) tl_X12_363 ti_X12_crashes tz_X12_crashes tn_X12 tc_X12_crashes tm_X12_crashes rfl rfl ⟨Nat.le_of_ble_eq_true rfl, Nat.le_of_ble_eq_true rfl⟩ hK hX hS hA hP hD [0, 1, 2, 3, 4, 5] rfl rfl 0 rfl rfl rfl rfl (Nat.le_of_ble_eq_true rfl) dX12_crashesByDraws_69 ⟨Nat.zero_le _, Nat.zero_le _⟩) hP hD hS hA [0, 1, 2, 3, 4, 5] [] [0, 1, 2, 3, 4, 5] rfl rfl rfl (by decide) rfl rfl (fun H locs hP hD hS => ?_)
    refine lv_iconst (v := 3) hx hb dX12_crashesByDraws_72 (by decide) ?_
    refine z_icmp_ne (tgt := 86) hx hb dX12_crashesByDraws_73 (by decide) hf (fun hf => ?_) (fun hf => ?_)
    · exact L86 u8.2.1 u8.2.2.1 u8.2.2.2.1 a_order u8.2.2.2.2.1 u8.2.2.2.2.2 _ _ _ hf hP hD hS (lv_sub hl [0] rfl)
    · refine lv_aload_n hx hb dX12_crashesByDraws_76 rfl (lv_at hl 0 rfl) ?_
      refine lv_dup hx hb dX12_crashesByDraws_77 rfl ?_
      refine z_get (ci := 12) (C := RX12) (T := TX12) (N := 51) (v := .int (u8.2.1 50)) hx hb hts inT_X12 hown hK hP 0 rfl rfl 50 (by decide) tf_X12_407 rfl dX12_crashesByDraws_78 ?_
      refine lv_iconst (v := 1) hx hb dX12_crashesByDraws_81 (by decide) ?_
      refine lv_iadd hx hb dX12_crashesByDraws_82 ?_
      refine z_put (ci := 12) (C := RX12) (T := TX12) (N := 51) hx hb hts inT_X12 tyX12 tyX12_ok nmX12 hown hK hP hD hS 0 rfl rfl 50 (by decide) tf_X12_407 rfl (by decide +kernel) (Nat.le_of_ble_eq_true rfl) (o_X12 r_t) (o_X12_s50 _ _ _) (fun z => w_X12_crashesByDraws h_t r_t z cI u8.2.2.1 u8.2.2.2.1 a_order u8.2.2.2.2.1 u8.2.2.2.2.2) (fun _ => rfl) dX12_crashesByDraws_83 hf (fun F9 H locs hf hP hD hS => ?_)
      exact L86 F9 u8.2.2.1 u8.2.2.2.1 a_order u8.2.2.2.2.1 u8.2.2.2.2.2 _ _ _ hf hP hD hS (lv_sub hl [0] rfl)
  have L14 : ∀ (n14 : Nat) (x1 : Int32) (F_t : Nat → Int32) (a_rows : Nat → Int32) (a_memory : Nat → Int32) (a_order : Nat → Int32) (a_image : Nat → Int32) (a_well : Nat → Int32) (H : Heap) (locs : List Loc) (ls : Array Slot), m_X12_crashesByDraws_w14 m_X12_crashesByDraws_j65 n14 x1 F_t a_rows a_memory a_order a_image a_well = some Rr → va_P D vwCl (w_X12_crashesByDraws h_t r_t F_t cI a_rows a_memory a_order a_image a_well) H → va_D A (w_X12_crashesByDraws h_t r_t F_t cI a_rows a_memory a_order a_image a_well) → va_S A s.heap H locs → lv_has ls 2 [(0, .ref h_t), (1, .int x1)] → W p l e rm_X12_crashesByDraws s m args below meth c H locs 0 0 Q (F0 m 14 ls []) := by
    intro n14
    induction n14 with
    | zero => intro x1 F_t a_rows a_memory a_order a_image a_well H locs ls hf; cases (show (none : Option _) = some Rr from hf)
    | succ n14 ih14 =>
      intro x1 F_t a_rows a_memory a_order a_image a_well H locs ls hf hP hD hS hl
      have hf := (m_X12_crashesByDraws_w14.eq_2 _ _ _ _ _ _ _ _ _).symm.trans hf
      have L58 : ∀ (x1 : Int32) (s1 : Int32) (s2 : Int32) (F_t : Nat → Int32) (a_rows : Nat → Int32) (a_memory : Nat → Int32) (a_order : Nat → Int32) (a_image : Nat → Int32) (a_well : Nat → Int32) (H : Heap) (locs : List Loc) (ls : Array Slot), m_X12_crashesByDraws_j58 (m_X12_crashesByDraws_w14 m_X12_crashesByDraws_j65 n14) x1 s1 s2 F_t a_rows a_memory a_order a_image a_well = some Rr → va_P D vwCl (w_X12_crashesByDraws h_t r_t F_t cI a_rows a_memory a_order a_image a_well) H → va_D A (w_X12_crashesByDraws h_t r_t F_t cI a_rows a_memory a_order a_image a_well) → va_S A s.heap H locs → lv_has ls 2 [(0, .ref h_t), (1, .int x1)] → W p l e rm_X12_crashesByDraws s m args below meth c H locs 0 0 Q (F0 m 58 ls [.int s2, .int s1, .ref (r_t 24)]) := by
        intro x1 s1 s2 F_t a_rows a_memory a_order a_image a_well H locs ls hf hP hD hS hl
        have hf := (m_X12_crashesByDraws_j58.eq_1 _ _ _ _ _ _ _ _ _ _).symm.trans hf
        refine z_iast hx hb hK hP hD hS 3 rfl (fun z => w_X12_crashesByDraws h_t r_t F_t cI a_rows a_memory z a_image a_well) (fun _ => rfl) dX12_crashesByDraws_58 hf (fun a13 H locs hf hP hD hS => ?_)
        refine z_iinc (k0 := 1) (fun z => [(1, .int z), (0, .ref h_t)]) hx hb dX12_crashesByDraws_59 hl rfl (by decide) (by decide) (fun _ => rfl) hf (fun v14 ls hf hl => ?_)
        refine lv_goto (tgt := 14) hx hb dX12_crashesByDraws_62 (by decide) ?_
        exact ih14 v14 F_t a_rows a_memory a13 a_image a_well _ _ _ hf hP hD hS (lv_sub hl [1, 0] rfl)
      refine lv_iload_n hx hb dX12_crashesByDraws_14 rfl (lv_at hl 1 rfl) ?_
      refine lv_bipush (v := 16) hx hb dX12_crashesByDraws_15 (by decide) ?_
      refine z_icmp_ge (tgt := 65) hx hb dX12_crashesByDraws_17 (by decide) hf (fun hf => ?_) (fun hf => ?_)
      · exact L65 F_t a_rows a_memory a_order a_image a_well _ _ _ hf hP hD hS (lv_sub hl [0] rfl)
      · refine lv_aload_n hx hb dX12_crashesByDraws_20 rfl (lv_at hl 0 rfl) ?_
        refine z_get (ci := 12) (C := RX12) (T := TX12) (N := 51) (v := .ref (r_t 24)) hx hb hts inT_X12 hown hK hP 0 rfl rfl 24 (by decide) tf_X12_42 rfl dX12_crashesByDraws_21 ?_
        refine lv_iload_n hx hb dX12_crashesByDraws_24 rfl (lv_at hl 1 rfl) ?_
        refine lv_aload_n hx hb dX12_crashesByDraws_25 rfl (lv_at hl 0 rfl) ?_
        refine z_get (ci := 12) (C := RX12) (T := TX12) (N := 51) (v := .ref (r_t 0)) hx hb hts inT_X12 hown hK hP 0 rfl rfl 0 (by decide) tf_X12_10 rfl dX12_crashesByDraws_26 ?_
        refine lv_sipush (v := 850) hx hb dX12_crashesByDraws_29 (by decide) ?_
        refine lv_iload_n hx hb dX12_crashesByDraws_32 rfl (lv_at hl 1 rfl) ?_
        refine lv_iadd hx hb dX12_crashesByDraws_33 ?_
        refine z_iald hx hb hK hP 1 rfl dX12_crashesByDraws_34 hf (fun y10 hf => ?_)
        refine z_if_ne (tgt := 42) hx hb dX12_crashesByDraws_35 (by decide) hf (fun hf => ?_) (fun hf => ?_)
        · refine lv_aload_n hx hb dX12_crashesByDraws_42 rfl (lv_at hl 0 rfl) ?_
          refine lv_aload_n hx hb dX12_crashesByDraws_43 rfl (lv_at hl 0 rfl) ?_
          refine z_get (ci := 12) (C := RX12) (T := TX12) (N := 51) (v := .ref (r_t 0)) hx hb hts inT_X12 hown hK hP 0 rfl rfl 0 (by decide) tf_X12_10 rfl dX12_crashesByDraws_44 ?_
          refine lv_sipush (v := 850) hx hb dX12_crashesByDraws_47 (by decide) ?_
          refine lv_iload_n hx hb dX12_crashesByDraws_50 rfl (lv_at hl 1 rfl) ?_
          refine lv_iadd hx hb dX12_crashesByDraws_51 ?_
          refine z_iald hx hb hK hP 1 rfl dX12_crashesByDraws_52 hf (fun y11 hf => ?_)
          refine lv_iconst (v := 1) hx hb dX12_crashesByDraws_53 (by decide) ?_
          refine lv_iadd hx hb dX12_crashesByDraws_54 ?_
          obtain ⟨u12, hu12, hf⟩ := bd_some hf
          refine z_ci (ws1 := w_X12_crashesByDraws h_t r_t u12.2 cI a_rows a_memory a_order a_image a_well) (wr := List.filterMap (fun i : Nat => (w_X12_crashesByDraws h_t r_t F_t cI a_rows a_memory a_order a_image a_well)[i]?) [1, 2, 3, 4, 5]) (z_rV (rest := [.int x1, .ref (r_t 24)]) hx hb hml hown hcx hl.1 (c_X12_draw l D cI h_t r_t F_t (y11 + 1) u12 hu12 _) tl_X12_404 ti_X12_draw tz_X12_draw tn_X12 tc_X12_draw tm_X12_draw rfl rfl ⟨Nat.le_of_ble_eq_true rfl, Nat.le_of_ble_eq_true rfl⟩ hK hX hS hA hP hD [0] rfl rfl 0 rfl rfl rfl rfl (Nat.le_of_ble_eq_true rfl) dX12_crashesByDraws_55 ⟨Nat.zero_le _, Nat.zero_le _⟩) hP hD hS hA [0] [1, 2, 3, 4, 5] [5, 0, 1, 2, 3, 4] rfl rfl rfl (by decide) rfl rfl (fun H locs hP hD hS => ?_)
          exact L58 x1 x1 u12.1 u12.2 a_rows a_memory a_order a_image a_well _ _ _ hf hP hD hS (lv_sub hl [0, 1] rfl)
        · refine lv_iconst (v := 0) hx hb dX12_crashesByDraws_38 (by decide) ?_
          refine lv_goto (tgt := 58) hx hb dX12_crashesByDraws_39 (by decide) ?_
          exact L58 x1 x1 0 F_t a_rows a_memory a_order a_image a_well _ _ _ hf hP hD hS (lv_sub hl [0, 1] rfl)
  refine lv_aload_n hx hb dX12_crashesByDraws_0 rfl (lv_at hl 0 rfl) ?_
  refine z_get (ci := 12) (C := RX12) (T := TX12) (N := 51) (v := .ref (r_t 0)) hx hb hts inT_X12 hown hK hP 0 rfl rfl 0 (by decide) tf_X12_10 rfl dX12_crashesByDraws_1 ?_
  refine lv_sipush (v := 1558) hx hb dX12_crashesByDraws_4 (by decide) ?_
  refine z_iald hx hb hK hP 1 rfl dX12_crashesByDraws_7 hf (fun y1 hf => ?_)
  refine lv_iconst (v := 1) hx hb dX12_crashesByDraws_8 (by decide) ?_
  refine z_icmp_eq (tgt := 86) hx hb dX12_crashesByDraws_9 (by decide) hf (fun hf => ?_) (fun hf => ?_)
  · exact L86 F_t a_rows a_memory a_order a_image a_well _ _ _ hf hP hD hS (lv_sub hl [0] rfl)
  · refine lv_iconst (v := 0) hx hb dX12_crashesByDraws_12 (by decide) ?_
    refine lv_istore_n (lv' := [(1, .int 0), (0, .ref h_t)]) hx hb dX12_crashesByDraws_13 rfl hl (by decide) rfl (fun ls hl => ?_)
    exact L14 fuelN 0 F_t a_rows a_memory a_order a_image a_well _ _ _ hf hP hD hS (lv_sub hl [1, 0] rfl)
abbrev w_X12_year (h_t : Nat) (r_t : Nat → Nat) (F_t : Nat → Int32) (cI : ClassId) (a_rows : Nat → Int32) (a_words : Nat → Int32) (a_address : Nat → Int32) (a_number : Nat → Int32) (a_memory : Nat → Int32) (a_order : Nat → Int32) (a_image : Nat → Int32) (a_well : Nat → Int32) : va_W := [(h_t, .inr (12, o_X12 r_t F_t)), ((r_t 0), .inl (cI, 66100, .inl a_rows)), ((r_t 16), .inl (cI, 64, .inl a_words)), ((r_t 17), .inl (cI, 64, .inl a_address)), ((r_t 18), .inl (cI, 64, .inl a_number)), ((r_t 23), .inl (cI, 64, .inl a_memory)), ((r_t 24), .inl (cI, 16, .inl a_order)), ((r_t 25), .inl (cI, 64, .inl a_image)), ((r_t 26), .inl (cI, 88, .inl a_well))]
abbrev rm_X12_year : Room := { frames := 10, cells := 0, slots := 0, locals := 228 }
def m_X12_year_j102 (x1 : Int32) (x2 : Int32) (s0 : Int32) (F_t : Nat → Int32) (a_rows : Nat → Int32) (a_words : Nat → Int32) (a_address : Nat → Int32) (a_number : Nat → Int32) (a_memory : Nat → Int32) (a_order : Nat → Int32) (a_image : Nat → Int32) (a_well : Nat → Int32) : Option ((Nat → Int32) × (Nat → Int32) × (Nat → Int32) × (Nat → Int32) × (Nat → Int32) × (Nat → Int32) × (Nat → Int32) × (Nat → Int32) × (Nat → Int32)) :=
  rd a_rows 66100 1563 fun y3 =>
  if 12 ≤ y3 then (
  some (F_t, a_rows, a_words, a_address, a_number, a_memory, a_order, a_image, a_well))
  else (
  bd (m_X12_waits a_rows 786 (x1 - 6) x2 s0) fun u4 =>
  some (F_t, u4, a_words, a_address, a_number, a_memory, a_order, a_image, a_well))
def m_X12_year (F_t : Nat → Int32) (a_rows : Nat → Int32) (a_words : Nat → Int32) (a_address : Nat → Int32) (a_number : Nat → Int32) (a_memory : Nat → Int32) (a_order : Nat → Int32) (a_image : Nat → Int32) (a_well : Nat → Int32) : Option ((Nat → Int32) × (Nat → Int32) × (Nat → Int32) × (Nat → Int32) × (Nat → Int32) × (Nat → Int32) × (Nat → Int32) × (Nat → Int32) × (Nat → Int32)) :=
  bd (m_X12_draw F_t 8) fun u1 =>
  if 4 ≤ u1.1 then (
  if u1.1 = 4 then (
  bd (m_X12_draw u1.2 16) fun u7 =>
  rd a_rows 66100 (850 + u7.1) fun y8 =>
  if y8 ≤ 0 then (
  some (u7.2, a_rows, a_words, a_address, a_number, a_memory, a_order, a_image, a_well))
  else (
  bd (m_X12_reaches a_rows 786 u7.1 1) fun u9 =>
  some (u7.2, u9, a_words, a_address, a_number, a_memory, a_order, a_image, a_well)))
  else (
  if u1.1 = 5 then (
  bd (m_X12_crashesByDraws u1.2 a_rows a_memory a_order a_image a_well) fun u6 =>
  some (u6.1, u6.2.1, a_words, a_address, a_number, u6.2.2.1, u6.2.2.2.1, u6.2.2.2.2.1, u6.2.2.2.2.2))
  else (
  bd (m_X12_draw u1.2 4) fun u2 =>
  if u1.1 = 6 then (
  bd (m_X12_draw u2.2 10) fun u5 =>
  m_X12_year_j102 u1.1 u2.1 u5.1 u5.2 a_rows a_words a_address a_number a_memory a_order a_image a_well)
  else (
  m_X12_year_j102 u1.1 u2.1 0 u2.2 a_rows a_words a_address a_number a_memory a_order a_image a_well))))
  else (
  bd (m_X12_draw u1.2 6) fun u10 =>
  bd (m_X12_goes u10.2 a_rows a_words a_address a_number 786 (u10.1 + 1)) fun u11 =>
  some (u11.2.1, u11.2.2.1, u11.2.2.2.1, u11.2.2.2.2.1, u11.2.2.2.2.2, a_memory, a_order, a_image, a_well))
set_option maxHeartbeats 4000000 in
set_option maxRecDepth 100000 in
theorem c_X12_year (l : Launch) (D : va_G) (cI : ClassId) (h_t : Nat) (r_t : Nat → Nat) (F_t : Nat → Int32) (a_rows : Nat → Int32) (a_words : Nat → Int32) (a_address : Nat → Int32) (a_number : Nat → Int32) (a_memory : Nat → Int32) (a_order : Nat → Int32) (a_image : Nat → Int32) (a_well : Nat → Int32) (Rr : (Nat → Int32) × (Nat → Int32) × (Nat → Int32) × (Nat → Int32) × (Nat → Int32) × (Nat → Int32) × (Nat → Int32) × (Nat → Int32) × (Nat → Int32)) (hf : m_X12_year F_t a_rows a_words a_address a_number a_memory a_order a_image a_well = some Rr) : CTv l yX12_year (Cond.code yX12_year cX12_year 4 none) rm_X12_year D cI [.ref h_t] (w_X12_year h_t r_t F_t cI a_rows a_words a_address a_number a_memory a_order a_image a_well) (w_X12_year h_t r_t Rr.1 cI Rr.2.1 Rr.2.2.1 Rr.2.2.2.1 Rr.2.2.2.2.1 Rr.2.2.2.2.2.1 Rr.2.2.2.2.2.2.1 Rr.2.2.2.2.2.2.2.1 Rr.2.2.2.2.2.2.2.2) := by
  refine z_begin_v (own := RX12) (ρ := (Nat → Int32) × (Nat → Int32) × (Nat → Int32) × (Nat → Int32) × (Nat → Int32) × (Nat → Int32) × (Nat → Int32) × (Nat → Int32) × (Nat → Int32)) (fun u => w_X12_year h_t r_t u.1 cI u.2.1 u.2.2.1 u.2.2.2.1 u.2.2.2.2.1 u.2.2.2.2.2.1 u.2.2.2.2.2.2.1 u.2.2.2.2.2.2.2.1 u.2.2.2.2.2.2.2.2) (by decide +kernel) rfl (Nat.le_of_ble_eq_true rfl) ?_
  intro p e s m args below meth c ls Q A hx hb hml hts hcx hown hK hX hA hP hD hS hl hret
  have hl : lv_has ls 4 [(0, .ref h_t)] := hl
  have hf := (m_X12_year.eq_1 _ _ _ _ _ _ _ _ _).symm.trans hf
  have L102 : ∀ (x1 : Int32) (x2 : Int32) (s0 : Int32) (F_t : Nat → Int32) (a_rows : Nat → Int32) (a_words : Nat → Int32) (a_address : Nat → Int32) (a_number : Nat → Int32) (a_memory : Nat → Int32) (a_order : Nat → Int32) (a_image : Nat → Int32) (a_well : Nat → Int32) (H : Heap) (locs : List Loc) (ls : Array Slot), m_X12_year_j102 x1 x2 s0 F_t a_rows a_words a_address a_number a_memory a_order a_image a_well = some Rr → va_P D vwCl (w_X12_year h_t r_t F_t cI a_rows a_words a_address a_number a_memory a_order a_image a_well) H → va_D A (w_X12_year h_t r_t F_t cI a_rows a_words a_address a_number a_memory a_order a_image a_well) → va_S A s.heap H locs → lv_has ls 4 [(0, .ref h_t), (1, .int x1), (2, .int x2)] → W p l e rm_X12_year s m args below meth c H locs 0 0 Q (F0 m 102 ls [.int s0]) := by
    intro x1 x2 s0 F_t a_rows a_words a_address a_number a_memory a_order a_image a_well H locs ls hf hP hD hS hl
    have hf := (m_X12_year_j102.eq_1 _ _ _ _ _ _ _ _ _ _ _ _).symm.trans hf
    refine lv_istore_n (lv' := [(3, .int s0), (0, .ref h_t), (1, .int x1), (2, .int x2)]) hx hb dX12_year_102 rfl hl (by decide) rfl (fun ls hl => ?_)
    refine lv_aload_n hx hb dX12_year_103 rfl (lv_at hl 1 rfl) ?_
    refine z_get (ci := 12) (C := RX12) (T := TX12) (N := 51) (v := .ref (r_t 0)) hx hb hts inT_X12 hown hK hP 0 rfl rfl 0 (by decide) tf_X12_10 rfl dX12_year_104 ?_
    refine lv_sipush (v := 1563) hx hb dX12_year_107 (by decide) ?_
    refine z_iald hx hb hK hP 1 rfl dX12_year_110 hf (fun y3 hf => ?_)
    refine lv_bipush (v := 12) hx hb dX12_year_111 (by decide) ?_
    refine z_icmp_ge (tgt := 129) hx hb dX12_year_113 (by decide) hf (fun hf => ?_) (fun hf => ?_)
    · exact hret (F_t, a_rows, a_words, a_address, a_number, a_memory, a_order, a_image, a_well) _ _ _ _ hf hP hD hS dX12_year_129
    · refine lv_aload_n hx hb dX12_year_116 rfl (lv_at hl 1 rfl) ?_
      refine lv_sipush (v := 786) hx hb dX12_year_117 (by decide) ?_
      refine lv_iload_n hx hb dX12_year_120 rfl (lv_at hl 2 rfl) ?_
      refine lv_bipush (v := 6) hx hb dX12_year_121 (by decide) ?_
      refine lv_isub hx hb dX12_year_123 ?_
      refine lv_iload_n hx hb dX12_year_124 rfl (lv_at hl 3 rfl) ?_
      refine lv_iload_n hx hb dX12_year_125 rfl (lv_at hl 0 rfl) ?_
      obtain ⟨u4, hu4, hf⟩ := bd_some hf
      refine z_cv (ws1 := w_X12_year h_t r_t F_t cI u4 a_words a_address a_number a_memory a_order a_image a_well) (wr := List.filterMap (fun i : Nat => (w_X12_year h_t r_t F_t cI a_rows a_words a_address a_number a_memory a_order a_image a_well)[i]?) [2, 3, 4, 5, 6, 7, 8]) (z_rV (rest := []) hx hb hml hown hcx hl.1 (c_X12_waits l D cI h_t r_t F_t a_rows 786 (x1 - 6) x2 s0 u4 hu4 _) tl_X12_369 ti_X12_waits tz_X12_waits tn_X12 tc_X12_waits tm_X12_waits rfl rfl ⟨Nat.le_of_ble_eq_true rfl, Nat.le_of_ble_eq_true rfl⟩ hK hX hS hA hP hD [0, 1] rfl rfl 0 rfl rfl rfl rfl (Nat.le_of_ble_eq_true rfl) dX12_year_126 ⟨Nat.zero_le _, Nat.zero_le _⟩) hP hD hS hA [0, 1] [2, 3, 4, 5, 6, 7, 8] [7, 8, 0, 1, 2, 3, 4, 5, 6] rfl rfl rfl (by decide) rfl rfl (fun H locs hP hD hS => ?_)
      exact hret (F_t, u4, a_words, a_address, a_number, a_memory, a_order, a_image, a_well) _ _ _ _ hf hP hD hS dX12_year_129
  refine lv_aload_n hx hb dX12_year_0 rfl (lv_at hl 0 rfl) ?_
  refine lv_bipush (v := 8) hx hb dX12_year_1 (by decide) ?_
  obtain ⟨u1, hu1, hf⟩ := bd_some hf
  refine z_ci (ws1 := w_X12_year h_t r_t u1.2 cI a_rows a_words a_address a_number a_memory a_order a_image a_well) (wr := List.filterMap (fun i : Nat => (w_X12_year h_t r_t F_t cI a_rows a_words a_address a_number a_memory a_order a_image a_well)[i]?) [1, 2, 3, 4, 5, 6, 7, 8]) (z_rV (rest := []) hx hb hml hown hcx hl.1 (c_X12_draw l D cI h_t r_t F_t 8 u1 hu1 _) tl_X12_404 ti_X12_draw tz_X12_draw tn_X12 tc_X12_draw tm_X12_draw rfl rfl ⟨Nat.le_of_ble_eq_true rfl, Nat.le_of_ble_eq_true rfl⟩ hK hX hS hA hP hD [0] rfl rfl 0 rfl rfl rfl rfl (Nat.le_of_ble_eq_true rfl) dX12_year_3 ⟨Nat.zero_le _, Nat.zero_le _⟩) hP hD hS hA [0] [1, 2, 3, 4, 5, 6, 7, 8] [8, 0, 1, 2, 3, 4, 5, 6, 7] rfl rfl rfl (by decide) rfl rfl (fun H locs hP hD hS => ?_)
  refine lv_istore_n (lv' := [(1, .int u1.1), (0, .ref h_t)]) hx hb dX12_year_6 rfl hl (by decide) rfl (fun ls hl => ?_)
  refine lv_iload_n hx hb dX12_year_7 rfl (lv_at hl 0 rfl) ?_
  refine lv_iconst (v := 4) hx hb dX12_year_8 (by decide) ?_
  refine z_icmp_ge (tgt := 31) hx hb dX12_year_9 (by decide) hf (fun hf => ?_) (fun hf => ?_)
  · refine lv_iload_n hx hb dX12_year_31 rfl (lv_at hl 0 rfl) ?_
    refine lv_iconst (v := 4) hx hb dX12_year_32 (by decide) ?_
    refine z_icmp_ne (tgt := 68) hx hb dX12_year_33 (by decide) hf (fun hf => ?_) (fun hf => ?_)
    · refine lv_iload_n hx hb dX12_year_68 rfl (lv_at hl 0 rfl) ?_
      refine lv_iconst (v := 5) hx hb dX12_year_69 (by decide) ?_
      refine z_icmp_ne (tgt := 80) hx hb dX12_year_70 (by decide) hf (fun hf => ?_) (fun hf => ?_)
      · refine lv_aload_n hx hb dX12_year_80 rfl (lv_at hl 1 rfl) ?_
        refine lv_iconst (v := 4) hx hb dX12_year_81 (by decide) ?_
        obtain ⟨u2, hu2, hf⟩ := bd_some hf
        refine z_ci (ws1 := w_X12_year h_t r_t u2.2 cI a_rows a_words a_address a_number a_memory a_order a_image a_well) (wr := List.filterMap (fun i : Nat => (w_X12_year h_t r_t u1.2 cI a_rows a_words a_address a_number a_memory a_order a_image a_well)[i]?) [1, 2, 3, 4, 5, 6, 7, 8]) (z_rV (rest := []) hx hb hml hown hcx hl.1 (c_X12_draw l D cI h_t r_t u1.2 4 u2 hu2 _) tl_X12_404 ti_X12_draw tz_X12_draw tn_X12 tc_X12_draw tm_X12_draw rfl rfl ⟨Nat.le_of_ble_eq_true rfl, Nat.le_of_ble_eq_true rfl⟩ hK hX hS hA hP hD [0] rfl rfl 0 rfl rfl rfl rfl (Nat.le_of_ble_eq_true rfl) dX12_year_82 ⟨Nat.zero_le _, Nat.zero_le _⟩) hP hD hS hA [0] [1, 2, 3, 4, 5, 6, 7, 8] [8, 0, 1, 2, 3, 4, 5, 6, 7] rfl rfl rfl (by decide) rfl rfl (fun H locs hP hD hS => ?_)
        refine lv_istore_n (lv' := [(2, .int u2.1), (1, .int u1.1), (0, .ref h_t)]) hx hb dX12_year_85 rfl hl (by decide) rfl (fun ls hl => ?_)
        refine lv_iload_n hx hb dX12_year_86 rfl (lv_at hl 1 rfl) ?_
        refine lv_bipush (v := 6) hx hb dX12_year_87 (by decide) ?_
        refine z_icmp_ne (tgt := 101) hx hb dX12_year_89 (by decide) hf (fun hf => ?_) (fun hf => ?_)
        · refine lv_iconst (v := 0) hx hb dX12_year_101 (by decide) ?_
          exact L102 u1.1 u2.1 0 u2.2 a_rows a_words a_address a_number a_memory a_order a_image a_well _ _ _ hf hP hD hS (lv_sub hl [2, 1, 0] rfl)
        · refine lv_aload_n hx hb dX12_year_92 rfl (lv_at hl 2 rfl) ?_
          refine lv_bipush (v := 10) hx hb dX12_year_93 (by decide) ?_
          obtain ⟨u5, hu5, hf⟩ := bd_some hf
          refine z_ci (ws1 := w_X12_year h_t r_t u5.2 cI a_rows a_words a_address a_number a_memory a_order a_image a_well) (wr := List.filterMap (fun i : Nat => (w_X12_year h_t r_t u2.2 cI a_rows a_words a_address a_number a_memory a_order a_image a_well)[i]?) [1, 2, 3, 4, 5, 6, 7, 8]) (z_rV (rest := []) hx hb hml hown hcx hl.1 (c_X12_draw l D cI h_t r_t u2.2 10 u5 hu5 _) tl_X12_404 ti_X12_draw tz_X12_draw tn_X12 tc_X12_draw tm_X12_draw rfl rfl ⟨Nat.le_of_ble_eq_true rfl, Nat.le_of_ble_eq_true rfl⟩ hK hX hS hA hP hD [0] rfl rfl 0 rfl rfl rfl rfl (Nat.le_of_ble_eq_true rfl) dX12_year_95 ⟨Nat.zero_le _, Nat.zero_le _⟩) hP hD hS hA [0] [1, 2, 3, 4, 5, 6, 7, 8] [8, 0, 1, 2, 3, 4, 5, 6, 7] rfl rfl rfl (by decide) rfl rfl (fun H locs hP hD hS => ?_)
          refine lv_goto (tgt := 102) hx hb dX12_year_98 (by decide) ?_
          exact L102 u1.1 u2.1 u5.1 u5.2 a_rows a_words a_address a_number a_memory a_order a_image a_well _ _ _ hf hP hD hS (lv_sub hl [2, 1, 0] rfl)
      · refine lv_aload_n hx hb dX12_year_73 rfl (lv_at hl 1 rfl) ?_
        obtain ⟨u6, hu6, hf⟩ := bd_some hf
        refine z_cv (ws1 := w_X12_year h_t r_t u6.1 cI u6.2.1 a_words a_address a_number u6.2.2.1 u6.2.2.2.1 u6.2.2.2.2.1 u6.2.2.2.2.2) (wr := List.filterMap (fun i : Nat => (w_X12_year h_t r_t u1.2 cI a_rows a_words a_address a_number a_memory a_order a_image a_well)[i]?) [2, 3, 4]) (z_rV (rest := []) hx hb hml hown hcx hl.1 (c_X12_crashesByDraws l D cI h_t r_t u1.2 a_rows a_memory a_order a_image a_well u6 hu6 _) tl_X12_410 ti_X12_crashesByDraws tz_X12_crashesByDraws tn_X12 tc_X12_crashesByDraws tm_X12_crashesByDraws rfl rfl ⟨Nat.le_of_ble_eq_true rfl, Nat.le_of_ble_eq_true rfl⟩ hK hX hS hA hP hD [0, 1, 5, 6, 7, 8] rfl rfl 0 rfl rfl rfl rfl (Nat.le_of_ble_eq_true rfl) dX12_year_74 ⟨Nat.zero_le _, Nat.zero_le _⟩) hP hD hS hA [0, 1, 5, 6, 7, 8] [2, 3, 4] [3, 4, 0, 1, 2, 5, 6, 7, 8] rfl rfl rfl (by decide) rfl rfl (fun H locs hP hD hS => ?_)
        refine lv_goto (tgt := 129) hx hb dX12_year_77 (by decide) ?_
        exact hret (u6.1, u6.2.1, a_words, a_address, a_number, u6.2.2.1, u6.2.2.2.1, u6.2.2.2.2.1, u6.2.2.2.2.2) _ _ _ _ hf hP hD hS dX12_year_129
    · refine lv_aload_n hx hb dX12_year_36 rfl (lv_at hl 1 rfl) ?_
      refine lv_bipush (v := 16) hx hb dX12_year_37 (by decide) ?_
      obtain ⟨u7, hu7, hf⟩ := bd_some hf
      refine z_ci (ws1 := w_X12_year h_t r_t u7.2 cI a_rows a_words a_address a_number a_memory a_order a_image a_well) (wr := List.filterMap (fun i : Nat => (w_X12_year h_t r_t u1.2 cI a_rows a_words a_address a_number a_memory a_order a_image a_well)[i]?) [1, 2, 3, 4, 5, 6, 7, 8]) (z_rV (rest := []) hx hb hml hown hcx hl.1 (c_X12_draw l D cI h_t r_t u1.2 16 u7 hu7 _) tl_X12_404 ti_X12_draw tz_X12_draw tn_X12 tc_X12_draw tm_X12_draw rfl rfl ⟨Nat.le_of_ble_eq_true rfl, Nat.le_of_ble_eq_true rfl⟩ hK hX hS hA hP hD [0] rfl rfl 0 rfl rfl rfl rfl (Nat.le_of_ble_eq_true rfl) dX12_year_39 ⟨Nat.zero_le _, Nat.zero_le _⟩) hP hD hS hA [0] [1, 2, 3, 4, 5, 6, 7, 8] [8, 0, 1, 2, 3, 4, 5, 6, 7] rfl rfl rfl (by decide) rfl rfl (fun H locs hP hD hS => ?_)
      refine lv_istore_n (lv' := [(2, .int u7.1), (1, .int u1.1), (0, .ref h_t)]) hx hb dX12_year_42 rfl hl (by decide) rfl (fun ls hl => ?_)
      refine lv_aload_n hx hb dX12_year_43 rfl (lv_at hl 2 rfl) ?_
      refine z_get (ci := 12) (C := RX12) (T := TX12) (N := 51) (v := .ref (r_t 0)) hx hb hts inT_X12 hown hK hP 0 rfl rfl 0 (by decide) tf_X12_10 rfl dX12_year_44 ?_
      refine lv_sipush (v := 850) hx hb dX12_year_47 (by decide) ?_
      refine lv_iload_n hx hb dX12_year_50 rfl (lv_at hl 0 rfl) ?_
      refine lv_iadd hx hb dX12_year_51 ?_
      refine z_iald hx hb hK hP 1 rfl dX12_year_52 hf (fun y8 hf => ?_)
      refine z_if_le (tgt := 65) hx hb dX12_year_53 (by decide) hf (fun hf => ?_) (fun hf => ?_)
      · refine lv_goto (tgt := 129) hx hb dX12_year_65 (by decide) ?_
        exact hret (u7.2, a_rows, a_words, a_address, a_number, a_memory, a_order, a_image, a_well) _ _ _ _ hf hP hD hS dX12_year_129
      · refine lv_aload_n hx hb dX12_year_56 rfl (lv_at hl 2 rfl) ?_
        refine lv_sipush (v := 786) hx hb dX12_year_57 (by decide) ?_
        refine lv_iload_n hx hb dX12_year_60 rfl (lv_at hl 0 rfl) ?_
        refine lv_iconst (v := 1) hx hb dX12_year_61 (by decide) ?_
        obtain ⟨u9, hu9, hf⟩ := bd_some hf
        refine z_cv (ws1 := w_X12_year h_t r_t u7.2 cI u9 a_words a_address a_number a_memory a_order a_image a_well) (wr := List.filterMap (fun i : Nat => (w_X12_year h_t r_t u7.2 cI a_rows a_words a_address a_number a_memory a_order a_image a_well)[i]?) [2, 3, 4, 5, 6, 7, 8]) (z_rV (rest := []) hx hb hml hown hcx hl.1 (c_X12_reaches l D cI h_t r_t u7.2 a_rows 786 u7.1 1 u9 hu9 _) tl_X12_66 ti_X12_reaches tz_X12_reaches tn_X12 tc_X12_reaches tm_X12_reaches rfl rfl ⟨Nat.le_of_ble_eq_true rfl, Nat.le_of_ble_eq_true rfl⟩ hK hX hS hA hP hD [0, 1] rfl rfl 0 rfl rfl rfl rfl (Nat.le_of_ble_eq_true rfl) dX12_year_62 ⟨Nat.zero_le _, Nat.zero_le _⟩) hP hD hS hA [0, 1] [2, 3, 4, 5, 6, 7, 8] [7, 8, 0, 1, 2, 3, 4, 5, 6] rfl rfl rfl (by decide) rfl rfl (fun H locs hP hD hS => ?_)
        refine lv_goto (tgt := 129) hx hb dX12_year_65 (by decide) ?_
        exact hret (u7.2, u9, a_words, a_address, a_number, a_memory, a_order, a_image, a_well) _ _ _ _ hf hP hD hS dX12_year_129
  · refine lv_aload_n hx hb dX12_year_12 rfl (lv_at hl 1 rfl) ?_
    refine lv_sipush (v := 786) hx hb dX12_year_13 (by decide) ?_
    refine lv_aload_n hx hb dX12_year_16 rfl (lv_at hl 1 rfl) ?_
    refine lv_bipush (v := 6) hx hb dX12_year_17 (by decide) ?_
    obtain ⟨u10, hu10, hf⟩ := bd_some hf
    refine z_ci (ws1 := w_X12_year h_t r_t u10.2 cI a_rows a_words a_address a_number a_memory a_order a_image a_well) (wr := List.filterMap (fun i : Nat => (w_X12_year h_t r_t u1.2 cI a_rows a_words a_address a_number a_memory a_order a_image a_well)[i]?) [1, 2, 3, 4, 5, 6, 7, 8]) (z_rV (rest := [.int 786, .ref h_t]) hx hb hml hown hcx hl.1 (c_X12_draw l D cI h_t r_t u1.2 6 u10 hu10 _) tl_X12_404 ti_X12_draw tz_X12_draw tn_X12 tc_X12_draw tm_X12_draw rfl rfl ⟨Nat.le_of_ble_eq_true rfl, Nat.le_of_ble_eq_true rfl⟩ hK hX hS hA hP hD [0] rfl rfl 0 rfl rfl rfl rfl (Nat.le_of_ble_eq_true rfl) dX12_year_19 ⟨Nat.zero_le _, Nat.zero_le _⟩) hP hD hS hA [0] [1, 2, 3, 4, 5, 6, 7, 8] [8, 0, 1, 2, 3, 4, 5, 6, 7] rfl rfl rfl (by decide) rfl rfl (fun H locs hP hD hS => ?_)
    refine lv_iconst (v := 1) hx hb dX12_year_22 (by decide) ?_
    refine lv_iadd hx hb dX12_year_23 ?_
    obtain ⟨u11, hu11, hf⟩ := bd_some hf
    refine z_ci (ws1 := w_X12_year h_t r_t u11.2.1 cI u11.2.2.1 u11.2.2.2.1 u11.2.2.2.2.1 u11.2.2.2.2.2 a_memory a_order a_image a_well) (wr := List.filterMap (fun i : Nat => (w_X12_year h_t r_t u10.2 cI a_rows a_words a_address a_number a_memory a_order a_image a_well)[i]?) [5, 6, 7, 8]) (z_rV (rest := []) hx hb hml hown hcx hl.1 (c_X12_goes l D cI h_t r_t u10.2 a_rows a_words a_address a_number 786 (u10.1 + 1) u11 hu11 _) tl_X12_351 ti_X12_goes tz_X12_goes tn_X12 tc_X12_goes tm_X12_goes rfl rfl ⟨Nat.le_of_ble_eq_true rfl, Nat.le_of_ble_eq_true rfl⟩ hK hX hS hA hP hD [0, 1, 2, 3, 4] rfl rfl 0 rfl rfl rfl rfl (Nat.le_of_ble_eq_true rfl) dX12_year_24 ⟨Nat.zero_le _, Nat.zero_le _⟩) hP hD hS hA [0, 1, 2, 3, 4] [5, 6, 7, 8] [4, 5, 6, 7, 8, 0, 1, 2, 3] rfl rfl rfl (by decide) rfl rfl (fun H locs hP hD hS => ?_)
    refine lv_pop hx hb dX12_year_27 rfl ?_
    refine lv_goto (tgt := 129) hx hb dX12_year_28 (by decide) ?_
    exact hret (u11.2.1, u11.2.2.1, u11.2.2.2.1, u11.2.2.2.2.1, u11.2.2.2.2.2, a_memory, a_order, a_image, a_well) _ _ _ _ hf hP hD hS dX12_year_129
abbrev w_X12_years (h_t : Nat) (r_t : Nat → Nat) (F_t : Nat → Int32) (cI : ClassId) (a_rows : Nat → Int32) (a_words : Nat → Int32) (a_address : Nat → Int32) (a_number : Nat → Int32) (a_memory : Nat → Int32) (a_order : Nat → Int32) (a_image : Nat → Int32) (a_well : Nat → Int32) : va_W := [(h_t, .inr (12, o_X12 r_t F_t)), ((r_t 0), .inl (cI, 66100, .inl a_rows)), ((r_t 16), .inl (cI, 64, .inl a_words)), ((r_t 17), .inl (cI, 64, .inl a_address)), ((r_t 18), .inl (cI, 64, .inl a_number)), ((r_t 23), .inl (cI, 64, .inl a_memory)), ((r_t 24), .inl (cI, 16, .inl a_order)), ((r_t 25), .inl (cI, 64, .inl a_image)), ((r_t 26), .inl (cI, 88, .inl a_well))]
abbrev rm_X12_years : Room := { frames := 11, cells := 0, slots := 0, locals := 251 }
def m_X12_years_j69 (p1 : Int32) (p2 : Int32) (p3 : Int32) (F_t : Nat → Int32) (a_rows : Nat → Int32) (a_words : Nat → Int32) (a_address : Nat → Int32) (a_number : Nat → Int32) (a_memory : Nat → Int32) (a_order : Nat → Int32) (a_image : Nat → Int32) (a_well : Nat → Int32) : Option (Int32 × (Nat → Int32) × (Nat → Int32) × (Nat → Int32) × (Nat → Int32) × (Nat → Int32) × (Nat → Int32) × (Nat → Int32) × (Nat → Int32) × (Nat → Int32)) :=
  bd (m_X12_laysMemory a_rows a_memory 786) fun u9 =>
  if p3 = 0 then (
  rd a_rows 66100 1566 fun y12 =>
  rd a_rows 66100 780 fun y13 =>
  some ((y12 - y13), F_t, a_rows, a_words, a_address, a_number, u9, a_order, a_image, a_well))
  else (
  if p3 = 1 then (
  some ((F_t 50), F_t, a_rows, a_words, a_address, a_number, u9, a_order, a_image, a_well))
  else (
  bd (m_X12_leaked F_t u9 64) fun u10 =>
  bd (m_X12_bits u10.1) fun u11 =>
  some (u11, u10.2, a_rows, a_words, a_address, a_number, u9, a_order, a_image, a_well)))
def m_X12_years_w53 (p1 : Int32) (p2 : Int32) (p3 : Int32) (k69 : (Nat → Int32) → (Nat → Int32) → (Nat → Int32) → (Nat → Int32) → (Nat → Int32) → (Nat → Int32) → (Nat → Int32) → (Nat → Int32) → (Nat → Int32) → Option (Int32 × (Nat → Int32) × (Nat → Int32) × (Nat → Int32) × (Nat → Int32) × (Nat → Int32) × (Nat → Int32) × (Nat → Int32) × (Nat → Int32) × (Nat → Int32))) : Nat → Int32 → (Nat → Int32) → (Nat → Int32) → (Nat → Int32) → (Nat → Int32) → (Nat → Int32) → (Nat → Int32) → (Nat → Int32) → (Nat → Int32) → (Nat → Int32) → Option (Int32 × (Nat → Int32) × (Nat → Int32) × (Nat → Int32) × (Nat → Int32) × (Nat → Int32) × (Nat → Int32) × (Nat → Int32) × (Nat → Int32) × (Nat → Int32))
  | 0, _, _, _, _, _, _, _, _, _, _ => none
  | n53 + 1, x4, F_t, a_rows, a_words, a_address, a_number, a_memory, a_order, a_image, a_well =>
    if p2 ≤ x4 then (
    k69 F_t a_rows a_words a_address a_number a_memory a_order a_image a_well)
    else (
    bd (m_X12_year F_t a_rows a_words a_address a_number a_memory a_order a_image a_well) fun u14 =>
    nm (x4 + 1) fun v15 =>
    m_X12_years_w53 p1 p2 p3 k69 n53 v15 u14.1 u14.2.1 u14.2.2.1 u14.2.2.2.1 u14.2.2.2.2.1 u14.2.2.2.2.2.1 u14.2.2.2.2.2.2.1 u14.2.2.2.2.2.2.2.1 u14.2.2.2.2.2.2.2.2)
def m_X12_years (F_t : Nat → Int32) (a_rows : Nat → Int32) (a_words : Nat → Int32) (a_address : Nat → Int32) (a_number : Nat → Int32) (a_memory : Nat → Int32) (a_order : Nat → Int32) (a_image : Nat → Int32) (a_well : Nat → Int32) (p1 : Int32) (p2 : Int32) (p3 : Int32) : Option (Int32 × (Nat → Int32) × (Nat → Int32) × (Nat → Int32) × (Nat → Int32) × (Nat → Int32) × (Nat → Int32) × (Nat → Int32) × (Nat → Int32) × (Nat → Int32)) :=
  nm (upd F_t 4 0) fun F1 =>
  bd (m_X12_within p3 0 2) fun u2 =>
  bd (m_X12_right F1 u2 1) fun u3 =>
  if u3.1 = 0 then (
  some (0, u3.2, a_rows, a_words, a_address, a_number, a_memory, a_order, a_image, a_well))
  else (
  bd (m_X12_within p2 0 30) fun u4 =>
  bd (m_X12_right u3.2 u4 2) fun u5 =>
  if u5.1 = 0 then (
  some (0, u5.2, a_rows, a_words, a_address, a_number, a_memory, a_order, a_image, a_well))
  else (
  bd (m_X12_tries a_rows) fun u6 =>
  nm (upd u5.2 49 p1) fun F7 =>
  nm (upd F7 50 0) fun F8 =>
  m_X12_years_w53 p1 p2 p3 (m_X12_years_j69 p1 p2 p3) fuelN 0 F8 u6 a_words a_address a_number a_memory a_order a_image a_well))
set_option maxHeartbeats 4000000 in
set_option maxRecDepth 100000 in
theorem c_X12_years (l : Launch) (D : va_G) (cI : ClassId) (h_t : Nat) (r_t : Nat → Nat) (F_t : Nat → Int32) (a_rows : Nat → Int32) (a_words : Nat → Int32) (a_address : Nat → Int32) (a_number : Nat → Int32) (a_memory : Nat → Int32) (a_order : Nat → Int32) (a_image : Nat → Int32) (a_well : Nat → Int32) (p1 : Int32) (p2 : Int32) (p3 : Int32) (Rr : Int32 × (Nat → Int32) × (Nat → Int32) × (Nat → Int32) × (Nat → Int32) × (Nat → Int32) × (Nat → Int32) × (Nat → Int32) × (Nat → Int32) × (Nat → Int32)) (hf : m_X12_years F_t a_rows a_words a_address a_number a_memory a_order a_image a_well p1 p2 p3 = some Rr) : CTi l yX12_years (Cond.code yX12_years cX12_years 5 (some .int)) rm_X12_years D cI [.ref h_t, .int p1, .int p2, .int p3] (w_X12_years h_t r_t F_t cI a_rows a_words a_address a_number a_memory a_order a_image a_well) Rr.1 (w_X12_years h_t r_t Rr.2.1 cI Rr.2.2.1 Rr.2.2.2.1 Rr.2.2.2.2.1 Rr.2.2.2.2.2.1 Rr.2.2.2.2.2.2.1 Rr.2.2.2.2.2.2.2.1 Rr.2.2.2.2.2.2.2.2.1 Rr.2.2.2.2.2.2.2.2.2) := by
  refine z_begin_i (own := RX12) (ρ := Int32 × (Nat → Int32) × (Nat → Int32) × (Nat → Int32) × (Nat → Int32) × (Nat → Int32) × (Nat → Int32) × (Nat → Int32) × (Nat → Int32) × (Nat → Int32)) (fun u => w_X12_years h_t r_t u.2.1 cI u.2.2.1 u.2.2.2.1 u.2.2.2.2.1 u.2.2.2.2.2.1 u.2.2.2.2.2.2.1 u.2.2.2.2.2.2.2.1 u.2.2.2.2.2.2.2.2.1 u.2.2.2.2.2.2.2.2.2) (fun u => u.1) (by decide +kernel) rfl (Nat.le_of_ble_eq_true rfl) ?_
  intro p e s m args below meth c ls Q A hx hb hml hts hcx hown hK hX hA hP hD hS hl hret
  have hl : lv_has ls 5 [(0, .ref h_t), (1, .int p1), (2, .int p2), (3, .int p3)] := hl
  have hf := (m_X12_years.eq_1 _ _ _ _ _ _ _ _ _ _ _ _).symm.trans hf
  have L69 : ∀ (F_t : Nat → Int32) (a_rows : Nat → Int32) (a_words : Nat → Int32) (a_address : Nat → Int32) (a_number : Nat → Int32) (a_memory : Nat → Int32) (a_order : Nat → Int32) (a_image : Nat → Int32) (a_well : Nat → Int32) (H : Heap) (locs : List Loc) (ls : Array Slot), m_X12_years_j69 p1 p2 p3 F_t a_rows a_words a_address a_number a_memory a_order a_image a_well = some Rr → va_P D vwCl (w_X12_years h_t r_t F_t cI a_rows a_words a_address a_number a_memory a_order a_image a_well) H → va_D A (w_X12_years h_t r_t F_t cI a_rows a_words a_address a_number a_memory a_order a_image a_well) → va_S A s.heap H locs → lv_has ls 5 [(0, .ref h_t), (3, .int p3)] → W p l e rm_X12_years s m args below meth c H locs 0 0 Q (F0 m 69 ls []) := by
    intro F_t a_rows a_words a_address a_number a_memory a_order a_image a_well H locs ls hf hP hD hS hl
    have hf := (m_X12_years_j69.eq_1 _ _ _ _ _ _ _ _ _ _ _ _).symm.trans hf
    refine lv_aload_n hx hb dX12_years_69 rfl (lv_at hl 0 rfl) ?_
    refine lv_sipush (v := 786) hx hb dX12_years_70 (by decide) ?_
    obtain ⟨u9, hu9, hf⟩ := bd_some hf
    refine z_cv (ws1 := w_X12_years h_t r_t F_t cI a_rows a_words a_address a_number u9 a_order a_image a_well) (wr := List.filterMap (fun i : Nat => (w_X12_years h_t r_t F_t cI a_rows a_words a_address a_number a_memory a_order a_image a_well)[i]?) [2, 3, 4, 6, 7, 8]) (z_rV (rest := []) hx hb hml hown hcx hl.1 (c_X12_laysMemory l D cI h_t r_t F_t a_rows a_memory 786 u9 hu9 _) tl_X12_175 ti_X12_laysMemory tz_X12_laysMemory tn_X12 tc_X12_laysMemory tm_X12_laysMemory rfl rfl ⟨Nat.le_of_ble_eq_true rfl, Nat.le_of_ble_eq_true rfl⟩ hK hX hS hA hP hD [0, 1, 5] rfl rfl 0 rfl rfl rfl rfl (Nat.le_of_ble_eq_true rfl) dX12_years_73 ⟨Nat.zero_le _, Nat.zero_le _⟩) hP hD hS hA [0, 1, 5] [2, 3, 4, 6, 7, 8] [6, 7, 0, 1, 2, 8, 3, 4, 5] rfl rfl rfl (by decide) rfl rfl (fun H locs hP hD hS => ?_)
    refine lv_iload_n hx hb dX12_years_76 rfl (lv_at hl 1 rfl) ?_
    refine z_if_ne (tgt := 100) hx hb dX12_years_77 (by decide) hf (fun hf => ?_) (fun hf => ?_)
    · refine lv_iload_n hx hb dX12_years_100 rfl (lv_at hl 1 rfl) ?_
      refine lv_iconst (v := 1) hx hb dX12_years_101 (by decide) ?_
      refine z_icmp_ne (tgt := 112) hx hb dX12_years_102 (by decide) hf (fun hf => ?_) (fun hf => ?_)
      · refine lv_aload_n hx hb dX12_years_112 rfl (lv_at hl 0 rfl) ?_
        refine lv_aload_n hx hb dX12_years_113 rfl (lv_at hl 0 rfl) ?_
        refine z_get (ci := 12) (C := RX12) (T := TX12) (N := 51) (v := .ref (r_t 23)) hx hb hts inT_X12 hown hK hP 0 rfl rfl 23 (by decide) tf_X12_39 rfl dX12_years_114 ?_
        obtain ⟨u10, hu10, hf⟩ := bd_some hf
        refine z_ci (ws1 := w_X12_years h_t r_t u10.2 cI a_rows a_words a_address a_number u9 a_order a_image a_well) (wr := List.filterMap (fun i : Nat => (w_X12_years h_t r_t F_t cI a_rows a_words a_address a_number u9 a_order a_image a_well)[i]?) [1, 2, 3, 4, 6, 7, 8]) (z_rV (rest := []) hx hb hml hown hcx hl.1 (c_X12_leaked l D cI h_t (r_t 23) r_t F_t 64 u9 u10 hu10 _) tl_X12_111 ti_X12_leaked tz_X12_leaked tn_X12 tc_X12_leaked tm_X12_leaked rfl rfl ⟨Nat.le_of_ble_eq_true rfl, Nat.le_of_ble_eq_true rfl⟩ hK hX hS hA hP hD [0, 5] rfl rfl 0 rfl rfl rfl rfl (Nat.le_of_ble_eq_true rfl) dX12_years_117 ⟨Nat.zero_le _, Nat.zero_le _⟩) hP hD hS hA [0, 5] [1, 2, 3, 4, 6, 7, 8] [7, 0, 1, 2, 3, 8, 4, 5, 6] rfl rfl rfl (by decide) rfl rfl (fun H locs hP hD hS => ?_)
        obtain ⟨u11, hu11, hf⟩ := bd_some hf
        refine z_ci (ws1 := w_X12_years h_t r_t u10.2 cI a_rows a_words a_address a_number u9 a_order a_image a_well) (wr := List.filterMap (fun i : Nat => (w_X12_years h_t r_t u10.2 cI a_rows a_words a_address a_number u9 a_order a_image a_well)[i]?) [0, 1, 2, 3, 4, 5, 6, 7, 8]) (z_rS (rest := []) hx hb hml hown hcx hl.1 (c_X12_bits l D cI u10.1 u11 hu11 _) tl_X12_379 ts_X12_bits tn_X12 tc_X12_bits tm_X12_bits rfl rfl ⟨Nat.le_of_ble_eq_true rfl, Nat.le_of_ble_eq_true rfl⟩ hK hX hS hA hP hD [] rfl rfl rfl rfl (Nat.le_of_ble_eq_true rfl) dX12_years_120 ⟨Nat.zero_le _, Nat.zero_le _⟩) hP hD hS hA [] [0, 1, 2, 3, 4, 5, 6, 7, 8] [0, 1, 2, 3, 4, 5, 6, 7, 8] rfl rfl rfl (by decide) rfl rfl (fun H locs hP hD hS => ?_)
        exact hret (u11, u10.2, a_rows, a_words, a_address, a_number, u9, a_order, a_image, a_well) _ _ _ _ hf hP hD hS dX12_years_123
      · refine lv_aload_n hx hb dX12_years_105 rfl (lv_at hl 0 rfl) ?_
        refine z_get (ci := 12) (C := RX12) (T := TX12) (N := 51) (v := .int (F_t 50)) hx hb hts inT_X12 hown hK hP 0 rfl rfl 50 (by decide) tf_X12_407 rfl dX12_years_106 ?_
        refine lv_goto (tgt := 123) hx hb dX12_years_109 (by decide) ?_
        exact hret ((F_t 50), F_t, a_rows, a_words, a_address, a_number, u9, a_order, a_image, a_well) _ _ _ _ hf hP hD hS dX12_years_123
    · refine lv_aload_n hx hb dX12_years_80 rfl (lv_at hl 0 rfl) ?_
      refine z_get (ci := 12) (C := RX12) (T := TX12) (N := 51) (v := .ref (r_t 0)) hx hb hts inT_X12 hown hK hP 0 rfl rfl 0 (by decide) tf_X12_10 rfl dX12_years_81 ?_
      refine lv_sipush (v := 1566) hx hb dX12_years_84 (by decide) ?_
      refine z_iald hx hb hK hP 1 rfl dX12_years_87 hf (fun y12 hf => ?_)
      refine lv_aload_n hx hb dX12_years_88 rfl (lv_at hl 0 rfl) ?_
      refine z_get (ci := 12) (C := RX12) (T := TX12) (N := 51) (v := .ref (r_t 0)) hx hb hts inT_X12 hown hK hP 0 rfl rfl 0 (by decide) tf_X12_10 rfl dX12_years_89 ?_
      refine lv_sipush (v := 780) hx hb dX12_years_92 (by decide) ?_
      refine z_iald hx hb hK hP 1 rfl dX12_years_95 hf (fun y13 hf => ?_)
      refine lv_isub hx hb dX12_years_96 ?_
      refine lv_goto (tgt := 123) hx hb dX12_years_97 (by decide) ?_
      exact hret ((y12 - y13), F_t, a_rows, a_words, a_address, a_number, u9, a_order, a_image, a_well) _ _ _ _ hf hP hD hS dX12_years_123
  have L53 : ∀ (n53 : Nat) (x4 : Int32) (F_t : Nat → Int32) (a_rows : Nat → Int32) (a_words : Nat → Int32) (a_address : Nat → Int32) (a_number : Nat → Int32) (a_memory : Nat → Int32) (a_order : Nat → Int32) (a_image : Nat → Int32) (a_well : Nat → Int32) (H : Heap) (locs : List Loc) (ls : Array Slot), m_X12_years_w53 p1 p2 p3 (m_X12_years_j69 p1 p2 p3) n53 x4 F_t a_rows a_words a_address a_number a_memory a_order a_image a_well = some Rr → va_P D vwCl (w_X12_years h_t r_t F_t cI a_rows a_words a_address a_number a_memory a_order a_image a_well) H → va_D A (w_X12_years h_t r_t F_t cI a_rows a_words a_address a_number a_memory a_order a_image a_well) → va_S A s.heap H locs → lv_has ls 5 [(0, .ref h_t), (2, .int p2), (3, .int p3), (4, .int x4)] → W p l e rm_X12_years s m args below meth c H locs 0 0 Q (F0 m 53 ls []) := by
    intro n53
    induction n53 with
    | zero => intro x4 F_t a_rows a_words a_address a_number a_memory a_order a_image a_well H locs ls hf; cases (show (none : Option _) = some Rr from hf)
    | succ n53 ih53 =>
      intro x4 F_t a_rows a_words a_address a_number a_memory a_order a_image a_well H locs ls hf hP hD hS hl
      have hf := (m_X12_years_w53.eq_2 _ _ _ _ _ _ _ _ _ _ _ _ _ _ _).symm.trans hf
      refine lv_iload hx hb dX12_years_53 (lv_at hl 3 rfl) ?_
      refine lv_iload_n hx hb dX12_years_55 rfl (lv_at hl 1 rfl) ?_
      refine z_icmp_ge (tgt := 69) hx hb dX12_years_56 (by decide) hf (fun hf => ?_) (fun hf => ?_)
      · exact L69 F_t a_rows a_words a_address a_number a_memory a_order a_image a_well _ _ _ hf hP hD hS (lv_sub hl [0, 2] rfl)
      · refine lv_aload_n hx hb dX12_years_59 rfl (lv_at hl 0 rfl) ?_
        obtain ⟨u14, hu14, hf⟩ := bd_some hf
        refine z_cv (ws1 := w_X12_years h_t r_t u14.1 cI u14.2.1 u14.2.2.1 u14.2.2.2.1 u14.2.2.2.2.1 u14.2.2.2.2.2.1 u14.2.2.2.2.2.2.1 u14.2.2.2.2.2.2.2.1 u14.2.2.2.2.2.2.2.2) (wr := List.filterMap (fun i : Nat => (w_X12_years h_t r_t F_t cI a_rows a_words a_address a_number a_memory a_order a_image a_well)[i]?) []) (z_rV (rest := []) hx hb hml hown hcx hl.1 (c_X12_year l D cI h_t r_t F_t a_rows a_words a_address a_number a_memory a_order a_image a_well u14 hu14 _) tl_X12_413 ti_X12_year tz_X12_year tn_X12 tc_X12_year tm_X12_year rfl rfl ⟨Nat.le_of_ble_eq_true rfl, Nat.le_of_ble_eq_true rfl⟩ hK hX hS hA hP hD [0, 1, 2, 3, 4, 5, 6, 7, 8] rfl rfl 0 rfl rfl rfl rfl (Nat.le_of_ble_eq_true rfl) dX12_years_60 ⟨Nat.zero_le _, Nat.zero_le _⟩) hP hD hS hA [0, 1, 2, 3, 4, 5, 6, 7, 8] [] [0, 1, 2, 3, 4, 5, 6, 7, 8] rfl rfl rfl (by decide) rfl rfl (fun H locs hP hD hS => ?_)
        refine z_iinc (k0 := 3) (fun z => [(4, .int z), (0, .ref h_t), (2, .int p2), (3, .int p3)]) hx hb dX12_years_63 hl rfl (by decide) (by decide) (fun _ => rfl) hf (fun v15 ls hf hl => ?_)
        refine lv_goto (tgt := 53) hx hb dX12_years_66 (by decide) ?_
        exact ih53 v15 u14.1 u14.2.1 u14.2.2.1 u14.2.2.2.1 u14.2.2.2.2.1 u14.2.2.2.2.2.1 u14.2.2.2.2.2.2.1 u14.2.2.2.2.2.2.2.1 u14.2.2.2.2.2.2.2.2 _ _ _ hf hP hD hS (lv_sub hl [1, 2, 3, 0] rfl)
  refine lv_aload_n hx hb dX12_years_0 rfl (lv_at hl 0 rfl) ?_
  refine lv_iconst (v := 0) hx hb dX12_years_1 (by decide) ?_
  refine z_put (ci := 12) (C := RX12) (T := TX12) (N := 51) hx hb hts inT_X12 tyX12 tyX12_ok nmX12 hown hK hP hD hS 0 rfl rfl 4 (by decide) tf_X12_63 rfl (by decide +kernel) (Nat.le_of_ble_eq_true rfl) (o_X12 r_t) (o_X12_s4 _ _ _) (fun z => w_X12_years h_t r_t z cI a_rows a_words a_address a_number a_memory a_order a_image a_well) (fun _ => rfl) dX12_years_2 hf (fun F1 H locs hf hP hD hS => ?_)
  refine lv_aload_n hx hb dX12_years_5 rfl (lv_at hl 0 rfl) ?_
  refine lv_iload_n hx hb dX12_years_6 rfl (lv_at hl 3 rfl) ?_
  refine lv_iconst (v := 0) hx hb dX12_years_7 (by decide) ?_
  refine lv_iconst (v := 2) hx hb dX12_years_8 (by decide) ?_
  obtain ⟨u2, hu2, hf⟩ := bd_some hf
  refine z_ci (ws1 := w_X12_years h_t r_t F1 cI a_rows a_words a_address a_number a_memory a_order a_image a_well) (wr := List.filterMap (fun i : Nat => (w_X12_years h_t r_t F1 cI a_rows a_words a_address a_number a_memory a_order a_image a_well)[i]?) [0, 1, 2, 3, 4, 5, 6, 7, 8]) (z_rS (rest := [.ref h_t]) hx hb hml hown hcx hl.1 (c_X12_within l D cI p3 0 2 u2 hu2 _) tl_X12_172 ts_X12_within tn_X12 tc_X12_within tm_X12_within rfl rfl ⟨Nat.le_of_ble_eq_true rfl, Nat.le_of_ble_eq_true rfl⟩ hK hX hS hA hP hD [] rfl rfl rfl rfl (Nat.le_of_ble_eq_true rfl) dX12_years_9 ⟨Nat.zero_le _, Nat.zero_le _⟩) hP hD hS hA [] [0, 1, 2, 3, 4, 5, 6, 7, 8] [0, 1, 2, 3, 4, 5, 6, 7, 8] rfl rfl rfl (by decide) rfl rfl (fun H locs hP hD hS => ?_)
  refine lv_iconst (v := 1) hx hb dX12_years_12 (by decide) ?_
  obtain ⟨u3, hu3, hf⟩ := bd_some hf
  refine z_ci (ws1 := w_X12_years h_t r_t u3.2 cI a_rows a_words a_address a_number a_memory a_order a_image a_well) (wr := List.filterMap (fun i : Nat => (w_X12_years h_t r_t F1 cI a_rows a_words a_address a_number a_memory a_order a_image a_well)[i]?) [1, 2, 3, 4, 5, 6, 7, 8]) (z_rV (rest := []) hx hb hml hown hcx hl.1 (c_X12_right l D cI h_t r_t F1 u2 1 u3 hu3 _) tl_X12_321 ti_X12_right tz_X12_right tn_X12 tc_X12_right tm_X12_right rfl rfl ⟨Nat.le_of_ble_eq_true rfl, Nat.le_of_ble_eq_true rfl⟩ hK hX hS hA hP hD [0] rfl rfl 0 rfl rfl rfl rfl (Nat.le_of_ble_eq_true rfl) dX12_years_13 ⟨Nat.zero_le _, Nat.zero_le _⟩) hP hD hS hA [0] [1, 2, 3, 4, 5, 6, 7, 8] [8, 0, 1, 2, 3, 4, 5, 6, 7] rfl rfl rfl (by decide) rfl rfl (fun H locs hP hD hS => ?_)
  refine z_if_eq (tgt := 34) hx hb dX12_years_16 (by decide) hf (fun hf => ?_) (fun hf => ?_)
  · refine lv_iconst (v := 0) hx hb dX12_years_34 (by decide) ?_
    exact hret (0, u3.2, a_rows, a_words, a_address, a_number, a_memory, a_order, a_image, a_well) _ _ _ _ hf hP hD hS dX12_years_35
  · refine lv_aload_n hx hb dX12_years_19 rfl (lv_at hl 0 rfl) ?_
    refine lv_iload_n hx hb dX12_years_20 rfl (lv_at hl 2 rfl) ?_
    refine lv_iconst (v := 0) hx hb dX12_years_21 (by decide) ?_
    refine lv_bipush (v := 30) hx hb dX12_years_22 (by decide) ?_
    obtain ⟨u4, hu4, hf⟩ := bd_some hf
    refine z_ci (ws1 := w_X12_years h_t r_t u3.2 cI a_rows a_words a_address a_number a_memory a_order a_image a_well) (wr := List.filterMap (fun i : Nat => (w_X12_years h_t r_t u3.2 cI a_rows a_words a_address a_number a_memory a_order a_image a_well)[i]?) [0, 1, 2, 3, 4, 5, 6, 7, 8]) (z_rS (rest := [.ref h_t]) hx hb hml hown hcx hl.1 (c_X12_within l D cI p2 0 30 u4 hu4 _) tl_X12_172 ts_X12_within tn_X12 tc_X12_within tm_X12_within rfl rfl ⟨Nat.le_of_ble_eq_true rfl, Nat.le_of_ble_eq_true rfl⟩ hK hX hS hA hP hD [] rfl rfl rfl rfl (Nat.le_of_ble_eq_true rfl) dX12_years_24 ⟨Nat.zero_le _, Nat.zero_le _⟩) hP hD hS hA [] [0, 1, 2, 3, 4, 5, 6, 7, 8] [0, 1, 2, 3, 4, 5, 6, 7, 8] rfl rfl rfl (by decide) rfl rfl (fun H locs hP hD hS => ?_)
    refine lv_iconst (v := 2) hx hb dX12_years_27 (by decide) ?_
    obtain ⟨u5, hu5, hf⟩ := bd_some hf
    refine z_ci (ws1 := w_X12_years h_t r_t u5.2 cI a_rows a_words a_address a_number a_memory a_order a_image a_well) (wr := List.filterMap (fun i : Nat => (w_X12_years h_t r_t u3.2 cI a_rows a_words a_address a_number a_memory a_order a_image a_well)[i]?) [1, 2, 3, 4, 5, 6, 7, 8]) (z_rV (rest := []) hx hb hml hown hcx hl.1 (c_X12_right l D cI h_t r_t u3.2 u4 2 u5 hu5 _) tl_X12_321 ti_X12_right tz_X12_right tn_X12 tc_X12_right tm_X12_right rfl rfl ⟨Nat.le_of_ble_eq_true rfl, Nat.le_of_ble_eq_true rfl⟩ hK hX hS hA hP hD [0] rfl rfl 0 rfl rfl rfl rfl (Nat.le_of_ble_eq_true rfl) dX12_years_28 ⟨Nat.zero_le _, Nat.zero_le _⟩) hP hD hS hA [0] [1, 2, 3, 4, 5, 6, 7, 8] [8, 0, 1, 2, 3, 4, 5, 6, 7] rfl rfl rfl (by decide) rfl rfl (fun H locs hP hD hS => ?_)
    refine z_if_ne (tgt := 36) hx hb dX12_years_31 (by decide) hf (fun hf => ?_) (fun hf => ?_)
    · refine lv_aload_n hx hb dX12_years_36 rfl (lv_at hl 0 rfl) ?_
      obtain ⟨u6, hu6, hf⟩ := bd_some hf
      refine z_cv (ws1 := w_X12_years h_t r_t u5.2 cI u6 a_words a_address a_number a_memory a_order a_image a_well) (wr := List.filterMap (fun i : Nat => (w_X12_years h_t r_t u5.2 cI a_rows a_words a_address a_number a_memory a_order a_image a_well)[i]?) [2, 3, 4, 5, 6, 7, 8]) (z_rV (rest := []) hx hb hml hown hcx hl.1 (c_X12_tries l D cI h_t r_t u5.2 a_rows u6 hu6 _) tl_X12_218 ti_X12_tries tz_X12_tries tn_X12 tc_X12_tries tm_X12_tries rfl rfl ⟨Nat.le_of_ble_eq_true rfl, Nat.le_of_ble_eq_true rfl⟩ hK hX hS hA hP hD [0, 1] rfl rfl 0 rfl rfl rfl rfl (Nat.le_of_ble_eq_true rfl) dX12_years_37 ⟨Nat.zero_le _, Nat.zero_le _⟩) hP hD hS hA [0, 1] [2, 3, 4, 5, 6, 7, 8] [7, 8, 0, 1, 2, 3, 4, 5, 6] rfl rfl rfl (by decide) rfl rfl (fun H locs hP hD hS => ?_)
      refine lv_aload_n hx hb dX12_years_40 rfl (lv_at hl 0 rfl) ?_
      refine lv_iload_n hx hb dX12_years_41 rfl (lv_at hl 1 rfl) ?_
      refine z_put (ci := 12) (C := RX12) (T := TX12) (N := 51) hx hb hts inT_X12 tyX12 tyX12_ok nmX12 hown hK hP hD hS 0 rfl rfl 49 (by decide) tf_X12_400 rfl (by decide +kernel) (Nat.le_of_ble_eq_true rfl) (o_X12 r_t) (o_X12_s49 _ _ _) (fun z => w_X12_years h_t r_t z cI u6 a_words a_address a_number a_memory a_order a_image a_well) (fun _ => rfl) dX12_years_42 hf (fun F7 H locs hf hP hD hS => ?_)
      refine lv_aload_n hx hb dX12_years_45 rfl (lv_at hl 0 rfl) ?_
      refine lv_iconst (v := 0) hx hb dX12_years_46 (by decide) ?_
      refine z_put (ci := 12) (C := RX12) (T := TX12) (N := 51) hx hb hts inT_X12 tyX12 tyX12_ok nmX12 hown hK hP hD hS 0 rfl rfl 50 (by decide) tf_X12_407 rfl (by decide +kernel) (Nat.le_of_ble_eq_true rfl) (o_X12 r_t) (o_X12_s50 _ _ _) (fun z => w_X12_years h_t r_t z cI u6 a_words a_address a_number a_memory a_order a_image a_well) (fun _ => rfl) dX12_years_47 hf (fun F8 H locs hf hP hD hS => ?_)
      refine lv_iconst (v := 0) hx hb dX12_years_50 (by decide) ?_
      refine lv_istore (lv' := [(4, .int 0), (0, .ref h_t), (1, .int p1), (2, .int p2), (3, .int p3)]) hx hb dX12_years_51 hl (by decide) rfl (fun ls hl => ?_)
      exact L53 fuelN 0 F8 u6 a_words a_address a_number a_memory a_order a_image a_well _ _ _ hf hP hD hS (lv_sub hl [1, 3, 4, 0] rfl)
    · refine lv_iconst (v := 0) hx hb dX12_years_34 (by decide) ?_
      exact hret (0, u5.2, a_rows, a_words, a_address, a_number, a_memory, a_order, a_image, a_well) _ _ _ _ hf hP hD hS dX12_years_35
abbrev w_X12_image (h_t : Nat) (r_t : Nat → Nat) (F_t : Nat → Int32) (cI : ClassId) (a_rows : Nat → Int32) (a_seenWord : Nat → Int32) (a_seenNumber : Nat → Int32) (a_refused : Nat → Int32) : va_W := [(h_t, .inr (12, o_X12 r_t F_t)), ((r_t 0), .inl (cI, 66100, .inl a_rows)), ((r_t 1), .inl (cI, 16, .inl a_seenWord)), ((r_t 2), .inl (cI, 16, .inl a_seenNumber)), ((r_t 3), .inl (cI, 6, .inl a_refused))]
abbrev rm_X12_image : Room := { frames := 1, cells := 0, slots := 0, locals := 24 }
def m_X12_image_j124 (F_t : Nat → Int32) (a_rows : Nat → Int32) (a_seenWord : Nat → Int32) (a_seenNumber : Nat → Int32) (a_refused : Nat → Int32) : Option ((Nat → Int32) × (Nat → Int32) × (Nat → Int32) × (Nat → Int32) × (Nat → Int32)) :=
  nm (upd F_t 11 1) fun F7 =>
  some (F7, a_rows, a_seenWord, a_seenNumber, a_refused)
def m_X12_image_w99 (k124 : (Nat → Int32) → (Nat → Int32) → (Nat → Int32) → (Nat → Int32) → (Nat → Int32) → Option ((Nat → Int32) × (Nat → Int32) × (Nat → Int32) × (Nat → Int32) × (Nat → Int32))) : Nat → Int32 → (Nat → Int32) → (Nat → Int32) → (Nat → Int32) → (Nat → Int32) → (Nat → Int32) → Option ((Nat → Int32) × (Nat → Int32) × (Nat → Int32) × (Nat → Int32) × (Nat → Int32))
  | 0, _, _, _, _, _, _ => none
  | n99 + 1, x1, F_t, a_rows, a_seenWord, a_seenNumber, a_refused =>
    if 3 ≤ x1 then (
    k124 F_t a_rows a_seenWord a_seenNumber a_refused)
    else (
    rd a_refused 6 x1 fun y8 =>
    wr a_refused 6 (3 + x1) y8 fun a9 =>
    nm (x1 + 1) fun v10 =>
    m_X12_image_w99 k124 n99 v10 F_t a_rows a_seenWord a_seenNumber a9)
def m_X12_image_j97 (F_t : Nat → Int32) (a_rows : Nat → Int32) (a_seenWord : Nat → Int32) (a_seenNumber : Nat → Int32) (a_refused : Nat → Int32) : Option ((Nat → Int32) × (Nat → Int32) × (Nat → Int32) × (Nat → Int32) × (Nat → Int32)) :=
  m_X12_image_w99 m_X12_image_j124 fuelN 0 F_t a_rows a_seenWord a_seenNumber a_refused
def m_X12_image_w55 (k97 : (Nat → Int32) → (Nat → Int32) → (Nat → Int32) → (Nat → Int32) → (Nat → Int32) → Option ((Nat → Int32) × (Nat → Int32) × (Nat → Int32) × (Nat → Int32) × (Nat → Int32))) : Nat → Int32 → (Nat → Int32) → (Nat → Int32) → (Nat → Int32) → (Nat → Int32) → (Nat → Int32) → Option ((Nat → Int32) × (Nat → Int32) × (Nat → Int32) × (Nat → Int32) × (Nat → Int32))
  | 0, _, _, _, _, _, _ => none
  | n55 + 1, x1, F_t, a_rows, a_seenWord, a_seenNumber, a_refused =>
    if 8 ≤ x1 then (
    k97 F_t a_rows a_seenWord a_seenNumber a_refused)
    else (
    rd a_seenWord 16 x1 fun y11 =>
    wr a_seenWord 16 (8 + x1) y11 fun a12 =>
    rd a_seenNumber 16 x1 fun y13 =>
    wr a_seenNumber 16 (8 + x1) y13 fun a14 =>
    nm (x1 + 1) fun v15 =>
    m_X12_image_w55 k97 n55 v15 F_t a_rows a12 a14 a_refused)
def m_X12_image (F_t : Nat → Int32) (a_rows : Nat → Int32) (a_seenWord : Nat → Int32) (a_seenNumber : Nat → Int32) (a_refused : Nat → Int32) : Option ((Nat → Int32) × (Nat → Int32) × (Nat → Int32) × (Nat → Int32) × (Nat → Int32)) :=
  nm (upd F_t 4 0) fun F1 =>
  bd (m_X12_copies a_rows 0 33798 786) fun u2 =>
  bd (m_X12_copies u2 2358 34584 31440) fun u3 =>
  nm (upd F1 8 (F1 5)) fun F4 =>
  nm (upd F4 9 (F4 6)) fun F5 =>
  nm (upd F5 10 (F5 7)) fun F6 =>
  m_X12_image_w55 m_X12_image_j97 fuelN 0 F6 u3 a_seenWord a_seenNumber a_refused
set_option maxHeartbeats 4000000 in
set_option maxRecDepth 100000 in
theorem c_X12_image (l : Launch) (D : va_G) (cI : ClassId) (h_t : Nat) (r_t : Nat → Nat) (F_t : Nat → Int32) (a_rows : Nat → Int32) (a_seenWord : Nat → Int32) (a_seenNumber : Nat → Int32) (a_refused : Nat → Int32) (Rr : (Nat → Int32) × (Nat → Int32) × (Nat → Int32) × (Nat → Int32) × (Nat → Int32)) (hf : m_X12_image F_t a_rows a_seenWord a_seenNumber a_refused = some Rr) : CTv l yX12_image (Cond.code yX12_image cX12_image 2 none) rm_X12_image D cI [.ref h_t] (w_X12_image h_t r_t F_t cI a_rows a_seenWord a_seenNumber a_refused) (w_X12_image h_t r_t Rr.1 cI Rr.2.1 Rr.2.2.1 Rr.2.2.2.1 Rr.2.2.2.2) := by
  refine z_begin_v (own := RX12) (ρ := (Nat → Int32) × (Nat → Int32) × (Nat → Int32) × (Nat → Int32) × (Nat → Int32)) (fun u => w_X12_image h_t r_t u.1 cI u.2.1 u.2.2.1 u.2.2.2.1 u.2.2.2.2) (by decide +kernel) rfl (Nat.le_of_ble_eq_true rfl) ?_
  intro p e s m args below meth c ls Q A hx hb hml hts hcx hown hK hX hA hP hD hS hl hret
  have hl : lv_has ls 2 [(0, .ref h_t)] := hl
  have hf := (m_X12_image.eq_1 _ _ _ _ _).symm.trans hf
  have L124 : ∀ (F_t : Nat → Int32) (a_rows : Nat → Int32) (a_seenWord : Nat → Int32) (a_seenNumber : Nat → Int32) (a_refused : Nat → Int32) (H : Heap) (locs : List Loc) (ls : Array Slot), m_X12_image_j124 F_t a_rows a_seenWord a_seenNumber a_refused = some Rr → va_P D vwCl (w_X12_image h_t r_t F_t cI a_rows a_seenWord a_seenNumber a_refused) H → va_D A (w_X12_image h_t r_t F_t cI a_rows a_seenWord a_seenNumber a_refused) → va_S A s.heap H locs → lv_has ls 2 [(0, .ref h_t)] → W p l e rm_X12_image s m args below meth c H locs 0 0 Q (F0 m 124 ls []) := by
    intro F_t a_rows a_seenWord a_seenNumber a_refused H locs ls hf hP hD hS hl
    have hf := (m_X12_image_j124.eq_1 _ _ _ _ _).symm.trans hf
    refine lv_aload_n hx hb dX12_image_124 rfl (lv_at hl 0 rfl) ?_
    refine lv_iconst (v := 1) hx hb dX12_image_125 (by decide) ?_
    refine z_put (ci := 12) (C := RX12) (T := TX12) (N := 51) hx hb hts inT_X12 tyX12 tyX12_ok nmX12 hown hK hP hD hS 0 rfl rfl 11 (by decide) tf_X12_327 rfl (by decide +kernel) (Nat.le_of_ble_eq_true rfl) (o_X12 r_t) (o_X12_s11 _ _ _) (fun z => w_X12_image h_t r_t z cI a_rows a_seenWord a_seenNumber a_refused) (fun _ => rfl) dX12_image_126 hf (fun F7 H locs hf hP hD hS => ?_)
    exact hret (F7, a_rows, a_seenWord, a_seenNumber, a_refused) _ _ _ _ hf hP hD hS dX12_image_129
  have L99 : ∀ (n99 : Nat) (x1 : Int32) (F_t : Nat → Int32) (a_rows : Nat → Int32) (a_seenWord : Nat → Int32) (a_seenNumber : Nat → Int32) (a_refused : Nat → Int32) (H : Heap) (locs : List Loc) (ls : Array Slot), m_X12_image_w99 m_X12_image_j124 n99 x1 F_t a_rows a_seenWord a_seenNumber a_refused = some Rr → va_P D vwCl (w_X12_image h_t r_t F_t cI a_rows a_seenWord a_seenNumber a_refused) H → va_D A (w_X12_image h_t r_t F_t cI a_rows a_seenWord a_seenNumber a_refused) → va_S A s.heap H locs → lv_has ls 2 [(0, .ref h_t), (1, .int x1)] → W p l e rm_X12_image s m args below meth c H locs 0 0 Q (F0 m 99 ls []) := by
    intro n99
    induction n99 with
    | zero => intro x1 F_t a_rows a_seenWord a_seenNumber a_refused H locs ls hf; cases (show (none : Option _) = some Rr from hf)
    | succ n99 ih99 =>
      intro x1 F_t a_rows a_seenWord a_seenNumber a_refused H locs ls hf hP hD hS hl
      have hf := (m_X12_image_w99.eq_2 _ _ _ _ _ _ _ _).symm.trans hf
      refine lv_iload_n hx hb dX12_image_99 rfl (lv_at hl 1 rfl) ?_
      refine lv_iconst (v := 3) hx hb dX12_image_100 (by decide) ?_
      refine z_icmp_ge (tgt := 124) hx hb dX12_image_101 (by decide) hf (fun hf => ?_) (fun hf => ?_)
      · exact L124 F_t a_rows a_seenWord a_seenNumber a_refused _ _ _ hf hP hD hS (lv_sub hl [0] rfl)
      · refine lv_aload_n hx hb dX12_image_104 rfl (lv_at hl 0 rfl) ?_
        refine z_get (ci := 12) (C := RX12) (T := TX12) (N := 51) (v := .ref (r_t 3)) hx hb hts inT_X12 hown hK hP 0 rfl rfl 3 (by decide) tf_X12_20 rfl dX12_image_105 ?_
        refine lv_iconst (v := 3) hx hb dX12_image_108 (by decide) ?_
        refine lv_iload_n hx hb dX12_image_109 rfl (lv_at hl 1 rfl) ?_
        refine lv_iadd hx hb dX12_image_110 ?_
        refine lv_aload_n hx hb dX12_image_111 rfl (lv_at hl 0 rfl) ?_
        refine z_get (ci := 12) (C := RX12) (T := TX12) (N := 51) (v := .ref (r_t 3)) hx hb hts inT_X12 hown hK hP 0 rfl rfl 3 (by decide) tf_X12_20 rfl dX12_image_112 ?_
        refine lv_iload_n hx hb dX12_image_115 rfl (lv_at hl 1 rfl) ?_
        refine z_iald hx hb hK hP 4 rfl dX12_image_116 hf (fun y8 hf => ?_)
        refine z_iast hx hb hK hP hD hS 4 rfl (fun z => w_X12_image h_t r_t F_t cI a_rows a_seenWord a_seenNumber z) (fun _ => rfl) dX12_image_117 hf (fun a9 H locs hf hP hD hS => ?_)
        refine z_iinc (k0 := 1) (fun z => [(1, .int z), (0, .ref h_t)]) hx hb dX12_image_118 hl rfl (by decide) (by decide) (fun _ => rfl) hf (fun v10 ls hf hl => ?_)
        refine lv_goto (tgt := 99) hx hb dX12_image_121 (by decide) ?_
        exact ih99 v10 F_t a_rows a_seenWord a_seenNumber a9 _ _ _ hf hP hD hS (lv_sub hl [1, 0] rfl)
  have L97 : ∀ (F_t : Nat → Int32) (a_rows : Nat → Int32) (a_seenWord : Nat → Int32) (a_seenNumber : Nat → Int32) (a_refused : Nat → Int32) (H : Heap) (locs : List Loc) (ls : Array Slot), m_X12_image_j97 F_t a_rows a_seenWord a_seenNumber a_refused = some Rr → va_P D vwCl (w_X12_image h_t r_t F_t cI a_rows a_seenWord a_seenNumber a_refused) H → va_D A (w_X12_image h_t r_t F_t cI a_rows a_seenWord a_seenNumber a_refused) → va_S A s.heap H locs → lv_has ls 2 [(0, .ref h_t)] → W p l e rm_X12_image s m args below meth c H locs 0 0 Q (F0 m 97 ls []) := by
    intro F_t a_rows a_seenWord a_seenNumber a_refused H locs ls hf hP hD hS hl
    have hf := (m_X12_image_j97.eq_1 _ _ _ _ _).symm.trans hf
    refine lv_iconst (v := 0) hx hb dX12_image_97 (by decide) ?_
    refine lv_istore_n (lv' := [(1, .int 0), (0, .ref h_t)]) hx hb dX12_image_98 rfl hl (by decide) rfl (fun ls hl => ?_)
    exact L99 fuelN 0 F_t a_rows a_seenWord a_seenNumber a_refused _ _ _ hf hP hD hS (lv_sub hl [1, 0] rfl)
  have L55 : ∀ (n55 : Nat) (x1 : Int32) (F_t : Nat → Int32) (a_rows : Nat → Int32) (a_seenWord : Nat → Int32) (a_seenNumber : Nat → Int32) (a_refused : Nat → Int32) (H : Heap) (locs : List Loc) (ls : Array Slot), m_X12_image_w55 m_X12_image_j97 n55 x1 F_t a_rows a_seenWord a_seenNumber a_refused = some Rr → va_P D vwCl (w_X12_image h_t r_t F_t cI a_rows a_seenWord a_seenNumber a_refused) H → va_D A (w_X12_image h_t r_t F_t cI a_rows a_seenWord a_seenNumber a_refused) → va_S A s.heap H locs → lv_has ls 2 [(0, .ref h_t), (1, .int x1)] → W p l e rm_X12_image s m args below meth c H locs 0 0 Q (F0 m 55 ls []) := by
    intro n55
    induction n55 with
    | zero => intro x1 F_t a_rows a_seenWord a_seenNumber a_refused H locs ls hf; cases (show (none : Option _) = some Rr from hf)
    | succ n55 ih55 =>
      intro x1 F_t a_rows a_seenWord a_seenNumber a_refused H locs ls hf hP hD hS hl
      have hf := (m_X12_image_w55.eq_2 _ _ _ _ _ _ _ _).symm.trans hf
      refine lv_iload_n hx hb dX12_image_55 rfl (lv_at hl 1 rfl) ?_
      refine lv_bipush (v := 8) hx hb dX12_image_56 (by decide) ?_
      refine z_icmp_ge (tgt := 97) hx hb dX12_image_58 (by decide) hf (fun hf => ?_) (fun hf => ?_)
      · exact L97 F_t a_rows a_seenWord a_seenNumber a_refused _ _ _ hf hP hD hS (lv_sub hl [0] rfl)
      · refine lv_aload_n hx hb dX12_image_61 rfl (lv_at hl 0 rfl) ?_
        refine z_get (ci := 12) (C := RX12) (T := TX12) (N := 51) (v := .ref (r_t 1)) hx hb hts inT_X12 hown hK hP 0 rfl rfl 1 (by decide) tf_X12_14 rfl dX12_image_62 ?_
        refine lv_bipush (v := 8) hx hb dX12_image_65 (by decide) ?_
        refine lv_iload_n hx hb dX12_image_67 rfl (lv_at hl 1 rfl) ?_
        refine lv_iadd hx hb dX12_image_68 ?_
        refine lv_aload_n hx hb dX12_image_69 rfl (lv_at hl 0 rfl) ?_
        refine z_get (ci := 12) (C := RX12) (T := TX12) (N := 51) (v := .ref (r_t 1)) hx hb hts inT_X12 hown hK hP 0 rfl rfl 1 (by decide) tf_X12_14 rfl dX12_image_70 ?_
        refine lv_iload_n hx hb dX12_image_73 rfl (lv_at hl 1 rfl) ?_
        refine z_iald hx hb hK hP 2 rfl dX12_image_74 hf (fun y11 hf => ?_)
        refine z_iast hx hb hK hP hD hS 2 rfl (fun z => w_X12_image h_t r_t F_t cI a_rows z a_seenNumber a_refused) (fun _ => rfl) dX12_image_75 hf (fun a12 H locs hf hP hD hS => ?_)
        refine lv_aload_n hx hb dX12_image_76 rfl (lv_at hl 0 rfl) ?_
        refine z_get (ci := 12) (C := RX12) (T := TX12) (N := 51) (v := .ref (r_t 2)) hx hb hts inT_X12 hown hK hP 0 rfl rfl 2 (by decide) tf_X12_17 rfl dX12_image_77 ?_
        refine lv_bipush (v := 8) hx hb dX12_image_80 (by decide) ?_
        refine lv_iload_n hx hb dX12_image_82 rfl (lv_at hl 1 rfl) ?_
        refine lv_iadd hx hb dX12_image_83 ?_
        refine lv_aload_n hx hb dX12_image_84 rfl (lv_at hl 0 rfl) ?_
        refine z_get (ci := 12) (C := RX12) (T := TX12) (N := 51) (v := .ref (r_t 2)) hx hb hts inT_X12 hown hK hP 0 rfl rfl 2 (by decide) tf_X12_17 rfl dX12_image_85 ?_
        refine lv_iload_n hx hb dX12_image_88 rfl (lv_at hl 1 rfl) ?_
        refine z_iald hx hb hK hP 3 rfl dX12_image_89 hf (fun y13 hf => ?_)
        refine z_iast hx hb hK hP hD hS 3 rfl (fun z => w_X12_image h_t r_t F_t cI a_rows a12 z a_refused) (fun _ => rfl) dX12_image_90 hf (fun a14 H locs hf hP hD hS => ?_)
        refine z_iinc (k0 := 1) (fun z => [(1, .int z), (0, .ref h_t)]) hx hb dX12_image_91 hl rfl (by decide) (by decide) (fun _ => rfl) hf (fun v15 ls hf hl => ?_)
        refine lv_goto (tgt := 55) hx hb dX12_image_94 (by decide) ?_
        exact ih55 v15 F_t a_rows a12 a14 a_refused _ _ _ hf hP hD hS (lv_sub hl [1, 0] rfl)
  refine lv_aload_n hx hb dX12_image_0 rfl (lv_at hl 0 rfl) ?_
  refine lv_iconst (v := 0) hx hb dX12_image_1 (by decide) ?_
  refine z_put (ci := 12) (C := RX12) (T := TX12) (N := 51) hx hb hts inT_X12 tyX12 tyX12_ok nmX12 hown hK hP hD hS 0 rfl rfl 4 (by decide) tf_X12_63 rfl (by decide +kernel) (Nat.le_of_ble_eq_true rfl) (o_X12 r_t) (o_X12_s4 _ _ _) (fun z => w_X12_image h_t r_t z cI a_rows a_seenWord a_seenNumber a_refused) (fun _ => rfl) dX12_image_2 hf (fun F1 H locs hf hP hD hS => ?_)
  refine lv_aload_n hx hb dX12_image_5 rfl (lv_at hl 0 rfl) ?_
  refine lv_iconst (v := 0) hx hb dX12_image_6 (by decide) ?_
  refine lv_ldcw hx hb hown (hts _ tk_X12_416) dX12_image_7 ?_
  refine lv_sipush (v := 786) hx hb dX12_image_10 (by decide) ?_
  obtain ⟨u2, hu2, hf⟩ := bd_some hf
  refine z_cv (ws1 := w_X12_image h_t r_t F1 cI u2 a_seenWord a_seenNumber a_refused) (wr := List.filterMap (fun i : Nat => (w_X12_image h_t r_t F1 cI a_rows a_seenWord a_seenNumber a_refused)[i]?) [2, 3, 4]) (z_rV (rest := []) hx hb hml hown hcx hl.1 (c_X12_copies l D cI h_t r_t F1 a_rows 0 33798 786 u2 hu2 _) tl_X12_224 ti_X12_copies tz_X12_copies tn_X12 tc_X12_copies tm_X12_copies rfl rfl ⟨Nat.le_of_ble_eq_true rfl, Nat.le_of_ble_eq_true rfl⟩ hK hX hS hA hP hD [0, 1] rfl rfl 0 rfl rfl rfl rfl (Nat.le_of_ble_eq_true rfl) dX12_image_13 ⟨Nat.zero_le _, Nat.zero_le _⟩) hP hD hS hA [0, 1] [2, 3, 4] [3, 4, 0, 1, 2] rfl rfl rfl (by decide) rfl rfl (fun H locs hP hD hS => ?_)
  refine lv_aload_n hx hb dX12_image_16 rfl (lv_at hl 0 rfl) ?_
  refine lv_sipush (v := 2358) hx hb dX12_image_17 (by decide) ?_
  refine lv_ldcw hx hb hown (hts _ tk_X12_417) dX12_image_20 ?_
  refine lv_sipush (v := 31440) hx hb dX12_image_23 (by decide) ?_
  obtain ⟨u3, hu3, hf⟩ := bd_some hf
  refine z_cv (ws1 := w_X12_image h_t r_t F1 cI u3 a_seenWord a_seenNumber a_refused) (wr := List.filterMap (fun i : Nat => (w_X12_image h_t r_t F1 cI u2 a_seenWord a_seenNumber a_refused)[i]?) [2, 3, 4]) (z_rV (rest := []) hx hb hml hown hcx hl.1 (c_X12_copies l D cI h_t r_t F1 u2 2358 34584 31440 u3 hu3 _) tl_X12_224 ti_X12_copies tz_X12_copies tn_X12 tc_X12_copies tm_X12_copies rfl rfl ⟨Nat.le_of_ble_eq_true rfl, Nat.le_of_ble_eq_true rfl⟩ hK hX hS hA hP hD [0, 1] rfl rfl 0 rfl rfl rfl rfl (Nat.le_of_ble_eq_true rfl) dX12_image_26 ⟨Nat.zero_le _, Nat.zero_le _⟩) hP hD hS hA [0, 1] [2, 3, 4] [3, 4, 0, 1, 2] rfl rfl rfl (by decide) rfl rfl (fun H locs hP hD hS => ?_)
  refine lv_aload_n hx hb dX12_image_29 rfl (lv_at hl 0 rfl) ?_
  refine lv_aload_n hx hb dX12_image_30 rfl (lv_at hl 0 rfl) ?_
  refine z_get (ci := 12) (C := RX12) (T := TX12) (N := 51) (v := .int (F1 5)) hx hb hts inT_X12 hown hK hP 0 rfl rfl 5 (by decide) tf_X12_336 rfl dX12_image_31 ?_
  refine z_put (ci := 12) (C := RX12) (T := TX12) (N := 51) hx hb hts inT_X12 tyX12 tyX12_ok nmX12 hown hK hP hD hS 0 rfl rfl 8 (by decide) tf_X12_418 rfl (by decide +kernel) (Nat.le_of_ble_eq_true rfl) (o_X12 r_t) (o_X12_s8 _ _ _) (fun z => w_X12_image h_t r_t z cI u3 a_seenWord a_seenNumber a_refused) (fun _ => rfl) dX12_image_34 hf (fun F4 H locs hf hP hD hS => ?_)
  refine lv_aload_n hx hb dX12_image_37 rfl (lv_at hl 0 rfl) ?_
  refine lv_aload_n hx hb dX12_image_38 rfl (lv_at hl 0 rfl) ?_
  refine z_get (ci := 12) (C := RX12) (T := TX12) (N := 51) (v := .int (F4 6)) hx hb hts inT_X12 hown hK hP 0 rfl rfl 6 (by decide) tf_X12_333 rfl dX12_image_39 ?_
  refine z_put (ci := 12) (C := RX12) (T := TX12) (N := 51) hx hb hts inT_X12 tyX12 tyX12_ok nmX12 hown hK hP hD hS 0 rfl rfl 9 (by decide) tf_X12_421 rfl (by decide +kernel) (Nat.le_of_ble_eq_true rfl) (o_X12 r_t) (o_X12_s9 _ _ _) (fun z => w_X12_image h_t r_t z cI u3 a_seenWord a_seenNumber a_refused) (fun _ => rfl) dX12_image_42 hf (fun F5 H locs hf hP hD hS => ?_)
  refine lv_aload_n hx hb dX12_image_45 rfl (lv_at hl 0 rfl) ?_
  refine lv_aload_n hx hb dX12_image_46 rfl (lv_at hl 0 rfl) ?_
  refine z_get (ci := 12) (C := RX12) (T := TX12) (N := 51) (v := .int (F5 7)) hx hb hts inT_X12 hown hK hP 0 rfl rfl 7 (by decide) tf_X12_330 rfl dX12_image_47 ?_
  refine z_put (ci := 12) (C := RX12) (T := TX12) (N := 51) hx hb hts inT_X12 tyX12 tyX12_ok nmX12 hown hK hP hD hS 0 rfl rfl 10 (by decide) tf_X12_424 rfl (by decide +kernel) (Nat.le_of_ble_eq_true rfl) (o_X12 r_t) (o_X12_s10 _ _ _) (fun z => w_X12_image h_t r_t z cI u3 a_seenWord a_seenNumber a_refused) (fun _ => rfl) dX12_image_50 hf (fun F6 H locs hf hP hD hS => ?_)
  refine lv_iconst (v := 0) hx hb dX12_image_53 (by decide) ?_
  refine lv_istore_n (lv' := [(1, .int 0), (0, .ref h_t)]) hx hb dX12_image_54 rfl hl (by decide) rfl (fun ls hl => ?_)
  exact L55 fuelN 0 F6 u3 a_seenWord a_seenNumber a_refused _ _ _ hf hP hD hS (lv_sub hl [1, 0] rfl)
abbrev w_X12_restore (h_t : Nat) (r_t : Nat → Nat) (F_t : Nat → Int32) (cI : ClassId) (a_rows : Nat → Int32) (a_seenWord : Nat → Int32) (a_seenNumber : Nat → Int32) (a_refused : Nat → Int32) : va_W := [(h_t, .inr (12, o_X12 r_t F_t)), ((r_t 0), .inl (cI, 66100, .inl a_rows)), ((r_t 1), .inl (cI, 16, .inl a_seenWord)), ((r_t 2), .inl (cI, 16, .inl a_seenNumber)), ((r_t 3), .inl (cI, 6, .inl a_refused))]
abbrev rm_X12_restore : Room := { frames := 1, cells := 0, slots := 0, locals := 24 }
def m_X12_restore_w108 : Nat → Int32 → (Nat → Int32) → (Nat → Int32) → (Nat → Int32) → (Nat → Int32) → (Nat → Int32) → Option (Int32 × (Nat → Int32) × (Nat → Int32) × (Nat → Int32) × (Nat → Int32) × (Nat → Int32))
  | 0, _, _, _, _, _, _ => none
  | n108 + 1, x1, F_t, a_rows, a_seenWord, a_seenNumber, a_refused =>
    if 3 ≤ x1 then (
    some (1, F_t, a_rows, a_seenWord, a_seenNumber, a_refused))
    else (
    rd a_refused 6 (3 + x1) fun y7 =>
    wr a_refused 6 x1 y7 fun a8 =>
    nm (x1 + 1) fun v9 =>
    m_X12_restore_w108 n108 v9 F_t a_rows a_seenWord a_seenNumber a8)
def m_X12_restore_j106 (F_t : Nat → Int32) (a_rows : Nat → Int32) (a_seenWord : Nat → Int32) (a_seenNumber : Nat → Int32) (a_refused : Nat → Int32) : Option (Int32 × (Nat → Int32) × (Nat → Int32) × (Nat → Int32) × (Nat → Int32) × (Nat → Int32)) :=
  m_X12_restore_w108 fuelN 0 F_t a_rows a_seenWord a_seenNumber a_refused
def m_X12_restore_w64 (k106 : (Nat → Int32) → (Nat → Int32) → (Nat → Int32) → (Nat → Int32) → (Nat → Int32) → Option (Int32 × (Nat → Int32) × (Nat → Int32) × (Nat → Int32) × (Nat → Int32) × (Nat → Int32))) : Nat → Int32 → (Nat → Int32) → (Nat → Int32) → (Nat → Int32) → (Nat → Int32) → (Nat → Int32) → Option (Int32 × (Nat → Int32) × (Nat → Int32) × (Nat → Int32) × (Nat → Int32) × (Nat → Int32))
  | 0, _, _, _, _, _, _ => none
  | n64 + 1, x1, F_t, a_rows, a_seenWord, a_seenNumber, a_refused =>
    if 8 ≤ x1 then (
    k106 F_t a_rows a_seenWord a_seenNumber a_refused)
    else (
    rd a_seenWord 16 (8 + x1) fun y10 =>
    wr a_seenWord 16 x1 y10 fun a11 =>
    rd a_seenNumber 16 (8 + x1) fun y12 =>
    wr a_seenNumber 16 x1 y12 fun a13 =>
    nm (x1 + 1) fun v14 =>
    m_X12_restore_w64 k106 n64 v14 F_t a_rows a11 a13 a_refused)
def m_X12_restore (F_t : Nat → Int32) (a_rows : Nat → Int32) (a_seenWord : Nat → Int32) (a_seenNumber : Nat → Int32) (a_refused : Nat → Int32) : Option (Int32 × (Nat → Int32) × (Nat → Int32) × (Nat → Int32) × (Nat → Int32) × (Nat → Int32)) :=
  nm (upd F_t 4 0) fun F1 =>
  if (F1 11) = 0 then (
  some (0, F1, a_rows, a_seenWord, a_seenNumber, a_refused))
  else (
  bd (m_X12_copies a_rows 33798 0 786) fun u2 =>
  bd (m_X12_copies u2 34584 2358 31440) fun u3 =>
  nm (upd F1 5 (F1 8)) fun F4 =>
  nm (upd F4 6 (F4 9)) fun F5 =>
  nm (upd F5 7 (F5 10)) fun F6 =>
  m_X12_restore_w64 m_X12_restore_j106 fuelN 0 F6 u3 a_seenWord a_seenNumber a_refused)
set_option maxHeartbeats 4000000 in
set_option maxRecDepth 100000 in
theorem c_X12_restore (l : Launch) (D : va_G) (cI : ClassId) (h_t : Nat) (r_t : Nat → Nat) (F_t : Nat → Int32) (a_rows : Nat → Int32) (a_seenWord : Nat → Int32) (a_seenNumber : Nat → Int32) (a_refused : Nat → Int32) (Rr : Int32 × (Nat → Int32) × (Nat → Int32) × (Nat → Int32) × (Nat → Int32) × (Nat → Int32)) (hf : m_X12_restore F_t a_rows a_seenWord a_seenNumber a_refused = some Rr) : CTi l yX12_restore (Cond.code yX12_restore cX12_restore 2 (some .boolean)) rm_X12_restore D cI [.ref h_t] (w_X12_restore h_t r_t F_t cI a_rows a_seenWord a_seenNumber a_refused) Rr.1 (w_X12_restore h_t r_t Rr.2.1 cI Rr.2.2.1 Rr.2.2.2.1 Rr.2.2.2.2.1 Rr.2.2.2.2.2) := by
  refine z_begin_z (own := RX12) (ρ := Int32 × (Nat → Int32) × (Nat → Int32) × (Nat → Int32) × (Nat → Int32) × (Nat → Int32)) (fun u => w_X12_restore h_t r_t u.2.1 cI u.2.2.1 u.2.2.2.1 u.2.2.2.2.1 u.2.2.2.2.2) (fun u => u.1) (by decide +kernel) rfl (Nat.le_of_ble_eq_true rfl) ?_
  intro p e s m args below meth c ls Q A hx hb hml hts hcx hown hK hX hA hP hD hS hl hret
  have hl : lv_has ls 2 [(0, .ref h_t)] := hl
  have hf := (m_X12_restore.eq_1 _ _ _ _ _).symm.trans hf
  have L108 : ∀ (n108 : Nat) (x1 : Int32) (F_t : Nat → Int32) (a_rows : Nat → Int32) (a_seenWord : Nat → Int32) (a_seenNumber : Nat → Int32) (a_refused : Nat → Int32) (H : Heap) (locs : List Loc) (ls : Array Slot), m_X12_restore_w108 n108 x1 F_t a_rows a_seenWord a_seenNumber a_refused = some Rr → va_P D vwCl (w_X12_restore h_t r_t F_t cI a_rows a_seenWord a_seenNumber a_refused) H → va_D A (w_X12_restore h_t r_t F_t cI a_rows a_seenWord a_seenNumber a_refused) → va_S A s.heap H locs → lv_has ls 2 [(0, .ref h_t), (1, .int x1)] → W p l e rm_X12_restore s m args below meth c H locs 0 0 Q (F0 m 108 ls []) := by
    intro n108
    induction n108 with
    | zero => intro x1 F_t a_rows a_seenWord a_seenNumber a_refused H locs ls hf; cases (show (none : Option _) = some Rr from hf)
    | succ n108 ih108 =>
      intro x1 F_t a_rows a_seenWord a_seenNumber a_refused H locs ls hf hP hD hS hl
      have hf := (m_X12_restore_w108.eq_2 _ _ _ _ _ _ _).symm.trans hf
      refine lv_iload_n hx hb dX12_restore_108 rfl (lv_at hl 1 rfl) ?_
      refine lv_iconst (v := 3) hx hb dX12_restore_109 (by decide) ?_
      refine z_icmp_ge (tgt := 133) hx hb dX12_restore_110 (by decide) hf (fun hf => ?_) (fun hf => ?_)
      · refine lv_iconst (v := 1) hx hb dX12_restore_133 (by decide) ?_
        exact hret (1, F_t, a_rows, a_seenWord, a_seenNumber, a_refused) _ _ _ _ (Or.inr rfl) hf hP hD hS dX12_restore_134
      · refine lv_aload_n hx hb dX12_restore_113 rfl (lv_at hl 0 rfl) ?_
        refine z_get (ci := 12) (C := RX12) (T := TX12) (N := 51) (v := .ref (r_t 3)) hx hb hts inT_X12 hown hK hP 0 rfl rfl 3 (by decide) tf_X12_20 rfl dX12_restore_114 ?_
        refine lv_iload_n hx hb dX12_restore_117 rfl (lv_at hl 1 rfl) ?_
        refine lv_aload_n hx hb dX12_restore_118 rfl (lv_at hl 0 rfl) ?_
        refine z_get (ci := 12) (C := RX12) (T := TX12) (N := 51) (v := .ref (r_t 3)) hx hb hts inT_X12 hown hK hP 0 rfl rfl 3 (by decide) tf_X12_20 rfl dX12_restore_119 ?_
        refine lv_iconst (v := 3) hx hb dX12_restore_122 (by decide) ?_
        refine lv_iload_n hx hb dX12_restore_123 rfl (lv_at hl 1 rfl) ?_
        refine lv_iadd hx hb dX12_restore_124 ?_
        refine z_iald hx hb hK hP 4 rfl dX12_restore_125 hf (fun y7 hf => ?_)
        refine z_iast hx hb hK hP hD hS 4 rfl (fun z => w_X12_restore h_t r_t F_t cI a_rows a_seenWord a_seenNumber z) (fun _ => rfl) dX12_restore_126 hf (fun a8 H locs hf hP hD hS => ?_)
        refine z_iinc (k0 := 1) (fun z => [(1, .int z), (0, .ref h_t)]) hx hb dX12_restore_127 hl rfl (by decide) (by decide) (fun _ => rfl) hf (fun v9 ls hf hl => ?_)
        refine lv_goto (tgt := 108) hx hb dX12_restore_130 (by decide) ?_
        exact ih108 v9 F_t a_rows a_seenWord a_seenNumber a8 _ _ _ hf hP hD hS (lv_sub hl [1, 0] rfl)
  have L106 : ∀ (F_t : Nat → Int32) (a_rows : Nat → Int32) (a_seenWord : Nat → Int32) (a_seenNumber : Nat → Int32) (a_refused : Nat → Int32) (H : Heap) (locs : List Loc) (ls : Array Slot), m_X12_restore_j106 F_t a_rows a_seenWord a_seenNumber a_refused = some Rr → va_P D vwCl (w_X12_restore h_t r_t F_t cI a_rows a_seenWord a_seenNumber a_refused) H → va_D A (w_X12_restore h_t r_t F_t cI a_rows a_seenWord a_seenNumber a_refused) → va_S A s.heap H locs → lv_has ls 2 [(0, .ref h_t)] → W p l e rm_X12_restore s m args below meth c H locs 0 0 Q (F0 m 106 ls []) := by
    intro F_t a_rows a_seenWord a_seenNumber a_refused H locs ls hf hP hD hS hl
    have hf := (m_X12_restore_j106.eq_1 _ _ _ _ _).symm.trans hf
    refine lv_iconst (v := 0) hx hb dX12_restore_106 (by decide) ?_
    refine lv_istore_n (lv' := [(1, .int 0), (0, .ref h_t)]) hx hb dX12_restore_107 rfl hl (by decide) rfl (fun ls hl => ?_)
    exact L108 fuelN 0 F_t a_rows a_seenWord a_seenNumber a_refused _ _ _ hf hP hD hS (lv_sub hl [1, 0] rfl)
  have L64 : ∀ (n64 : Nat) (x1 : Int32) (F_t : Nat → Int32) (a_rows : Nat → Int32) (a_seenWord : Nat → Int32) (a_seenNumber : Nat → Int32) (a_refused : Nat → Int32) (H : Heap) (locs : List Loc) (ls : Array Slot), m_X12_restore_w64 m_X12_restore_j106 n64 x1 F_t a_rows a_seenWord a_seenNumber a_refused = some Rr → va_P D vwCl (w_X12_restore h_t r_t F_t cI a_rows a_seenWord a_seenNumber a_refused) H → va_D A (w_X12_restore h_t r_t F_t cI a_rows a_seenWord a_seenNumber a_refused) → va_S A s.heap H locs → lv_has ls 2 [(0, .ref h_t), (1, .int x1)] → W p l e rm_X12_restore s m args below meth c H locs 0 0 Q (F0 m 64 ls []) := by
    intro n64
    induction n64 with
    | zero => intro x1 F_t a_rows a_seenWord a_seenNumber a_refused H locs ls hf; cases (show (none : Option _) = some Rr from hf)
    | succ n64 ih64 =>
      intro x1 F_t a_rows a_seenWord a_seenNumber a_refused H locs ls hf hP hD hS hl
      have hf := (m_X12_restore_w64.eq_2 _ _ _ _ _ _ _ _).symm.trans hf
      refine lv_iload_n hx hb dX12_restore_64 rfl (lv_at hl 1 rfl) ?_
      refine lv_bipush (v := 8) hx hb dX12_restore_65 (by decide) ?_
      refine z_icmp_ge (tgt := 106) hx hb dX12_restore_67 (by decide) hf (fun hf => ?_) (fun hf => ?_)
      · exact L106 F_t a_rows a_seenWord a_seenNumber a_refused _ _ _ hf hP hD hS (lv_sub hl [0] rfl)
      · refine lv_aload_n hx hb dX12_restore_70 rfl (lv_at hl 0 rfl) ?_
        refine z_get (ci := 12) (C := RX12) (T := TX12) (N := 51) (v := .ref (r_t 1)) hx hb hts inT_X12 hown hK hP 0 rfl rfl 1 (by decide) tf_X12_14 rfl dX12_restore_71 ?_
        refine lv_iload_n hx hb dX12_restore_74 rfl (lv_at hl 1 rfl) ?_
        refine lv_aload_n hx hb dX12_restore_75 rfl (lv_at hl 0 rfl) ?_
        refine z_get (ci := 12) (C := RX12) (T := TX12) (N := 51) (v := .ref (r_t 1)) hx hb hts inT_X12 hown hK hP 0 rfl rfl 1 (by decide) tf_X12_14 rfl dX12_restore_76 ?_
        refine lv_bipush (v := 8) hx hb dX12_restore_79 (by decide) ?_
        refine lv_iload_n hx hb dX12_restore_81 rfl (lv_at hl 1 rfl) ?_
        refine lv_iadd hx hb dX12_restore_82 ?_
        refine z_iald hx hb hK hP 2 rfl dX12_restore_83 hf (fun y10 hf => ?_)
        refine z_iast hx hb hK hP hD hS 2 rfl (fun z => w_X12_restore h_t r_t F_t cI a_rows z a_seenNumber a_refused) (fun _ => rfl) dX12_restore_84 hf (fun a11 H locs hf hP hD hS => ?_)
        refine lv_aload_n hx hb dX12_restore_85 rfl (lv_at hl 0 rfl) ?_
        refine z_get (ci := 12) (C := RX12) (T := TX12) (N := 51) (v := .ref (r_t 2)) hx hb hts inT_X12 hown hK hP 0 rfl rfl 2 (by decide) tf_X12_17 rfl dX12_restore_86 ?_
        refine lv_iload_n hx hb dX12_restore_89 rfl (lv_at hl 1 rfl) ?_
        refine lv_aload_n hx hb dX12_restore_90 rfl (lv_at hl 0 rfl) ?_
        refine z_get (ci := 12) (C := RX12) (T := TX12) (N := 51) (v := .ref (r_t 2)) hx hb hts inT_X12 hown hK hP 0 rfl rfl 2 (by decide) tf_X12_17 rfl dX12_restore_91 ?_
        refine lv_bipush (v := 8) hx hb dX12_restore_94 (by decide) ?_
        refine lv_iload_n hx hb dX12_restore_96 rfl (lv_at hl 1 rfl) ?_
        refine lv_iadd hx hb dX12_restore_97 ?_
        refine z_iald hx hb hK hP 3 rfl dX12_restore_98 hf (fun y12 hf => ?_)
        refine z_iast hx hb hK hP hD hS 3 rfl (fun z => w_X12_restore h_t r_t F_t cI a_rows a11 z a_refused) (fun _ => rfl) dX12_restore_99 hf (fun a13 H locs hf hP hD hS => ?_)
        refine z_iinc (k0 := 1) (fun z => [(1, .int z), (0, .ref h_t)]) hx hb dX12_restore_100 hl rfl (by decide) (by decide) (fun _ => rfl) hf (fun v14 ls hf hl => ?_)
        refine lv_goto (tgt := 64) hx hb dX12_restore_103 (by decide) ?_
        exact ih64 v14 F_t a_rows a11 a13 a_refused _ _ _ hf hP hD hS (lv_sub hl [1, 0] rfl)
  refine lv_aload_n hx hb dX12_restore_0 rfl (lv_at hl 0 rfl) ?_
  refine lv_iconst (v := 0) hx hb dX12_restore_1 (by decide) ?_
  refine z_put (ci := 12) (C := RX12) (T := TX12) (N := 51) hx hb hts inT_X12 tyX12 tyX12_ok nmX12 hown hK hP hD hS 0 rfl rfl 4 (by decide) tf_X12_63 rfl (by decide +kernel) (Nat.le_of_ble_eq_true rfl) (o_X12 r_t) (o_X12_s4 _ _ _) (fun z => w_X12_restore h_t r_t z cI a_rows a_seenWord a_seenNumber a_refused) (fun _ => rfl) dX12_restore_2 hf (fun F1 H locs hf hP hD hS => ?_)
  refine lv_aload_n hx hb dX12_restore_5 rfl (lv_at hl 0 rfl) ?_
  refine z_get (ci := 12) (C := RX12) (T := TX12) (N := 51) (v := .int (F1 11)) hx hb hts inT_X12 hown hK hP 0 rfl rfl 11 (by decide) tf_X12_327 rfl dX12_restore_6 ?_
  refine z_if_ne (tgt := 14) hx hb dX12_restore_9 (by decide) hf (fun hf => ?_) (fun hf => ?_)
  · refine lv_aload_n hx hb dX12_restore_14 rfl (lv_at hl 0 rfl) ?_
    refine lv_ldcw hx hb hown (hts _ tk_X12_416) dX12_restore_15 ?_
    refine lv_iconst (v := 0) hx hb dX12_restore_18 (by decide) ?_
    refine lv_sipush (v := 786) hx hb dX12_restore_19 (by decide) ?_
    obtain ⟨u2, hu2, hf⟩ := bd_some hf
    refine z_cv (ws1 := w_X12_restore h_t r_t F1 cI u2 a_seenWord a_seenNumber a_refused) (wr := List.filterMap (fun i : Nat => (w_X12_restore h_t r_t F1 cI a_rows a_seenWord a_seenNumber a_refused)[i]?) [2, 3, 4]) (z_rV (rest := []) hx hb hml hown hcx hl.1 (c_X12_copies l D cI h_t r_t F1 a_rows 33798 0 786 u2 hu2 _) tl_X12_224 ti_X12_copies tz_X12_copies tn_X12 tc_X12_copies tm_X12_copies rfl rfl ⟨Nat.le_of_ble_eq_true rfl, Nat.le_of_ble_eq_true rfl⟩ hK hX hS hA hP hD [0, 1] rfl rfl 0 rfl rfl rfl rfl (Nat.le_of_ble_eq_true rfl) dX12_restore_22 ⟨Nat.zero_le _, Nat.zero_le _⟩) hP hD hS hA [0, 1] [2, 3, 4] [3, 4, 0, 1, 2] rfl rfl rfl (by decide) rfl rfl (fun H locs hP hD hS => ?_)
    refine lv_aload_n hx hb dX12_restore_25 rfl (lv_at hl 0 rfl) ?_
    refine lv_ldcw hx hb hown (hts _ tk_X12_417) dX12_restore_26 ?_
    refine lv_sipush (v := 2358) hx hb dX12_restore_29 (by decide) ?_
    refine lv_sipush (v := 31440) hx hb dX12_restore_32 (by decide) ?_
    obtain ⟨u3, hu3, hf⟩ := bd_some hf
    refine z_cv (ws1 := w_X12_restore h_t r_t F1 cI u3 a_seenWord a_seenNumber a_refused) (wr := List.filterMap (fun i : Nat => (w_X12_restore h_t r_t F1 cI u2 a_seenWord a_seenNumber a_refused)[i]?) [2, 3, 4]) (z_rV (rest := []) hx hb hml hown hcx hl.1 (c_X12_copies l D cI h_t r_t F1 u2 34584 2358 31440 u3 hu3 _) tl_X12_224 ti_X12_copies tz_X12_copies tn_X12 tc_X12_copies tm_X12_copies rfl rfl ⟨Nat.le_of_ble_eq_true rfl, Nat.le_of_ble_eq_true rfl⟩ hK hX hS hA hP hD [0, 1] rfl rfl 0 rfl rfl rfl rfl (Nat.le_of_ble_eq_true rfl) dX12_restore_35 ⟨Nat.zero_le _, Nat.zero_le _⟩) hP hD hS hA [0, 1] [2, 3, 4] [3, 4, 0, 1, 2] rfl rfl rfl (by decide) rfl rfl (fun H locs hP hD hS => ?_)
    refine lv_aload_n hx hb dX12_restore_38 rfl (lv_at hl 0 rfl) ?_
    refine lv_aload_n hx hb dX12_restore_39 rfl (lv_at hl 0 rfl) ?_
    refine z_get (ci := 12) (C := RX12) (T := TX12) (N := 51) (v := .int (F1 8)) hx hb hts inT_X12 hown hK hP 0 rfl rfl 8 (by decide) tf_X12_418 rfl dX12_restore_40 ?_
    refine z_put (ci := 12) (C := RX12) (T := TX12) (N := 51) hx hb hts inT_X12 tyX12 tyX12_ok nmX12 hown hK hP hD hS 0 rfl rfl 5 (by decide) tf_X12_336 rfl (by decide +kernel) (Nat.le_of_ble_eq_true rfl) (o_X12 r_t) (o_X12_s5 _ _ _) (fun z => w_X12_restore h_t r_t z cI u3 a_seenWord a_seenNumber a_refused) (fun _ => rfl) dX12_restore_43 hf (fun F4 H locs hf hP hD hS => ?_)
    refine lv_aload_n hx hb dX12_restore_46 rfl (lv_at hl 0 rfl) ?_
    refine lv_aload_n hx hb dX12_restore_47 rfl (lv_at hl 0 rfl) ?_
    refine z_get (ci := 12) (C := RX12) (T := TX12) (N := 51) (v := .int (F4 9)) hx hb hts inT_X12 hown hK hP 0 rfl rfl 9 (by decide) tf_X12_421 rfl dX12_restore_48 ?_
    refine z_put (ci := 12) (C := RX12) (T := TX12) (N := 51) hx hb hts inT_X12 tyX12 tyX12_ok nmX12 hown hK hP hD hS 0 rfl rfl 6 (by decide) tf_X12_333 rfl (by decide +kernel) (Nat.le_of_ble_eq_true rfl) (o_X12 r_t) (o_X12_s6 _ _ _) (fun z => w_X12_restore h_t r_t z cI u3 a_seenWord a_seenNumber a_refused) (fun _ => rfl) dX12_restore_51 hf (fun F5 H locs hf hP hD hS => ?_)
    refine lv_aload_n hx hb dX12_restore_54 rfl (lv_at hl 0 rfl) ?_
    refine lv_aload_n hx hb dX12_restore_55 rfl (lv_at hl 0 rfl) ?_
    refine z_get (ci := 12) (C := RX12) (T := TX12) (N := 51) (v := .int (F5 10)) hx hb hts inT_X12 hown hK hP 0 rfl rfl 10 (by decide) tf_X12_424 rfl dX12_restore_56 ?_
    refine z_put (ci := 12) (C := RX12) (T := TX12) (N := 51) hx hb hts inT_X12 tyX12 tyX12_ok nmX12 hown hK hP hD hS 0 rfl rfl 7 (by decide) tf_X12_330 rfl (by decide +kernel) (Nat.le_of_ble_eq_true rfl) (o_X12 r_t) (o_X12_s7 _ _ _) (fun z => w_X12_restore h_t r_t z cI u3 a_seenWord a_seenNumber a_refused) (fun _ => rfl) dX12_restore_59 hf (fun F6 H locs hf hP hD hS => ?_)
    refine lv_iconst (v := 0) hx hb dX12_restore_62 (by decide) ?_
    refine lv_istore_n (lv' := [(1, .int 0), (0, .ref h_t)]) hx hb dX12_restore_63 rfl hl (by decide) rfl (fun ls hl => ?_)
    exact L64 fuelN 0 F6 u3 a_seenWord a_seenNumber a_refused _ _ _ hf hP hD hS (lv_sub hl [1, 0] rfl)
  · refine lv_iconst (v := 0) hx hb dX12_restore_12 (by decide) ?_
    exact hret (0, F1, a_rows, a_seenWord, a_seenNumber, a_refused) _ _ _ _ (Or.inl rfl) hf hP hD hS dX12_restore_13
