abbrev w_X12_clause1 (h_t : Nat) (r_t : Nat → Nat) (F_t : Nat → Int32) (cI : ClassId) (a_tape : Nat → Int32) (a_memory1 : Nat → Int32) (a_wait1 : Nat → Int32) : va_W := [(h_t, .inr (12, o_X12 r_t F_t)), ((r_t 13), .inl (cI, 700, .inl a_tape)), ((r_t 39), .inl (cI, 64, .inl a_memory1)), ((r_t 40), .inl (cI, 156, .inl a_wait1))]
abbrev rm_X12_clause1 : Room := { frames := 6, cells := 0, slots := 0, locals := 137 }
def m_X12_clause1_j102 (a_tape : Nat → Int32) (s1 : Int32) (F_t : Nat → Int32) (a_memory1 : Nat → Int32) (a_wait1 : Nat → Int32) : Option ((Nat → Int32) × (Nat → Int32) × (Nat → Int32)) :=
  nm (upd F_t 43 s1) fun F3 =>
  bd (m_X12_go F3 a_tape) fun u4 =>
  some (u4, a_memory1, a_wait1)
def m_X12_clause1_j73 (a_tape : Nat → Int32) (s1 : Int32) (F_t : Nat → Int32) (a_memory1 : Nat → Int32) (a_wait1 : Nat → Int32) : Option ((Nat → Int32) × (Nat → Int32) × (Nat → Int32)) :=
  bd (m_X12_wants F_t s1 4) fun u1 =>
  if u1.1 = 0 then (
  some (u1.2, a_memory1, a_wait1))
  else (
  nm (upd u1.2 44 1) fun F2 =>
  if (F2 37) = 1 then (
  m_X12_clause1_j102 a_tape 1 F2 a_memory1 a_wait1)
  else (
  m_X12_clause1_j102 a_tape 0 F2 a_memory1 a_wait1))
def m_X12_clause1_j16 (a_tape : Nat → Int32) (s0 : Int32) (F_t : Nat → Int32) (a_memory1 : Nat → Int32) (a_wait1 : Nat → Int32) : Option ((Nat → Int32) × (Nat → Int32) × (Nat → Int32)) :=
  if s0 = 0 then (
  if (F_t 44) = 0 then (
  m_X12_clause1_j73 a_tape 1 F_t a_memory1 a_wait1)
  else (
  m_X12_clause1_j73 a_tape 0 F_t a_memory1 a_wait1))
  else (
  if s0 = 1 then (
  if (F_t 44) = 0 then (
  m_X12_clause1_j73 a_tape 1 F_t a_memory1 a_wait1)
  else (
  m_X12_clause1_j73 a_tape 0 F_t a_memory1 a_wait1))
  else (
  if s0 = 2 then (
  bd (m_X12_without1 F_t a_tape) fun u5 =>
  some (u5, a_memory1, a_wait1))
  else (
  if s0 = 3 then (
  bd (m_X12_chain1 F_t a_tape a_memory1) fun u6 =>
  some (u6.1, u6.2, a_wait1))
  else (
  if s0 = 4 then (
  bd (m_X12_go F_t a_tape) fun u7 =>
  bd (m_X12_usedHere u7 a_tape a_memory1) fun u8 =>
  some (u8.2.1, u8.2.2, a_wait1))
  else (
  if s0 = 5 then (
  bd (m_X12_data1 F_t a_tape a_memory1) fun u9 =>
  some (u9.1, u9.2, a_wait1))
  else (
  if s0 = 6 then (
  bd (m_X12_do1 F_t a_tape a_wait1) fun u10 =>
  some (u10.1, a_memory1, u10.2))
  else (
  bd (m_X12_wants F_t 0 1) fun u11 =>
  some (u11.2, a_memory1, a_wait1))))))))
def m_X12_clause1 (F_t : Nat → Int32) (a_tape : Nat → Int32) (a_memory1 : Nat → Int32) (a_wait1 : Nat → Int32) : Option ((Nat → Int32) × (Nat → Int32) × (Nat → Int32)) :=
  if (F_t 35) = 1 then (
  m_X12_clause1_j16 a_tape (F_t 37) F_t a_memory1 a_wait1)
  else (
  m_X12_clause1_j16 a_tape (-1) F_t a_memory1 a_wait1)
set_option maxHeartbeats 4000000 in
set_option maxRecDepth 100000 in
theorem c_X12_clause1 (l : Launch) (D : va_G) (cI : ClassId) (h_t : Nat) (r_t : Nat → Nat) (F_t : Nat → Int32) (a_tape : Nat → Int32) (a_memory1 : Nat → Int32) (a_wait1 : Nat → Int32) (Rr : (Nat → Int32) × (Nat → Int32) × (Nat → Int32)) (hf : m_X12_clause1 F_t a_tape a_memory1 a_wait1 = some Rr) : CTv l yX12_clause1 (Cond.code yX12_clause1 cX12_clause1 1 none) rm_X12_clause1 D cI [.ref h_t] (w_X12_clause1 h_t r_t F_t cI a_tape a_memory1 a_wait1) (w_X12_clause1 h_t r_t Rr.1 cI a_tape Rr.2.1 Rr.2.2) := by
  refine z_begin_v (own := RX12) (ρ := (Nat → Int32) × (Nat → Int32) × (Nat → Int32)) (fun u => w_X12_clause1 h_t r_t u.1 cI a_tape u.2.1 u.2.2) (by decide +kernel) rfl (Nat.le_of_ble_eq_true rfl) ?_
  intro p e s m args below meth c ls Q A hx hb hml hts hcx hown hK hX hA hP hD hS hl hret
  have hl : lv_has ls 1 [(0, .ref h_t)] := hl
  have hf := (m_X12_clause1.eq_1 _ _ _ _).symm.trans hf
  have L102 : ∀ (s1 : Int32) (F_t : Nat → Int32) (a_memory1 : Nat → Int32) (a_wait1 : Nat → Int32) (H : Heap) (locs : List Loc) (ls : Array Slot), m_X12_clause1_j102 a_tape s1 F_t a_memory1 a_wait1 = some Rr → va_P D vwCl (w_X12_clause1 h_t r_t F_t cI a_tape a_memory1 a_wait1) H → va_D A (w_X12_clause1 h_t r_t F_t cI a_tape a_memory1 a_wait1) → va_S A s.heap H locs → lv_has ls 1 [(0, .ref h_t)] → W p l e rm_X12_clause1 s m args below meth c H locs 0 0 Q (F0 m 102 ls [.int s1, .ref h_t]) := by
    intro s1 F_t a_memory1 a_wait1 H locs ls hf hP hD hS hl
    have hf := (m_X12_clause1_j102.eq_1 _ _ _ _ _).symm.trans hf
    refine z_put (ci := 12) (C := RX12) (T := TX12) (N := 51) hx hb hts inT_X12 tyX12 tyX12_ok nmX12 hown hK hP hD hS 0 rfl rfl 43 (by decide) tf_X12_304 rfl (by decide +kernel) (Nat.le_of_ble_eq_true rfl) (o_X12 r_t) (o_X12_s43 _ _ _) (fun z => w_X12_clause1 h_t r_t z cI a_tape a_memory1 a_wait1) (fun _ => rfl) dX12_clause1_102 hf (fun F3 H locs hf hP hD hS => ?_)
    refine lv_aload_n hx hb dX12_clause1_105 rfl (lv_at hl 0 rfl) ?_
    obtain ⟨u4, hu4, hf⟩ := bd_some hf
    refine z_cv (ws1 := w_X12_clause1 h_t r_t u4 cI a_tape a_memory1 a_wait1) (wr := List.filterMap (fun i : Nat => (w_X12_clause1 h_t r_t F3 cI a_tape a_memory1 a_wait1)[i]?) [2, 3]) (z_rV (rest := []) hx hb hml hown hcx hl.1 (c_X12_go l D cI h_t r_t F3 a_tape u4 hu4 _) tl_X12_274 ti_X12_go tz_X12_go tn_X12 tc_X12_go tm_X12_go rfl rfl ⟨Nat.le_of_ble_eq_true rfl, Nat.le_of_ble_eq_true rfl⟩ hK hX hS hA hP hD [0, 1] rfl rfl 0 rfl rfl rfl rfl (Nat.le_of_ble_eq_true rfl) dX12_clause1_106 ⟨Nat.zero_le _, Nat.zero_le _⟩) hP hD hS hA [0, 1] [2, 3] [2, 3, 0, 1] rfl rfl rfl (by decide) rfl rfl (fun H locs hP hD hS => ?_)
    refine lv_goto (tgt := 159) hx hb dX12_clause1_109 (by decide) ?_
    exact hret (u4, a_memory1, a_wait1) _ _ _ _ hf hP hD hS dX12_clause1_159
  have L73 : ∀ (s1 : Int32) (F_t : Nat → Int32) (a_memory1 : Nat → Int32) (a_wait1 : Nat → Int32) (H : Heap) (locs : List Loc) (ls : Array Slot), m_X12_clause1_j73 a_tape s1 F_t a_memory1 a_wait1 = some Rr → va_P D vwCl (w_X12_clause1 h_t r_t F_t cI a_tape a_memory1 a_wait1) H → va_D A (w_X12_clause1 h_t r_t F_t cI a_tape a_memory1 a_wait1) → va_S A s.heap H locs → lv_has ls 1 [(0, .ref h_t)] → W p l e rm_X12_clause1 s m args below meth c H locs 0 0 Q (F0 m 73 ls [.int s1, .ref h_t]) := by
    intro s1 F_t a_memory1 a_wait1 H locs ls hf hP hD hS hl
    have hf := (m_X12_clause1_j73.eq_1 _ _ _ _ _).symm.trans hf
    refine lv_iconst (v := 4) hx hb dX12_clause1_73 (by decide) ?_
    obtain ⟨u1, hu1, hf⟩ := bd_some hf
    refine z_ci (ws1 := w_X12_clause1 h_t r_t u1.2 cI a_tape a_memory1 a_wait1) (wr := List.filterMap (fun i : Nat => (w_X12_clause1 h_t r_t F_t cI a_tape a_memory1 a_wait1)[i]?) [1, 2, 3]) (z_rV (rest := []) hx hb hml hown hcx hl.1 (c_X12_wants l D cI h_t r_t F_t s1 4 u1 hu1 _) tl_X12_270 ti_X12_wants tz_X12_wants tn_X12 tc_X12_wants tm_X12_wants rfl rfl ⟨Nat.le_of_ble_eq_true rfl, Nat.le_of_ble_eq_true rfl⟩ hK hX hS hA hP hD [0] rfl rfl 0 rfl rfl rfl rfl (Nat.le_of_ble_eq_true rfl) dX12_clause1_74 ⟨Nat.zero_le _, Nat.zero_le _⟩) hP hD hS hA [0] [1, 2, 3] [3, 0, 1, 2] rfl rfl rfl (by decide) rfl rfl (fun H locs hP hD hS => ?_)
    refine z_if_ne (tgt := 83) hx hb dX12_clause1_77 (by decide) hf (fun hf => ?_) (fun hf => ?_)
    · refine lv_aload_n hx hb dX12_clause1_83 rfl (lv_at hl 0 rfl) ?_
      refine lv_iconst (v := 1) hx hb dX12_clause1_84 (by decide) ?_
      refine z_put (ci := 12) (C := RX12) (T := TX12) (N := 51) hx hb hts inT_X12 tyX12 tyX12_ok nmX12 hown hK hP hD hS 0 rfl rfl 44 (by decide) tf_X12_301 rfl (by decide +kernel) (Nat.le_of_ble_eq_true rfl) (o_X12 r_t) (o_X12_s44 _ _ _) (fun z => w_X12_clause1 h_t r_t z cI a_tape a_memory1 a_wait1) (fun _ => rfl) dX12_clause1_85 hf (fun F2 H locs hf hP hD hS => ?_)
      refine lv_aload_n hx hb dX12_clause1_88 rfl (lv_at hl 0 rfl) ?_
      refine lv_aload_n hx hb dX12_clause1_89 rfl (lv_at hl 0 rfl) ?_
      refine z_get (ci := 12) (C := RX12) (T := TX12) (N := 51) (v := .int (F2 37)) hx hb hts inT_X12 hown hK hP 0 rfl rfl 37 (by decide) tf_X12_252 rfl dX12_clause1_90 ?_
      refine lv_iconst (v := 1) hx hb dX12_clause1_93 (by decide) ?_
      refine z_icmp_ne (tgt := 101) hx hb dX12_clause1_94 (by decide) hf (fun hf => ?_) (fun hf => ?_)
      · refine lv_iconst (v := 0) hx hb dX12_clause1_101 (by decide) ?_
        exact L102 0 F2 a_memory1 a_wait1 _ _ _ hf hP hD hS (lv_sub hl [0] rfl)
      · refine lv_iconst (v := 1) hx hb dX12_clause1_97 (by decide) ?_
        refine lv_goto (tgt := 102) hx hb dX12_clause1_98 (by decide) ?_
        exact L102 1 F2 a_memory1 a_wait1 _ _ _ hf hP hD hS (lv_sub hl [0] rfl)
    · refine lv_goto (tgt := 159) hx hb dX12_clause1_80 (by decide) ?_
      exact hret (u1.2, a_memory1, a_wait1) _ _ _ _ hf hP hD hS dX12_clause1_159
  have L16 : ∀ (s0 : Int32) (F_t : Nat → Int32) (a_memory1 : Nat → Int32) (a_wait1 : Nat → Int32) (H : Heap) (locs : List Loc) (ls : Array Slot), m_X12_clause1_j16 a_tape s0 F_t a_memory1 a_wait1 = some Rr → va_P D vwCl (w_X12_clause1 h_t r_t F_t cI a_tape a_memory1 a_wait1) H → va_D A (w_X12_clause1 h_t r_t F_t cI a_tape a_memory1 a_wait1) → va_S A s.heap H locs → lv_has ls 1 [(0, .ref h_t)] → W p l e rm_X12_clause1 s m args below meth c H locs 0 0 Q (F0 m 16 ls [.int s0]) := by
    intro s0 F_t a_memory1 a_wait1 H locs ls hf hP hD hS hl
    have hf := (m_X12_clause1_j16.eq_1 _ _ _ _ _).symm.trans hf
    refine z_tabin (v := 0) (off := 44) (tgt := 60) hx hb dX12_clause1_16 (by decide) (by decide) (by decide) (by decide) hf (fun hf => ?_) (fun hn0 hf => ?_)
    · refine lv_aload_n hx hb dX12_clause1_60 rfl (lv_at hl 0 rfl) ?_
      refine lv_aload_n hx hb dX12_clause1_61 rfl (lv_at hl 0 rfl) ?_
      refine z_get (ci := 12) (C := RX12) (T := TX12) (N := 51) (v := .int (F_t 44)) hx hb hts inT_X12 hown hK hP 0 rfl rfl 44 (by decide) tf_X12_301 rfl dX12_clause1_62 ?_
      refine z_if_ne (tgt := 72) hx hb dX12_clause1_65 (by decide) hf (fun hf => ?_) (fun hf => ?_)
      · refine lv_iconst (v := 0) hx hb dX12_clause1_72 (by decide) ?_
        exact L73 0 F_t a_memory1 a_wait1 _ _ _ hf hP hD hS (lv_sub hl [0] rfl)
      · refine lv_iconst (v := 1) hx hb dX12_clause1_68 (by decide) ?_
        refine lv_goto (tgt := 73) hx hb dX12_clause1_69 (by decide) ?_
        exact L73 1 F_t a_memory1 a_wait1 _ _ _ hf hP hD hS (lv_sub hl [0] rfl)
    refine z_tabin (v := 1) (off := 44) (tgt := 60) hx hb dX12_clause1_16 (by decide) (by decide) (by decide) (by decide) hf (fun hf => ?_) (fun hn1 hf => ?_)
    · refine lv_aload_n hx hb dX12_clause1_60 rfl (lv_at hl 0 rfl) ?_
      refine lv_aload_n hx hb dX12_clause1_61 rfl (lv_at hl 0 rfl) ?_
      refine z_get (ci := 12) (C := RX12) (T := TX12) (N := 51) (v := .int (F_t 44)) hx hb hts inT_X12 hown hK hP 0 rfl rfl 44 (by decide) tf_X12_301 rfl dX12_clause1_62 ?_
      refine z_if_ne (tgt := 72) hx hb dX12_clause1_65 (by decide) hf (fun hf => ?_) (fun hf => ?_)
      · refine lv_iconst (v := 0) hx hb dX12_clause1_72 (by decide) ?_
        exact L73 0 F_t a_memory1 a_wait1 _ _ _ hf hP hD hS (lv_sub hl [0] rfl)
      · refine lv_iconst (v := 1) hx hb dX12_clause1_68 (by decide) ?_
        refine lv_goto (tgt := 73) hx hb dX12_clause1_69 (by decide) ?_
        exact L73 1 F_t a_memory1 a_wait1 _ _ _ hf hP hD hS (lv_sub hl [0] rfl)
    refine z_tabin (v := 2) (off := 96) (tgt := 112) hx hb dX12_clause1_16 (by decide) (by decide) (by decide) (by decide) hf (fun hf => ?_) (fun hn2 hf => ?_)
    · refine lv_aload_n hx hb dX12_clause1_112 rfl (lv_at hl 0 rfl) ?_
      obtain ⟨u5, hu5, hf⟩ := bd_some hf
      refine z_cv (ws1 := w_X12_clause1 h_t r_t u5 cI a_tape a_memory1 a_wait1) (wr := List.filterMap (fun i : Nat => (w_X12_clause1 h_t r_t F_t cI a_tape a_memory1 a_wait1)[i]?) [2, 3]) (z_rV (rest := []) hx hb hml hown hcx hl.1 (c_X12_without1 l D cI h_t r_t F_t a_tape u5 hu5 _) tl_X12_307 ti_X12_without1 tz_X12_without1 tn_X12 tc_X12_without1 tm_X12_without1 rfl rfl ⟨Nat.le_of_ble_eq_true rfl, Nat.le_of_ble_eq_true rfl⟩ hK hX hS hA hP hD [0, 1] rfl rfl 0 rfl rfl rfl rfl (Nat.le_of_ble_eq_true rfl) dX12_clause1_113 ⟨Nat.zero_le _, Nat.zero_le _⟩) hP hD hS hA [0, 1] [2, 3] [2, 3, 0, 1] rfl rfl rfl (by decide) rfl rfl (fun H locs hP hD hS => ?_)
      refine lv_goto (tgt := 159) hx hb dX12_clause1_116 (by decide) ?_
      exact hret (u5, a_memory1, a_wait1) _ _ _ _ hf hP hD hS dX12_clause1_159
    refine z_tabin (v := 3) (off := 103) (tgt := 119) hx hb dX12_clause1_16 (by decide) (by decide) (by decide) (by decide) hf (fun hf => ?_) (fun hn3 hf => ?_)
    · refine lv_aload_n hx hb dX12_clause1_119 rfl (lv_at hl 0 rfl) ?_
      obtain ⟨u6, hu6, hf⟩ := bd_some hf
      refine z_cv (ws1 := w_X12_clause1 h_t r_t u6.1 cI a_tape u6.2 a_wait1) (wr := List.filterMap (fun i : Nat => (w_X12_clause1 h_t r_t F_t cI a_tape a_memory1 a_wait1)[i]?) [3]) (z_rV (rest := []) hx hb hml hown hcx hl.1 (c_X12_chain1 l D cI h_t r_t F_t a_tape a_memory1 u6 hu6 _) tl_X12_310 ti_X12_chain1 tz_X12_chain1 tn_X12 tc_X12_chain1 tm_X12_chain1 rfl rfl ⟨Nat.le_of_ble_eq_true rfl, Nat.le_of_ble_eq_true rfl⟩ hK hX hS hA hP hD [0, 1, 2] rfl rfl 0 rfl rfl rfl rfl (Nat.le_of_ble_eq_true rfl) dX12_clause1_120 ⟨Nat.zero_le _, Nat.zero_le _⟩) hP hD hS hA [0, 1, 2] [3] [1, 2, 3, 0] rfl rfl rfl (by decide) rfl rfl (fun H locs hP hD hS => ?_)
      refine lv_goto (tgt := 159) hx hb dX12_clause1_123 (by decide) ?_
      exact hret (u6.1, u6.2, a_wait1) _ _ _ _ hf hP hD hS dX12_clause1_159
    refine z_tabin (v := 4) (off := 110) (tgt := 126) hx hb dX12_clause1_16 (by decide) (by decide) (by decide) (by decide) hf (fun hf => ?_) (fun hn4 hf => ?_)
    · refine lv_aload_n hx hb dX12_clause1_126 rfl (lv_at hl 0 rfl) ?_
      obtain ⟨u7, hu7, hf⟩ := bd_some hf
      refine z_cv (ws1 := w_X12_clause1 h_t r_t u7 cI a_tape a_memory1 a_wait1) (wr := List.filterMap (fun i : Nat => (w_X12_clause1 h_t r_t F_t cI a_tape a_memory1 a_wait1)[i]?) [2, 3]) (z_rV (rest := []) hx hb hml hown hcx hl.1 (c_X12_go l D cI h_t r_t F_t a_tape u7 hu7 _) tl_X12_274 ti_X12_go tz_X12_go tn_X12 tc_X12_go tm_X12_go rfl rfl ⟨Nat.le_of_ble_eq_true rfl, Nat.le_of_ble_eq_true rfl⟩ hK hX hS hA hP hD [0, 1] rfl rfl 0 rfl rfl rfl rfl (Nat.le_of_ble_eq_true rfl) dX12_clause1_127 ⟨Nat.zero_le _, Nat.zero_le _⟩) hP hD hS hA [0, 1] [2, 3] [2, 3, 0, 1] rfl rfl rfl (by decide) rfl rfl (fun H locs hP hD hS => ?_)
      refine lv_aload_n hx hb dX12_clause1_130 rfl (lv_at hl 0 rfl) ?_
      obtain ⟨u8, hu8, hf⟩ := bd_some hf
      refine z_ci (ws1 := w_X12_clause1 h_t r_t u8.2.1 cI a_tape u8.2.2 a_wait1) (wr := List.filterMap (fun i : Nat => (w_X12_clause1 h_t r_t u7 cI a_tape a_memory1 a_wait1)[i]?) [3]) (z_rV (rest := []) hx hb hml hown hcx hl.1 (c_X12_usedHere l D cI h_t r_t u7 a_tape a_memory1 u8 hu8 _) tl_X12_280 ti_X12_usedHere tz_X12_usedHere tn_X12 tc_X12_usedHere tm_X12_usedHere rfl rfl ⟨Nat.le_of_ble_eq_true rfl, Nat.le_of_ble_eq_true rfl⟩ hK hX hS hA hP hD [0, 1, 2] rfl rfl 0 rfl rfl rfl rfl (Nat.le_of_ble_eq_true rfl) dX12_clause1_131 ⟨Nat.zero_le _, Nat.zero_le _⟩) hP hD hS hA [0, 1, 2] [3] [1, 2, 3, 0] rfl rfl rfl (by decide) rfl rfl (fun H locs hP hD hS => ?_)
      refine lv_pop hx hb dX12_clause1_134 rfl ?_
      refine lv_goto (tgt := 159) hx hb dX12_clause1_135 (by decide) ?_
      exact hret (u8.2.1, u8.2.2, a_wait1) _ _ _ _ hf hP hD hS dX12_clause1_159
    refine z_tabin (v := 5) (off := 122) (tgt := 138) hx hb dX12_clause1_16 (by decide) (by decide) (by decide) (by decide) hf (fun hf => ?_) (fun hn5 hf => ?_)
    · refine lv_aload_n hx hb dX12_clause1_138 rfl (lv_at hl 0 rfl) ?_
      obtain ⟨u9, hu9, hf⟩ := bd_some hf
      refine z_cv (ws1 := w_X12_clause1 h_t r_t u9.1 cI a_tape u9.2 a_wait1) (wr := List.filterMap (fun i : Nat => (w_X12_clause1 h_t r_t F_t cI a_tape a_memory1 a_wait1)[i]?) [3]) (z_rV (rest := []) hx hb hml hown hcx hl.1 (c_X12_data1 l D cI h_t r_t F_t a_tape a_memory1 u9 hu9 _) tl_X12_313 ti_X12_data1 tz_X12_data1 tn_X12 tc_X12_data1 tm_X12_data1 rfl rfl ⟨Nat.le_of_ble_eq_true rfl, Nat.le_of_ble_eq_true rfl⟩ hK hX hS hA hP hD [0, 1, 2] rfl rfl 0 rfl rfl rfl rfl (Nat.le_of_ble_eq_true rfl) dX12_clause1_139 ⟨Nat.zero_le _, Nat.zero_le _⟩) hP hD hS hA [0, 1, 2] [3] [1, 2, 3, 0] rfl rfl rfl (by decide) rfl rfl (fun H locs hP hD hS => ?_)
      refine lv_goto (tgt := 159) hx hb dX12_clause1_142 (by decide) ?_
      exact hret (u9.1, u9.2, a_wait1) _ _ _ _ hf hP hD hS dX12_clause1_159
    refine z_tabin (v := 6) (off := 129) (tgt := 145) hx hb dX12_clause1_16 (by decide) (by decide) (by decide) (by decide) hf (fun hf => ?_) (fun hn6 hf => ?_)
    · refine lv_aload_n hx hb dX12_clause1_145 rfl (lv_at hl 0 rfl) ?_
      obtain ⟨u10, hu10, hf⟩ := bd_some hf
      refine z_cv (ws1 := w_X12_clause1 h_t r_t u10.1 cI a_tape a_memory1 u10.2) (wr := List.filterMap (fun i : Nat => (w_X12_clause1 h_t r_t F_t cI a_tape a_memory1 a_wait1)[i]?) [2]) (z_rV (rest := []) hx hb hml hown hcx hl.1 (c_X12_do1 l D cI h_t r_t F_t a_tape a_wait1 u10 hu10 _) tl_X12_315 ti_X12_do1 tz_X12_do1 tn_X12 tc_X12_do1 tm_X12_do1 rfl rfl ⟨Nat.le_of_ble_eq_true rfl, Nat.le_of_ble_eq_true rfl⟩ hK hX hS hA hP hD [0, 1, 3] rfl rfl 0 rfl rfl rfl rfl (Nat.le_of_ble_eq_true rfl) dX12_clause1_146 ⟨Nat.zero_le _, Nat.zero_le _⟩) hP hD hS hA [0, 1, 3] [2] [1, 2, 0, 3] rfl rfl rfl (by decide) rfl rfl (fun H locs hP hD hS => ?_)
      refine lv_goto (tgt := 159) hx hb dX12_clause1_149 (by decide) ?_
      exact hret (u10.1, a_memory1, u10.2) _ _ _ _ hf hP hD hS dX12_clause1_159
    refine z_tabout (tgt := 152) hx hb dX12_clause1_16 (fun i h1 h2 => by rcases (show i = 0 ∨ i = 1 ∨ i = 2 ∨ i = 3 ∨ i = 4 ∨ i = 5 ∨ i = 6 by omega) with rfl | rfl | rfl | rfl | rfl | rfl | rfl <;> first | exact hn0 | exact hn1 | exact hn2 | exact hn3 | exact hn4 | exact hn5 | exact hn6) (by decide) ?_
    refine lv_aload_n hx hb dX12_clause1_152 rfl (lv_at hl 0 rfl) ?_
    refine lv_iconst (v := 0) hx hb dX12_clause1_153 (by decide) ?_
    refine lv_iconst (v := 1) hx hb dX12_clause1_154 (by decide) ?_
    obtain ⟨u11, hu11, hf⟩ := bd_some hf
    refine z_ci (ws1 := w_X12_clause1 h_t r_t u11.2 cI a_tape a_memory1 a_wait1) (wr := List.filterMap (fun i : Nat => (w_X12_clause1 h_t r_t F_t cI a_tape a_memory1 a_wait1)[i]?) [1, 2, 3]) (z_rV (rest := []) hx hb hml hown hcx hl.1 (c_X12_wants l D cI h_t r_t F_t 0 1 u11 hu11 _) tl_X12_270 ti_X12_wants tz_X12_wants tn_X12 tc_X12_wants tm_X12_wants rfl rfl ⟨Nat.le_of_ble_eq_true rfl, Nat.le_of_ble_eq_true rfl⟩ hK hX hS hA hP hD [0] rfl rfl 0 rfl rfl rfl rfl (Nat.le_of_ble_eq_true rfl) dX12_clause1_155 ⟨Nat.zero_le _, Nat.zero_le _⟩) hP hD hS hA [0] [1, 2, 3] [3, 0, 1, 2] rfl rfl rfl (by decide) rfl rfl (fun H locs hP hD hS => ?_)
    refine lv_pop hx hb dX12_clause1_158 rfl ?_
    exact hret (u11.2, a_memory1, a_wait1) _ _ _ _ hf hP hD hS dX12_clause1_159
  refine lv_aload_n hx hb dX12_clause1_0 rfl (lv_at hl 0 rfl) ?_
  refine z_get (ci := 12) (C := RX12) (T := TX12) (N := 51) (v := .int (F_t 35)) hx hb hts inT_X12 hown hK hP 0 rfl rfl 35 (by decide) tf_X12_258 rfl dX12_clause1_1 ?_
  refine lv_iconst (v := 1) hx hb dX12_clause1_4 (by decide) ?_
  refine z_icmp_ne (tgt := 15) hx hb dX12_clause1_5 (by decide) hf (fun hf => ?_) (fun hf => ?_)
  · refine lv_iconst (v := (-1)) hx hb dX12_clause1_15 (by decide) ?_
    exact L16 (-1) F_t a_memory1 a_wait1 _ _ _ hf hP hD hS (lv_sub hl [0] rfl)
  · refine lv_aload_n hx hb dX12_clause1_8 rfl (lv_at hl 0 rfl) ?_
    refine z_get (ci := 12) (C := RX12) (T := TX12) (N := 51) (v := .int (F_t 37)) hx hb hts inT_X12 hown hK hP 0 rfl rfl 37 (by decide) tf_X12_252 rfl dX12_clause1_9 ?_
    refine lv_goto (tgt := 16) hx hb dX12_clause1_12 (by decide) ?_
    exact L16 (F_t 37) F_t a_memory1 a_wait1 _ _ _ hf hP hD hS (lv_sub hl [0] rfl)
abbrev w_X12_feed (h_t : Nat) (r_t : Nat → Nat) (F_t : Nat → Int32) (cI : ClassId) (a_tape : Nat → Int32) : va_W := [(h_t, .inr (12, o_X12 r_t F_t)), ((r_t 13), .inl (cI, 700, .inl a_tape))]
abbrev rm_X12_feed : Room := { frames := 0, cells := 0, slots := 0, locals := 0 }
def m_X12_feed_j113 (p1 : Int32) (p2 : Int32) (p3 : Int32) (p4 : Int32) (p5 : Int32) (F_t : Nat → Int32) (a_tape : Nat → Int32) : Option (Int32 × (Nat → Int32) × (Nat → Int32)) :=
  nm (upd F_t 14 ((F_t 14) + 20)) fun F2 =>
  some ((F2 14), F2, a_tape)
def m_X12_feed_j76 (p1 : Int32) (p2 : Int32) (p3 : Int32) (p4 : Int32) (p5 : Int32) (k23 : Int32 → (Nat → Int32) → (Nat → Int32) → Option (Int32 × (Nat → Int32) × (Nat → Int32))) (x6 : Int32) (s0 : Int32) (F_t : Nat → Int32) (a_tape : Nat → Int32) : Option (Int32 × (Nat → Int32) × (Nat → Int32)) :=
  wr a_tape 700 ((F_t 14) + x6) ((s0 >>> ((24 - (8 * (x6 - x6 / 4 * 4))) &&& 31)) &&& 255) fun a3 =>
  nm (x6 + 1) fun v4 =>
  k23 v4 F_t a3
def m_X12_feed_w23 (p1 : Int32) (p2 : Int32) (p3 : Int32) (p4 : Int32) (p5 : Int32) (k113 : (Nat → Int32) → (Nat → Int32) → Option (Int32 × (Nat → Int32) × (Nat → Int32))) : Nat → Int32 → (Nat → Int32) → (Nat → Int32) → Option (Int32 × (Nat → Int32) × (Nat → Int32))
  | 0, _, _, _ => none
  | n23 + 1, x6, F_t, a_tape =>
    if 20 ≤ x6 then (
    k113 F_t a_tape)
    else (
    if 4 ≤ x6 then (
    if 8 ≤ x6 then (
    if 12 ≤ x6 then (
    if 16 ≤ x6 then (
    m_X12_feed_j76 p1 p2 p3 p4 p5 (m_X12_feed_w23 p1 p2 p3 p4 p5 k113 n23) x6 p5 F_t a_tape)
    else (
    m_X12_feed_j76 p1 p2 p3 p4 p5 (m_X12_feed_w23 p1 p2 p3 p4 p5 k113 n23) x6 p4 F_t a_tape))
    else (
    m_X12_feed_j76 p1 p2 p3 p4 p5 (m_X12_feed_w23 p1 p2 p3 p4 p5 k113 n23) x6 p3 F_t a_tape))
    else (
    m_X12_feed_j76 p1 p2 p3 p4 p5 (m_X12_feed_w23 p1 p2 p3 p4 p5 k113 n23) x6 p2 F_t a_tape))
    else (
    m_X12_feed_j76 p1 p2 p3 p4 p5 (m_X12_feed_w23 p1 p2 p3 p4 p5 k113 n23) x6 p1 F_t a_tape))
def m_X12_feed (F_t : Nat → Int32) (a_tape : Nat → Int32) (p1 : Int32) (p2 : Int32) (p3 : Int32) (p4 : Int32) (p5 : Int32) : Option (Int32 × (Nat → Int32) × (Nat → Int32)) :=
  nm (upd F_t 4 0) fun F1 =>
  if ((F1 14) + 20) ≤ 700 then (
  m_X12_feed_w23 p1 p2 p3 p4 p5 (m_X12_feed_j113 p1 p2 p3 p4 p5) fuelN 0 F1 a_tape)
  else (
  some ((-1), F1, a_tape))
set_option maxHeartbeats 4000000 in
set_option maxRecDepth 100000 in
theorem c_X12_feed (l : Launch) (D : va_G) (cI : ClassId) (h_t : Nat) (r_t : Nat → Nat) (F_t : Nat → Int32) (a_tape : Nat → Int32) (p1 : Int32) (p2 : Int32) (p3 : Int32) (p4 : Int32) (p5 : Int32) (Rr : Int32 × (Nat → Int32) × (Nat → Int32)) (hf : m_X12_feed F_t a_tape p1 p2 p3 p4 p5 = some Rr) : CTi l yX12_feed (Cond.code yX12_feed cX12_feed 8 (some .int)) rm_X12_feed D cI [.ref h_t, .int p1, .int p2, .int p3, .int p4, .int p5] (w_X12_feed h_t r_t F_t cI a_tape) Rr.1 (w_X12_feed h_t r_t Rr.2.1 cI Rr.2.2) := by
  refine z_begin_i (own := RX12) (ρ := Int32 × (Nat → Int32) × (Nat → Int32)) (fun u => w_X12_feed h_t r_t u.2.1 cI u.2.2) (fun u => u.1) (by decide +kernel) rfl (Nat.le_of_ble_eq_true rfl) ?_
  intro p e s m args below meth c ls Q A hx hb hml hts hcx hown hK hX hA hP hD hS hl hret
  have hl : lv_has ls 8 [(0, .ref h_t), (1, .int p1), (2, .int p2), (3, .int p3), (4, .int p4), (5, .int p5)] := hl
  have hf := (m_X12_feed.eq_1 _ _ _ _ _ _ _).symm.trans hf
  have L113 : ∀ (F_t : Nat → Int32) (a_tape : Nat → Int32) (H : Heap) (locs : List Loc) (ls : Array Slot), m_X12_feed_j113 p1 p2 p3 p4 p5 F_t a_tape = some Rr → va_P D vwCl (w_X12_feed h_t r_t F_t cI a_tape) H → va_D A (w_X12_feed h_t r_t F_t cI a_tape) → va_S A s.heap H locs → lv_has ls 8 [(0, .ref h_t)] → W p l e rm_X12_feed s m args below meth c H locs 0 0 Q (F0 m 113 ls []) := by
    intro F_t a_tape H locs ls hf hP hD hS hl
    have hf := (m_X12_feed_j113.eq_1 _ _ _ _ _ _ _).symm.trans hf
    refine lv_aload_n hx hb dX12_feed_113 rfl (lv_at hl 0 rfl) ?_
    refine lv_dup hx hb dX12_feed_114 rfl ?_
    refine z_get (ci := 12) (C := RX12) (T := TX12) (N := 51) (v := .int (F_t 14)) hx hb hts inT_X12 hown hK hP 0 rfl rfl 14 (by decide) tf_X12_318 rfl dX12_feed_115 ?_
    refine lv_bipush (v := 20) hx hb dX12_feed_118 (by decide) ?_
    refine lv_iadd hx hb dX12_feed_120 ?_
    refine z_put (ci := 12) (C := RX12) (T := TX12) (N := 51) hx hb hts inT_X12 tyX12 tyX12_ok nmX12 hown hK hP hD hS 0 rfl rfl 14 (by decide) tf_X12_318 rfl (by decide +kernel) (Nat.le_of_ble_eq_true rfl) (o_X12 r_t) (o_X12_s14 _ _ _) (fun z => w_X12_feed h_t r_t z cI a_tape) (fun _ => rfl) dX12_feed_121 hf (fun F2 H locs hf hP hD hS => ?_)
    refine lv_aload_n hx hb dX12_feed_124 rfl (lv_at hl 0 rfl) ?_
    refine z_get (ci := 12) (C := RX12) (T := TX12) (N := 51) (v := .int (F2 14)) hx hb hts inT_X12 hown hK hP 0 rfl rfl 14 (by decide) tf_X12_318 rfl dX12_feed_125 ?_
    exact hret ((F2 14), F2, a_tape) _ _ _ _ hf hP hD hS dX12_feed_128
  have L23 : ∀ (n23 : Nat) (x6 : Int32) (F_t : Nat → Int32) (a_tape : Nat → Int32) (H : Heap) (locs : List Loc) (ls : Array Slot), m_X12_feed_w23 p1 p2 p3 p4 p5 (m_X12_feed_j113 p1 p2 p3 p4 p5) n23 x6 F_t a_tape = some Rr → va_P D vwCl (w_X12_feed h_t r_t F_t cI a_tape) H → va_D A (w_X12_feed h_t r_t F_t cI a_tape) → va_S A s.heap H locs → lv_has ls 8 [(0, .ref h_t), (1, .int p1), (2, .int p2), (3, .int p3), (4, .int p4), (5, .int p5), (6, .int x6)] → W p l e rm_X12_feed s m args below meth c H locs 0 0 Q (F0 m 23 ls []) := by
    intro n23
    induction n23 with
    | zero => intro x6 F_t a_tape H locs ls hf; cases (show (none : Option _) = some Rr from hf)
    | succ n23 ih23 =>
      intro x6 F_t a_tape H locs ls hf hP hD hS hl
      have hf := (m_X12_feed_w23.eq_2 _ _ _ _ _ _ _ _ _ _).symm.trans hf
      have L76 : ∀ (x6 : Int32) (s0 : Int32) (F_t : Nat → Int32) (a_tape : Nat → Int32) (H : Heap) (locs : List Loc) (ls : Array Slot), m_X12_feed_j76 p1 p2 p3 p4 p5 (m_X12_feed_w23 p1 p2 p3 p4 p5 (m_X12_feed_j113 p1 p2 p3 p4 p5) n23) x6 s0 F_t a_tape = some Rr → va_P D vwCl (w_X12_feed h_t r_t F_t cI a_tape) H → va_D A (w_X12_feed h_t r_t F_t cI a_tape) → va_S A s.heap H locs → lv_has ls 8 [(0, .ref h_t), (1, .int p1), (2, .int p2), (3, .int p3), (4, .int p4), (5, .int p5), (6, .int x6)] → W p l e rm_X12_feed s m args below meth c H locs 0 0 Q (F0 m 76 ls [.int s0]) := by
        intro x6 s0 F_t a_tape H locs ls hf hP hD hS hl
        have hf := (m_X12_feed_j76.eq_1 _ _ _ _ _ _ _ _ _ _).symm.trans hf
        refine lv_istore (lv' := [(7, .int s0), (0, .ref h_t), (1, .int p1), (2, .int p2), (3, .int p3), (4, .int p4), (5, .int p5), (6, .int x6)]) hx hb dX12_feed_76 hl (by decide) rfl (fun ls hl => ?_)
        refine lv_aload_n hx hb dX12_feed_78 rfl (lv_at hl 1 rfl) ?_
        refine z_get (ci := 12) (C := RX12) (T := TX12) (N := 51) (v := .ref (r_t 13)) hx hb hts inT_X12 hown hK hP 0 rfl rfl 13 (by decide) tf_X12_23 rfl dX12_feed_79 ?_
        refine lv_aload_n hx hb dX12_feed_82 rfl (lv_at hl 1 rfl) ?_
        refine z_get (ci := 12) (C := RX12) (T := TX12) (N := 51) (v := .int (F_t 14)) hx hb hts inT_X12 hown hK hP 0 rfl rfl 14 (by decide) tf_X12_318 rfl dX12_feed_83 ?_
        refine lv_iload hx hb dX12_feed_86 (lv_at hl 7 rfl) ?_
        refine lv_iadd hx hb dX12_feed_88 ?_
        refine lv_iload hx hb dX12_feed_89 (lv_at hl 0 rfl) ?_
        refine lv_bipush (v := 24) hx hb dX12_feed_91 (by decide) ?_
        refine lv_bipush (v := 8) hx hb dX12_feed_93 (by decide) ?_
        refine lv_iload hx hb dX12_feed_95 (lv_at hl 7 rfl) ?_
        refine lv_iconst (v := 4) hx hb dX12_feed_97 (by decide) ?_
        refine lv_irem hx hb dX12_feed_98 (by decide) ?_
        refine lv_imul hx hb dX12_feed_99 ?_
        refine lv_isub hx hb dX12_feed_100 ?_
        refine lv_ishr hx hb dX12_feed_101 ?_
        refine lv_sipush (v := 255) hx hb dX12_feed_102 (by decide) ?_
        refine lv_iand hx hb dX12_feed_105 ?_
        refine z_iast hx hb hK hP hD hS 1 rfl (fun z => w_X12_feed h_t r_t F_t cI z) (fun _ => rfl) dX12_feed_106 hf (fun a3 H locs hf hP hD hS => ?_)
        refine z_iinc (k0 := 7) (fun z => [(6, .int z), (7, .int s0), (0, .ref h_t), (1, .int p1), (2, .int p2), (3, .int p3), (4, .int p4), (5, .int p5)]) hx hb dX12_feed_107 hl rfl (by decide) (by decide) (fun _ => rfl) hf (fun v4 ls hf hl => ?_)
        refine lv_goto (tgt := 23) hx hb dX12_feed_110 (by decide) ?_
        exact ih23 v4 F_t a3 _ _ _ hf hP hD hS (lv_sub hl [2, 3, 4, 5, 6, 7, 0] rfl)
      refine lv_iload hx hb dX12_feed_23 (lv_at hl 6 rfl) ?_
      refine lv_bipush (v := 20) hx hb dX12_feed_25 (by decide) ?_
      refine z_icmp_ge (tgt := 113) hx hb dX12_feed_27 (by decide) hf (fun hf => ?_) (fun hf => ?_)
      · exact L113 F_t a_tape _ _ _ hf hP hD hS (lv_sub hl [0] rfl)
      · refine lv_iload hx hb dX12_feed_30 (lv_at hl 6 rfl) ?_
        refine lv_iconst (v := 4) hx hb dX12_feed_32 (by decide) ?_
        refine z_icmp_ge (tgt := 40) hx hb dX12_feed_33 (by decide) hf (fun hf => ?_) (fun hf => ?_)
        · refine lv_iload hx hb dX12_feed_40 (lv_at hl 6 rfl) ?_
          refine lv_bipush (v := 8) hx hb dX12_feed_42 (by decide) ?_
          refine z_icmp_ge (tgt := 51) hx hb dX12_feed_44 (by decide) hf (fun hf => ?_) (fun hf => ?_)
          · refine lv_iload hx hb dX12_feed_51 (lv_at hl 6 rfl) ?_
            refine lv_bipush (v := 12) hx hb dX12_feed_53 (by decide) ?_
            refine z_icmp_ge (tgt := 62) hx hb dX12_feed_55 (by decide) hf (fun hf => ?_) (fun hf => ?_)
            · refine lv_iload hx hb dX12_feed_62 (lv_at hl 6 rfl) ?_
              refine lv_bipush (v := 16) hx hb dX12_feed_64 (by decide) ?_
              refine z_icmp_ge (tgt := 74) hx hb dX12_feed_66 (by decide) hf (fun hf => ?_) (fun hf => ?_)
              · refine lv_iload hx hb dX12_feed_74 (lv_at hl 5 rfl) ?_
                exact L76 x6 p5 F_t a_tape _ _ _ hf hP hD hS (lv_sub hl [0, 1, 2, 3, 4, 5, 6] rfl)
              · refine lv_iload hx hb dX12_feed_69 (lv_at hl 4 rfl) ?_
                refine lv_goto (tgt := 76) hx hb dX12_feed_71 (by decide) ?_
                exact L76 x6 p4 F_t a_tape _ _ _ hf hP hD hS (lv_sub hl [0, 1, 2, 3, 4, 5, 6] rfl)
            · refine lv_iload_n hx hb dX12_feed_58 rfl (lv_at hl 3 rfl) ?_
              refine lv_goto (tgt := 76) hx hb dX12_feed_59 (by decide) ?_
              exact L76 x6 p3 F_t a_tape _ _ _ hf hP hD hS (lv_sub hl [0, 1, 2, 3, 4, 5, 6] rfl)
          · refine lv_iload_n hx hb dX12_feed_47 rfl (lv_at hl 2 rfl) ?_
            refine lv_goto (tgt := 76) hx hb dX12_feed_48 (by decide) ?_
            exact L76 x6 p2 F_t a_tape _ _ _ hf hP hD hS (lv_sub hl [0, 1, 2, 3, 4, 5, 6] rfl)
        · refine lv_iload_n hx hb dX12_feed_36 rfl (lv_at hl 1 rfl) ?_
          refine lv_goto (tgt := 76) hx hb dX12_feed_37 (by decide) ?_
          exact L76 x6 p1 F_t a_tape _ _ _ hf hP hD hS (lv_sub hl [0, 1, 2, 3, 4, 5, 6] rfl)
  refine lv_aload_n hx hb dX12_feed_0 rfl (lv_at hl 0 rfl) ?_
  refine lv_iconst (v := 0) hx hb dX12_feed_1 (by decide) ?_
  refine z_put (ci := 12) (C := RX12) (T := TX12) (N := 51) hx hb hts inT_X12 tyX12 tyX12_ok nmX12 hown hK hP hD hS 0 rfl rfl 4 (by decide) tf_X12_63 rfl (by decide +kernel) (Nat.le_of_ble_eq_true rfl) (o_X12 r_t) (o_X12_s4 _ _ _) (fun z => w_X12_feed h_t r_t z cI a_tape) (fun _ => rfl) dX12_feed_2 hf (fun F1 H locs hf hP hD hS => ?_)
  refine lv_aload_n hx hb dX12_feed_5 rfl (lv_at hl 0 rfl) ?_
  refine z_get (ci := 12) (C := RX12) (T := TX12) (N := 51) (v := .int (F1 14)) hx hb hts inT_X12 hown hK hP 0 rfl rfl 14 (by decide) tf_X12_318 rfl dX12_feed_6 ?_
  refine lv_bipush (v := 20) hx hb dX12_feed_9 (by decide) ?_
  refine lv_iadd hx hb dX12_feed_11 ?_
  refine lv_sipush (v := 700) hx hb dX12_feed_12 (by decide) ?_
  refine z_icmp_le (tgt := 20) hx hb dX12_feed_15 (by decide) hf (fun hf => ?_) (fun hf => ?_)
  · refine lv_iconst (v := 0) hx hb dX12_feed_20 (by decide) ?_
    refine lv_istore (lv' := [(6, .int 0), (0, .ref h_t), (1, .int p1), (2, .int p2), (3, .int p3), (4, .int p4), (5, .int p5)]) hx hb dX12_feed_21 hl (by decide) rfl (fun ls hl => ?_)
    exact L23 fuelN 0 F1 a_tape _ _ _ hf hP hD hS (lv_sub hl [1, 2, 3, 4, 5, 6, 0] rfl)
  · refine lv_iconst (v := (-1)) hx hb dX12_feed_18 (by decide) ?_
    exact hret ((-1), F1, a_tape) _ _ _ _ hf hP hD hS dX12_feed_19
abbrev w_X12_heap (h_t : Nat) (r_t : Nat → Nat) (F_t : Nat → Int32) (cI : ClassId) (a_rows : Nat → Int32) (a_refused : Nat → Int32) (a_tape : Nat → Int32) (a_memory1 : Nat → Int32) (a_wait1 : Nat → Int32) : va_W := [(h_t, .inr (12, o_X12 r_t F_t)), ((r_t 0), .inl (cI, 66100, .inl a_rows)), ((r_t 3), .inl (cI, 6, .inl a_refused)), ((r_t 13), .inl (cI, 700, .inl a_tape)), ((r_t 39), .inl (cI, 64, .inl a_memory1)), ((r_t 40), .inl (cI, 156, .inl a_wait1))]
abbrev rm_X12_heap : Room := { frames := 7, cells := 0, slots := 0, locals := 157 }
def m_X12_heap_j277 (a_tape : Nat → Int32) (p1 : Int32) (F_t : Nat → Int32) (a_rows : Nat → Int32) (a_refused : Nat → Int32) (a_memory1 : Nat → Int32) (a_wait1 : Nat → Int32) : Option (Int32 × (Nat → Int32) × (Nat → Int32) × (Nat → Int32) × (Nat → Int32) × (Nat → Int32)) :=
  nm (upd F_t 11 0) fun F19 =>
  nm (upd F19 7 0) fun F20 =>
  nm (upd F20 6 0) fun F21 =>
  nm (upd F21 5 0) fun F22 =>
  some (0, F22, a_rows, a_refused, a_memory1, a_wait1)
def m_X12_heap_w244 (a_tape : Nat → Int32) (p1 : Int32) (k277 : (Nat → Int32) → (Nat → Int32) → (Nat → Int32) → (Nat → Int32) → (Nat → Int32) → Option (Int32 × (Nat → Int32) × (Nat → Int32) × (Nat → Int32) × (Nat → Int32) × (Nat → Int32))) : Nat → Int32 → (Nat → Int32) → (Nat → Int32) → (Nat → Int32) → (Nat → Int32) → (Nat → Int32) → Option (Int32 × (Nat → Int32) × (Nat → Int32) × (Nat → Int32) × (Nat → Int32) × (Nat → Int32))
  | 0, _, _, _, _, _, _ => none
  | n244 + 1, x2, F_t, a_rows, a_refused, a_memory1, a_wait1 =>
    if (13 * (F_t 42)) ≤ x2 then (
    k277 F_t a_rows a_refused a_memory1 a_wait1)
    else (
    rd a_wait1 156 x2 fun y23 =>
    wr a_rows 66100 (616 + x2) y23 fun a24 =>
    nm (x2 + 1) fun v25 =>
    m_X12_heap_w244 a_tape p1 k277 n244 v25 F_t a24 a_refused a_memory1 a_wait1)
def m_X12_heap_j218 (a_tape : Nat → Int32) (p1 : Int32) (F_t : Nat → Int32) (a_rows : Nat → Int32) (a_refused : Nat → Int32) (a_memory1 : Nat → Int32) (a_wait1 : Nat → Int32) : Option (Int32 × (Nat → Int32) × (Nat → Int32) × (Nat → Int32) × (Nat → Int32) × (Nat → Int32)) :=
  wr a_rows 66100 773 (F_t 41) fun a17 =>
  wr a17 66100 777 (F_t 42) fun a18 =>
  m_X12_heap_w244 a_tape p1 (m_X12_heap_j277 a_tape p1) fuelN 0 F_t a18 a_refused a_memory1 a_wait1
def m_X12_heap_w194 (a_tape : Nat → Int32) (p1 : Int32) (k218 : (Nat → Int32) → (Nat → Int32) → (Nat → Int32) → (Nat → Int32) → (Nat → Int32) → Option (Int32 × (Nat → Int32) × (Nat → Int32) × (Nat → Int32) × (Nat → Int32) × (Nat → Int32))) : Nat → Int32 → (Nat → Int32) → (Nat → Int32) → (Nat → Int32) → (Nat → Int32) → (Nat → Int32) → Option (Int32 × (Nat → Int32) × (Nat → Int32) × (Nat → Int32) × (Nat → Int32) × (Nat → Int32))
  | 0, _, _, _, _, _, _ => none
  | n194 + 1, x2, F_t, a_rows, a_refused, a_memory1, a_wait1 =>
    if 64 ≤ x2 then (
    k218 F_t a_rows a_refused a_memory1 a_wait1)
    else (
    rd a_memory1 64 x2 fun y26 =>
    wr a_rows 66100 x2 y26 fun a27 =>
    nm (x2 + 1) fun v28 =>
    m_X12_heap_w194 a_tape p1 k218 n194 v28 F_t a27 a_refused a_memory1 a_wait1)
def m_X12_heap_j158 (a_tape : Nat → Int32) (p1 : Int32) (F_t : Nat → Int32) (a_rows : Nat → Int32) (a_refused : Nat → Int32) (a_memory1 : Nat → Int32) (a_wait1 : Nat → Int32) : Option (Int32 × (Nat → Int32) × (Nat → Int32) × (Nat → Int32) × (Nat → Int32) × (Nat → Int32)) :=
  if (F_t 38) = 0 then (
  bd (m_X12_begins a_rows) fun u15 =>
  nm (upd F_t 12 (F_t 43)) fun F16 =>
  m_X12_heap_w194 a_tape p1 (m_X12_heap_j218 a_tape p1) fuelN 0 F16 u15 a_refused a_memory1 a_wait1)
  else (
  rd a_refused 6 0 fun y29 =>
  wr a_refused 6 0 (y29 + 1) fun a30 =>
  some ((F_t 38), F_t, a_rows, a30, a_memory1, a_wait1))
def m_X12_heap_w112 (a_tape : Nat → Int32) (p1 : Int32) (k158 : (Nat → Int32) → (Nat → Int32) → (Nat → Int32) → (Nat → Int32) → (Nat → Int32) → Option (Int32 × (Nat → Int32) × (Nat → Int32) × (Nat → Int32) × (Nat → Int32) × (Nat → Int32))) : Nat → (Nat → Int32) → (Nat → Int32) → (Nat → Int32) → (Nat → Int32) → (Nat → Int32) → Option (Int32 × (Nat → Int32) × (Nat → Int32) × (Nat → Int32) × (Nat → Int32) × (Nat → Int32))
  | 0, _, _, _, _, _ => none
  | n112 + 1, F_t, a_rows, a_refused, a_memory1, a_wait1 =>
    if (F_t 38) = 0 then (
    if (F_t 35) = 0 then (
    k158 F_t a_rows a_refused a_memory1 a_wait1)
    else (
    bd (m_X12_clause1 F_t a_tape a_memory1 a_wait1) fun u31 =>
    if (u31.1 38) = 0 then (
    bd (m_X12_isSign u31.1 59) fun u32 =>
    bd (m_X12_wants u31.1 u32 1) fun u33 =>
    if u33.1 = 0 then (
    m_X12_heap_w112 a_tape p1 k158 n112 u33.2 a_rows a_refused u31.2.1 u31.2.2)
    else (
    bd (m_X12_go u33.2 a_tape) fun u34 =>
    m_X12_heap_w112 a_tape p1 k158 n112 u34 a_rows a_refused u31.2.1 u31.2.2))
    else (
    m_X12_heap_w112 a_tape p1 k158 n112 u31.1 a_rows a_refused u31.2.1 u31.2.2)))
    else (
    k158 F_t a_rows a_refused a_memory1 a_wait1)
def m_X12_heap_j58 (a_tape : Nat → Int32) (p1 : Int32) (F_t : Nat → Int32) (a_rows : Nat → Int32) (a_refused : Nat → Int32) (a_memory1 : Nat → Int32) (a_wait1 : Nat → Int32) : Option (Int32 × (Nat → Int32) × (Nat → Int32) × (Nat → Int32) × (Nat → Int32) × (Nat → Int32)) :=
  nm (upd F_t 46 0) fun F4 =>
  nm (upd F4 45 0) fun F5 =>
  nm (upd F5 44 0) fun F6 =>
  nm (upd F6 43 0) fun F7 =>
  nm (upd F7 42 0) fun F8 =>
  nm (upd F8 41 0) fun F9 =>
  nm (upd F9 34 p1) fun F10 =>
  nm (upd F10 32 0) fun F11 =>
  nm (upd F11 38 0) fun F12 =>
  nm (upd F12 15 (-1)) fun F13 =>
  bd (m_X12_go F13 a_tape) fun u14 =>
  m_X12_heap_w112 a_tape p1 (m_X12_heap_j158 a_tape p1) fuelN u14 a_rows a_refused a_memory1 a_wait1
def m_X12_heap_w39 (a_tape : Nat → Int32) (p1 : Int32) (k58 : (Nat → Int32) → (Nat → Int32) → (Nat → Int32) → (Nat → Int32) → (Nat → Int32) → Option (Int32 × (Nat → Int32) × (Nat → Int32) × (Nat → Int32) × (Nat → Int32) × (Nat → Int32))) : Nat → Int32 → (Nat → Int32) → (Nat → Int32) → (Nat → Int32) → (Nat → Int32) → (Nat → Int32) → Option (Int32 × (Nat → Int32) × (Nat → Int32) × (Nat → Int32) × (Nat → Int32) × (Nat → Int32))
  | 0, _, _, _, _, _, _ => none
  | n39 + 1, x2, F_t, a_rows, a_refused, a_memory1, a_wait1 =>
    if 64 ≤ x2 then (
    k58 F_t a_rows a_refused a_memory1 a_wait1)
    else (
    wr a_memory1 64 x2 0 fun a35 =>
    nm (x2 + 1) fun v36 =>
    m_X12_heap_w39 a_tape p1 k58 n39 v36 F_t a_rows a_refused a35 a_wait1)
def m_X12_heap_j23 (a_tape : Nat → Int32) (p1 : Int32) (s1 : Int32) (F_t : Nat → Int32) (a_rows : Nat → Int32) (a_refused : Nat → Int32) (a_memory1 : Nat → Int32) (a_wait1 : Nat → Int32) : Option (Int32 × (Nat → Int32) × (Nat → Int32) × (Nat → Int32) × (Nat → Int32) × (Nat → Int32)) :=
  bd (m_X12_right F_t s1 1) fun u2 =>
  if u2.1 = 0 then (
  some (0, u2.2, a_rows, a_refused, a_memory1, a_wait1))
  else (
  nm (upd u2.2 14 0) fun F3 =>
  m_X12_heap_w39 a_tape p1 (m_X12_heap_j58 a_tape p1) fuelN 0 F3 a_rows a_refused a_memory1 a_wait1)
def m_X12_heap_j22 (a_tape : Nat → Int32) (p1 : Int32) (F_t : Nat → Int32) (a_rows : Nat → Int32) (a_refused : Nat → Int32) (a_memory1 : Nat → Int32) (a_wait1 : Nat → Int32) : Option (Int32 × (Nat → Int32) × (Nat → Int32) × (Nat → Int32) × (Nat → Int32) × (Nat → Int32)) :=
  m_X12_heap_j23 a_tape p1 0 F_t a_rows a_refused a_memory1 a_wait1
def m_X12_heap (F_t : Nat → Int32) (a_rows : Nat → Int32) (a_refused : Nat → Int32) (a_tape : Nat → Int32) (a_memory1 : Nat → Int32) (a_wait1 : Nat → Int32) (p1 : Int32) : Option (Int32 × (Nat → Int32) × (Nat → Int32) × (Nat → Int32) × (Nat → Int32) × (Nat → Int32)) :=
  nm (upd F_t 4 0) fun F1 =>
  if p1 < 0 then (
  m_X12_heap_j22 a_tape p1 F1 a_rows a_refused a_memory1 a_wait1)
  else (
  if (F1 14) < p1 then (
  m_X12_heap_j22 a_tape p1 F1 a_rows a_refused a_memory1 a_wait1)
  else (
  m_X12_heap_j23 a_tape p1 1 F1 a_rows a_refused a_memory1 a_wait1))
set_option maxHeartbeats 4000000 in
set_option maxRecDepth 100000 in
theorem c_X12_heap (l : Launch) (D : va_G) (cI : ClassId) (h_t : Nat) (r_t : Nat → Nat) (F_t : Nat → Int32) (a_rows : Nat → Int32) (a_refused : Nat → Int32) (a_tape : Nat → Int32) (a_memory1 : Nat → Int32) (a_wait1 : Nat → Int32) (p1 : Int32) (Rr : Int32 × (Nat → Int32) × (Nat → Int32) × (Nat → Int32) × (Nat → Int32) × (Nat → Int32)) (hf : m_X12_heap F_t a_rows a_refused a_tape a_memory1 a_wait1 p1 = some Rr) : CTi l yX12_heap (Cond.code yX12_heap cX12_heap 3 (some .int)) rm_X12_heap D cI [.ref h_t, .int p1] (w_X12_heap h_t r_t F_t cI a_rows a_refused a_tape a_memory1 a_wait1) Rr.1 (w_X12_heap h_t r_t Rr.2.1 cI Rr.2.2.1 Rr.2.2.2.1 a_tape Rr.2.2.2.2.1 Rr.2.2.2.2.2) := by
  refine z_begin_i (own := RX12) (ρ := Int32 × (Nat → Int32) × (Nat → Int32) × (Nat → Int32) × (Nat → Int32) × (Nat → Int32)) (fun u => w_X12_heap h_t r_t u.2.1 cI u.2.2.1 u.2.2.2.1 a_tape u.2.2.2.2.1 u.2.2.2.2.2) (fun u => u.1) (by decide +kernel) rfl (Nat.le_of_ble_eq_true rfl) ?_
  intro p e s m args below meth c ls Q A hx hb hml hts hcx hown hK hX hA hP hD hS hl hret
  have hl : lv_has ls 3 [(0, .ref h_t), (1, .int p1)] := hl
  have hf := (m_X12_heap.eq_1 _ _ _ _ _ _ _).symm.trans hf
  have L277 : ∀ (F_t : Nat → Int32) (a_rows : Nat → Int32) (a_refused : Nat → Int32) (a_memory1 : Nat → Int32) (a_wait1 : Nat → Int32) (H : Heap) (locs : List Loc) (ls : Array Slot), m_X12_heap_j277 a_tape p1 F_t a_rows a_refused a_memory1 a_wait1 = some Rr → va_P D vwCl (w_X12_heap h_t r_t F_t cI a_rows a_refused a_tape a_memory1 a_wait1) H → va_D A (w_X12_heap h_t r_t F_t cI a_rows a_refused a_tape a_memory1 a_wait1) → va_S A s.heap H locs → lv_has ls 3 [(0, .ref h_t)] → W p l e rm_X12_heap s m args below meth c H locs 0 0 Q (F0 m 277 ls []) := by
    intro F_t a_rows a_refused a_memory1 a_wait1 H locs ls hf hP hD hS hl
    have hf := (m_X12_heap_j277.eq_1 _ _ _ _ _ _ _).symm.trans hf
    refine lv_aload_n hx hb dX12_heap_277 rfl (lv_at hl 0 rfl) ?_
    refine lv_aload_n hx hb dX12_heap_278 rfl (lv_at hl 0 rfl) ?_
    refine lv_aload_n hx hb dX12_heap_279 rfl (lv_at hl 0 rfl) ?_
    refine lv_aload_n hx hb dX12_heap_280 rfl (lv_at hl 0 rfl) ?_
    refine lv_iconst (v := 0) hx hb dX12_heap_281 (by decide) ?_
    refine lv_dup_x1 hx hb dX12_heap_282 rfl rfl ?_
    refine z_put (ci := 12) (C := RX12) (T := TX12) (N := 51) hx hb hts inT_X12 tyX12 tyX12_ok nmX12 hown hK hP hD hS 0 rfl rfl 11 (by decide) tf_X12_327 rfl (by decide +kernel) (Nat.le_of_ble_eq_true rfl) (o_X12 r_t) (o_X12_s11 _ _ _) (fun z => w_X12_heap h_t r_t z cI a_rows a_refused a_tape a_memory1 a_wait1) (fun _ => rfl) dX12_heap_283 hf (fun F19 H locs hf hP hD hS => ?_)
    refine lv_dup_x1 hx hb dX12_heap_286 rfl rfl ?_
    refine z_put (ci := 12) (C := RX12) (T := TX12) (N := 51) hx hb hts inT_X12 tyX12 tyX12_ok nmX12 hown hK hP hD hS 0 rfl rfl 7 (by decide) tf_X12_330 rfl (by decide +kernel) (Nat.le_of_ble_eq_true rfl) (o_X12 r_t) (o_X12_s7 _ _ _) (fun z => w_X12_heap h_t r_t z cI a_rows a_refused a_tape a_memory1 a_wait1) (fun _ => rfl) dX12_heap_287 hf (fun F20 H locs hf hP hD hS => ?_)
    refine lv_dup_x1 hx hb dX12_heap_290 rfl rfl ?_
    refine z_put (ci := 12) (C := RX12) (T := TX12) (N := 51) hx hb hts inT_X12 tyX12 tyX12_ok nmX12 hown hK hP hD hS 0 rfl rfl 6 (by decide) tf_X12_333 rfl (by decide +kernel) (Nat.le_of_ble_eq_true rfl) (o_X12 r_t) (o_X12_s6 _ _ _) (fun z => w_X12_heap h_t r_t z cI a_rows a_refused a_tape a_memory1 a_wait1) (fun _ => rfl) dX12_heap_291 hf (fun F21 H locs hf hP hD hS => ?_)
    refine z_put (ci := 12) (C := RX12) (T := TX12) (N := 51) hx hb hts inT_X12 tyX12 tyX12_ok nmX12 hown hK hP hD hS 0 rfl rfl 5 (by decide) tf_X12_336 rfl (by decide +kernel) (Nat.le_of_ble_eq_true rfl) (o_X12 r_t) (o_X12_s5 _ _ _) (fun z => w_X12_heap h_t r_t z cI a_rows a_refused a_tape a_memory1 a_wait1) (fun _ => rfl) dX12_heap_294 hf (fun F22 H locs hf hP hD hS => ?_)
    refine lv_iconst (v := 0) hx hb dX12_heap_297 (by decide) ?_
    exact hret (0, F22, a_rows, a_refused, a_memory1, a_wait1) _ _ _ _ hf hP hD hS dX12_heap_298
  have L244 : ∀ (n244 : Nat) (x2 : Int32) (F_t : Nat → Int32) (a_rows : Nat → Int32) (a_refused : Nat → Int32) (a_memory1 : Nat → Int32) (a_wait1 : Nat → Int32) (H : Heap) (locs : List Loc) (ls : Array Slot), m_X12_heap_w244 a_tape p1 (m_X12_heap_j277 a_tape p1) n244 x2 F_t a_rows a_refused a_memory1 a_wait1 = some Rr → va_P D vwCl (w_X12_heap h_t r_t F_t cI a_rows a_refused a_tape a_memory1 a_wait1) H → va_D A (w_X12_heap h_t r_t F_t cI a_rows a_refused a_tape a_memory1 a_wait1) → va_S A s.heap H locs → lv_has ls 3 [(0, .ref h_t), (2, .int x2)] → W p l e rm_X12_heap s m args below meth c H locs 0 0 Q (F0 m 244 ls []) := by
    intro n244
    induction n244 with
    | zero => intro x2 F_t a_rows a_refused a_memory1 a_wait1 H locs ls hf; cases (show (none : Option _) = some Rr from hf)
    | succ n244 ih244 =>
      intro x2 F_t a_rows a_refused a_memory1 a_wait1 H locs ls hf hP hD hS hl
      have hf := (m_X12_heap_w244.eq_2 _ _ _ _ _ _ _ _ _ _).symm.trans hf
      refine lv_iload_n hx hb dX12_heap_244 rfl (lv_at hl 1 rfl) ?_
      refine lv_bipush (v := 13) hx hb dX12_heap_245 (by decide) ?_
      refine lv_aload_n hx hb dX12_heap_247 rfl (lv_at hl 0 rfl) ?_
      refine z_get (ci := 12) (C := RX12) (T := TX12) (N := 51) (v := .int (F_t 42)) hx hb hts inT_X12 hown hK hP 0 rfl rfl 42 (by decide) tf_X12_292 rfl dX12_heap_248 ?_
      refine lv_imul hx hb dX12_heap_251 ?_
      refine z_icmp_ge (tgt := 277) hx hb dX12_heap_252 (by decide) hf (fun hf => ?_) (fun hf => ?_)
      · exact L277 F_t a_rows a_refused a_memory1 a_wait1 _ _ _ hf hP hD hS (lv_sub hl [0] rfl)
      · refine lv_aload_n hx hb dX12_heap_255 rfl (lv_at hl 0 rfl) ?_
        refine z_get (ci := 12) (C := RX12) (T := TX12) (N := 51) (v := .ref (r_t 0)) hx hb hts inT_X12 hown hK hP 0 rfl rfl 0 (by decide) tf_X12_10 rfl dX12_heap_256 ?_
        refine lv_sipush (v := 616) hx hb dX12_heap_259 (by decide) ?_
        refine lv_iload_n hx hb dX12_heap_262 rfl (lv_at hl 1 rfl) ?_
        refine lv_iadd hx hb dX12_heap_263 ?_
        refine lv_aload_n hx hb dX12_heap_264 rfl (lv_at hl 0 rfl) ?_
        refine z_get (ci := 12) (C := RX12) (T := TX12) (N := 51) (v := .ref (r_t 40)) hx hb hts inT_X12 hown hK hP 0 rfl rfl 40 (by decide) tf_X12_54 rfl dX12_heap_265 ?_
        refine lv_iload_n hx hb dX12_heap_268 rfl (lv_at hl 1 rfl) ?_
        refine z_iald hx hb hK hP 5 rfl dX12_heap_269 hf (fun y23 hf => ?_)
        refine z_iast hx hb hK hP hD hS 1 rfl (fun z => w_X12_heap h_t r_t F_t cI z a_refused a_tape a_memory1 a_wait1) (fun _ => rfl) dX12_heap_270 hf (fun a24 H locs hf hP hD hS => ?_)
        refine z_iinc (k0 := 1) (fun z => [(2, .int z), (0, .ref h_t)]) hx hb dX12_heap_271 hl rfl (by decide) (by decide) (fun _ => rfl) hf (fun v25 ls hf hl => ?_)
        refine lv_goto (tgt := 244) hx hb dX12_heap_274 (by decide) ?_
        exact ih244 v25 F_t a24 a_refused a_memory1 a_wait1 _ _ _ hf hP hD hS (lv_sub hl [1, 0] rfl)
  have L218 : ∀ (F_t : Nat → Int32) (a_rows : Nat → Int32) (a_refused : Nat → Int32) (a_memory1 : Nat → Int32) (a_wait1 : Nat → Int32) (H : Heap) (locs : List Loc) (ls : Array Slot), m_X12_heap_j218 a_tape p1 F_t a_rows a_refused a_memory1 a_wait1 = some Rr → va_P D vwCl (w_X12_heap h_t r_t F_t cI a_rows a_refused a_tape a_memory1 a_wait1) H → va_D A (w_X12_heap h_t r_t F_t cI a_rows a_refused a_tape a_memory1 a_wait1) → va_S A s.heap H locs → lv_has ls 3 [(0, .ref h_t)] → W p l e rm_X12_heap s m args below meth c H locs 0 0 Q (F0 m 218 ls []) := by
    intro F_t a_rows a_refused a_memory1 a_wait1 H locs ls hf hP hD hS hl
    have hf := (m_X12_heap_j218.eq_1 _ _ _ _ _ _ _).symm.trans hf
    refine lv_aload_n hx hb dX12_heap_218 rfl (lv_at hl 0 rfl) ?_
    refine z_get (ci := 12) (C := RX12) (T := TX12) (N := 51) (v := .ref (r_t 0)) hx hb hts inT_X12 hown hK hP 0 rfl rfl 0 (by decide) tf_X12_10 rfl dX12_heap_219 ?_
    refine lv_sipush (v := 773) hx hb dX12_heap_222 (by decide) ?_
    refine lv_aload_n hx hb dX12_heap_225 rfl (lv_at hl 0 rfl) ?_
    refine z_get (ci := 12) (C := RX12) (T := TX12) (N := 51) (v := .int (F_t 41)) hx hb hts inT_X12 hown hK hP 0 rfl rfl 41 (by decide) tf_X12_283 rfl dX12_heap_226 ?_
    refine z_iast hx hb hK hP hD hS 1 rfl (fun z => w_X12_heap h_t r_t F_t cI z a_refused a_tape a_memory1 a_wait1) (fun _ => rfl) dX12_heap_229 hf (fun a17 H locs hf hP hD hS => ?_)
    refine lv_aload_n hx hb dX12_heap_230 rfl (lv_at hl 0 rfl) ?_
    refine z_get (ci := 12) (C := RX12) (T := TX12) (N := 51) (v := .ref (r_t 0)) hx hb hts inT_X12 hown hK hP 0 rfl rfl 0 (by decide) tf_X12_10 rfl dX12_heap_231 ?_
    refine lv_sipush (v := 777) hx hb dX12_heap_234 (by decide) ?_
    refine lv_aload_n hx hb dX12_heap_237 rfl (lv_at hl 0 rfl) ?_
    refine z_get (ci := 12) (C := RX12) (T := TX12) (N := 51) (v := .int (F_t 42)) hx hb hts inT_X12 hown hK hP 0 rfl rfl 42 (by decide) tf_X12_292 rfl dX12_heap_238 ?_
    refine z_iast hx hb hK hP hD hS 1 rfl (fun z => w_X12_heap h_t r_t F_t cI z a_refused a_tape a_memory1 a_wait1) (fun _ => rfl) dX12_heap_241 hf (fun a18 H locs hf hP hD hS => ?_)
    refine lv_iconst (v := 0) hx hb dX12_heap_242 (by decide) ?_
    refine lv_istore_n (lv' := [(2, .int 0), (0, .ref h_t)]) hx hb dX12_heap_243 rfl hl (by decide) rfl (fun ls hl => ?_)
    exact L244 fuelN 0 F_t a18 a_refused a_memory1 a_wait1 _ _ _ hf hP hD hS (lv_sub hl [1, 0] rfl)
  have L194 : ∀ (n194 : Nat) (x2 : Int32) (F_t : Nat → Int32) (a_rows : Nat → Int32) (a_refused : Nat → Int32) (a_memory1 : Nat → Int32) (a_wait1 : Nat → Int32) (H : Heap) (locs : List Loc) (ls : Array Slot), m_X12_heap_w194 a_tape p1 (m_X12_heap_j218 a_tape p1) n194 x2 F_t a_rows a_refused a_memory1 a_wait1 = some Rr → va_P D vwCl (w_X12_heap h_t r_t F_t cI a_rows a_refused a_tape a_memory1 a_wait1) H → va_D A (w_X12_heap h_t r_t F_t cI a_rows a_refused a_tape a_memory1 a_wait1) → va_S A s.heap H locs → lv_has ls 3 [(0, .ref h_t), (2, .int x2)] → W p l e rm_X12_heap s m args below meth c H locs 0 0 Q (F0 m 194 ls []) := by
    intro n194
    induction n194 with
    | zero => intro x2 F_t a_rows a_refused a_memory1 a_wait1 H locs ls hf; cases (show (none : Option _) = some Rr from hf)
    | succ n194 ih194 =>
      intro x2 F_t a_rows a_refused a_memory1 a_wait1 H locs ls hf hP hD hS hl
      have hf := (m_X12_heap_w194.eq_2 _ _ _ _ _ _ _ _ _ _).symm.trans hf
      refine lv_iload_n hx hb dX12_heap_194 rfl (lv_at hl 1 rfl) ?_
      refine lv_bipush (v := 64) hx hb dX12_heap_195 (by decide) ?_
      refine z_icmp_ge (tgt := 218) hx hb dX12_heap_197 (by decide) hf (fun hf => ?_) (fun hf => ?_)
      · exact L218 F_t a_rows a_refused a_memory1 a_wait1 _ _ _ hf hP hD hS (lv_sub hl [0] rfl)
      · refine lv_aload_n hx hb dX12_heap_200 rfl (lv_at hl 0 rfl) ?_
        refine z_get (ci := 12) (C := RX12) (T := TX12) (N := 51) (v := .ref (r_t 0)) hx hb hts inT_X12 hown hK hP 0 rfl rfl 0 (by decide) tf_X12_10 rfl dX12_heap_201 ?_
        refine lv_iload_n hx hb dX12_heap_204 rfl (lv_at hl 1 rfl) ?_
        refine lv_aload_n hx hb dX12_heap_205 rfl (lv_at hl 0 rfl) ?_
        refine z_get (ci := 12) (C := RX12) (T := TX12) (N := 51) (v := .ref (r_t 39)) hx hb hts inT_X12 hown hK hP 0 rfl rfl 39 (by decide) tf_X12_51 rfl dX12_heap_206 ?_
        refine lv_iload_n hx hb dX12_heap_209 rfl (lv_at hl 1 rfl) ?_
        refine z_iald hx hb hK hP 4 rfl dX12_heap_210 hf (fun y26 hf => ?_)
        refine z_iast hx hb hK hP hD hS 1 rfl (fun z => w_X12_heap h_t r_t F_t cI z a_refused a_tape a_memory1 a_wait1) (fun _ => rfl) dX12_heap_211 hf (fun a27 H locs hf hP hD hS => ?_)
        refine z_iinc (k0 := 1) (fun z => [(2, .int z), (0, .ref h_t)]) hx hb dX12_heap_212 hl rfl (by decide) (by decide) (fun _ => rfl) hf (fun v28 ls hf hl => ?_)
        refine lv_goto (tgt := 194) hx hb dX12_heap_215 (by decide) ?_
        exact ih194 v28 F_t a27 a_refused a_memory1 a_wait1 _ _ _ hf hP hD hS (lv_sub hl [1, 0] rfl)
  have L158 : ∀ (F_t : Nat → Int32) (a_rows : Nat → Int32) (a_refused : Nat → Int32) (a_memory1 : Nat → Int32) (a_wait1 : Nat → Int32) (H : Heap) (locs : List Loc) (ls : Array Slot), m_X12_heap_j158 a_tape p1 F_t a_rows a_refused a_memory1 a_wait1 = some Rr → va_P D vwCl (w_X12_heap h_t r_t F_t cI a_rows a_refused a_tape a_memory1 a_wait1) H → va_D A (w_X12_heap h_t r_t F_t cI a_rows a_refused a_tape a_memory1 a_wait1) → va_S A s.heap H locs → lv_has ls 3 [(0, .ref h_t)] → W p l e rm_X12_heap s m args below meth c H locs 0 0 Q (F0 m 158 ls []) := by
    intro F_t a_rows a_refused a_memory1 a_wait1 H locs ls hf hP hD hS hl
    have hf := (m_X12_heap_j158.eq_1 _ _ _ _ _ _ _).symm.trans hf
    refine lv_aload_n hx hb dX12_heap_158 rfl (lv_at hl 0 rfl) ?_
    refine z_get (ci := 12) (C := RX12) (T := TX12) (N := 51) (v := .int (F_t 38)) hx hb hts inT_X12 hown hK hP 0 rfl rfl 38 (by decide) tf_X12_267 rfl dX12_heap_159 ?_
    refine z_if_eq (tgt := 180) hx hb dX12_heap_162 (by decide) hf (fun hf => ?_) (fun hf => ?_)
    · refine lv_aload_n hx hb dX12_heap_180 rfl (lv_at hl 0 rfl) ?_
      obtain ⟨u15, hu15, hf⟩ := bd_some hf
      refine z_cv (ws1 := w_X12_heap h_t r_t F_t cI u15 a_refused a_tape a_memory1 a_wait1) (wr := List.filterMap (fun i : Nat => (w_X12_heap h_t r_t F_t cI a_rows a_refused a_tape a_memory1 a_wait1)[i]?) [2, 3, 4, 5]) (z_rV (rest := []) hx hb hml hown hcx hl.1 (c_X12_begins l D cI h_t r_t F_t a_rows u15 hu15 _) tl_X12_60 ti_X12_begins tz_X12_begins tn_X12 tc_X12_begins tm_X12_begins rfl rfl ⟨Nat.le_of_ble_eq_true rfl, Nat.le_of_ble_eq_true rfl⟩ hK hX hS hA hP hD [0, 1] rfl rfl 0 rfl rfl rfl rfl (Nat.le_of_ble_eq_true rfl) dX12_heap_181 ⟨Nat.zero_le _, Nat.zero_le _⟩) hP hD hS hA [0, 1] [2, 3, 4, 5] [4, 5, 0, 1, 2, 3] rfl rfl rfl (by decide) rfl rfl (fun H locs hP hD hS => ?_)
      refine lv_aload_n hx hb dX12_heap_184 rfl (lv_at hl 0 rfl) ?_
      refine lv_aload_n hx hb dX12_heap_185 rfl (lv_at hl 0 rfl) ?_
      refine z_get (ci := 12) (C := RX12) (T := TX12) (N := 51) (v := .int (F_t 43)) hx hb hts inT_X12 hown hK hP 0 rfl rfl 43 (by decide) tf_X12_304 rfl dX12_heap_186 ?_
      refine z_put (ci := 12) (C := RX12) (T := TX12) (N := 51) hx hb hts inT_X12 tyX12 tyX12_ok nmX12 hown hK hP hD hS 0 rfl rfl 12 (by decide) tf_X12_147 rfl (by decide +kernel) (Nat.le_of_ble_eq_true rfl) (o_X12 r_t) (o_X12_s12 _ _ _) (fun z => w_X12_heap h_t r_t z cI u15 a_refused a_tape a_memory1 a_wait1) (fun _ => rfl) dX12_heap_189 hf (fun F16 H locs hf hP hD hS => ?_)
      refine lv_iconst (v := 0) hx hb dX12_heap_192 (by decide) ?_
      refine lv_istore_n (lv' := [(2, .int 0), (0, .ref h_t)]) hx hb dX12_heap_193 rfl hl (by decide) rfl (fun ls hl => ?_)
      exact L194 fuelN 0 F16 u15 a_refused a_memory1 a_wait1 _ _ _ hf hP hD hS (lv_sub hl [1, 0] rfl)
    · refine lv_aload_n hx hb dX12_heap_165 rfl (lv_at hl 0 rfl) ?_
      refine z_get (ci := 12) (C := RX12) (T := TX12) (N := 51) (v := .ref (r_t 3)) hx hb hts inT_X12 hown hK hP 0 rfl rfl 3 (by decide) tf_X12_20 rfl dX12_heap_166 ?_
      refine lv_iconst (v := 0) hx hb dX12_heap_169 (by decide) ?_
      refine lv_dup2_11 hx hb dX12_heap_170 rfl rfl ?_
      refine z_iald hx hb hK hP 2 rfl dX12_heap_171 hf (fun y29 hf => ?_)
      refine lv_iconst (v := 1) hx hb dX12_heap_172 (by decide) ?_
      refine lv_iadd hx hb dX12_heap_173 ?_
      refine z_iast hx hb hK hP hD hS 2 rfl (fun z => w_X12_heap h_t r_t F_t cI a_rows z a_tape a_memory1 a_wait1) (fun _ => rfl) dX12_heap_174 hf (fun a30 H locs hf hP hD hS => ?_)
      refine lv_aload_n hx hb dX12_heap_175 rfl (lv_at hl 0 rfl) ?_
      refine z_get (ci := 12) (C := RX12) (T := TX12) (N := 51) (v := .int (F_t 38)) hx hb hts inT_X12 hown hK hP 0 rfl rfl 38 (by decide) tf_X12_267 rfl dX12_heap_176 ?_
      exact hret ((F_t 38), F_t, a_rows, a30, a_memory1, a_wait1) _ _ _ _ hf hP hD hS dX12_heap_179
  have L112 : ∀ (n112 : Nat) (F_t : Nat → Int32) (a_rows : Nat → Int32) (a_refused : Nat → Int32) (a_memory1 : Nat → Int32) (a_wait1 : Nat → Int32) (H : Heap) (locs : List Loc) (ls : Array Slot), m_X12_heap_w112 a_tape p1 (m_X12_heap_j158 a_tape p1) n112 F_t a_rows a_refused a_memory1 a_wait1 = some Rr → va_P D vwCl (w_X12_heap h_t r_t F_t cI a_rows a_refused a_tape a_memory1 a_wait1) H → va_D A (w_X12_heap h_t r_t F_t cI a_rows a_refused a_tape a_memory1 a_wait1) → va_S A s.heap H locs → lv_has ls 3 [(0, .ref h_t)] → W p l e rm_X12_heap s m args below meth c H locs 0 0 Q (F0 m 112 ls []) := by
    intro n112
    induction n112 with
    | zero => intro F_t a_rows a_refused a_memory1 a_wait1 H locs ls hf; cases (show (none : Option _) = some Rr from hf)
    | succ n112 ih112 =>
      intro F_t a_rows a_refused a_memory1 a_wait1 H locs ls hf hP hD hS hl
      have hf := (m_X12_heap_w112.eq_2 _ _ _ _ _ _ _ _ _).symm.trans hf
      refine lv_aload_n hx hb dX12_heap_112 rfl (lv_at hl 0 rfl) ?_
      refine z_get (ci := 12) (C := RX12) (T := TX12) (N := 51) (v := .int (F_t 38)) hx hb hts inT_X12 hown hK hP 0 rfl rfl 38 (by decide) tf_X12_267 rfl dX12_heap_113 ?_
      refine z_if_ne (tgt := 158) hx hb dX12_heap_116 (by decide) hf (fun hf => ?_) (fun hf => ?_)
      · exact L158 F_t a_rows a_refused a_memory1 a_wait1 _ _ _ hf hP hD hS (lv_sub hl [0] rfl)
      · refine lv_aload_n hx hb dX12_heap_119 rfl (lv_at hl 0 rfl) ?_
        refine z_get (ci := 12) (C := RX12) (T := TX12) (N := 51) (v := .int (F_t 35)) hx hb hts inT_X12 hown hK hP 0 rfl rfl 35 (by decide) tf_X12_258 rfl dX12_heap_120 ?_
        refine z_if_eq (tgt := 158) hx hb dX12_heap_123 (by decide) hf (fun hf => ?_) (fun hf => ?_)
        · exact L158 F_t a_rows a_refused a_memory1 a_wait1 _ _ _ hf hP hD hS (lv_sub hl [0] rfl)
        · refine lv_aload_n hx hb dX12_heap_126 rfl (lv_at hl 0 rfl) ?_
          obtain ⟨u31, hu31, hf⟩ := bd_some hf
          refine z_cv (ws1 := w_X12_heap h_t r_t u31.1 cI a_rows a_refused a_tape u31.2.1 u31.2.2) (wr := List.filterMap (fun i : Nat => (w_X12_heap h_t r_t F_t cI a_rows a_refused a_tape a_memory1 a_wait1)[i]?) [1, 2]) (z_rV (rest := []) hx hb hml hown hcx hl.1 (c_X12_clause1 l D cI h_t r_t F_t a_tape a_memory1 a_wait1 u31 hu31 _) tl_X12_324 ti_X12_clause1 tz_X12_clause1 tn_X12 tc_X12_clause1 tm_X12_clause1 rfl rfl ⟨Nat.le_of_ble_eq_true rfl, Nat.le_of_ble_eq_true rfl⟩ hK hX hS hA hP hD [0, 3, 4, 5] rfl rfl 0 rfl rfl rfl rfl (Nat.le_of_ble_eq_true rfl) dX12_heap_127 ⟨Nat.zero_le _, Nat.zero_le _⟩) hP hD hS hA [0, 3, 4, 5] [1, 2] [2, 0, 1, 3, 4, 5] rfl rfl rfl (by decide) rfl rfl (fun H locs hP hD hS => ?_)
          refine lv_aload_n hx hb dX12_heap_130 rfl (lv_at hl 0 rfl) ?_
          refine z_get (ci := 12) (C := RX12) (T := TX12) (N := 51) (v := .int (u31.1 38)) hx hb hts inT_X12 hown hK hP 0 rfl rfl 38 (by decide) tf_X12_267 rfl dX12_heap_131 ?_
          refine z_if_ne (tgt := 112) hx hb dX12_heap_134 (by decide) hf (fun hf => ?_) (fun hf => ?_)
          · exact ih112 u31.1 a_rows a_refused u31.2.1 u31.2.2 _ _ _ hf hP hD hS (lv_sub hl [0] rfl)
          · refine lv_aload_n hx hb dX12_heap_137 rfl (lv_at hl 0 rfl) ?_
            refine lv_aload_n hx hb dX12_heap_138 rfl (lv_at hl 0 rfl) ?_
            refine lv_bipush (v := 59) hx hb dX12_heap_139 (by decide) ?_
            obtain ⟨u32, hu32, hf⟩ := bd_some hf
            refine z_ci (ws1 := w_X12_heap h_t r_t u31.1 cI a_rows a_refused a_tape u31.2.1 u31.2.2) (wr := List.filterMap (fun i : Nat => (w_X12_heap h_t r_t u31.1 cI a_rows a_refused a_tape u31.2.1 u31.2.2)[i]?) [1, 2, 3, 4, 5]) (z_rV (rest := [.ref h_t]) hx hb hml hown hcx hl.1 (c_X12_isSign l D cI h_t r_t u31.1 59 u32 hu32 _) tl_X12_298 ti_X12_isSign tz_X12_isSign tn_X12 tc_X12_isSign tm_X12_isSign rfl rfl ⟨Nat.le_of_ble_eq_true rfl, Nat.le_of_ble_eq_true rfl⟩ hK hX hS hA hP hD [0] rfl rfl 0 rfl rfl rfl rfl (Nat.le_of_ble_eq_true rfl) dX12_heap_141 ⟨Nat.zero_le _, Nat.zero_le _⟩) hP hD hS hA [0] [1, 2, 3, 4, 5] [5, 0, 1, 2, 3, 4] rfl rfl rfl (by decide) rfl rfl (fun H locs hP hD hS => ?_)
            refine lv_iconst (v := 1) hx hb dX12_heap_144 (by decide) ?_
            obtain ⟨u33, hu33, hf⟩ := bd_some hf
            refine z_ci (ws1 := w_X12_heap h_t r_t u33.2 cI a_rows a_refused a_tape u31.2.1 u31.2.2) (wr := List.filterMap (fun i : Nat => (w_X12_heap h_t r_t u31.1 cI a_rows a_refused a_tape u31.2.1 u31.2.2)[i]?) [1, 2, 3, 4, 5]) (z_rV (rest := []) hx hb hml hown hcx hl.1 (c_X12_wants l D cI h_t r_t u31.1 u32 1 u33 hu33 _) tl_X12_270 ti_X12_wants tz_X12_wants tn_X12 tc_X12_wants tm_X12_wants rfl rfl ⟨Nat.le_of_ble_eq_true rfl, Nat.le_of_ble_eq_true rfl⟩ hK hX hS hA hP hD [0] rfl rfl 0 rfl rfl rfl rfl (Nat.le_of_ble_eq_true rfl) dX12_heap_145 ⟨Nat.zero_le _, Nat.zero_le _⟩) hP hD hS hA [0] [1, 2, 3, 4, 5] [5, 0, 1, 2, 3, 4] rfl rfl rfl (by decide) rfl rfl (fun H locs hP hD hS => ?_)
            refine z_if_eq (tgt := 112) hx hb dX12_heap_148 (by decide) hf (fun hf => ?_) (fun hf => ?_)
            · exact ih112 u33.2 a_rows a_refused u31.2.1 u31.2.2 _ _ _ hf hP hD hS (lv_sub hl [0] rfl)
            · refine lv_aload_n hx hb dX12_heap_151 rfl (lv_at hl 0 rfl) ?_
              obtain ⟨u34, hu34, hf⟩ := bd_some hf
              refine z_cv (ws1 := w_X12_heap h_t r_t u34 cI a_rows a_refused a_tape u31.2.1 u31.2.2) (wr := List.filterMap (fun i : Nat => (w_X12_heap h_t r_t u33.2 cI a_rows a_refused a_tape u31.2.1 u31.2.2)[i]?) [1, 2, 4, 5]) (z_rV (rest := []) hx hb hml hown hcx hl.1 (c_X12_go l D cI h_t r_t u33.2 a_tape u34 hu34 _) tl_X12_274 ti_X12_go tz_X12_go tn_X12 tc_X12_go tm_X12_go rfl rfl ⟨Nat.le_of_ble_eq_true rfl, Nat.le_of_ble_eq_true rfl⟩ hK hX hS hA hP hD [0, 3] rfl rfl 0 rfl rfl rfl rfl (Nat.le_of_ble_eq_true rfl) dX12_heap_152 ⟨Nat.zero_le _, Nat.zero_le _⟩) hP hD hS hA [0, 3] [1, 2, 4, 5] [4, 0, 1, 5, 2, 3] rfl rfl rfl (by decide) rfl rfl (fun H locs hP hD hS => ?_)
              refine lv_goto (tgt := 112) hx hb dX12_heap_155 (by decide) ?_
              exact ih112 u34 a_rows a_refused u31.2.1 u31.2.2 _ _ _ hf hP hD hS (lv_sub hl [0] rfl)
  have L58 : ∀ (F_t : Nat → Int32) (a_rows : Nat → Int32) (a_refused : Nat → Int32) (a_memory1 : Nat → Int32) (a_wait1 : Nat → Int32) (H : Heap) (locs : List Loc) (ls : Array Slot), m_X12_heap_j58 a_tape p1 F_t a_rows a_refused a_memory1 a_wait1 = some Rr → va_P D vwCl (w_X12_heap h_t r_t F_t cI a_rows a_refused a_tape a_memory1 a_wait1) H → va_D A (w_X12_heap h_t r_t F_t cI a_rows a_refused a_tape a_memory1 a_wait1) → va_S A s.heap H locs → lv_has ls 3 [(0, .ref h_t), (1, .int p1)] → W p l e rm_X12_heap s m args below meth c H locs 0 0 Q (F0 m 58 ls []) := by
    intro F_t a_rows a_refused a_memory1 a_wait1 H locs ls hf hP hD hS hl
    have hf := (m_X12_heap_j58.eq_1 _ _ _ _ _ _ _).symm.trans hf
    refine lv_aload_n hx hb dX12_heap_58 rfl (lv_at hl 0 rfl) ?_
    refine lv_aload_n hx hb dX12_heap_59 rfl (lv_at hl 0 rfl) ?_
    refine lv_aload_n hx hb dX12_heap_60 rfl (lv_at hl 0 rfl) ?_
    refine lv_aload_n hx hb dX12_heap_61 rfl (lv_at hl 0 rfl) ?_
    refine lv_aload_n hx hb dX12_heap_62 rfl (lv_at hl 0 rfl) ?_
    refine lv_aload_n hx hb dX12_heap_63 rfl (lv_at hl 0 rfl) ?_
    refine lv_iconst (v := 0) hx hb dX12_heap_64 (by decide) ?_
    refine lv_dup_x1 hx hb dX12_heap_65 rfl rfl ?_
    refine z_put (ci := 12) (C := RX12) (T := TX12) (N := 51) hx hb hts inT_X12 tyX12 tyX12_ok nmX12 hown hK hP hD hS 0 rfl rfl 46 (by decide) tf_X12_286 rfl (by decide +kernel) (Nat.le_of_ble_eq_true rfl) (o_X12 r_t) (o_X12_s46 _ _ _) (fun z => w_X12_heap h_t r_t z cI a_rows a_refused a_tape a_memory1 a_wait1) (fun _ => rfl) dX12_heap_66 hf (fun F4 H locs hf hP hD hS => ?_)
    refine lv_dup_x1 hx hb dX12_heap_69 rfl rfl ?_
    refine z_put (ci := 12) (C := RX12) (T := TX12) (N := 51) hx hb hts inT_X12 tyX12 tyX12_ok nmX12 hown hK hP hD hS 0 rfl rfl 45 (by decide) tf_X12_277 rfl (by decide +kernel) (Nat.le_of_ble_eq_true rfl) (o_X12 r_t) (o_X12_s45 _ _ _) (fun z => w_X12_heap h_t r_t z cI a_rows a_refused a_tape a_memory1 a_wait1) (fun _ => rfl) dX12_heap_70 hf (fun F5 H locs hf hP hD hS => ?_)
    refine lv_dup_x1 hx hb dX12_heap_73 rfl rfl ?_
    refine z_put (ci := 12) (C := RX12) (T := TX12) (N := 51) hx hb hts inT_X12 tyX12 tyX12_ok nmX12 hown hK hP hD hS 0 rfl rfl 44 (by decide) tf_X12_301 rfl (by decide +kernel) (Nat.le_of_ble_eq_true rfl) (o_X12 r_t) (o_X12_s44 _ _ _) (fun z => w_X12_heap h_t r_t z cI a_rows a_refused a_tape a_memory1 a_wait1) (fun _ => rfl) dX12_heap_74 hf (fun F6 H locs hf hP hD hS => ?_)
    refine lv_dup_x1 hx hb dX12_heap_77 rfl rfl ?_
    refine z_put (ci := 12) (C := RX12) (T := TX12) (N := 51) hx hb hts inT_X12 tyX12 tyX12_ok nmX12 hown hK hP hD hS 0 rfl rfl 43 (by decide) tf_X12_304 rfl (by decide +kernel) (Nat.le_of_ble_eq_true rfl) (o_X12 r_t) (o_X12_s43 _ _ _) (fun z => w_X12_heap h_t r_t z cI a_rows a_refused a_tape a_memory1 a_wait1) (fun _ => rfl) dX12_heap_78 hf (fun F7 H locs hf hP hD hS => ?_)
    refine lv_dup_x1 hx hb dX12_heap_81 rfl rfl ?_
    refine z_put (ci := 12) (C := RX12) (T := TX12) (N := 51) hx hb hts inT_X12 tyX12 tyX12_ok nmX12 hown hK hP hD hS 0 rfl rfl 42 (by decide) tf_X12_292 rfl (by decide +kernel) (Nat.le_of_ble_eq_true rfl) (o_X12 r_t) (o_X12_s42 _ _ _) (fun z => w_X12_heap h_t r_t z cI a_rows a_refused a_tape a_memory1 a_wait1) (fun _ => rfl) dX12_heap_82 hf (fun F8 H locs hf hP hD hS => ?_)
    refine z_put (ci := 12) (C := RX12) (T := TX12) (N := 51) hx hb hts inT_X12 tyX12 tyX12_ok nmX12 hown hK hP hD hS 0 rfl rfl 41 (by decide) tf_X12_283 rfl (by decide +kernel) (Nat.le_of_ble_eq_true rfl) (o_X12 r_t) (o_X12_s41 _ _ _) (fun z => w_X12_heap h_t r_t z cI a_rows a_refused a_tape a_memory1 a_wait1) (fun _ => rfl) dX12_heap_85 hf (fun F9 H locs hf hP hD hS => ?_)
    refine lv_aload_n hx hb dX12_heap_88 rfl (lv_at hl 0 rfl) ?_
    refine lv_iload_n hx hb dX12_heap_89 rfl (lv_at hl 1 rfl) ?_
    refine z_put (ci := 12) (C := RX12) (T := TX12) (N := 51) hx hb hts inT_X12 tyX12 tyX12_ok nmX12 hown hK hP hD hS 0 rfl rfl 34 (by decide) tf_X12_236 rfl (by decide +kernel) (Nat.le_of_ble_eq_true rfl) (o_X12 r_t) (o_X12_s34 _ _ _) (fun z => w_X12_heap h_t r_t z cI a_rows a_refused a_tape a_memory1 a_wait1) (fun _ => rfl) dX12_heap_90 hf (fun F10 H locs hf hP hD hS => ?_)
    refine lv_aload_n hx hb dX12_heap_93 rfl (lv_at hl 0 rfl) ?_
    refine lv_iconst (v := 0) hx hb dX12_heap_94 (by decide) ?_
    refine z_put (ci := 12) (C := RX12) (T := TX12) (N := 51) hx hb hts inT_X12 tyX12 tyX12_ok nmX12 hown hK hP hD hS 0 rfl rfl 32 (by decide) tf_X12_246 rfl (by decide +kernel) (Nat.le_of_ble_eq_true rfl) (o_X12 r_t) (o_X12_s32 _ _ _) (fun z => w_X12_heap h_t r_t z cI a_rows a_refused a_tape a_memory1 a_wait1) (fun _ => rfl) dX12_heap_95 hf (fun F11 H locs hf hP hD hS => ?_)
    refine lv_aload_n hx hb dX12_heap_98 rfl (lv_at hl 0 rfl) ?_
    refine lv_iconst (v := 0) hx hb dX12_heap_99 (by decide) ?_
    refine z_put (ci := 12) (C := RX12) (T := TX12) (N := 51) hx hb hts inT_X12 tyX12 tyX12_ok nmX12 hown hK hP hD hS 0 rfl rfl 38 (by decide) tf_X12_267 rfl (by decide +kernel) (Nat.le_of_ble_eq_true rfl) (o_X12 r_t) (o_X12_s38 _ _ _) (fun z => w_X12_heap h_t r_t z cI a_rows a_refused a_tape a_memory1 a_wait1) (fun _ => rfl) dX12_heap_100 hf (fun F12 H locs hf hP hD hS => ?_)
    refine lv_aload_n hx hb dX12_heap_103 rfl (lv_at hl 0 rfl) ?_
    refine lv_iconst (v := (-1)) hx hb dX12_heap_104 (by decide) ?_
    refine z_put (ci := 12) (C := RX12) (T := TX12) (N := 51) hx hb hts inT_X12 tyX12 tyX12_ok nmX12 hown hK hP hD hS 0 rfl rfl 15 (by decide) tf_X12_26 rfl (by decide +kernel) (Nat.le_of_ble_eq_true rfl) (o_X12 r_t) (o_X12_s15 _ _ _) (fun z => w_X12_heap h_t r_t z cI a_rows a_refused a_tape a_memory1 a_wait1) (fun _ => rfl) dX12_heap_105 hf (fun F13 H locs hf hP hD hS => ?_)
    refine lv_aload_n hx hb dX12_heap_108 rfl (lv_at hl 0 rfl) ?_
    obtain ⟨u14, hu14, hf⟩ := bd_some hf
    refine z_cv (ws1 := w_X12_heap h_t r_t u14 cI a_rows a_refused a_tape a_memory1 a_wait1) (wr := List.filterMap (fun i : Nat => (w_X12_heap h_t r_t F13 cI a_rows a_refused a_tape a_memory1 a_wait1)[i]?) [1, 2, 4, 5]) (z_rV (rest := []) hx hb hml hown hcx hl.1 (c_X12_go l D cI h_t r_t F13 a_tape u14 hu14 _) tl_X12_274 ti_X12_go tz_X12_go tn_X12 tc_X12_go tm_X12_go rfl rfl ⟨Nat.le_of_ble_eq_true rfl, Nat.le_of_ble_eq_true rfl⟩ hK hX hS hA hP hD [0, 3] rfl rfl 0 rfl rfl rfl rfl (Nat.le_of_ble_eq_true rfl) dX12_heap_109 ⟨Nat.zero_le _, Nat.zero_le _⟩) hP hD hS hA [0, 3] [1, 2, 4, 5] [4, 0, 1, 5, 2, 3] rfl rfl rfl (by decide) rfl rfl (fun H locs hP hD hS => ?_)
    exact L112 fuelN u14 a_rows a_refused a_memory1 a_wait1 _ _ _ hf hP hD hS (lv_sub hl [0] rfl)
  have L39 : ∀ (n39 : Nat) (x2 : Int32) (F_t : Nat → Int32) (a_rows : Nat → Int32) (a_refused : Nat → Int32) (a_memory1 : Nat → Int32) (a_wait1 : Nat → Int32) (H : Heap) (locs : List Loc) (ls : Array Slot), m_X12_heap_w39 a_tape p1 (m_X12_heap_j58 a_tape p1) n39 x2 F_t a_rows a_refused a_memory1 a_wait1 = some Rr → va_P D vwCl (w_X12_heap h_t r_t F_t cI a_rows a_refused a_tape a_memory1 a_wait1) H → va_D A (w_X12_heap h_t r_t F_t cI a_rows a_refused a_tape a_memory1 a_wait1) → va_S A s.heap H locs → lv_has ls 3 [(0, .ref h_t), (1, .int p1), (2, .int x2)] → W p l e rm_X12_heap s m args below meth c H locs 0 0 Q (F0 m 39 ls []) := by
    intro n39
    induction n39 with
    | zero => intro x2 F_t a_rows a_refused a_memory1 a_wait1 H locs ls hf; cases (show (none : Option _) = some Rr from hf)
    | succ n39 ih39 =>
      intro x2 F_t a_rows a_refused a_memory1 a_wait1 H locs ls hf hP hD hS hl
      have hf := (m_X12_heap_w39.eq_2 _ _ _ _ _ _ _ _ _ _).symm.trans hf
      refine lv_iload_n hx hb dX12_heap_39 rfl (lv_at hl 2 rfl) ?_
      refine lv_bipush (v := 64) hx hb dX12_heap_40 (by decide) ?_
      refine z_icmp_ge (tgt := 58) hx hb dX12_heap_42 (by decide) hf (fun hf => ?_) (fun hf => ?_)
      · exact L58 F_t a_rows a_refused a_memory1 a_wait1 _ _ _ hf hP hD hS (lv_sub hl [0, 1] rfl)
      · refine lv_aload_n hx hb dX12_heap_45 rfl (lv_at hl 0 rfl) ?_
        refine z_get (ci := 12) (C := RX12) (T := TX12) (N := 51) (v := .ref (r_t 39)) hx hb hts inT_X12 hown hK hP 0 rfl rfl 39 (by decide) tf_X12_51 rfl dX12_heap_46 ?_
        refine lv_iload_n hx hb dX12_heap_49 rfl (lv_at hl 2 rfl) ?_
        refine lv_iconst (v := 0) hx hb dX12_heap_50 (by decide) ?_
        refine z_iast hx hb hK hP hD hS 4 rfl (fun z => w_X12_heap h_t r_t F_t cI a_rows a_refused a_tape z a_wait1) (fun _ => rfl) dX12_heap_51 hf (fun a35 H locs hf hP hD hS => ?_)
        refine z_iinc (k0 := 2) (fun z => [(2, .int z), (0, .ref h_t), (1, .int p1)]) hx hb dX12_heap_52 hl rfl (by decide) (by decide) (fun _ => rfl) hf (fun v36 ls hf hl => ?_)
        refine lv_goto (tgt := 39) hx hb dX12_heap_55 (by decide) ?_
        exact ih39 v36 F_t a_rows a_refused a35 a_wait1 _ _ _ hf hP hD hS (lv_sub hl [1, 2, 0] rfl)
  have L23 : ∀ (s1 : Int32) (F_t : Nat → Int32) (a_rows : Nat → Int32) (a_refused : Nat → Int32) (a_memory1 : Nat → Int32) (a_wait1 : Nat → Int32) (H : Heap) (locs : List Loc) (ls : Array Slot), m_X12_heap_j23 a_tape p1 s1 F_t a_rows a_refused a_memory1 a_wait1 = some Rr → va_P D vwCl (w_X12_heap h_t r_t F_t cI a_rows a_refused a_tape a_memory1 a_wait1) H → va_D A (w_X12_heap h_t r_t F_t cI a_rows a_refused a_tape a_memory1 a_wait1) → va_S A s.heap H locs → lv_has ls 3 [(0, .ref h_t), (1, .int p1)] → W p l e rm_X12_heap s m args below meth c H locs 0 0 Q (F0 m 23 ls [.int s1, .ref h_t]) := by
    intro s1 F_t a_rows a_refused a_memory1 a_wait1 H locs ls hf hP hD hS hl
    have hf := (m_X12_heap_j23.eq_1 _ _ _ _ _ _ _ _).symm.trans hf
    refine lv_iconst (v := 1) hx hb dX12_heap_23 (by decide) ?_
    obtain ⟨u2, hu2, hf⟩ := bd_some hf
    refine z_ci (ws1 := w_X12_heap h_t r_t u2.2 cI a_rows a_refused a_tape a_memory1 a_wait1) (wr := List.filterMap (fun i : Nat => (w_X12_heap h_t r_t F_t cI a_rows a_refused a_tape a_memory1 a_wait1)[i]?) [1, 2, 3, 4, 5]) (z_rV (rest := []) hx hb hml hown hcx hl.1 (c_X12_right l D cI h_t r_t F_t s1 1 u2 hu2 _) tl_X12_321 ti_X12_right tz_X12_right tn_X12 tc_X12_right tm_X12_right rfl rfl ⟨Nat.le_of_ble_eq_true rfl, Nat.le_of_ble_eq_true rfl⟩ hK hX hS hA hP hD [0] rfl rfl 0 rfl rfl rfl rfl (Nat.le_of_ble_eq_true rfl) dX12_heap_24 ⟨Nat.zero_le _, Nat.zero_le _⟩) hP hD hS hA [0] [1, 2, 3, 4, 5] [5, 0, 1, 2, 3, 4] rfl rfl rfl (by decide) rfl rfl (fun H locs hP hD hS => ?_)
    refine z_if_ne (tgt := 32) hx hb dX12_heap_27 (by decide) hf (fun hf => ?_) (fun hf => ?_)
    · refine lv_aload_n hx hb dX12_heap_32 rfl (lv_at hl 0 rfl) ?_
      refine lv_iconst (v := 0) hx hb dX12_heap_33 (by decide) ?_
      refine z_put (ci := 12) (C := RX12) (T := TX12) (N := 51) hx hb hts inT_X12 tyX12 tyX12_ok nmX12 hown hK hP hD hS 0 rfl rfl 14 (by decide) tf_X12_318 rfl (by decide +kernel) (Nat.le_of_ble_eq_true rfl) (o_X12 r_t) (o_X12_s14 _ _ _) (fun z => w_X12_heap h_t r_t z cI a_rows a_refused a_tape a_memory1 a_wait1) (fun _ => rfl) dX12_heap_34 hf (fun F3 H locs hf hP hD hS => ?_)
      refine lv_iconst (v := 0) hx hb dX12_heap_37 (by decide) ?_
      refine lv_istore_n (lv' := [(2, .int 0), (0, .ref h_t), (1, .int p1)]) hx hb dX12_heap_38 rfl hl (by decide) rfl (fun ls hl => ?_)
      exact L39 fuelN 0 F3 a_rows a_refused a_memory1 a_wait1 _ _ _ hf hP hD hS (lv_sub hl [1, 2, 0] rfl)
    · refine lv_iconst (v := 0) hx hb dX12_heap_30 (by decide) ?_
      exact hret (0, u2.2, a_rows, a_refused, a_memory1, a_wait1) _ _ _ _ hf hP hD hS dX12_heap_31
  have L22 : ∀ (F_t : Nat → Int32) (a_rows : Nat → Int32) (a_refused : Nat → Int32) (a_memory1 : Nat → Int32) (a_wait1 : Nat → Int32) (H : Heap) (locs : List Loc) (ls : Array Slot), m_X12_heap_j22 a_tape p1 F_t a_rows a_refused a_memory1 a_wait1 = some Rr → va_P D vwCl (w_X12_heap h_t r_t F_t cI a_rows a_refused a_tape a_memory1 a_wait1) H → va_D A (w_X12_heap h_t r_t F_t cI a_rows a_refused a_tape a_memory1 a_wait1) → va_S A s.heap H locs → lv_has ls 3 [(0, .ref h_t), (1, .int p1)] → W p l e rm_X12_heap s m args below meth c H locs 0 0 Q (F0 m 22 ls [.ref h_t]) := by
    intro F_t a_rows a_refused a_memory1 a_wait1 H locs ls hf hP hD hS hl
    have hf := (m_X12_heap_j22.eq_1 _ _ _ _ _ _ _).symm.trans hf
    refine lv_iconst (v := 0) hx hb dX12_heap_22 (by decide) ?_
    exact L23 0 F_t a_rows a_refused a_memory1 a_wait1 _ _ _ hf hP hD hS (lv_sub hl [0, 1] rfl)
  refine lv_aload_n hx hb dX12_heap_0 rfl (lv_at hl 0 rfl) ?_
  refine lv_iconst (v := 0) hx hb dX12_heap_1 (by decide) ?_
  refine z_put (ci := 12) (C := RX12) (T := TX12) (N := 51) hx hb hts inT_X12 tyX12 tyX12_ok nmX12 hown hK hP hD hS 0 rfl rfl 4 (by decide) tf_X12_63 rfl (by decide +kernel) (Nat.le_of_ble_eq_true rfl) (o_X12 r_t) (o_X12_s4 _ _ _) (fun z => w_X12_heap h_t r_t z cI a_rows a_refused a_tape a_memory1 a_wait1) (fun _ => rfl) dX12_heap_2 hf (fun F1 H locs hf hP hD hS => ?_)
  refine lv_aload_n hx hb dX12_heap_5 rfl (lv_at hl 0 rfl) ?_
  refine lv_iload_n hx hb dX12_heap_6 rfl (lv_at hl 1 rfl) ?_
  refine z_if_lt (tgt := 22) hx hb dX12_heap_7 (by decide) hf (fun hf => ?_) (fun hf => ?_)
  · exact L22 F1 a_rows a_refused a_memory1 a_wait1 _ _ _ hf hP hD hS (lv_sub hl [0, 1] rfl)
  · refine lv_iload_n hx hb dX12_heap_10 rfl (lv_at hl 1 rfl) ?_
    refine lv_aload_n hx hb dX12_heap_11 rfl (lv_at hl 0 rfl) ?_
    refine z_get (ci := 12) (C := RX12) (T := TX12) (N := 51) (v := .int (F1 14)) hx hb hts inT_X12 hown hK hP 0 rfl rfl 14 (by decide) tf_X12_318 rfl dX12_heap_12 ?_
    refine z_icmp_gt (tgt := 22) hx hb dX12_heap_15 (by decide) hf (fun hf => ?_) (fun hf => ?_)
    · exact L22 F1 a_rows a_refused a_memory1 a_wait1 _ _ _ hf hP hD hS (lv_sub hl [0, 1] rfl)
    · refine lv_iconst (v := 1) hx hb dX12_heap_18 (by decide) ?_
      refine lv_goto (tgt := 23) hx hb dX12_heap_19 (by decide) ?_
      exact L23 1 F1 a_rows a_refused a_memory1 a_wait1 _ _ _ hf hP hD hS (lv_sub hl [0, 1] rfl)
abbrev w_X12_fault (h_t : Nat) (r_t : Nat → Nat) (F_t : Nat → Int32) (cI : ClassId) : va_W := [(h_t, .inr (12, o_X12 r_t F_t))]
abbrev rm_X12_fault : Room := { frames := 0, cells := 0, slots := 0, locals := 0 }
def m_X12_fault (F_t : Nat → Int32) : Option (Int32 × (Nat → Int32)) :=
  nm (upd F_t 4 0) fun F1 =>
  some ((F1 15), F1)
set_option maxHeartbeats 4000000 in
set_option maxRecDepth 100000 in
theorem c_X12_fault (l : Launch) (D : va_G) (cI : ClassId) (h_t : Nat) (r_t : Nat → Nat) (F_t : Nat → Int32) (Rr : Int32 × (Nat → Int32)) (hf : m_X12_fault F_t = some Rr) : CTi l yX12_fault (Cond.code yX12_fault cX12_fault 1 (some .int)) rm_X12_fault D cI [.ref h_t] (w_X12_fault h_t r_t F_t cI) Rr.1 (w_X12_fault h_t r_t Rr.2 cI) := by
  refine z_begin_i (own := RX12) (ρ := Int32 × (Nat → Int32)) (fun u => w_X12_fault h_t r_t u.2 cI) (fun u => u.1) (by decide +kernel) rfl (Nat.le_of_ble_eq_true rfl) ?_
  intro p e s m args below meth c ls Q A hx hb hml hts hcx hown hK hX hA hP hD hS hl hret
  have hl : lv_has ls 1 [(0, .ref h_t)] := hl
  have hf := (m_X12_fault.eq_1 _).symm.trans hf
  refine lv_aload_n hx hb dX12_fault_0 rfl (lv_at hl 0 rfl) ?_
  refine lv_iconst (v := 0) hx hb dX12_fault_1 (by decide) ?_
  refine z_put (ci := 12) (C := RX12) (T := TX12) (N := 51) hx hb hts inT_X12 tyX12 tyX12_ok nmX12 hown hK hP hD hS 0 rfl rfl 4 (by decide) tf_X12_63 rfl (by decide +kernel) (Nat.le_of_ble_eq_true rfl) (o_X12 r_t) (o_X12_s4 _ _ _) (fun z => w_X12_fault h_t r_t z cI) (fun _ => rfl) dX12_fault_2 hf (fun F1 H locs hf hP hD hS => ?_)
  refine lv_aload_n hx hb dX12_fault_5 rfl (lv_at hl 0 rfl) ?_
  refine z_get (ci := 12) (C := RX12) (T := TX12) (N := 51) (v := .int (F1 15)) hx hb hts inT_X12 hown hK hP 0 rfl rfl 15 (by decide) tf_X12_26 rfl dX12_fault_6 ?_
  exact hret ((F1 15), F1) _ _ _ _ hf hP hD hS dX12_fault_9
abbrev w_X12_pending (h_t : Nat) (r_t : Nat → Nat) (F_t : Nat → Int32) (cI : ClassId) (a_rows : Nat → Int32) : va_W := [(h_t, .inr (12, o_X12 r_t F_t)), ((r_t 0), .inl (cI, 66100, .inl a_rows))]
abbrev rm_X12_pending : Room := { frames := 0, cells := 0, slots := 0, locals := 0 }
def m_X12_pending_w4 (a_rows : Nat → Int32) : Nat → Int32 → Int32 → Option (Int32)
  | 0, _, _ => none
  | n4 + 1, x1, x2 =>
    if 16 ≤ x2 then (
    some x1)
    else (
    rd a_rows 66100 (64 + x2) fun y1 =>
    nm (x1 + y1) fun v2 =>
    nm (x2 + 1) fun v3 =>
    m_X12_pending_w4 a_rows n4 v2 v3)
def m_X12_pending (a_rows : Nat → Int32) : Option (Int32) :=
  m_X12_pending_w4 a_rows fuelN 0 0
set_option maxHeartbeats 4000000 in
set_option maxRecDepth 100000 in
theorem c_X12_pending (l : Launch) (D : va_G) (cI : ClassId) (h_t : Nat) (r_t : Nat → Nat) (F_t : Nat → Int32) (a_rows : Nat → Int32) (Rr : Int32) (hf : m_X12_pending a_rows = some Rr) : CTi l yX12_pending (Cond.code yX12_pending cX12_pending 3 (some .int)) rm_X12_pending D cI [.ref h_t] (w_X12_pending h_t r_t F_t cI a_rows) Rr (w_X12_pending h_t r_t F_t cI a_rows) := by
  refine z_begin_i (own := RX12) (ρ := Int32) (fun u => w_X12_pending h_t r_t F_t cI a_rows) (fun u => u) (by decide +kernel) rfl (Nat.le_of_ble_eq_true rfl) ?_
  intro p e s m args below meth c ls Q A hx hb hml hts hcx hown hK hX hA hP hD hS hl hret
  have hl : lv_has ls 3 [(0, .ref h_t)] := hl
  have hf := (m_X12_pending.eq_1 _).symm.trans hf
  have L4 : ∀ (n4 : Nat) (x1 : Int32) (x2 : Int32) (H : Heap) (locs : List Loc) (ls : Array Slot), m_X12_pending_w4 a_rows n4 x1 x2 = some Rr → va_P D vwCl (w_X12_pending h_t r_t F_t cI a_rows) H → va_D A (w_X12_pending h_t r_t F_t cI a_rows) → va_S A s.heap H locs → lv_has ls 3 [(0, .ref h_t), (1, .int x1), (2, .int x2)] → W p l e rm_X12_pending s m args below meth c H locs 0 0 Q (F0 m 4 ls []) := by
    intro n4
    induction n4 with
    | zero => intro x1 x2 H locs ls hf; cases (show (none : Option _) = some Rr from hf)
    | succ n4 ih4 =>
      intro x1 x2 H locs ls hf hP hD hS hl
      have hf := (m_X12_pending_w4.eq_2 _ _ _ _).symm.trans hf
      refine lv_iload_n hx hb dX12_pending_4 rfl (lv_at hl 2 rfl) ?_
      refine lv_bipush (v := 16) hx hb dX12_pending_5 (by decide) ?_
      refine z_icmp_ge (tgt := 28) hx hb dX12_pending_7 (by decide) hf (fun hf => ?_) (fun hf => ?_)
      · refine lv_iload_n hx hb dX12_pending_28 rfl (lv_at hl 1 rfl) ?_
        exact hret x1 _ _ _ _ hf hP hD hS dX12_pending_29
      · refine lv_iload_n hx hb dX12_pending_10 rfl (lv_at hl 1 rfl) ?_
        refine lv_aload_n hx hb dX12_pending_11 rfl (lv_at hl 0 rfl) ?_
        refine z_get (ci := 12) (C := RX12) (T := TX12) (N := 51) (v := .ref (r_t 0)) hx hb hts inT_X12 hown hK hP 0 rfl rfl 0 (by decide) tf_X12_10 rfl dX12_pending_12 ?_
        refine lv_bipush (v := 64) hx hb dX12_pending_15 (by decide) ?_
        refine lv_iload_n hx hb dX12_pending_17 rfl (lv_at hl 2 rfl) ?_
        refine lv_iadd hx hb dX12_pending_18 ?_
        refine z_iald hx hb hK hP 1 rfl dX12_pending_19 hf (fun y1 hf => ?_)
        refine lv_iadd hx hb dX12_pending_20 ?_
        refine z_istore_n (fun z => [(1, .int z), (0, .ref h_t), (2, .int x2)]) hx hb dX12_pending_21 rfl hl (by decide) (fun _ => rfl) hf (fun v2 ls hf hl => ?_)
        refine z_iinc (k0 := 2) (fun z => [(2, .int z), (1, .int v2), (0, .ref h_t)]) hx hb dX12_pending_22 hl rfl (by decide) (by decide) (fun _ => rfl) hf (fun v3 ls hf hl => ?_)
        refine lv_goto (tgt := 4) hx hb dX12_pending_25 (by decide) ?_
        exact ih4 v2 v3 _ _ _ hf hP hD hS (lv_sub hl [2, 1, 0] rfl)
  refine lv_iconst (v := 0) hx hb dX12_pending_0 (by decide) ?_
  refine lv_istore_n (lv' := [(1, .int 0), (0, .ref h_t)]) hx hb dX12_pending_1 rfl hl (by decide) rfl (fun ls hl => ?_)
  refine lv_iconst (v := 0) hx hb dX12_pending_2 (by decide) ?_
  refine lv_istore_n (lv' := [(2, .int 0), (1, .int 0), (0, .ref h_t)]) hx hb dX12_pending_3 rfl hl (by decide) rfl (fun ls hl => ?_)
  exact L4 fuelN 0 0 _ _ _ hf hP hD hS (lv_sub hl [2, 1, 0] rfl)
abbrev w_X12_count (h_t : Nat) (r_t : Nat → Nat) (F_t : Nat → Int32) (cI : ClassId) (a_rows : Nat → Int32) (a_refused : Nat → Int32) : va_W := [(h_t, .inr (12, o_X12 r_t F_t)), ((r_t 0), .inl (cI, 66100, .inl a_rows)), ((r_t 3), .inl (cI, 6, .inl a_refused))]
abbrev rm_X12_count : Room := { frames := 1, cells := 0, slots := 0, locals := 22 }
def m_X12_count (F_t : Nat → Int32) (a_rows : Nat → Int32) (a_refused : Nat → Int32) (p1 : Int32) : Option (Int32 × (Nat → Int32)) :=
  nm (upd F_t 4 0) fun F1 =>
  bd (m_X12_within p1 0 19) fun u2 =>
  bd (m_X12_right F1 u2 1) fun u3 =>
  if u3.1 = 0 then (
  some (0, u3.2))
  else (
  if p1 = 0 then (
  rd a_rows 66100 772 fun y4 =>
  some (y4, u3.2))
  else (
  if p1 = 1 then (
  some ((u3.2 12), u3.2))
  else (
  if p1 = 2 then (
  rd a_rows 66100 773 fun y5 =>
  some (y5, u3.2))
  else (
  if p1 = 3 then (
  rd a_rows 66100 777 fun y6 =>
  some (y6, u3.2))
  else (
  if p1 = 4 then (
  rd a_rows 66100 774 fun y7 =>
  rd a_rows 66100 775 fun y8 =>
  some ((y7 - y8), u3.2))
  else (
  if p1 = 5 then (
  if p1 ≤ 16 then (
  rd a_rows 66100 ((778 + p1) - 5) fun y9 =>
  some (y9, u3.2))
  else (
  rd a_refused 6 (p1 - 17) fun y10 =>
  some (y10, u3.2)))
  else (
  if p1 = 6 then (
  if p1 ≤ 16 then (
  rd a_rows 66100 ((778 + p1) - 5) fun y11 =>
  some (y11, u3.2))
  else (
  rd a_refused 6 (p1 - 17) fun y12 =>
  some (y12, u3.2)))
  else (
  if p1 = 7 then (
  if p1 ≤ 16 then (
  rd a_rows 66100 ((778 + p1) - 5) fun y13 =>
  some (y13, u3.2))
  else (
  rd a_refused 6 (p1 - 17) fun y14 =>
  some (y14, u3.2)))
  else (
  if p1 = 8 then (
  if p1 ≤ 16 then (
  rd a_rows 66100 ((778 + p1) - 5) fun y15 =>
  some (y15, u3.2))
  else (
  rd a_refused 6 (p1 - 17) fun y16 =>
  some (y16, u3.2)))
  else (
  if p1 = 9 then (
  if p1 ≤ 16 then (
  rd a_rows 66100 ((778 + p1) - 5) fun y17 =>
  some (y17, u3.2))
  else (
  rd a_refused 6 (p1 - 17) fun y18 =>
  some (y18, u3.2)))
  else (
  if p1 = 10 then (
  if p1 ≤ 16 then (
  rd a_rows 66100 ((778 + p1) - 5) fun y19 =>
  some (y19, u3.2))
  else (
  rd a_refused 6 (p1 - 17) fun y20 =>
  some (y20, u3.2)))
  else (
  if p1 = 11 then (
  if p1 ≤ 16 then (
  rd a_rows 66100 ((778 + p1) - 5) fun y21 =>
  some (y21, u3.2))
  else (
  rd a_refused 6 (p1 - 17) fun y22 =>
  some (y22, u3.2)))
  else (
  if p1 = 12 then (
  if p1 ≤ 16 then (
  rd a_rows 66100 ((778 + p1) - 5) fun y23 =>
  some (y23, u3.2))
  else (
  rd a_refused 6 (p1 - 17) fun y24 =>
  some (y24, u3.2)))
  else (
  if p1 = 13 then (
  bd (m_X12_pending a_rows) fun u25 =>
  some (u25, u3.2))
  else (
  if p1 = 14 then (
  some ((u3.2 5), u3.2))
  else (
  if p1 = 15 then (
  some ((u3.2 7), u3.2))
  else (
  if p1 = 16 then (
  some ((u3.2 14), u3.2))
  else (
  if p1 ≤ 16 then (
  rd a_rows 66100 ((778 + p1) - 5) fun y26 =>
  some (y26, u3.2))
  else (
  rd a_refused 6 (p1 - 17) fun y27 =>
  some (y27, u3.2))))))))))))))))))))
set_option maxHeartbeats 4000000 in
set_option maxRecDepth 100000 in
theorem c_X12_count (l : Launch) (D : va_G) (cI : ClassId) (h_t : Nat) (r_t : Nat → Nat) (F_t : Nat → Int32) (a_rows : Nat → Int32) (a_refused : Nat → Int32) (p1 : Int32) (Rr : Int32 × (Nat → Int32)) (hf : m_X12_count F_t a_rows a_refused p1 = some Rr) : CTi l yX12_count (Cond.code yX12_count cX12_count 2 (some .int)) rm_X12_count D cI [.ref h_t, .int p1] (w_X12_count h_t r_t F_t cI a_rows a_refused) Rr.1 (w_X12_count h_t r_t Rr.2 cI a_rows a_refused) := by
  refine z_begin_i (own := RX12) (ρ := Int32 × (Nat → Int32)) (fun u => w_X12_count h_t r_t u.2 cI a_rows a_refused) (fun u => u.1) (by decide +kernel) rfl (Nat.le_of_ble_eq_true rfl) ?_
  intro p e s m args below meth c ls Q A hx hb hml hts hcx hown hK hX hA hP hD hS hl hret
  have hl : lv_has ls 2 [(0, .ref h_t), (1, .int p1)] := hl
  have hf := (m_X12_count.eq_1 _ _ _ _).symm.trans hf
  refine lv_aload_n hx hb dX12_count_0 rfl (lv_at hl 0 rfl) ?_
  refine lv_iconst (v := 0) hx hb dX12_count_1 (by decide) ?_
  refine z_put (ci := 12) (C := RX12) (T := TX12) (N := 51) hx hb hts inT_X12 tyX12 tyX12_ok nmX12 hown hK hP hD hS 0 rfl rfl 4 (by decide) tf_X12_63 rfl (by decide +kernel) (Nat.le_of_ble_eq_true rfl) (o_X12 r_t) (o_X12_s4 _ _ _) (fun z => w_X12_count h_t r_t z cI a_rows a_refused) (fun _ => rfl) dX12_count_2 hf (fun F1 H locs hf hP hD hS => ?_)
  refine lv_aload_n hx hb dX12_count_5 rfl (lv_at hl 0 rfl) ?_
  refine lv_iload_n hx hb dX12_count_6 rfl (lv_at hl 1 rfl) ?_
  refine lv_iconst (v := 0) hx hb dX12_count_7 (by decide) ?_
  refine lv_bipush (v := 19) hx hb dX12_count_8 (by decide) ?_
  obtain ⟨u2, hu2, hf⟩ := bd_some hf
  refine z_ci (ws1 := w_X12_count h_t r_t F1 cI a_rows a_refused) (wr := List.filterMap (fun i : Nat => (w_X12_count h_t r_t F1 cI a_rows a_refused)[i]?) [0, 1, 2]) (z_rS (rest := [.ref h_t]) hx hb hml hown hcx hl.1 (c_X12_within l D cI p1 0 19 u2 hu2 _) tl_X12_172 ts_X12_within tn_X12 tc_X12_within tm_X12_within rfl rfl ⟨Nat.le_of_ble_eq_true rfl, Nat.le_of_ble_eq_true rfl⟩ hK hX hS hA hP hD [] rfl rfl rfl rfl (Nat.le_of_ble_eq_true rfl) dX12_count_10 ⟨Nat.zero_le _, Nat.zero_le _⟩) hP hD hS hA [] [0, 1, 2] [0, 1, 2] rfl rfl rfl (by decide) rfl rfl (fun H locs hP hD hS => ?_)
  refine lv_iconst (v := 1) hx hb dX12_count_13 (by decide) ?_
  obtain ⟨u3, hu3, hf⟩ := bd_some hf
  refine z_ci (ws1 := w_X12_count h_t r_t u3.2 cI a_rows a_refused) (wr := List.filterMap (fun i : Nat => (w_X12_count h_t r_t F1 cI a_rows a_refused)[i]?) [1, 2]) (z_rV (rest := []) hx hb hml hown hcx hl.1 (c_X12_right l D cI h_t r_t F1 u2 1 u3 hu3 _) tl_X12_321 ti_X12_right tz_X12_right tn_X12 tc_X12_right tm_X12_right rfl rfl ⟨Nat.le_of_ble_eq_true rfl, Nat.le_of_ble_eq_true rfl⟩ hK hX hS hA hP hD [0] rfl rfl 0 rfl rfl rfl rfl (Nat.le_of_ble_eq_true rfl) dX12_count_14 ⟨Nat.zero_le _, Nat.zero_le _⟩) hP hD hS hA [0] [1, 2] [2, 0, 1] rfl rfl rfl (by decide) rfl rfl (fun H locs hP hD hS => ?_)
  refine z_if_ne (tgt := 22) hx hb dX12_count_17 (by decide) hf (fun hf => ?_) (fun hf => ?_)
  · refine lv_iload_n hx hb dX12_count_22 rfl (lv_at hl 1 rfl) ?_
    refine z_tabin (v := 0) (off := 81) (tgt := 104) hx hb dX12_count_23 (by decide) (by decide) (by decide) (by decide) hf (fun hf => ?_) (fun hn0 hf => ?_)
    · refine lv_aload_n hx hb dX12_count_104 rfl (lv_at hl 0 rfl) ?_
      refine z_get (ci := 12) (C := RX12) (T := TX12) (N := 51) (v := .ref (r_t 0)) hx hb hts inT_X12 hown hK hP 0 rfl rfl 0 (by decide) tf_X12_10 rfl dX12_count_105 ?_
      refine lv_sipush (v := 772) hx hb dX12_count_108 (by decide) ?_
      refine z_iald hx hb hK hP 1 rfl dX12_count_111 hf (fun y4 hf => ?_)
      exact hret (y4, u3.2) _ _ _ _ hf hP hD hS dX12_count_112
    refine z_tabin (v := 1) (off := 90) (tgt := 113) hx hb dX12_count_23 (by decide) (by decide) (by decide) (by decide) hf (fun hf => ?_) (fun hn1 hf => ?_)
    · refine lv_aload_n hx hb dX12_count_113 rfl (lv_at hl 0 rfl) ?_
      refine z_get (ci := 12) (C := RX12) (T := TX12) (N := 51) (v := .int (u3.2 12)) hx hb hts inT_X12 hown hK hP 0 rfl rfl 12 (by decide) tf_X12_147 rfl dX12_count_114 ?_
      exact hret ((u3.2 12), u3.2) _ _ _ _ hf hP hD hS dX12_count_117
    refine z_tabin (v := 2) (off := 95) (tgt := 118) hx hb dX12_count_23 (by decide) (by decide) (by decide) (by decide) hf (fun hf => ?_) (fun hn2 hf => ?_)
    · refine lv_aload_n hx hb dX12_count_118 rfl (lv_at hl 0 rfl) ?_
      refine z_get (ci := 12) (C := RX12) (T := TX12) (N := 51) (v := .ref (r_t 0)) hx hb hts inT_X12 hown hK hP 0 rfl rfl 0 (by decide) tf_X12_10 rfl dX12_count_119 ?_
      refine lv_sipush (v := 773) hx hb dX12_count_122 (by decide) ?_
      refine z_iald hx hb hK hP 1 rfl dX12_count_125 hf (fun y5 hf => ?_)
      exact hret (y5, u3.2) _ _ _ _ hf hP hD hS dX12_count_126
    refine z_tabin (v := 3) (off := 104) (tgt := 127) hx hb dX12_count_23 (by decide) (by decide) (by decide) (by decide) hf (fun hf => ?_) (fun hn3 hf => ?_)
    · refine lv_aload_n hx hb dX12_count_127 rfl (lv_at hl 0 rfl) ?_
      refine z_get (ci := 12) (C := RX12) (T := TX12) (N := 51) (v := .ref (r_t 0)) hx hb hts inT_X12 hown hK hP 0 rfl rfl 0 (by decide) tf_X12_10 rfl dX12_count_128 ?_
      refine lv_sipush (v := 777) hx hb dX12_count_131 (by decide) ?_
      refine z_iald hx hb hK hP 1 rfl dX12_count_134 hf (fun y6 hf => ?_)
      exact hret (y6, u3.2) _ _ _ _ hf hP hD hS dX12_count_135
    refine z_tabin (v := 4) (off := 113) (tgt := 136) hx hb dX12_count_23 (by decide) (by decide) (by decide) (by decide) hf (fun hf => ?_) (fun hn4 hf => ?_)
    · refine lv_aload_n hx hb dX12_count_136 rfl (lv_at hl 0 rfl) ?_
      refine z_get (ci := 12) (C := RX12) (T := TX12) (N := 51) (v := .ref (r_t 0)) hx hb hts inT_X12 hown hK hP 0 rfl rfl 0 (by decide) tf_X12_10 rfl dX12_count_137 ?_
      refine lv_sipush (v := 774) hx hb dX12_count_140 (by decide) ?_
      refine z_iald hx hb hK hP 1 rfl dX12_count_143 hf (fun y7 hf => ?_)
      refine lv_aload_n hx hb dX12_count_144 rfl (lv_at hl 0 rfl) ?_
      refine z_get (ci := 12) (C := RX12) (T := TX12) (N := 51) (v := .ref (r_t 0)) hx hb hts inT_X12 hown hK hP 0 rfl rfl 0 (by decide) tf_X12_10 rfl dX12_count_145 ?_
      refine lv_sipush (v := 775) hx hb dX12_count_148 (by decide) ?_
      refine z_iald hx hb hK hP 1 rfl dX12_count_151 hf (fun y8 hf => ?_)
      refine lv_isub hx hb dX12_count_152 ?_
      exact hret ((y7 - y8), u3.2) _ _ _ _ hf hP hD hS dX12_count_153
    refine z_tabin (v := 5) (off := 151) (tgt := 174) hx hb dX12_count_23 (by decide) (by decide) (by decide) (by decide) hf (fun hf => ?_) (fun hn5 hf => ?_)
    · refine lv_iload_n hx hb dX12_count_174 rfl (lv_at hl 1 rfl) ?_
      refine lv_bipush (v := 16) hx hb dX12_count_175 (by decide) ?_
      refine z_icmp_le (tgt := 192) hx hb dX12_count_177 (by decide) hf (fun hf => ?_) (fun hf => ?_)
      · refine lv_aload_n hx hb dX12_count_192 rfl (lv_at hl 0 rfl) ?_
        refine z_get (ci := 12) (C := RX12) (T := TX12) (N := 51) (v := .ref (r_t 0)) hx hb hts inT_X12 hown hK hP 0 rfl rfl 0 (by decide) tf_X12_10 rfl dX12_count_193 ?_
        refine lv_sipush (v := 778) hx hb dX12_count_196 (by decide) ?_
        refine lv_iload_n hx hb dX12_count_199 rfl (lv_at hl 1 rfl) ?_
        refine lv_iadd hx hb dX12_count_200 ?_
        refine lv_iconst (v := 5) hx hb dX12_count_201 (by decide) ?_
        refine lv_isub hx hb dX12_count_202 ?_
        refine z_iald hx hb hK hP 1 rfl dX12_count_203 hf (fun y9 hf => ?_)
        exact hret (y9, u3.2) _ _ _ _ hf hP hD hS dX12_count_204
      · refine lv_aload_n hx hb dX12_count_180 rfl (lv_at hl 0 rfl) ?_
        refine z_get (ci := 12) (C := RX12) (T := TX12) (N := 51) (v := .ref (r_t 3)) hx hb hts inT_X12 hown hK hP 0 rfl rfl 3 (by decide) tf_X12_20 rfl dX12_count_181 ?_
        refine lv_iload_n hx hb dX12_count_184 rfl (lv_at hl 1 rfl) ?_
        refine lv_bipush (v := 17) hx hb dX12_count_185 (by decide) ?_
        refine lv_isub hx hb dX12_count_187 ?_
        refine z_iald hx hb hK hP 2 rfl dX12_count_188 hf (fun y10 hf => ?_)
        refine lv_goto (tgt := 204) hx hb dX12_count_189 (by decide) ?_
        exact hret (y10, u3.2) _ _ _ _ hf hP hD hS dX12_count_204
    refine z_tabin (v := 6) (off := 151) (tgt := 174) hx hb dX12_count_23 (by decide) (by decide) (by decide) (by decide) hf (fun hf => ?_) (fun hn6 hf => ?_)
    · refine lv_iload_n hx hb dX12_count_174 rfl (lv_at hl 1 rfl) ?_
      refine lv_bipush (v := 16) hx hb dX12_count_175 (by decide) ?_
      refine z_icmp_le (tgt := 192) hx hb dX12_count_177 (by decide) hf (fun hf => ?_) (fun hf => ?_)
      · refine lv_aload_n hx hb dX12_count_192 rfl (lv_at hl 0 rfl) ?_
        refine z_get (ci := 12) (C := RX12) (T := TX12) (N := 51) (v := .ref (r_t 0)) hx hb hts inT_X12 hown hK hP 0 rfl rfl 0 (by decide) tf_X12_10 rfl dX12_count_193 ?_
        refine lv_sipush (v := 778) hx hb dX12_count_196 (by decide) ?_
        refine lv_iload_n hx hb dX12_count_199 rfl (lv_at hl 1 rfl) ?_
        refine lv_iadd hx hb dX12_count_200 ?_
        refine lv_iconst (v := 5) hx hb dX12_count_201 (by decide) ?_
        refine lv_isub hx hb dX12_count_202 ?_
        refine z_iald hx hb hK hP 1 rfl dX12_count_203 hf (fun y11 hf => ?_)
        exact hret (y11, u3.2) _ _ _ _ hf hP hD hS dX12_count_204
      · refine lv_aload_n hx hb dX12_count_180 rfl (lv_at hl 0 rfl) ?_
        refine z_get (ci := 12) (C := RX12) (T := TX12) (N := 51) (v := .ref (r_t 3)) hx hb hts inT_X12 hown hK hP 0 rfl rfl 3 (by decide) tf_X12_20 rfl dX12_count_181 ?_
        refine lv_iload_n hx hb dX12_count_184 rfl (lv_at hl 1 rfl) ?_
        refine lv_bipush (v := 17) hx hb dX12_count_185 (by decide) ?_
        refine lv_isub hx hb dX12_count_187 ?_
        refine z_iald hx hb hK hP 2 rfl dX12_count_188 hf (fun y12 hf => ?_)
        refine lv_goto (tgt := 204) hx hb dX12_count_189 (by decide) ?_
        exact hret (y12, u3.2) _ _ _ _ hf hP hD hS dX12_count_204
    refine z_tabin (v := 7) (off := 151) (tgt := 174) hx hb dX12_count_23 (by decide) (by decide) (by decide) (by decide) hf (fun hf => ?_) (fun hn7 hf => ?_)
    · refine lv_iload_n hx hb dX12_count_174 rfl (lv_at hl 1 rfl) ?_
      refine lv_bipush (v := 16) hx hb dX12_count_175 (by decide) ?_
      refine z_icmp_le (tgt := 192) hx hb dX12_count_177 (by decide) hf (fun hf => ?_) (fun hf => ?_)
      · refine lv_aload_n hx hb dX12_count_192 rfl (lv_at hl 0 rfl) ?_
        refine z_get (ci := 12) (C := RX12) (T := TX12) (N := 51) (v := .ref (r_t 0)) hx hb hts inT_X12 hown hK hP 0 rfl rfl 0 (by decide) tf_X12_10 rfl dX12_count_193 ?_
        refine lv_sipush (v := 778) hx hb dX12_count_196 (by decide) ?_
        refine lv_iload_n hx hb dX12_count_199 rfl (lv_at hl 1 rfl) ?_
        refine lv_iadd hx hb dX12_count_200 ?_
        refine lv_iconst (v := 5) hx hb dX12_count_201 (by decide) ?_
        refine lv_isub hx hb dX12_count_202 ?_
        refine z_iald hx hb hK hP 1 rfl dX12_count_203 hf (fun y13 hf => ?_)
        exact hret (y13, u3.2) _ _ _ _ hf hP hD hS dX12_count_204
      · refine lv_aload_n hx hb dX12_count_180 rfl (lv_at hl 0 rfl) ?_
        refine z_get (ci := 12) (C := RX12) (T := TX12) (N := 51) (v := .ref (r_t 3)) hx hb hts inT_X12 hown hK hP 0 rfl rfl 3 (by decide) tf_X12_20 rfl dX12_count_181 ?_
        refine lv_iload_n hx hb dX12_count_184 rfl (lv_at hl 1 rfl) ?_
        refine lv_bipush (v := 17) hx hb dX12_count_185 (by decide) ?_
        refine lv_isub hx hb dX12_count_187 ?_
        refine z_iald hx hb hK hP 2 rfl dX12_count_188 hf (fun y14 hf => ?_)
        refine lv_goto (tgt := 204) hx hb dX12_count_189 (by decide) ?_
        exact hret (y14, u3.2) _ _ _ _ hf hP hD hS dX12_count_204
    refine z_tabin (v := 8) (off := 151) (tgt := 174) hx hb dX12_count_23 (by decide) (by decide) (by decide) (by decide) hf (fun hf => ?_) (fun hn8 hf => ?_)
    · refine lv_iload_n hx hb dX12_count_174 rfl (lv_at hl 1 rfl) ?_
      refine lv_bipush (v := 16) hx hb dX12_count_175 (by decide) ?_
      refine z_icmp_le (tgt := 192) hx hb dX12_count_177 (by decide) hf (fun hf => ?_) (fun hf => ?_)
      · refine lv_aload_n hx hb dX12_count_192 rfl (lv_at hl 0 rfl) ?_
        refine z_get (ci := 12) (C := RX12) (T := TX12) (N := 51) (v := .ref (r_t 0)) hx hb hts inT_X12 hown hK hP 0 rfl rfl 0 (by decide) tf_X12_10 rfl dX12_count_193 ?_
        refine lv_sipush (v := 778) hx hb dX12_count_196 (by decide) ?_
        refine lv_iload_n hx hb dX12_count_199 rfl (lv_at hl 1 rfl) ?_
        refine lv_iadd hx hb dX12_count_200 ?_
        refine lv_iconst (v := 5) hx hb dX12_count_201 (by decide) ?_
        refine lv_isub hx hb dX12_count_202 ?_
        refine z_iald hx hb hK hP 1 rfl dX12_count_203 hf (fun y15 hf => ?_)
        exact hret (y15, u3.2) _ _ _ _ hf hP hD hS dX12_count_204
      · refine lv_aload_n hx hb dX12_count_180 rfl (lv_at hl 0 rfl) ?_
        refine z_get (ci := 12) (C := RX12) (T := TX12) (N := 51) (v := .ref (r_t 3)) hx hb hts inT_X12 hown hK hP 0 rfl rfl 3 (by decide) tf_X12_20 rfl dX12_count_181 ?_
        refine lv_iload_n hx hb dX12_count_184 rfl (lv_at hl 1 rfl) ?_
        refine lv_bipush (v := 17) hx hb dX12_count_185 (by decide) ?_
        refine lv_isub hx hb dX12_count_187 ?_
        refine z_iald hx hb hK hP 2 rfl dX12_count_188 hf (fun y16 hf => ?_)
        refine lv_goto (tgt := 204) hx hb dX12_count_189 (by decide) ?_
        exact hret (y16, u3.2) _ _ _ _ hf hP hD hS dX12_count_204
    refine z_tabin (v := 9) (off := 151) (tgt := 174) hx hb dX12_count_23 (by decide) (by decide) (by decide) (by decide) hf (fun hf => ?_) (fun hn9 hf => ?_)
    · refine lv_iload_n hx hb dX12_count_174 rfl (lv_at hl 1 rfl) ?_
      refine lv_bipush (v := 16) hx hb dX12_count_175 (by decide) ?_
      refine z_icmp_le (tgt := 192) hx hb dX12_count_177 (by decide) hf (fun hf => ?_) (fun hf => ?_)
      · refine lv_aload_n hx hb dX12_count_192 rfl (lv_at hl 0 rfl) ?_
        refine z_get (ci := 12) (C := RX12) (T := TX12) (N := 51) (v := .ref (r_t 0)) hx hb hts inT_X12 hown hK hP 0 rfl rfl 0 (by decide) tf_X12_10 rfl dX12_count_193 ?_
        refine lv_sipush (v := 778) hx hb dX12_count_196 (by decide) ?_
        refine lv_iload_n hx hb dX12_count_199 rfl (lv_at hl 1 rfl) ?_
        refine lv_iadd hx hb dX12_count_200 ?_
        refine lv_iconst (v := 5) hx hb dX12_count_201 (by decide) ?_
        refine lv_isub hx hb dX12_count_202 ?_
        refine z_iald hx hb hK hP 1 rfl dX12_count_203 hf (fun y17 hf => ?_)
        exact hret (y17, u3.2) _ _ _ _ hf hP hD hS dX12_count_204
      · refine lv_aload_n hx hb dX12_count_180 rfl (lv_at hl 0 rfl) ?_
        refine z_get (ci := 12) (C := RX12) (T := TX12) (N := 51) (v := .ref (r_t 3)) hx hb hts inT_X12 hown hK hP 0 rfl rfl 3 (by decide) tf_X12_20 rfl dX12_count_181 ?_
        refine lv_iload_n hx hb dX12_count_184 rfl (lv_at hl 1 rfl) ?_
        refine lv_bipush (v := 17) hx hb dX12_count_185 (by decide) ?_
        refine lv_isub hx hb dX12_count_187 ?_
        refine z_iald hx hb hK hP 2 rfl dX12_count_188 hf (fun y18 hf => ?_)
        refine lv_goto (tgt := 204) hx hb dX12_count_189 (by decide) ?_
        exact hret (y18, u3.2) _ _ _ _ hf hP hD hS dX12_count_204
    refine z_tabin (v := 10) (off := 151) (tgt := 174) hx hb dX12_count_23 (by decide) (by decide) (by decide) (by decide) hf (fun hf => ?_) (fun hn10 hf => ?_)
    · refine lv_iload_n hx hb dX12_count_174 rfl (lv_at hl 1 rfl) ?_
      refine lv_bipush (v := 16) hx hb dX12_count_175 (by decide) ?_
      refine z_icmp_le (tgt := 192) hx hb dX12_count_177 (by decide) hf (fun hf => ?_) (fun hf => ?_)
      · refine lv_aload_n hx hb dX12_count_192 rfl (lv_at hl 0 rfl) ?_
        refine z_get (ci := 12) (C := RX12) (T := TX12) (N := 51) (v := .ref (r_t 0)) hx hb hts inT_X12 hown hK hP 0 rfl rfl 0 (by decide) tf_X12_10 rfl dX12_count_193 ?_
        refine lv_sipush (v := 778) hx hb dX12_count_196 (by decide) ?_
        refine lv_iload_n hx hb dX12_count_199 rfl (lv_at hl 1 rfl) ?_
        refine lv_iadd hx hb dX12_count_200 ?_
        refine lv_iconst (v := 5) hx hb dX12_count_201 (by decide) ?_
        refine lv_isub hx hb dX12_count_202 ?_
        refine z_iald hx hb hK hP 1 rfl dX12_count_203 hf (fun y19 hf => ?_)
        exact hret (y19, u3.2) _ _ _ _ hf hP hD hS dX12_count_204
      · refine lv_aload_n hx hb dX12_count_180 rfl (lv_at hl 0 rfl) ?_
        refine z_get (ci := 12) (C := RX12) (T := TX12) (N := 51) (v := .ref (r_t 3)) hx hb hts inT_X12 hown hK hP 0 rfl rfl 3 (by decide) tf_X12_20 rfl dX12_count_181 ?_
        refine lv_iload_n hx hb dX12_count_184 rfl (lv_at hl 1 rfl) ?_
        refine lv_bipush (v := 17) hx hb dX12_count_185 (by decide) ?_
        refine lv_isub hx hb dX12_count_187 ?_
        refine z_iald hx hb hK hP 2 rfl dX12_count_188 hf (fun y20 hf => ?_)
        refine lv_goto (tgt := 204) hx hb dX12_count_189 (by decide) ?_
        exact hret (y20, u3.2) _ _ _ _ hf hP hD hS dX12_count_204
    refine z_tabin (v := 11) (off := 151) (tgt := 174) hx hb dX12_count_23 (by decide) (by decide) (by decide) (by decide) hf (fun hf => ?_) (fun hn11 hf => ?_)
    · refine lv_iload_n hx hb dX12_count_174 rfl (lv_at hl 1 rfl) ?_
      refine lv_bipush (v := 16) hx hb dX12_count_175 (by decide) ?_
      refine z_icmp_le (tgt := 192) hx hb dX12_count_177 (by decide) hf (fun hf => ?_) (fun hf => ?_)
      · refine lv_aload_n hx hb dX12_count_192 rfl (lv_at hl 0 rfl) ?_
        refine z_get (ci := 12) (C := RX12) (T := TX12) (N := 51) (v := .ref (r_t 0)) hx hb hts inT_X12 hown hK hP 0 rfl rfl 0 (by decide) tf_X12_10 rfl dX12_count_193 ?_
        refine lv_sipush (v := 778) hx hb dX12_count_196 (by decide) ?_
        refine lv_iload_n hx hb dX12_count_199 rfl (lv_at hl 1 rfl) ?_
        refine lv_iadd hx hb dX12_count_200 ?_
        refine lv_iconst (v := 5) hx hb dX12_count_201 (by decide) ?_
        refine lv_isub hx hb dX12_count_202 ?_
        refine z_iald hx hb hK hP 1 rfl dX12_count_203 hf (fun y21 hf => ?_)
        exact hret (y21, u3.2) _ _ _ _ hf hP hD hS dX12_count_204
      · refine lv_aload_n hx hb dX12_count_180 rfl (lv_at hl 0 rfl) ?_
        refine z_get (ci := 12) (C := RX12) (T := TX12) (N := 51) (v := .ref (r_t 3)) hx hb hts inT_X12 hown hK hP 0 rfl rfl 3 (by decide) tf_X12_20 rfl dX12_count_181 ?_
        refine lv_iload_n hx hb dX12_count_184 rfl (lv_at hl 1 rfl) ?_
        refine lv_bipush (v := 17) hx hb dX12_count_185 (by decide) ?_
        refine lv_isub hx hb dX12_count_187 ?_
        refine z_iald hx hb hK hP 2 rfl dX12_count_188 hf (fun y22 hf => ?_)
        refine lv_goto (tgt := 204) hx hb dX12_count_189 (by decide) ?_
        exact hret (y22, u3.2) _ _ _ _ hf hP hD hS dX12_count_204
    refine z_tabin (v := 12) (off := 151) (tgt := 174) hx hb dX12_count_23 (by decide) (by decide) (by decide) (by decide) hf (fun hf => ?_) (fun hn12 hf => ?_)
    · refine lv_iload_n hx hb dX12_count_174 rfl (lv_at hl 1 rfl) ?_
      refine lv_bipush (v := 16) hx hb dX12_count_175 (by decide) ?_
      refine z_icmp_le (tgt := 192) hx hb dX12_count_177 (by decide) hf (fun hf => ?_) (fun hf => ?_)
      · refine lv_aload_n hx hb dX12_count_192 rfl (lv_at hl 0 rfl) ?_
        refine z_get (ci := 12) (C := RX12) (T := TX12) (N := 51) (v := .ref (r_t 0)) hx hb hts inT_X12 hown hK hP 0 rfl rfl 0 (by decide) tf_X12_10 rfl dX12_count_193 ?_
        refine lv_sipush (v := 778) hx hb dX12_count_196 (by decide) ?_
        refine lv_iload_n hx hb dX12_count_199 rfl (lv_at hl 1 rfl) ?_
        refine lv_iadd hx hb dX12_count_200 ?_
        refine lv_iconst (v := 5) hx hb dX12_count_201 (by decide) ?_
        refine lv_isub hx hb dX12_count_202 ?_
        refine z_iald hx hb hK hP 1 rfl dX12_count_203 hf (fun y23 hf => ?_)
        exact hret (y23, u3.2) _ _ _ _ hf hP hD hS dX12_count_204
      · refine lv_aload_n hx hb dX12_count_180 rfl (lv_at hl 0 rfl) ?_
        refine z_get (ci := 12) (C := RX12) (T := TX12) (N := 51) (v := .ref (r_t 3)) hx hb hts inT_X12 hown hK hP 0 rfl rfl 3 (by decide) tf_X12_20 rfl dX12_count_181 ?_
        refine lv_iload_n hx hb dX12_count_184 rfl (lv_at hl 1 rfl) ?_
        refine lv_bipush (v := 17) hx hb dX12_count_185 (by decide) ?_
        refine lv_isub hx hb dX12_count_187 ?_
        refine z_iald hx hb hK hP 2 rfl dX12_count_188 hf (fun y24 hf => ?_)
        refine lv_goto (tgt := 204) hx hb dX12_count_189 (by decide) ?_
        exact hret (y24, u3.2) _ _ _ _ hf hP hD hS dX12_count_204
    refine z_tabin (v := 13) (off := 131) (tgt := 154) hx hb dX12_count_23 (by decide) (by decide) (by decide) (by decide) hf (fun hf => ?_) (fun hn13 hf => ?_)
    · refine lv_aload_n hx hb dX12_count_154 rfl (lv_at hl 0 rfl) ?_
      obtain ⟨u25, hu25, hf⟩ := bd_some hf
      refine z_ci (ws1 := w_X12_count h_t r_t u3.2 cI a_rows a_refused) (wr := List.filterMap (fun i : Nat => (w_X12_count h_t r_t u3.2 cI a_rows a_refused)[i]?) [2]) (z_rV (rest := []) hx hb hml hown hcx hl.1 (c_X12_pending l D cI h_t r_t u3.2 a_rows u25 hu25 _) tl_X12_339 ti_X12_pending tz_X12_pending tn_X12 tc_X12_pending tm_X12_pending rfl rfl ⟨Nat.le_of_ble_eq_true rfl, Nat.le_of_ble_eq_true rfl⟩ hK hX hS hA hP hD [0, 1] rfl rfl 0 rfl rfl rfl rfl (Nat.le_of_ble_eq_true rfl) dX12_count_155 ⟨Nat.zero_le _, Nat.zero_le _⟩) hP hD hS hA [0, 1] [2] [1, 2, 0] rfl rfl rfl (by decide) rfl rfl (fun H locs hP hD hS => ?_)
      exact hret (u25, u3.2) _ _ _ _ hf hP hD hS dX12_count_158
    refine z_tabin (v := 14) (off := 136) (tgt := 159) hx hb dX12_count_23 (by decide) (by decide) (by decide) (by decide) hf (fun hf => ?_) (fun hn14 hf => ?_)
    · refine lv_aload_n hx hb dX12_count_159 rfl (lv_at hl 0 rfl) ?_
      refine z_get (ci := 12) (C := RX12) (T := TX12) (N := 51) (v := .int (u3.2 5)) hx hb hts inT_X12 hown hK hP 0 rfl rfl 5 (by decide) tf_X12_336 rfl dX12_count_160 ?_
      exact hret ((u3.2 5), u3.2) _ _ _ _ hf hP hD hS dX12_count_163
    refine z_tabin (v := 15) (off := 141) (tgt := 164) hx hb dX12_count_23 (by decide) (by decide) (by decide) (by decide) hf (fun hf => ?_) (fun hn15 hf => ?_)
    · refine lv_aload_n hx hb dX12_count_164 rfl (lv_at hl 0 rfl) ?_
      refine z_get (ci := 12) (C := RX12) (T := TX12) (N := 51) (v := .int (u3.2 7)) hx hb hts inT_X12 hown hK hP 0 rfl rfl 7 (by decide) tf_X12_330 rfl dX12_count_165 ?_
      exact hret ((u3.2 7), u3.2) _ _ _ _ hf hP hD hS dX12_count_168
    refine z_tabin (v := 16) (off := 146) (tgt := 169) hx hb dX12_count_23 (by decide) (by decide) (by decide) (by decide) hf (fun hf => ?_) (fun hn16 hf => ?_)
    · refine lv_aload_n hx hb dX12_count_169 rfl (lv_at hl 0 rfl) ?_
      refine z_get (ci := 12) (C := RX12) (T := TX12) (N := 51) (v := .int (u3.2 14)) hx hb hts inT_X12 hown hK hP 0 rfl rfl 14 (by decide) tf_X12_318 rfl dX12_count_170 ?_
      exact hret ((u3.2 14), u3.2) _ _ _ _ hf hP hD hS dX12_count_173
    refine z_tabout (tgt := 174) hx hb dX12_count_23 (fun i h1 h2 => by rcases (show i = 0 ∨ i = 1 ∨ i = 2 ∨ i = 3 ∨ i = 4 ∨ i = 5 ∨ i = 6 ∨ i = 7 ∨ i = 8 ∨ i = 9 ∨ i = 10 ∨ i = 11 ∨ i = 12 ∨ i = 13 ∨ i = 14 ∨ i = 15 ∨ i = 16 by omega) with rfl | rfl | rfl | rfl | rfl | rfl | rfl | rfl | rfl | rfl | rfl | rfl | rfl | rfl | rfl | rfl | rfl <;> first | exact hn0 | exact hn1 | exact hn2 | exact hn3 | exact hn4 | exact hn5 | exact hn6 | exact hn7 | exact hn8 | exact hn9 | exact hn10 | exact hn11 | exact hn12 | exact hn13 | exact hn14 | exact hn15 | exact hn16) (by decide) ?_
    refine lv_iload_n hx hb dX12_count_174 rfl (lv_at hl 1 rfl) ?_
    refine lv_bipush (v := 16) hx hb dX12_count_175 (by decide) ?_
    refine z_icmp_le (tgt := 192) hx hb dX12_count_177 (by decide) hf (fun hf => ?_) (fun hf => ?_)
    · refine lv_aload_n hx hb dX12_count_192 rfl (lv_at hl 0 rfl) ?_
      refine z_get (ci := 12) (C := RX12) (T := TX12) (N := 51) (v := .ref (r_t 0)) hx hb hts inT_X12 hown hK hP 0 rfl rfl 0 (by decide) tf_X12_10 rfl dX12_count_193 ?_
      refine lv_sipush (v := 778) hx hb dX12_count_196 (by decide) ?_
      refine lv_iload_n hx hb dX12_count_199 rfl (lv_at hl 1 rfl) ?_
      refine lv_iadd hx hb dX12_count_200 ?_
      refine lv_iconst (v := 5) hx hb dX12_count_201 (by decide) ?_
      refine lv_isub hx hb dX12_count_202 ?_
      refine z_iald hx hb hK hP 1 rfl dX12_count_203 hf (fun y26 hf => ?_)
      exact hret (y26, u3.2) _ _ _ _ hf hP hD hS dX12_count_204
    · refine lv_aload_n hx hb dX12_count_180 rfl (lv_at hl 0 rfl) ?_
      refine z_get (ci := 12) (C := RX12) (T := TX12) (N := 51) (v := .ref (r_t 3)) hx hb hts inT_X12 hown hK hP 0 rfl rfl 3 (by decide) tf_X12_20 rfl dX12_count_181 ?_
      refine lv_iload_n hx hb dX12_count_184 rfl (lv_at hl 1 rfl) ?_
      refine lv_bipush (v := 17) hx hb dX12_count_185 (by decide) ?_
      refine lv_isub hx hb dX12_count_187 ?_
      refine z_iald hx hb hK hP 2 rfl dX12_count_188 hf (fun y27 hf => ?_)
      refine lv_goto (tgt := 204) hx hb dX12_count_189 (by decide) ?_
      exact hret (y27, u3.2) _ _ _ _ hf hP hD hS dX12_count_204
  · refine lv_iconst (v := 0) hx hb dX12_count_20 (by decide) ?_
    exact hret (0, u3.2) _ _ _ _ hf hP hD hS dX12_count_21
abbrev w_X12_isWord (h_t : Nat) (r_t : Nat → Nat) (F_t : Nat → Int32) (cI : ClassId) : va_W := [(h_t, .inr (12, o_X12 r_t F_t))]
abbrev rm_X12_isWord : Room := { frames := 1, cells := 0, slots := 0, locals := 22 }
def m_X12_isWord (F_t : Nat → Int32) (p1 : Int32) : Option (Int32 × (Nat → Int32)) :=
  bd (m_X12_within p1 0 63) fun u1 =>
  bd (m_X12_right F_t u1 1) fun u2 =>
  cb u2.1 (some (u2.1, u2.2))
set_option maxHeartbeats 4000000 in
set_option maxRecDepth 100000 in
theorem c_X12_isWord (l : Launch) (D : va_G) (cI : ClassId) (h_t : Nat) (r_t : Nat → Nat) (F_t : Nat → Int32) (p1 : Int32) (Rr : Int32 × (Nat → Int32)) (hf : m_X12_isWord F_t p1 = some Rr) : CTi l yX12_isWord (Cond.code yX12_isWord cX12_isWord 2 (some .boolean)) rm_X12_isWord D cI [.ref h_t, .int p1] (w_X12_isWord h_t r_t F_t cI) Rr.1 (w_X12_isWord h_t r_t Rr.2 cI) := by
  refine z_begin_z (own := RX12) (ρ := Int32 × (Nat → Int32)) (fun u => w_X12_isWord h_t r_t u.2 cI) (fun u => u.1) (by decide +kernel) rfl (Nat.le_of_ble_eq_true rfl) ?_
  intro p e s m args below meth c ls Q A hx hb hml hts hcx hown hK hX hA hP hD hS hl hret
  have hl : lv_has ls 2 [(0, .ref h_t), (1, .int p1)] := hl
  have hf := (m_X12_isWord.eq_1 _ _).symm.trans hf
  refine lv_aload_n hx hb dX12_isWord_0 rfl (lv_at hl 0 rfl) ?_
  refine lv_iload_n hx hb dX12_isWord_1 rfl (lv_at hl 1 rfl) ?_
  refine lv_iconst (v := 0) hx hb dX12_isWord_2 (by decide) ?_
  refine lv_bipush (v := 63) hx hb dX12_isWord_3 (by decide) ?_
  obtain ⟨u1, hu1, hf⟩ := bd_some hf
  refine z_ci (ws1 := w_X12_isWord h_t r_t F_t cI) (wr := List.filterMap (fun i : Nat => (w_X12_isWord h_t r_t F_t cI)[i]?) [0]) (z_rS (rest := [.ref h_t]) hx hb hml hown hcx hl.1 (c_X12_within l D cI p1 0 63 u1 hu1 _) tl_X12_172 ts_X12_within tn_X12 tc_X12_within tm_X12_within rfl rfl ⟨Nat.le_of_ble_eq_true rfl, Nat.le_of_ble_eq_true rfl⟩ hK hX hS hA hP hD [] rfl rfl rfl rfl (Nat.le_of_ble_eq_true rfl) dX12_isWord_5 ⟨Nat.zero_le _, Nat.zero_le _⟩) hP hD hS hA [] [0] [0] rfl rfl rfl (by decide) rfl rfl (fun H locs hP hD hS => ?_)
  refine lv_iconst (v := 1) hx hb dX12_isWord_8 (by decide) ?_
  obtain ⟨u2, hu2, hf⟩ := bd_some hf
  refine z_ci (ws1 := w_X12_isWord h_t r_t u2.2 cI) (wr := List.filterMap (fun i : Nat => (w_X12_isWord h_t r_t F_t cI)[i]?) []) (z_rV (rest := []) hx hb hml hown hcx hl.1 (c_X12_right l D cI h_t r_t F_t u1 1 u2 hu2 _) tl_X12_321 ti_X12_right tz_X12_right tn_X12 tc_X12_right tm_X12_right rfl rfl ⟨Nat.le_of_ble_eq_true rfl, Nat.le_of_ble_eq_true rfl⟩ hK hX hS hA hP hD [0] rfl rfl 0 rfl rfl rfl rfl (Nat.le_of_ble_eq_true rfl) dX12_isWord_9 ⟨Nat.zero_le _, Nat.zero_le _⟩) hP hD hS hA [0] [] [0] rfl rfl rfl (by decide) rfl rfl (fun H locs hP hD hS => ?_)
  obtain ⟨h01, hf⟩ := cb_some hf
  exact hret (u2.1, u2.2) _ _ _ _ h01 hf hP hD hS dX12_isWord_12
abbrev w_X12_word (h_t : Nat) (r_t : Nat → Nat) (F_t : Nat → Int32) (cI : ClassId) (a_rows : Nat → Int32) : va_W := [(h_t, .inr (12, o_X12 r_t F_t)), ((r_t 0), .inl (cI, 66100, .inl a_rows))]
abbrev rm_X12_word : Room := { frames := 2, cells := 0, slots := 0, locals := 43 }
def m_X12_word (F_t : Nat → Int32) (a_rows : Nat → Int32) (p1 : Int32) (p2 : Int32) : Option (Int32 × (Nat → Int32)) :=
  nm (upd F_t 4 0) fun F1 =>
  bd (m_X12_isWord F1 p1) fun u2 =>
  if u2.1 = 0 then (
  some (0, u2.2))
  else (
  if p2 = 0 then (
  bd (m_X12_wordOf a_rows 0 p1) fun u3 =>
  some (u3, u2.2))
  else (
  rd a_rows 66100 p1 fun y4 =>
  some (y4, u2.2)))
set_option maxHeartbeats 4000000 in
set_option maxRecDepth 100000 in
theorem c_X12_word (l : Launch) (D : va_G) (cI : ClassId) (h_t : Nat) (r_t : Nat → Nat) (F_t : Nat → Int32) (a_rows : Nat → Int32) (p1 : Int32) (p2 : Int32) (Rr : Int32 × (Nat → Int32)) (hf : m_X12_word F_t a_rows p1 p2 = some Rr) : CTi l yX12_word (Cond.code yX12_word cX12_word 3 (some .int)) rm_X12_word D cI [.ref h_t, .int p1, .int p2] (w_X12_word h_t r_t F_t cI a_rows) Rr.1 (w_X12_word h_t r_t Rr.2 cI a_rows) := by
  refine z_begin_i (own := RX12) (ρ := Int32 × (Nat → Int32)) (fun u => w_X12_word h_t r_t u.2 cI a_rows) (fun u => u.1) (by decide +kernel) rfl (Nat.le_of_ble_eq_true rfl) ?_
  intro p e s m args below meth c ls Q A hx hb hml hts hcx hown hK hX hA hP hD hS hl hret
  have hl : lv_has ls 3 [(0, .ref h_t), (1, .int p1), (2, .int p2)] := hl
  have hf := (m_X12_word.eq_1 _ _ _ _).symm.trans hf
  refine lv_aload_n hx hb dX12_word_0 rfl (lv_at hl 0 rfl) ?_
  refine lv_iconst (v := 0) hx hb dX12_word_1 (by decide) ?_
  refine z_put (ci := 12) (C := RX12) (T := TX12) (N := 51) hx hb hts inT_X12 tyX12 tyX12_ok nmX12 hown hK hP hD hS 0 rfl rfl 4 (by decide) tf_X12_63 rfl (by decide +kernel) (Nat.le_of_ble_eq_true rfl) (o_X12 r_t) (o_X12_s4 _ _ _) (fun z => w_X12_word h_t r_t z cI a_rows) (fun _ => rfl) dX12_word_2 hf (fun F1 H locs hf hP hD hS => ?_)
  refine lv_aload_n hx hb dX12_word_5 rfl (lv_at hl 0 rfl) ?_
  refine lv_iload_n hx hb dX12_word_6 rfl (lv_at hl 1 rfl) ?_
  obtain ⟨u2, hu2, hf⟩ := bd_some hf
  refine z_ci (ws1 := w_X12_word h_t r_t u2.2 cI a_rows) (wr := List.filterMap (fun i : Nat => (w_X12_word h_t r_t F1 cI a_rows)[i]?) [1]) (z_rV (rest := []) hx hb hml hown hcx hl.1 (c_X12_isWord l D cI h_t r_t F1 p1 u2 hu2 _) tl_X12_342 ti_X12_isWord tz_X12_isWord tn_X12 tc_X12_isWord tm_X12_isWord rfl rfl ⟨Nat.le_of_ble_eq_true rfl, Nat.le_of_ble_eq_true rfl⟩ hK hX hS hA hP hD [0] rfl rfl 0 rfl rfl rfl rfl (Nat.le_of_ble_eq_true rfl) dX12_word_7 ⟨Nat.zero_le _, Nat.zero_le _⟩) hP hD hS hA [0] [1] [1, 0] rfl rfl rfl (by decide) rfl rfl (fun H locs hP hD hS => ?_)
  refine z_if_ne (tgt := 17) hx hb dX12_word_10 (by decide) hf (fun hf => ?_) (fun hf => ?_)
  · refine lv_iload_n hx hb dX12_word_17 rfl (lv_at hl 2 rfl) ?_
    refine z_if_eq (tgt := 30) hx hb dX12_word_18 (by decide) hf (fun hf => ?_) (fun hf => ?_)
    · refine lv_aload_n hx hb dX12_word_30 rfl (lv_at hl 0 rfl) ?_
      refine lv_iconst (v := 0) hx hb dX12_word_31 (by decide) ?_
      refine lv_iload_n hx hb dX12_word_32 rfl (lv_at hl 1 rfl) ?_
      obtain ⟨u3, hu3, hf⟩ := bd_some hf
      refine z_ci (ws1 := w_X12_word h_t r_t u2.2 cI a_rows) (wr := List.filterMap (fun i : Nat => (w_X12_word h_t r_t u2.2 cI a_rows)[i]?) []) (z_rV (rest := []) hx hb hml hown hcx hl.1 (c_X12_wordOf l D cI h_t r_t u2.2 a_rows 0 p1 u3 hu3 _) tl_X12_118 ti_X12_wordOf tz_X12_wordOf tn_X12 tc_X12_wordOf tm_X12_wordOf rfl rfl ⟨Nat.le_of_ble_eq_true rfl, Nat.le_of_ble_eq_true rfl⟩ hK hX hS hA hP hD [0, 1] rfl rfl 0 rfl rfl rfl rfl (Nat.le_of_ble_eq_true rfl) dX12_word_33 ⟨Nat.zero_le _, Nat.zero_le _⟩) hP hD hS hA [0, 1] [] [0, 1] rfl rfl rfl (by decide) rfl rfl (fun H locs hP hD hS => ?_)
      exact hret (u3, u2.2) _ _ _ _ hf hP hD hS dX12_word_36
    · refine lv_aload_n hx hb dX12_word_21 rfl (lv_at hl 0 rfl) ?_
      refine z_get (ci := 12) (C := RX12) (T := TX12) (N := 51) (v := .ref (r_t 0)) hx hb hts inT_X12 hown hK hP 0 rfl rfl 0 (by decide) tf_X12_10 rfl dX12_word_22 ?_
      refine lv_iload_n hx hb dX12_word_25 rfl (lv_at hl 1 rfl) ?_
      refine z_iald hx hb hK hP 1 rfl dX12_word_26 hf (fun y4 hf => ?_)
      refine lv_goto (tgt := 36) hx hb dX12_word_27 (by decide) ?_
      exact hret (y4, u2.2) _ _ _ _ hf hP hD hS dX12_word_36
  · refine lv_iconst (v := 0) hx hb dX12_word_13 (by decide) ?_
    refine lv_goto (tgt := 36) hx hb dX12_word_14 (by decide) ?_
    exact hret (0, u2.2) _ _ _ _ hf hP hD hS dX12_word_36
abbrev w_X12_line (h_t : Nat) (r_t : Nat → Nat) (F_t : Nat → Int32) (cI : ClassId) (a_rows : Nat → Int32) : va_W := [(h_t, .inr (12, o_X12 r_t F_t)), ((r_t 0), .inl (cI, 66100, .inl a_rows))]
abbrev rm_X12_line : Room := { frames := 1, cells := 0, slots := 0, locals := 22 }
def m_X12_line_j76 (a_rows : Nat → Int32) (p1 : Int32) (p2 : Int32) (s1 : Int32) (F_t : Nat → Int32) : Option (Int32 × (Nat → Int32)) :=
  bd (m_X12_right F_t s1 1) fun u4 =>
  if u4.1 = 0 then (
  some (0, u4.2))
  else (
  rd a_rows 66100 ((96 + (12 * p1)) + (2 * p2)) fun y5 =>
  rd a_rows 66100 (((96 + (12 * p1)) + (2 * p2)) + 1) fun y6 =>
  some (((100 * y5) + y6), u4.2))
def m_X12_line_j75 (a_rows : Nat → Int32) (p1 : Int32) (p2 : Int32) (F_t : Nat → Int32) : Option (Int32 × (Nat → Int32)) :=
  m_X12_line_j76 a_rows p1 p2 0 F_t
def m_X12_line (F_t : Nat → Int32) (a_rows : Nat → Int32) (p1 : Int32) (p2 : Int32) : Option (Int32 × (Nat → Int32)) :=
  nm (upd F_t 4 0) fun F1 =>
  bd (m_X12_within p1 0 15) fun u2 =>
  bd (m_X12_right F1 u2 1) fun u3 =>
  if u3.1 = 0 then (
  some (0, u3.2))
  else (
  if p2 = (-1) then (
  rd a_rows 66100 (64 + p1) fun y9 =>
  some (y9, u3.2))
  else (
  if p2 = (-2) then (
  rd a_rows 66100 (80 + p1) fun y8 =>
  some (y8, u3.2))
  else (
  if p2 < 0 then (
  m_X12_line_j75 a_rows p1 p2 u3.2)
  else (
  rd a_rows 66100 (64 + p1) fun y7 =>
  if y7 ≤ p2 then (
  m_X12_line_j75 a_rows p1 p2 u3.2)
  else (
  m_X12_line_j76 a_rows p1 p2 1 u3.2)))))
set_option maxHeartbeats 4000000 in
set_option maxRecDepth 100000 in
theorem c_X12_line (l : Launch) (D : va_G) (cI : ClassId) (h_t : Nat) (r_t : Nat → Nat) (F_t : Nat → Int32) (a_rows : Nat → Int32) (p1 : Int32) (p2 : Int32) (Rr : Int32 × (Nat → Int32)) (hf : m_X12_line F_t a_rows p1 p2 = some Rr) : CTi l yX12_line (Cond.code yX12_line cX12_line 3 (some .int)) rm_X12_line D cI [.ref h_t, .int p1, .int p2] (w_X12_line h_t r_t F_t cI a_rows) Rr.1 (w_X12_line h_t r_t Rr.2 cI a_rows) := by
  refine z_begin_i (own := RX12) (ρ := Int32 × (Nat → Int32)) (fun u => w_X12_line h_t r_t u.2 cI a_rows) (fun u => u.1) (by decide +kernel) rfl (Nat.le_of_ble_eq_true rfl) ?_
  intro p e s m args below meth c ls Q A hx hb hml hts hcx hown hK hX hA hP hD hS hl hret
  have hl : lv_has ls 3 [(0, .ref h_t), (1, .int p1), (2, .int p2)] := hl
  have hf := (m_X12_line.eq_1 _ _ _ _).symm.trans hf
  have L76 : ∀ (s1 : Int32) (F_t : Nat → Int32) (H : Heap) (locs : List Loc) (ls : Array Slot), m_X12_line_j76 a_rows p1 p2 s1 F_t = some Rr → va_P D vwCl (w_X12_line h_t r_t F_t cI a_rows) H → va_D A (w_X12_line h_t r_t F_t cI a_rows) → va_S A s.heap H locs → lv_has ls 3 [(0, .ref h_t), (1, .int p1), (2, .int p2)] → W p l e rm_X12_line s m args below meth c H locs 0 0 Q (F0 m 76 ls [.int s1, .ref h_t]) := by
    intro s1 F_t H locs ls hf hP hD hS hl
    have hf := (m_X12_line_j76.eq_1 _ _ _ _ _).symm.trans hf
    refine lv_iconst (v := 1) hx hb dX12_line_76 (by decide) ?_
    obtain ⟨u4, hu4, hf⟩ := bd_some hf
    refine z_ci (ws1 := w_X12_line h_t r_t u4.2 cI a_rows) (wr := List.filterMap (fun i : Nat => (w_X12_line h_t r_t F_t cI a_rows)[i]?) [1]) (z_rV (rest := []) hx hb hml hown hcx hl.1 (c_X12_right l D cI h_t r_t F_t s1 1 u4 hu4 _) tl_X12_321 ti_X12_right tz_X12_right tn_X12 tc_X12_right tm_X12_right rfl rfl ⟨Nat.le_of_ble_eq_true rfl, Nat.le_of_ble_eq_true rfl⟩ hK hX hS hA hP hD [0] rfl rfl 0 rfl rfl rfl rfl (Nat.le_of_ble_eq_true rfl) dX12_line_77 ⟨Nat.zero_le _, Nat.zero_le _⟩) hP hD hS hA [0] [1] [1, 0] rfl rfl rfl (by decide) rfl rfl (fun H locs hP hD hS => ?_)
    refine z_if_ne (tgt := 85) hx hb dX12_line_80 (by decide) hf (fun hf => ?_) (fun hf => ?_)
    · refine lv_bipush (v := 100) hx hb dX12_line_85 (by decide) ?_
      refine lv_aload_n hx hb dX12_line_87 rfl (lv_at hl 0 rfl) ?_
      refine z_get (ci := 12) (C := RX12) (T := TX12) (N := 51) (v := .ref (r_t 0)) hx hb hts inT_X12 hown hK hP 0 rfl rfl 0 (by decide) tf_X12_10 rfl dX12_line_88 ?_
      refine lv_bipush (v := 96) hx hb dX12_line_91 (by decide) ?_
      refine lv_bipush (v := 12) hx hb dX12_line_93 (by decide) ?_
      refine lv_iload_n hx hb dX12_line_95 rfl (lv_at hl 1 rfl) ?_
      refine lv_imul hx hb dX12_line_96 ?_
      refine lv_iadd hx hb dX12_line_97 ?_
      refine lv_iconst (v := 2) hx hb dX12_line_98 (by decide) ?_
      refine lv_iload_n hx hb dX12_line_99 rfl (lv_at hl 2 rfl) ?_
      refine lv_imul hx hb dX12_line_100 ?_
      refine lv_iadd hx hb dX12_line_101 ?_
      refine z_iald hx hb hK hP 1 rfl dX12_line_102 hf (fun y5 hf => ?_)
      refine lv_imul hx hb dX12_line_103 ?_
      refine lv_aload_n hx hb dX12_line_104 rfl (lv_at hl 0 rfl) ?_
      refine z_get (ci := 12) (C := RX12) (T := TX12) (N := 51) (v := .ref (r_t 0)) hx hb hts inT_X12 hown hK hP 0 rfl rfl 0 (by decide) tf_X12_10 rfl dX12_line_105 ?_
      refine lv_bipush (v := 96) hx hb dX12_line_108 (by decide) ?_
      refine lv_bipush (v := 12) hx hb dX12_line_110 (by decide) ?_
      refine lv_iload_n hx hb dX12_line_112 rfl (lv_at hl 1 rfl) ?_
      refine lv_imul hx hb dX12_line_113 ?_
      refine lv_iadd hx hb dX12_line_114 ?_
      refine lv_iconst (v := 2) hx hb dX12_line_115 (by decide) ?_
      refine lv_iload_n hx hb dX12_line_116 rfl (lv_at hl 2 rfl) ?_
      refine lv_imul hx hb dX12_line_117 ?_
      refine lv_iadd hx hb dX12_line_118 ?_
      refine lv_iconst (v := 1) hx hb dX12_line_119 (by decide) ?_
      refine lv_iadd hx hb dX12_line_120 ?_
      refine z_iald hx hb hK hP 1 rfl dX12_line_121 hf (fun y6 hf => ?_)
      refine lv_iadd hx hb dX12_line_122 ?_
      exact hret (((100 * y5) + y6), u4.2) _ _ _ _ hf hP hD hS dX12_line_123
    · refine lv_iconst (v := 0) hx hb dX12_line_83 (by decide) ?_
      exact hret (0, u4.2) _ _ _ _ hf hP hD hS dX12_line_84
  have L75 : ∀ (F_t : Nat → Int32) (H : Heap) (locs : List Loc) (ls : Array Slot), m_X12_line_j75 a_rows p1 p2 F_t = some Rr → va_P D vwCl (w_X12_line h_t r_t F_t cI a_rows) H → va_D A (w_X12_line h_t r_t F_t cI a_rows) → va_S A s.heap H locs → lv_has ls 3 [(0, .ref h_t), (1, .int p1), (2, .int p2)] → W p l e rm_X12_line s m args below meth c H locs 0 0 Q (F0 m 75 ls [.ref h_t]) := by
    intro F_t H locs ls hf hP hD hS hl
    have hf := (m_X12_line_j75.eq_1 _ _ _ _).symm.trans hf
    refine lv_iconst (v := 0) hx hb dX12_line_75 (by decide) ?_
    exact L76 0 F_t _ _ _ hf hP hD hS (lv_sub hl [0, 1, 2] rfl)
  refine lv_aload_n hx hb dX12_line_0 rfl (lv_at hl 0 rfl) ?_
  refine lv_iconst (v := 0) hx hb dX12_line_1 (by decide) ?_
  refine z_put (ci := 12) (C := RX12) (T := TX12) (N := 51) hx hb hts inT_X12 tyX12 tyX12_ok nmX12 hown hK hP hD hS 0 rfl rfl 4 (by decide) tf_X12_63 rfl (by decide +kernel) (Nat.le_of_ble_eq_true rfl) (o_X12 r_t) (o_X12_s4 _ _ _) (fun z => w_X12_line h_t r_t z cI a_rows) (fun _ => rfl) dX12_line_2 hf (fun F1 H locs hf hP hD hS => ?_)
  refine lv_aload_n hx hb dX12_line_5 rfl (lv_at hl 0 rfl) ?_
  refine lv_iload_n hx hb dX12_line_6 rfl (lv_at hl 1 rfl) ?_
  refine lv_iconst (v := 0) hx hb dX12_line_7 (by decide) ?_
  refine lv_bipush (v := 15) hx hb dX12_line_8 (by decide) ?_
  obtain ⟨u2, hu2, hf⟩ := bd_some hf
  refine z_ci (ws1 := w_X12_line h_t r_t F1 cI a_rows) (wr := List.filterMap (fun i : Nat => (w_X12_line h_t r_t F1 cI a_rows)[i]?) [0, 1]) (z_rS (rest := [.ref h_t]) hx hb hml hown hcx hl.1 (c_X12_within l D cI p1 0 15 u2 hu2 _) tl_X12_172 ts_X12_within tn_X12 tc_X12_within tm_X12_within rfl rfl ⟨Nat.le_of_ble_eq_true rfl, Nat.le_of_ble_eq_true rfl⟩ hK hX hS hA hP hD [] rfl rfl rfl rfl (Nat.le_of_ble_eq_true rfl) dX12_line_10 ⟨Nat.zero_le _, Nat.zero_le _⟩) hP hD hS hA [] [0, 1] [0, 1] rfl rfl rfl (by decide) rfl rfl (fun H locs hP hD hS => ?_)
  refine lv_iconst (v := 1) hx hb dX12_line_13 (by decide) ?_
  obtain ⟨u3, hu3, hf⟩ := bd_some hf
  refine z_ci (ws1 := w_X12_line h_t r_t u3.2 cI a_rows) (wr := List.filterMap (fun i : Nat => (w_X12_line h_t r_t F1 cI a_rows)[i]?) [1]) (z_rV (rest := []) hx hb hml hown hcx hl.1 (c_X12_right l D cI h_t r_t F1 u2 1 u3 hu3 _) tl_X12_321 ti_X12_right tz_X12_right tn_X12 tc_X12_right tm_X12_right rfl rfl ⟨Nat.le_of_ble_eq_true rfl, Nat.le_of_ble_eq_true rfl⟩ hK hX hS hA hP hD [0] rfl rfl 0 rfl rfl rfl rfl (Nat.le_of_ble_eq_true rfl) dX12_line_14 ⟨Nat.zero_le _, Nat.zero_le _⟩) hP hD hS hA [0] [1] [1, 0] rfl rfl rfl (by decide) rfl rfl (fun H locs hP hD hS => ?_)
  refine z_if_ne (tgt := 22) hx hb dX12_line_17 (by decide) hf (fun hf => ?_) (fun hf => ?_)
  · refine lv_iload_n hx hb dX12_line_22 rfl (lv_at hl 2 rfl) ?_
    refine lv_iconst (v := (-1)) hx hb dX12_line_23 (by decide) ?_
    refine z_icmp_ne (tgt := 37) hx hb dX12_line_24 (by decide) hf (fun hf => ?_) (fun hf => ?_)
    · refine lv_iload_n hx hb dX12_line_37 rfl (lv_at hl 2 rfl) ?_
      refine lv_bipush (v := (-2)) hx hb dX12_line_38 (by decide) ?_
      refine z_icmp_ne (tgt := 53) hx hb dX12_line_40 (by decide) hf (fun hf => ?_) (fun hf => ?_)
      · refine lv_aload_n hx hb dX12_line_53 rfl (lv_at hl 0 rfl) ?_
        refine lv_iload_n hx hb dX12_line_54 rfl (lv_at hl 2 rfl) ?_
        refine z_if_lt (tgt := 75) hx hb dX12_line_55 (by decide) hf (fun hf => ?_) (fun hf => ?_)
        · exact L75 u3.2 _ _ _ hf hP hD hS (lv_sub hl [0, 1, 2] rfl)
        · refine lv_iload_n hx hb dX12_line_58 rfl (lv_at hl 2 rfl) ?_
          refine lv_aload_n hx hb dX12_line_59 rfl (lv_at hl 0 rfl) ?_
          refine z_get (ci := 12) (C := RX12) (T := TX12) (N := 51) (v := .ref (r_t 0)) hx hb hts inT_X12 hown hK hP 0 rfl rfl 0 (by decide) tf_X12_10 rfl dX12_line_60 ?_
          refine lv_bipush (v := 64) hx hb dX12_line_63 (by decide) ?_
          refine lv_iload_n hx hb dX12_line_65 rfl (lv_at hl 1 rfl) ?_
          refine lv_iadd hx hb dX12_line_66 ?_
          refine z_iald hx hb hK hP 1 rfl dX12_line_67 hf (fun y7 hf => ?_)
          refine z_icmp_ge (tgt := 75) hx hb dX12_line_68 (by decide) hf (fun hf => ?_) (fun hf => ?_)
          · exact L75 u3.2 _ _ _ hf hP hD hS (lv_sub hl [0, 1, 2] rfl)
          · refine lv_iconst (v := 1) hx hb dX12_line_71 (by decide) ?_
            refine lv_goto (tgt := 76) hx hb dX12_line_72 (by decide) ?_
            exact L76 1 u3.2 _ _ _ hf hP hD hS (lv_sub hl [0, 1, 2] rfl)
      · refine lv_aload_n hx hb dX12_line_43 rfl (lv_at hl 0 rfl) ?_
        refine z_get (ci := 12) (C := RX12) (T := TX12) (N := 51) (v := .ref (r_t 0)) hx hb hts inT_X12 hown hK hP 0 rfl rfl 0 (by decide) tf_X12_10 rfl dX12_line_44 ?_
        refine lv_bipush (v := 80) hx hb dX12_line_47 (by decide) ?_
        refine lv_iload_n hx hb dX12_line_49 rfl (lv_at hl 1 rfl) ?_
        refine lv_iadd hx hb dX12_line_50 ?_
        refine z_iald hx hb hK hP 1 rfl dX12_line_51 hf (fun y8 hf => ?_)
        exact hret (y8, u3.2) _ _ _ _ hf hP hD hS dX12_line_52
    · refine lv_aload_n hx hb dX12_line_27 rfl (lv_at hl 0 rfl) ?_
      refine z_get (ci := 12) (C := RX12) (T := TX12) (N := 51) (v := .ref (r_t 0)) hx hb hts inT_X12 hown hK hP 0 rfl rfl 0 (by decide) tf_X12_10 rfl dX12_line_28 ?_
      refine lv_bipush (v := 64) hx hb dX12_line_31 (by decide) ?_
      refine lv_iload_n hx hb dX12_line_33 rfl (lv_at hl 1 rfl) ?_
      refine lv_iadd hx hb dX12_line_34 ?_
      refine z_iald hx hb hK hP 1 rfl dX12_line_35 hf (fun y9 hf => ?_)
      exact hret (y9, u3.2) _ _ _ _ hf hP hD hS dX12_line_36
  · refine lv_iconst (v := 0) hx hb dX12_line_20 (by decide) ?_
    exact hret (0, u3.2) _ _ _ _ hf hP hD hS dX12_line_21
abbrev w_X12_micro (h_t : Nat) (r_t : Nat → Nat) (F_t : Nat → Int32) (cI : ClassId) (a_rows : Nat → Int32) : va_W := [(h_t, .inr (12, o_X12 r_t F_t)), ((r_t 0), .inl (cI, 66100, .inl a_rows))]
abbrev rm_X12_micro : Room := { frames := 1, cells := 0, slots := 0, locals := 22 }
def m_X12_micro_j45 (a_rows : Nat → Int32) (p1 : Int32) (p2 : Int32) (s1 : Int32) (F_t : Nat → Int32) : Option (Int32 × (Nat → Int32)) :=
  bd (m_X12_right F_t s1 1) fun u2 =>
  if u2.1 = 0 then (
  some (0, u2.2))
  else (
  rd a_rows 66100 775 fun y3 =>
  rd a_rows 66100 ((288 + (3 * (y3 + p1))) + p2) fun y4 =>
  some (y4, u2.2))
def m_X12_micro_j44 (a_rows : Nat → Int32) (p1 : Int32) (p2 : Int32) (F_t : Nat → Int32) : Option (Int32 × (Nat → Int32)) :=
  m_X12_micro_j45 a_rows p1 p2 0 F_t
def m_X12_micro (F_t : Nat → Int32) (a_rows : Nat → Int32) (p1 : Int32) (p2 : Int32) : Option (Int32 × (Nat → Int32)) :=
  nm (upd F_t 4 0) fun F1 =>
  if p1 < 0 then (
  m_X12_micro_j44 a_rows p1 p2 F1)
  else (
  rd a_rows 66100 774 fun y5 =>
  rd a_rows 66100 775 fun y6 =>
  if (y5 - y6) ≤ p1 then (
  m_X12_micro_j44 a_rows p1 p2 F1)
  else (
  bd (m_X12_within p2 0 2) fun u7 =>
  if u7 = 0 then (
  m_X12_micro_j44 a_rows p1 p2 F1)
  else (
  m_X12_micro_j45 a_rows p1 p2 1 F1)))
set_option maxHeartbeats 4000000 in
set_option maxRecDepth 100000 in
theorem c_X12_micro (l : Launch) (D : va_G) (cI : ClassId) (h_t : Nat) (r_t : Nat → Nat) (F_t : Nat → Int32) (a_rows : Nat → Int32) (p1 : Int32) (p2 : Int32) (Rr : Int32 × (Nat → Int32)) (hf : m_X12_micro F_t a_rows p1 p2 = some Rr) : CTi l yX12_micro (Cond.code yX12_micro cX12_micro 3 (some .int)) rm_X12_micro D cI [.ref h_t, .int p1, .int p2] (w_X12_micro h_t r_t F_t cI a_rows) Rr.1 (w_X12_micro h_t r_t Rr.2 cI a_rows) := by
  refine z_begin_i (own := RX12) (ρ := Int32 × (Nat → Int32)) (fun u => w_X12_micro h_t r_t u.2 cI a_rows) (fun u => u.1) (by decide +kernel) rfl (Nat.le_of_ble_eq_true rfl) ?_
  intro p e s m args below meth c ls Q A hx hb hml hts hcx hown hK hX hA hP hD hS hl hret
  have hl : lv_has ls 3 [(0, .ref h_t), (1, .int p1), (2, .int p2)] := hl
  have hf := (m_X12_micro.eq_1 _ _ _ _).symm.trans hf
  have L45 : ∀ (s1 : Int32) (F_t : Nat → Int32) (H : Heap) (locs : List Loc) (ls : Array Slot), m_X12_micro_j45 a_rows p1 p2 s1 F_t = some Rr → va_P D vwCl (w_X12_micro h_t r_t F_t cI a_rows) H → va_D A (w_X12_micro h_t r_t F_t cI a_rows) → va_S A s.heap H locs → lv_has ls 3 [(0, .ref h_t), (1, .int p1), (2, .int p2)] → W p l e rm_X12_micro s m args below meth c H locs 0 0 Q (F0 m 45 ls [.int s1, .ref h_t]) := by
    intro s1 F_t H locs ls hf hP hD hS hl
    have hf := (m_X12_micro_j45.eq_1 _ _ _ _ _).symm.trans hf
    refine lv_iconst (v := 1) hx hb dX12_micro_45 (by decide) ?_
    obtain ⟨u2, hu2, hf⟩ := bd_some hf
    refine z_ci (ws1 := w_X12_micro h_t r_t u2.2 cI a_rows) (wr := List.filterMap (fun i : Nat => (w_X12_micro h_t r_t F_t cI a_rows)[i]?) [1]) (z_rV (rest := []) hx hb hml hown hcx hl.1 (c_X12_right l D cI h_t r_t F_t s1 1 u2 hu2 _) tl_X12_321 ti_X12_right tz_X12_right tn_X12 tc_X12_right tm_X12_right rfl rfl ⟨Nat.le_of_ble_eq_true rfl, Nat.le_of_ble_eq_true rfl⟩ hK hX hS hA hP hD [0] rfl rfl 0 rfl rfl rfl rfl (Nat.le_of_ble_eq_true rfl) dX12_micro_46 ⟨Nat.zero_le _, Nat.zero_le _⟩) hP hD hS hA [0] [1] [1, 0] rfl rfl rfl (by decide) rfl rfl (fun H locs hP hD hS => ?_)
    refine z_if_ne (tgt := 54) hx hb dX12_micro_49 (by decide) hf (fun hf => ?_) (fun hf => ?_)
    · refine lv_aload_n hx hb dX12_micro_54 rfl (lv_at hl 0 rfl) ?_
      refine z_get (ci := 12) (C := RX12) (T := TX12) (N := 51) (v := .ref (r_t 0)) hx hb hts inT_X12 hown hK hP 0 rfl rfl 0 (by decide) tf_X12_10 rfl dX12_micro_55 ?_
      refine lv_sipush (v := 288) hx hb dX12_micro_58 (by decide) ?_
      refine lv_iconst (v := 3) hx hb dX12_micro_61 (by decide) ?_
      refine lv_aload_n hx hb dX12_micro_62 rfl (lv_at hl 0 rfl) ?_
      refine z_get (ci := 12) (C := RX12) (T := TX12) (N := 51) (v := .ref (r_t 0)) hx hb hts inT_X12 hown hK hP 0 rfl rfl 0 (by decide) tf_X12_10 rfl dX12_micro_63 ?_
      refine lv_sipush (v := 775) hx hb dX12_micro_66 (by decide) ?_
      refine z_iald hx hb hK hP 1 rfl dX12_micro_69 hf (fun y3 hf => ?_)
      refine lv_iload_n hx hb dX12_micro_70 rfl (lv_at hl 1 rfl) ?_
      refine lv_iadd hx hb dX12_micro_71 ?_
      refine lv_imul hx hb dX12_micro_72 ?_
      refine lv_iadd hx hb dX12_micro_73 ?_
      refine lv_iload_n hx hb dX12_micro_74 rfl (lv_at hl 2 rfl) ?_
      refine lv_iadd hx hb dX12_micro_75 ?_
      refine z_iald hx hb hK hP 1 rfl dX12_micro_76 hf (fun y4 hf => ?_)
      exact hret (y4, u2.2) _ _ _ _ hf hP hD hS dX12_micro_77
    · refine lv_iconst (v := 0) hx hb dX12_micro_52 (by decide) ?_
      exact hret (0, u2.2) _ _ _ _ hf hP hD hS dX12_micro_53
  have L44 : ∀ (F_t : Nat → Int32) (H : Heap) (locs : List Loc) (ls : Array Slot), m_X12_micro_j44 a_rows p1 p2 F_t = some Rr → va_P D vwCl (w_X12_micro h_t r_t F_t cI a_rows) H → va_D A (w_X12_micro h_t r_t F_t cI a_rows) → va_S A s.heap H locs → lv_has ls 3 [(0, .ref h_t), (1, .int p1), (2, .int p2)] → W p l e rm_X12_micro s m args below meth c H locs 0 0 Q (F0 m 44 ls [.ref h_t]) := by
    intro F_t H locs ls hf hP hD hS hl
    have hf := (m_X12_micro_j44.eq_1 _ _ _ _).symm.trans hf
    refine lv_iconst (v := 0) hx hb dX12_micro_44 (by decide) ?_
    exact L45 0 F_t _ _ _ hf hP hD hS (lv_sub hl [0, 1, 2] rfl)
  refine lv_aload_n hx hb dX12_micro_0 rfl (lv_at hl 0 rfl) ?_
  refine lv_iconst (v := 0) hx hb dX12_micro_1 (by decide) ?_
  refine z_put (ci := 12) (C := RX12) (T := TX12) (N := 51) hx hb hts inT_X12 tyX12 tyX12_ok nmX12 hown hK hP hD hS 0 rfl rfl 4 (by decide) tf_X12_63 rfl (by decide +kernel) (Nat.le_of_ble_eq_true rfl) (o_X12 r_t) (o_X12_s4 _ _ _) (fun z => w_X12_micro h_t r_t z cI a_rows) (fun _ => rfl) dX12_micro_2 hf (fun F1 H locs hf hP hD hS => ?_)
  refine lv_aload_n hx hb dX12_micro_5 rfl (lv_at hl 0 rfl) ?_
  refine lv_iload_n hx hb dX12_micro_6 rfl (lv_at hl 1 rfl) ?_
  refine z_if_lt (tgt := 44) hx hb dX12_micro_7 (by decide) hf (fun hf => ?_) (fun hf => ?_)
  · exact L44 F1 _ _ _ hf hP hD hS (lv_sub hl [0, 1, 2] rfl)
  · refine lv_iload_n hx hb dX12_micro_10 rfl (lv_at hl 1 rfl) ?_
    refine lv_aload_n hx hb dX12_micro_11 rfl (lv_at hl 0 rfl) ?_
    refine z_get (ci := 12) (C := RX12) (T := TX12) (N := 51) (v := .ref (r_t 0)) hx hb hts inT_X12 hown hK hP 0 rfl rfl 0 (by decide) tf_X12_10 rfl dX12_micro_12 ?_
    refine lv_sipush (v := 774) hx hb dX12_micro_15 (by decide) ?_
    refine z_iald hx hb hK hP 1 rfl dX12_micro_18 hf (fun y5 hf => ?_)
    refine lv_aload_n hx hb dX12_micro_19 rfl (lv_at hl 0 rfl) ?_
    refine z_get (ci := 12) (C := RX12) (T := TX12) (N := 51) (v := .ref (r_t 0)) hx hb hts inT_X12 hown hK hP 0 rfl rfl 0 (by decide) tf_X12_10 rfl dX12_micro_20 ?_
    refine lv_sipush (v := 775) hx hb dX12_micro_23 (by decide) ?_
    refine z_iald hx hb hK hP 1 rfl dX12_micro_26 hf (fun y6 hf => ?_)
    refine lv_isub hx hb dX12_micro_27 ?_
    refine z_icmp_ge (tgt := 44) hx hb dX12_micro_28 (by decide) hf (fun hf => ?_) (fun hf => ?_)
    · exact L44 F1 _ _ _ hf hP hD hS (lv_sub hl [0, 1, 2] rfl)
    · refine lv_iload_n hx hb dX12_micro_31 rfl (lv_at hl 2 rfl) ?_
      refine lv_iconst (v := 0) hx hb dX12_micro_32 (by decide) ?_
      refine lv_iconst (v := 2) hx hb dX12_micro_33 (by decide) ?_
      obtain ⟨u7, hu7, hf⟩ := bd_some hf
      refine z_ci (ws1 := w_X12_micro h_t r_t F1 cI a_rows) (wr := List.filterMap (fun i : Nat => (w_X12_micro h_t r_t F1 cI a_rows)[i]?) [0, 1]) (z_rS (rest := [.ref h_t]) hx hb hml hown hcx hl.1 (c_X12_within l D cI p2 0 2 u7 hu7 _) tl_X12_172 ts_X12_within tn_X12 tc_X12_within tm_X12_within rfl rfl ⟨Nat.le_of_ble_eq_true rfl, Nat.le_of_ble_eq_true rfl⟩ hK hX hS hA hP hD [] rfl rfl rfl rfl (Nat.le_of_ble_eq_true rfl) dX12_micro_34 ⟨Nat.zero_le _, Nat.zero_le _⟩) hP hD hS hA [] [0, 1] [0, 1] rfl rfl rfl (by decide) rfl rfl (fun H locs hP hD hS => ?_)
      refine z_if_eq (tgt := 44) hx hb dX12_micro_37 (by decide) hf (fun hf => ?_) (fun hf => ?_)
      · exact L44 F1 _ _ _ hf hP hD hS (lv_sub hl [0, 1, 2] rfl)
      · refine lv_iconst (v := 1) hx hb dX12_micro_40 (by decide) ?_
        refine lv_goto (tgt := 45) hx hb dX12_micro_41 (by decide) ?_
        exact L45 1 F1 _ _ _ hf hP hD hS (lv_sub hl [0, 1, 2] rfl)
abbrev w_X12_orders (h_t : Nat) (r_t : Nat → Nat) (F_t : Nat → Int32) (cI : ClassId) (a_rows : Nat → Int32) : va_W := [(h_t, .inr (12, o_X12 r_t F_t)), ((r_t 0), .inl (cI, 66100, .inl a_rows))]
abbrev rm_X12_orders : Room := { frames := 1, cells := 0, slots := 0, locals := 24 }
def m_X12_orders (F_t : Nat → Int32) (a_rows : Nat → Int32) : Option (Int64 × (Nat → Int32)) :=
  nm (upd F_t 4 0) fun F1 =>
  bd (m_X12_ordersOf a_rows 0) fun u2 =>
  some (u2, F1)
set_option maxHeartbeats 4000000 in
set_option maxRecDepth 100000 in
theorem c_X12_orders (l : Launch) (D : va_G) (cI : ClassId) (h_t : Nat) (r_t : Nat → Nat) (F_t : Nat → Int32) (a_rows : Nat → Int32) (Rr : Int64 × (Nat → Int32)) (hf : m_X12_orders F_t a_rows = some Rr) : CTl l yX12_orders (Cond.code yX12_orders cX12_orders 1 (some .long)) rm_X12_orders D cI [.ref h_t] (w_X12_orders h_t r_t F_t cI a_rows) Rr.1 (w_X12_orders h_t r_t Rr.2 cI a_rows) := by
  refine z_begin_l (own := RX12) (ρ := Int64 × (Nat → Int32)) (fun u => w_X12_orders h_t r_t u.2 cI a_rows) (fun u => u.1) (by decide +kernel) rfl (Nat.le_of_ble_eq_true rfl) ?_
  intro p e s m args below meth c ls Q A hx hb hml hts hcx hown hK hX hA hP hD hS hl hret
  have hl : lv_has ls 1 [(0, .ref h_t)] := hl
  have hf := (m_X12_orders.eq_1 _ _).symm.trans hf
  refine lv_aload_n hx hb dX12_orders_0 rfl (lv_at hl 0 rfl) ?_
  refine lv_iconst (v := 0) hx hb dX12_orders_1 (by decide) ?_
  refine z_put (ci := 12) (C := RX12) (T := TX12) (N := 51) hx hb hts inT_X12 tyX12 tyX12_ok nmX12 hown hK hP hD hS 0 rfl rfl 4 (by decide) tf_X12_63 rfl (by decide +kernel) (Nat.le_of_ble_eq_true rfl) (o_X12 r_t) (o_X12_s4 _ _ _) (fun z => w_X12_orders h_t r_t z cI a_rows) (fun _ => rfl) dX12_orders_2 hf (fun F1 H locs hf hP hD hS => ?_)
  refine lv_aload_n hx hb dX12_orders_5 rfl (lv_at hl 0 rfl) ?_
  refine lv_iconst (v := 0) hx hb dX12_orders_6 (by decide) ?_
  obtain ⟨u2, hu2, hf⟩ := bd_some hf
  refine z_cl (ws1 := w_X12_orders h_t r_t F1 cI a_rows) (wr := List.filterMap (fun i : Nat => (w_X12_orders h_t r_t F1 cI a_rows)[i]?) []) (z_rV (rest := []) hx hb hml hown hcx hl.1 (c_X12_ordersOf l D cI h_t r_t F1 a_rows 0 u2 hu2 _) tl_X12_188 ti_X12_ordersOf tz_X12_ordersOf tn_X12 tc_X12_ordersOf tm_X12_ordersOf rfl rfl ⟨Nat.le_of_ble_eq_true rfl, Nat.le_of_ble_eq_true rfl⟩ hK hX hS hA hP hD [0, 1] rfl rfl 0 rfl rfl rfl rfl (Nat.le_of_ble_eq_true rfl) dX12_orders_7 ⟨Nat.zero_le _, Nat.zero_le _⟩) hP hD hS hA [0, 1] [] [0, 1] rfl rfl rfl (by decide) rfl rfl (fun H locs hP hD hS => ?_)
  exact hret (u2, F1) _ _ _ _ hf hP hD hS dX12_orders_10
abbrev w_X12_shape (h_t : Nat) (r_t : Nat → Nat) (F_t : Nat → Int32) (cI : ClassId) (a_rows : Nat → Int32) (a_memory : Nat → Int32) : va_W := [(h_t, .inr (12, o_X12 r_t F_t)), ((r_t 0), .inl (cI, 66100, .inl a_rows)), ((r_t 23), .inl (cI, 64, .inl a_memory))]
abbrev rm_X12_shape : Room := { frames := 4, cells := 0, slots := 0, locals := 89 }
def m_X12_shape_j86 (a_rows : Nat → Int32) (p1 : Int32) (p2 : Int32) (F_t : Nat → Int32) (a_memory : Nat → Int32) : Option (Int32 × (Nat → Int32) × (Nat → Int32)) :=
  bd (m_X12_shapes F_t a_memory 64) fun u5 =>
  bd (m_X12_usedBlocks a_memory 64) fun u6 =>
  if p2 = 0 then (
  some ((u5 20), u5, a_memory))
  else (
  if p2 = 1 then (
  some ((u6 &&& ((u5 20) ^^^ (-1))), u5, a_memory))
  else (
  if p2 = 2 then (
  some (u6, u5, a_memory))
  else (
  if p2 = 3 then (
  some ((u5 21), u5, a_memory))
  else (
  some ((u5 22), u5, a_memory)))))
def m_X12_shape_j73 (a_rows : Nat → Int32) (p1 : Int32) (p2 : Int32) (F_t : Nat → Int32) (a_memory : Nat → Int32) : Option (Int32 × (Nat → Int32) × (Nat → Int32)) :=
  if p1 = 2 then (
  bd (m_X12_recovers F_t a_memory 64) fun u7 =>
  m_X12_shape_j86 a_rows p1 p2 F_t u7)
  else (
  m_X12_shape_j86 a_rows p1 p2 F_t a_memory)
def m_X12_shape_w49 (a_rows : Nat → Int32) (p1 : Int32) (p2 : Int32) (k73 : (Nat → Int32) → (Nat → Int32) → Option (Int32 × (Nat → Int32) × (Nat → Int32))) : Nat → Int32 → (Nat → Int32) → (Nat → Int32) → Option (Int32 × (Nat → Int32) × (Nat → Int32))
  | 0, _, _, _ => none
  | n49 + 1, x3, F_t, a_memory =>
    if 64 ≤ x3 then (
    k73 F_t a_memory)
    else (
    bd (m_X12_wordOf a_rows 0 x3) fun u8 =>
    wr a_memory 64 x3 u8 fun a9 =>
    nm (x3 + 1) fun v10 =>
    m_X12_shape_w49 a_rows p1 p2 k73 n49 v10 F_t a9)
def m_X12_shape_j29 (a_rows : Nat → Int32) (p1 : Int32) (p2 : Int32) (s1 : Int32) (F_t : Nat → Int32) (a_memory : Nat → Int32) : Option (Int32 × (Nat → Int32) × (Nat → Int32)) :=
  bd (m_X12_right F_t s1 1) fun u3 =>
  if u3.1 = 0 then (
  some (0, u3.2, a_memory))
  else (
  bd (m_X12_laysMemory a_rows a_memory 0) fun u4 =>
  if p1 = 0 then (
  m_X12_shape_w49 a_rows p1 p2 (m_X12_shape_j73 a_rows p1 p2) fuelN 0 u3.2 u4)
  else (
  m_X12_shape_j73 a_rows p1 p2 u3.2 u4))
def m_X12_shape_j28 (a_rows : Nat → Int32) (p1 : Int32) (p2 : Int32) (F_t : Nat → Int32) (a_memory : Nat → Int32) : Option (Int32 × (Nat → Int32) × (Nat → Int32)) :=
  m_X12_shape_j29 a_rows p1 p2 0 F_t a_memory
def m_X12_shape (F_t : Nat → Int32) (a_rows : Nat → Int32) (a_memory : Nat → Int32) (p1 : Int32) (p2 : Int32) : Option (Int32 × (Nat → Int32) × (Nat → Int32)) :=
  nm (upd F_t 4 0) fun F1 =>
  bd (m_X12_within p1 0 2) fun u2 =>
  if u2 = 0 then (
  m_X12_shape_j28 a_rows p1 p2 F1 a_memory)
  else (
  bd (m_X12_within p2 0 4) fun u11 =>
  if u11 = 0 then (
  m_X12_shape_j28 a_rows p1 p2 F1 a_memory)
  else (
  m_X12_shape_j29 a_rows p1 p2 1 F1 a_memory))
set_option maxHeartbeats 4000000 in
set_option maxRecDepth 100000 in
theorem c_X12_shape (l : Launch) (D : va_G) (cI : ClassId) (h_t : Nat) (r_t : Nat → Nat) (F_t : Nat → Int32) (a_rows : Nat → Int32) (a_memory : Nat → Int32) (p1 : Int32) (p2 : Int32) (Rr : Int32 × (Nat → Int32) × (Nat → Int32)) (hf : m_X12_shape F_t a_rows a_memory p1 p2 = some Rr) : CTi l yX12_shape (Cond.code yX12_shape cX12_shape 4 (some .int)) rm_X12_shape D cI [.ref h_t, .int p1, .int p2] (w_X12_shape h_t r_t F_t cI a_rows a_memory) Rr.1 (w_X12_shape h_t r_t Rr.2.1 cI a_rows Rr.2.2) := by
  refine z_begin_i (own := RX12) (ρ := Int32 × (Nat → Int32) × (Nat → Int32)) (fun u => w_X12_shape h_t r_t u.2.1 cI a_rows u.2.2) (fun u => u.1) (by decide +kernel) rfl (Nat.le_of_ble_eq_true rfl) ?_
  intro p e s m args below meth c ls Q A hx hb hml hts hcx hown hK hX hA hP hD hS hl hret
  have hl : lv_has ls 4 [(0, .ref h_t), (1, .int p1), (2, .int p2)] := hl
  have hf := (m_X12_shape.eq_1 _ _ _ _ _).symm.trans hf
  have L86 : ∀ (F_t : Nat → Int32) (a_memory : Nat → Int32) (H : Heap) (locs : List Loc) (ls : Array Slot), m_X12_shape_j86 a_rows p1 p2 F_t a_memory = some Rr → va_P D vwCl (w_X12_shape h_t r_t F_t cI a_rows a_memory) H → va_D A (w_X12_shape h_t r_t F_t cI a_rows a_memory) → va_S A s.heap H locs → lv_has ls 4 [(0, .ref h_t), (2, .int p2)] → W p l e rm_X12_shape s m args below meth c H locs 0 0 Q (F0 m 86 ls []) := by
    intro F_t a_memory H locs ls hf hP hD hS hl
    have hf := (m_X12_shape_j86.eq_1 _ _ _ _ _).symm.trans hf
    refine lv_aload_n hx hb dX12_shape_86 rfl (lv_at hl 0 rfl) ?_
    refine lv_aload_n hx hb dX12_shape_87 rfl (lv_at hl 0 rfl) ?_
    refine z_get (ci := 12) (C := RX12) (T := TX12) (N := 51) (v := .ref (r_t 23)) hx hb hts inT_X12 hown hK hP 0 rfl rfl 23 (by decide) tf_X12_39 rfl dX12_shape_88 ?_
    obtain ⟨u5, hu5, hf⟩ := bd_some hf
    refine z_cv (ws1 := w_X12_shape h_t r_t u5 cI a_rows a_memory) (wr := List.filterMap (fun i : Nat => (w_X12_shape h_t r_t F_t cI a_rows a_memory)[i]?) [1]) (z_rV (rest := []) hx hb hml hown hcx hl.1 (c_X12_shapes l D cI h_t (r_t 23) r_t F_t 64 a_memory u5 hu5 _) tl_X12_100 ti_X12_shapes tz_X12_shapes tn_X12 tc_X12_shapes tm_X12_shapes rfl rfl ⟨Nat.le_of_ble_eq_true rfl, Nat.le_of_ble_eq_true rfl⟩ hK hX hS hA hP hD [0, 2] rfl rfl 0 rfl rfl rfl rfl (Nat.le_of_ble_eq_true rfl) dX12_shape_91 ⟨Nat.zero_le _, Nat.zero_le _⟩) hP hD hS hA [0, 2] [1] [1, 0, 2] rfl rfl rfl (by decide) rfl rfl (fun H locs hP hD hS => ?_)
    refine lv_aload_n hx hb dX12_shape_94 rfl (lv_at hl 0 rfl) ?_
    refine z_get (ci := 12) (C := RX12) (T := TX12) (N := 51) (v := .ref (r_t 23)) hx hb hts inT_X12 hown hK hP 0 rfl rfl 23 (by decide) tf_X12_39 rfl dX12_shape_95 ?_
    obtain ⟨u6, hu6, hf⟩ := bd_some hf
    refine z_ci (ws1 := w_X12_shape h_t r_t u5 cI a_rows a_memory) (wr := List.filterMap (fun i : Nat => (w_X12_shape h_t r_t u5 cI a_rows a_memory)[i]?) [0, 1]) (z_rS (rest := []) hx hb hml hown hcx hl.1 (c_X12_usedBlocks l D cI (r_t 23) 64 a_memory u6 hu6 _) tl_X12_104 ts_X12_usedBlocks tn_X12 tc_X12_usedBlocks tm_X12_usedBlocks rfl rfl ⟨Nat.le_of_ble_eq_true rfl, Nat.le_of_ble_eq_true rfl⟩ hK hX hS hA hP hD [2] rfl rfl rfl rfl (Nat.le_of_ble_eq_true rfl) dX12_shape_98 ⟨Nat.zero_le _, Nat.zero_le _⟩) hP hD hS hA [2] [0, 1] [0, 1, 2] rfl rfl rfl (by decide) rfl rfl (fun H locs hP hD hS => ?_)
    refine lv_istore_n (lv' := [(3, .int u6), (0, .ref h_t), (2, .int p2)]) hx hb dX12_shape_101 rfl hl (by decide) rfl (fun ls hl => ?_)
    refine lv_iload_n hx hb dX12_shape_102 rfl (lv_at hl 2 rfl) ?_
    refine z_if_ne (tgt := 113) hx hb dX12_shape_103 (by decide) hf (fun hf => ?_) (fun hf => ?_)
    · refine lv_iload_n hx hb dX12_shape_113 rfl (lv_at hl 2 rfl) ?_
      refine lv_iconst (v := 1) hx hb dX12_shape_114 (by decide) ?_
      refine z_icmp_ne (tgt := 129) hx hb dX12_shape_115 (by decide) hf (fun hf => ?_) (fun hf => ?_)
      · refine lv_iload_n hx hb dX12_shape_129 rfl (lv_at hl 2 rfl) ?_
        refine lv_iconst (v := 2) hx hb dX12_shape_130 (by decide) ?_
        refine z_icmp_ne (tgt := 138) hx hb dX12_shape_131 (by decide) hf (fun hf => ?_) (fun hf => ?_)
        · refine lv_iload_n hx hb dX12_shape_138 rfl (lv_at hl 2 rfl) ?_
          refine lv_iconst (v := 3) hx hb dX12_shape_139 (by decide) ?_
          refine z_icmp_ne (tgt := 150) hx hb dX12_shape_140 (by decide) hf (fun hf => ?_) (fun hf => ?_)
          · refine lv_aload_n hx hb dX12_shape_150 rfl (lv_at hl 1 rfl) ?_
            refine z_get (ci := 12) (C := RX12) (T := TX12) (N := 51) (v := .int (u5 22)) hx hb hts inT_X12 hown hK hP 0 rfl rfl 22 (by decide) tf_X12_87 rfl dX12_shape_151 ?_
            exact hret ((u5 22), u5, a_memory) _ _ _ _ hf hP hD hS dX12_shape_154
          · refine lv_aload_n hx hb dX12_shape_143 rfl (lv_at hl 1 rfl) ?_
            refine z_get (ci := 12) (C := RX12) (T := TX12) (N := 51) (v := .int (u5 21)) hx hb hts inT_X12 hown hK hP 0 rfl rfl 21 (by decide) tf_X12_90 rfl dX12_shape_144 ?_
            refine lv_goto (tgt := 154) hx hb dX12_shape_147 (by decide) ?_
            exact hret ((u5 21), u5, a_memory) _ _ _ _ hf hP hD hS dX12_shape_154
        · refine lv_iload_n hx hb dX12_shape_134 rfl (lv_at hl 0 rfl) ?_
          refine lv_goto (tgt := 154) hx hb dX12_shape_135 (by decide) ?_
          exact hret (u6, u5, a_memory) _ _ _ _ hf hP hD hS dX12_shape_154
      · refine lv_iload_n hx hb dX12_shape_118 rfl (lv_at hl 0 rfl) ?_
        refine lv_aload_n hx hb dX12_shape_119 rfl (lv_at hl 1 rfl) ?_
        refine z_get (ci := 12) (C := RX12) (T := TX12) (N := 51) (v := .int (u5 20)) hx hb hts inT_X12 hown hK hP 0 rfl rfl 20 (by decide) tf_X12_93 rfl dX12_shape_120 ?_
        refine lv_iconst (v := (-1)) hx hb dX12_shape_123 (by decide) ?_
        refine lv_ixor hx hb dX12_shape_124 ?_
        refine lv_iand hx hb dX12_shape_125 ?_
        refine lv_goto (tgt := 154) hx hb dX12_shape_126 (by decide) ?_
        exact hret ((u6 &&& ((u5 20) ^^^ (-1))), u5, a_memory) _ _ _ _ hf hP hD hS dX12_shape_154
    · refine lv_aload_n hx hb dX12_shape_106 rfl (lv_at hl 1 rfl) ?_
      refine z_get (ci := 12) (C := RX12) (T := TX12) (N := 51) (v := .int (u5 20)) hx hb hts inT_X12 hown hK hP 0 rfl rfl 20 (by decide) tf_X12_93 rfl dX12_shape_107 ?_
      refine lv_goto (tgt := 154) hx hb dX12_shape_110 (by decide) ?_
      exact hret ((u5 20), u5, a_memory) _ _ _ _ hf hP hD hS dX12_shape_154
  have L73 : ∀ (F_t : Nat → Int32) (a_memory : Nat → Int32) (H : Heap) (locs : List Loc) (ls : Array Slot), m_X12_shape_j73 a_rows p1 p2 F_t a_memory = some Rr → va_P D vwCl (w_X12_shape h_t r_t F_t cI a_rows a_memory) H → va_D A (w_X12_shape h_t r_t F_t cI a_rows a_memory) → va_S A s.heap H locs → lv_has ls 4 [(0, .ref h_t), (1, .int p1), (2, .int p2)] → W p l e rm_X12_shape s m args below meth c H locs 0 0 Q (F0 m 73 ls []) := by
    intro F_t a_memory H locs ls hf hP hD hS hl
    have hf := (m_X12_shape_j73.eq_1 _ _ _ _ _).symm.trans hf
    refine lv_iload_n hx hb dX12_shape_73 rfl (lv_at hl 1 rfl) ?_
    refine lv_iconst (v := 2) hx hb dX12_shape_74 (by decide) ?_
    refine z_icmp_ne (tgt := 86) hx hb dX12_shape_75 (by decide) hf (fun hf => ?_) (fun hf => ?_)
    · exact L86 F_t a_memory _ _ _ hf hP hD hS (lv_sub hl [0, 2] rfl)
    · refine lv_aload_n hx hb dX12_shape_78 rfl (lv_at hl 0 rfl) ?_
      refine lv_aload_n hx hb dX12_shape_79 rfl (lv_at hl 0 rfl) ?_
      refine z_get (ci := 12) (C := RX12) (T := TX12) (N := 51) (v := .ref (r_t 23)) hx hb hts inT_X12 hown hK hP 0 rfl rfl 23 (by decide) tf_X12_39 rfl dX12_shape_80 ?_
      obtain ⟨u7, hu7, hf⟩ := bd_some hf
      refine z_cv (ws1 := w_X12_shape h_t r_t F_t cI a_rows u7) (wr := List.filterMap (fun i : Nat => (w_X12_shape h_t r_t F_t cI a_rows a_memory)[i]?) [1]) (z_rV (rest := []) hx hb hml hown hcx hl.1 (c_X12_recovers l D cI h_t (r_t 23) r_t F_t 64 a_memory u7 hu7 _) tl_X12_178 ti_X12_recovers tz_X12_recovers tn_X12 tc_X12_recovers tm_X12_recovers rfl rfl ⟨Nat.le_of_ble_eq_true rfl, Nat.le_of_ble_eq_true rfl⟩ hK hX hS hA hP hD [0, 2] rfl rfl 0 rfl rfl rfl rfl (Nat.le_of_ble_eq_true rfl) dX12_shape_83 ⟨Nat.zero_le _, Nat.zero_le _⟩) hP hD hS hA [0, 2] [1] [1, 0, 2] rfl rfl rfl (by decide) rfl rfl (fun H locs hP hD hS => ?_)
      exact L86 F_t u7 _ _ _ hf hP hD hS (lv_sub hl [0, 2] rfl)
  have L49 : ∀ (n49 : Nat) (x3 : Int32) (F_t : Nat → Int32) (a_memory : Nat → Int32) (H : Heap) (locs : List Loc) (ls : Array Slot), m_X12_shape_w49 a_rows p1 p2 (m_X12_shape_j73 a_rows p1 p2) n49 x3 F_t a_memory = some Rr → va_P D vwCl (w_X12_shape h_t r_t F_t cI a_rows a_memory) H → va_D A (w_X12_shape h_t r_t F_t cI a_rows a_memory) → va_S A s.heap H locs → lv_has ls 4 [(0, .ref h_t), (1, .int p1), (2, .int p2), (3, .int x3)] → W p l e rm_X12_shape s m args below meth c H locs 0 0 Q (F0 m 49 ls []) := by
    intro n49
    induction n49 with
    | zero => intro x3 F_t a_memory H locs ls hf; cases (show (none : Option _) = some Rr from hf)
    | succ n49 ih49 =>
      intro x3 F_t a_memory H locs ls hf hP hD hS hl
      have hf := (m_X12_shape_w49.eq_2 _ _ _ _ _ _ _ _).symm.trans hf
      refine lv_iload_n hx hb dX12_shape_49 rfl (lv_at hl 3 rfl) ?_
      refine lv_bipush (v := 64) hx hb dX12_shape_50 (by decide) ?_
      refine z_icmp_ge (tgt := 73) hx hb dX12_shape_52 (by decide) hf (fun hf => ?_) (fun hf => ?_)
      · exact L73 F_t a_memory _ _ _ hf hP hD hS (lv_sub hl [0, 1, 2] rfl)
      · refine lv_aload_n hx hb dX12_shape_55 rfl (lv_at hl 0 rfl) ?_
        refine z_get (ci := 12) (C := RX12) (T := TX12) (N := 51) (v := .ref (r_t 23)) hx hb hts inT_X12 hown hK hP 0 rfl rfl 23 (by decide) tf_X12_39 rfl dX12_shape_56 ?_
        refine lv_iload_n hx hb dX12_shape_59 rfl (lv_at hl 3 rfl) ?_
        refine lv_aload_n hx hb dX12_shape_60 rfl (lv_at hl 0 rfl) ?_
        refine lv_iconst (v := 0) hx hb dX12_shape_61 (by decide) ?_
        refine lv_iload_n hx hb dX12_shape_62 rfl (lv_at hl 3 rfl) ?_
        obtain ⟨u8, hu8, hf⟩ := bd_some hf
        refine z_ci (ws1 := w_X12_shape h_t r_t F_t cI a_rows a_memory) (wr := List.filterMap (fun i : Nat => (w_X12_shape h_t r_t F_t cI a_rows a_memory)[i]?) [2]) (z_rV (rest := [.int x3, .ref (r_t 23)]) hx hb hml hown hcx hl.1 (c_X12_wordOf l D cI h_t r_t F_t a_rows 0 x3 u8 hu8 _) tl_X12_118 ti_X12_wordOf tz_X12_wordOf tn_X12 tc_X12_wordOf tm_X12_wordOf rfl rfl ⟨Nat.le_of_ble_eq_true rfl, Nat.le_of_ble_eq_true rfl⟩ hK hX hS hA hP hD [0, 1] rfl rfl 0 rfl rfl rfl rfl (Nat.le_of_ble_eq_true rfl) dX12_shape_63 ⟨Nat.zero_le _, Nat.zero_le _⟩) hP hD hS hA [0, 1] [2] [1, 2, 0] rfl rfl rfl (by decide) rfl rfl (fun H locs hP hD hS => ?_)
        refine z_iast hx hb hK hP hD hS 2 rfl (fun z => w_X12_shape h_t r_t F_t cI a_rows z) (fun _ => rfl) dX12_shape_66 hf (fun a9 H locs hf hP hD hS => ?_)
        refine z_iinc (k0 := 3) (fun z => [(3, .int z), (0, .ref h_t), (1, .int p1), (2, .int p2)]) hx hb dX12_shape_67 hl rfl (by decide) (by decide) (fun _ => rfl) hf (fun v10 ls hf hl => ?_)
        refine lv_goto (tgt := 49) hx hb dX12_shape_70 (by decide) ?_
        exact ih49 v10 F_t a9 _ _ _ hf hP hD hS (lv_sub hl [1, 2, 3, 0] rfl)
  have L29 : ∀ (s1 : Int32) (F_t : Nat → Int32) (a_memory : Nat → Int32) (H : Heap) (locs : List Loc) (ls : Array Slot), m_X12_shape_j29 a_rows p1 p2 s1 F_t a_memory = some Rr → va_P D vwCl (w_X12_shape h_t r_t F_t cI a_rows a_memory) H → va_D A (w_X12_shape h_t r_t F_t cI a_rows a_memory) → va_S A s.heap H locs → lv_has ls 4 [(0, .ref h_t), (1, .int p1), (2, .int p2)] → W p l e rm_X12_shape s m args below meth c H locs 0 0 Q (F0 m 29 ls [.int s1, .ref h_t]) := by
    intro s1 F_t a_memory H locs ls hf hP hD hS hl
    have hf := (m_X12_shape_j29.eq_1 _ _ _ _ _ _).symm.trans hf
    refine lv_iconst (v := 1) hx hb dX12_shape_29 (by decide) ?_
    obtain ⟨u3, hu3, hf⟩ := bd_some hf
    refine z_ci (ws1 := w_X12_shape h_t r_t u3.2 cI a_rows a_memory) (wr := List.filterMap (fun i : Nat => (w_X12_shape h_t r_t F_t cI a_rows a_memory)[i]?) [1, 2]) (z_rV (rest := []) hx hb hml hown hcx hl.1 (c_X12_right l D cI h_t r_t F_t s1 1 u3 hu3 _) tl_X12_321 ti_X12_right tz_X12_right tn_X12 tc_X12_right tm_X12_right rfl rfl ⟨Nat.le_of_ble_eq_true rfl, Nat.le_of_ble_eq_true rfl⟩ hK hX hS hA hP hD [0] rfl rfl 0 rfl rfl rfl rfl (Nat.le_of_ble_eq_true rfl) dX12_shape_30 ⟨Nat.zero_le _, Nat.zero_le _⟩) hP hD hS hA [0] [1, 2] [2, 0, 1] rfl rfl rfl (by decide) rfl rfl (fun H locs hP hD hS => ?_)
    refine z_if_ne (tgt := 38) hx hb dX12_shape_33 (by decide) hf (fun hf => ?_) (fun hf => ?_)
    · refine lv_aload_n hx hb dX12_shape_38 rfl (lv_at hl 0 rfl) ?_
      refine lv_iconst (v := 0) hx hb dX12_shape_39 (by decide) ?_
      obtain ⟨u4, hu4, hf⟩ := bd_some hf
      refine z_cv (ws1 := w_X12_shape h_t r_t u3.2 cI a_rows u4) (wr := List.filterMap (fun i : Nat => (w_X12_shape h_t r_t u3.2 cI a_rows a_memory)[i]?) []) (z_rV (rest := []) hx hb hml hown hcx hl.1 (c_X12_laysMemory l D cI h_t r_t u3.2 a_rows a_memory 0 u4 hu4 _) tl_X12_175 ti_X12_laysMemory tz_X12_laysMemory tn_X12 tc_X12_laysMemory tm_X12_laysMemory rfl rfl ⟨Nat.le_of_ble_eq_true rfl, Nat.le_of_ble_eq_true rfl⟩ hK hX hS hA hP hD [0, 1, 2] rfl rfl 0 rfl rfl rfl rfl (Nat.le_of_ble_eq_true rfl) dX12_shape_40 ⟨Nat.zero_le _, Nat.zero_le _⟩) hP hD hS hA [0, 1, 2] [] [0, 1, 2] rfl rfl rfl (by decide) rfl rfl (fun H locs hP hD hS => ?_)
      refine lv_iload_n hx hb dX12_shape_43 rfl (lv_at hl 1 rfl) ?_
      refine z_if_ne (tgt := 73) hx hb dX12_shape_44 (by decide) hf (fun hf => ?_) (fun hf => ?_)
      · exact L73 u3.2 u4 _ _ _ hf hP hD hS (lv_sub hl [0, 1, 2] rfl)
      · refine lv_iconst (v := 0) hx hb dX12_shape_47 (by decide) ?_
        refine lv_istore_n (lv' := [(3, .int 0), (0, .ref h_t), (1, .int p1), (2, .int p2)]) hx hb dX12_shape_48 rfl hl (by decide) rfl (fun ls hl => ?_)
        exact L49 fuelN 0 u3.2 u4 _ _ _ hf hP hD hS (lv_sub hl [1, 2, 3, 0] rfl)
    · refine lv_iconst (v := 0) hx hb dX12_shape_36 (by decide) ?_
      exact hret (0, u3.2, a_memory) _ _ _ _ hf hP hD hS dX12_shape_37
  have L28 : ∀ (F_t : Nat → Int32) (a_memory : Nat → Int32) (H : Heap) (locs : List Loc) (ls : Array Slot), m_X12_shape_j28 a_rows p1 p2 F_t a_memory = some Rr → va_P D vwCl (w_X12_shape h_t r_t F_t cI a_rows a_memory) H → va_D A (w_X12_shape h_t r_t F_t cI a_rows a_memory) → va_S A s.heap H locs → lv_has ls 4 [(0, .ref h_t), (1, .int p1), (2, .int p2)] → W p l e rm_X12_shape s m args below meth c H locs 0 0 Q (F0 m 28 ls [.ref h_t]) := by
    intro F_t a_memory H locs ls hf hP hD hS hl
    have hf := (m_X12_shape_j28.eq_1 _ _ _ _ _).symm.trans hf
    refine lv_iconst (v := 0) hx hb dX12_shape_28 (by decide) ?_
    exact L29 0 F_t a_memory _ _ _ hf hP hD hS (lv_sub hl [0, 1, 2] rfl)
  refine lv_aload_n hx hb dX12_shape_0 rfl (lv_at hl 0 rfl) ?_
  refine lv_iconst (v := 0) hx hb dX12_shape_1 (by decide) ?_
  refine z_put (ci := 12) (C := RX12) (T := TX12) (N := 51) hx hb hts inT_X12 tyX12 tyX12_ok nmX12 hown hK hP hD hS 0 rfl rfl 4 (by decide) tf_X12_63 rfl (by decide +kernel) (Nat.le_of_ble_eq_true rfl) (o_X12 r_t) (o_X12_s4 _ _ _) (fun z => w_X12_shape h_t r_t z cI a_rows a_memory) (fun _ => rfl) dX12_shape_2 hf (fun F1 H locs hf hP hD hS => ?_)
  refine lv_aload_n hx hb dX12_shape_5 rfl (lv_at hl 0 rfl) ?_
  refine lv_iload_n hx hb dX12_shape_6 rfl (lv_at hl 1 rfl) ?_
  refine lv_iconst (v := 0) hx hb dX12_shape_7 (by decide) ?_
  refine lv_iconst (v := 2) hx hb dX12_shape_8 (by decide) ?_
  obtain ⟨u2, hu2, hf⟩ := bd_some hf
  refine z_ci (ws1 := w_X12_shape h_t r_t F1 cI a_rows a_memory) (wr := List.filterMap (fun i : Nat => (w_X12_shape h_t r_t F1 cI a_rows a_memory)[i]?) [0, 1, 2]) (z_rS (rest := [.ref h_t]) hx hb hml hown hcx hl.1 (c_X12_within l D cI p1 0 2 u2 hu2 _) tl_X12_172 ts_X12_within tn_X12 tc_X12_within tm_X12_within rfl rfl ⟨Nat.le_of_ble_eq_true rfl, Nat.le_of_ble_eq_true rfl⟩ hK hX hS hA hP hD [] rfl rfl rfl rfl (Nat.le_of_ble_eq_true rfl) dX12_shape_9 ⟨Nat.zero_le _, Nat.zero_le _⟩) hP hD hS hA [] [0, 1, 2] [0, 1, 2] rfl rfl rfl (by decide) rfl rfl (fun H locs hP hD hS => ?_)
  refine z_if_eq (tgt := 28) hx hb dX12_shape_12 (by decide) hf (fun hf => ?_) (fun hf => ?_)
  · exact L28 F1 a_memory _ _ _ hf hP hD hS (lv_sub hl [0, 1, 2] rfl)
  · refine lv_iload_n hx hb dX12_shape_15 rfl (lv_at hl 2 rfl) ?_
    refine lv_iconst (v := 0) hx hb dX12_shape_16 (by decide) ?_
    refine lv_iconst (v := 4) hx hb dX12_shape_17 (by decide) ?_
    obtain ⟨u11, hu11, hf⟩ := bd_some hf
    refine z_ci (ws1 := w_X12_shape h_t r_t F1 cI a_rows a_memory) (wr := List.filterMap (fun i : Nat => (w_X12_shape h_t r_t F1 cI a_rows a_memory)[i]?) [0, 1, 2]) (z_rS (rest := [.ref h_t]) hx hb hml hown hcx hl.1 (c_X12_within l D cI p2 0 4 u11 hu11 _) tl_X12_172 ts_X12_within tn_X12 tc_X12_within tm_X12_within rfl rfl ⟨Nat.le_of_ble_eq_true rfl, Nat.le_of_ble_eq_true rfl⟩ hK hX hS hA hP hD [] rfl rfl rfl rfl (Nat.le_of_ble_eq_true rfl) dX12_shape_18 ⟨Nat.zero_le _, Nat.zero_le _⟩) hP hD hS hA [] [0, 1, 2] [0, 1, 2] rfl rfl rfl (by decide) rfl rfl (fun H locs hP hD hS => ?_)
    refine z_if_eq (tgt := 28) hx hb dX12_shape_21 (by decide) hf (fun hf => ?_) (fun hf => ?_)
    · exact L28 F1 a_memory _ _ _ hf hP hD hS (lv_sub hl [0, 1, 2] rfl)
    · refine lv_iconst (v := 1) hx hb dX12_shape_24 (by decide) ?_
      refine lv_goto (tgt := 29) hx hb dX12_shape_25 (by decide) ?_
      exact L29 1 F1 a_memory _ _ _ hf hP hD hS (lv_sub hl [0, 1, 2] rfl)
abbrev w_X12_keptAt (cI : ClassId) : va_W := []
abbrev rm_X12_keptAt : Room := { frames := 0, cells := 0, slots := 0, locals := 0 }
def m_X12_keptAt (p0 : Int32) (p1 : Int32) : Option (Int32) :=
  some (2358 + (786 * ((p0 + p1) - (p0 + p1) / 40 * 40)))
set_option maxHeartbeats 4000000 in
set_option maxRecDepth 100000 in
theorem c_X12_keptAt (l : Launch) (D : va_G) (cI : ClassId) (p0 : Int32) (p1 : Int32) (Rr : Int32) (hf : m_X12_keptAt p0 p1 = some Rr) : CTi l yX12_keptAt (Cond.code yX12_keptAt cX12_keptAt 2 (some .int)) rm_X12_keptAt D cI [.int p0, .int p1] (w_X12_keptAt cI) Rr (w_X12_keptAt cI) := by
  refine z_begin_i (own := RX12) (ρ := Int32) (fun u => w_X12_keptAt cI) (fun u => u) (by decide +kernel) rfl (Nat.le_of_ble_eq_true rfl) ?_
  intro p e s m args below meth c ls Q A hx hb hml hts hcx hown hK hX hA hP hD hS hl hret
  have hl : lv_has ls 2 [(0, .int p0), (1, .int p1)] := hl
  have hf := (m_X12_keptAt.eq_1 _ _).symm.trans hf
  refine lv_sipush (v := 2358) hx hb dX12_keptAt_0 (by decide) ?_
  refine lv_sipush (v := 786) hx hb dX12_keptAt_3 (by decide) ?_
  refine lv_iload_n hx hb dX12_keptAt_6 rfl (lv_at hl 0 rfl) ?_
  refine lv_iload_n hx hb dX12_keptAt_7 rfl (lv_at hl 1 rfl) ?_
  refine lv_iadd hx hb dX12_keptAt_8 ?_
  refine lv_bipush (v := 40) hx hb dX12_keptAt_9 (by decide) ?_
  refine lv_irem hx hb dX12_keptAt_11 (by decide) ?_
  refine lv_imul hx hb dX12_keptAt_12 ?_
  refine lv_iadd hx hb dX12_keptAt_13 ?_
  exact hret (2358 + (786 * ((p0 + p1) - (p0 + p1) / 40 * 40))) _ _ _ _ hf hP hD hS dX12_keptAt_14
abbrev w_X12_refuses (h_t : Nat) (r_t : Nat → Nat) (F_t : Nat → Int32) (cI : ClassId) (a_refused : Nat → Int32) : va_W := [(h_t, .inr (12, o_X12 r_t F_t)), ((r_t 3), .inl (cI, 6, .inl a_refused))]
abbrev rm_X12_refuses : Room := { frames := 0, cells := 0, slots := 0, locals := 0 }
def m_X12_refuses (a_refused : Nat → Int32) (p1 : Int32) : Option (Int32 × (Nat → Int32)) :=
  rd a_refused 6 p1 fun y1 =>
  wr a_refused 6 p1 (y1 + 1) fun a2 =>
  some ((-1), a2)
set_option maxHeartbeats 4000000 in
set_option maxRecDepth 100000 in
theorem c_X12_refuses (l : Launch) (D : va_G) (cI : ClassId) (h_t : Nat) (r_t : Nat → Nat) (F_t : Nat → Int32) (a_refused : Nat → Int32) (p1 : Int32) (Rr : Int32 × (Nat → Int32)) (hf : m_X12_refuses a_refused p1 = some Rr) : CTi l yX12_refuses (Cond.code yX12_refuses cX12_refuses 2 (some .int)) rm_X12_refuses D cI [.ref h_t, .int p1] (w_X12_refuses h_t r_t F_t cI a_refused) Rr.1 (w_X12_refuses h_t r_t F_t cI Rr.2) := by
  refine z_begin_i (own := RX12) (ρ := Int32 × (Nat → Int32)) (fun u => w_X12_refuses h_t r_t F_t cI u.2) (fun u => u.1) (by decide +kernel) rfl (Nat.le_of_ble_eq_true rfl) ?_
  intro p e s m args below meth c ls Q A hx hb hml hts hcx hown hK hX hA hP hD hS hl hret
  have hl : lv_has ls 2 [(0, .ref h_t), (1, .int p1)] := hl
  have hf := (m_X12_refuses.eq_1 _ _).symm.trans hf
  refine lv_aload_n hx hb dX12_refuses_0 rfl (lv_at hl 0 rfl) ?_
  refine z_get (ci := 12) (C := RX12) (T := TX12) (N := 51) (v := .ref (r_t 3)) hx hb hts inT_X12 hown hK hP 0 rfl rfl 3 (by decide) tf_X12_20 rfl dX12_refuses_1 ?_
  refine lv_iload_n hx hb dX12_refuses_4 rfl (lv_at hl 1 rfl) ?_
  refine lv_dup2_11 hx hb dX12_refuses_5 rfl rfl ?_
  refine z_iald hx hb hK hP 1 rfl dX12_refuses_6 hf (fun y1 hf => ?_)
  refine lv_iconst (v := 1) hx hb dX12_refuses_7 (by decide) ?_
  refine lv_iadd hx hb dX12_refuses_8 ?_
  refine z_iast hx hb hK hP hD hS 1 rfl (fun z => w_X12_refuses h_t r_t F_t cI z) (fun _ => rfl) dX12_refuses_9 hf (fun a2 H locs hf hP hD hS => ?_)
  refine lv_iconst (v := (-1)) hx hb dX12_refuses_10 (by decide) ?_
  exact hret ((-1), a2) _ _ _ _ hf hP hD hS dX12_refuses_11
abbrev w_X12_isDone (h_t : Nat) (r_t : Nat → Nat) (F_t : Nat → Int32) (cI : ClassId) (a_rows : Nat → Int32) (a_refused : Nat → Int32) : va_W := [(h_t, .inr (12, o_X12 r_t F_t)), ((r_t 0), .inl (cI, 66100, .inl a_rows)), ((r_t 3), .inl (cI, 6, .inl a_refused))]
abbrev rm_X12_isDone : Room := { frames := 1, cells := 0, slots := 0, locals := 24 }
def m_X12_isDone_j43 (p1 : Int32) (F_t : Nat → Int32) (a_rows : Nat → Int32) (a_refused : Nat → Int32) : Option (Int32 × (Nat → Int32) × (Nat → Int32) × (Nat → Int32)) :=
  bd (m_X12_keptAt (F_t 6) (F_t 5)) fun u1 =>
  bd (m_X12_copies a_rows 0 u1 786) fun u2 =>
  nm (upd F_t 5 ((F_t 5) + 1)) fun F3 =>
  bd (m_X12_copies u2 786 0 786) fun u4 =>
  some (p1, F3, u4, a_refused)
def m_X12_isDone (F_t : Nat → Int32) (a_rows : Nat → Int32) (a_refused : Nat → Int32) (p1 : Int32) : Option (Int32 × (Nat → Int32) × (Nat → Int32) × (Nat → Int32)) :=
  if p1 = (-1) then (
  bd (m_X12_refuses a_refused 1) fun u7 =>
  some (u7.1, F_t, a_rows, u7.2))
  else (
  if (F_t 5) = 40 then (
  nm (upd F_t 6 (((F_t 6) + 1) - ((F_t 6) + 1) / 40 * 40)) fun F5 =>
  nm (upd F5 5 ((F5 5) - 1)) fun F6 =>
  m_X12_isDone_j43 p1 F6 a_rows a_refused)
  else (
  m_X12_isDone_j43 p1 F_t a_rows a_refused))
set_option maxHeartbeats 4000000 in
set_option maxRecDepth 100000 in
theorem c_X12_isDone (l : Launch) (D : va_G) (cI : ClassId) (h_t : Nat) (r_t : Nat → Nat) (F_t : Nat → Int32) (a_rows : Nat → Int32) (a_refused : Nat → Int32) (p1 : Int32) (Rr : Int32 × (Nat → Int32) × (Nat → Int32) × (Nat → Int32)) (hf : m_X12_isDone F_t a_rows a_refused p1 = some Rr) : CTi l yX12_isDone (Cond.code yX12_isDone cX12_isDone 2 (some .int)) rm_X12_isDone D cI [.ref h_t, .int p1] (w_X12_isDone h_t r_t F_t cI a_rows a_refused) Rr.1 (w_X12_isDone h_t r_t Rr.2.1 cI Rr.2.2.1 Rr.2.2.2) := by
  refine z_begin_i (own := RX12) (ρ := Int32 × (Nat → Int32) × (Nat → Int32) × (Nat → Int32)) (fun u => w_X12_isDone h_t r_t u.2.1 cI u.2.2.1 u.2.2.2) (fun u => u.1) (by decide +kernel) rfl (Nat.le_of_ble_eq_true rfl) ?_
  intro p e s m args below meth c ls Q A hx hb hml hts hcx hown hK hX hA hP hD hS hl hret
  have hl : lv_has ls 2 [(0, .ref h_t), (1, .int p1)] := hl
  have hf := (m_X12_isDone.eq_1 _ _ _ _).symm.trans hf
  have L43 : ∀ (F_t : Nat → Int32) (a_rows : Nat → Int32) (a_refused : Nat → Int32) (H : Heap) (locs : List Loc) (ls : Array Slot), m_X12_isDone_j43 p1 F_t a_rows a_refused = some Rr → va_P D vwCl (w_X12_isDone h_t r_t F_t cI a_rows a_refused) H → va_D A (w_X12_isDone h_t r_t F_t cI a_rows a_refused) → va_S A s.heap H locs → lv_has ls 2 [(0, .ref h_t), (1, .int p1)] → W p l e rm_X12_isDone s m args below meth c H locs 0 0 Q (F0 m 43 ls []) := by
    intro F_t a_rows a_refused H locs ls hf hP hD hS hl
    have hf := (m_X12_isDone_j43.eq_1 _ _ _ _).symm.trans hf
    refine lv_aload_n hx hb dX12_isDone_43 rfl (lv_at hl 0 rfl) ?_
    refine lv_iconst (v := 0) hx hb dX12_isDone_44 (by decide) ?_
    refine lv_aload_n hx hb dX12_isDone_45 rfl (lv_at hl 0 rfl) ?_
    refine z_get (ci := 12) (C := RX12) (T := TX12) (N := 51) (v := .int (F_t 6)) hx hb hts inT_X12 hown hK hP 0 rfl rfl 6 (by decide) tf_X12_333 rfl dX12_isDone_46 ?_
    refine lv_aload_n hx hb dX12_isDone_49 rfl (lv_at hl 0 rfl) ?_
    refine z_get (ci := 12) (C := RX12) (T := TX12) (N := 51) (v := .int (F_t 5)) hx hb hts inT_X12 hown hK hP 0 rfl rfl 5 (by decide) tf_X12_336 rfl dX12_isDone_50 ?_
    obtain ⟨u1, hu1, hf⟩ := bd_some hf
    refine z_ci (ws1 := w_X12_isDone h_t r_t F_t cI a_rows a_refused) (wr := List.filterMap (fun i : Nat => (w_X12_isDone h_t r_t F_t cI a_rows a_refused)[i]?) [0, 1, 2]) (z_rS (rest := [.int 0, .ref h_t]) hx hb hml hown hcx hl.1 (c_X12_keptAt l D cI (F_t 6) (F_t 5) u1 hu1 _) tl_X12_348 ts_X12_keptAt tn_X12 tc_X12_keptAt tm_X12_keptAt rfl rfl ⟨Nat.le_of_ble_eq_true rfl, Nat.le_of_ble_eq_true rfl⟩ hK hX hS hA hP hD [] rfl rfl rfl rfl (Nat.le_of_ble_eq_true rfl) dX12_isDone_53 ⟨Nat.zero_le _, Nat.zero_le _⟩) hP hD hS hA [] [0, 1, 2] [0, 1, 2] rfl rfl rfl (by decide) rfl rfl (fun H locs hP hD hS => ?_)
    refine lv_sipush (v := 786) hx hb dX12_isDone_56 (by decide) ?_
    obtain ⟨u2, hu2, hf⟩ := bd_some hf
    refine z_cv (ws1 := w_X12_isDone h_t r_t F_t cI u2 a_refused) (wr := List.filterMap (fun i : Nat => (w_X12_isDone h_t r_t F_t cI a_rows a_refused)[i]?) [2]) (z_rV (rest := []) hx hb hml hown hcx hl.1 (c_X12_copies l D cI h_t r_t F_t a_rows 0 u1 786 u2 hu2 _) tl_X12_224 ti_X12_copies tz_X12_copies tn_X12 tc_X12_copies tm_X12_copies rfl rfl ⟨Nat.le_of_ble_eq_true rfl, Nat.le_of_ble_eq_true rfl⟩ hK hX hS hA hP hD [0, 1] rfl rfl 0 rfl rfl rfl rfl (Nat.le_of_ble_eq_true rfl) dX12_isDone_59 ⟨Nat.zero_le _, Nat.zero_le _⟩) hP hD hS hA [0, 1] [2] [1, 2, 0] rfl rfl rfl (by decide) rfl rfl (fun H locs hP hD hS => ?_)
    refine lv_aload_n hx hb dX12_isDone_62 rfl (lv_at hl 0 rfl) ?_
    refine lv_dup hx hb dX12_isDone_63 rfl ?_
    refine z_get (ci := 12) (C := RX12) (T := TX12) (N := 51) (v := .int (F_t 5)) hx hb hts inT_X12 hown hK hP 0 rfl rfl 5 (by decide) tf_X12_336 rfl dX12_isDone_64 ?_
    refine lv_iconst (v := 1) hx hb dX12_isDone_67 (by decide) ?_
    refine lv_iadd hx hb dX12_isDone_68 ?_
    refine z_put (ci := 12) (C := RX12) (T := TX12) (N := 51) hx hb hts inT_X12 tyX12 tyX12_ok nmX12 hown hK hP hD hS 0 rfl rfl 5 (by decide) tf_X12_336 rfl (by decide +kernel) (Nat.le_of_ble_eq_true rfl) (o_X12 r_t) (o_X12_s5 _ _ _) (fun z => w_X12_isDone h_t r_t z cI u2 a_refused) (fun _ => rfl) dX12_isDone_69 hf (fun F3 H locs hf hP hD hS => ?_)
    refine lv_aload_n hx hb dX12_isDone_72 rfl (lv_at hl 0 rfl) ?_
    refine lv_sipush (v := 786) hx hb dX12_isDone_73 (by decide) ?_
    refine lv_iconst (v := 0) hx hb dX12_isDone_76 (by decide) ?_
    refine lv_sipush (v := 786) hx hb dX12_isDone_77 (by decide) ?_
    obtain ⟨u4, hu4, hf⟩ := bd_some hf
    refine z_cv (ws1 := w_X12_isDone h_t r_t F3 cI u4 a_refused) (wr := List.filterMap (fun i : Nat => (w_X12_isDone h_t r_t F3 cI u2 a_refused)[i]?) [2]) (z_rV (rest := []) hx hb hml hown hcx hl.1 (c_X12_copies l D cI h_t r_t F3 u2 786 0 786 u4 hu4 _) tl_X12_224 ti_X12_copies tz_X12_copies tn_X12 tc_X12_copies tm_X12_copies rfl rfl ⟨Nat.le_of_ble_eq_true rfl, Nat.le_of_ble_eq_true rfl⟩ hK hX hS hA hP hD [0, 1] rfl rfl 0 rfl rfl rfl rfl (Nat.le_of_ble_eq_true rfl) dX12_isDone_80 ⟨Nat.zero_le _, Nat.zero_le _⟩) hP hD hS hA [0, 1] [2] [1, 2, 0] rfl rfl rfl (by decide) rfl rfl (fun H locs hP hD hS => ?_)
    refine lv_iload_n hx hb dX12_isDone_83 rfl (lv_at hl 1 rfl) ?_
    exact hret (p1, F3, u4, a_refused) _ _ _ _ hf hP hD hS dX12_isDone_84
  refine lv_iload_n hx hb dX12_isDone_0 rfl (lv_at hl 1 rfl) ?_
  refine lv_iconst (v := (-1)) hx hb dX12_isDone_1 (by decide) ?_
  refine z_icmp_ne (tgt := 11) hx hb dX12_isDone_2 (by decide) hf (fun hf => ?_) (fun hf => ?_)
  · refine lv_aload_n hx hb dX12_isDone_11 rfl (lv_at hl 0 rfl) ?_
    refine z_get (ci := 12) (C := RX12) (T := TX12) (N := 51) (v := .int (F_t 5)) hx hb hts inT_X12 hown hK hP 0 rfl rfl 5 (by decide) tf_X12_336 rfl dX12_isDone_12 ?_
    refine lv_bipush (v := 40) hx hb dX12_isDone_15 (by decide) ?_
    refine z_icmp_ne (tgt := 43) hx hb dX12_isDone_17 (by decide) hf (fun hf => ?_) (fun hf => ?_)
    · exact L43 F_t a_rows a_refused _ _ _ hf hP hD hS (lv_sub hl [0, 1] rfl)
    · refine lv_aload_n hx hb dX12_isDone_20 rfl (lv_at hl 0 rfl) ?_
      refine lv_aload_n hx hb dX12_isDone_21 rfl (lv_at hl 0 rfl) ?_
      refine z_get (ci := 12) (C := RX12) (T := TX12) (N := 51) (v := .int (F_t 6)) hx hb hts inT_X12 hown hK hP 0 rfl rfl 6 (by decide) tf_X12_333 rfl dX12_isDone_22 ?_
      refine lv_iconst (v := 1) hx hb dX12_isDone_25 (by decide) ?_
      refine lv_iadd hx hb dX12_isDone_26 ?_
      refine lv_bipush (v := 40) hx hb dX12_isDone_27 (by decide) ?_
      refine lv_irem hx hb dX12_isDone_29 (by decide) ?_
      refine z_put (ci := 12) (C := RX12) (T := TX12) (N := 51) hx hb hts inT_X12 tyX12 tyX12_ok nmX12 hown hK hP hD hS 0 rfl rfl 6 (by decide) tf_X12_333 rfl (by decide +kernel) (Nat.le_of_ble_eq_true rfl) (o_X12 r_t) (o_X12_s6 _ _ _) (fun z => w_X12_isDone h_t r_t z cI a_rows a_refused) (fun _ => rfl) dX12_isDone_30 hf (fun F5 H locs hf hP hD hS => ?_)
      refine lv_aload_n hx hb dX12_isDone_33 rfl (lv_at hl 0 rfl) ?_
      refine lv_dup hx hb dX12_isDone_34 rfl ?_
      refine z_get (ci := 12) (C := RX12) (T := TX12) (N := 51) (v := .int (F5 5)) hx hb hts inT_X12 hown hK hP 0 rfl rfl 5 (by decide) tf_X12_336 rfl dX12_isDone_35 ?_
      refine lv_iconst (v := 1) hx hb dX12_isDone_38 (by decide) ?_
      refine lv_isub hx hb dX12_isDone_39 ?_
      refine z_put (ci := 12) (C := RX12) (T := TX12) (N := 51) hx hb hts inT_X12 tyX12 tyX12_ok nmX12 hown hK hP hD hS 0 rfl rfl 5 (by decide) tf_X12_336 rfl (by decide +kernel) (Nat.le_of_ble_eq_true rfl) (o_X12 r_t) (o_X12_s5 _ _ _) (fun z => w_X12_isDone h_t r_t z cI a_rows a_refused) (fun _ => rfl) dX12_isDone_40 hf (fun F6 H locs hf hP hD hS => ?_)
      exact L43 F6 a_rows a_refused _ _ _ hf hP hD hS (lv_sub hl [0, 1] rfl)
  · refine lv_aload_n hx hb dX12_isDone_5 rfl (lv_at hl 0 rfl) ?_
    refine lv_iconst (v := 1) hx hb dX12_isDone_6 (by decide) ?_
    obtain ⟨u7, hu7, hf⟩ := bd_some hf
    refine z_ci (ws1 := w_X12_isDone h_t r_t F_t cI a_rows u7.2) (wr := List.filterMap (fun i : Nat => (w_X12_isDone h_t r_t F_t cI a_rows a_refused)[i]?) [1]) (z_rV (rest := []) hx hb hml hown hcx hl.1 (c_X12_refuses l D cI h_t r_t F_t a_refused 1 u7 hu7 _) tl_X12_345 ti_X12_refuses tz_X12_refuses tn_X12 tc_X12_refuses tm_X12_refuses rfl rfl ⟨Nat.le_of_ble_eq_true rfl, Nat.le_of_ble_eq_true rfl⟩ hK hX hS hA hP hD [0, 2] rfl rfl 0 rfl rfl rfl rfl (Nat.le_of_ble_eq_true rfl) dX12_isDone_7 ⟨Nat.zero_le _, Nat.zero_le _⟩) hP hD hS hA [0, 2] [1] [1, 0, 2] rfl rfl rfl (by decide) rfl rfl (fun H locs hP hD hS => ?_)
    exact hret (u7.1, F_t, a_rows, u7.2) _ _ _ _ hf hP hD hS dX12_isDone_10
