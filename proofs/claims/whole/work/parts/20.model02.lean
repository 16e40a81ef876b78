abbrev w_X12_laysWords (h_t : Nat) (r_t : Nat → Nat) (F_t : Nat → Int32) (cI : ClassId) (a_rows : Nat → Int32) (a_words : Nat → Int32) : va_W := [(h_t, .inr (12, o_X12 r_t F_t)), ((r_t 0), .inl (cI, 66100, .inl a_rows)), ((r_t 16), .inl (cI, 64, .inl a_words))]
abbrev rm_X12_laysWords : Room := { frames := 1, cells := 0, slots := 0, locals := 25 }
def m_X12_laysWords_w2 (a_rows : Nat → Int32) (p1 : Int32) : Nat → Int32 → (Nat → Int32) → Option ((Nat → Int32))
  | 0, _, _ => none
  | n2 + 1, x2, a_words =>
    if 64 ≤ x2 then (
    some a_words)
    else (
    bd (m_X12_wordOf a_rows p1 x2) fun u1 =>
    wr a_words 64 x2 u1 fun a2 =>
    nm (x2 + 1) fun v3 =>
    m_X12_laysWords_w2 a_rows p1 n2 v3 a2)
def m_X12_laysWords (a_rows : Nat → Int32) (a_words : Nat → Int32) (p1 : Int32) : Option ((Nat → Int32)) :=
  m_X12_laysWords_w2 a_rows p1 fuelN 0 a_words
set_option maxHeartbeats 4000000 in
set_option maxRecDepth 100000 in
theorem c_X12_laysWords (l : Launch) (D : va_G) (cI : ClassId) (h_t : Nat) (r_t : Nat → Nat) (F_t : Nat → Int32) (a_rows : Nat → Int32) (a_words : Nat → Int32) (p1 : Int32) (Rr : (Nat → Int32)) (hf : m_X12_laysWords a_rows a_words p1 = some Rr) : CTv l yX12_laysWords (Cond.code yX12_laysWords cX12_laysWords 3 none) rm_X12_laysWords D cI [.ref h_t, .int p1] (w_X12_laysWords h_t r_t F_t cI a_rows a_words) (w_X12_laysWords h_t r_t F_t cI a_rows Rr) := by
  refine z_begin_v (own := RX12) (ρ := (Nat → Int32)) (fun u => w_X12_laysWords h_t r_t F_t cI a_rows u) (by decide +kernel) rfl (Nat.le_of_ble_eq_true rfl) ?_
  intro p e s m args below meth c ls Q A hx hb hml hts hcx hown hK hX hA hP hD hS hl hret
  have hl : lv_has ls 3 [(0, .ref h_t), (1, .int p1)] := hl
  have hf := (m_X12_laysWords.eq_1 _ _ _).symm.trans hf
  have L2 : ∀ (n2 : Nat) (x2 : Int32) (a_words : Nat → Int32) (H : Heap) (locs : List Loc) (ls : Array Slot), m_X12_laysWords_w2 a_rows p1 n2 x2 a_words = some Rr → va_P D vwCl (w_X12_laysWords h_t r_t F_t cI a_rows a_words) H → va_D A (w_X12_laysWords h_t r_t F_t cI a_rows a_words) → va_S A s.heap H locs → lv_has ls 3 [(0, .ref h_t), (1, .int p1), (2, .int x2)] → W p l e rm_X12_laysWords s m args below meth c H locs 0 0 Q (F0 m 2 ls []) := by
    intro n2
    induction n2 with
    | zero => intro x2 a_words H locs ls hf; cases (show (none : Option _) = some Rr from hf)
    | succ n2 ih2 =>
      intro x2 a_words H locs ls hf hP hD hS hl
      have hf := (m_X12_laysWords_w2.eq_2 _ _ _ _ _).symm.trans hf
      refine lv_iload_n hx hb dX12_laysWords_2 rfl (lv_at hl 2 rfl) ?_
      refine lv_bipush (v := 64) hx hb dX12_laysWords_3 (by decide) ?_
      refine z_icmp_ge (tgt := 26) hx hb dX12_laysWords_5 (by decide) hf (fun hf => ?_) (fun hf => ?_)
      · exact hret a_words _ _ _ _ hf hP hD hS dX12_laysWords_26
      · refine lv_aload_n hx hb dX12_laysWords_8 rfl (lv_at hl 0 rfl) ?_
        refine z_get (ci := 12) (C := RX12) (T := TX12) (N := 51) (v := .ref (r_t 16)) hx hb hts inT_X12 hown hK hP 0 rfl rfl 16 (by decide) tf_X12_30 rfl dX12_laysWords_9 ?_
        refine lv_iload_n hx hb dX12_laysWords_12 rfl (lv_at hl 2 rfl) ?_
        refine lv_aload_n hx hb dX12_laysWords_13 rfl (lv_at hl 0 rfl) ?_
        refine lv_iload_n hx hb dX12_laysWords_14 rfl (lv_at hl 1 rfl) ?_
        refine lv_iload_n hx hb dX12_laysWords_15 rfl (lv_at hl 2 rfl) ?_
        obtain ⟨u1, hu1, hf⟩ := bd_some hf
        refine z_ci (ws1 := w_X12_laysWords h_t r_t F_t cI a_rows a_words) (wr := List.filterMap (fun i : Nat => (w_X12_laysWords h_t r_t F_t cI a_rows a_words)[i]?) [2]) (z_rV (rest := [.int x2, .ref (r_t 16)]) hx hb hml hown hcx hl.1 (c_X12_wordOf l D cI h_t r_t F_t a_rows p1 x2 u1 hu1 _) tl_X12_118 ti_X12_wordOf tz_X12_wordOf tn_X12 tc_X12_wordOf tm_X12_wordOf rfl rfl ⟨Nat.le_of_ble_eq_true rfl, Nat.le_of_ble_eq_true rfl⟩ hK hX hS hA hP hD [0, 1] rfl rfl 0 rfl rfl rfl rfl (Nat.le_of_ble_eq_true rfl) dX12_laysWords_16 ⟨Nat.zero_le _, Nat.zero_le _⟩) hP hD hS hA [0, 1] [2] [1, 2, 0] rfl rfl rfl (by decide) rfl rfl (fun H locs hP hD hS => ?_)
        refine z_iast hx hb hK hP hD hS 2 rfl (fun z => w_X12_laysWords h_t r_t F_t cI a_rows z) (fun _ => rfl) dX12_laysWords_19 hf (fun a2 H locs hf hP hD hS => ?_)
        refine z_iinc (k0 := 2) (fun z => [(2, .int z), (0, .ref h_t), (1, .int p1)]) hx hb dX12_laysWords_20 hl rfl (by decide) (by decide) (fun _ => rfl) hf (fun v3 ls hf hl => ?_)
        refine lv_goto (tgt := 2) hx hb dX12_laysWords_23 (by decide) ?_
        exact ih2 v3 a2 _ _ _ hf hP hD hS (lv_sub hl [1, 2, 0] rfl)
  refine lv_iconst (v := 0) hx hb dX12_laysWords_0 (by decide) ?_
  refine lv_istore_n (lv' := [(2, .int 0), (0, .ref h_t), (1, .int p1)]) hx hb dX12_laysWords_1 rfl hl (by decide) rfl (fun ls hl => ?_)
  exact L2 fuelN 0 a_words _ _ _ hf hP hD hS (lv_sub hl [1, 2, 0] rfl)
abbrev w_X12_isWritten (h_t : Nat) (r_t : Nat → Nat) (F_t : Nat → Int32) (cI : ClassId) (a_rows : Nat → Int32) (a_words : Nat → Int32) (a_address : Nat → Int32) (a_number : Nat → Int32) : va_W := [(h_t, .inr (12, o_X12 r_t F_t)), ((r_t 0), .inl (cI, 66100, .inl a_rows)), ((r_t 16), .inl (cI, 64, .inl a_words)), ((r_t 17), .inl (cI, 64, .inl a_address)), ((r_t 18), .inl (cI, 64, .inl a_number))]
abbrev rm_X12_isWritten : Room := { frames := 6, cells := 0, slots := 0, locals := 135 }
def m_X12_isWritten_j86 (a_rows : Nat → Int32) (p1 : Int32) (x3 : Int32) (F_t : Nat → Int32) (a_words : Nat → Int32) (a_address : Nat → Int32) (a_number : Nat → Int32) : Option (Int32 × (Nat → Int32) × (Nat → Int32) × (Nat → Int32) × (Nat → Int32)) :=
  if x3 = 0 then (
  some (0, F_t, a_words, a_address, a_number))
  else (
  if 8 < (F_t 19) then (
  some (0, F_t, a_words, a_address, a_number))
  else (
  some (1, F_t, a_words, a_address, a_number)))
def m_X12_isWritten_w21 (a_rows : Nat → Int32) (p1 : Int32) (k86 : Int32 → (Nat → Int32) → (Nat → Int32) → (Nat → Int32) → (Nat → Int32) → Option (Int32 × (Nat → Int32) × (Nat → Int32) × (Nat → Int32) × (Nat → Int32))) : Nat → Int32 → Int32 → Int32 → (Nat → Int32) → (Nat → Int32) → (Nat → Int32) → (Nat → Int32) → Option (Int32 × (Nat → Int32) × (Nat → Int32) × (Nat → Int32) × (Nat → Int32))
  | 0, _, _, _, _, _, _, _ => none
  | n21 + 1, x2, x3, x4, F_t, a_words, a_address, a_number =>
    rd a_rows 66100 x2 fun y4 =>
    if y4 ≤ x4 then (
    k86 x3 F_t a_words a_address a_number)
    else (
    if x3 = 0 then (
    k86 x3 F_t a_words a_address a_number)
    else (
    rd a_rows 66100 ((x2 + (3 * x4)) + 1) fun y5 =>
    rd a_rows 66100 ((x2 + (3 * x4)) + 2) fun y6 =>
    rd a_rows 66100 ((x2 + (3 * x4)) + 3) fun y7 =>
    bd (m_X12_isOp F_t a_words a_address a_number y5 y6 y7) fun u8 =>
    nm (x4 + 1) fun v9 =>
    m_X12_isWritten_w21 a_rows p1 k86 n21 x2 u8.1 v9 u8.2.1 u8.2.2.1 u8.2.2.2.1 u8.2.2.2.2))
def m_X12_isWritten (F_t : Nat → Int32) (a_rows : Nat → Int32) (a_words : Nat → Int32) (a_address : Nat → Int32) (a_number : Nat → Int32) (p1 : Int32) : Option (Int32 × (Nat → Int32) × (Nat → Int32) × (Nat → Int32) × (Nat → Int32)) :=
  bd (m_X12_laysWords a_rows a_words p1) fun u1 =>
  nm (upd F_t 19 0) fun F2 =>
  nm (p1 + 616) fun v3 =>
  m_X12_isWritten_w21 a_rows p1 (m_X12_isWritten_j86 a_rows p1) fuelN v3 1 0 F2 u1 a_address a_number
set_option maxHeartbeats 4000000 in
set_option maxRecDepth 100000 in
theorem c_X12_isWritten (l : Launch) (D : va_G) (cI : ClassId) (h_t : Nat) (r_t : Nat → Nat) (F_t : Nat → Int32) (a_rows : Nat → Int32) (a_words : Nat → Int32) (a_address : Nat → Int32) (a_number : Nat → Int32) (p1 : Int32) (Rr : Int32 × (Nat → Int32) × (Nat → Int32) × (Nat → Int32) × (Nat → Int32)) (hf : m_X12_isWritten F_t a_rows a_words a_address a_number p1 = some Rr) : CTi l yX12_isWritten (Cond.code yX12_isWritten cX12_isWritten 5 (some .boolean)) rm_X12_isWritten D cI [.ref h_t, .int p1] (w_X12_isWritten h_t r_t F_t cI a_rows a_words a_address a_number) Rr.1 (w_X12_isWritten h_t r_t Rr.2.1 cI a_rows Rr.2.2.1 Rr.2.2.2.1 Rr.2.2.2.2) := by
  refine z_begin_z (own := RX12) (ρ := Int32 × (Nat → Int32) × (Nat → Int32) × (Nat → Int32) × (Nat → Int32)) (fun u => w_X12_isWritten h_t r_t u.2.1 cI a_rows u.2.2.1 u.2.2.2.1 u.2.2.2.2) (fun u => u.1) (by decide +kernel) rfl (Nat.le_of_ble_eq_true rfl) ?_
  intro p e s m args below meth c ls Q A hx hb hml hts hcx hown hK hX hA hP hD hS hl hret
  have hl : lv_has ls 5 [(0, .ref h_t), (1, .int p1)] := hl
  have hf := (m_X12_isWritten.eq_1 _ _ _ _ _ _).symm.trans hf
  have L86 : ∀ (x3 : Int32) (F_t : Nat → Int32) (a_words : Nat → Int32) (a_address : Nat → Int32) (a_number : Nat → Int32) (H : Heap) (locs : List Loc) (ls : Array Slot), m_X12_isWritten_j86 a_rows p1 x3 F_t a_words a_address a_number = some Rr → va_P D vwCl (w_X12_isWritten h_t r_t F_t cI a_rows a_words a_address a_number) H → va_D A (w_X12_isWritten h_t r_t F_t cI a_rows a_words a_address a_number) → va_S A s.heap H locs → lv_has ls 5 [(0, .ref h_t), (3, .int x3)] → W p l e rm_X12_isWritten s m args below meth c H locs 0 0 Q (F0 m 86 ls []) := by
    intro x3 F_t a_words a_address a_number H locs ls hf hP hD hS hl
    have hf := (m_X12_isWritten_j86.eq_1 _ _ _ _ _ _ _).symm.trans hf
    refine lv_iload_n hx hb dX12_isWritten_86 rfl (lv_at hl 1 rfl) ?_
    refine z_if_eq (tgt := 103) hx hb dX12_isWritten_87 (by decide) hf (fun hf => ?_) (fun hf => ?_)
    · refine lv_iconst (v := 0) hx hb dX12_isWritten_103 (by decide) ?_
      exact hret (0, F_t, a_words, a_address, a_number) _ _ _ _ (Or.inl rfl) hf hP hD hS dX12_isWritten_104
    · refine lv_aload_n hx hb dX12_isWritten_90 rfl (lv_at hl 0 rfl) ?_
      refine z_get (ci := 12) (C := RX12) (T := TX12) (N := 51) (v := .int (F_t 19)) hx hb hts inT_X12 hown hK hP 0 rfl rfl 19 (by decide) tf_X12_73 rfl dX12_isWritten_91 ?_
      refine lv_bipush (v := 8) hx hb dX12_isWritten_94 (by decide) ?_
      refine z_icmp_gt (tgt := 103) hx hb dX12_isWritten_96 (by decide) hf (fun hf => ?_) (fun hf => ?_)
      · refine lv_iconst (v := 0) hx hb dX12_isWritten_103 (by decide) ?_
        exact hret (0, F_t, a_words, a_address, a_number) _ _ _ _ (Or.inl rfl) hf hP hD hS dX12_isWritten_104
      · refine lv_iconst (v := 1) hx hb dX12_isWritten_99 (by decide) ?_
        refine lv_goto (tgt := 104) hx hb dX12_isWritten_100 (by decide) ?_
        exact hret (1, F_t, a_words, a_address, a_number) _ _ _ _ (Or.inr rfl) hf hP hD hS dX12_isWritten_104
  have L21 : ∀ (n21 : Nat) (x2 : Int32) (x3 : Int32) (x4 : Int32) (F_t : Nat → Int32) (a_words : Nat → Int32) (a_address : Nat → Int32) (a_number : Nat → Int32) (H : Heap) (locs : List Loc) (ls : Array Slot), m_X12_isWritten_w21 a_rows p1 (m_X12_isWritten_j86 a_rows p1) n21 x2 x3 x4 F_t a_words a_address a_number = some Rr → va_P D vwCl (w_X12_isWritten h_t r_t F_t cI a_rows a_words a_address a_number) H → va_D A (w_X12_isWritten h_t r_t F_t cI a_rows a_words a_address a_number) → va_S A s.heap H locs → lv_has ls 5 [(0, .ref h_t), (2, .int x2), (3, .int x3), (4, .int x4)] → W p l e rm_X12_isWritten s m args below meth c H locs 0 0 Q (F0 m 21 ls []) := by
    intro n21
    induction n21 with
    | zero => intro x2 x3 x4 F_t a_words a_address a_number H locs ls hf; cases (show (none : Option _) = some Rr from hf)
    | succ n21 ih21 =>
      intro x2 x3 x4 F_t a_words a_address a_number H locs ls hf hP hD hS hl
      have hf := (m_X12_isWritten_w21.eq_2 _ _ _ _ _ _ _ _ _ _ _).symm.trans hf
      refine lv_iload hx hb dX12_isWritten_21 (lv_at hl 3 rfl) ?_
      refine lv_aload_n hx hb dX12_isWritten_23 rfl (lv_at hl 0 rfl) ?_
      refine z_get (ci := 12) (C := RX12) (T := TX12) (N := 51) (v := .ref (r_t 0)) hx hb hts inT_X12 hown hK hP 0 rfl rfl 0 (by decide) tf_X12_10 rfl dX12_isWritten_24 ?_
      refine lv_iload_n hx hb dX12_isWritten_27 rfl (lv_at hl 1 rfl) ?_
      refine z_iald hx hb hK hP 1 rfl dX12_isWritten_28 hf (fun y4 hf => ?_)
      refine z_icmp_ge (tgt := 86) hx hb dX12_isWritten_29 (by decide) hf (fun hf => ?_) (fun hf => ?_)
      · exact L86 x3 F_t a_words a_address a_number _ _ _ hf hP hD hS (lv_sub hl [0, 2] rfl)
      · refine lv_iload_n hx hb dX12_isWritten_32 rfl (lv_at hl 2 rfl) ?_
        refine z_if_eq (tgt := 86) hx hb dX12_isWritten_33 (by decide) hf (fun hf => ?_) (fun hf => ?_)
        · exact L86 x3 F_t a_words a_address a_number _ _ _ hf hP hD hS (lv_sub hl [0, 2] rfl)
        · refine lv_aload_n hx hb dX12_isWritten_36 rfl (lv_at hl 0 rfl) ?_
          refine lv_aload_n hx hb dX12_isWritten_37 rfl (lv_at hl 0 rfl) ?_
          refine z_get (ci := 12) (C := RX12) (T := TX12) (N := 51) (v := .ref (r_t 0)) hx hb hts inT_X12 hown hK hP 0 rfl rfl 0 (by decide) tf_X12_10 rfl dX12_isWritten_38 ?_
          refine lv_iload_n hx hb dX12_isWritten_41 rfl (lv_at hl 1 rfl) ?_
          refine lv_iconst (v := 3) hx hb dX12_isWritten_42 (by decide) ?_
          refine lv_iload hx hb dX12_isWritten_43 (lv_at hl 3 rfl) ?_
          refine lv_imul hx hb dX12_isWritten_45 ?_
          refine lv_iadd hx hb dX12_isWritten_46 ?_
          refine lv_iconst (v := 1) hx hb dX12_isWritten_47 (by decide) ?_
          refine lv_iadd hx hb dX12_isWritten_48 ?_
          refine z_iald hx hb hK hP 1 rfl dX12_isWritten_49 hf (fun y5 hf => ?_)
          refine lv_aload_n hx hb dX12_isWritten_50 rfl (lv_at hl 0 rfl) ?_
          refine z_get (ci := 12) (C := RX12) (T := TX12) (N := 51) (v := .ref (r_t 0)) hx hb hts inT_X12 hown hK hP 0 rfl rfl 0 (by decide) tf_X12_10 rfl dX12_isWritten_51 ?_
          refine lv_iload_n hx hb dX12_isWritten_54 rfl (lv_at hl 1 rfl) ?_
          refine lv_iconst (v := 3) hx hb dX12_isWritten_55 (by decide) ?_
          refine lv_iload hx hb dX12_isWritten_56 (lv_at hl 3 rfl) ?_
          refine lv_imul hx hb dX12_isWritten_58 ?_
          refine lv_iadd hx hb dX12_isWritten_59 ?_
          refine lv_iconst (v := 2) hx hb dX12_isWritten_60 (by decide) ?_
          refine lv_iadd hx hb dX12_isWritten_61 ?_
          refine z_iald hx hb hK hP 1 rfl dX12_isWritten_62 hf (fun y6 hf => ?_)
          refine lv_aload_n hx hb dX12_isWritten_63 rfl (lv_at hl 0 rfl) ?_
          refine z_get (ci := 12) (C := RX12) (T := TX12) (N := 51) (v := .ref (r_t 0)) hx hb hts inT_X12 hown hK hP 0 rfl rfl 0 (by decide) tf_X12_10 rfl dX12_isWritten_64 ?_
          refine lv_iload_n hx hb dX12_isWritten_67 rfl (lv_at hl 1 rfl) ?_
          refine lv_iconst (v := 3) hx hb dX12_isWritten_68 (by decide) ?_
          refine lv_iload hx hb dX12_isWritten_69 (lv_at hl 3 rfl) ?_
          refine lv_imul hx hb dX12_isWritten_71 ?_
          refine lv_iadd hx hb dX12_isWritten_72 ?_
          refine lv_iconst (v := 3) hx hb dX12_isWritten_73 (by decide) ?_
          refine lv_iadd hx hb dX12_isWritten_74 ?_
          refine z_iald hx hb hK hP 1 rfl dX12_isWritten_75 hf (fun y7 hf => ?_)
          obtain ⟨u8, hu8, hf⟩ := bd_some hf
          refine z_ci (ws1 := w_X12_isWritten h_t r_t u8.2.1 cI a_rows u8.2.2.1 u8.2.2.2.1 u8.2.2.2.2) (wr := List.filterMap (fun i : Nat => (w_X12_isWritten h_t r_t F_t cI a_rows a_words a_address a_number)[i]?) [1]) (z_rV (rest := []) hx hb hml hown hcx hl.1 (c_X12_isOp l D cI h_t r_t F_t a_words a_address a_number y5 y6 y7 u8 hu8 _) tl_X12_126 ti_X12_isOp tz_X12_isOp tn_X12 tc_X12_isOp tm_X12_isOp rfl rfl ⟨Nat.le_of_ble_eq_true rfl, Nat.le_of_ble_eq_true rfl⟩ hK hX hS hA hP hD [0, 2, 3, 4] rfl rfl 0 rfl rfl rfl rfl (Nat.le_of_ble_eq_true rfl) dX12_isWritten_76 ⟨Nat.zero_le _, Nat.zero_le _⟩) hP hD hS hA [0, 2, 3, 4] [1] [1, 0, 2, 3, 4] rfl rfl rfl (by decide) rfl rfl (fun H locs hP hD hS => ?_)
          refine lv_istore_n (lv' := [(3, .int u8.1), (0, .ref h_t), (2, .int x2), (4, .int x4)]) hx hb dX12_isWritten_79 rfl hl (by decide) rfl (fun ls hl => ?_)
          refine z_iinc (k0 := 3) (fun z => [(4, .int z), (3, .int u8.1), (0, .ref h_t), (2, .int x2)]) hx hb dX12_isWritten_80 hl rfl (by decide) (by decide) (fun _ => rfl) hf (fun v9 ls hf hl => ?_)
          refine lv_goto (tgt := 21) hx hb dX12_isWritten_83 (by decide) ?_
          exact ih21 x2 u8.1 v9 u8.2.1 u8.2.2.1 u8.2.2.2.1 u8.2.2.2.2 _ _ _ hf hP hD hS (lv_sub hl [2, 3, 1, 0] rfl)
  refine lv_aload_n hx hb dX12_isWritten_0 rfl (lv_at hl 0 rfl) ?_
  refine lv_iload_n hx hb dX12_isWritten_1 rfl (lv_at hl 1 rfl) ?_
  obtain ⟨u1, hu1, hf⟩ := bd_some hf
  refine z_cv (ws1 := w_X12_isWritten h_t r_t F_t cI a_rows u1 a_address a_number) (wr := List.filterMap (fun i : Nat => (w_X12_isWritten h_t r_t F_t cI a_rows a_words a_address a_number)[i]?) [3, 4]) (z_rV (rest := []) hx hb hml hown hcx hl.1 (c_X12_laysWords l D cI h_t r_t F_t a_rows a_words p1 u1 hu1 _) tl_X12_122 ti_X12_laysWords tz_X12_laysWords tn_X12 tc_X12_laysWords tm_X12_laysWords rfl rfl ⟨Nat.le_of_ble_eq_true rfl, Nat.le_of_ble_eq_true rfl⟩ hK hX hS hA hP hD [0, 1, 2] rfl rfl 0 rfl rfl rfl rfl (Nat.le_of_ble_eq_true rfl) dX12_isWritten_2 ⟨Nat.zero_le _, Nat.zero_le _⟩) hP hD hS hA [0, 1, 2] [3, 4] [2, 3, 4, 0, 1] rfl rfl rfl (by decide) rfl rfl (fun H locs hP hD hS => ?_)
  refine lv_aload_n hx hb dX12_isWritten_5 rfl (lv_at hl 0 rfl) ?_
  refine lv_iconst (v := 0) hx hb dX12_isWritten_6 (by decide) ?_
  refine z_put (ci := 12) (C := RX12) (T := TX12) (N := 51) hx hb hts inT_X12 tyX12 tyX12_ok nmX12 hown hK hP hD hS 0 rfl rfl 19 (by decide) tf_X12_73 rfl (by decide +kernel) (Nat.le_of_ble_eq_true rfl) (o_X12 r_t) (o_X12_s19 _ _ _) (fun z => w_X12_isWritten h_t r_t z cI a_rows u1 a_address a_number) (fun _ => rfl) dX12_isWritten_7 hf (fun F2 H locs hf hP hD hS => ?_)
  refine lv_iload_n hx hb dX12_isWritten_10 rfl (lv_at hl 1 rfl) ?_
  refine lv_sipush (v := 616) hx hb dX12_isWritten_11 (by decide) ?_
  refine lv_iadd hx hb dX12_isWritten_14 ?_
  refine z_istore_n (fun z => [(2, .int z), (0, .ref h_t), (1, .int p1)]) hx hb dX12_isWritten_15 rfl hl (by decide) (fun _ => rfl) hf (fun v3 ls hf hl => ?_)
  refine lv_iconst (v := 1) hx hb dX12_isWritten_16 (by decide) ?_
  refine lv_istore_n (lv' := [(3, .int 1), (2, .int v3), (0, .ref h_t), (1, .int p1)]) hx hb dX12_isWritten_17 rfl hl (by decide) rfl (fun ls hl => ?_)
  refine lv_iconst (v := 0) hx hb dX12_isWritten_18 (by decide) ?_
  refine lv_istore (lv' := [(4, .int 0), (3, .int 1), (2, .int v3), (0, .ref h_t), (1, .int p1)]) hx hb dX12_isWritten_19 hl (by decide) rfl (fun ls hl => ?_)
  exact L21 fuelN v3 1 0 F2 u1 a_address a_number _ _ _ hf hP hD hS (lv_sub hl [3, 2, 1, 0] rfl)
abbrev w_X12_lays (h_t : Nat) (r_t : Nat → Nat) (F_t : Nat → Int32) (cI : ClassId) (a_rows : Nat → Int32) : va_W := [(h_t, .inr (12, o_X12 r_t F_t)), ((r_t 0), .inl (cI, 66100, .inl a_rows))]
abbrev rm_X12_lays : Room := { frames := 0, cells := 0, slots := 0, locals := 0 }
def m_X12_lays (a_rows : Nat → Int32) (p1 : Int32) (p2 : Int32) (p3 : Int32) (p4 : Int32) : Option ((Nat → Int32)) :=
  rd a_rows 66100 (p1 + 774) fun y1 =>
  nm ((p1 + 288) + (3 * y1)) fun v2 =>
  wr a_rows 66100 v2 p2 fun a3 =>
  wr a3 66100 (v2 + 1) p3 fun a4 =>
  wr a4 66100 (v2 + 2) p4 fun a5 =>
  rd a5 66100 (p1 + 774) fun y6 =>
  wr a5 66100 (p1 + 774) (y6 + 1) fun a7 =>
  some a7
set_option maxHeartbeats 4000000 in
set_option maxRecDepth 100000 in
theorem c_X12_lays (l : Launch) (D : va_G) (cI : ClassId) (h_t : Nat) (r_t : Nat → Nat) (F_t : Nat → Int32) (a_rows : Nat → Int32) (p1 : Int32) (p2 : Int32) (p3 : Int32) (p4 : Int32) (Rr : (Nat → Int32)) (hf : m_X12_lays a_rows p1 p2 p3 p4 = some Rr) : CTv l yX12_lays (Cond.code yX12_lays cX12_lays 6 none) rm_X12_lays D cI [.ref h_t, .int p1, .int p2, .int p3, .int p4] (w_X12_lays h_t r_t F_t cI a_rows) (w_X12_lays h_t r_t F_t cI Rr) := by
  refine z_begin_v (own := RX12) (ρ := (Nat → Int32)) (fun u => w_X12_lays h_t r_t F_t cI u) (by decide +kernel) rfl (Nat.le_of_ble_eq_true rfl) ?_
  intro p e s m args below meth c ls Q A hx hb hml hts hcx hown hK hX hA hP hD hS hl hret
  have hl : lv_has ls 6 [(0, .ref h_t), (1, .int p1), (2, .int p2), (3, .int p3), (4, .int p4)] := hl
  have hf := (m_X12_lays.eq_1 _ _ _ _ _).symm.trans hf
  refine lv_iload_n hx hb dX12_lays_0 rfl (lv_at hl 1 rfl) ?_
  refine lv_sipush (v := 288) hx hb dX12_lays_1 (by decide) ?_
  refine lv_iadd hx hb dX12_lays_4 ?_
  refine lv_iconst (v := 3) hx hb dX12_lays_5 (by decide) ?_
  refine lv_aload_n hx hb dX12_lays_6 rfl (lv_at hl 0 rfl) ?_
  refine z_get (ci := 12) (C := RX12) (T := TX12) (N := 51) (v := .ref (r_t 0)) hx hb hts inT_X12 hown hK hP 0 rfl rfl 0 (by decide) tf_X12_10 rfl dX12_lays_7 ?_
  refine lv_iload_n hx hb dX12_lays_10 rfl (lv_at hl 1 rfl) ?_
  refine lv_sipush (v := 774) hx hb dX12_lays_11 (by decide) ?_
  refine lv_iadd hx hb dX12_lays_14 ?_
  refine z_iald hx hb hK hP 1 rfl dX12_lays_15 hf (fun y1 hf => ?_)
  refine lv_imul hx hb dX12_lays_16 ?_
  refine lv_iadd hx hb dX12_lays_17 ?_
  refine z_istore (fun z => [(5, .int z), (0, .ref h_t), (1, .int p1), (2, .int p2), (3, .int p3), (4, .int p4)]) hx hb dX12_lays_18 hl (by decide) (fun _ => rfl) hf (fun v2 ls hf hl => ?_)
  refine lv_aload_n hx hb dX12_lays_20 rfl (lv_at hl 1 rfl) ?_
  refine z_get (ci := 12) (C := RX12) (T := TX12) (N := 51) (v := .ref (r_t 0)) hx hb hts inT_X12 hown hK hP 0 rfl rfl 0 (by decide) tf_X12_10 rfl dX12_lays_21 ?_
  refine lv_iload hx hb dX12_lays_24 (lv_at hl 0 rfl) ?_
  refine lv_iload_n hx hb dX12_lays_26 rfl (lv_at hl 3 rfl) ?_
  refine z_iast hx hb hK hP hD hS 1 rfl (fun z => w_X12_lays h_t r_t F_t cI z) (fun _ => rfl) dX12_lays_27 hf (fun a3 H locs hf hP hD hS => ?_)
  refine lv_aload_n hx hb dX12_lays_28 rfl (lv_at hl 1 rfl) ?_
  refine z_get (ci := 12) (C := RX12) (T := TX12) (N := 51) (v := .ref (r_t 0)) hx hb hts inT_X12 hown hK hP 0 rfl rfl 0 (by decide) tf_X12_10 rfl dX12_lays_29 ?_
  refine lv_iload hx hb dX12_lays_32 (lv_at hl 0 rfl) ?_
  refine lv_iconst (v := 1) hx hb dX12_lays_34 (by decide) ?_
  refine lv_iadd hx hb dX12_lays_35 ?_
  refine lv_iload_n hx hb dX12_lays_36 rfl (lv_at hl 4 rfl) ?_
  refine z_iast hx hb hK hP hD hS 1 rfl (fun z => w_X12_lays h_t r_t F_t cI z) (fun _ => rfl) dX12_lays_37 hf (fun a4 H locs hf hP hD hS => ?_)
  refine lv_aload_n hx hb dX12_lays_38 rfl (lv_at hl 1 rfl) ?_
  refine z_get (ci := 12) (C := RX12) (T := TX12) (N := 51) (v := .ref (r_t 0)) hx hb hts inT_X12 hown hK hP 0 rfl rfl 0 (by decide) tf_X12_10 rfl dX12_lays_39 ?_
  refine lv_iload hx hb dX12_lays_42 (lv_at hl 0 rfl) ?_
  refine lv_iconst (v := 2) hx hb dX12_lays_44 (by decide) ?_
  refine lv_iadd hx hb dX12_lays_45 ?_
  refine lv_iload hx hb dX12_lays_46 (lv_at hl 5 rfl) ?_
  refine z_iast hx hb hK hP hD hS 1 rfl (fun z => w_X12_lays h_t r_t F_t cI z) (fun _ => rfl) dX12_lays_48 hf (fun a5 H locs hf hP hD hS => ?_)
  refine lv_aload_n hx hb dX12_lays_49 rfl (lv_at hl 1 rfl) ?_
  refine z_get (ci := 12) (C := RX12) (T := TX12) (N := 51) (v := .ref (r_t 0)) hx hb hts inT_X12 hown hK hP 0 rfl rfl 0 (by decide) tf_X12_10 rfl dX12_lays_50 ?_
  refine lv_iload_n hx hb dX12_lays_53 rfl (lv_at hl 2 rfl) ?_
  refine lv_sipush (v := 774) hx hb dX12_lays_54 (by decide) ?_
  refine lv_iadd hx hb dX12_lays_57 ?_
  refine lv_dup2_11 hx hb dX12_lays_58 rfl rfl ?_
  refine z_iald hx hb hK hP 1 rfl dX12_lays_59 hf (fun y6 hf => ?_)
  refine lv_iconst (v := 1) hx hb dX12_lays_60 (by decide) ?_
  refine lv_iadd hx hb dX12_lays_61 ?_
  refine z_iast hx hb hK hP hD hS 1 rfl (fun z => w_X12_lays h_t r_t F_t cI z) (fun _ => rfl) dX12_lays_62 hf (fun a7 H locs hf hP hD hS => ?_)
  exact hret a7 _ _ _ _ hf hP hD hS dX12_lays_63
abbrev w_X12_isIn (h_t : Nat) (r_t : Nat → Nat) (F_t : Nat → Int32) (cI : ClassId) (a_rows : Nat → Int32) : va_W := [(h_t, .inr (12, o_X12 r_t F_t)), ((r_t 0), .inl (cI, 66100, .inl a_rows))]
abbrev rm_X12_isIn : Room := { frames := 0, cells := 0, slots := 0, locals := 0 }
def m_X12_isIn (a_rows : Nat → Int32) (p1 : Int32) (p2 : Int32) : Option (Int32) :=
  rd a_rows 66100 (p1 + 773) fun y1 =>
  if (y1 &&& p2) = 0 then (
  some 1)
  else (
  some 0)
set_option maxHeartbeats 4000000 in
set_option maxRecDepth 100000 in
theorem c_X12_isIn (l : Launch) (D : va_G) (cI : ClassId) (h_t : Nat) (r_t : Nat → Nat) (F_t : Nat → Int32) (a_rows : Nat → Int32) (p1 : Int32) (p2 : Int32) (Rr : Int32) (hf : m_X12_isIn a_rows p1 p2 = some Rr) : CTi l yX12_isIn (Cond.code yX12_isIn cX12_isIn 3 (some .boolean)) rm_X12_isIn D cI [.ref h_t, .int p1, .int p2] (w_X12_isIn h_t r_t F_t cI a_rows) Rr (w_X12_isIn h_t r_t F_t cI a_rows) := by
  refine z_begin_z (own := RX12) (ρ := Int32) (fun u => w_X12_isIn h_t r_t F_t cI a_rows) (fun u => u) (by decide +kernel) rfl (Nat.le_of_ble_eq_true rfl) ?_
  intro p e s m args below meth c ls Q A hx hb hml hts hcx hown hK hX hA hP hD hS hl hret
  have hl : lv_has ls 3 [(0, .ref h_t), (1, .int p1), (2, .int p2)] := hl
  have hf := (m_X12_isIn.eq_1 _ _ _).symm.trans hf
  refine lv_aload_n hx hb dX12_isIn_0 rfl (lv_at hl 0 rfl) ?_
  refine z_get (ci := 12) (C := RX12) (T := TX12) (N := 51) (v := .ref (r_t 0)) hx hb hts inT_X12 hown hK hP 0 rfl rfl 0 (by decide) tf_X12_10 rfl dX12_isIn_1 ?_
  refine lv_iload_n hx hb dX12_isIn_4 rfl (lv_at hl 1 rfl) ?_
  refine lv_sipush (v := 773) hx hb dX12_isIn_5 (by decide) ?_
  refine lv_iadd hx hb dX12_isIn_8 ?_
  refine z_iald hx hb hK hP 1 rfl dX12_isIn_9 hf (fun y1 hf => ?_)
  refine lv_iload_n hx hb dX12_isIn_10 rfl (lv_at hl 2 rfl) ?_
  refine lv_iand hx hb dX12_isIn_11 ?_
  refine z_if_ne (tgt := 19) hx hb dX12_isIn_12 (by decide) hf (fun hf => ?_) (fun hf => ?_)
  · refine lv_iconst (v := 0) hx hb dX12_isIn_19 (by decide) ?_
    exact hret 0 _ _ _ _ (Or.inl rfl) hf hP hD hS dX12_isIn_20
  · refine lv_iconst (v := 1) hx hb dX12_isIn_15 (by decide) ?_
    refine lv_goto (tgt := 20) hx hb dX12_isIn_16 (by decide) ?_
    exact hret 1 _ _ _ _ (Or.inr rfl) hf hP hD hS dX12_isIn_20
abbrev w_X12_flushes (h_t : Nat) (r_t : Nat → Nat) (F_t : Nat → Int32) (cI : ClassId) (a_rows : Nat → Int32) : va_W := [(h_t, .inr (12, o_X12 r_t F_t)), ((r_t 0), .inl (cI, 66100, .inl a_rows))]
abbrev rm_X12_flushes : Room := { frames := 1, cells := 0, slots := 0, locals := 25 }
def m_X12_flushes (a_rows : Nat → Int32) (p1 : Int32) (p2 : Int32) (p3 : Int32) : Option ((Nat → Int32)) :=
  bd (m_X12_isIn a_rows p1 p2) fun u1 =>
  if u1 = 0 then (
  some a_rows)
  else (
  bd (m_X12_lays a_rows p1 1 p3 (-1)) fun u2 =>
  some u2)
set_option maxHeartbeats 4000000 in
set_option maxRecDepth 100000 in
theorem c_X12_flushes (l : Launch) (D : va_G) (cI : ClassId) (h_t : Nat) (r_t : Nat → Nat) (F_t : Nat → Int32) (a_rows : Nat → Int32) (p1 : Int32) (p2 : Int32) (p3 : Int32) (Rr : (Nat → Int32)) (hf : m_X12_flushes a_rows p1 p2 p3 = some Rr) : CTv l yX12_flushes (Cond.code yX12_flushes cX12_flushes 4 none) rm_X12_flushes D cI [.ref h_t, .int p1, .int p2, .int p3] (w_X12_flushes h_t r_t F_t cI a_rows) (w_X12_flushes h_t r_t F_t cI Rr) := by
  refine z_begin_v (own := RX12) (ρ := (Nat → Int32)) (fun u => w_X12_flushes h_t r_t F_t cI u) (by decide +kernel) rfl (Nat.le_of_ble_eq_true rfl) ?_
  intro p e s m args below meth c ls Q A hx hb hml hts hcx hown hK hX hA hP hD hS hl hret
  have hl : lv_has ls 4 [(0, .ref h_t), (1, .int p1), (2, .int p2), (3, .int p3)] := hl
  have hf := (m_X12_flushes.eq_1 _ _ _ _).symm.trans hf
  refine lv_aload_n hx hb dX12_flushes_0 rfl (lv_at hl 0 rfl) ?_
  refine lv_iload_n hx hb dX12_flushes_1 rfl (lv_at hl 1 rfl) ?_
  refine lv_iload_n hx hb dX12_flushes_2 rfl (lv_at hl 2 rfl) ?_
  obtain ⟨u1, hu1, hf⟩ := bd_some hf
  refine z_ci (ws1 := w_X12_flushes h_t r_t F_t cI a_rows) (wr := List.filterMap (fun i : Nat => (w_X12_flushes h_t r_t F_t cI a_rows)[i]?) []) (z_rV (rest := []) hx hb hml hown hcx hl.1 (c_X12_isIn l D cI h_t r_t F_t a_rows p1 p2 u1 hu1 _) tl_X12_130 ti_X12_isIn tz_X12_isIn tn_X12 tc_X12_isIn tm_X12_isIn rfl rfl ⟨Nat.le_of_ble_eq_true rfl, Nat.le_of_ble_eq_true rfl⟩ hK hX hS hA hP hD [0, 1] rfl rfl 0 rfl rfl rfl rfl (Nat.le_of_ble_eq_true rfl) dX12_flushes_3 ⟨Nat.zero_le _, Nat.zero_le _⟩) hP hD hS hA [0, 1] [] [0, 1] rfl rfl rfl (by decide) rfl rfl (fun H locs hP hD hS => ?_)
  refine z_if_eq (tgt := 17) hx hb dX12_flushes_6 (by decide) hf (fun hf => ?_) (fun hf => ?_)
  · exact hret a_rows _ _ _ _ hf hP hD hS dX12_flushes_17
  · refine lv_aload_n hx hb dX12_flushes_9 rfl (lv_at hl 0 rfl) ?_
    refine lv_iload_n hx hb dX12_flushes_10 rfl (lv_at hl 1 rfl) ?_
    refine lv_iconst (v := 1) hx hb dX12_flushes_11 (by decide) ?_
    refine lv_iload_n hx hb dX12_flushes_12 rfl (lv_at hl 3 rfl) ?_
    refine lv_iconst (v := (-1)) hx hb dX12_flushes_13 (by decide) ?_
    obtain ⟨u2, hu2, hf⟩ := bd_some hf
    refine z_cv (ws1 := w_X12_flushes h_t r_t F_t cI u2) (wr := List.filterMap (fun i : Nat => (w_X12_flushes h_t r_t F_t cI a_rows)[i]?) []) (z_rV (rest := []) hx hb hml hown hcx hl.1 (c_X12_lays l D cI h_t r_t F_t a_rows p1 1 p3 (-1) u2 hu2 _) tl_X12_134 ti_X12_lays tz_X12_lays tn_X12 tc_X12_lays tm_X12_lays rfl rfl ⟨Nat.le_of_ble_eq_true rfl, Nat.le_of_ble_eq_true rfl⟩ hK hX hS hA hP hD [0, 1] rfl rfl 0 rfl rfl rfl rfl (Nat.le_of_ble_eq_true rfl) dX12_flushes_14 ⟨Nat.zero_le _, Nat.zero_le _⟩) hP hD hS hA [0, 1] [] [0, 1] rfl rfl rfl (by decide) rfl rfl (fun H locs hP hD hS => ?_)
    exact hret u2 _ _ _ _ hf hP hD hS dX12_flushes_17
abbrev w_X12_fences (h_t : Nat) (r_t : Nat → Nat) (F_t : Nat → Int32) (cI : ClassId) (a_rows : Nat → Int32) : va_W := [(h_t, .inr (12, o_X12 r_t F_t)), ((r_t 0), .inl (cI, 66100, .inl a_rows))]
abbrev rm_X12_fences : Room := { frames := 1, cells := 0, slots := 0, locals := 25 }
def m_X12_fences (a_rows : Nat → Int32) (p1 : Int32) (p2 : Int32) : Option ((Nat → Int32)) :=
  bd (m_X12_isIn a_rows p1 p2) fun u1 =>
  if u1 = 0 then (
  some a_rows)
  else (
  bd (m_X12_lays a_rows p1 2 (-1) (-1)) fun u2 =>
  some u2)
set_option maxHeartbeats 4000000 in
set_option maxRecDepth 100000 in
theorem c_X12_fences (l : Launch) (D : va_G) (cI : ClassId) (h_t : Nat) (r_t : Nat → Nat) (F_t : Nat → Int32) (a_rows : Nat → Int32) (p1 : Int32) (p2 : Int32) (Rr : (Nat → Int32)) (hf : m_X12_fences a_rows p1 p2 = some Rr) : CTv l yX12_fences (Cond.code yX12_fences cX12_fences 3 none) rm_X12_fences D cI [.ref h_t, .int p1, .int p2] (w_X12_fences h_t r_t F_t cI a_rows) (w_X12_fences h_t r_t F_t cI Rr) := by
  refine z_begin_v (own := RX12) (ρ := (Nat → Int32)) (fun u => w_X12_fences h_t r_t F_t cI u) (by decide +kernel) rfl (Nat.le_of_ble_eq_true rfl) ?_
  intro p e s m args below meth c ls Q A hx hb hml hts hcx hown hK hX hA hP hD hS hl hret
  have hl : lv_has ls 3 [(0, .ref h_t), (1, .int p1), (2, .int p2)] := hl
  have hf := (m_X12_fences.eq_1 _ _ _).symm.trans hf
  refine lv_aload_n hx hb dX12_fences_0 rfl (lv_at hl 0 rfl) ?_
  refine lv_iload_n hx hb dX12_fences_1 rfl (lv_at hl 1 rfl) ?_
  refine lv_iload_n hx hb dX12_fences_2 rfl (lv_at hl 2 rfl) ?_
  obtain ⟨u1, hu1, hf⟩ := bd_some hf
  refine z_ci (ws1 := w_X12_fences h_t r_t F_t cI a_rows) (wr := List.filterMap (fun i : Nat => (w_X12_fences h_t r_t F_t cI a_rows)[i]?) []) (z_rV (rest := []) hx hb hml hown hcx hl.1 (c_X12_isIn l D cI h_t r_t F_t a_rows p1 p2 u1 hu1 _) tl_X12_130 ti_X12_isIn tz_X12_isIn tn_X12 tc_X12_isIn tm_X12_isIn rfl rfl ⟨Nat.le_of_ble_eq_true rfl, Nat.le_of_ble_eq_true rfl⟩ hK hX hS hA hP hD [0, 1] rfl rfl 0 rfl rfl rfl rfl (Nat.le_of_ble_eq_true rfl) dX12_fences_3 ⟨Nat.zero_le _, Nat.zero_le _⟩) hP hD hS hA [0, 1] [] [0, 1] rfl rfl rfl (by decide) rfl rfl (fun H locs hP hD hS => ?_)
  refine z_if_eq (tgt := 17) hx hb dX12_fences_6 (by decide) hf (fun hf => ?_) (fun hf => ?_)
  · exact hret a_rows _ _ _ _ hf hP hD hS dX12_fences_17
  · refine lv_aload_n hx hb dX12_fences_9 rfl (lv_at hl 0 rfl) ?_
    refine lv_iload_n hx hb dX12_fences_10 rfl (lv_at hl 1 rfl) ?_
    refine lv_iconst (v := 2) hx hb dX12_fences_11 (by decide) ?_
    refine lv_iconst (v := (-1)) hx hb dX12_fences_12 (by decide) ?_
    refine lv_iconst (v := (-1)) hx hb dX12_fences_13 (by decide) ?_
    obtain ⟨u2, hu2, hf⟩ := bd_some hf
    refine z_cv (ws1 := w_X12_fences h_t r_t F_t cI u2) (wr := List.filterMap (fun i : Nat => (w_X12_fences h_t r_t F_t cI a_rows)[i]?) []) (z_rV (rest := []) hx hb hml hown hcx hl.1 (c_X12_lays l D cI h_t r_t F_t a_rows p1 2 (-1) (-1) u2 hu2 _) tl_X12_134 ti_X12_lays tz_X12_lays tn_X12 tc_X12_lays tm_X12_lays rfl rfl ⟨Nat.le_of_ble_eq_true rfl, Nat.le_of_ble_eq_true rfl⟩ hK hX hS hA hP hD [0, 1] rfl rfl 0 rfl rfl rfl rfl (Nat.le_of_ble_eq_true rfl) dX12_fences_14 ⟨Nat.zero_le _, Nat.zero_le _⟩) hP hD hS hA [0, 1] [] [0, 1] rfl rfl rfl (by decide) rfl rfl (fun H locs hP hD hS => ?_)
    exact hret u2 _ _ _ _ hf hP hD hS dX12_fences_17
abbrev w_X12_counts (h_t : Nat) (r_t : Nat → Nat) (F_t : Nat → Int32) (cI : ClassId) (a_rows : Nat → Int32) : va_W := [(h_t, .inr (12, o_X12 r_t F_t)), ((r_t 0), .inl (cI, 66100, .inl a_rows))]
abbrev rm_X12_counts : Room := { frames := 2, cells := 0, slots := 0, locals := 48 }
def m_X12_counts (a_rows : Nat → Int32) (p1 : Int32) (p2 : Int32) : Option ((Nat → Int32)) :=
  bd (m_X12_lays a_rows p1 0 0 p2) fun u1 =>
  bd (m_X12_flushes u1 p1 32 0) fun u2 =>
  some u2
set_option maxHeartbeats 4000000 in
set_option maxRecDepth 100000 in
theorem c_X12_counts (l : Launch) (D : va_G) (cI : ClassId) (h_t : Nat) (r_t : Nat → Nat) (F_t : Nat → Int32) (a_rows : Nat → Int32) (p1 : Int32) (p2 : Int32) (Rr : (Nat → Int32)) (hf : m_X12_counts a_rows p1 p2 = some Rr) : CTv l yX12_counts (Cond.code yX12_counts cX12_counts 3 none) rm_X12_counts D cI [.ref h_t, .int p1, .int p2] (w_X12_counts h_t r_t F_t cI a_rows) (w_X12_counts h_t r_t F_t cI Rr) := by
  refine z_begin_v (own := RX12) (ρ := (Nat → Int32)) (fun u => w_X12_counts h_t r_t F_t cI u) (by decide +kernel) rfl (Nat.le_of_ble_eq_true rfl) ?_
  intro p e s m args below meth c ls Q A hx hb hml hts hcx hown hK hX hA hP hD hS hl hret
  have hl : lv_has ls 3 [(0, .ref h_t), (1, .int p1), (2, .int p2)] := hl
  have hf := (m_X12_counts.eq_1 _ _ _).symm.trans hf
  refine lv_aload_n hx hb dX12_counts_0 rfl (lv_at hl 0 rfl) ?_
  refine lv_iload_n hx hb dX12_counts_1 rfl (lv_at hl 1 rfl) ?_
  refine lv_iconst (v := 0) hx hb dX12_counts_2 (by decide) ?_
  refine lv_iconst (v := 0) hx hb dX12_counts_3 (by decide) ?_
  refine lv_iload_n hx hb dX12_counts_4 rfl (lv_at hl 2 rfl) ?_
  obtain ⟨u1, hu1, hf⟩ := bd_some hf
  refine z_cv (ws1 := w_X12_counts h_t r_t F_t cI u1) (wr := List.filterMap (fun i : Nat => (w_X12_counts h_t r_t F_t cI a_rows)[i]?) []) (z_rV (rest := []) hx hb hml hown hcx hl.1 (c_X12_lays l D cI h_t r_t F_t a_rows p1 0 0 p2 u1 hu1 _) tl_X12_134 ti_X12_lays tz_X12_lays tn_X12 tc_X12_lays tm_X12_lays rfl rfl ⟨Nat.le_of_ble_eq_true rfl, Nat.le_of_ble_eq_true rfl⟩ hK hX hS hA hP hD [0, 1] rfl rfl 0 rfl rfl rfl rfl (Nat.le_of_ble_eq_true rfl) dX12_counts_5 ⟨Nat.zero_le _, Nat.zero_le _⟩) hP hD hS hA [0, 1] [] [0, 1] rfl rfl rfl (by decide) rfl rfl (fun H locs hP hD hS => ?_)
  refine lv_aload_n hx hb dX12_counts_8 rfl (lv_at hl 0 rfl) ?_
  refine lv_iload_n hx hb dX12_counts_9 rfl (lv_at hl 1 rfl) ?_
  refine lv_bipush (v := 32) hx hb dX12_counts_10 (by decide) ?_
  refine lv_iconst (v := 0) hx hb dX12_counts_12 (by decide) ?_
  obtain ⟨u2, hu2, hf⟩ := bd_some hf
  refine z_cv (ws1 := w_X12_counts h_t r_t F_t cI u2) (wr := List.filterMap (fun i : Nat => (w_X12_counts h_t r_t F_t cI u1)[i]?) []) (z_rV (rest := []) hx hb hml hown hcx hl.1 (c_X12_flushes l D cI h_t r_t F_t u1 p1 32 0 u2 hu2 _) tl_X12_138 ti_X12_flushes tz_X12_flushes tn_X12 tc_X12_flushes tm_X12_flushes rfl rfl ⟨Nat.le_of_ble_eq_true rfl, Nat.le_of_ble_eq_true rfl⟩ hK hX hS hA hP hD [0, 1] rfl rfl 0 rfl rfl rfl rfl (Nat.le_of_ble_eq_true rfl) dX12_counts_13 ⟨Nat.zero_le _, Nat.zero_le _⟩) hP hD hS hA [0, 1] [] [0, 1] rfl rfl rfl (by decide) rfl rfl (fun H locs hP hD hS => ?_)
  exact hret u2 _ _ _ _ hf hP hD hS dX12_counts_16
abbrev w_X12_laysEnd (h_t : Nat) (r_t : Nat → Nat) (F_t : Nat → Int32) (cI : ClassId) (a_rows : Nat → Int32) (a_address : Nat → Int32) : va_W := [(h_t, .inr (12, o_X12 r_t F_t)), ((r_t 0), .inl (cI, 66100, .inl a_rows)), ((r_t 17), .inl (cI, 64, .inl a_address))]
abbrev rm_X12_laysEnd : Room := { frames := 3, cells := 0, slots := 0, locals := 70 }
def m_X12_laysEnd_j82 (F_t : Nat → Int32) (a_address : Nat → Int32) (p1 : Int32) (a_rows : Nat → Int32) : Option ((Nat → Int32)) :=
  bd (m_X12_fences a_rows p1 4) fun u1 =>
  bd (m_X12_counts u1 p1 0) fun u2 =>
  bd (m_X12_fences u2 p1 8) fun u3 =>
  some u3
def m_X12_laysEnd_j76 (F_t : Nat → Int32) (a_address : Nat → Int32) (p1 : Int32) (k2 : Int32 → (Nat → Int32) → Option ((Nat → Int32))) (x2 : Int32) (a_rows : Nat → Int32) : Option ((Nat → Int32)) :=
  nm (x2 + 1) fun v4 =>
  k2 v4 a_rows
def m_X12_laysEnd_j57 (F_t : Nat → Int32) (a_address : Nat → Int32) (p1 : Int32) (k2 : Int32 → (Nat → Int32) → Option ((Nat → Int32))) (x2 : Int32) (x3 : Int32) (a_rows : Nat → Int32) : Option ((Nat → Int32)) :=
  if x3 = 0 then (
  m_X12_laysEnd_j76 F_t a_address p1 k2 x2 a_rows)
  else (
  rd a_address 64 x2 fun y5 =>
  bd (m_X12_flushes a_rows p1 64 (y5 / 4)) fun u6 =>
  m_X12_laysEnd_j76 F_t a_address p1 k2 x2 u6)
def m_X12_laysEnd_j50 (F_t : Nat → Int32) (a_address : Nat → Int32) (p1 : Int32) (k15 : Int32 → Int32 → Int32 → (Nat → Int32) → Option ((Nat → Int32))) (x2 : Int32) (x4 : Int32) (s0 : Int32) (a_rows : Nat → Int32) : Option ((Nat → Int32)) :=
  nm (x4 + 1) fun v7 =>
  k15 x2 s0 v7 a_rows
def m_X12_laysEnd_j49 (F_t : Nat → Int32) (a_address : Nat → Int32) (p1 : Int32) (k15 : Int32 → Int32 → Int32 → (Nat → Int32) → Option ((Nat → Int32))) (x2 : Int32) (x4 : Int32) (a_rows : Nat → Int32) : Option ((Nat → Int32)) :=
  m_X12_laysEnd_j50 F_t a_address p1 k15 x2 x4 0 a_rows
def m_X12_laysEnd_w15 (F_t : Nat → Int32) (a_address : Nat → Int32) (p1 : Int32) (k57 : Int32 → Int32 → (Nat → Int32) → Option ((Nat → Int32))) : Nat → Int32 → Int32 → Int32 → (Nat → Int32) → Option ((Nat → Int32))
  | 0, _, _, _, _ => none
  | n15 + 1, x2, x3, x4, a_rows =>
    if x2 ≤ x4 then (
    k57 x2 x3 a_rows)
    else (
    if x3 = 0 then (
    m_X12_laysEnd_j49 F_t a_address p1 (m_X12_laysEnd_w15 F_t a_address p1 k57 n15) x2 x4 a_rows)
    else (
    rd a_address 64 x4 fun y8 =>
    rd a_address 64 x2 fun y9 =>
    if (y8 / 4) = (y9 / 4) then (
    m_X12_laysEnd_j49 F_t a_address p1 (m_X12_laysEnd_w15 F_t a_address p1 k57 n15) x2 x4 a_rows)
    else (
    m_X12_laysEnd_j50 F_t a_address p1 (m_X12_laysEnd_w15 F_t a_address p1 k57 n15) x2 x4 1 a_rows)))
def m_X12_laysEnd_w2 (F_t : Nat → Int32) (a_address : Nat → Int32) (p1 : Int32) (k82 : (Nat → Int32) → Option ((Nat → Int32))) : Nat → Int32 → (Nat → Int32) → Option ((Nat → Int32))
  | 0, _, _ => none
  | n2 + 1, x2, a_rows =>
    if (F_t 19) ≤ x2 then (
    k82 a_rows)
    else (
    m_X12_laysEnd_w15 F_t a_address p1 (m_X12_laysEnd_j57 F_t a_address p1 (m_X12_laysEnd_w2 F_t a_address p1 k82 n2)) fuelN x2 1 0 a_rows)
def m_X12_laysEnd (F_t : Nat → Int32) (a_rows : Nat → Int32) (a_address : Nat → Int32) (p1 : Int32) : Option ((Nat → Int32)) :=
  m_X12_laysEnd_w2 F_t a_address p1 (m_X12_laysEnd_j82 F_t a_address p1) fuelN 0 a_rows
set_option maxHeartbeats 4000000 in
set_option maxRecDepth 100000 in
theorem c_X12_laysEnd (l : Launch) (D : va_G) (cI : ClassId) (h_t : Nat) (r_t : Nat → Nat) (F_t : Nat → Int32) (a_rows : Nat → Int32) (a_address : Nat → Int32) (p1 : Int32) (Rr : (Nat → Int32)) (hf : m_X12_laysEnd F_t a_rows a_address p1 = some Rr) : CTv l yX12_laysEnd (Cond.code yX12_laysEnd cX12_laysEnd 5 none) rm_X12_laysEnd D cI [.ref h_t, .int p1] (w_X12_laysEnd h_t r_t F_t cI a_rows a_address) (w_X12_laysEnd h_t r_t F_t cI Rr a_address) := by
  refine z_begin_v (own := RX12) (ρ := (Nat → Int32)) (fun u => w_X12_laysEnd h_t r_t F_t cI u a_address) (by decide +kernel) rfl (Nat.le_of_ble_eq_true rfl) ?_
  intro p e s m args below meth c ls Q A hx hb hml hts hcx hown hK hX hA hP hD hS hl hret
  have hl : lv_has ls 5 [(0, .ref h_t), (1, .int p1)] := hl
  have hf := (m_X12_laysEnd.eq_1 _ _ _ _).symm.trans hf
  have L82 : ∀ (a_rows : Nat → Int32) (H : Heap) (locs : List Loc) (ls : Array Slot), m_X12_laysEnd_j82 F_t a_address p1 a_rows = some Rr → va_P D vwCl (w_X12_laysEnd h_t r_t F_t cI a_rows a_address) H → va_D A (w_X12_laysEnd h_t r_t F_t cI a_rows a_address) → va_S A s.heap H locs → lv_has ls 5 [(0, .ref h_t), (1, .int p1)] → W p l e rm_X12_laysEnd s m args below meth c H locs 0 0 Q (F0 m 82 ls []) := by
    intro a_rows H locs ls hf hP hD hS hl
    have hf := (m_X12_laysEnd_j82.eq_1 _ _ _ _).symm.trans hf
    refine lv_aload_n hx hb dX12_laysEnd_82 rfl (lv_at hl 0 rfl) ?_
    refine lv_iload_n hx hb dX12_laysEnd_83 rfl (lv_at hl 1 rfl) ?_
    refine lv_iconst (v := 4) hx hb dX12_laysEnd_84 (by decide) ?_
    obtain ⟨u1, hu1, hf⟩ := bd_some hf
    refine z_cv (ws1 := w_X12_laysEnd h_t r_t F_t cI u1 a_address) (wr := List.filterMap (fun i : Nat => (w_X12_laysEnd h_t r_t F_t cI a_rows a_address)[i]?) [2]) (z_rV (rest := []) hx hb hml hown hcx hl.1 (c_X12_fences l D cI h_t r_t F_t a_rows p1 4 u1 hu1 _) tl_X12_141 ti_X12_fences tz_X12_fences tn_X12 tc_X12_fences tm_X12_fences rfl rfl ⟨Nat.le_of_ble_eq_true rfl, Nat.le_of_ble_eq_true rfl⟩ hK hX hS hA hP hD [0, 1] rfl rfl 0 rfl rfl rfl rfl (Nat.le_of_ble_eq_true rfl) dX12_laysEnd_85 ⟨Nat.zero_le _, Nat.zero_le _⟩) hP hD hS hA [0, 1] [2] [1, 2, 0] rfl rfl rfl (by decide) rfl rfl (fun H locs hP hD hS => ?_)
    refine lv_aload_n hx hb dX12_laysEnd_88 rfl (lv_at hl 0 rfl) ?_
    refine lv_iload_n hx hb dX12_laysEnd_89 rfl (lv_at hl 1 rfl) ?_
    refine lv_iconst (v := 0) hx hb dX12_laysEnd_90 (by decide) ?_
    obtain ⟨u2, hu2, hf⟩ := bd_some hf
    refine z_cv (ws1 := w_X12_laysEnd h_t r_t F_t cI u2 a_address) (wr := List.filterMap (fun i : Nat => (w_X12_laysEnd h_t r_t F_t cI u1 a_address)[i]?) [2]) (z_rV (rest := []) hx hb hml hown hcx hl.1 (c_X12_counts l D cI h_t r_t F_t u1 p1 0 u2 hu2 _) tl_X12_144 ti_X12_counts tz_X12_counts tn_X12 tc_X12_counts tm_X12_counts rfl rfl ⟨Nat.le_of_ble_eq_true rfl, Nat.le_of_ble_eq_true rfl⟩ hK hX hS hA hP hD [0, 1] rfl rfl 0 rfl rfl rfl rfl (Nat.le_of_ble_eq_true rfl) dX12_laysEnd_91 ⟨Nat.zero_le _, Nat.zero_le _⟩) hP hD hS hA [0, 1] [2] [1, 2, 0] rfl rfl rfl (by decide) rfl rfl (fun H locs hP hD hS => ?_)
    refine lv_aload_n hx hb dX12_laysEnd_94 rfl (lv_at hl 0 rfl) ?_
    refine lv_iload_n hx hb dX12_laysEnd_95 rfl (lv_at hl 1 rfl) ?_
    refine lv_bipush (v := 8) hx hb dX12_laysEnd_96 (by decide) ?_
    obtain ⟨u3, hu3, hf⟩ := bd_some hf
    refine z_cv (ws1 := w_X12_laysEnd h_t r_t F_t cI u3 a_address) (wr := List.filterMap (fun i : Nat => (w_X12_laysEnd h_t r_t F_t cI u2 a_address)[i]?) [2]) (z_rV (rest := []) hx hb hml hown hcx hl.1 (c_X12_fences l D cI h_t r_t F_t u2 p1 8 u3 hu3 _) tl_X12_141 ti_X12_fences tz_X12_fences tn_X12 tc_X12_fences tm_X12_fences rfl rfl ⟨Nat.le_of_ble_eq_true rfl, Nat.le_of_ble_eq_true rfl⟩ hK hX hS hA hP hD [0, 1] rfl rfl 0 rfl rfl rfl rfl (Nat.le_of_ble_eq_true rfl) dX12_laysEnd_98 ⟨Nat.zero_le _, Nat.zero_le _⟩) hP hD hS hA [0, 1] [2] [1, 2, 0] rfl rfl rfl (by decide) rfl rfl (fun H locs hP hD hS => ?_)
    exact hret u3 _ _ _ _ hf hP hD hS dX12_laysEnd_101
  have L2 : ∀ (n2 : Nat) (x2 : Int32) (a_rows : Nat → Int32) (H : Heap) (locs : List Loc) (ls : Array Slot), m_X12_laysEnd_w2 F_t a_address p1 (m_X12_laysEnd_j82 F_t a_address p1) n2 x2 a_rows = some Rr → va_P D vwCl (w_X12_laysEnd h_t r_t F_t cI a_rows a_address) H → va_D A (w_X12_laysEnd h_t r_t F_t cI a_rows a_address) → va_S A s.heap H locs → lv_has ls 5 [(0, .ref h_t), (1, .int p1), (2, .int x2)] → W p l e rm_X12_laysEnd s m args below meth c H locs 0 0 Q (F0 m 2 ls []) := by
    intro n2
    induction n2 with
    | zero => intro x2 a_rows H locs ls hf; cases (show (none : Option _) = some Rr from hf)
    | succ n2 ih2 =>
      intro x2 a_rows H locs ls hf hP hD hS hl
      have hf := (m_X12_laysEnd_w2.eq_2 _ _ _ _ _ _ _).symm.trans hf
      have L76 : ∀ (x2 : Int32) (a_rows : Nat → Int32) (H : Heap) (locs : List Loc) (ls : Array Slot), m_X12_laysEnd_j76 F_t a_address p1 (m_X12_laysEnd_w2 F_t a_address p1 (m_X12_laysEnd_j82 F_t a_address p1) n2) x2 a_rows = some Rr → va_P D vwCl (w_X12_laysEnd h_t r_t F_t cI a_rows a_address) H → va_D A (w_X12_laysEnd h_t r_t F_t cI a_rows a_address) → va_S A s.heap H locs → lv_has ls 5 [(0, .ref h_t), (1, .int p1), (2, .int x2)] → W p l e rm_X12_laysEnd s m args below meth c H locs 0 0 Q (F0 m 76 ls []) := by
        intro x2 a_rows H locs ls hf hP hD hS hl
        have hf := (m_X12_laysEnd_j76.eq_1 _ _ _ _ _ _).symm.trans hf
        refine z_iinc (k0 := 2) (fun z => [(2, .int z), (0, .ref h_t), (1, .int p1)]) hx hb dX12_laysEnd_76 hl rfl (by decide) (by decide) (fun _ => rfl) hf (fun v4 ls hf hl => ?_)
        refine lv_goto (tgt := 2) hx hb dX12_laysEnd_79 (by decide) ?_
        exact ih2 v4 a_rows _ _ _ hf hP hD hS (lv_sub hl [1, 2, 0] rfl)
      have L57 : ∀ (x2 : Int32) (x3 : Int32) (a_rows : Nat → Int32) (H : Heap) (locs : List Loc) (ls : Array Slot), m_X12_laysEnd_j57 F_t a_address p1 (m_X12_laysEnd_w2 F_t a_address p1 (m_X12_laysEnd_j82 F_t a_address p1) n2) x2 x3 a_rows = some Rr → va_P D vwCl (w_X12_laysEnd h_t r_t F_t cI a_rows a_address) H → va_D A (w_X12_laysEnd h_t r_t F_t cI a_rows a_address) → va_S A s.heap H locs → lv_has ls 5 [(0, .ref h_t), (1, .int p1), (2, .int x2), (3, .int x3)] → W p l e rm_X12_laysEnd s m args below meth c H locs 0 0 Q (F0 m 57 ls []) := by
        intro x2 x3 a_rows H locs ls hf hP hD hS hl
        have hf := (m_X12_laysEnd_j57.eq_1 _ _ _ _ _ _ _).symm.trans hf
        refine lv_iload_n hx hb dX12_laysEnd_57 rfl (lv_at hl 3 rfl) ?_
        refine z_if_eq (tgt := 76) hx hb dX12_laysEnd_58 (by decide) hf (fun hf => ?_) (fun hf => ?_)
        · exact L76 x2 a_rows _ _ _ hf hP hD hS (lv_sub hl [0, 1, 2] rfl)
        · refine lv_aload_n hx hb dX12_laysEnd_61 rfl (lv_at hl 0 rfl) ?_
          refine lv_iload_n hx hb dX12_laysEnd_62 rfl (lv_at hl 1 rfl) ?_
          refine lv_bipush (v := 64) hx hb dX12_laysEnd_63 (by decide) ?_
          refine lv_aload_n hx hb dX12_laysEnd_65 rfl (lv_at hl 0 rfl) ?_
          refine z_get (ci := 12) (C := RX12) (T := TX12) (N := 51) (v := .ref (r_t 17)) hx hb hts inT_X12 hown hK hP 0 rfl rfl 17 (by decide) tf_X12_33 rfl dX12_laysEnd_66 ?_
          refine lv_iload_n hx hb dX12_laysEnd_69 rfl (lv_at hl 2 rfl) ?_
          refine z_iald hx hb hK hP 2 rfl dX12_laysEnd_70 hf (fun y5 hf => ?_)
          refine lv_iconst (v := 4) hx hb dX12_laysEnd_71 (by decide) ?_
          refine lv_idiv hx hb dX12_laysEnd_72 (by decide) ?_
          obtain ⟨u6, hu6, hf⟩ := bd_some hf
          refine z_cv (ws1 := w_X12_laysEnd h_t r_t F_t cI u6 a_address) (wr := List.filterMap (fun i : Nat => (w_X12_laysEnd h_t r_t F_t cI a_rows a_address)[i]?) [2]) (z_rV (rest := []) hx hb hml hown hcx hl.1 (c_X12_flushes l D cI h_t r_t F_t a_rows p1 64 (y5 / 4) u6 hu6 _) tl_X12_138 ti_X12_flushes tz_X12_flushes tn_X12 tc_X12_flushes tm_X12_flushes rfl rfl ⟨Nat.le_of_ble_eq_true rfl, Nat.le_of_ble_eq_true rfl⟩ hK hX hS hA hP hD [0, 1] rfl rfl 0 rfl rfl rfl rfl (Nat.le_of_ble_eq_true rfl) dX12_laysEnd_73 ⟨Nat.zero_le _, Nat.zero_le _⟩) hP hD hS hA [0, 1] [2] [1, 2, 0] rfl rfl rfl (by decide) rfl rfl (fun H locs hP hD hS => ?_)
          exact L76 x2 u6 _ _ _ hf hP hD hS (lv_sub hl [0, 1, 2] rfl)
      have L15 : ∀ (n15 : Nat) (x2 : Int32) (x3 : Int32) (x4 : Int32) (a_rows : Nat → Int32) (H : Heap) (locs : List Loc) (ls : Array Slot), m_X12_laysEnd_w15 F_t a_address p1 (m_X12_laysEnd_j57 F_t a_address p1 (m_X12_laysEnd_w2 F_t a_address p1 (m_X12_laysEnd_j82 F_t a_address p1) n2)) n15 x2 x3 x4 a_rows = some Rr → va_P D vwCl (w_X12_laysEnd h_t r_t F_t cI a_rows a_address) H → va_D A (w_X12_laysEnd h_t r_t F_t cI a_rows a_address) → va_S A s.heap H locs → lv_has ls 5 [(0, .ref h_t), (1, .int p1), (2, .int x2), (3, .int x3), (4, .int x4)] → W p l e rm_X12_laysEnd s m args below meth c H locs 0 0 Q (F0 m 15 ls []) := by
        intro n15
        induction n15 with
        | zero => intro x2 x3 x4 a_rows H locs ls hf; cases (show (none : Option _) = some Rr from hf)
        | succ n15 ih15 =>
          intro x2 x3 x4 a_rows H locs ls hf hP hD hS hl
          have hf := (m_X12_laysEnd_w15.eq_2 _ _ _ _ _ _ _ _ _).symm.trans hf
          have L50 : ∀ (x2 : Int32) (x4 : Int32) (s0 : Int32) (a_rows : Nat → Int32) (H : Heap) (locs : List Loc) (ls : Array Slot), m_X12_laysEnd_j50 F_t a_address p1 (m_X12_laysEnd_w15 F_t a_address p1 (m_X12_laysEnd_j57 F_t a_address p1 (m_X12_laysEnd_w2 F_t a_address p1 (m_X12_laysEnd_j82 F_t a_address p1) n2)) n15) x2 x4 s0 a_rows = some Rr → va_P D vwCl (w_X12_laysEnd h_t r_t F_t cI a_rows a_address) H → va_D A (w_X12_laysEnd h_t r_t F_t cI a_rows a_address) → va_S A s.heap H locs → lv_has ls 5 [(0, .ref h_t), (1, .int p1), (2, .int x2), (4, .int x4)] → W p l e rm_X12_laysEnd s m args below meth c H locs 0 0 Q (F0 m 50 ls [.int s0]) := by
            intro x2 x4 s0 a_rows H locs ls hf hP hD hS hl
            have hf := (m_X12_laysEnd_j50.eq_1 _ _ _ _ _ _ _ _).symm.trans hf
            refine lv_istore_n (lv' := [(3, .int s0), (0, .ref h_t), (1, .int p1), (2, .int x2), (4, .int x4)]) hx hb dX12_laysEnd_50 rfl hl (by decide) rfl (fun ls hl => ?_)
            refine z_iinc (k0 := 4) (fun z => [(4, .int z), (3, .int s0), (0, .ref h_t), (1, .int p1), (2, .int x2)]) hx hb dX12_laysEnd_51 hl rfl (by decide) (by decide) (fun _ => rfl) hf (fun v7 ls hf hl => ?_)
            refine lv_goto (tgt := 15) hx hb dX12_laysEnd_54 (by decide) ?_
            exact ih15 x2 s0 v7 a_rows _ _ _ hf hP hD hS (lv_sub hl [2, 3, 4, 1, 0] rfl)
          have L49 : ∀ (x2 : Int32) (x4 : Int32) (a_rows : Nat → Int32) (H : Heap) (locs : List Loc) (ls : Array Slot), m_X12_laysEnd_j49 F_t a_address p1 (m_X12_laysEnd_w15 F_t a_address p1 (m_X12_laysEnd_j57 F_t a_address p1 (m_X12_laysEnd_w2 F_t a_address p1 (m_X12_laysEnd_j82 F_t a_address p1) n2)) n15) x2 x4 a_rows = some Rr → va_P D vwCl (w_X12_laysEnd h_t r_t F_t cI a_rows a_address) H → va_D A (w_X12_laysEnd h_t r_t F_t cI a_rows a_address) → va_S A s.heap H locs → lv_has ls 5 [(0, .ref h_t), (1, .int p1), (2, .int x2), (4, .int x4)] → W p l e rm_X12_laysEnd s m args below meth c H locs 0 0 Q (F0 m 49 ls []) := by
            intro x2 x4 a_rows H locs ls hf hP hD hS hl
            have hf := (m_X12_laysEnd_j49.eq_1 _ _ _ _ _ _ _).symm.trans hf
            refine lv_iconst (v := 0) hx hb dX12_laysEnd_49 (by decide) ?_
            exact L50 x2 x4 0 a_rows _ _ _ hf hP hD hS (lv_sub hl [0, 1, 2, 3] rfl)
          refine lv_iload hx hb dX12_laysEnd_15 (lv_at hl 4 rfl) ?_
          refine lv_iload_n hx hb dX12_laysEnd_17 rfl (lv_at hl 2 rfl) ?_
          refine z_icmp_ge (tgt := 57) hx hb dX12_laysEnd_18 (by decide) hf (fun hf => ?_) (fun hf => ?_)
          · exact L57 x2 x3 a_rows _ _ _ hf hP hD hS (lv_sub hl [0, 1, 2, 3] rfl)
          · refine lv_iload_n hx hb dX12_laysEnd_21 rfl (lv_at hl 3 rfl) ?_
            refine z_if_eq (tgt := 49) hx hb dX12_laysEnd_22 (by decide) hf (fun hf => ?_) (fun hf => ?_)
            · exact L49 x2 x4 a_rows _ _ _ hf hP hD hS (lv_sub hl [0, 1, 2, 4] rfl)
            · refine lv_aload_n hx hb dX12_laysEnd_25 rfl (lv_at hl 0 rfl) ?_
              refine z_get (ci := 12) (C := RX12) (T := TX12) (N := 51) (v := .ref (r_t 17)) hx hb hts inT_X12 hown hK hP 0 rfl rfl 17 (by decide) tf_X12_33 rfl dX12_laysEnd_26 ?_
              refine lv_iload hx hb dX12_laysEnd_29 (lv_at hl 4 rfl) ?_
              refine z_iald hx hb hK hP 2 rfl dX12_laysEnd_31 hf (fun y8 hf => ?_)
              refine lv_iconst (v := 4) hx hb dX12_laysEnd_32 (by decide) ?_
              refine lv_idiv hx hb dX12_laysEnd_33 (by decide) ?_
              refine lv_aload_n hx hb dX12_laysEnd_34 rfl (lv_at hl 0 rfl) ?_
              refine z_get (ci := 12) (C := RX12) (T := TX12) (N := 51) (v := .ref (r_t 17)) hx hb hts inT_X12 hown hK hP 0 rfl rfl 17 (by decide) tf_X12_33 rfl dX12_laysEnd_35 ?_
              refine lv_iload_n hx hb dX12_laysEnd_38 rfl (lv_at hl 2 rfl) ?_
              refine z_iald hx hb hK hP 2 rfl dX12_laysEnd_39 hf (fun y9 hf => ?_)
              refine lv_iconst (v := 4) hx hb dX12_laysEnd_40 (by decide) ?_
              refine lv_idiv hx hb dX12_laysEnd_41 (by decide) ?_
              refine z_icmp_eq (tgt := 49) hx hb dX12_laysEnd_42 (by decide) hf (fun hf => ?_) (fun hf => ?_)
              · exact L49 x2 x4 a_rows _ _ _ hf hP hD hS (lv_sub hl [0, 1, 2, 4] rfl)
              · refine lv_iconst (v := 1) hx hb dX12_laysEnd_45 (by decide) ?_
                refine lv_goto (tgt := 50) hx hb dX12_laysEnd_46 (by decide) ?_
                exact L50 x2 x4 1 a_rows _ _ _ hf hP hD hS (lv_sub hl [0, 1, 2, 4] rfl)
      refine lv_iload_n hx hb dX12_laysEnd_2 rfl (lv_at hl 2 rfl) ?_
      refine lv_aload_n hx hb dX12_laysEnd_3 rfl (lv_at hl 0 rfl) ?_
      refine z_get (ci := 12) (C := RX12) (T := TX12) (N := 51) (v := .int (F_t 19)) hx hb hts inT_X12 hown hK hP 0 rfl rfl 19 (by decide) tf_X12_73 rfl dX12_laysEnd_4 ?_
      refine z_icmp_ge (tgt := 82) hx hb dX12_laysEnd_7 (by decide) hf (fun hf => ?_) (fun hf => ?_)
      · exact L82 a_rows _ _ _ hf hP hD hS (lv_sub hl [0, 1] rfl)
      · refine lv_iconst (v := 1) hx hb dX12_laysEnd_10 (by decide) ?_
        refine lv_istore_n (lv' := [(3, .int 1), (0, .ref h_t), (1, .int p1), (2, .int x2)]) hx hb dX12_laysEnd_11 rfl hl (by decide) rfl (fun ls hl => ?_)
        refine lv_iconst (v := 0) hx hb dX12_laysEnd_12 (by decide) ?_
        refine lv_istore (lv' := [(4, .int 0), (3, .int 1), (0, .ref h_t), (1, .int p1), (2, .int x2)]) hx hb dX12_laysEnd_13 hl (by decide) rfl (fun ls hl => ?_)
        exact L15 fuelN x2 1 0 a_rows _ _ _ hf hP hD hS (lv_sub hl [2, 3, 4, 1, 0] rfl)
  refine lv_iconst (v := 0) hx hb dX12_laysEnd_0 (by decide) ?_
  refine lv_istore_n (lv' := [(2, .int 0), (0, .ref h_t), (1, .int p1)]) hx hb dX12_laysEnd_1 rfl hl (by decide) rfl (fun ls hl => ?_)
  exact L2 fuelN 0 a_rows _ _ _ hf hP hD hS (lv_sub hl [1, 2, 0] rfl)
abbrev w_X12_laysMicros (h_t : Nat) (r_t : Nat → Nat) (F_t : Nat → Int32) (cI : ClassId) (a_rows : Nat → Int32) (a_words : Nat → Int32) (a_address : Nat → Int32) (a_number : Nat → Int32) : va_W := [(h_t, .inr (12, o_X12 r_t F_t)), ((r_t 0), .inl (cI, 66100, .inl a_rows)), ((r_t 16), .inl (cI, 64, .inl a_words)), ((r_t 17), .inl (cI, 64, .inl a_address)), ((r_t 18), .inl (cI, 64, .inl a_number))]
abbrev rm_X12_laysMicros : Room := { frames := 4, cells := 0, slots := 0, locals := 94 }
def m_X12_laysMicros_j238 (F_t : Nat → Int32) (a_address : Nat → Int32) (a_number : Nat → Int32) (p1 : Int32) (a_rows : Nat → Int32) (a_words : Nat → Int32) : Option ((Nat → Int32) × (Nat → Int32)) :=
  bd (m_X12_laysEnd F_t a_rows a_address p1) fun u4 =>
  some (u4, a_words)
def m_X12_laysMicros_w206 (F_t : Nat → Int32) (a_address : Nat → Int32) (a_number : Nat → Int32) (p1 : Int32) (k238 : (Nat → Int32) → (Nat → Int32) → Option ((Nat → Int32) × (Nat → Int32))) : Nat → Int32 → (Nat → Int32) → (Nat → Int32) → Option ((Nat → Int32) × (Nat → Int32))
  | 0, _, _, _ => none
  | n206 + 1, x2, a_rows, a_words =>
    if (F_t 19) ≤ x2 then (
    k238 a_rows a_words)
    else (
    rd a_address 64 x2 fun y8 =>
    rd a_number 64 x2 fun y9 =>
    bd (m_X12_lays a_rows p1 0 y8 y9) fun u10 =>
    nm (x2 + 1) fun v11 =>
    m_X12_laysMicros_w206 F_t a_address a_number p1 k238 n206 v11 u10 a_words)
def m_X12_laysMicros_j175 (F_t : Nat → Int32) (a_address : Nat → Int32) (a_number : Nat → Int32) (p1 : Int32) (a_rows : Nat → Int32) (a_words : Nat → Int32) : Option ((Nat → Int32) × (Nat → Int32)) :=
  if (F_t 12) = 1 then (
  bd (m_X12_fences a_rows p1 1) fun u5 =>
  bd (m_X12_counts u5 p1 (F_t 19)) fun u6 =>
  bd (m_X12_fences u6 p1 2) fun u7 =>
  m_X12_laysMicros_w206 F_t a_address a_number p1 (m_X12_laysMicros_j238 F_t a_address a_number p1) fuelN 0 u7 a_words)
  else (
  m_X12_laysMicros_j238 F_t a_address a_number p1 a_rows a_words)
def m_X12_laysMicros_j169 (F_t : Nat → Int32) (a_address : Nat → Int32) (a_number : Nat → Int32) (p1 : Int32) (k29 : Int32 → (Nat → Int32) → (Nat → Int32) → Option ((Nat → Int32) × (Nat → Int32))) (x2 : Int32) (a_rows : Nat → Int32) (a_words : Nat → Int32) : Option ((Nat → Int32) × (Nat → Int32)) :=
  nm (x2 + 1) fun v28 =>
  k29 v28 a_rows a_words
def m_X12_laysMicros_j90 (F_t : Nat → Int32) (a_address : Nat → Int32) (a_number : Nat → Int32) (p1 : Int32) (k29 : Int32 → (Nat → Int32) → (Nat → Int32) → Option ((Nat → Int32) × (Nat → Int32))) (x2 : Int32) (x3 : Int32) (s1 : Int32) (s2 : Int32) (s3 : Int32) (s4 : Int32) (a_rows : Nat → Int32) (a_words : Nat → Int32) : Option ((Nat → Int32) × (Nat → Int32)) :=
  bd (m_X12_lays a_rows s1 s2 s3 s4) fun u17 =>
  bd (m_X12_flushes u17 p1 16 (x3 / 4)) fun u18 =>
  if (F_t 12) = 1 then (
  m_X12_laysMicros_j169 F_t a_address a_number p1 k29 x2 u18 a_words)
  else (
  bd (m_X12_fences u18 p1 1) fun u19 =>
  bd (m_X12_counts u19 p1 (x2 + 1)) fun u20 =>
  bd (m_X12_fences u20 p1 2) fun u21 =>
  rd a_address 64 x2 fun y22 =>
  rd a_number 64 x2 fun y23 =>
  bd (m_X12_lays u21 p1 0 y22 y23) fun u24 =>
  rd a_address 64 x2 fun y25 =>
  rd a_number 64 x2 fun y26 =>
  wr a_words 64 y25 y26 fun a27 =>
  m_X12_laysMicros_j169 F_t a_address a_number p1 k29 x2 u24 a27)
def m_X12_laysMicros_w29 (F_t : Nat → Int32) (a_address : Nat → Int32) (a_number : Nat → Int32) (p1 : Int32) (k175 : (Nat → Int32) → (Nat → Int32) → Option ((Nat → Int32) × (Nat → Int32))) : Nat → Int32 → (Nat → Int32) → (Nat → Int32) → Option ((Nat → Int32) × (Nat → Int32))
  | 0, _, _, _ => none
  | n29 + 1, x2, a_rows, a_words =>
    if (F_t 19) ≤ x2 then (
    k175 a_rows a_words)
    else (
    nm (4 + (2 * x2)) fun v12 =>
    rd a_address 64 x2 fun y13 =>
    bd (m_X12_lays a_rows p1 0 v12 y13) fun u14 =>
    if (F_t 12) = 1 then (
    rd a_number 64 x2 fun y29 =>
    m_X12_laysMicros_j90 F_t a_address a_number p1 (m_X12_laysMicros_w29 F_t a_address a_number p1 k175 n29) x2 v12 p1 0 (v12 + 1) y29 u14 a_words)
    else (
    rd a_address 64 x2 fun y15 =>
    rd a_words 64 y15 fun y16 =>
    m_X12_laysMicros_j90 F_t a_address a_number p1 (m_X12_laysMicros_w29 F_t a_address a_number p1 k175 n29) x2 v12 p1 0 (v12 + 1) y16 u14 a_words))
def m_X12_laysMicros (F_t : Nat → Int32) (a_rows : Nat → Int32) (a_words : Nat → Int32) (a_address : Nat → Int32) (a_number : Nat → Int32) (p1 : Int32) : Option ((Nat → Int32) × (Nat → Int32)) :=
  wr a_rows 66100 (p1 + 774) 0 fun a1 =>
  wr a1 66100 (p1 + 775) 0 fun a2 =>
  bd (m_X12_laysWords a2 a_words p1) fun u3 =>
  m_X12_laysMicros_w29 F_t a_address a_number p1 (m_X12_laysMicros_j175 F_t a_address a_number p1) fuelN 0 a2 u3
set_option maxHeartbeats 4000000 in
set_option maxRecDepth 100000 in
theorem c_X12_laysMicros (l : Launch) (D : va_G) (cI : ClassId) (h_t : Nat) (r_t : Nat → Nat) (F_t : Nat → Int32) (a_rows : Nat → Int32) (a_words : Nat → Int32) (a_address : Nat → Int32) (a_number : Nat → Int32) (p1 : Int32) (Rr : (Nat → Int32) × (Nat → Int32)) (hf : m_X12_laysMicros F_t a_rows a_words a_address a_number p1 = some Rr) : CTv l yX12_laysMicros (Cond.code yX12_laysMicros cX12_laysMicros 4 none) rm_X12_laysMicros D cI [.ref h_t, .int p1] (w_X12_laysMicros h_t r_t F_t cI a_rows a_words a_address a_number) (w_X12_laysMicros h_t r_t F_t cI Rr.1 Rr.2 a_address a_number) := by
  refine z_begin_v (own := RX12) (ρ := (Nat → Int32) × (Nat → Int32)) (fun u => w_X12_laysMicros h_t r_t F_t cI u.1 u.2 a_address a_number) (by decide +kernel) rfl (Nat.le_of_ble_eq_true rfl) ?_
  intro p e s m args below meth c ls Q A hx hb hml hts hcx hown hK hX hA hP hD hS hl hret
  have hl : lv_has ls 4 [(0, .ref h_t), (1, .int p1)] := hl
  have hf := (m_X12_laysMicros.eq_1 _ _ _ _ _ _).symm.trans hf
  have L238 : ∀ (a_rows : Nat → Int32) (a_words : Nat → Int32) (H : Heap) (locs : List Loc) (ls : Array Slot), m_X12_laysMicros_j238 F_t a_address a_number p1 a_rows a_words = some Rr → va_P D vwCl (w_X12_laysMicros h_t r_t F_t cI a_rows a_words a_address a_number) H → va_D A (w_X12_laysMicros h_t r_t F_t cI a_rows a_words a_address a_number) → va_S A s.heap H locs → lv_has ls 4 [(0, .ref h_t), (1, .int p1)] → W p l e rm_X12_laysMicros s m args below meth c H locs 0 0 Q (F0 m 238 ls []) := by
    intro a_rows a_words H locs ls hf hP hD hS hl
    have hf := (m_X12_laysMicros_j238.eq_1 _ _ _ _ _ _).symm.trans hf
    refine lv_aload_n hx hb dX12_laysMicros_238 rfl (lv_at hl 0 rfl) ?_
    refine lv_iload_n hx hb dX12_laysMicros_239 rfl (lv_at hl 1 rfl) ?_
    obtain ⟨u4, hu4, hf⟩ := bd_some hf
    refine z_cv (ws1 := w_X12_laysMicros h_t r_t F_t cI u4 a_words a_address a_number) (wr := List.filterMap (fun i : Nat => (w_X12_laysMicros h_t r_t F_t cI a_rows a_words a_address a_number)[i]?) [2, 4]) (z_rV (rest := []) hx hb hml hown hcx hl.1 (c_X12_laysEnd l D cI h_t r_t F_t a_rows a_address p1 u4 hu4 _) tl_X12_150 ti_X12_laysEnd tz_X12_laysEnd tn_X12 tc_X12_laysEnd tm_X12_laysEnd rfl rfl ⟨Nat.le_of_ble_eq_true rfl, Nat.le_of_ble_eq_true rfl⟩ hK hX hS hA hP hD [0, 1, 3] rfl rfl 0 rfl rfl rfl rfl (Nat.le_of_ble_eq_true rfl) dX12_laysMicros_240 ⟨Nat.zero_le _, Nat.zero_le _⟩) hP hD hS hA [0, 1, 3] [2, 4] [2, 3, 0, 4, 1] rfl rfl rfl (by decide) rfl rfl (fun H locs hP hD hS => ?_)
    exact hret (u4, a_words) _ _ _ _ hf hP hD hS dX12_laysMicros_243
  have L206 : ∀ (n206 : Nat) (x2 : Int32) (a_rows : Nat → Int32) (a_words : Nat → Int32) (H : Heap) (locs : List Loc) (ls : Array Slot), m_X12_laysMicros_w206 F_t a_address a_number p1 (m_X12_laysMicros_j238 F_t a_address a_number p1) n206 x2 a_rows a_words = some Rr → va_P D vwCl (w_X12_laysMicros h_t r_t F_t cI a_rows a_words a_address a_number) H → va_D A (w_X12_laysMicros h_t r_t F_t cI a_rows a_words a_address a_number) → va_S A s.heap H locs → lv_has ls 4 [(0, .ref h_t), (1, .int p1), (2, .int x2)] → W p l e rm_X12_laysMicros s m args below meth c H locs 0 0 Q (F0 m 206 ls []) := by
    intro n206
    induction n206 with
    | zero => intro x2 a_rows a_words H locs ls hf; cases (show (none : Option _) = some Rr from hf)
    | succ n206 ih206 =>
      intro x2 a_rows a_words H locs ls hf hP hD hS hl
      have hf := (m_X12_laysMicros_w206.eq_2 _ _ _ _ _ _ _ _ _).symm.trans hf
      refine lv_iload_n hx hb dX12_laysMicros_206 rfl (lv_at hl 2 rfl) ?_
      refine lv_aload_n hx hb dX12_laysMicros_207 rfl (lv_at hl 0 rfl) ?_
      refine z_get (ci := 12) (C := RX12) (T := TX12) (N := 51) (v := .int (F_t 19)) hx hb hts inT_X12 hown hK hP 0 rfl rfl 19 (by decide) tf_X12_73 rfl dX12_laysMicros_208 ?_
      refine z_icmp_ge (tgt := 238) hx hb dX12_laysMicros_211 (by decide) hf (fun hf => ?_) (fun hf => ?_)
      · exact L238 a_rows a_words _ _ _ hf hP hD hS (lv_sub hl [0, 1] rfl)
      · refine lv_aload_n hx hb dX12_laysMicros_214 rfl (lv_at hl 0 rfl) ?_
        refine lv_iload_n hx hb dX12_laysMicros_215 rfl (lv_at hl 1 rfl) ?_
        refine lv_iconst (v := 0) hx hb dX12_laysMicros_216 (by decide) ?_
        refine lv_aload_n hx hb dX12_laysMicros_217 rfl (lv_at hl 0 rfl) ?_
        refine z_get (ci := 12) (C := RX12) (T := TX12) (N := 51) (v := .ref (r_t 17)) hx hb hts inT_X12 hown hK hP 0 rfl rfl 17 (by decide) tf_X12_33 rfl dX12_laysMicros_218 ?_
        refine lv_iload_n hx hb dX12_laysMicros_221 rfl (lv_at hl 2 rfl) ?_
        refine z_iald hx hb hK hP 3 rfl dX12_laysMicros_222 hf (fun y8 hf => ?_)
        refine lv_aload_n hx hb dX12_laysMicros_223 rfl (lv_at hl 0 rfl) ?_
        refine z_get (ci := 12) (C := RX12) (T := TX12) (N := 51) (v := .ref (r_t 18)) hx hb hts inT_X12 hown hK hP 0 rfl rfl 18 (by decide) tf_X12_36 rfl dX12_laysMicros_224 ?_
        refine lv_iload_n hx hb dX12_laysMicros_227 rfl (lv_at hl 2 rfl) ?_
        refine z_iald hx hb hK hP 4 rfl dX12_laysMicros_228 hf (fun y9 hf => ?_)
        obtain ⟨u10, hu10, hf⟩ := bd_some hf
        refine z_cv (ws1 := w_X12_laysMicros h_t r_t F_t cI u10 a_words a_address a_number) (wr := List.filterMap (fun i : Nat => (w_X12_laysMicros h_t r_t F_t cI a_rows a_words a_address a_number)[i]?) [2, 3, 4]) (z_rV (rest := []) hx hb hml hown hcx hl.1 (c_X12_lays l D cI h_t r_t F_t a_rows p1 0 y8 y9 u10 hu10 _) tl_X12_134 ti_X12_lays tz_X12_lays tn_X12 tc_X12_lays tm_X12_lays rfl rfl ⟨Nat.le_of_ble_eq_true rfl, Nat.le_of_ble_eq_true rfl⟩ hK hX hS hA hP hD [0, 1] rfl rfl 0 rfl rfl rfl rfl (Nat.le_of_ble_eq_true rfl) dX12_laysMicros_229 ⟨Nat.zero_le _, Nat.zero_le _⟩) hP hD hS hA [0, 1] [2, 3, 4] [3, 4, 0, 1, 2] rfl rfl rfl (by decide) rfl rfl (fun H locs hP hD hS => ?_)
        refine z_iinc (k0 := 2) (fun z => [(2, .int z), (0, .ref h_t), (1, .int p1)]) hx hb dX12_laysMicros_232 hl rfl (by decide) (by decide) (fun _ => rfl) hf (fun v11 ls hf hl => ?_)
        refine lv_goto (tgt := 206) hx hb dX12_laysMicros_235 (by decide) ?_
        exact ih206 v11 u10 a_words _ _ _ hf hP hD hS (lv_sub hl [1, 2, 0] rfl)
  have L175 : ∀ (a_rows : Nat → Int32) (a_words : Nat → Int32) (H : Heap) (locs : List Loc) (ls : Array Slot), m_X12_laysMicros_j175 F_t a_address a_number p1 a_rows a_words = some Rr → va_P D vwCl (w_X12_laysMicros h_t r_t F_t cI a_rows a_words a_address a_number) H → va_D A (w_X12_laysMicros h_t r_t F_t cI a_rows a_words a_address a_number) → va_S A s.heap H locs → lv_has ls 4 [(0, .ref h_t), (1, .int p1)] → W p l e rm_X12_laysMicros s m args below meth c H locs 0 0 Q (F0 m 175 ls []) := by
    intro a_rows a_words H locs ls hf hP hD hS hl
    have hf := (m_X12_laysMicros_j175.eq_1 _ _ _ _ _ _).symm.trans hf
    refine lv_aload_n hx hb dX12_laysMicros_175 rfl (lv_at hl 0 rfl) ?_
    refine z_get (ci := 12) (C := RX12) (T := TX12) (N := 51) (v := .int (F_t 12)) hx hb hts inT_X12 hown hK hP 0 rfl rfl 12 (by decide) tf_X12_147 rfl dX12_laysMicros_176 ?_
    refine lv_iconst (v := 1) hx hb dX12_laysMicros_179 (by decide) ?_
    refine z_icmp_ne (tgt := 238) hx hb dX12_laysMicros_180 (by decide) hf (fun hf => ?_) (fun hf => ?_)
    · exact L238 a_rows a_words _ _ _ hf hP hD hS (lv_sub hl [0, 1] rfl)
    · refine lv_aload_n hx hb dX12_laysMicros_183 rfl (lv_at hl 0 rfl) ?_
      refine lv_iload_n hx hb dX12_laysMicros_184 rfl (lv_at hl 1 rfl) ?_
      refine lv_iconst (v := 1) hx hb dX12_laysMicros_185 (by decide) ?_
      obtain ⟨u5, hu5, hf⟩ := bd_some hf
      refine z_cv (ws1 := w_X12_laysMicros h_t r_t F_t cI u5 a_words a_address a_number) (wr := List.filterMap (fun i : Nat => (w_X12_laysMicros h_t r_t F_t cI a_rows a_words a_address a_number)[i]?) [2, 3, 4]) (z_rV (rest := []) hx hb hml hown hcx hl.1 (c_X12_fences l D cI h_t r_t F_t a_rows p1 1 u5 hu5 _) tl_X12_141 ti_X12_fences tz_X12_fences tn_X12 tc_X12_fences tm_X12_fences rfl rfl ⟨Nat.le_of_ble_eq_true rfl, Nat.le_of_ble_eq_true rfl⟩ hK hX hS hA hP hD [0, 1] rfl rfl 0 rfl rfl rfl rfl (Nat.le_of_ble_eq_true rfl) dX12_laysMicros_186 ⟨Nat.zero_le _, Nat.zero_le _⟩) hP hD hS hA [0, 1] [2, 3, 4] [3, 4, 0, 1, 2] rfl rfl rfl (by decide) rfl rfl (fun H locs hP hD hS => ?_)
      refine lv_aload_n hx hb dX12_laysMicros_189 rfl (lv_at hl 0 rfl) ?_
      refine lv_iload_n hx hb dX12_laysMicros_190 rfl (lv_at hl 1 rfl) ?_
      refine lv_aload_n hx hb dX12_laysMicros_191 rfl (lv_at hl 0 rfl) ?_
      refine z_get (ci := 12) (C := RX12) (T := TX12) (N := 51) (v := .int (F_t 19)) hx hb hts inT_X12 hown hK hP 0 rfl rfl 19 (by decide) tf_X12_73 rfl dX12_laysMicros_192 ?_
      obtain ⟨u6, hu6, hf⟩ := bd_some hf
      refine z_cv (ws1 := w_X12_laysMicros h_t r_t F_t cI u6 a_words a_address a_number) (wr := List.filterMap (fun i : Nat => (w_X12_laysMicros h_t r_t F_t cI u5 a_words a_address a_number)[i]?) [2, 3, 4]) (z_rV (rest := []) hx hb hml hown hcx hl.1 (c_X12_counts l D cI h_t r_t F_t u5 p1 (F_t 19) u6 hu6 _) tl_X12_144 ti_X12_counts tz_X12_counts tn_X12 tc_X12_counts tm_X12_counts rfl rfl ⟨Nat.le_of_ble_eq_true rfl, Nat.le_of_ble_eq_true rfl⟩ hK hX hS hA hP hD [0, 1] rfl rfl 0 rfl rfl rfl rfl (Nat.le_of_ble_eq_true rfl) dX12_laysMicros_195 ⟨Nat.zero_le _, Nat.zero_le _⟩) hP hD hS hA [0, 1] [2, 3, 4] [3, 4, 0, 1, 2] rfl rfl rfl (by decide) rfl rfl (fun H locs hP hD hS => ?_)
      refine lv_aload_n hx hb dX12_laysMicros_198 rfl (lv_at hl 0 rfl) ?_
      refine lv_iload_n hx hb dX12_laysMicros_199 rfl (lv_at hl 1 rfl) ?_
      refine lv_iconst (v := 2) hx hb dX12_laysMicros_200 (by decide) ?_
      obtain ⟨u7, hu7, hf⟩ := bd_some hf
      refine z_cv (ws1 := w_X12_laysMicros h_t r_t F_t cI u7 a_words a_address a_number) (wr := List.filterMap (fun i : Nat => (w_X12_laysMicros h_t r_t F_t cI u6 a_words a_address a_number)[i]?) [2, 3, 4]) (z_rV (rest := []) hx hb hml hown hcx hl.1 (c_X12_fences l D cI h_t r_t F_t u6 p1 2 u7 hu7 _) tl_X12_141 ti_X12_fences tz_X12_fences tn_X12 tc_X12_fences tm_X12_fences rfl rfl ⟨Nat.le_of_ble_eq_true rfl, Nat.le_of_ble_eq_true rfl⟩ hK hX hS hA hP hD [0, 1] rfl rfl 0 rfl rfl rfl rfl (Nat.le_of_ble_eq_true rfl) dX12_laysMicros_201 ⟨Nat.zero_le _, Nat.zero_le _⟩) hP hD hS hA [0, 1] [2, 3, 4] [3, 4, 0, 1, 2] rfl rfl rfl (by decide) rfl rfl (fun H locs hP hD hS => ?_)
      refine lv_iconst (v := 0) hx hb dX12_laysMicros_204 (by decide) ?_
      refine lv_istore_n (lv' := [(2, .int 0), (0, .ref h_t), (1, .int p1)]) hx hb dX12_laysMicros_205 rfl hl (by decide) rfl (fun ls hl => ?_)
      exact L206 fuelN 0 u7 a_words _ _ _ hf hP hD hS (lv_sub hl [1, 2, 0] rfl)
  have L29 : ∀ (n29 : Nat) (x2 : Int32) (a_rows : Nat → Int32) (a_words : Nat → Int32) (H : Heap) (locs : List Loc) (ls : Array Slot), m_X12_laysMicros_w29 F_t a_address a_number p1 (m_X12_laysMicros_j175 F_t a_address a_number p1) n29 x2 a_rows a_words = some Rr → va_P D vwCl (w_X12_laysMicros h_t r_t F_t cI a_rows a_words a_address a_number) H → va_D A (w_X12_laysMicros h_t r_t F_t cI a_rows a_words a_address a_number) → va_S A s.heap H locs → lv_has ls 4 [(0, .ref h_t), (1, .int p1), (2, .int x2)] → W p l e rm_X12_laysMicros s m args below meth c H locs 0 0 Q (F0 m 29 ls []) := by
    intro n29
    induction n29 with
    | zero => intro x2 a_rows a_words H locs ls hf; cases (show (none : Option _) = some Rr from hf)
    | succ n29 ih29 =>
      intro x2 a_rows a_words H locs ls hf hP hD hS hl
      have hf := (m_X12_laysMicros_w29.eq_2 _ _ _ _ _ _ _ _ _).symm.trans hf
      have L169 : ∀ (x2 : Int32) (a_rows : Nat → Int32) (a_words : Nat → Int32) (H : Heap) (locs : List Loc) (ls : Array Slot), m_X12_laysMicros_j169 F_t a_address a_number p1 (m_X12_laysMicros_w29 F_t a_address a_number p1 (m_X12_laysMicros_j175 F_t a_address a_number p1) n29) x2 a_rows a_words = some Rr → va_P D vwCl (w_X12_laysMicros h_t r_t F_t cI a_rows a_words a_address a_number) H → va_D A (w_X12_laysMicros h_t r_t F_t cI a_rows a_words a_address a_number) → va_S A s.heap H locs → lv_has ls 4 [(0, .ref h_t), (1, .int p1), (2, .int x2)] → W p l e rm_X12_laysMicros s m args below meth c H locs 0 0 Q (F0 m 169 ls []) := by
        intro x2 a_rows a_words H locs ls hf hP hD hS hl
        have hf := (m_X12_laysMicros_j169.eq_1 _ _ _ _ _ _ _ _).symm.trans hf
        refine z_iinc (k0 := 2) (fun z => [(2, .int z), (0, .ref h_t), (1, .int p1)]) hx hb dX12_laysMicros_169 hl rfl (by decide) (by decide) (fun _ => rfl) hf (fun v28 ls hf hl => ?_)
        refine lv_goto (tgt := 29) hx hb dX12_laysMicros_172 (by decide) ?_
        exact ih29 v28 a_rows a_words _ _ _ hf hP hD hS (lv_sub hl [1, 2, 0] rfl)
      have L90 : ∀ (x2 : Int32) (x3 : Int32) (s1 : Int32) (s2 : Int32) (s3 : Int32) (s4 : Int32) (a_rows : Nat → Int32) (a_words : Nat → Int32) (H : Heap) (locs : List Loc) (ls : Array Slot), m_X12_laysMicros_j90 F_t a_address a_number p1 (m_X12_laysMicros_w29 F_t a_address a_number p1 (m_X12_laysMicros_j175 F_t a_address a_number p1) n29) x2 x3 s1 s2 s3 s4 a_rows a_words = some Rr → va_P D vwCl (w_X12_laysMicros h_t r_t F_t cI a_rows a_words a_address a_number) H → va_D A (w_X12_laysMicros h_t r_t F_t cI a_rows a_words a_address a_number) → va_S A s.heap H locs → lv_has ls 4 [(0, .ref h_t), (1, .int p1), (2, .int x2), (3, .int x3)] → W p l e rm_X12_laysMicros s m args below meth c H locs 0 0 Q (F0 m 90 ls [.int s4, .int s3, .int s2, .int s1, .ref h_t]) := by
        intro x2 x3 s1 s2 s3 s4 a_rows a_words H locs ls hf hP hD hS hl
        have hf := (m_X12_laysMicros_j90.eq_1 _ _ _ _ _ _ _ _ _ _ _ _ _).symm.trans hf
        obtain ⟨u17, hu17, hf⟩ := bd_some hf
        refine z_cv (ws1 := w_X12_laysMicros h_t r_t F_t cI u17 a_words a_address a_number) (wr := List.filterMap (fun i : Nat => (w_X12_laysMicros h_t r_t F_t cI a_rows a_words a_address a_number)[i]?) [2, 3, 4]) (z_rV (rest := []) hx hb hml hown hcx hl.1 (c_X12_lays l D cI h_t r_t F_t a_rows s1 s2 s3 s4 u17 hu17 _) tl_X12_134 ti_X12_lays tz_X12_lays tn_X12 tc_X12_lays tm_X12_lays rfl rfl ⟨Nat.le_of_ble_eq_true rfl, Nat.le_of_ble_eq_true rfl⟩ hK hX hS hA hP hD [0, 1] rfl rfl 0 rfl rfl rfl rfl (Nat.le_of_ble_eq_true rfl) dX12_laysMicros_90 ⟨Nat.zero_le _, Nat.zero_le _⟩) hP hD hS hA [0, 1] [2, 3, 4] [3, 4, 0, 1, 2] rfl rfl rfl (by decide) rfl rfl (fun H locs hP hD hS => ?_)
        refine lv_aload_n hx hb dX12_laysMicros_93 rfl (lv_at hl 0 rfl) ?_
        refine lv_iload_n hx hb dX12_laysMicros_94 rfl (lv_at hl 1 rfl) ?_
        refine lv_bipush (v := 16) hx hb dX12_laysMicros_95 (by decide) ?_
        refine lv_iload_n hx hb dX12_laysMicros_97 rfl (lv_at hl 3 rfl) ?_
        refine lv_iconst (v := 4) hx hb dX12_laysMicros_98 (by decide) ?_
        refine lv_idiv hx hb dX12_laysMicros_99 (by decide) ?_
        obtain ⟨u18, hu18, hf⟩ := bd_some hf
        refine z_cv (ws1 := w_X12_laysMicros h_t r_t F_t cI u18 a_words a_address a_number) (wr := List.filterMap (fun i : Nat => (w_X12_laysMicros h_t r_t F_t cI u17 a_words a_address a_number)[i]?) [2, 3, 4]) (z_rV (rest := []) hx hb hml hown hcx hl.1 (c_X12_flushes l D cI h_t r_t F_t u17 p1 16 (x3 / 4) u18 hu18 _) tl_X12_138 ti_X12_flushes tz_X12_flushes tn_X12 tc_X12_flushes tm_X12_flushes rfl rfl ⟨Nat.le_of_ble_eq_true rfl, Nat.le_of_ble_eq_true rfl⟩ hK hX hS hA hP hD [0, 1] rfl rfl 0 rfl rfl rfl rfl (Nat.le_of_ble_eq_true rfl) dX12_laysMicros_100 ⟨Nat.zero_le _, Nat.zero_le _⟩) hP hD hS hA [0, 1] [2, 3, 4] [3, 4, 0, 1, 2] rfl rfl rfl (by decide) rfl rfl (fun H locs hP hD hS => ?_)
        refine lv_aload_n hx hb dX12_laysMicros_103 rfl (lv_at hl 0 rfl) ?_
        refine z_get (ci := 12) (C := RX12) (T := TX12) (N := 51) (v := .int (F_t 12)) hx hb hts inT_X12 hown hK hP 0 rfl rfl 12 (by decide) tf_X12_147 rfl dX12_laysMicros_104 ?_
        refine lv_iconst (v := 1) hx hb dX12_laysMicros_107 (by decide) ?_
        refine z_icmp_ne (tgt := 114) hx hb dX12_laysMicros_108 (by decide) hf (fun hf => ?_) (fun hf => ?_)
        · refine lv_aload_n hx hb dX12_laysMicros_114 rfl (lv_at hl 0 rfl) ?_
          refine lv_iload_n hx hb dX12_laysMicros_115 rfl (lv_at hl 1 rfl) ?_
          refine lv_iconst (v := 1) hx hb dX12_laysMicros_116 (by decide) ?_
          obtain ⟨u19, hu19, hf⟩ := bd_some hf
          refine z_cv (ws1 := w_X12_laysMicros h_t r_t F_t cI u19 a_words a_address a_number) (wr := List.filterMap (fun i : Nat => (w_X12_laysMicros h_t r_t F_t cI u18 a_words a_address a_number)[i]?) [2, 3, 4]) (z_rV (rest := []) hx hb hml hown hcx hl.1 (c_X12_fences l D cI h_t r_t F_t u18 p1 1 u19 hu19 _) tl_X12_141 ti_X12_fences tz_X12_fences tn_X12 tc_X12_fences tm_X12_fences rfl rfl ⟨Nat.le_of_ble_eq_true rfl, Nat.le_of_ble_eq_true rfl⟩ hK hX hS hA hP hD [0, 1] rfl rfl 0 rfl rfl rfl rfl (Nat.le_of_ble_eq_true rfl) dX12_laysMicros_117 ⟨Nat.zero_le _, Nat.zero_le _⟩) hP hD hS hA [0, 1] [2, 3, 4] [3, 4, 0, 1, 2] rfl rfl rfl (by decide) rfl rfl (fun H locs hP hD hS => ?_)
          refine lv_aload_n hx hb dX12_laysMicros_120 rfl (lv_at hl 0 rfl) ?_
          refine lv_iload_n hx hb dX12_laysMicros_121 rfl (lv_at hl 1 rfl) ?_
          refine lv_iload_n hx hb dX12_laysMicros_122 rfl (lv_at hl 2 rfl) ?_
          refine lv_iconst (v := 1) hx hb dX12_laysMicros_123 (by decide) ?_
          refine lv_iadd hx hb dX12_laysMicros_124 ?_
          obtain ⟨u20, hu20, hf⟩ := bd_some hf
          refine z_cv (ws1 := w_X12_laysMicros h_t r_t F_t cI u20 a_words a_address a_number) (wr := List.filterMap (fun i : Nat => (w_X12_laysMicros h_t r_t F_t cI u19 a_words a_address a_number)[i]?) [2, 3, 4]) (z_rV (rest := []) hx hb hml hown hcx hl.1 (c_X12_counts l D cI h_t r_t F_t u19 p1 (x2 + 1) u20 hu20 _) tl_X12_144 ti_X12_counts tz_X12_counts tn_X12 tc_X12_counts tm_X12_counts rfl rfl ⟨Nat.le_of_ble_eq_true rfl, Nat.le_of_ble_eq_true rfl⟩ hK hX hS hA hP hD [0, 1] rfl rfl 0 rfl rfl rfl rfl (Nat.le_of_ble_eq_true rfl) dX12_laysMicros_125 ⟨Nat.zero_le _, Nat.zero_le _⟩) hP hD hS hA [0, 1] [2, 3, 4] [3, 4, 0, 1, 2] rfl rfl rfl (by decide) rfl rfl (fun H locs hP hD hS => ?_)
          refine lv_aload_n hx hb dX12_laysMicros_128 rfl (lv_at hl 0 rfl) ?_
          refine lv_iload_n hx hb dX12_laysMicros_129 rfl (lv_at hl 1 rfl) ?_
          refine lv_iconst (v := 2) hx hb dX12_laysMicros_130 (by decide) ?_
          obtain ⟨u21, hu21, hf⟩ := bd_some hf
          refine z_cv (ws1 := w_X12_laysMicros h_t r_t F_t cI u21 a_words a_address a_number) (wr := List.filterMap (fun i : Nat => (w_X12_laysMicros h_t r_t F_t cI u20 a_words a_address a_number)[i]?) [2, 3, 4]) (z_rV (rest := []) hx hb hml hown hcx hl.1 (c_X12_fences l D cI h_t r_t F_t u20 p1 2 u21 hu21 _) tl_X12_141 ti_X12_fences tz_X12_fences tn_X12 tc_X12_fences tm_X12_fences rfl rfl ⟨Nat.le_of_ble_eq_true rfl, Nat.le_of_ble_eq_true rfl⟩ hK hX hS hA hP hD [0, 1] rfl rfl 0 rfl rfl rfl rfl (Nat.le_of_ble_eq_true rfl) dX12_laysMicros_131 ⟨Nat.zero_le _, Nat.zero_le _⟩) hP hD hS hA [0, 1] [2, 3, 4] [3, 4, 0, 1, 2] rfl rfl rfl (by decide) rfl rfl (fun H locs hP hD hS => ?_)
          refine lv_aload_n hx hb dX12_laysMicros_134 rfl (lv_at hl 0 rfl) ?_
          refine lv_iload_n hx hb dX12_laysMicros_135 rfl (lv_at hl 1 rfl) ?_
          refine lv_iconst (v := 0) hx hb dX12_laysMicros_136 (by decide) ?_
          refine lv_aload_n hx hb dX12_laysMicros_137 rfl (lv_at hl 0 rfl) ?_
          refine z_get (ci := 12) (C := RX12) (T := TX12) (N := 51) (v := .ref (r_t 17)) hx hb hts inT_X12 hown hK hP 0 rfl rfl 17 (by decide) tf_X12_33 rfl dX12_laysMicros_138 ?_
          refine lv_iload_n hx hb dX12_laysMicros_141 rfl (lv_at hl 2 rfl) ?_
          refine z_iald hx hb hK hP 3 rfl dX12_laysMicros_142 hf (fun y22 hf => ?_)
          refine lv_aload_n hx hb dX12_laysMicros_143 rfl (lv_at hl 0 rfl) ?_
          refine z_get (ci := 12) (C := RX12) (T := TX12) (N := 51) (v := .ref (r_t 18)) hx hb hts inT_X12 hown hK hP 0 rfl rfl 18 (by decide) tf_X12_36 rfl dX12_laysMicros_144 ?_
          refine lv_iload_n hx hb dX12_laysMicros_147 rfl (lv_at hl 2 rfl) ?_
          refine z_iald hx hb hK hP 4 rfl dX12_laysMicros_148 hf (fun y23 hf => ?_)
          obtain ⟨u24, hu24, hf⟩ := bd_some hf
          refine z_cv (ws1 := w_X12_laysMicros h_t r_t F_t cI u24 a_words a_address a_number) (wr := List.filterMap (fun i : Nat => (w_X12_laysMicros h_t r_t F_t cI u21 a_words a_address a_number)[i]?) [2, 3, 4]) (z_rV (rest := []) hx hb hml hown hcx hl.1 (c_X12_lays l D cI h_t r_t F_t u21 p1 0 y22 y23 u24 hu24 _) tl_X12_134 ti_X12_lays tz_X12_lays tn_X12 tc_X12_lays tm_X12_lays rfl rfl ⟨Nat.le_of_ble_eq_true rfl, Nat.le_of_ble_eq_true rfl⟩ hK hX hS hA hP hD [0, 1] rfl rfl 0 rfl rfl rfl rfl (Nat.le_of_ble_eq_true rfl) dX12_laysMicros_149 ⟨Nat.zero_le _, Nat.zero_le _⟩) hP hD hS hA [0, 1] [2, 3, 4] [3, 4, 0, 1, 2] rfl rfl rfl (by decide) rfl rfl (fun H locs hP hD hS => ?_)
          refine lv_aload_n hx hb dX12_laysMicros_152 rfl (lv_at hl 0 rfl) ?_
          refine z_get (ci := 12) (C := RX12) (T := TX12) (N := 51) (v := .ref (r_t 16)) hx hb hts inT_X12 hown hK hP 0 rfl rfl 16 (by decide) tf_X12_30 rfl dX12_laysMicros_153 ?_
          refine lv_aload_n hx hb dX12_laysMicros_156 rfl (lv_at hl 0 rfl) ?_
          refine z_get (ci := 12) (C := RX12) (T := TX12) (N := 51) (v := .ref (r_t 17)) hx hb hts inT_X12 hown hK hP 0 rfl rfl 17 (by decide) tf_X12_33 rfl dX12_laysMicros_157 ?_
          refine lv_iload_n hx hb dX12_laysMicros_160 rfl (lv_at hl 2 rfl) ?_
          refine z_iald hx hb hK hP 3 rfl dX12_laysMicros_161 hf (fun y25 hf => ?_)
          refine lv_aload_n hx hb dX12_laysMicros_162 rfl (lv_at hl 0 rfl) ?_
          refine z_get (ci := 12) (C := RX12) (T := TX12) (N := 51) (v := .ref (r_t 18)) hx hb hts inT_X12 hown hK hP 0 rfl rfl 18 (by decide) tf_X12_36 rfl dX12_laysMicros_163 ?_
          refine lv_iload_n hx hb dX12_laysMicros_166 rfl (lv_at hl 2 rfl) ?_
          refine z_iald hx hb hK hP 4 rfl dX12_laysMicros_167 hf (fun y26 hf => ?_)
          refine z_iast hx hb hK hP hD hS 2 rfl (fun z => w_X12_laysMicros h_t r_t F_t cI u24 z a_address a_number) (fun _ => rfl) dX12_laysMicros_168 hf (fun a27 H locs hf hP hD hS => ?_)
          exact L169 x2 u24 a27 _ _ _ hf hP hD hS (lv_sub hl [0, 1, 2] rfl)
        · refine lv_goto (tgt := 169) hx hb dX12_laysMicros_111 (by decide) ?_
          exact L169 x2 u18 a_words _ _ _ hf hP hD hS (lv_sub hl [0, 1, 2] rfl)
      refine lv_iload_n hx hb dX12_laysMicros_29 rfl (lv_at hl 2 rfl) ?_
      refine lv_aload_n hx hb dX12_laysMicros_30 rfl (lv_at hl 0 rfl) ?_
      refine z_get (ci := 12) (C := RX12) (T := TX12) (N := 51) (v := .int (F_t 19)) hx hb hts inT_X12 hown hK hP 0 rfl rfl 19 (by decide) tf_X12_73 rfl dX12_laysMicros_31 ?_
      refine z_icmp_ge (tgt := 175) hx hb dX12_laysMicros_34 (by decide) hf (fun hf => ?_) (fun hf => ?_)
      · exact L175 a_rows a_words _ _ _ hf hP hD hS (lv_sub hl [0, 1] rfl)
      · refine lv_iconst (v := 4) hx hb dX12_laysMicros_37 (by decide) ?_
        refine lv_iconst (v := 2) hx hb dX12_laysMicros_38 (by decide) ?_
        refine lv_iload_n hx hb dX12_laysMicros_39 rfl (lv_at hl 2 rfl) ?_
        refine lv_imul hx hb dX12_laysMicros_40 ?_
        refine lv_iadd hx hb dX12_laysMicros_41 ?_
        refine z_istore_n (fun z => [(3, .int z), (0, .ref h_t), (1, .int p1), (2, .int x2)]) hx hb dX12_laysMicros_42 rfl hl (by decide) (fun _ => rfl) hf (fun v12 ls hf hl => ?_)
        refine lv_aload_n hx hb dX12_laysMicros_43 rfl (lv_at hl 1 rfl) ?_
        refine lv_iload_n hx hb dX12_laysMicros_44 rfl (lv_at hl 2 rfl) ?_
        refine lv_iconst (v := 0) hx hb dX12_laysMicros_45 (by decide) ?_
        refine lv_iload_n hx hb dX12_laysMicros_46 rfl (lv_at hl 0 rfl) ?_
        refine lv_aload_n hx hb dX12_laysMicros_47 rfl (lv_at hl 1 rfl) ?_
        refine z_get (ci := 12) (C := RX12) (T := TX12) (N := 51) (v := .ref (r_t 17)) hx hb hts inT_X12 hown hK hP 0 rfl rfl 17 (by decide) tf_X12_33 rfl dX12_laysMicros_48 ?_
        refine lv_iload_n hx hb dX12_laysMicros_51 rfl (lv_at hl 3 rfl) ?_
        refine z_iald hx hb hK hP 3 rfl dX12_laysMicros_52 hf (fun y13 hf => ?_)
        obtain ⟨u14, hu14, hf⟩ := bd_some hf
        refine z_cv (ws1 := w_X12_laysMicros h_t r_t F_t cI u14 a_words a_address a_number) (wr := List.filterMap (fun i : Nat => (w_X12_laysMicros h_t r_t F_t cI a_rows a_words a_address a_number)[i]?) [2, 3, 4]) (z_rV (rest := []) hx hb hml hown hcx hl.1 (c_X12_lays l D cI h_t r_t F_t a_rows p1 0 v12 y13 u14 hu14 _) tl_X12_134 ti_X12_lays tz_X12_lays tn_X12 tc_X12_lays tm_X12_lays rfl rfl ⟨Nat.le_of_ble_eq_true rfl, Nat.le_of_ble_eq_true rfl⟩ hK hX hS hA hP hD [0, 1] rfl rfl 0 rfl rfl rfl rfl (Nat.le_of_ble_eq_true rfl) dX12_laysMicros_53 ⟨Nat.zero_le _, Nat.zero_le _⟩) hP hD hS hA [0, 1] [2, 3, 4] [3, 4, 0, 1, 2] rfl rfl rfl (by decide) rfl rfl (fun H locs hP hD hS => ?_)
        refine lv_aload_n hx hb dX12_laysMicros_56 rfl (lv_at hl 1 rfl) ?_
        refine lv_iload_n hx hb dX12_laysMicros_57 rfl (lv_at hl 2 rfl) ?_
        refine lv_iconst (v := 0) hx hb dX12_laysMicros_58 (by decide) ?_
        refine lv_iload_n hx hb dX12_laysMicros_59 rfl (lv_at hl 0 rfl) ?_
        refine lv_iconst (v := 1) hx hb dX12_laysMicros_60 (by decide) ?_
        refine lv_iadd hx hb dX12_laysMicros_61 ?_
        refine lv_aload_n hx hb dX12_laysMicros_62 rfl (lv_at hl 1 rfl) ?_
        refine z_get (ci := 12) (C := RX12) (T := TX12) (N := 51) (v := .int (F_t 12)) hx hb hts inT_X12 hown hK hP 0 rfl rfl 12 (by decide) tf_X12_147 rfl dX12_laysMicros_63 ?_
        refine lv_iconst (v := 1) hx hb dX12_laysMicros_66 (by decide) ?_
        refine z_icmp_ne (tgt := 79) hx hb dX12_laysMicros_67 (by decide) hf (fun hf => ?_) (fun hf => ?_)
        · refine lv_aload_n hx hb dX12_laysMicros_79 rfl (lv_at hl 1 rfl) ?_
          refine z_get (ci := 12) (C := RX12) (T := TX12) (N := 51) (v := .ref (r_t 16)) hx hb hts inT_X12 hown hK hP 0 rfl rfl 16 (by decide) tf_X12_30 rfl dX12_laysMicros_80 ?_
          refine lv_aload_n hx hb dX12_laysMicros_83 rfl (lv_at hl 1 rfl) ?_
          refine z_get (ci := 12) (C := RX12) (T := TX12) (N := 51) (v := .ref (r_t 17)) hx hb hts inT_X12 hown hK hP 0 rfl rfl 17 (by decide) tf_X12_33 rfl dX12_laysMicros_84 ?_
          refine lv_iload_n hx hb dX12_laysMicros_87 rfl (lv_at hl 3 rfl) ?_
          refine z_iald hx hb hK hP 3 rfl dX12_laysMicros_88 hf (fun y15 hf => ?_)
          refine z_iald hx hb hK hP 2 rfl dX12_laysMicros_89 hf (fun y16 hf => ?_)
          exact L90 x2 v12 p1 0 (v12 + 1) y16 u14 a_words _ _ _ hf hP hD hS (lv_sub hl [1, 2, 3, 0] rfl)
        · refine lv_aload_n hx hb dX12_laysMicros_70 rfl (lv_at hl 1 rfl) ?_
          refine z_get (ci := 12) (C := RX12) (T := TX12) (N := 51) (v := .ref (r_t 18)) hx hb hts inT_X12 hown hK hP 0 rfl rfl 18 (by decide) tf_X12_36 rfl dX12_laysMicros_71 ?_
          refine lv_iload_n hx hb dX12_laysMicros_74 rfl (lv_at hl 3 rfl) ?_
          refine z_iald hx hb hK hP 4 rfl dX12_laysMicros_75 hf (fun y29 hf => ?_)
          refine lv_goto (tgt := 90) hx hb dX12_laysMicros_76 (by decide) ?_
          exact L90 x2 v12 p1 0 (v12 + 1) y29 u14 a_words _ _ _ hf hP hD hS (lv_sub hl [1, 2, 3, 0] rfl)
  refine lv_aload_n hx hb dX12_laysMicros_0 rfl (lv_at hl 0 rfl) ?_
  refine z_get (ci := 12) (C := RX12) (T := TX12) (N := 51) (v := .ref (r_t 0)) hx hb hts inT_X12 hown hK hP 0 rfl rfl 0 (by decide) tf_X12_10 rfl dX12_laysMicros_1 ?_
  refine lv_iload_n hx hb dX12_laysMicros_4 rfl (lv_at hl 1 rfl) ?_
  refine lv_sipush (v := 774) hx hb dX12_laysMicros_5 (by decide) ?_
  refine lv_iadd hx hb dX12_laysMicros_8 ?_
  refine lv_iconst (v := 0) hx hb dX12_laysMicros_9 (by decide) ?_
  refine z_iast hx hb hK hP hD hS 1 rfl (fun z => w_X12_laysMicros h_t r_t F_t cI z a_words a_address a_number) (fun _ => rfl) dX12_laysMicros_10 hf (fun a1 H locs hf hP hD hS => ?_)
  refine lv_aload_n hx hb dX12_laysMicros_11 rfl (lv_at hl 0 rfl) ?_
  refine z_get (ci := 12) (C := RX12) (T := TX12) (N := 51) (v := .ref (r_t 0)) hx hb hts inT_X12 hown hK hP 0 rfl rfl 0 (by decide) tf_X12_10 rfl dX12_laysMicros_12 ?_
  refine lv_iload_n hx hb dX12_laysMicros_15 rfl (lv_at hl 1 rfl) ?_
  refine lv_sipush (v := 775) hx hb dX12_laysMicros_16 (by decide) ?_
  refine lv_iadd hx hb dX12_laysMicros_19 ?_
  refine lv_iconst (v := 0) hx hb dX12_laysMicros_20 (by decide) ?_
  refine z_iast hx hb hK hP hD hS 1 rfl (fun z => w_X12_laysMicros h_t r_t F_t cI z a_words a_address a_number) (fun _ => rfl) dX12_laysMicros_21 hf (fun a2 H locs hf hP hD hS => ?_)
  refine lv_aload_n hx hb dX12_laysMicros_22 rfl (lv_at hl 0 rfl) ?_
  refine lv_iload_n hx hb dX12_laysMicros_23 rfl (lv_at hl 1 rfl) ?_
  obtain ⟨u3, hu3, hf⟩ := bd_some hf
  refine z_cv (ws1 := w_X12_laysMicros h_t r_t F_t cI a2 u3 a_address a_number) (wr := List.filterMap (fun i : Nat => (w_X12_laysMicros h_t r_t F_t cI a2 a_words a_address a_number)[i]?) [3, 4]) (z_rV (rest := []) hx hb hml hown hcx hl.1 (c_X12_laysWords l D cI h_t r_t F_t a2 a_words p1 u3 hu3 _) tl_X12_122 ti_X12_laysWords tz_X12_laysWords tn_X12 tc_X12_laysWords tm_X12_laysWords rfl rfl ⟨Nat.le_of_ble_eq_true rfl, Nat.le_of_ble_eq_true rfl⟩ hK hX hS hA hP hD [0, 1, 2] rfl rfl 0 rfl rfl rfl rfl (Nat.le_of_ble_eq_true rfl) dX12_laysMicros_24 ⟨Nat.zero_le _, Nat.zero_le _⟩) hP hD hS hA [0, 1, 2] [3, 4] [2, 3, 4, 0, 1] rfl rfl rfl (by decide) rfl rfl (fun H locs hP hD hS => ?_)
  refine lv_iconst (v := 0) hx hb dX12_laysMicros_27 (by decide) ?_
  refine lv_istore_n (lv' := [(2, .int 0), (0, .ref h_t), (1, .int p1)]) hx hb dX12_laysMicros_28 rfl hl (by decide) rfl (fun ls hl => ?_)
  exact L29 fuelN 0 a2 u3 _ _ _ hf hP hD hS (lv_sub hl [1, 2, 0] rfl)
abbrev w_X12_isBegun (h_t : Nat) (r_t : Nat → Nat) (F_t : Nat → Int32) (cI : ClassId) (a_rows : Nat → Int32) (a_words : Nat → Int32) (a_address : Nat → Int32) (a_number : Nat → Int32) : va_W := [(h_t, .inr (12, o_X12 r_t F_t)), ((r_t 0), .inl (cI, 66100, .inl a_rows)), ((r_t 16), .inl (cI, 64, .inl a_words)), ((r_t 17), .inl (cI, 64, .inl a_address)), ((r_t 18), .inl (cI, 64, .inl a_number))]
abbrev rm_X12_isBegun : Room := { frames := 7, cells := 0, slots := 0, locals := 159 }
def m_X12_isBegun_j175 (p1 : Int32) (F_t : Nat → Int32) (a_rows : Nat → Int32) (a_words : Nat → Int32) (a_address : Nat → Int32) (a_number : Nat → Int32) : Option (Int32 × (Nat → Int32) × (Nat → Int32) × (Nat → Int32) × (Nat → Int32) × (Nat → Int32)) :=
  bd (m_X12_laysMicros F_t a_rows a_words a_address a_number p1) fun u7 =>
  wr u7.1 66100 (p1 + 776) 1 fun a8 =>
  some (1, F_t, a8, u7.2, a_address, a_number)
def m_X12_isBegun_w116 (p1 : Int32) (k175 : (Nat → Int32) → (Nat → Int32) → (Nat → Int32) → (Nat → Int32) → (Nat → Int32) → Option (Int32 × (Nat → Int32) × (Nat → Int32) × (Nat → Int32) × (Nat → Int32) × (Nat → Int32))) : Nat → Int32 → (Nat → Int32) → (Nat → Int32) → (Nat → Int32) → (Nat → Int32) → (Nat → Int32) → Option (Int32 × (Nat → Int32) × (Nat → Int32) × (Nat → Int32) × (Nat → Int32) × (Nat → Int32))
  | 0, _, _, _, _, _, _ => none
  | n116 + 1, x4, F_t, a_rows, a_words, a_address, a_number =>
    if 44 ≤ x4 then (
    k175 F_t a_rows a_words a_address a_number)
    else (
    rd a_words 64 (20 + x4) fun y9 =>
    wr a_rows 66100 ((p1 + 572) + x4) y9 fun a10 =>
    bd (m_X12_wordOf a10 p1 (20 + x4)) fun u11 =>
    wr a10 66100 ((p1 + 528) + x4) u11 fun a12 =>
    nm (x4 + 1) fun v13 =>
    m_X12_isBegun_w116 p1 k175 n116 v13 F_t a12 a_words a_address a_number)
def m_X12_isBegun_j113 (p1 : Int32) (F_t : Nat → Int32) (a_rows : Nat → Int32) (a_words : Nat → Int32) (a_address : Nat → Int32) (a_number : Nat → Int32) : Option (Int32 × (Nat → Int32) × (Nat → Int32) × (Nat → Int32) × (Nat → Int32) × (Nat → Int32)) :=
  m_X12_isBegun_w116 p1 (m_X12_isBegun_j175 p1) fuelN 0 F_t a_rows a_words a_address a_number
def m_X12_isBegun_j78 (p1 : Int32) (k0 : (Nat → Int32) → (Nat → Int32) → (Nat → Int32) → (Nat → Int32) → (Nat → Int32) → Option (Int32 × (Nat → Int32) × (Nat → Int32) × (Nat → Int32) × (Nat → Int32) × (Nat → Int32))) (k113 : (Nat → Int32) → (Nat → Int32) → (Nat → Int32) → (Nat → Int32) → (Nat → Int32) → Option (Int32 × (Nat → Int32) × (Nat → Int32) × (Nat → Int32) × (Nat → Int32) × (Nat → Int32))) (x2 : Int32) (F_t : Nat → Int32) (a_rows : Nat → Int32) (a_words : Nat → Int32) (a_address : Nat → Int32) (a_number : Nat → Int32) : Option (Int32 × (Nat → Int32) × (Nat → Int32) × (Nat → Int32) × (Nat → Int32) × (Nat → Int32)) :=
  rd a_rows 66100 (p1 + 777) fun y5 =>
  wr a_rows 66100 (p1 + 777) (y5 - 1) fun a6 =>
  if x2 = 0 then (
  rd a6 66100 (p1 + 779) fun y14 =>
  wr a6 66100 (p1 + 779) (y14 + 1) fun a15 =>
  k0 F_t a15 a_words a_address a_number)
  else (
  k113 F_t a6 a_words a_address a_number)
def m_X12_isBegun_w45 (p1 : Int32) (k78 : Int32 → (Nat → Int32) → (Nat → Int32) → (Nat → Int32) → (Nat → Int32) → (Nat → Int32) → Option (Int32 × (Nat → Int32) × (Nat → Int32) × (Nat → Int32) × (Nat → Int32) × (Nat → Int32))) : Nat → Int32 → Int32 → Int32 → (Nat → Int32) → (Nat → Int32) → (Nat → Int32) → (Nat → Int32) → (Nat → Int32) → Option (Int32 × (Nat → Int32) × (Nat → Int32) × (Nat → Int32) × (Nat → Int32) × (Nat → Int32))
  | 0, _, _, _, _, _, _, _, _ => none
  | n45 + 1, x2, x3, x4, F_t, a_rows, a_words, a_address, a_number =>
    if x3 ≤ x4 then (
    k78 x2 F_t a_rows a_words a_address a_number)
    else (
    rd a_rows 66100 ((p1 + x4) + 13) fun y16 =>
    wr a_rows 66100 (p1 + x4) y16 fun a17 =>
    nm (x4 + 1) fun v18 =>
    m_X12_isBegun_w45 p1 k78 n45 x2 x3 v18 F_t a17 a_words a_address a_number)
def m_X12_isBegun_w0 (p1 : Int32) (k113 : (Nat → Int32) → (Nat → Int32) → (Nat → Int32) → (Nat → Int32) → (Nat → Int32) → Option (Int32 × (Nat → Int32) × (Nat → Int32) × (Nat → Int32) × (Nat → Int32) × (Nat → Int32))) : Nat → (Nat → Int32) → (Nat → Int32) → (Nat → Int32) → (Nat → Int32) → (Nat → Int32) → Option (Int32 × (Nat → Int32) × (Nat → Int32) × (Nat → Int32) × (Nat → Int32) × (Nat → Int32))
  | 0, _, _, _, _, _ => none
  | n0 + 1, F_t, a_rows, a_words, a_address, a_number =>
    rd a_rows 66100 (p1 + 777) fun y1 =>
    if y1 ≤ 0 then (
    some (0, F_t, a_rows, a_words, a_address, a_number))
    else (
    bd (m_X12_isWritten F_t a_rows a_words a_address a_number p1) fun u2 =>
    rd a_rows 66100 (p1 + 777) fun y3 =>
    nm ((616 + (13 * y3)) - 13) fun v4 =>
    m_X12_isBegun_w45 p1 (m_X12_isBegun_j78 p1 (m_X12_isBegun_w0 p1 k113 n0) k113) fuelN u2.1 v4 616 u2.2.1 a_rows u2.2.2.1 u2.2.2.2.1 u2.2.2.2.2)
def m_X12_isBegun (F_t : Nat → Int32) (a_rows : Nat → Int32) (a_words : Nat → Int32) (a_address : Nat → Int32) (a_number : Nat → Int32) (p1 : Int32) : Option (Int32 × (Nat → Int32) × (Nat → Int32) × (Nat → Int32) × (Nat → Int32) × (Nat → Int32)) :=
  m_X12_isBegun_w0 p1 (m_X12_isBegun_j113 p1) fuelN F_t a_rows a_words a_address a_number
set_option maxHeartbeats 4000000 in
set_option maxRecDepth 100000 in
theorem c_X12_isBegun (l : Launch) (D : va_G) (cI : ClassId) (h_t : Nat) (r_t : Nat → Nat) (F_t : Nat → Int32) (a_rows : Nat → Int32) (a_words : Nat → Int32) (a_address : Nat → Int32) (a_number : Nat → Int32) (p1 : Int32) (Rr : Int32 × (Nat → Int32) × (Nat → Int32) × (Nat → Int32) × (Nat → Int32) × (Nat → Int32)) (hf : m_X12_isBegun F_t a_rows a_words a_address a_number p1 = some Rr) : CTi l yX12_isBegun (Cond.code yX12_isBegun cX12_isBegun 5 (some .boolean)) rm_X12_isBegun D cI [.ref h_t, .int p1] (w_X12_isBegun h_t r_t F_t cI a_rows a_words a_address a_number) Rr.1 (w_X12_isBegun h_t r_t Rr.2.1 cI Rr.2.2.1 Rr.2.2.2.1 Rr.2.2.2.2.1 Rr.2.2.2.2.2) := by
  refine z_begin_z (own := RX12) (ρ := Int32 × (Nat → Int32) × (Nat → Int32) × (Nat → Int32) × (Nat → Int32) × (Nat → Int32)) (fun u => w_X12_isBegun h_t r_t u.2.1 cI u.2.2.1 u.2.2.2.1 u.2.2.2.2.1 u.2.2.2.2.2) (fun u => u.1) (by decide +kernel) rfl (Nat.le_of_ble_eq_true rfl) ?_
  intro p e s m args below meth c ls Q A hx hb hml hts hcx hown hK hX hA hP hD hS hl hret
  have hl : lv_has ls 5 [(0, .ref h_t), (1, .int p1)] := hl
  have hf := (m_X12_isBegun.eq_1 _ _ _ _ _ _).symm.trans hf
  have L175 : ∀ (F_t : Nat → Int32) (a_rows : Nat → Int32) (a_words : Nat → Int32) (a_address : Nat → Int32) (a_number : Nat → Int32) (H : Heap) (locs : List Loc) (ls : Array Slot), m_X12_isBegun_j175 p1 F_t a_rows a_words a_address a_number = some Rr → va_P D vwCl (w_X12_isBegun h_t r_t F_t cI a_rows a_words a_address a_number) H → va_D A (w_X12_isBegun h_t r_t F_t cI a_rows a_words a_address a_number) → va_S A s.heap H locs → lv_has ls 5 [(0, .ref h_t), (1, .int p1)] → W p l e rm_X12_isBegun s m args below meth c H locs 0 0 Q (F0 m 175 ls []) := by
    intro F_t a_rows a_words a_address a_number H locs ls hf hP hD hS hl
    have hf := (m_X12_isBegun_j175.eq_1 _ _ _ _ _ _).symm.trans hf
    refine lv_aload_n hx hb dX12_isBegun_175 rfl (lv_at hl 0 rfl) ?_
    refine lv_iload_n hx hb dX12_isBegun_176 rfl (lv_at hl 1 rfl) ?_
    obtain ⟨u7, hu7, hf⟩ := bd_some hf
    refine z_cv (ws1 := w_X12_isBegun h_t r_t F_t cI u7.1 u7.2 a_address a_number) (wr := List.filterMap (fun i : Nat => (w_X12_isBegun h_t r_t F_t cI a_rows a_words a_address a_number)[i]?) []) (z_rV (rest := []) hx hb hml hown hcx hl.1 (c_X12_laysMicros l D cI h_t r_t F_t a_rows a_words a_address a_number p1 u7 hu7 _) tl_X12_157 ti_X12_laysMicros tz_X12_laysMicros tn_X12 tc_X12_laysMicros tm_X12_laysMicros rfl rfl ⟨Nat.le_of_ble_eq_true rfl, Nat.le_of_ble_eq_true rfl⟩ hK hX hS hA hP hD [0, 1, 2, 3, 4] rfl rfl 0 rfl rfl rfl rfl (Nat.le_of_ble_eq_true rfl) dX12_isBegun_177 ⟨Nat.zero_le _, Nat.zero_le _⟩) hP hD hS hA [0, 1, 2, 3, 4] [] [0, 1, 2, 3, 4] rfl rfl rfl (by decide) rfl rfl (fun H locs hP hD hS => ?_)
    refine lv_aload_n hx hb dX12_isBegun_180 rfl (lv_at hl 0 rfl) ?_
    refine z_get (ci := 12) (C := RX12) (T := TX12) (N := 51) (v := .ref (r_t 0)) hx hb hts inT_X12 hown hK hP 0 rfl rfl 0 (by decide) tf_X12_10 rfl dX12_isBegun_181 ?_
    refine lv_iload_n hx hb dX12_isBegun_184 rfl (lv_at hl 1 rfl) ?_
    refine lv_sipush (v := 776) hx hb dX12_isBegun_185 (by decide) ?_
    refine lv_iadd hx hb dX12_isBegun_188 ?_
    refine lv_iconst (v := 1) hx hb dX12_isBegun_189 (by decide) ?_
    refine z_iast hx hb hK hP hD hS 1 rfl (fun z => w_X12_isBegun h_t r_t F_t cI z u7.2 a_address a_number) (fun _ => rfl) dX12_isBegun_190 hf (fun a8 H locs hf hP hD hS => ?_)
    refine lv_iconst (v := 1) hx hb dX12_isBegun_191 (by decide) ?_
    exact hret (1, F_t, a8, u7.2, a_address, a_number) _ _ _ _ (Or.inr rfl) hf hP hD hS dX12_isBegun_192
  have L116 : ∀ (n116 : Nat) (x4 : Int32) (F_t : Nat → Int32) (a_rows : Nat → Int32) (a_words : Nat → Int32) (a_address : Nat → Int32) (a_number : Nat → Int32) (H : Heap) (locs : List Loc) (ls : Array Slot), m_X12_isBegun_w116 p1 (m_X12_isBegun_j175 p1) n116 x4 F_t a_rows a_words a_address a_number = some Rr → va_P D vwCl (w_X12_isBegun h_t r_t F_t cI a_rows a_words a_address a_number) H → va_D A (w_X12_isBegun h_t r_t F_t cI a_rows a_words a_address a_number) → va_S A s.heap H locs → lv_has ls 5 [(0, .ref h_t), (1, .int p1), (4, .int x4)] → W p l e rm_X12_isBegun s m args below meth c H locs 0 0 Q (F0 m 116 ls []) := by
    intro n116
    induction n116 with
    | zero => intro x4 F_t a_rows a_words a_address a_number H locs ls hf; cases (show (none : Option _) = some Rr from hf)
    | succ n116 ih116 =>
      intro x4 F_t a_rows a_words a_address a_number H locs ls hf hP hD hS hl
      have hf := (m_X12_isBegun_w116.eq_2 _ _ _ _ _ _ _ _ _).symm.trans hf
      refine lv_iload hx hb dX12_isBegun_116 (lv_at hl 2 rfl) ?_
      refine lv_bipush (v := 44) hx hb dX12_isBegun_118 (by decide) ?_
      refine z_icmp_ge (tgt := 175) hx hb dX12_isBegun_120 (by decide) hf (fun hf => ?_) (fun hf => ?_)
      · exact L175 F_t a_rows a_words a_address a_number _ _ _ hf hP hD hS (lv_sub hl [0, 1] rfl)
      · refine lv_aload_n hx hb dX12_isBegun_123 rfl (lv_at hl 0 rfl) ?_
        refine z_get (ci := 12) (C := RX12) (T := TX12) (N := 51) (v := .ref (r_t 0)) hx hb hts inT_X12 hown hK hP 0 rfl rfl 0 (by decide) tf_X12_10 rfl dX12_isBegun_124 ?_
        refine lv_iload_n hx hb dX12_isBegun_127 rfl (lv_at hl 1 rfl) ?_
        refine lv_sipush (v := 572) hx hb dX12_isBegun_128 (by decide) ?_
        refine lv_iadd hx hb dX12_isBegun_131 ?_
        refine lv_iload hx hb dX12_isBegun_132 (lv_at hl 2 rfl) ?_
        refine lv_iadd hx hb dX12_isBegun_134 ?_
        refine lv_aload_n hx hb dX12_isBegun_135 rfl (lv_at hl 0 rfl) ?_
        refine z_get (ci := 12) (C := RX12) (T := TX12) (N := 51) (v := .ref (r_t 16)) hx hb hts inT_X12 hown hK hP 0 rfl rfl 16 (by decide) tf_X12_30 rfl dX12_isBegun_136 ?_
        refine lv_bipush (v := 20) hx hb dX12_isBegun_139 (by decide) ?_
        refine lv_iload hx hb dX12_isBegun_141 (lv_at hl 2 rfl) ?_
        refine lv_iadd hx hb dX12_isBegun_143 ?_
        refine z_iald hx hb hK hP 2 rfl dX12_isBegun_144 hf (fun y9 hf => ?_)
        refine z_iast hx hb hK hP hD hS 1 rfl (fun z => w_X12_isBegun h_t r_t F_t cI z a_words a_address a_number) (fun _ => rfl) dX12_isBegun_145 hf (fun a10 H locs hf hP hD hS => ?_)
        refine lv_aload_n hx hb dX12_isBegun_146 rfl (lv_at hl 0 rfl) ?_
        refine z_get (ci := 12) (C := RX12) (T := TX12) (N := 51) (v := .ref (r_t 0)) hx hb hts inT_X12 hown hK hP 0 rfl rfl 0 (by decide) tf_X12_10 rfl dX12_isBegun_147 ?_
        refine lv_iload_n hx hb dX12_isBegun_150 rfl (lv_at hl 1 rfl) ?_
        refine lv_sipush (v := 528) hx hb dX12_isBegun_151 (by decide) ?_
        refine lv_iadd hx hb dX12_isBegun_154 ?_
        refine lv_iload hx hb dX12_isBegun_155 (lv_at hl 2 rfl) ?_
        refine lv_iadd hx hb dX12_isBegun_157 ?_
        refine lv_aload_n hx hb dX12_isBegun_158 rfl (lv_at hl 0 rfl) ?_
        refine lv_iload_n hx hb dX12_isBegun_159 rfl (lv_at hl 1 rfl) ?_
        refine lv_bipush (v := 20) hx hb dX12_isBegun_160 (by decide) ?_
        refine lv_iload hx hb dX12_isBegun_162 (lv_at hl 2 rfl) ?_
        refine lv_iadd hx hb dX12_isBegun_164 ?_
        obtain ⟨u11, hu11, hf⟩ := bd_some hf
        refine z_ci (ws1 := w_X12_isBegun h_t r_t F_t cI a10 a_words a_address a_number) (wr := List.filterMap (fun i : Nat => (w_X12_isBegun h_t r_t F_t cI a10 a_words a_address a_number)[i]?) [2, 3, 4]) (z_rV (rest := [.int ((p1 + 528) + x4), .ref (r_t 0)]) hx hb hml hown hcx hl.1 (c_X12_wordOf l D cI h_t r_t F_t a10 p1 (20 + x4) u11 hu11 _) tl_X12_118 ti_X12_wordOf tz_X12_wordOf tn_X12 tc_X12_wordOf tm_X12_wordOf rfl rfl ⟨Nat.le_of_ble_eq_true rfl, Nat.le_of_ble_eq_true rfl⟩ hK hX hS hA hP hD [0, 1] rfl rfl 0 rfl rfl rfl rfl (Nat.le_of_ble_eq_true rfl) dX12_isBegun_165 ⟨Nat.zero_le _, Nat.zero_le _⟩) hP hD hS hA [0, 1] [2, 3, 4] [3, 4, 0, 1, 2] rfl rfl rfl (by decide) rfl rfl (fun H locs hP hD hS => ?_)
        refine z_iast hx hb hK hP hD hS 1 rfl (fun z => w_X12_isBegun h_t r_t F_t cI z a_words a_address a_number) (fun _ => rfl) dX12_isBegun_168 hf (fun a12 H locs hf hP hD hS => ?_)
        refine z_iinc (k0 := 2) (fun z => [(4, .int z), (0, .ref h_t), (1, .int p1)]) hx hb dX12_isBegun_169 hl rfl (by decide) (by decide) (fun _ => rfl) hf (fun v13 ls hf hl => ?_)
        refine lv_goto (tgt := 116) hx hb dX12_isBegun_172 (by decide) ?_
        exact ih116 v13 F_t a12 a_words a_address a_number _ _ _ hf hP hD hS (lv_sub hl [1, 2, 0] rfl)
  have L113 : ∀ (F_t : Nat → Int32) (a_rows : Nat → Int32) (a_words : Nat → Int32) (a_address : Nat → Int32) (a_number : Nat → Int32) (H : Heap) (locs : List Loc) (ls : Array Slot), m_X12_isBegun_j113 p1 F_t a_rows a_words a_address a_number = some Rr → va_P D vwCl (w_X12_isBegun h_t r_t F_t cI a_rows a_words a_address a_number) H → va_D A (w_X12_isBegun h_t r_t F_t cI a_rows a_words a_address a_number) → va_S A s.heap H locs → lv_has ls 5 [(0, .ref h_t), (1, .int p1)] → W p l e rm_X12_isBegun s m args below meth c H locs 0 0 Q (F0 m 113 ls []) := by
    intro F_t a_rows a_words a_address a_number H locs ls hf hP hD hS hl
    have hf := (m_X12_isBegun_j113.eq_1 _ _ _ _ _ _).symm.trans hf
    refine lv_iconst (v := 0) hx hb dX12_isBegun_113 (by decide) ?_
    refine lv_istore (lv' := [(4, .int 0), (0, .ref h_t), (1, .int p1)]) hx hb dX12_isBegun_114 hl (by decide) rfl (fun ls hl => ?_)
    exact L116 fuelN 0 F_t a_rows a_words a_address a_number _ _ _ hf hP hD hS (lv_sub hl [1, 2, 0] rfl)
  have L0 : ∀ (n0 : Nat) (F_t : Nat → Int32) (a_rows : Nat → Int32) (a_words : Nat → Int32) (a_address : Nat → Int32) (a_number : Nat → Int32) (H : Heap) (locs : List Loc) (ls : Array Slot), m_X12_isBegun_w0 p1 (m_X12_isBegun_j113 p1) n0 F_t a_rows a_words a_address a_number = some Rr → va_P D vwCl (w_X12_isBegun h_t r_t F_t cI a_rows a_words a_address a_number) H → va_D A (w_X12_isBegun h_t r_t F_t cI a_rows a_words a_address a_number) → va_S A s.heap H locs → lv_has ls 5 [(0, .ref h_t), (1, .int p1)] → W p l e rm_X12_isBegun s m args below meth c H locs 0 0 Q (F0 m 0 ls []) := by
    intro n0
    induction n0 with
    | zero => intro F_t a_rows a_words a_address a_number H locs ls hf; cases (show (none : Option _) = some Rr from hf)
    | succ n0 ih0 =>
      intro F_t a_rows a_words a_address a_number H locs ls hf hP hD hS hl
      have hf := (m_X12_isBegun_w0.eq_2 _ _ _ _ _ _ _ _).symm.trans hf
      have L78 : ∀ (x2 : Int32) (F_t : Nat → Int32) (a_rows : Nat → Int32) (a_words : Nat → Int32) (a_address : Nat → Int32) (a_number : Nat → Int32) (H : Heap) (locs : List Loc) (ls : Array Slot), m_X12_isBegun_j78 p1 (m_X12_isBegun_w0 p1 (m_X12_isBegun_j113 p1) n0) (m_X12_isBegun_j113 p1) x2 F_t a_rows a_words a_address a_number = some Rr → va_P D vwCl (w_X12_isBegun h_t r_t F_t cI a_rows a_words a_address a_number) H → va_D A (w_X12_isBegun h_t r_t F_t cI a_rows a_words a_address a_number) → va_S A s.heap H locs → lv_has ls 5 [(0, .ref h_t), (1, .int p1), (2, .int x2)] → W p l e rm_X12_isBegun s m args below meth c H locs 0 0 Q (F0 m 78 ls []) := by
        intro x2 F_t a_rows a_words a_address a_number H locs ls hf hP hD hS hl
        have hf := (m_X12_isBegun_j78.eq_1 _ _ _ _ _ _ _ _ _).symm.trans hf
        refine lv_aload_n hx hb dX12_isBegun_78 rfl (lv_at hl 0 rfl) ?_
        refine z_get (ci := 12) (C := RX12) (T := TX12) (N := 51) (v := .ref (r_t 0)) hx hb hts inT_X12 hown hK hP 0 rfl rfl 0 (by decide) tf_X12_10 rfl dX12_isBegun_79 ?_
        refine lv_iload_n hx hb dX12_isBegun_82 rfl (lv_at hl 1 rfl) ?_
        refine lv_sipush (v := 777) hx hb dX12_isBegun_83 (by decide) ?_
        refine lv_iadd hx hb dX12_isBegun_86 ?_
        refine lv_dup2_11 hx hb dX12_isBegun_87 rfl rfl ?_
        refine z_iald hx hb hK hP 1 rfl dX12_isBegun_88 hf (fun y5 hf => ?_)
        refine lv_iconst (v := 1) hx hb dX12_isBegun_89 (by decide) ?_
        refine lv_isub hx hb dX12_isBegun_90 ?_
        refine z_iast hx hb hK hP hD hS 1 rfl (fun z => w_X12_isBegun h_t r_t F_t cI z a_words a_address a_number) (fun _ => rfl) dX12_isBegun_91 hf (fun a6 H locs hf hP hD hS => ?_)
        refine lv_iload_n hx hb dX12_isBegun_92 rfl (lv_at hl 2 rfl) ?_
        refine z_if_ne (tgt := 113) hx hb dX12_isBegun_93 (by decide) hf (fun hf => ?_) (fun hf => ?_)
        · exact L113 F_t a6 a_words a_address a_number _ _ _ hf hP hD hS (lv_sub hl [0, 1] rfl)
        · refine lv_aload_n hx hb dX12_isBegun_96 rfl (lv_at hl 0 rfl) ?_
          refine z_get (ci := 12) (C := RX12) (T := TX12) (N := 51) (v := .ref (r_t 0)) hx hb hts inT_X12 hown hK hP 0 rfl rfl 0 (by decide) tf_X12_10 rfl dX12_isBegun_97 ?_
          refine lv_iload_n hx hb dX12_isBegun_100 rfl (lv_at hl 1 rfl) ?_
          refine lv_sipush (v := 779) hx hb dX12_isBegun_101 (by decide) ?_
          refine lv_iadd hx hb dX12_isBegun_104 ?_
          refine lv_dup2_11 hx hb dX12_isBegun_105 rfl rfl ?_
          refine z_iald hx hb hK hP 1 rfl dX12_isBegun_106 hf (fun y14 hf => ?_)
          refine lv_iconst (v := 1) hx hb dX12_isBegun_107 (by decide) ?_
          refine lv_iadd hx hb dX12_isBegun_108 ?_
          refine z_iast hx hb hK hP hD hS 1 rfl (fun z => w_X12_isBegun h_t r_t F_t cI z a_words a_address a_number) (fun _ => rfl) dX12_isBegun_109 hf (fun a15 H locs hf hP hD hS => ?_)
          refine lv_goto (tgt := 0) hx hb dX12_isBegun_110 (by decide) ?_
          exact ih0 F_t a15 a_words a_address a_number _ _ _ hf hP hD hS (lv_sub hl [0, 1] rfl)
      have L45 : ∀ (n45 : Nat) (x2 : Int32) (x3 : Int32) (x4 : Int32) (F_t : Nat → Int32) (a_rows : Nat → Int32) (a_words : Nat → Int32) (a_address : Nat → Int32) (a_number : Nat → Int32) (H : Heap) (locs : List Loc) (ls : Array Slot), m_X12_isBegun_w45 p1 (m_X12_isBegun_j78 p1 (m_X12_isBegun_w0 p1 (m_X12_isBegun_j113 p1) n0) (m_X12_isBegun_j113 p1)) n45 x2 x3 x4 F_t a_rows a_words a_address a_number = some Rr → va_P D vwCl (w_X12_isBegun h_t r_t F_t cI a_rows a_words a_address a_number) H → va_D A (w_X12_isBegun h_t r_t F_t cI a_rows a_words a_address a_number) → va_S A s.heap H locs → lv_has ls 5 [(0, .ref h_t), (1, .int p1), (2, .int x2), (3, .int x3), (4, .int x4)] → W p l e rm_X12_isBegun s m args below meth c H locs 0 0 Q (F0 m 45 ls []) := by
        intro n45
        induction n45 with
        | zero => intro x2 x3 x4 F_t a_rows a_words a_address a_number H locs ls hf; cases (show (none : Option _) = some Rr from hf)
        | succ n45 ih45 =>
          intro x2 x3 x4 F_t a_rows a_words a_address a_number H locs ls hf hP hD hS hl
          have hf := (m_X12_isBegun_w45.eq_2 _ _ _ _ _ _ _ _ _ _ _).symm.trans hf
          refine lv_iload hx hb dX12_isBegun_45 (lv_at hl 4 rfl) ?_
          refine lv_iload_n hx hb dX12_isBegun_47 rfl (lv_at hl 3 rfl) ?_
          refine z_icmp_ge (tgt := 78) hx hb dX12_isBegun_48 (by decide) hf (fun hf => ?_) (fun hf => ?_)
          · exact L78 x2 F_t a_rows a_words a_address a_number _ _ _ hf hP hD hS (lv_sub hl [0, 1, 2] rfl)
          · refine lv_aload_n hx hb dX12_isBegun_51 rfl (lv_at hl 0 rfl) ?_
            refine z_get (ci := 12) (C := RX12) (T := TX12) (N := 51) (v := .ref (r_t 0)) hx hb hts inT_X12 hown hK hP 0 rfl rfl 0 (by decide) tf_X12_10 rfl dX12_isBegun_52 ?_
            refine lv_iload_n hx hb dX12_isBegun_55 rfl (lv_at hl 1 rfl) ?_
            refine lv_iload hx hb dX12_isBegun_56 (lv_at hl 4 rfl) ?_
            refine lv_iadd hx hb dX12_isBegun_58 ?_
            refine lv_aload_n hx hb dX12_isBegun_59 rfl (lv_at hl 0 rfl) ?_
            refine z_get (ci := 12) (C := RX12) (T := TX12) (N := 51) (v := .ref (r_t 0)) hx hb hts inT_X12 hown hK hP 0 rfl rfl 0 (by decide) tf_X12_10 rfl dX12_isBegun_60 ?_
            refine lv_iload_n hx hb dX12_isBegun_63 rfl (lv_at hl 1 rfl) ?_
            refine lv_iload hx hb dX12_isBegun_64 (lv_at hl 4 rfl) ?_
            refine lv_iadd hx hb dX12_isBegun_66 ?_
            refine lv_bipush (v := 13) hx hb dX12_isBegun_67 (by decide) ?_
            refine lv_iadd hx hb dX12_isBegun_69 ?_
            refine z_iald hx hb hK hP 1 rfl dX12_isBegun_70 hf (fun y16 hf => ?_)
            refine z_iast hx hb hK hP hD hS 1 rfl (fun z => w_X12_isBegun h_t r_t F_t cI z a_words a_address a_number) (fun _ => rfl) dX12_isBegun_71 hf (fun a17 H locs hf hP hD hS => ?_)
            refine z_iinc (k0 := 4) (fun z => [(4, .int z), (0, .ref h_t), (1, .int p1), (2, .int x2), (3, .int x3)]) hx hb dX12_isBegun_72 hl rfl (by decide) (by decide) (fun _ => rfl) hf (fun v18 ls hf hl => ?_)
            refine lv_goto (tgt := 45) hx hb dX12_isBegun_75 (by decide) ?_
            exact ih45 x2 x3 v18 F_t a17 a_words a_address a_number _ _ _ hf hP hD hS (lv_sub hl [1, 2, 3, 4, 0] rfl)
      refine lv_aload_n hx hb dX12_isBegun_0 rfl (lv_at hl 0 rfl) ?_
      refine z_get (ci := 12) (C := RX12) (T := TX12) (N := 51) (v := .ref (r_t 0)) hx hb hts inT_X12 hown hK hP 0 rfl rfl 0 (by decide) tf_X12_10 rfl dX12_isBegun_1 ?_
      refine lv_iload_n hx hb dX12_isBegun_4 rfl (lv_at hl 1 rfl) ?_
      refine lv_sipush (v := 777) hx hb dX12_isBegun_5 (by decide) ?_
      refine lv_iadd hx hb dX12_isBegun_8 ?_
      refine z_iald hx hb hK hP 1 rfl dX12_isBegun_9 hf (fun y1 hf => ?_)
      refine z_if_le (tgt := 193) hx hb dX12_isBegun_10 (by decide) hf (fun hf => ?_) (fun hf => ?_)
      · refine lv_iconst (v := 0) hx hb dX12_isBegun_193 (by decide) ?_
        exact hret (0, F_t, a_rows, a_words, a_address, a_number) _ _ _ _ (Or.inl rfl) hf hP hD hS dX12_isBegun_194
      · refine lv_aload_n hx hb dX12_isBegun_13 rfl (lv_at hl 0 rfl) ?_
        refine lv_iload_n hx hb dX12_isBegun_14 rfl (lv_at hl 1 rfl) ?_
        obtain ⟨u2, hu2, hf⟩ := bd_some hf
        refine z_ci (ws1 := w_X12_isBegun h_t r_t u2.2.1 cI a_rows u2.2.2.1 u2.2.2.2.1 u2.2.2.2.2) (wr := List.filterMap (fun i : Nat => (w_X12_isBegun h_t r_t F_t cI a_rows a_words a_address a_number)[i]?) []) (z_rV (rest := []) hx hb hml hown hcx hl.1 (c_X12_isWritten l D cI h_t r_t F_t a_rows a_words a_address a_number p1 u2 hu2 _) tl_X12_153 ti_X12_isWritten tz_X12_isWritten tn_X12 tc_X12_isWritten tm_X12_isWritten rfl rfl ⟨Nat.le_of_ble_eq_true rfl, Nat.le_of_ble_eq_true rfl⟩ hK hX hS hA hP hD [0, 1, 2, 3, 4] rfl rfl 0 rfl rfl rfl rfl (Nat.le_of_ble_eq_true rfl) dX12_isBegun_15 ⟨Nat.zero_le _, Nat.zero_le _⟩) hP hD hS hA [0, 1, 2, 3, 4] [] [0, 1, 2, 3, 4] rfl rfl rfl (by decide) rfl rfl (fun H locs hP hD hS => ?_)
        refine lv_istore_n (lv' := [(2, .int u2.1), (0, .ref h_t), (1, .int p1)]) hx hb dX12_isBegun_18 rfl hl (by decide) rfl (fun ls hl => ?_)
        refine lv_sipush (v := 616) hx hb dX12_isBegun_19 (by decide) ?_
        refine lv_bipush (v := 13) hx hb dX12_isBegun_22 (by decide) ?_
        refine lv_aload_n hx hb dX12_isBegun_24 rfl (lv_at hl 1 rfl) ?_
        refine z_get (ci := 12) (C := RX12) (T := TX12) (N := 51) (v := .ref (r_t 0)) hx hb hts inT_X12 hown hK hP 0 rfl rfl 0 (by decide) tf_X12_10 rfl dX12_isBegun_25 ?_
        refine lv_iload_n hx hb dX12_isBegun_28 rfl (lv_at hl 2 rfl) ?_
        refine lv_sipush (v := 777) hx hb dX12_isBegun_29 (by decide) ?_
        refine lv_iadd hx hb dX12_isBegun_32 ?_
        refine z_iald hx hb hK hP 1 rfl dX12_isBegun_33 hf (fun y3 hf => ?_)
        refine lv_imul hx hb dX12_isBegun_34 ?_
        refine lv_iadd hx hb dX12_isBegun_35 ?_
        refine lv_bipush (v := 13) hx hb dX12_isBegun_36 (by decide) ?_
        refine lv_isub hx hb dX12_isBegun_38 ?_
        refine z_istore_n (fun z => [(3, .int z), (2, .int u2.1), (0, .ref h_t), (1, .int p1)]) hx hb dX12_isBegun_39 rfl hl (by decide) (fun _ => rfl) hf (fun v4 ls hf hl => ?_)
        refine lv_sipush (v := 616) hx hb dX12_isBegun_40 (by decide) ?_
        refine lv_istore (lv' := [(4, .int 616), (3, .int v4), (2, .int u2.1), (0, .ref h_t), (1, .int p1)]) hx hb dX12_isBegun_43 hl (by decide) rfl (fun ls hl => ?_)
        exact L45 fuelN u2.1 v4 616 u2.2.1 a_rows u2.2.2.1 u2.2.2.2.1 u2.2.2.2.2 _ _ _ hf hP hD hS (lv_sub hl [3, 4, 2, 1, 0] rfl)
  exact L0 fuelN F_t a_rows a_words a_address a_number _ _ _ hf hP hD hS (lv_sub hl [0, 1] rfl)
abbrev w_X12_isStep (h_t : Nat) (r_t : Nat → Nat) (F_t : Nat → Int32) (cI : ClassId) (a_rows : Nat → Int32) (a_words : Nat → Int32) (a_address : Nat → Int32) (a_number : Nat → Int32) : va_W := [(h_t, .inr (12, o_X12 r_t F_t)), ((r_t 0), .inl (cI, 66100, .inl a_rows)), ((r_t 16), .inl (cI, 64, .inl a_words)), ((r_t 17), .inl (cI, 64, .inl a_address)), ((r_t 18), .inl (cI, 64, .inl a_number))]
abbrev rm_X12_isStep : Room := { frames := 8, cells := 0, slots := 0, locals := 183 }
def m_X12_isStep_j166 (p1 : Int32) (F_t : Nat → Int32) (a_rows : Nat → Int32) (a_words : Nat → Int32) (a_address : Nat → Int32) (a_number : Nat → Int32) : Option (Int32 × (Nat → Int32) × (Nat → Int32) × (Nat → Int32) × (Nat → Int32) × (Nat → Int32)) :=
  wr a_rows 66100 (p1 + 772) 0 fun a16 =>
  wr a16 66100 (p1 + 776) 0 fun a17 =>
  wr a17 66100 (p1 + 774) 0 fun a18 =>
  wr a18 66100 (p1 + 775) 0 fun a19 =>
  some (1, F_t, a19, a_words, a_address, a_number)
def m_X12_isStep_j39 (p1 : Int32) (F_t : Nat → Int32) (a_rows : Nat → Int32) (a_words : Nat → Int32) (a_address : Nat → Int32) (a_number : Nat → Int32) : Option (Int32 × (Nat → Int32) × (Nat → Int32) × (Nat → Int32) × (Nat → Int32) × (Nat → Int32)) :=
  rd a_rows 66100 (p1 + 775) fun y3 =>
  nm ((p1 + 288) + (3 * y3)) fun v4 =>
  rd a_rows 66100 v4 fun y5 =>
  rd a_rows 66100 (v4 + 1) fun y6 =>
  rd a_rows 66100 (v4 + 2) fun y7 =>
  bd (m_X12_does a_rows p1 y5 y6 y7) fun u8 =>
  rd u8 66100 (p1 + 775) fun y9 =>
  wr u8 66100 (p1 + 775) (y9 + 1) fun a10 =>
  rd a10 66100 (p1 + 782) fun y11 =>
  wr a10 66100 (p1 + 782) (y11 + 1) fun a12 =>
  rd a12 66100 (p1 + 775) fun y13 =>
  rd a12 66100 (p1 + 774) fun y14 =>
  if y14 ≤ y13 then (
  rd a12 66100 (p1 + 776) fun y15 =>
  if y15 = 1 then (
  rd a12 66100 (p1 + 778) fun y20 =>
  wr a12 66100 (p1 + 778) (y20 + 1) fun a21 =>
  m_X12_isStep_j166 p1 F_t a21 a_words a_address a_number)
  else (
  m_X12_isStep_j166 p1 F_t a12 a_words a_address a_number))
  else (
  some (1, F_t, a12, a_words, a_address, a_number))
def m_X12_isStep (F_t : Nat → Int32) (a_rows : Nat → Int32) (a_words : Nat → Int32) (a_address : Nat → Int32) (a_number : Nat → Int32) (p1 : Int32) : Option (Int32 × (Nat → Int32) × (Nat → Int32) × (Nat → Int32) × (Nat → Int32) × (Nat → Int32)) :=
  rd a_rows 66100 (p1 + 772) fun y1 =>
  if y1 = 1 then (
  some (0, F_t, a_rows, a_words, a_address, a_number))
  else (
  rd a_rows 66100 (p1 + 776) fun y2 =>
  if y2 = 0 then (
  bd (m_X12_isBegun F_t a_rows a_words a_address a_number p1) fun u22 =>
  if u22.1 = 0 then (
  some (0, u22.2.1, u22.2.2.1, u22.2.2.2.1, u22.2.2.2.2.1, u22.2.2.2.2.2))
  else (
  m_X12_isStep_j39 p1 u22.2.1 u22.2.2.1 u22.2.2.2.1 u22.2.2.2.2.1 u22.2.2.2.2.2))
  else (
  m_X12_isStep_j39 p1 F_t a_rows a_words a_address a_number))
set_option maxHeartbeats 4000000 in
set_option maxRecDepth 100000 in
theorem c_X12_isStep (l : Launch) (D : va_G) (cI : ClassId) (h_t : Nat) (r_t : Nat → Nat) (F_t : Nat → Int32) (a_rows : Nat → Int32) (a_words : Nat → Int32) (a_address : Nat → Int32) (a_number : Nat → Int32) (p1 : Int32) (Rr : Int32 × (Nat → Int32) × (Nat → Int32) × (Nat → Int32) × (Nat → Int32) × (Nat → Int32)) (hf : m_X12_isStep F_t a_rows a_words a_address a_number p1 = some Rr) : CTi l yX12_isStep (Cond.code yX12_isStep cX12_isStep 3 (some .boolean)) rm_X12_isStep D cI [.ref h_t, .int p1] (w_X12_isStep h_t r_t F_t cI a_rows a_words a_address a_number) Rr.1 (w_X12_isStep h_t r_t Rr.2.1 cI Rr.2.2.1 Rr.2.2.2.1 Rr.2.2.2.2.1 Rr.2.2.2.2.2) := by
  refine z_begin_z (own := RX12) (ρ := Int32 × (Nat → Int32) × (Nat → Int32) × (Nat → Int32) × (Nat → Int32) × (Nat → Int32)) (fun u => w_X12_isStep h_t r_t u.2.1 cI u.2.2.1 u.2.2.2.1 u.2.2.2.2.1 u.2.2.2.2.2) (fun u => u.1) (by decide +kernel) rfl (Nat.le_of_ble_eq_true rfl) ?_
  intro p e s m args below meth c ls Q A hx hb hml hts hcx hown hK hX hA hP hD hS hl hret
  have hl : lv_has ls 3 [(0, .ref h_t), (1, .int p1)] := hl
  have hf := (m_X12_isStep.eq_1 _ _ _ _ _ _).symm.trans hf
  have L166 : ∀ (F_t : Nat → Int32) (a_rows : Nat → Int32) (a_words : Nat → Int32) (a_address : Nat → Int32) (a_number : Nat → Int32) (H : Heap) (locs : List Loc) (ls : Array Slot), m_X12_isStep_j166 p1 F_t a_rows a_words a_address a_number = some Rr → va_P D vwCl (w_X12_isStep h_t r_t F_t cI a_rows a_words a_address a_number) H → va_D A (w_X12_isStep h_t r_t F_t cI a_rows a_words a_address a_number) → va_S A s.heap H locs → lv_has ls 3 [(0, .ref h_t), (1, .int p1)] → W p l e rm_X12_isStep s m args below meth c H locs 0 0 Q (F0 m 166 ls []) := by
    intro F_t a_rows a_words a_address a_number H locs ls hf hP hD hS hl
    have hf := (m_X12_isStep_j166.eq_1 _ _ _ _ _ _).symm.trans hf
    refine lv_aload_n hx hb dX12_isStep_166 rfl (lv_at hl 0 rfl) ?_
    refine z_get (ci := 12) (C := RX12) (T := TX12) (N := 51) (v := .ref (r_t 0)) hx hb hts inT_X12 hown hK hP 0 rfl rfl 0 (by decide) tf_X12_10 rfl dX12_isStep_167 ?_
    refine lv_iload_n hx hb dX12_isStep_170 rfl (lv_at hl 1 rfl) ?_
    refine lv_sipush (v := 772) hx hb dX12_isStep_171 (by decide) ?_
    refine lv_iadd hx hb dX12_isStep_174 ?_
    refine lv_iconst (v := 0) hx hb dX12_isStep_175 (by decide) ?_
    refine z_iast hx hb hK hP hD hS 1 rfl (fun z => w_X12_isStep h_t r_t F_t cI z a_words a_address a_number) (fun _ => rfl) dX12_isStep_176 hf (fun a16 H locs hf hP hD hS => ?_)
    refine lv_aload_n hx hb dX12_isStep_177 rfl (lv_at hl 0 rfl) ?_
    refine z_get (ci := 12) (C := RX12) (T := TX12) (N := 51) (v := .ref (r_t 0)) hx hb hts inT_X12 hown hK hP 0 rfl rfl 0 (by decide) tf_X12_10 rfl dX12_isStep_178 ?_
    refine lv_iload_n hx hb dX12_isStep_181 rfl (lv_at hl 1 rfl) ?_
    refine lv_sipush (v := 776) hx hb dX12_isStep_182 (by decide) ?_
    refine lv_iadd hx hb dX12_isStep_185 ?_
    refine lv_iconst (v := 0) hx hb dX12_isStep_186 (by decide) ?_
    refine z_iast hx hb hK hP hD hS 1 rfl (fun z => w_X12_isStep h_t r_t F_t cI z a_words a_address a_number) (fun _ => rfl) dX12_isStep_187 hf (fun a17 H locs hf hP hD hS => ?_)
    refine lv_aload_n hx hb dX12_isStep_188 rfl (lv_at hl 0 rfl) ?_
    refine z_get (ci := 12) (C := RX12) (T := TX12) (N := 51) (v := .ref (r_t 0)) hx hb hts inT_X12 hown hK hP 0 rfl rfl 0 (by decide) tf_X12_10 rfl dX12_isStep_189 ?_
    refine lv_iload_n hx hb dX12_isStep_192 rfl (lv_at hl 1 rfl) ?_
    refine lv_sipush (v := 774) hx hb dX12_isStep_193 (by decide) ?_
    refine lv_iadd hx hb dX12_isStep_196 ?_
    refine lv_iconst (v := 0) hx hb dX12_isStep_197 (by decide) ?_
    refine z_iast hx hb hK hP hD hS 1 rfl (fun z => w_X12_isStep h_t r_t F_t cI z a_words a_address a_number) (fun _ => rfl) dX12_isStep_198 hf (fun a18 H locs hf hP hD hS => ?_)
    refine lv_aload_n hx hb dX12_isStep_199 rfl (lv_at hl 0 rfl) ?_
    refine z_get (ci := 12) (C := RX12) (T := TX12) (N := 51) (v := .ref (r_t 0)) hx hb hts inT_X12 hown hK hP 0 rfl rfl 0 (by decide) tf_X12_10 rfl dX12_isStep_200 ?_
    refine lv_iload_n hx hb dX12_isStep_203 rfl (lv_at hl 1 rfl) ?_
    refine lv_sipush (v := 775) hx hb dX12_isStep_204 (by decide) ?_
    refine lv_iadd hx hb dX12_isStep_207 ?_
    refine lv_iconst (v := 0) hx hb dX12_isStep_208 (by decide) ?_
    refine z_iast hx hb hK hP hD hS 1 rfl (fun z => w_X12_isStep h_t r_t F_t cI z a_words a_address a_number) (fun _ => rfl) dX12_isStep_209 hf (fun a19 H locs hf hP hD hS => ?_)
    refine lv_iconst (v := 1) hx hb dX12_isStep_210 (by decide) ?_
    exact hret (1, F_t, a19, a_words, a_address, a_number) _ _ _ _ (Or.inr rfl) hf hP hD hS dX12_isStep_211
  have L39 : ∀ (F_t : Nat → Int32) (a_rows : Nat → Int32) (a_words : Nat → Int32) (a_address : Nat → Int32) (a_number : Nat → Int32) (H : Heap) (locs : List Loc) (ls : Array Slot), m_X12_isStep_j39 p1 F_t a_rows a_words a_address a_number = some Rr → va_P D vwCl (w_X12_isStep h_t r_t F_t cI a_rows a_words a_address a_number) H → va_D A (w_X12_isStep h_t r_t F_t cI a_rows a_words a_address a_number) → va_S A s.heap H locs → lv_has ls 3 [(0, .ref h_t), (1, .int p1)] → W p l e rm_X12_isStep s m args below meth c H locs 0 0 Q (F0 m 39 ls []) := by
    intro F_t a_rows a_words a_address a_number H locs ls hf hP hD hS hl
    have hf := (m_X12_isStep_j39.eq_1 _ _ _ _ _ _).symm.trans hf
    refine lv_iload_n hx hb dX12_isStep_39 rfl (lv_at hl 1 rfl) ?_
    refine lv_sipush (v := 288) hx hb dX12_isStep_40 (by decide) ?_
    refine lv_iadd hx hb dX12_isStep_43 ?_
    refine lv_iconst (v := 3) hx hb dX12_isStep_44 (by decide) ?_
    refine lv_aload_n hx hb dX12_isStep_45 rfl (lv_at hl 0 rfl) ?_
    refine z_get (ci := 12) (C := RX12) (T := TX12) (N := 51) (v := .ref (r_t 0)) hx hb hts inT_X12 hown hK hP 0 rfl rfl 0 (by decide) tf_X12_10 rfl dX12_isStep_46 ?_
    refine lv_iload_n hx hb dX12_isStep_49 rfl (lv_at hl 1 rfl) ?_
    refine lv_sipush (v := 775) hx hb dX12_isStep_50 (by decide) ?_
    refine lv_iadd hx hb dX12_isStep_53 ?_
    refine z_iald hx hb hK hP 1 rfl dX12_isStep_54 hf (fun y3 hf => ?_)
    refine lv_imul hx hb dX12_isStep_55 ?_
    refine lv_iadd hx hb dX12_isStep_56 ?_
    refine z_istore_n (fun z => [(2, .int z), (0, .ref h_t), (1, .int p1)]) hx hb dX12_isStep_57 rfl hl (by decide) (fun _ => rfl) hf (fun v4 ls hf hl => ?_)
    refine lv_aload_n hx hb dX12_isStep_58 rfl (lv_at hl 1 rfl) ?_
    refine lv_iload_n hx hb dX12_isStep_59 rfl (lv_at hl 2 rfl) ?_
    refine lv_aload_n hx hb dX12_isStep_60 rfl (lv_at hl 1 rfl) ?_
    refine z_get (ci := 12) (C := RX12) (T := TX12) (N := 51) (v := .ref (r_t 0)) hx hb hts inT_X12 hown hK hP 0 rfl rfl 0 (by decide) tf_X12_10 rfl dX12_isStep_61 ?_
    refine lv_iload_n hx hb dX12_isStep_64 rfl (lv_at hl 0 rfl) ?_
    refine z_iald hx hb hK hP 1 rfl dX12_isStep_65 hf (fun y5 hf => ?_)
    refine lv_aload_n hx hb dX12_isStep_66 rfl (lv_at hl 1 rfl) ?_
    refine z_get (ci := 12) (C := RX12) (T := TX12) (N := 51) (v := .ref (r_t 0)) hx hb hts inT_X12 hown hK hP 0 rfl rfl 0 (by decide) tf_X12_10 rfl dX12_isStep_67 ?_
    refine lv_iload_n hx hb dX12_isStep_70 rfl (lv_at hl 0 rfl) ?_
    refine lv_iconst (v := 1) hx hb dX12_isStep_71 (by decide) ?_
    refine lv_iadd hx hb dX12_isStep_72 ?_
    refine z_iald hx hb hK hP 1 rfl dX12_isStep_73 hf (fun y6 hf => ?_)
    refine lv_aload_n hx hb dX12_isStep_74 rfl (lv_at hl 1 rfl) ?_
    refine z_get (ci := 12) (C := RX12) (T := TX12) (N := 51) (v := .ref (r_t 0)) hx hb hts inT_X12 hown hK hP 0 rfl rfl 0 (by decide) tf_X12_10 rfl dX12_isStep_75 ?_
    refine lv_iload_n hx hb dX12_isStep_78 rfl (lv_at hl 0 rfl) ?_
    refine lv_iconst (v := 2) hx hb dX12_isStep_79 (by decide) ?_
    refine lv_iadd hx hb dX12_isStep_80 ?_
    refine z_iald hx hb hK hP 1 rfl dX12_isStep_81 hf (fun y7 hf => ?_)
    obtain ⟨u8, hu8, hf⟩ := bd_some hf
    refine z_cv (ws1 := w_X12_isStep h_t r_t F_t cI u8 a_words a_address a_number) (wr := List.filterMap (fun i : Nat => (w_X12_isStep h_t r_t F_t cI a_rows a_words a_address a_number)[i]?) [2, 3, 4]) (z_rV (rest := []) hx hb hml hown hcx hl.1 (c_X12_does l D cI h_t r_t F_t a_rows p1 y5 y6 y7 u8 hu8 _) tl_X12_163 ti_X12_does tz_X12_does tn_X12 tc_X12_does tm_X12_does rfl rfl ⟨Nat.le_of_ble_eq_true rfl, Nat.le_of_ble_eq_true rfl⟩ hK hX hS hA hP hD [0, 1] rfl rfl 0 rfl rfl rfl rfl (Nat.le_of_ble_eq_true rfl) dX12_isStep_82 ⟨Nat.zero_le _, Nat.zero_le _⟩) hP hD hS hA [0, 1] [2, 3, 4] [3, 4, 0, 1, 2] rfl rfl rfl (by decide) rfl rfl (fun H locs hP hD hS => ?_)
    refine lv_aload_n hx hb dX12_isStep_85 rfl (lv_at hl 1 rfl) ?_
    refine z_get (ci := 12) (C := RX12) (T := TX12) (N := 51) (v := .ref (r_t 0)) hx hb hts inT_X12 hown hK hP 0 rfl rfl 0 (by decide) tf_X12_10 rfl dX12_isStep_86 ?_
    refine lv_iload_n hx hb dX12_isStep_89 rfl (lv_at hl 2 rfl) ?_
    refine lv_sipush (v := 775) hx hb dX12_isStep_90 (by decide) ?_
    refine lv_iadd hx hb dX12_isStep_93 ?_
    refine lv_dup2_11 hx hb dX12_isStep_94 rfl rfl ?_
    refine z_iald hx hb hK hP 1 rfl dX12_isStep_95 hf (fun y9 hf => ?_)
    refine lv_iconst (v := 1) hx hb dX12_isStep_96 (by decide) ?_
    refine lv_iadd hx hb dX12_isStep_97 ?_
    refine z_iast hx hb hK hP hD hS 1 rfl (fun z => w_X12_isStep h_t r_t F_t cI z a_words a_address a_number) (fun _ => rfl) dX12_isStep_98 hf (fun a10 H locs hf hP hD hS => ?_)
    refine lv_aload_n hx hb dX12_isStep_99 rfl (lv_at hl 1 rfl) ?_
    refine z_get (ci := 12) (C := RX12) (T := TX12) (N := 51) (v := .ref (r_t 0)) hx hb hts inT_X12 hown hK hP 0 rfl rfl 0 (by decide) tf_X12_10 rfl dX12_isStep_100 ?_
    refine lv_iload_n hx hb dX12_isStep_103 rfl (lv_at hl 2 rfl) ?_
    refine lv_sipush (v := 782) hx hb dX12_isStep_104 (by decide) ?_
    refine lv_iadd hx hb dX12_isStep_107 ?_
    refine lv_dup2_11 hx hb dX12_isStep_108 rfl rfl ?_
    refine z_iald hx hb hK hP 1 rfl dX12_isStep_109 hf (fun y11 hf => ?_)
    refine lv_iconst (v := 1) hx hb dX12_isStep_110 (by decide) ?_
    refine lv_iadd hx hb dX12_isStep_111 ?_
    refine z_iast hx hb hK hP hD hS 1 rfl (fun z => w_X12_isStep h_t r_t F_t cI z a_words a_address a_number) (fun _ => rfl) dX12_isStep_112 hf (fun a12 H locs hf hP hD hS => ?_)
    refine lv_aload_n hx hb dX12_isStep_113 rfl (lv_at hl 1 rfl) ?_
    refine z_get (ci := 12) (C := RX12) (T := TX12) (N := 51) (v := .ref (r_t 0)) hx hb hts inT_X12 hown hK hP 0 rfl rfl 0 (by decide) tf_X12_10 rfl dX12_isStep_114 ?_
    refine lv_iload_n hx hb dX12_isStep_117 rfl (lv_at hl 2 rfl) ?_
    refine lv_sipush (v := 775) hx hb dX12_isStep_118 (by decide) ?_
    refine lv_iadd hx hb dX12_isStep_121 ?_
    refine z_iald hx hb hK hP 1 rfl dX12_isStep_122 hf (fun y13 hf => ?_)
    refine lv_aload_n hx hb dX12_isStep_123 rfl (lv_at hl 1 rfl) ?_
    refine z_get (ci := 12) (C := RX12) (T := TX12) (N := 51) (v := .ref (r_t 0)) hx hb hts inT_X12 hown hK hP 0 rfl rfl 0 (by decide) tf_X12_10 rfl dX12_isStep_124 ?_
    refine lv_iload_n hx hb dX12_isStep_127 rfl (lv_at hl 2 rfl) ?_
    refine lv_sipush (v := 774) hx hb dX12_isStep_128 (by decide) ?_
    refine lv_iadd hx hb dX12_isStep_131 ?_
    refine z_iald hx hb hK hP 1 rfl dX12_isStep_132 hf (fun y14 hf => ?_)
    refine z_icmp_ge (tgt := 138) hx hb dX12_isStep_133 (by decide) hf (fun hf => ?_) (fun hf => ?_)
    · refine lv_aload_n hx hb dX12_isStep_138 rfl (lv_at hl 1 rfl) ?_
      refine z_get (ci := 12) (C := RX12) (T := TX12) (N := 51) (v := .ref (r_t 0)) hx hb hts inT_X12 hown hK hP 0 rfl rfl 0 (by decide) tf_X12_10 rfl dX12_isStep_139 ?_
      refine lv_iload_n hx hb dX12_isStep_142 rfl (lv_at hl 2 rfl) ?_
      refine lv_sipush (v := 776) hx hb dX12_isStep_143 (by decide) ?_
      refine lv_iadd hx hb dX12_isStep_146 ?_
      refine z_iald hx hb hK hP 1 rfl dX12_isStep_147 hf (fun y15 hf => ?_)
      refine lv_iconst (v := 1) hx hb dX12_isStep_148 (by decide) ?_
      refine z_icmp_ne (tgt := 166) hx hb dX12_isStep_149 (by decide) hf (fun hf => ?_) (fun hf => ?_)
      · exact L166 F_t a12 a_words a_address a_number _ _ _ hf hP hD hS (lv_sub hl [1, 2] rfl)
      · refine lv_aload_n hx hb dX12_isStep_152 rfl (lv_at hl 1 rfl) ?_
        refine z_get (ci := 12) (C := RX12) (T := TX12) (N := 51) (v := .ref (r_t 0)) hx hb hts inT_X12 hown hK hP 0 rfl rfl 0 (by decide) tf_X12_10 rfl dX12_isStep_153 ?_
        refine lv_iload_n hx hb dX12_isStep_156 rfl (lv_at hl 2 rfl) ?_
        refine lv_sipush (v := 778) hx hb dX12_isStep_157 (by decide) ?_
        refine lv_iadd hx hb dX12_isStep_160 ?_
        refine lv_dup2_11 hx hb dX12_isStep_161 rfl rfl ?_
        refine z_iald hx hb hK hP 1 rfl dX12_isStep_162 hf (fun y20 hf => ?_)
        refine lv_iconst (v := 1) hx hb dX12_isStep_163 (by decide) ?_
        refine lv_iadd hx hb dX12_isStep_164 ?_
        refine z_iast hx hb hK hP hD hS 1 rfl (fun z => w_X12_isStep h_t r_t F_t cI z a_words a_address a_number) (fun _ => rfl) dX12_isStep_165 hf (fun a21 H locs hf hP hD hS => ?_)
        exact L166 F_t a21 a_words a_address a_number _ _ _ hf hP hD hS (lv_sub hl [1, 2] rfl)
    · refine lv_iconst (v := 1) hx hb dX12_isStep_136 (by decide) ?_
      exact hret (1, F_t, a12, a_words, a_address, a_number) _ _ _ _ (Or.inr rfl) hf hP hD hS dX12_isStep_137
  refine lv_aload_n hx hb dX12_isStep_0 rfl (lv_at hl 0 rfl) ?_
  refine z_get (ci := 12) (C := RX12) (T := TX12) (N := 51) (v := .ref (r_t 0)) hx hb hts inT_X12 hown hK hP 0 rfl rfl 0 (by decide) tf_X12_10 rfl dX12_isStep_1 ?_
  refine lv_iload_n hx hb dX12_isStep_4 rfl (lv_at hl 1 rfl) ?_
  refine lv_sipush (v := 772) hx hb dX12_isStep_5 (by decide) ?_
  refine lv_iadd hx hb dX12_isStep_8 ?_
  refine z_iald hx hb hK hP 1 rfl dX12_isStep_9 hf (fun y1 hf => ?_)
  refine lv_iconst (v := 1) hx hb dX12_isStep_10 (by decide) ?_
  refine z_icmp_ne (tgt := 16) hx hb dX12_isStep_11 (by decide) hf (fun hf => ?_) (fun hf => ?_)
  · refine lv_aload_n hx hb dX12_isStep_16 rfl (lv_at hl 0 rfl) ?_
    refine z_get (ci := 12) (C := RX12) (T := TX12) (N := 51) (v := .ref (r_t 0)) hx hb hts inT_X12 hown hK hP 0 rfl rfl 0 (by decide) tf_X12_10 rfl dX12_isStep_17 ?_
    refine lv_iload_n hx hb dX12_isStep_20 rfl (lv_at hl 1 rfl) ?_
    refine lv_sipush (v := 776) hx hb dX12_isStep_21 (by decide) ?_
    refine lv_iadd hx hb dX12_isStep_24 ?_
    refine z_iald hx hb hK hP 1 rfl dX12_isStep_25 hf (fun y2 hf => ?_)
    refine z_if_ne (tgt := 39) hx hb dX12_isStep_26 (by decide) hf (fun hf => ?_) (fun hf => ?_)
    · exact L39 F_t a_rows a_words a_address a_number _ _ _ hf hP hD hS (lv_sub hl [0, 1] rfl)
    · refine lv_aload_n hx hb dX12_isStep_29 rfl (lv_at hl 0 rfl) ?_
      refine lv_iload_n hx hb dX12_isStep_30 rfl (lv_at hl 1 rfl) ?_
      obtain ⟨u22, hu22, hf⟩ := bd_some hf
      refine z_ci (ws1 := w_X12_isStep h_t r_t u22.2.1 cI u22.2.2.1 u22.2.2.2.1 u22.2.2.2.2.1 u22.2.2.2.2.2) (wr := List.filterMap (fun i : Nat => (w_X12_isStep h_t r_t F_t cI a_rows a_words a_address a_number)[i]?) []) (z_rV (rest := []) hx hb hml hown hcx hl.1 (c_X12_isBegun l D cI h_t r_t F_t a_rows a_words a_address a_number p1 u22 hu22 _) tl_X12_160 ti_X12_isBegun tz_X12_isBegun tn_X12 tc_X12_isBegun tm_X12_isBegun rfl rfl ⟨Nat.le_of_ble_eq_true rfl, Nat.le_of_ble_eq_true rfl⟩ hK hX hS hA hP hD [0, 1, 2, 3, 4] rfl rfl 0 rfl rfl rfl rfl (Nat.le_of_ble_eq_true rfl) dX12_isStep_31 ⟨Nat.zero_le _, Nat.zero_le _⟩) hP hD hS hA [0, 1, 2, 3, 4] [] [0, 1, 2, 3, 4] rfl rfl rfl (by decide) rfl rfl (fun H locs hP hD hS => ?_)
      refine z_if_ne (tgt := 39) hx hb dX12_isStep_34 (by decide) hf (fun hf => ?_) (fun hf => ?_)
      · exact L39 u22.2.1 u22.2.2.1 u22.2.2.2.1 u22.2.2.2.2.1 u22.2.2.2.2.2 _ _ _ hf hP hD hS (lv_sub hl [0, 1] rfl)
      · refine lv_iconst (v := 0) hx hb dX12_isStep_37 (by decide) ?_
        exact hret (0, u22.2.1, u22.2.2.1, u22.2.2.2.1, u22.2.2.2.2.1, u22.2.2.2.2.2) _ _ _ _ (Or.inl rfl) hf hP hD hS dX12_isStep_38
  · refine lv_iconst (v := 0) hx hb dX12_isStep_14 (by decide) ?_
    exact hret (0, F_t, a_rows, a_words, a_address, a_number) _ _ _ _ (Or.inl rfl) hf hP hD hS dX12_isStep_15
abbrev w_X12_entryAt (h_t : Nat) (r_t : Nat → Nat) (F_t : Nat → Int32) (cI : ClassId) : va_W := [(h_t, .inr (12, o_X12 r_t F_t))]
abbrev rm_X12_entryAt : Room := { frames := 0, cells := 0, slots := 0, locals := 0 }
def m_X12_entryAt (F_t : Nat → Int32) (p1 : Int32) (p2 : Int32) : Option (Int32) :=
  if (F_t 12) = 1 then (
  some (4 + (2 * p2)))
  else (
  some (4 + (2 * ((p1 - 1) - p2))))
set_option maxHeartbeats 4000000 in
set_option maxRecDepth 100000 in
theorem c_X12_entryAt (l : Launch) (D : va_G) (cI : ClassId) (h_t : Nat) (r_t : Nat → Nat) (F_t : Nat → Int32) (p1 : Int32) (p2 : Int32) (Rr : Int32) (hf : m_X12_entryAt F_t p1 p2 = some Rr) : CTi l yX12_entryAt (Cond.code yX12_entryAt cX12_entryAt 3 (some .int)) rm_X12_entryAt D cI [.ref h_t, .int p1, .int p2] (w_X12_entryAt h_t r_t F_t cI) Rr (w_X12_entryAt h_t r_t F_t cI) := by
  refine z_begin_i (own := RX12) (ρ := Int32) (fun u => w_X12_entryAt h_t r_t F_t cI) (fun u => u) (by decide +kernel) rfl (Nat.le_of_ble_eq_true rfl) ?_
  intro p e s m args below meth c ls Q A hx hb hml hts hcx hown hK hX hA hP hD hS hl hret
  have hl : lv_has ls 3 [(0, .ref h_t), (1, .int p1), (2, .int p2)] := hl
  have hf := (m_X12_entryAt.eq_1 _ _ _).symm.trans hf
  refine lv_iconst (v := 4) hx hb dX12_entryAt_0 (by decide) ?_
  refine lv_iconst (v := 2) hx hb dX12_entryAt_1 (by decide) ?_
  refine lv_aload_n hx hb dX12_entryAt_2 rfl (lv_at hl 0 rfl) ?_
  refine z_get (ci := 12) (C := RX12) (T := TX12) (N := 51) (v := .int (F_t 12)) hx hb hts inT_X12 hown hK hP 0 rfl rfl 12 (by decide) tf_X12_147 rfl dX12_entryAt_3 ?_
  refine lv_iconst (v := 1) hx hb dX12_entryAt_6 (by decide) ?_
  refine z_icmp_ne (tgt := 14) hx hb dX12_entryAt_7 (by decide) hf (fun hf => ?_) (fun hf => ?_)
  · refine lv_iload_n hx hb dX12_entryAt_14 rfl (lv_at hl 1 rfl) ?_
    refine lv_iconst (v := 1) hx hb dX12_entryAt_15 (by decide) ?_
    refine lv_isub hx hb dX12_entryAt_16 ?_
    refine lv_iload_n hx hb dX12_entryAt_17 rfl (lv_at hl 2 rfl) ?_
    refine lv_isub hx hb dX12_entryAt_18 ?_
    refine lv_imul hx hb dX12_entryAt_19 ?_
    refine lv_iadd hx hb dX12_entryAt_20 ?_
    exact hret (4 + (2 * ((p1 - 1) - p2))) _ _ _ _ hf hP hD hS dX12_entryAt_21
  · refine lv_iload_n hx hb dX12_entryAt_10 rfl (lv_at hl 2 rfl) ?_
    refine lv_goto (tgt := 19) hx hb dX12_entryAt_11 (by decide) ?_
    refine lv_imul hx hb dX12_entryAt_19 ?_
    refine lv_iadd hx hb dX12_entryAt_20 ?_
    exact hret (4 + (2 * p2)) _ _ _ _ hf hP hD hS dX12_entryAt_21
abbrev w_X12_counted (h_p0 : Nat) (cI : ClassId) (n_p0 : Nat) (a_p0 : Nat → Int32) : va_W := [(h_p0, .inl (cI, n_p0, .inl a_p0))]
abbrev rm_X12_counted : Room := { frames := 0, cells := 0, slots := 0, locals := 0 }
def m_X12_counted (a_p0 : Nat → Int32) (n_p0 : Nat) : Option (Int32) :=
  rd a_p0 n_p0 0 fun y1 =>
  if y1 ≤ 8 then (
  rd a_p0 n_p0 0 fun y2 =>
  some y2)
  else (
  some 8)
set_option maxHeartbeats 4000000 in
set_option maxRecDepth 100000 in
theorem c_X12_counted (l : Launch) (D : va_G) (cI : ClassId) (h_p0 : Nat) (n_p0 : Nat) (a_p0 : Nat → Int32) (Rr : Int32) (hf : m_X12_counted a_p0 n_p0 = some Rr) : CTi l yX12_counted (Cond.code yX12_counted cX12_counted 1 (some .int)) rm_X12_counted D cI [.ref h_p0] (w_X12_counted h_p0 cI n_p0 a_p0) Rr (w_X12_counted h_p0 cI n_p0 a_p0) := by
  refine z_begin_i (own := RX12) (ρ := Int32) (fun u => w_X12_counted h_p0 cI n_p0 a_p0) (fun u => u) (by decide +kernel) rfl (Nat.le_of_ble_eq_true rfl) ?_
  intro p e s m args below meth c ls Q A hx hb hml hts hcx hown hK hX hA hP hD hS hl hret
  have hl : lv_has ls 1 [(0, .ref h_p0)] := hl
  have hf := (m_X12_counted.eq_1 _ _).symm.trans hf
  refine lv_aload_n hx hb dX12_counted_0 rfl (lv_at hl 0 rfl) ?_
  refine lv_iconst (v := 0) hx hb dX12_counted_1 (by decide) ?_
  refine z_iald hx hb hK hP 0 rfl dX12_counted_2 hf (fun y1 hf => ?_)
  refine lv_bipush (v := 8) hx hb dX12_counted_3 (by decide) ?_
  refine z_icmp_le (tgt := 13) hx hb dX12_counted_5 (by decide) hf (fun hf => ?_) (fun hf => ?_)
  · refine lv_aload_n hx hb dX12_counted_13 rfl (lv_at hl 0 rfl) ?_
    refine lv_iconst (v := 0) hx hb dX12_counted_14 (by decide) ?_
    refine z_iald hx hb hK hP 0 rfl dX12_counted_15 hf (fun y2 hf => ?_)
    exact hret y2 _ _ _ _ hf hP hD hS dX12_counted_16
  · refine lv_bipush (v := 8) hx hb dX12_counted_8 (by decide) ?_
    refine lv_goto (tgt := 16) hx hb dX12_counted_10 (by decide) ?_
    exact hret 8 _ _ _ _ hf hP hD hS dX12_counted_16
abbrev w_X12_recovers (h_t : Nat) (h_p1 : Nat) (r_t : Nat → Nat) (F_t : Nat → Int32) (cI : ClassId) (n_p1 : Nat) (a_p1 : Nat → Int32) : va_W := [(h_t, .inr (12, o_X12 r_t F_t)), (h_p1, .inl (cI, n_p1, .inl a_p1))]
abbrev rm_X12_recovers : Room := { frames := 1, cells := 0, slots := 0, locals := 22 }
def m_X12_recovers_j52 (F_t : Nat → Int32) (n_p1 : Nat) (a_p1 : Nat → Int32) : Option ((Nat → Int32)) :=
  wr a_p1 n_p1 0 0 fun a2 =>
  some a2
def m_X12_recovers_j46 (F_t : Nat → Int32) (n_p1 : Nat) (k7 : Int32 → Int32 → (Nat → Int32) → Option ((Nat → Int32))) (x2 : Int32) (x3 : Int32) (a_p1 : Nat → Int32) : Option ((Nat → Int32)) :=
  nm (x3 + 1) fun v6 =>
  k7 x2 v6 a_p1
def m_X12_recovers_w7 (F_t : Nat → Int32) (n_p1 : Nat) (k52 : (Nat → Int32) → Option ((Nat → Int32))) : Nat → Int32 → Int32 → (Nat → Int32) → Option ((Nat → Int32))
  | 0, _, _, _ => none
  | n7 + 1, x2, x3, a_p1 =>
    if x2 ≤ x3 then (
    k52 a_p1)
    else (
    bd (m_X12_entryAt F_t x2 x3) fun u3 =>
    rd a_p1 n_p1 u3 fun y4 =>
    bd (m_X12_within y4 20 63) fun u5 =>
    if u5 = 0 then (
    m_X12_recovers_j46 F_t n_p1 (m_X12_recovers_w7 F_t n_p1 k52 n7) x2 x3 a_p1)
    else (
    rd a_p1 n_p1 u3 fun y7 =>
    rd a_p1 n_p1 (u3 + 1) fun y8 =>
    wr a_p1 n_p1 y7 y8 fun a9 =>
    m_X12_recovers_j46 F_t n_p1 (m_X12_recovers_w7 F_t n_p1 k52 n7) x2 x3 a9))
def m_X12_recovers (F_t : Nat → Int32) (a_p1 : Nat → Int32) (n_p1 : Nat) : Option ((Nat → Int32)) :=
  bd (m_X12_counted a_p1 n_p1) fun u1 =>
  m_X12_recovers_w7 F_t n_p1 (m_X12_recovers_j52 F_t n_p1) fuelN u1 0 a_p1
set_option maxHeartbeats 4000000 in
set_option maxRecDepth 100000 in
theorem c_X12_recovers (l : Launch) (D : va_G) (cI : ClassId) (h_t : Nat) (h_p1 : Nat) (r_t : Nat → Nat) (F_t : Nat → Int32) (n_p1 : Nat) (a_p1 : Nat → Int32) (Rr : (Nat → Int32)) (hf : m_X12_recovers F_t a_p1 n_p1 = some Rr) : CTv l yX12_recovers (Cond.code yX12_recovers cX12_recovers 5 none) rm_X12_recovers D cI [.ref h_t, .ref h_p1] (w_X12_recovers h_t h_p1 r_t F_t cI n_p1 a_p1) (w_X12_recovers h_t h_p1 r_t F_t cI n_p1 Rr) := by
  refine z_begin_v (own := RX12) (ρ := (Nat → Int32)) (fun u => w_X12_recovers h_t h_p1 r_t F_t cI n_p1 u) (by decide +kernel) rfl (Nat.le_of_ble_eq_true rfl) ?_
  intro p e s m args below meth c ls Q A hx hb hml hts hcx hown hK hX hA hP hD hS hl hret
  have hl : lv_has ls 5 [(0, .ref h_t), (1, .ref h_p1)] := hl
  have hf := (m_X12_recovers.eq_1 _ _ _).symm.trans hf
  have L52 : ∀ (a_p1 : Nat → Int32) (H : Heap) (locs : List Loc) (ls : Array Slot), m_X12_recovers_j52 F_t n_p1 a_p1 = some Rr → va_P D vwCl (w_X12_recovers h_t h_p1 r_t F_t cI n_p1 a_p1) H → va_D A (w_X12_recovers h_t h_p1 r_t F_t cI n_p1 a_p1) → va_S A s.heap H locs → lv_has ls 5 [(1, .ref h_p1)] → W p l e rm_X12_recovers s m args below meth c H locs 0 0 Q (F0 m 52 ls []) := by
    intro a_p1 H locs ls hf hP hD hS hl
    have hf := (m_X12_recovers_j52.eq_1 _ _ _).symm.trans hf
    refine lv_aload_n hx hb dX12_recovers_52 rfl (lv_at hl 0 rfl) ?_
    refine lv_iconst (v := 0) hx hb dX12_recovers_53 (by decide) ?_
    refine lv_iconst (v := 0) hx hb dX12_recovers_54 (by decide) ?_
    refine z_iast hx hb hK hP hD hS 1 rfl (fun z => w_X12_recovers h_t h_p1 r_t F_t cI n_p1 z) (fun _ => rfl) dX12_recovers_55 hf (fun a2 H locs hf hP hD hS => ?_)
    exact hret a2 _ _ _ _ hf hP hD hS dX12_recovers_56
  have L7 : ∀ (n7 : Nat) (x2 : Int32) (x3 : Int32) (a_p1 : Nat → Int32) (H : Heap) (locs : List Loc) (ls : Array Slot), m_X12_recovers_w7 F_t n_p1 (m_X12_recovers_j52 F_t n_p1) n7 x2 x3 a_p1 = some Rr → va_P D vwCl (w_X12_recovers h_t h_p1 r_t F_t cI n_p1 a_p1) H → va_D A (w_X12_recovers h_t h_p1 r_t F_t cI n_p1 a_p1) → va_S A s.heap H locs → lv_has ls 5 [(0, .ref h_t), (1, .ref h_p1), (2, .int x2), (3, .int x3)] → W p l e rm_X12_recovers s m args below meth c H locs 0 0 Q (F0 m 7 ls []) := by
    intro n7
    induction n7 with
    | zero => intro x2 x3 a_p1 H locs ls hf; cases (show (none : Option _) = some Rr from hf)
    | succ n7 ih7 =>
      intro x2 x3 a_p1 H locs ls hf hP hD hS hl
      have hf := (m_X12_recovers_w7.eq_2 _ _ _ _ _ _ _).symm.trans hf
      have L46 : ∀ (x2 : Int32) (x3 : Int32) (a_p1 : Nat → Int32) (H : Heap) (locs : List Loc) (ls : Array Slot), m_X12_recovers_j46 F_t n_p1 (m_X12_recovers_w7 F_t n_p1 (m_X12_recovers_j52 F_t n_p1) n7) x2 x3 a_p1 = some Rr → va_P D vwCl (w_X12_recovers h_t h_p1 r_t F_t cI n_p1 a_p1) H → va_D A (w_X12_recovers h_t h_p1 r_t F_t cI n_p1 a_p1) → va_S A s.heap H locs → lv_has ls 5 [(0, .ref h_t), (1, .ref h_p1), (2, .int x2), (3, .int x3)] → W p l e rm_X12_recovers s m args below meth c H locs 0 0 Q (F0 m 46 ls []) := by
        intro x2 x3 a_p1 H locs ls hf hP hD hS hl
        have hf := (m_X12_recovers_j46.eq_1 _ _ _ _ _ _).symm.trans hf
        refine z_iinc (k0 := 3) (fun z => [(3, .int z), (0, .ref h_t), (1, .ref h_p1), (2, .int x2)]) hx hb dX12_recovers_46 hl rfl (by decide) (by decide) (fun _ => rfl) hf (fun v6 ls hf hl => ?_)
        refine lv_goto (tgt := 7) hx hb dX12_recovers_49 (by decide) ?_
        exact ih7 x2 v6 a_p1 _ _ _ hf hP hD hS (lv_sub hl [1, 2, 3, 0] rfl)
      refine lv_iload_n hx hb dX12_recovers_7 rfl (lv_at hl 3 rfl) ?_
      refine lv_iload_n hx hb dX12_recovers_8 rfl (lv_at hl 2 rfl) ?_
      refine z_icmp_ge (tgt := 52) hx hb dX12_recovers_9 (by decide) hf (fun hf => ?_) (fun hf => ?_)
      · exact L52 a_p1 _ _ _ hf hP hD hS (lv_sub hl [1] rfl)
      · refine lv_aload_n hx hb dX12_recovers_12 rfl (lv_at hl 0 rfl) ?_
        refine lv_iload_n hx hb dX12_recovers_13 rfl (lv_at hl 2 rfl) ?_
        refine lv_iload_n hx hb dX12_recovers_14 rfl (lv_at hl 3 rfl) ?_
        obtain ⟨u3, hu3, hf⟩ := bd_some hf
        refine z_ci (ws1 := w_X12_recovers h_t h_p1 r_t F_t cI n_p1 a_p1) (wr := List.filterMap (fun i : Nat => (w_X12_recovers h_t h_p1 r_t F_t cI n_p1 a_p1)[i]?) [1]) (z_rV (rest := []) hx hb hml hown hcx hl.1 (c_X12_entryAt l D cI h_t r_t F_t x2 x3 u3 hu3 _) tl_X12_169 ti_X12_entryAt tz_X12_entryAt tn_X12 tc_X12_entryAt tm_X12_entryAt rfl rfl ⟨Nat.le_of_ble_eq_true rfl, Nat.le_of_ble_eq_true rfl⟩ hK hX hS hA hP hD [0] rfl rfl 0 rfl rfl rfl rfl (Nat.le_of_ble_eq_true rfl) dX12_recovers_15 ⟨Nat.zero_le _, Nat.zero_le _⟩) hP hD hS hA [0] [1] [1, 0] rfl rfl rfl (by decide) rfl rfl (fun H locs hP hD hS => ?_)
        refine lv_istore (lv' := [(4, .int u3), (0, .ref h_t), (1, .ref h_p1), (2, .int x2), (3, .int x3)]) hx hb dX12_recovers_18 hl (by decide) rfl (fun ls hl => ?_)
        refine lv_aload_n hx hb dX12_recovers_20 rfl (lv_at hl 2 rfl) ?_
        refine lv_iload hx hb dX12_recovers_21 (lv_at hl 0 rfl) ?_
        refine z_iald hx hb hK hP 1 rfl dX12_recovers_23 hf (fun y4 hf => ?_)
        refine lv_bipush (v := 20) hx hb dX12_recovers_24 (by decide) ?_
        refine lv_bipush (v := 63) hx hb dX12_recovers_26 (by decide) ?_
        obtain ⟨u5, hu5, hf⟩ := bd_some hf
        refine z_ci (ws1 := w_X12_recovers h_t h_p1 r_t F_t cI n_p1 a_p1) (wr := List.filterMap (fun i : Nat => (w_X12_recovers h_t h_p1 r_t F_t cI n_p1 a_p1)[i]?) [0, 1]) (z_rS (rest := []) hx hb hml hown hcx hl.1 (c_X12_within l D cI y4 20 63 u5 hu5 _) tl_X12_172 ts_X12_within tn_X12 tc_X12_within tm_X12_within rfl rfl ⟨Nat.le_of_ble_eq_true rfl, Nat.le_of_ble_eq_true rfl⟩ hK hX hS hA hP hD [] rfl rfl rfl rfl (Nat.le_of_ble_eq_true rfl) dX12_recovers_28 ⟨Nat.zero_le _, Nat.zero_le _⟩) hP hD hS hA [] [0, 1] [0, 1] rfl rfl rfl (by decide) rfl rfl (fun H locs hP hD hS => ?_)
        refine z_if_eq (tgt := 46) hx hb dX12_recovers_31 (by decide) hf (fun hf => ?_) (fun hf => ?_)
        · exact L46 x2 x3 a_p1 _ _ _ hf hP hD hS (lv_sub hl [1, 2, 3, 4] rfl)
        · refine lv_aload_n hx hb dX12_recovers_34 rfl (lv_at hl 2 rfl) ?_
          refine lv_aload_n hx hb dX12_recovers_35 rfl (lv_at hl 2 rfl) ?_
          refine lv_iload hx hb dX12_recovers_36 (lv_at hl 0 rfl) ?_
          refine z_iald hx hb hK hP 1 rfl dX12_recovers_38 hf (fun y7 hf => ?_)
          refine lv_aload_n hx hb dX12_recovers_39 rfl (lv_at hl 2 rfl) ?_
          refine lv_iload hx hb dX12_recovers_40 (lv_at hl 0 rfl) ?_
          refine lv_iconst (v := 1) hx hb dX12_recovers_42 (by decide) ?_
          refine lv_iadd hx hb dX12_recovers_43 ?_
          refine z_iald hx hb hK hP 1 rfl dX12_recovers_44 hf (fun y8 hf => ?_)
          refine z_iast hx hb hK hP hD hS 1 rfl (fun z => w_X12_recovers h_t h_p1 r_t F_t cI n_p1 z) (fun _ => rfl) dX12_recovers_45 hf (fun a9 H locs hf hP hD hS => ?_)
          exact L46 x2 x3 a9 _ _ _ hf hP hD hS (lv_sub hl [1, 2, 3, 4] rfl)
  refine lv_aload_n hx hb dX12_recovers_0 rfl (lv_at hl 1 rfl) ?_
  obtain ⟨u1, hu1, hf⟩ := bd_some hf
  refine z_ci (ws1 := w_X12_recovers h_t h_p1 r_t F_t cI n_p1 a_p1) (wr := List.filterMap (fun i : Nat => (w_X12_recovers h_t h_p1 r_t F_t cI n_p1 a_p1)[i]?) [0]) (z_rS (rest := []) hx hb hml hown hcx hl.1 (c_X12_counted l D cI h_p1 n_p1 a_p1 u1 hu1 _) tl_X12_166 ts_X12_counted tn_X12 tc_X12_counted tm_X12_counted rfl rfl ⟨Nat.le_of_ble_eq_true rfl, Nat.le_of_ble_eq_true rfl⟩ hK hX hS hA hP hD [1] rfl rfl rfl rfl (Nat.le_of_ble_eq_true rfl) dX12_recovers_1 ⟨Nat.zero_le _, Nat.zero_le _⟩) hP hD hS hA [1] [0] [0, 1] rfl rfl rfl (by decide) rfl rfl (fun H locs hP hD hS => ?_)
  refine lv_istore_n (lv' := [(2, .int u1), (0, .ref h_t), (1, .ref h_p1)]) hx hb dX12_recovers_4 rfl hl (by decide) rfl (fun ls hl => ?_)
  refine lv_iconst (v := 0) hx hb dX12_recovers_5 (by decide) ?_
  refine lv_istore_n (lv' := [(3, .int 0), (2, .int u1), (0, .ref h_t), (1, .ref h_p1)]) hx hb dX12_recovers_6 rfl hl (by decide) rfl (fun ls hl => ?_)
  exact L7 fuelN u1 0 a_p1 _ _ _ hf hP hD hS (lv_sub hl [2, 3, 1, 0] rfl)
