abbrev w_X12_goes (h_t : Nat) (r_t : Nat → Nat) (F_t : Nat → Int32) (cI : ClassId) (a_rows : Nat → Int32) (a_words : Nat → Int32) (a_address : Nat → Int32) (a_number : Nat → Int32) : va_W := [(h_t, .inr (12, o_X12 r_t F_t)), ((r_t 0), .inl (cI, 66100, .inl a_rows)), ((r_t 16), .inl (cI, 64, .inl a_words)), ((r_t 17), .inl (cI, 64, .inl a_address)), ((r_t 18), .inl (cI, 64, .inl a_number))]
abbrev rm_X12_goes : Room := { frames := 9, cells := 0, slots := 0, locals := 205 }
def m_X12_goes_w2 (p1 : Int32) (p2 : Int32) : Nat → Int32 → (Nat → Int32) → (Nat → Int32) → (Nat → Int32) → (Nat → Int32) → (Nat → Int32) → Option (Int32 × (Nat → Int32) × (Nat → Int32) × (Nat → Int32) × (Nat → Int32) × (Nat → Int32))
  | 0, _, _, _, _, _, _ => none
  | n2 + 1, x3, F_t, a_rows, a_words, a_address, a_number =>
    if p2 ≤ x3 then (
    some (x3, F_t, a_rows, a_words, a_address, a_number))
    else (
    bd (m_X12_isStep F_t a_rows a_words a_address a_number p1) fun u1 =>
    if u1.1 = 0 then (
    some (x3, u1.2.1, u1.2.2.1, u1.2.2.2.1, u1.2.2.2.2.1, u1.2.2.2.2.2))
    else (
    nm (x3 + 1) fun v2 =>
    m_X12_goes_w2 p1 p2 n2 v2 u1.2.1 u1.2.2.1 u1.2.2.2.1 u1.2.2.2.2.1 u1.2.2.2.2.2))
def m_X12_goes (F_t : Nat → Int32) (a_rows : Nat → Int32) (a_words : Nat → Int32) (a_address : Nat → Int32) (a_number : Nat → Int32) (p1 : Int32) (p2 : Int32) : Option (Int32 × (Nat → Int32) × (Nat → Int32) × (Nat → Int32) × (Nat → Int32) × (Nat → Int32)) :=
  m_X12_goes_w2 p1 p2 fuelN 0 F_t a_rows a_words a_address a_number
set_option maxHeartbeats 4000000 in
set_option maxRecDepth 100000 in
theorem c_X12_goes (l : Launch) (D : va_G) (cI : ClassId) (h_t : Nat) (r_t : Nat → Nat) (F_t : Nat → Int32) (a_rows : Nat → Int32) (a_words : Nat → Int32) (a_address : Nat → Int32) (a_number : Nat → Int32) (p1 : Int32) (p2 : Int32) (Rr : Int32 × (Nat → Int32) × (Nat → Int32) × (Nat → Int32) × (Nat → Int32) × (Nat → Int32)) (hf : m_X12_goes F_t a_rows a_words a_address a_number p1 p2 = some Rr) : CTi l yX12_goes (Cond.code yX12_goes cX12_goes 4 (some .int)) rm_X12_goes D cI [.ref h_t, .int p1, .int p2] (w_X12_goes h_t r_t F_t cI a_rows a_words a_address a_number) Rr.1 (w_X12_goes h_t r_t Rr.2.1 cI Rr.2.2.1 Rr.2.2.2.1 Rr.2.2.2.2.1 Rr.2.2.2.2.2) := by
  refine z_begin_i (own := RX12) (ρ := Int32 × (Nat → Int32) × (Nat → Int32) × (Nat → Int32) × (Nat → Int32) × (Nat → Int32)) (fun u => w_X12_goes h_t r_t u.2.1 cI u.2.2.1 u.2.2.2.1 u.2.2.2.2.1 u.2.2.2.2.2) (fun u => u.1) (by decide +kernel) rfl (Nat.le_of_ble_eq_true rfl) ?_
  intro p e s m args below meth c ls Q A hx hb hml hts hcx hown hK hX hA hP hD hS hl hret
  have hl : lv_has ls 4 [(0, .ref h_t), (1, .int p1), (2, .int p2)] := hl
  have hf := (m_X12_goes.eq_1 _ _ _ _ _ _ _).symm.trans hf
  have L2 : ∀ (n2 : Nat) (x3 : Int32) (F_t : Nat → Int32) (a_rows : Nat → Int32) (a_words : Nat → Int32) (a_address : Nat → Int32) (a_number : Nat → Int32) (H : Heap) (locs : List Loc) (ls : Array Slot), m_X12_goes_w2 p1 p2 n2 x3 F_t a_rows a_words a_address a_number = some Rr → va_P D vwCl (w_X12_goes h_t r_t F_t cI a_rows a_words a_address a_number) H → va_D A (w_X12_goes h_t r_t F_t cI a_rows a_words a_address a_number) → va_S A s.heap H locs → lv_has ls 4 [(0, .ref h_t), (1, .int p1), (2, .int p2), (3, .int x3)] → W p l e rm_X12_goes s m args below meth c H locs 0 0 Q (F0 m 2 ls []) := by
    intro n2
    induction n2 with
    | zero => intro x3 F_t a_rows a_words a_address a_number H locs ls hf; cases (show (none : Option _) = some Rr from hf)
    | succ n2 ih2 =>
      intro x3 F_t a_rows a_words a_address a_number H locs ls hf hP hD hS hl
      have hf := (m_X12_goes_w2.eq_2 _ _ _ _ _ _ _ _ _).symm.trans hf
      refine lv_iload_n hx hb dX12_goes_2 rfl (lv_at hl 3 rfl) ?_
      refine lv_iload_n hx hb dX12_goes_3 rfl (lv_at hl 2 rfl) ?_
      refine z_icmp_ge (tgt := 21) hx hb dX12_goes_4 (by decide) hf (fun hf => ?_) (fun hf => ?_)
      · refine lv_iload_n hx hb dX12_goes_21 rfl (lv_at hl 3 rfl) ?_
        exact hret (x3, F_t, a_rows, a_words, a_address, a_number) _ _ _ _ hf hP hD hS dX12_goes_22
      · refine lv_aload_n hx hb dX12_goes_7 rfl (lv_at hl 0 rfl) ?_
        refine lv_iload_n hx hb dX12_goes_8 rfl (lv_at hl 1 rfl) ?_
        obtain ⟨u1, hu1, hf⟩ := bd_some hf
        refine z_ci (ws1 := w_X12_goes h_t r_t u1.2.1 cI u1.2.2.1 u1.2.2.2.1 u1.2.2.2.2.1 u1.2.2.2.2.2) (wr := List.filterMap (fun i : Nat => (w_X12_goes h_t r_t F_t cI a_rows a_words a_address a_number)[i]?) []) (z_rV (rest := []) hx hb hml hown hcx hl.1 (c_X12_isStep l D cI h_t r_t F_t a_rows a_words a_address a_number p1 u1 hu1 _) tl_X12_230 ti_X12_isStep tz_X12_isStep tn_X12 tc_X12_isStep tm_X12_isStep rfl rfl ⟨Nat.le_of_ble_eq_true rfl, Nat.le_of_ble_eq_true rfl⟩ hK hX hS hA hP hD [0, 1, 2, 3, 4] rfl rfl 0 rfl rfl rfl rfl (Nat.le_of_ble_eq_true rfl) dX12_goes_9 ⟨Nat.zero_le _, Nat.zero_le _⟩) hP hD hS hA [0, 1, 2, 3, 4] [] [0, 1, 2, 3, 4] rfl rfl rfl (by decide) rfl rfl (fun H locs hP hD hS => ?_)
        refine z_if_eq (tgt := 21) hx hb dX12_goes_12 (by decide) hf (fun hf => ?_) (fun hf => ?_)
        · refine lv_iload_n hx hb dX12_goes_21 rfl (lv_at hl 3 rfl) ?_
          exact hret (x3, u1.2.1, u1.2.2.1, u1.2.2.2.1, u1.2.2.2.2.1, u1.2.2.2.2.2) _ _ _ _ hf hP hD hS dX12_goes_22
        · refine z_iinc (k0 := 3) (fun z => [(3, .int z), (0, .ref h_t), (1, .int p1), (2, .int p2)]) hx hb dX12_goes_15 hl rfl (by decide) (by decide) (fun _ => rfl) hf (fun v2 ls hf hl => ?_)
          refine lv_goto (tgt := 2) hx hb dX12_goes_18 (by decide) ?_
          exact ih2 v2 u1.2.1 u1.2.2.1 u1.2.2.2.1 u1.2.2.2.2.1 u1.2.2.2.2.2 _ _ _ hf hP hD hS (lv_sub hl [1, 2, 3, 0] rfl)
  refine lv_iconst (v := 0) hx hb dX12_goes_0 (by decide) ?_
  refine lv_istore_n (lv' := [(3, .int 0), (0, .ref h_t), (1, .int p1), (2, .int p2)]) hx hb dX12_goes_1 rfl hl (by decide) rfl (fun ls hl => ?_)
  exact L2 fuelN 0 F_t a_rows a_words a_address a_number _ _ _ hf hP hD hS (lv_sub hl [1, 2, 3, 0] rfl)
abbrev w_X12_steps (h_t : Nat) (r_t : Nat → Nat) (F_t : Nat → Int32) (cI : ClassId) (a_rows : Nat → Int32) (a_refused : Nat → Int32) (a_words : Nat → Int32) (a_address : Nat → Int32) (a_number : Nat → Int32) : va_W := [(h_t, .inr (12, o_X12 r_t F_t)), ((r_t 0), .inl (cI, 66100, .inl a_rows)), ((r_t 3), .inl (cI, 6, .inl a_refused)), ((r_t 16), .inl (cI, 64, .inl a_words)), ((r_t 17), .inl (cI, 64, .inl a_address)), ((r_t 18), .inl (cI, 64, .inl a_number))]
abbrev rm_X12_steps : Room := { frames := 10, cells := 0, slots := 0, locals := 228 }
def m_X12_steps_j44 (p1 : Int32) (s1 : Int32) (F_t : Nat → Int32) (a_rows : Nat → Int32) (a_refused : Nat → Int32) (a_words : Nat → Int32) (a_address : Nat → Int32) (a_number : Nat → Int32) : Option (Int32 × (Nat → Int32) × (Nat → Int32) × (Nat → Int32) × (Nat → Int32) × (Nat → Int32) × (Nat → Int32)) :=
  bd (m_X12_isDone F_t a_rows a_refused s1) fun u5 =>
  some (u5.1, u5.2.1, u5.2.2.1, u5.2.2.2, a_words, a_address, a_number)
def m_X12_steps (F_t : Nat → Int32) (a_rows : Nat → Int32) (a_refused : Nat → Int32) (a_words : Nat → Int32) (a_address : Nat → Int32) (a_number : Nat → Int32) (p1 : Int32) : Option (Int32 × (Nat → Int32) × (Nat → Int32) × (Nat → Int32) × (Nat → Int32) × (Nat → Int32) × (Nat → Int32)) :=
  nm (upd F_t 4 0) fun F1 =>
  bd (m_X12_within p1 1 50) fun u2 =>
  if u2 = 0 then (
  bd (m_X12_refuses a_refused 1) fun u6 =>
  some (u6.1, F1, a_rows, u6.2, a_words, a_address, a_number))
  else (
  bd (m_X12_tries a_rows) fun u3 =>
  bd (m_X12_goes F1 u3 a_words a_address a_number 786 p1) fun u4 =>
  if u4.1 = 0 then (
  m_X12_steps_j44 p1 (-1) u4.2.1 u4.2.2.1 a_refused u4.2.2.2.1 u4.2.2.2.2.1 u4.2.2.2.2.2)
  else (
  m_X12_steps_j44 p1 u4.1 u4.2.1 u4.2.2.1 a_refused u4.2.2.2.1 u4.2.2.2.2.1 u4.2.2.2.2.2))
set_option maxHeartbeats 4000000 in
set_option maxRecDepth 100000 in
theorem c_X12_steps (l : Launch) (D : va_G) (cI : ClassId) (h_t : Nat) (r_t : Nat → Nat) (F_t : Nat → Int32) (a_rows : Nat → Int32) (a_refused : Nat → Int32) (a_words : Nat → Int32) (a_address : Nat → Int32) (a_number : Nat → Int32) (p1 : Int32) (Rr : Int32 × (Nat → Int32) × (Nat → Int32) × (Nat → Int32) × (Nat → Int32) × (Nat → Int32) × (Nat → Int32)) (hf : m_X12_steps F_t a_rows a_refused a_words a_address a_number p1 = some Rr) : CTi l yX12_steps (Cond.code yX12_steps cX12_steps 3 (some .int)) rm_X12_steps D cI [.ref h_t, .int p1] (w_X12_steps h_t r_t F_t cI a_rows a_refused a_words a_address a_number) Rr.1 (w_X12_steps h_t r_t Rr.2.1 cI Rr.2.2.1 Rr.2.2.2.1 Rr.2.2.2.2.1 Rr.2.2.2.2.2.1 Rr.2.2.2.2.2.2) := by
  refine z_begin_i (own := RX12) (ρ := Int32 × (Nat → Int32) × (Nat → Int32) × (Nat → Int32) × (Nat → Int32) × (Nat → Int32) × (Nat → Int32)) (fun u => w_X12_steps h_t r_t u.2.1 cI u.2.2.1 u.2.2.2.1 u.2.2.2.2.1 u.2.2.2.2.2.1 u.2.2.2.2.2.2) (fun u => u.1) (by decide +kernel) rfl (Nat.le_of_ble_eq_true rfl) ?_
  intro p e s m args below meth c ls Q A hx hb hml hts hcx hown hK hX hA hP hD hS hl hret
  have hl : lv_has ls 3 [(0, .ref h_t), (1, .int p1)] := hl
  have hf := (m_X12_steps.eq_1 _ _ _ _ _ _ _).symm.trans hf
  have L44 : ∀ (s1 : Int32) (F_t : Nat → Int32) (a_rows : Nat → Int32) (a_refused : Nat → Int32) (a_words : Nat → Int32) (a_address : Nat → Int32) (a_number : Nat → Int32) (H : Heap) (locs : List Loc) (ls : Array Slot), m_X12_steps_j44 p1 s1 F_t a_rows a_refused a_words a_address a_number = some Rr → va_P D vwCl (w_X12_steps h_t r_t F_t cI a_rows a_refused a_words a_address a_number) H → va_D A (w_X12_steps h_t r_t F_t cI a_rows a_refused a_words a_address a_number) → va_S A s.heap H locs → lv_has ls 3 [] → W p l e rm_X12_steps s m args below meth c H locs 0 0 Q (F0 m 44 ls [.int s1, .ref h_t]) := by
    intro s1 F_t a_rows a_refused a_words a_address a_number H locs ls hf hP hD hS hl
    have hf := (m_X12_steps_j44.eq_1 _ _ _ _ _ _ _ _).symm.trans hf
    obtain ⟨u5, hu5, hf⟩ := bd_some hf
    refine z_ci (ws1 := w_X12_steps h_t r_t u5.2.1 cI u5.2.2.1 u5.2.2.2 a_words a_address a_number) (wr := List.filterMap (fun i : Nat => (w_X12_steps h_t r_t F_t cI a_rows a_refused a_words a_address a_number)[i]?) [3, 4, 5]) (z_rV (rest := []) hx hb hml hown hcx hl.1 (c_X12_isDone l D cI h_t r_t F_t a_rows a_refused s1 u5 hu5 _) tl_X12_354 ti_X12_isDone tz_X12_isDone tn_X12 tc_X12_isDone tm_X12_isDone rfl rfl ⟨Nat.le_of_ble_eq_true rfl, Nat.le_of_ble_eq_true rfl⟩ hK hX hS hA hP hD [0, 1, 2] rfl rfl 0 rfl rfl rfl rfl (Nat.le_of_ble_eq_true rfl) dX12_steps_44 ⟨Nat.zero_le _, Nat.zero_le _⟩) hP hD hS hA [0, 1, 2] [3, 4, 5] [3, 4, 5, 0, 1, 2] rfl rfl rfl (by decide) rfl rfl (fun H locs hP hD hS => ?_)
    exact hret (u5.1, u5.2.1, u5.2.2.1, u5.2.2.2, a_words, a_address, a_number) _ _ _ _ hf hP hD hS dX12_steps_47
  refine lv_aload_n hx hb dX12_steps_0 rfl (lv_at hl 0 rfl) ?_
  refine lv_iconst (v := 0) hx hb dX12_steps_1 (by decide) ?_
  refine z_put (ci := 12) (C := RX12) (T := TX12) (N := 51) hx hb hts inT_X12 tyX12 tyX12_ok nmX12 hown hK hP hD hS 0 rfl rfl 4 (by decide) tf_X12_63 rfl (by decide +kernel) (Nat.le_of_ble_eq_true rfl) (o_X12 r_t) (o_X12_s4 _ _ _) (fun z => w_X12_steps h_t r_t z cI a_rows a_refused a_words a_address a_number) (fun _ => rfl) dX12_steps_2 hf (fun F1 H locs hf hP hD hS => ?_)
  refine lv_iload_n hx hb dX12_steps_5 rfl (lv_at hl 1 rfl) ?_
  refine lv_iconst (v := 1) hx hb dX12_steps_6 (by decide) ?_
  refine lv_bipush (v := 50) hx hb dX12_steps_7 (by decide) ?_
  obtain ⟨u2, hu2, hf⟩ := bd_some hf
  refine z_ci (ws1 := w_X12_steps h_t r_t F1 cI a_rows a_refused a_words a_address a_number) (wr := List.filterMap (fun i : Nat => (w_X12_steps h_t r_t F1 cI a_rows a_refused a_words a_address a_number)[i]?) [0, 1, 2, 3, 4, 5]) (z_rS (rest := []) hx hb hml hown hcx hl.1 (c_X12_within l D cI p1 1 50 u2 hu2 _) tl_X12_172 ts_X12_within tn_X12 tc_X12_within tm_X12_within rfl rfl ⟨Nat.le_of_ble_eq_true rfl, Nat.le_of_ble_eq_true rfl⟩ hK hX hS hA hP hD [] rfl rfl rfl rfl (Nat.le_of_ble_eq_true rfl) dX12_steps_9 ⟨Nat.zero_le _, Nat.zero_le _⟩) hP hD hS hA [] [0, 1, 2, 3, 4, 5] [0, 1, 2, 3, 4, 5] rfl rfl rfl (by decide) rfl rfl (fun H locs hP hD hS => ?_)
  refine z_if_ne (tgt := 21) hx hb dX12_steps_12 (by decide) hf (fun hf => ?_) (fun hf => ?_)
  · refine lv_aload_n hx hb dX12_steps_21 rfl (lv_at hl 0 rfl) ?_
    obtain ⟨u3, hu3, hf⟩ := bd_some hf
    refine z_cv (ws1 := w_X12_steps h_t r_t F1 cI u3 a_refused a_words a_address a_number) (wr := List.filterMap (fun i : Nat => (w_X12_steps h_t r_t F1 cI a_rows a_refused a_words a_address a_number)[i]?) [2, 3, 4, 5]) (z_rV (rest := []) hx hb hml hown hcx hl.1 (c_X12_tries l D cI h_t r_t F1 a_rows u3 hu3 _) tl_X12_218 ti_X12_tries tz_X12_tries tn_X12 tc_X12_tries tm_X12_tries rfl rfl ⟨Nat.le_of_ble_eq_true rfl, Nat.le_of_ble_eq_true rfl⟩ hK hX hS hA hP hD [0, 1] rfl rfl 0 rfl rfl rfl rfl (Nat.le_of_ble_eq_true rfl) dX12_steps_22 ⟨Nat.zero_le _, Nat.zero_le _⟩) hP hD hS hA [0, 1] [2, 3, 4, 5] [4, 5, 0, 1, 2, 3] rfl rfl rfl (by decide) rfl rfl (fun H locs hP hD hS => ?_)
    refine lv_aload_n hx hb dX12_steps_25 rfl (lv_at hl 0 rfl) ?_
    refine lv_sipush (v := 786) hx hb dX12_steps_26 (by decide) ?_
    refine lv_iload_n hx hb dX12_steps_29 rfl (lv_at hl 1 rfl) ?_
    obtain ⟨u4, hu4, hf⟩ := bd_some hf
    refine z_ci (ws1 := w_X12_steps h_t r_t u4.2.1 cI u4.2.2.1 a_refused u4.2.2.2.1 u4.2.2.2.2.1 u4.2.2.2.2.2) (wr := List.filterMap (fun i : Nat => (w_X12_steps h_t r_t F1 cI u3 a_refused a_words a_address a_number)[i]?) [2]) (z_rV (rest := []) hx hb hml hown hcx hl.1 (c_X12_goes l D cI h_t r_t F1 u3 a_words a_address a_number 786 p1 u4 hu4 _) tl_X12_351 ti_X12_goes tz_X12_goes tn_X12 tc_X12_goes tm_X12_goes rfl rfl ⟨Nat.le_of_ble_eq_true rfl, Nat.le_of_ble_eq_true rfl⟩ hK hX hS hA hP hD [0, 1, 3, 4, 5] rfl rfl 0 rfl rfl rfl rfl (Nat.le_of_ble_eq_true rfl) dX12_steps_30 ⟨Nat.zero_le _, Nat.zero_le _⟩) hP hD hS hA [0, 1, 3, 4, 5] [2] [1, 2, 0, 3, 4, 5] rfl rfl rfl (by decide) rfl rfl (fun H locs hP hD hS => ?_)
    refine lv_istore_n (lv' := [(2, .int u4.1), (0, .ref h_t), (1, .int p1)]) hx hb dX12_steps_33 rfl hl (by decide) rfl (fun ls hl => ?_)
    refine lv_aload_n hx hb dX12_steps_34 rfl (lv_at hl 1 rfl) ?_
    refine lv_iload_n hx hb dX12_steps_35 rfl (lv_at hl 0 rfl) ?_
    refine z_if_ne (tgt := 43) hx hb dX12_steps_36 (by decide) hf (fun hf => ?_) (fun hf => ?_)
    · refine lv_iload_n hx hb dX12_steps_43 rfl (lv_at hl 0 rfl) ?_
      exact L44 u4.1 u4.2.1 u4.2.2.1 a_refused u4.2.2.2.1 u4.2.2.2.2.1 u4.2.2.2.2.2 _ _ _ hf hP hD hS (lv_sub hl [] rfl)
    · refine lv_iconst (v := (-1)) hx hb dX12_steps_39 (by decide) ?_
      refine lv_goto (tgt := 44) hx hb dX12_steps_40 (by decide) ?_
      exact L44 (-1) u4.2.1 u4.2.2.1 a_refused u4.2.2.2.1 u4.2.2.2.2.1 u4.2.2.2.2.2 _ _ _ hf hP hD hS (lv_sub hl [] rfl)
  · refine lv_aload_n hx hb dX12_steps_15 rfl (lv_at hl 0 rfl) ?_
    refine lv_iconst (v := 1) hx hb dX12_steps_16 (by decide) ?_
    obtain ⟨u6, hu6, hf⟩ := bd_some hf
    refine z_ci (ws1 := w_X12_steps h_t r_t F1 cI a_rows u6.2 a_words a_address a_number) (wr := List.filterMap (fun i : Nat => (w_X12_steps h_t r_t F1 cI a_rows a_refused a_words a_address a_number)[i]?) [1, 3, 4, 5]) (z_rV (rest := []) hx hb hml hown hcx hl.1 (c_X12_refuses l D cI h_t r_t F1 a_refused 1 u6 hu6 _) tl_X12_345 ti_X12_refuses tz_X12_refuses tn_X12 tc_X12_refuses tm_X12_refuses rfl rfl ⟨Nat.le_of_ble_eq_true rfl, Nat.le_of_ble_eq_true rfl⟩ hK hX hS hA hP hD [0, 2] rfl rfl 0 rfl rfl rfl rfl (Nat.le_of_ble_eq_true rfl) dX12_steps_17 ⟨Nat.zero_le _, Nat.zero_le _⟩) hP hD hS hA [0, 2] [1, 3, 4, 5] [4, 0, 5, 1, 2, 3] rfl rfl rfl (by decide) rfl rfl (fun H locs hP hD hS => ?_)
    exact hret (u6.1, F1, a_rows, u6.2, a_words, a_address, a_number) _ _ _ _ hf hP hD hS dX12_steps_20
abbrev w_X12_evict (h_t : Nat) (r_t : Nat → Nat) (F_t : Nat → Int32) (cI : ClassId) (a_rows : Nat → Int32) (a_refused : Nat → Int32) : va_W := [(h_t, .inr (12, o_X12 r_t F_t)), ((r_t 0), .inl (cI, 66100, .inl a_rows)), ((r_t 3), .inl (cI, 6, .inl a_refused))]
abbrev rm_X12_evict : Room := { frames := 2, cells := 0, slots := 0, locals := 45 }
def m_X12_evict (F_t : Nat → Int32) (a_rows : Nat → Int32) (a_refused : Nat → Int32) (p1 : Int32) (p2 : Int32) : Option (Int32 × (Nat → Int32) × (Nat → Int32) × (Nat → Int32)) :=
  nm (upd F_t 4 0) fun F1 =>
  bd (m_X12_within p1 0 15) fun u2 =>
  bd (m_X12_right F1 u2 1) fun u3 =>
  if u3.1 = 0 then (
  some (0, u3.2, a_rows, a_refused))
  else (
  rd a_rows 66100 (64 + p1) fun y4 =>
  bd (m_X12_within p2 1 y4) fun u5 =>
  if u5 = 0 then (
  bd (m_X12_refuses a_refused 1) fun u10 =>
  some (u10.1, u3.2, a_rows, u10.2))
  else (
  bd (m_X12_tries a_rows) fun u6 =>
  bd (m_X12_reaches u6 786 p1 p2) fun u7 =>
  rd u7 66100 (850 + p1) fun y8 =>
  bd (m_X12_isDone u3.2 u7 a_refused y8) fun u9 =>
  some (u9.1, u9.2.1, u9.2.2.1, u9.2.2.2)))
set_option maxHeartbeats 4000000 in
set_option maxRecDepth 100000 in
theorem c_X12_evict (l : Launch) (D : va_G) (cI : ClassId) (h_t : Nat) (r_t : Nat → Nat) (F_t : Nat → Int32) (a_rows : Nat → Int32) (a_refused : Nat → Int32) (p1 : Int32) (p2 : Int32) (Rr : Int32 × (Nat → Int32) × (Nat → Int32) × (Nat → Int32)) (hf : m_X12_evict F_t a_rows a_refused p1 p2 = some Rr) : CTi l yX12_evict (Cond.code yX12_evict cX12_evict 3 (some .int)) rm_X12_evict D cI [.ref h_t, .int p1, .int p2] (w_X12_evict h_t r_t F_t cI a_rows a_refused) Rr.1 (w_X12_evict h_t r_t Rr.2.1 cI Rr.2.2.1 Rr.2.2.2) := by
  refine z_begin_i (own := RX12) (ρ := Int32 × (Nat → Int32) × (Nat → Int32) × (Nat → Int32)) (fun u => w_X12_evict h_t r_t u.2.1 cI u.2.2.1 u.2.2.2) (fun u => u.1) (by decide +kernel) rfl (Nat.le_of_ble_eq_true rfl) ?_
  intro p e s m args below meth c ls Q A hx hb hml hts hcx hown hK hX hA hP hD hS hl hret
  have hl : lv_has ls 3 [(0, .ref h_t), (1, .int p1), (2, .int p2)] := hl
  have hf := (m_X12_evict.eq_1 _ _ _ _ _).symm.trans hf
  refine lv_aload_n hx hb dX12_evict_0 rfl (lv_at hl 0 rfl) ?_
  refine lv_iconst (v := 0) hx hb dX12_evict_1 (by decide) ?_
  refine z_put (ci := 12) (C := RX12) (T := TX12) (N := 51) hx hb hts inT_X12 tyX12 tyX12_ok nmX12 hown hK hP hD hS 0 rfl rfl 4 (by decide) tf_X12_63 rfl (by decide +kernel) (Nat.le_of_ble_eq_true rfl) (o_X12 r_t) (o_X12_s4 _ _ _) (fun z => w_X12_evict h_t r_t z cI a_rows a_refused) (fun _ => rfl) dX12_evict_2 hf (fun F1 H locs hf hP hD hS => ?_)
  refine lv_aload_n hx hb dX12_evict_5 rfl (lv_at hl 0 rfl) ?_
  refine lv_iload_n hx hb dX12_evict_6 rfl (lv_at hl 1 rfl) ?_
  refine lv_iconst (v := 0) hx hb dX12_evict_7 (by decide) ?_
  refine lv_bipush (v := 15) hx hb dX12_evict_8 (by decide) ?_
  obtain ⟨u2, hu2, hf⟩ := bd_some hf
  refine z_ci (ws1 := w_X12_evict h_t r_t F1 cI a_rows a_refused) (wr := List.filterMap (fun i : Nat => (w_X12_evict h_t r_t F1 cI a_rows a_refused)[i]?) [0, 1, 2]) (z_rS (rest := [.ref h_t]) hx hb hml hown hcx hl.1 (c_X12_within l D cI p1 0 15 u2 hu2 _) tl_X12_172 ts_X12_within tn_X12 tc_X12_within tm_X12_within rfl rfl ⟨Nat.le_of_ble_eq_true rfl, Nat.le_of_ble_eq_true rfl⟩ hK hX hS hA hP hD [] rfl rfl rfl rfl (Nat.le_of_ble_eq_true rfl) dX12_evict_10 ⟨Nat.zero_le _, Nat.zero_le _⟩) hP hD hS hA [] [0, 1, 2] [0, 1, 2] rfl rfl rfl (by decide) rfl rfl (fun H locs hP hD hS => ?_)
  refine lv_iconst (v := 1) hx hb dX12_evict_13 (by decide) ?_
  obtain ⟨u3, hu3, hf⟩ := bd_some hf
  refine z_ci (ws1 := w_X12_evict h_t r_t u3.2 cI a_rows a_refused) (wr := List.filterMap (fun i : Nat => (w_X12_evict h_t r_t F1 cI a_rows a_refused)[i]?) [1, 2]) (z_rV (rest := []) hx hb hml hown hcx hl.1 (c_X12_right l D cI h_t r_t F1 u2 1 u3 hu3 _) tl_X12_321 ti_X12_right tz_X12_right tn_X12 tc_X12_right tm_X12_right rfl rfl ⟨Nat.le_of_ble_eq_true rfl, Nat.le_of_ble_eq_true rfl⟩ hK hX hS hA hP hD [0] rfl rfl 0 rfl rfl rfl rfl (Nat.le_of_ble_eq_true rfl) dX12_evict_14 ⟨Nat.zero_le _, Nat.zero_le _⟩) hP hD hS hA [0] [1, 2] [2, 0, 1] rfl rfl rfl (by decide) rfl rfl (fun H locs hP hD hS => ?_)
  refine z_if_ne (tgt := 22) hx hb dX12_evict_17 (by decide) hf (fun hf => ?_) (fun hf => ?_)
  · refine lv_iload_n hx hb dX12_evict_22 rfl (lv_at hl 2 rfl) ?_
    refine lv_iconst (v := 1) hx hb dX12_evict_23 (by decide) ?_
    refine lv_aload_n hx hb dX12_evict_24 rfl (lv_at hl 0 rfl) ?_
    refine z_get (ci := 12) (C := RX12) (T := TX12) (N := 51) (v := .ref (r_t 0)) hx hb hts inT_X12 hown hK hP 0 rfl rfl 0 (by decide) tf_X12_10 rfl dX12_evict_25 ?_
    refine lv_bipush (v := 64) hx hb dX12_evict_28 (by decide) ?_
    refine lv_iload_n hx hb dX12_evict_30 rfl (lv_at hl 1 rfl) ?_
    refine lv_iadd hx hb dX12_evict_31 ?_
    refine z_iald hx hb hK hP 1 rfl dX12_evict_32 hf (fun y4 hf => ?_)
    obtain ⟨u5, hu5, hf⟩ := bd_some hf
    refine z_ci (ws1 := w_X12_evict h_t r_t u3.2 cI a_rows a_refused) (wr := List.filterMap (fun i : Nat => (w_X12_evict h_t r_t u3.2 cI a_rows a_refused)[i]?) [0, 1, 2]) (z_rS (rest := []) hx hb hml hown hcx hl.1 (c_X12_within l D cI p2 1 y4 u5 hu5 _) tl_X12_172 ts_X12_within tn_X12 tc_X12_within tm_X12_within rfl rfl ⟨Nat.le_of_ble_eq_true rfl, Nat.le_of_ble_eq_true rfl⟩ hK hX hS hA hP hD [] rfl rfl rfl rfl (Nat.le_of_ble_eq_true rfl) dX12_evict_33 ⟨Nat.zero_le _, Nat.zero_le _⟩) hP hD hS hA [] [0, 1, 2] [0, 1, 2] rfl rfl rfl (by decide) rfl rfl (fun H locs hP hD hS => ?_)
    refine z_if_ne (tgt := 45) hx hb dX12_evict_36 (by decide) hf (fun hf => ?_) (fun hf => ?_)
    · refine lv_aload_n hx hb dX12_evict_45 rfl (lv_at hl 0 rfl) ?_
      obtain ⟨u6, hu6, hf⟩ := bd_some hf
      refine z_cv (ws1 := w_X12_evict h_t r_t u3.2 cI u6 a_refused) (wr := List.filterMap (fun i : Nat => (w_X12_evict h_t r_t u3.2 cI a_rows a_refused)[i]?) [2]) (z_rV (rest := []) hx hb hml hown hcx hl.1 (c_X12_tries l D cI h_t r_t u3.2 a_rows u6 hu6 _) tl_X12_218 ti_X12_tries tz_X12_tries tn_X12 tc_X12_tries tm_X12_tries rfl rfl ⟨Nat.le_of_ble_eq_true rfl, Nat.le_of_ble_eq_true rfl⟩ hK hX hS hA hP hD [0, 1] rfl rfl 0 rfl rfl rfl rfl (Nat.le_of_ble_eq_true rfl) dX12_evict_46 ⟨Nat.zero_le _, Nat.zero_le _⟩) hP hD hS hA [0, 1] [2] [1, 2, 0] rfl rfl rfl (by decide) rfl rfl (fun H locs hP hD hS => ?_)
      refine lv_aload_n hx hb dX12_evict_49 rfl (lv_at hl 0 rfl) ?_
      refine lv_sipush (v := 786) hx hb dX12_evict_50 (by decide) ?_
      refine lv_iload_n hx hb dX12_evict_53 rfl (lv_at hl 1 rfl) ?_
      refine lv_iload_n hx hb dX12_evict_54 rfl (lv_at hl 2 rfl) ?_
      obtain ⟨u7, hu7, hf⟩ := bd_some hf
      refine z_cv (ws1 := w_X12_evict h_t r_t u3.2 cI u7 a_refused) (wr := List.filterMap (fun i : Nat => (w_X12_evict h_t r_t u3.2 cI u6 a_refused)[i]?) [2]) (z_rV (rest := []) hx hb hml hown hcx hl.1 (c_X12_reaches l D cI h_t r_t u3.2 u6 786 p1 p2 u7 hu7 _) tl_X12_66 ti_X12_reaches tz_X12_reaches tn_X12 tc_X12_reaches tm_X12_reaches rfl rfl ⟨Nat.le_of_ble_eq_true rfl, Nat.le_of_ble_eq_true rfl⟩ hK hX hS hA hP hD [0, 1] rfl rfl 0 rfl rfl rfl rfl (Nat.le_of_ble_eq_true rfl) dX12_evict_55 ⟨Nat.zero_le _, Nat.zero_le _⟩) hP hD hS hA [0, 1] [2] [1, 2, 0] rfl rfl rfl (by decide) rfl rfl (fun H locs hP hD hS => ?_)
      refine lv_aload_n hx hb dX12_evict_58 rfl (lv_at hl 0 rfl) ?_
      refine lv_aload_n hx hb dX12_evict_59 rfl (lv_at hl 0 rfl) ?_
      refine z_get (ci := 12) (C := RX12) (T := TX12) (N := 51) (v := .ref (r_t 0)) hx hb hts inT_X12 hown hK hP 0 rfl rfl 0 (by decide) tf_X12_10 rfl dX12_evict_60 ?_
      refine lv_sipush (v := 850) hx hb dX12_evict_63 (by decide) ?_
      refine lv_iload_n hx hb dX12_evict_66 rfl (lv_at hl 1 rfl) ?_
      refine lv_iadd hx hb dX12_evict_67 ?_
      refine z_iald hx hb hK hP 1 rfl dX12_evict_68 hf (fun y8 hf => ?_)
      obtain ⟨u9, hu9, hf⟩ := bd_some hf
      refine z_ci (ws1 := w_X12_evict h_t r_t u9.2.1 cI u9.2.2.1 u9.2.2.2) (wr := List.filterMap (fun i : Nat => (w_X12_evict h_t r_t u3.2 cI u7 a_refused)[i]?) []) (z_rV (rest := []) hx hb hml hown hcx hl.1 (c_X12_isDone l D cI h_t r_t u3.2 u7 a_refused y8 u9 hu9 _) tl_X12_354 ti_X12_isDone tz_X12_isDone tn_X12 tc_X12_isDone tm_X12_isDone rfl rfl ⟨Nat.le_of_ble_eq_true rfl, Nat.le_of_ble_eq_true rfl⟩ hK hX hS hA hP hD [0, 1, 2] rfl rfl 0 rfl rfl rfl rfl (Nat.le_of_ble_eq_true rfl) dX12_evict_69 ⟨Nat.zero_le _, Nat.zero_le _⟩) hP hD hS hA [0, 1, 2] [] [0, 1, 2] rfl rfl rfl (by decide) rfl rfl (fun H locs hP hD hS => ?_)
      exact hret (u9.1, u9.2.1, u9.2.2.1, u9.2.2.2) _ _ _ _ hf hP hD hS dX12_evict_72
    · refine lv_aload_n hx hb dX12_evict_39 rfl (lv_at hl 0 rfl) ?_
      refine lv_iconst (v := 1) hx hb dX12_evict_40 (by decide) ?_
      obtain ⟨u10, hu10, hf⟩ := bd_some hf
      refine z_ci (ws1 := w_X12_evict h_t r_t u3.2 cI a_rows u10.2) (wr := List.filterMap (fun i : Nat => (w_X12_evict h_t r_t u3.2 cI a_rows a_refused)[i]?) [1]) (z_rV (rest := []) hx hb hml hown hcx hl.1 (c_X12_refuses l D cI h_t r_t u3.2 a_refused 1 u10 hu10 _) tl_X12_345 ti_X12_refuses tz_X12_refuses tn_X12 tc_X12_refuses tm_X12_refuses rfl rfl ⟨Nat.le_of_ble_eq_true rfl, Nat.le_of_ble_eq_true rfl⟩ hK hX hS hA hP hD [0, 2] rfl rfl 0 rfl rfl rfl rfl (Nat.le_of_ble_eq_true rfl) dX12_evict_41 ⟨Nat.zero_le _, Nat.zero_le _⟩) hP hD hS hA [0, 2] [1] [1, 0, 2] rfl rfl rfl (by decide) rfl rfl (fun H locs hP hD hS => ?_)
      exact hret (u10.1, u3.2, a_rows, u10.2) _ _ _ _ hf hP hD hS dX12_evict_44
  · refine lv_iconst (v := 0) hx hb dX12_evict_20 (by decide) ?_
    exact hret (0, u3.2, a_rows, a_refused) _ _ _ _ hf hP hD hS dX12_evict_21
abbrev w_X12_crashes (h_t : Nat) (r_t : Nat → Nat) (F_t : Nat → Int32) (cI : ClassId) (a_rows : Nat → Int32) (a_memory : Nat → Int32) (a_order : Nat → Int32) (a_image : Nat → Int32) (a_well : Nat → Int32) : va_W := [(h_t, .inr (12, o_X12 r_t F_t)), ((r_t 0), .inl (cI, 66100, .inl a_rows)), ((r_t 23), .inl (cI, 64, .inl a_memory)), ((r_t 24), .inl (cI, 16, .inl a_order)), ((r_t 25), .inl (cI, 64, .inl a_image)), ((r_t 26), .inl (cI, 88, .inl a_well))]
abbrev rm_X12_crashes : Room := { frames := 3, cells := 0, slots := 0, locals := 70 }
def m_X12_crashes_j82 (a_order : Nat → Int32) (p1 : Int32) (x2 : Int32) (F_t : Nat → Int32) (a_rows : Nat → Int32) (a_memory : Nat → Int32) (a_image : Nat → Int32) (a_well : Nat → Int32) : Option (Int32 × (Nat → Int32) × (Nat → Int32) × (Nat → Int32) × (Nat → Int32) × (Nat → Int32)) :=
  wr a_rows 66100 (p1 + 776) 0 fun a4 =>
  wr a4 66100 (p1 + 774) 0 fun a5 =>
  wr a5 66100 (p1 + 775) 0 fun a6 =>
  wr a6 66100 (p1 + 772) 1 fun a7 =>
  rd a7 66100 (p1 + 780) fun y8 =>
  wr a7 66100 (p1 + 780) (y8 + 1) fun a9 =>
  some (x2, F_t, a9, a_memory, a_image, a_well)
def m_X12_crashes_w46 (a_order : Nat → Int32) (p1 : Int32) (k82 : Int32 → (Nat → Int32) → (Nat → Int32) → (Nat → Int32) → (Nat → Int32) → (Nat → Int32) → Option (Int32 × (Nat → Int32) × (Nat → Int32) × (Nat → Int32) × (Nat → Int32) × (Nat → Int32))) : Nat → Int32 → Int32 → (Nat → Int32) → (Nat → Int32) → (Nat → Int32) → (Nat → Int32) → (Nat → Int32) → Option (Int32 × (Nat → Int32) × (Nat → Int32) × (Nat → Int32) × (Nat → Int32) × (Nat → Int32))
  | 0, _, _, _, _, _, _, _ => none
  | n46 + 1, x2, x3, F_t, a_rows, a_memory, a_image, a_well =>
    if 16 ≤ x3 then (
    k82 x2 F_t a_rows a_memory a_image a_well)
    else (
    wr a_rows 66100 ((p1 + 64) + x3) 0 fun a10 =>
    wr a10 66100 ((p1 + 80) + x3) 0 fun a11 =>
    nm (x3 + 1) fun v12 =>
    m_X12_crashes_w46 a_order p1 k82 n46 x2 v12 F_t a11 a_memory a_image a_well)
def m_X12_crashes_j44 (a_order : Nat → Int32) (p1 : Int32) (x2 : Int32) (F_t : Nat → Int32) (a_rows : Nat → Int32) (a_memory : Nat → Int32) (a_image : Nat → Int32) (a_well : Nat → Int32) : Option (Int32 × (Nat → Int32) × (Nat → Int32) × (Nat → Int32) × (Nat → Int32) × (Nat → Int32)) :=
  m_X12_crashes_w46 a_order p1 (m_X12_crashes_j82 a_order p1) fuelN x2 0 F_t a_rows a_memory a_image a_well
def m_X12_crashes_w18 (a_order : Nat → Int32) (p1 : Int32) (k44 : Int32 → (Nat → Int32) → (Nat → Int32) → (Nat → Int32) → (Nat → Int32) → (Nat → Int32) → Option (Int32 × (Nat → Int32) × (Nat → Int32) × (Nat → Int32) × (Nat → Int32) × (Nat → Int32))) : Nat → Int32 → Int32 → (Nat → Int32) → (Nat → Int32) → (Nat → Int32) → (Nat → Int32) → (Nat → Int32) → Option (Int32 × (Nat → Int32) × (Nat → Int32) × (Nat → Int32) × (Nat → Int32) × (Nat → Int32))
  | 0, _, _, _, _, _, _, _ => none
  | n18 + 1, x2, x3, F_t, a_rows, a_memory, a_image, a_well =>
    if 64 ≤ x3 then (
    k44 x2 F_t a_rows a_memory a_image a_well)
    else (
    rd a_image 64 x3 fun y13 =>
    wr a_rows 66100 (p1 + x3) y13 fun a14 =>
    nm (x3 + 1) fun v15 =>
    m_X12_crashes_w18 a_order p1 k44 n18 x2 v15 F_t a14 a_memory a_image a_well)
def m_X12_crashes (F_t : Nat → Int32) (a_rows : Nat → Int32) (a_memory : Nat → Int32) (a_order : Nat → Int32) (a_image : Nat → Int32) (a_well : Nat → Int32) (p1 : Int32) : Option (Int32 × (Nat → Int32) × (Nat → Int32) × (Nat → Int32) × (Nat → Int32) × (Nat → Int32)) :=
  bd (m_X12_laysWell F_t a_rows a_memory a_well p1) fun u1 =>
  bd (m_X12_fateHere u1.1 a_rows a_order a_image u1.2.2 p1) fun u2 =>
  bd (m_X12_laysImage a_rows a_order u2.2 p1) fun u3 =>
  m_X12_crashes_w18 a_order p1 (m_X12_crashes_j44 a_order p1) fuelN u2.1 0 u1.1 a_rows u1.2.1 u3 u1.2.2
set_option maxHeartbeats 4000000 in
set_option maxRecDepth 100000 in
theorem c_X12_crashes (l : Launch) (D : va_G) (cI : ClassId) (h_t : Nat) (r_t : Nat → Nat) (F_t : Nat → Int32) (a_rows : Nat → Int32) (a_memory : Nat → Int32) (a_order : Nat → Int32) (a_image : Nat → Int32) (a_well : Nat → Int32) (p1 : Int32) (Rr : Int32 × (Nat → Int32) × (Nat → Int32) × (Nat → Int32) × (Nat → Int32) × (Nat → Int32)) (hf : m_X12_crashes F_t a_rows a_memory a_order a_image a_well p1 = some Rr) : CTi l yX12_crashes (Cond.code yX12_crashes cX12_crashes 4 (some .int)) rm_X12_crashes D cI [.ref h_t, .int p1] (w_X12_crashes h_t r_t F_t cI a_rows a_memory a_order a_image a_well) Rr.1 (w_X12_crashes h_t r_t Rr.2.1 cI Rr.2.2.1 Rr.2.2.2.1 a_order Rr.2.2.2.2.1 Rr.2.2.2.2.2) := by
  refine z_begin_i (own := RX12) (ρ := Int32 × (Nat → Int32) × (Nat → Int32) × (Nat → Int32) × (Nat → Int32) × (Nat → Int32)) (fun u => w_X12_crashes h_t r_t u.2.1 cI u.2.2.1 u.2.2.2.1 a_order u.2.2.2.2.1 u.2.2.2.2.2) (fun u => u.1) (by decide +kernel) rfl (Nat.le_of_ble_eq_true rfl) ?_
  intro p e s m args below meth c ls Q A hx hb hml hts hcx hown hK hX hA hP hD hS hl hret
  have hl : lv_has ls 4 [(0, .ref h_t), (1, .int p1)] := hl
  have hf := (m_X12_crashes.eq_1 _ _ _ _ _ _ _).symm.trans hf
  have L82 : ∀ (x2 : Int32) (F_t : Nat → Int32) (a_rows : Nat → Int32) (a_memory : Nat → Int32) (a_image : Nat → Int32) (a_well : Nat → Int32) (H : Heap) (locs : List Loc) (ls : Array Slot), m_X12_crashes_j82 a_order p1 x2 F_t a_rows a_memory a_image a_well = some Rr → va_P D vwCl (w_X12_crashes h_t r_t F_t cI a_rows a_memory a_order a_image a_well) H → va_D A (w_X12_crashes h_t r_t F_t cI a_rows a_memory a_order a_image a_well) → va_S A s.heap H locs → lv_has ls 4 [(0, .ref h_t), (1, .int p1), (2, .int x2)] → W p l e rm_X12_crashes s m args below meth c H locs 0 0 Q (F0 m 82 ls []) := by
    intro x2 F_t a_rows a_memory a_image a_well H locs ls hf hP hD hS hl
    have hf := (m_X12_crashes_j82.eq_1 _ _ _ _ _ _ _ _).symm.trans hf
    refine lv_aload_n hx hb dX12_crashes_82 rfl (lv_at hl 0 rfl) ?_
    refine z_get (ci := 12) (C := RX12) (T := TX12) (N := 51) (v := .ref (r_t 0)) hx hb hts inT_X12 hown hK hP 0 rfl rfl 0 (by decide) tf_X12_10 rfl dX12_crashes_83 ?_
    refine lv_iload_n hx hb dX12_crashes_86 rfl (lv_at hl 1 rfl) ?_
    refine lv_sipush (v := 776) hx hb dX12_crashes_87 (by decide) ?_
    refine lv_iadd hx hb dX12_crashes_90 ?_
    refine lv_iconst (v := 0) hx hb dX12_crashes_91 (by decide) ?_
    refine z_iast hx hb hK hP hD hS 1 rfl (fun z => w_X12_crashes h_t r_t F_t cI z a_memory a_order a_image a_well) (fun _ => rfl) dX12_crashes_92 hf (fun a4 H locs hf hP hD hS => ?_)
    refine lv_aload_n hx hb dX12_crashes_93 rfl (lv_at hl 0 rfl) ?_
    refine z_get (ci := 12) (C := RX12) (T := TX12) (N := 51) (v := .ref (r_t 0)) hx hb hts inT_X12 hown hK hP 0 rfl rfl 0 (by decide) tf_X12_10 rfl dX12_crashes_94 ?_
    refine lv_iload_n hx hb dX12_crashes_97 rfl (lv_at hl 1 rfl) ?_
    refine lv_sipush (v := 774) hx hb dX12_crashes_98 (by decide) ?_
    refine lv_iadd hx hb dX12_crashes_101 ?_
    refine lv_iconst (v := 0) hx hb dX12_crashes_102 (by decide) ?_
    refine z_iast hx hb hK hP hD hS 1 rfl (fun z => w_X12_crashes h_t r_t F_t cI z a_memory a_order a_image a_well) (fun _ => rfl) dX12_crashes_103 hf (fun a5 H locs hf hP hD hS => ?_)
    refine lv_aload_n hx hb dX12_crashes_104 rfl (lv_at hl 0 rfl) ?_
    refine z_get (ci := 12) (C := RX12) (T := TX12) (N := 51) (v := .ref (r_t 0)) hx hb hts inT_X12 hown hK hP 0 rfl rfl 0 (by decide) tf_X12_10 rfl dX12_crashes_105 ?_
    refine lv_iload_n hx hb dX12_crashes_108 rfl (lv_at hl 1 rfl) ?_
    refine lv_sipush (v := 775) hx hb dX12_crashes_109 (by decide) ?_
    refine lv_iadd hx hb dX12_crashes_112 ?_
    refine lv_iconst (v := 0) hx hb dX12_crashes_113 (by decide) ?_
    refine z_iast hx hb hK hP hD hS 1 rfl (fun z => w_X12_crashes h_t r_t F_t cI z a_memory a_order a_image a_well) (fun _ => rfl) dX12_crashes_114 hf (fun a6 H locs hf hP hD hS => ?_)
    refine lv_aload_n hx hb dX12_crashes_115 rfl (lv_at hl 0 rfl) ?_
    refine z_get (ci := 12) (C := RX12) (T := TX12) (N := 51) (v := .ref (r_t 0)) hx hb hts inT_X12 hown hK hP 0 rfl rfl 0 (by decide) tf_X12_10 rfl dX12_crashes_116 ?_
    refine lv_iload_n hx hb dX12_crashes_119 rfl (lv_at hl 1 rfl) ?_
    refine lv_sipush (v := 772) hx hb dX12_crashes_120 (by decide) ?_
    refine lv_iadd hx hb dX12_crashes_123 ?_
    refine lv_iconst (v := 1) hx hb dX12_crashes_124 (by decide) ?_
    refine z_iast hx hb hK hP hD hS 1 rfl (fun z => w_X12_crashes h_t r_t F_t cI z a_memory a_order a_image a_well) (fun _ => rfl) dX12_crashes_125 hf (fun a7 H locs hf hP hD hS => ?_)
    refine lv_aload_n hx hb dX12_crashes_126 rfl (lv_at hl 0 rfl) ?_
    refine z_get (ci := 12) (C := RX12) (T := TX12) (N := 51) (v := .ref (r_t 0)) hx hb hts inT_X12 hown hK hP 0 rfl rfl 0 (by decide) tf_X12_10 rfl dX12_crashes_127 ?_
    refine lv_iload_n hx hb dX12_crashes_130 rfl (lv_at hl 1 rfl) ?_
    refine lv_sipush (v := 780) hx hb dX12_crashes_131 (by decide) ?_
    refine lv_iadd hx hb dX12_crashes_134 ?_
    refine lv_dup2_11 hx hb dX12_crashes_135 rfl rfl ?_
    refine z_iald hx hb hK hP 1 rfl dX12_crashes_136 hf (fun y8 hf => ?_)
    refine lv_iconst (v := 1) hx hb dX12_crashes_137 (by decide) ?_
    refine lv_iadd hx hb dX12_crashes_138 ?_
    refine z_iast hx hb hK hP hD hS 1 rfl (fun z => w_X12_crashes h_t r_t F_t cI z a_memory a_order a_image a_well) (fun _ => rfl) dX12_crashes_139 hf (fun a9 H locs hf hP hD hS => ?_)
    refine lv_iload_n hx hb dX12_crashes_140 rfl (lv_at hl 2 rfl) ?_
    exact hret (x2, F_t, a9, a_memory, a_image, a_well) _ _ _ _ hf hP hD hS dX12_crashes_141
  have L46 : ∀ (n46 : Nat) (x2 : Int32) (x3 : Int32) (F_t : Nat → Int32) (a_rows : Nat → Int32) (a_memory : Nat → Int32) (a_image : Nat → Int32) (a_well : Nat → Int32) (H : Heap) (locs : List Loc) (ls : Array Slot), m_X12_crashes_w46 a_order p1 (m_X12_crashes_j82 a_order p1) n46 x2 x3 F_t a_rows a_memory a_image a_well = some Rr → va_P D vwCl (w_X12_crashes h_t r_t F_t cI a_rows a_memory a_order a_image a_well) H → va_D A (w_X12_crashes h_t r_t F_t cI a_rows a_memory a_order a_image a_well) → va_S A s.heap H locs → lv_has ls 4 [(0, .ref h_t), (1, .int p1), (2, .int x2), (3, .int x3)] → W p l e rm_X12_crashes s m args below meth c H locs 0 0 Q (F0 m 46 ls []) := by
    intro n46
    induction n46 with
    | zero => intro x2 x3 F_t a_rows a_memory a_image a_well H locs ls hf; cases (show (none : Option _) = some Rr from hf)
    | succ n46 ih46 =>
      intro x2 x3 F_t a_rows a_memory a_image a_well H locs ls hf hP hD hS hl
      have hf := (m_X12_crashes_w46.eq_2 _ _ _ _ _ _ _ _ _ _ _).symm.trans hf
      refine lv_iload_n hx hb dX12_crashes_46 rfl (lv_at hl 3 rfl) ?_
      refine lv_bipush (v := 16) hx hb dX12_crashes_47 (by decide) ?_
      refine z_icmp_ge (tgt := 82) hx hb dX12_crashes_49 (by decide) hf (fun hf => ?_) (fun hf => ?_)
      · exact L82 x2 F_t a_rows a_memory a_image a_well _ _ _ hf hP hD hS (lv_sub hl [0, 1, 2] rfl)
      · refine lv_aload_n hx hb dX12_crashes_52 rfl (lv_at hl 0 rfl) ?_
        refine z_get (ci := 12) (C := RX12) (T := TX12) (N := 51) (v := .ref (r_t 0)) hx hb hts inT_X12 hown hK hP 0 rfl rfl 0 (by decide) tf_X12_10 rfl dX12_crashes_53 ?_
        refine lv_iload_n hx hb dX12_crashes_56 rfl (lv_at hl 1 rfl) ?_
        refine lv_bipush (v := 64) hx hb dX12_crashes_57 (by decide) ?_
        refine lv_iadd hx hb dX12_crashes_59 ?_
        refine lv_iload_n hx hb dX12_crashes_60 rfl (lv_at hl 3 rfl) ?_
        refine lv_iadd hx hb dX12_crashes_61 ?_
        refine lv_iconst (v := 0) hx hb dX12_crashes_62 (by decide) ?_
        refine z_iast hx hb hK hP hD hS 1 rfl (fun z => w_X12_crashes h_t r_t F_t cI z a_memory a_order a_image a_well) (fun _ => rfl) dX12_crashes_63 hf (fun a10 H locs hf hP hD hS => ?_)
        refine lv_aload_n hx hb dX12_crashes_64 rfl (lv_at hl 0 rfl) ?_
        refine z_get (ci := 12) (C := RX12) (T := TX12) (N := 51) (v := .ref (r_t 0)) hx hb hts inT_X12 hown hK hP 0 rfl rfl 0 (by decide) tf_X12_10 rfl dX12_crashes_65 ?_
        refine lv_iload_n hx hb dX12_crashes_68 rfl (lv_at hl 1 rfl) ?_
        refine lv_bipush (v := 80) hx hb dX12_crashes_69 (by decide) ?_
        refine lv_iadd hx hb dX12_crashes_71 ?_
        refine lv_iload_n hx hb dX12_crashes_72 rfl (lv_at hl 3 rfl) ?_
        refine lv_iadd hx hb dX12_crashes_73 ?_
        refine lv_iconst (v := 0) hx hb dX12_crashes_74 (by decide) ?_
        refine z_iast hx hb hK hP hD hS 1 rfl (fun z => w_X12_crashes h_t r_t F_t cI z a_memory a_order a_image a_well) (fun _ => rfl) dX12_crashes_75 hf (fun a11 H locs hf hP hD hS => ?_)
        refine z_iinc (k0 := 3) (fun z => [(3, .int z), (0, .ref h_t), (1, .int p1), (2, .int x2)]) hx hb dX12_crashes_76 hl rfl (by decide) (by decide) (fun _ => rfl) hf (fun v12 ls hf hl => ?_)
        refine lv_goto (tgt := 46) hx hb dX12_crashes_79 (by decide) ?_
        exact ih46 x2 v12 F_t a11 a_memory a_image a_well _ _ _ hf hP hD hS (lv_sub hl [1, 2, 3, 0] rfl)
  have L44 : ∀ (x2 : Int32) (F_t : Nat → Int32) (a_rows : Nat → Int32) (a_memory : Nat → Int32) (a_image : Nat → Int32) (a_well : Nat → Int32) (H : Heap) (locs : List Loc) (ls : Array Slot), m_X12_crashes_j44 a_order p1 x2 F_t a_rows a_memory a_image a_well = some Rr → va_P D vwCl (w_X12_crashes h_t r_t F_t cI a_rows a_memory a_order a_image a_well) H → va_D A (w_X12_crashes h_t r_t F_t cI a_rows a_memory a_order a_image a_well) → va_S A s.heap H locs → lv_has ls 4 [(0, .ref h_t), (1, .int p1), (2, .int x2)] → W p l e rm_X12_crashes s m args below meth c H locs 0 0 Q (F0 m 44 ls []) := by
    intro x2 F_t a_rows a_memory a_image a_well H locs ls hf hP hD hS hl
    have hf := (m_X12_crashes_j44.eq_1 _ _ _ _ _ _ _ _).symm.trans hf
    refine lv_iconst (v := 0) hx hb dX12_crashes_44 (by decide) ?_
    refine lv_istore_n (lv' := [(3, .int 0), (0, .ref h_t), (1, .int p1), (2, .int x2)]) hx hb dX12_crashes_45 rfl hl (by decide) rfl (fun ls hl => ?_)
    exact L46 fuelN x2 0 F_t a_rows a_memory a_image a_well _ _ _ hf hP hD hS (lv_sub hl [1, 2, 3, 0] rfl)
  have L18 : ∀ (n18 : Nat) (x2 : Int32) (x3 : Int32) (F_t : Nat → Int32) (a_rows : Nat → Int32) (a_memory : Nat → Int32) (a_image : Nat → Int32) (a_well : Nat → Int32) (H : Heap) (locs : List Loc) (ls : Array Slot), m_X12_crashes_w18 a_order p1 (m_X12_crashes_j44 a_order p1) n18 x2 x3 F_t a_rows a_memory a_image a_well = some Rr → va_P D vwCl (w_X12_crashes h_t r_t F_t cI a_rows a_memory a_order a_image a_well) H → va_D A (w_X12_crashes h_t r_t F_t cI a_rows a_memory a_order a_image a_well) → va_S A s.heap H locs → lv_has ls 4 [(0, .ref h_t), (1, .int p1), (2, .int x2), (3, .int x3)] → W p l e rm_X12_crashes s m args below meth c H locs 0 0 Q (F0 m 18 ls []) := by
    intro n18
    induction n18 with
    | zero => intro x2 x3 F_t a_rows a_memory a_image a_well H locs ls hf; cases (show (none : Option _) = some Rr from hf)
    | succ n18 ih18 =>
      intro x2 x3 F_t a_rows a_memory a_image a_well H locs ls hf hP hD hS hl
      have hf := (m_X12_crashes_w18.eq_2 _ _ _ _ _ _ _ _ _ _ _).symm.trans hf
      refine lv_iload_n hx hb dX12_crashes_18 rfl (lv_at hl 3 rfl) ?_
      refine lv_bipush (v := 64) hx hb dX12_crashes_19 (by decide) ?_
      refine z_icmp_ge (tgt := 44) hx hb dX12_crashes_21 (by decide) hf (fun hf => ?_) (fun hf => ?_)
      · exact L44 x2 F_t a_rows a_memory a_image a_well _ _ _ hf hP hD hS (lv_sub hl [0, 1, 2] rfl)
      · refine lv_aload_n hx hb dX12_crashes_24 rfl (lv_at hl 0 rfl) ?_
        refine z_get (ci := 12) (C := RX12) (T := TX12) (N := 51) (v := .ref (r_t 0)) hx hb hts inT_X12 hown hK hP 0 rfl rfl 0 (by decide) tf_X12_10 rfl dX12_crashes_25 ?_
        refine lv_iload_n hx hb dX12_crashes_28 rfl (lv_at hl 1 rfl) ?_
        refine lv_iload_n hx hb dX12_crashes_29 rfl (lv_at hl 3 rfl) ?_
        refine lv_iadd hx hb dX12_crashes_30 ?_
        refine lv_aload_n hx hb dX12_crashes_31 rfl (lv_at hl 0 rfl) ?_
        refine z_get (ci := 12) (C := RX12) (T := TX12) (N := 51) (v := .ref (r_t 25)) hx hb hts inT_X12 hown hK hP 0 rfl rfl 25 (by decide) tf_X12_45 rfl dX12_crashes_32 ?_
        refine lv_iload_n hx hb dX12_crashes_35 rfl (lv_at hl 3 rfl) ?_
        refine z_iald hx hb hK hP 4 rfl dX12_crashes_36 hf (fun y13 hf => ?_)
        refine z_iast hx hb hK hP hD hS 1 rfl (fun z => w_X12_crashes h_t r_t F_t cI z a_memory a_order a_image a_well) (fun _ => rfl) dX12_crashes_37 hf (fun a14 H locs hf hP hD hS => ?_)
        refine z_iinc (k0 := 3) (fun z => [(3, .int z), (0, .ref h_t), (1, .int p1), (2, .int x2)]) hx hb dX12_crashes_38 hl rfl (by decide) (by decide) (fun _ => rfl) hf (fun v15 ls hf hl => ?_)
        refine lv_goto (tgt := 18) hx hb dX12_crashes_41 (by decide) ?_
        exact ih18 x2 v15 F_t a14 a_memory a_image a_well _ _ _ hf hP hD hS (lv_sub hl [1, 2, 3, 0] rfl)
  refine lv_aload_n hx hb dX12_crashes_0 rfl (lv_at hl 0 rfl) ?_
  refine lv_iload_n hx hb dX12_crashes_1 rfl (lv_at hl 1 rfl) ?_
  obtain ⟨u1, hu1, hf⟩ := bd_some hf
  refine z_cv (ws1 := w_X12_crashes h_t r_t u1.1 cI a_rows u1.2.1 a_order a_image u1.2.2) (wr := List.filterMap (fun i : Nat => (w_X12_crashes h_t r_t F_t cI a_rows a_memory a_order a_image a_well)[i]?) [3, 4]) (z_rV (rest := []) hx hb hml hown hcx hl.1 (c_X12_laysWell l D cI h_t r_t F_t a_rows a_memory a_well p1 u1 hu1 _) tl_X12_197 ti_X12_laysWell tz_X12_laysWell tn_X12 tc_X12_laysWell tm_X12_laysWell rfl rfl ⟨Nat.le_of_ble_eq_true rfl, Nat.le_of_ble_eq_true rfl⟩ hK hX hS hA hP hD [0, 1, 2, 5] rfl rfl 0 rfl rfl rfl rfl (Nat.le_of_ble_eq_true rfl) dX12_crashes_2 ⟨Nat.zero_le _, Nat.zero_le _⟩) hP hD hS hA [0, 1, 2, 5] [3, 4] [2, 3, 4, 0, 1, 5] rfl rfl rfl (by decide) rfl rfl (fun H locs hP hD hS => ?_)
  refine lv_aload_n hx hb dX12_crashes_5 rfl (lv_at hl 0 rfl) ?_
  refine lv_iload_n hx hb dX12_crashes_6 rfl (lv_at hl 1 rfl) ?_
  obtain ⟨u2, hu2, hf⟩ := bd_some hf
  refine z_ci (ws1 := w_X12_crashes h_t r_t u1.1 cI a_rows u1.2.1 a_order u2.2 u1.2.2) (wr := List.filterMap (fun i : Nat => (w_X12_crashes h_t r_t u1.1 cI a_rows u1.2.1 a_order a_image u1.2.2)[i]?) [2]) (z_rV (rest := []) hx hb hml hown hcx hl.1 (c_X12_fateHere l D cI h_t r_t u1.1 a_rows a_order a_image u1.2.2 p1 u2 hu2 _) tl_X12_203 ti_X12_fateHere tz_X12_fateHere tn_X12 tc_X12_fateHere tm_X12_fateHere rfl rfl ⟨Nat.le_of_ble_eq_true rfl, Nat.le_of_ble_eq_true rfl⟩ hK hX hS hA hP hD [0, 1, 3, 4, 5] rfl rfl 0 rfl rfl rfl rfl (Nat.le_of_ble_eq_true rfl) dX12_crashes_7 ⟨Nat.zero_le _, Nat.zero_le _⟩) hP hD hS hA [0, 1, 3, 4, 5] [2] [1, 2, 0, 3, 4, 5] rfl rfl rfl (by decide) rfl rfl (fun H locs hP hD hS => ?_)
  refine lv_istore_n (lv' := [(2, .int u2.1), (0, .ref h_t), (1, .int p1)]) hx hb dX12_crashes_10 rfl hl (by decide) rfl (fun ls hl => ?_)
  refine lv_aload_n hx hb dX12_crashes_11 rfl (lv_at hl 1 rfl) ?_
  refine lv_iload_n hx hb dX12_crashes_12 rfl (lv_at hl 2 rfl) ?_
  obtain ⟨u3, hu3, hf⟩ := bd_some hf
  refine z_cv (ws1 := w_X12_crashes h_t r_t u1.1 cI a_rows u1.2.1 a_order u3 u1.2.2) (wr := List.filterMap (fun i : Nat => (w_X12_crashes h_t r_t u1.1 cI a_rows u1.2.1 a_order u2.2 u1.2.2)[i]?) [2, 5]) (z_rV (rest := []) hx hb hml hown hcx hl.1 (c_X12_laysImage l D cI h_t r_t u1.1 a_rows a_order u2.2 p1 u3 hu3 _) tl_X12_185 ti_X12_laysImage tz_X12_laysImage tn_X12 tc_X12_laysImage tm_X12_laysImage rfl rfl ⟨Nat.le_of_ble_eq_true rfl, Nat.le_of_ble_eq_true rfl⟩ hK hX hS hA hP hD [0, 1, 3, 4] rfl rfl 0 rfl rfl rfl rfl (Nat.le_of_ble_eq_true rfl) dX12_crashes_13 ⟨Nat.zero_le _, Nat.zero_le _⟩) hP hD hS hA [0, 1, 3, 4] [2, 5] [2, 3, 0, 4, 5, 1] rfl rfl rfl (by decide) rfl rfl (fun H locs hP hD hS => ?_)
  refine lv_iconst (v := 0) hx hb dX12_crashes_16 (by decide) ?_
  refine lv_istore_n (lv' := [(3, .int 0), (2, .int u2.1), (0, .ref h_t), (1, .int p1)]) hx hb dX12_crashes_17 rfl hl (by decide) rfl (fun ls hl => ?_)
  exact L18 fuelN u2.1 0 u1.1 a_rows u1.2.1 u3 u1.2.2 _ _ _ hf hP hD hS (lv_sub hl [2, 3, 1, 0] rfl)
abbrev w_X12_isOrder (h_t : Nat) (r_t : Nat → Nat) (F_t : Nat → Int32) (cI : ClassId) (a_rows : Nat → Int32) : va_W := [(h_t, .inr (12, o_X12 r_t F_t)), ((r_t 0), .inl (cI, 66100, .inl a_rows))]
abbrev rm_X12_isOrder : Room := { frames := 1, cells := 0, slots := 0, locals := 24 }
def m_X12_isOrder (a_rows : Nat → Int32) (p1 : Int32) : Option (Int32) :=
  if p1 < 0 then (
  some 0)
  else (
  bd (m_X12_ordersOf a_rows 0) fun u1 =>
  if 0 ≤ (lg_cmp p1.toInt64 u1) then (
  some 0)
  else (
  some 1))
set_option maxHeartbeats 4000000 in
set_option maxRecDepth 100000 in
theorem c_X12_isOrder (l : Launch) (D : va_G) (cI : ClassId) (h_t : Nat) (r_t : Nat → Nat) (F_t : Nat → Int32) (a_rows : Nat → Int32) (p1 : Int32) (Rr : Int32) (hf : m_X12_isOrder a_rows p1 = some Rr) : CTi l yX12_isOrder (Cond.code yX12_isOrder cX12_isOrder 2 (some .boolean)) rm_X12_isOrder D cI [.ref h_t, .int p1] (w_X12_isOrder h_t r_t F_t cI a_rows) Rr (w_X12_isOrder h_t r_t F_t cI a_rows) := by
  refine z_begin_z (own := RX12) (ρ := Int32) (fun u => w_X12_isOrder h_t r_t F_t cI a_rows) (fun u => u) (by decide +kernel) rfl (Nat.le_of_ble_eq_true rfl) ?_
  intro p e s m args below meth c ls Q A hx hb hml hts hcx hown hK hX hA hP hD hS hl hret
  have hl : lv_has ls 2 [(0, .ref h_t), (1, .int p1)] := hl
  have hf := (m_X12_isOrder.eq_1 _ _).symm.trans hf
  refine lv_iload_n hx hb dX12_isOrder_0 rfl (lv_at hl 1 rfl) ?_
  refine z_if_lt (tgt := 19) hx hb dX12_isOrder_1 (by decide) hf (fun hf => ?_) (fun hf => ?_)
  · refine lv_iconst (v := 0) hx hb dX12_isOrder_19 (by decide) ?_
    exact hret 0 _ _ _ _ (Or.inl rfl) hf hP hD hS dX12_isOrder_20
  · refine lv_iload_n hx hb dX12_isOrder_4 rfl (lv_at hl 1 rfl) ?_
    refine lv_i2l hx hb dX12_isOrder_5 rfl ?_
    refine lv_aload_n hx hb dX12_isOrder_6 rfl (lv_at hl 0 rfl) ?_
    refine lv_iconst (v := 0) hx hb dX12_isOrder_7 (by decide) ?_
    obtain ⟨u1, hu1, hf⟩ := bd_some hf
    refine z_cl (ws1 := w_X12_isOrder h_t r_t F_t cI a_rows) (wr := List.filterMap (fun i : Nat => (w_X12_isOrder h_t r_t F_t cI a_rows)[i]?) []) (z_rV (rest := [.long p1.toInt64]) hx hb hml hown hcx hl.1 (c_X12_ordersOf l D cI h_t r_t F_t a_rows 0 u1 hu1 _) tl_X12_188 ti_X12_ordersOf tz_X12_ordersOf tn_X12 tc_X12_ordersOf tm_X12_ordersOf rfl rfl ⟨Nat.le_of_ble_eq_true rfl, Nat.le_of_ble_eq_true rfl⟩ hK hX hS hA hP hD [0, 1] rfl rfl 0 rfl rfl rfl rfl (Nat.le_of_ble_eq_true rfl) dX12_isOrder_8 ⟨Nat.zero_le _, Nat.zero_le _⟩) hP hD hS hA [0, 1] [] [0, 1] rfl rfl rfl (by decide) rfl rfl (fun H locs hP hD hS => ?_)
    refine W.lcmp hx hb dX12_isOrder_11 ?_
    refine z_if_ge (tgt := 19) hx hb dX12_isOrder_12 (by decide) hf (fun hf => ?_) (fun hf => ?_)
    · refine lv_iconst (v := 0) hx hb dX12_isOrder_19 (by decide) ?_
      exact hret 0 _ _ _ _ (Or.inl rfl) hf hP hD hS dX12_isOrder_20
    · refine lv_iconst (v := 1) hx hb dX12_isOrder_15 (by decide) ?_
      refine lv_goto (tgt := 20) hx hb dX12_isOrder_16 (by decide) ?_
      exact hret 1 _ _ _ _ (Or.inr rfl) hf hP hD hS dX12_isOrder_20
abbrev w_X12_crash (h_t : Nat) (r_t : Nat → Nat) (F_t : Nat → Int32) (cI : ClassId) (a_rows : Nat → Int32) (a_refused : Nat → Int32) (a_memory : Nat → Int32) (a_order : Nat → Int32) (a_image : Nat → Int32) (a_well : Nat → Int32) : va_W := [(h_t, .inr (12, o_X12 r_t F_t)), ((r_t 0), .inl (cI, 66100, .inl a_rows)), ((r_t 3), .inl (cI, 6, .inl a_refused)), ((r_t 23), .inl (cI, 64, .inl a_memory)), ((r_t 24), .inl (cI, 16, .inl a_order)), ((r_t 25), .inl (cI, 64, .inl a_image)), ((r_t 26), .inl (cI, 88, .inl a_well))]
abbrev rm_X12_crash : Room := { frames := 4, cells := 0, slots := 0, locals := 93 }
def m_X12_crash_j25 (p1 : Int32) (F_t : Nat → Int32) (a_rows : Nat → Int32) (a_refused : Nat → Int32) (a_memory : Nat → Int32) (a_order : Nat → Int32) (a_image : Nat → Int32) (a_well : Nat → Int32) : Option (Int32 × (Nat → Int32) × (Nat → Int32) × (Nat → Int32) × (Nat → Int32) × (Nat → Int32) × (Nat → Int32) × (Nat → Int32)) :=
  bd (m_X12_refuses a_refused 1) fun u3 =>
  some (u3.1, F_t, a_rows, u3.2, a_memory, a_order, a_image, a_well)
def m_X12_crash (F_t : Nat → Int32) (a_rows : Nat → Int32) (a_refused : Nat → Int32) (a_memory : Nat → Int32) (a_order : Nat → Int32) (a_image : Nat → Int32) (a_well : Nat → Int32) (p1 : Int32) : Option (Int32 × (Nat → Int32) × (Nat → Int32) × (Nat → Int32) × (Nat → Int32) × (Nat → Int32) × (Nat → Int32) × (Nat → Int32)) :=
  nm (upd F_t 4 0) fun F1 =>
  rd a_rows 66100 772 fun y2 =>
  if y2 = 1 then (
  m_X12_crash_j25 p1 F1 a_rows a_refused a_memory a_order a_image a_well)
  else (
  bd (m_X12_isOrder a_rows p1) fun u4 =>
  if u4 = 0 then (
  m_X12_crash_j25 p1 F1 a_rows a_refused a_memory a_order a_image a_well)
  else (
  bd (m_X12_tries a_rows) fun u5 =>
  bd (m_X12_laysOrder u5 a_order 786 p1) fun u6 =>
  bd (m_X12_crashes F1 u5 a_memory u6 a_image a_well 786) fun u7 =>
  bd (m_X12_isDone u7.2.1 u7.2.2.1 a_refused u7.1) fun u8 =>
  some (u8.1, u8.2.1, u8.2.2.1, u8.2.2.2, u7.2.2.2.1, u6, u7.2.2.2.2.1, u7.2.2.2.2.2)))
set_option maxHeartbeats 4000000 in
set_option maxRecDepth 100000 in
theorem c_X12_crash (l : Launch) (D : va_G) (cI : ClassId) (h_t : Nat) (r_t : Nat → Nat) (F_t : Nat → Int32) (a_rows : Nat → Int32) (a_refused : Nat → Int32) (a_memory : Nat → Int32) (a_order : Nat → Int32) (a_image : Nat → Int32) (a_well : Nat → Int32) (p1 : Int32) (Rr : Int32 × (Nat → Int32) × (Nat → Int32) × (Nat → Int32) × (Nat → Int32) × (Nat → Int32) × (Nat → Int32) × (Nat → Int32)) (hf : m_X12_crash F_t a_rows a_refused a_memory a_order a_image a_well p1 = some Rr) : CTi l yX12_crash (Cond.code yX12_crash cX12_crash 2 (some .int)) rm_X12_crash D cI [.ref h_t, .int p1] (w_X12_crash h_t r_t F_t cI a_rows a_refused a_memory a_order a_image a_well) Rr.1 (w_X12_crash h_t r_t Rr.2.1 cI Rr.2.2.1 Rr.2.2.2.1 Rr.2.2.2.2.1 Rr.2.2.2.2.2.1 Rr.2.2.2.2.2.2.1 Rr.2.2.2.2.2.2.2) := by
  refine z_begin_i (own := RX12) (ρ := Int32 × (Nat → Int32) × (Nat → Int32) × (Nat → Int32) × (Nat → Int32) × (Nat → Int32) × (Nat → Int32) × (Nat → Int32)) (fun u => w_X12_crash h_t r_t u.2.1 cI u.2.2.1 u.2.2.2.1 u.2.2.2.2.1 u.2.2.2.2.2.1 u.2.2.2.2.2.2.1 u.2.2.2.2.2.2.2) (fun u => u.1) (by decide +kernel) rfl (Nat.le_of_ble_eq_true rfl) ?_
  intro p e s m args below meth c ls Q A hx hb hml hts hcx hown hK hX hA hP hD hS hl hret
  have hl : lv_has ls 2 [(0, .ref h_t), (1, .int p1)] := hl
  have hf := (m_X12_crash.eq_1 _ _ _ _ _ _ _ _).symm.trans hf
  have L25 : ∀ (F_t : Nat → Int32) (a_rows : Nat → Int32) (a_refused : Nat → Int32) (a_memory : Nat → Int32) (a_order : Nat → Int32) (a_image : Nat → Int32) (a_well : Nat → Int32) (H : Heap) (locs : List Loc) (ls : Array Slot), m_X12_crash_j25 p1 F_t a_rows a_refused a_memory a_order a_image a_well = some Rr → va_P D vwCl (w_X12_crash h_t r_t F_t cI a_rows a_refused a_memory a_order a_image a_well) H → va_D A (w_X12_crash h_t r_t F_t cI a_rows a_refused a_memory a_order a_image a_well) → va_S A s.heap H locs → lv_has ls 2 [(0, .ref h_t)] → W p l e rm_X12_crash s m args below meth c H locs 0 0 Q (F0 m 25 ls []) := by
    intro F_t a_rows a_refused a_memory a_order a_image a_well H locs ls hf hP hD hS hl
    have hf := (m_X12_crash_j25.eq_1 _ _ _ _ _ _ _ _).symm.trans hf
    refine lv_aload_n hx hb dX12_crash_25 rfl (lv_at hl 0 rfl) ?_
    refine lv_iconst (v := 1) hx hb dX12_crash_26 (by decide) ?_
    obtain ⟨u3, hu3, hf⟩ := bd_some hf
    refine z_ci (ws1 := w_X12_crash h_t r_t F_t cI a_rows u3.2 a_memory a_order a_image a_well) (wr := List.filterMap (fun i : Nat => (w_X12_crash h_t r_t F_t cI a_rows a_refused a_memory a_order a_image a_well)[i]?) [1, 3, 4, 5, 6]) (z_rV (rest := []) hx hb hml hown hcx hl.1 (c_X12_refuses l D cI h_t r_t F_t a_refused 1 u3 hu3 _) tl_X12_345 ti_X12_refuses tz_X12_refuses tn_X12 tc_X12_refuses tm_X12_refuses rfl rfl ⟨Nat.le_of_ble_eq_true rfl, Nat.le_of_ble_eq_true rfl⟩ hK hX hS hA hP hD [0, 2] rfl rfl 0 rfl rfl rfl rfl (Nat.le_of_ble_eq_true rfl) dX12_crash_27 ⟨Nat.zero_le _, Nat.zero_le _⟩) hP hD hS hA [0, 2] [1, 3, 4, 5, 6] [5, 0, 6, 1, 2, 3, 4] rfl rfl rfl (by decide) rfl rfl (fun H locs hP hD hS => ?_)
    exact hret (u3.1, F_t, a_rows, u3.2, a_memory, a_order, a_image, a_well) _ _ _ _ hf hP hD hS dX12_crash_30
  refine lv_aload_n hx hb dX12_crash_0 rfl (lv_at hl 0 rfl) ?_
  refine lv_iconst (v := 0) hx hb dX12_crash_1 (by decide) ?_
  refine z_put (ci := 12) (C := RX12) (T := TX12) (N := 51) hx hb hts inT_X12 tyX12 tyX12_ok nmX12 hown hK hP hD hS 0 rfl rfl 4 (by decide) tf_X12_63 rfl (by decide +kernel) (Nat.le_of_ble_eq_true rfl) (o_X12 r_t) (o_X12_s4 _ _ _) (fun z => w_X12_crash h_t r_t z cI a_rows a_refused a_memory a_order a_image a_well) (fun _ => rfl) dX12_crash_2 hf (fun F1 H locs hf hP hD hS => ?_)
  refine lv_aload_n hx hb dX12_crash_5 rfl (lv_at hl 0 rfl) ?_
  refine z_get (ci := 12) (C := RX12) (T := TX12) (N := 51) (v := .ref (r_t 0)) hx hb hts inT_X12 hown hK hP 0 rfl rfl 0 (by decide) tf_X12_10 rfl dX12_crash_6 ?_
  refine lv_sipush (v := 772) hx hb dX12_crash_9 (by decide) ?_
  refine z_iald hx hb hK hP 1 rfl dX12_crash_12 hf (fun y2 hf => ?_)
  refine lv_iconst (v := 1) hx hb dX12_crash_13 (by decide) ?_
  refine z_icmp_eq (tgt := 25) hx hb dX12_crash_14 (by decide) hf (fun hf => ?_) (fun hf => ?_)
  · exact L25 F1 a_rows a_refused a_memory a_order a_image a_well _ _ _ hf hP hD hS (lv_sub hl [0] rfl)
  · refine lv_aload_n hx hb dX12_crash_17 rfl (lv_at hl 0 rfl) ?_
    refine lv_iload_n hx hb dX12_crash_18 rfl (lv_at hl 1 rfl) ?_
    obtain ⟨u4, hu4, hf⟩ := bd_some hf
    refine z_ci (ws1 := w_X12_crash h_t r_t F1 cI a_rows a_refused a_memory a_order a_image a_well) (wr := List.filterMap (fun i : Nat => (w_X12_crash h_t r_t F1 cI a_rows a_refused a_memory a_order a_image a_well)[i]?) [2, 3, 4, 5, 6]) (z_rV (rest := []) hx hb hml hown hcx hl.1 (c_X12_isOrder l D cI h_t r_t F1 a_rows p1 u4 hu4 _) tl_X12_357 ti_X12_isOrder tz_X12_isOrder tn_X12 tc_X12_isOrder tm_X12_isOrder rfl rfl ⟨Nat.le_of_ble_eq_true rfl, Nat.le_of_ble_eq_true rfl⟩ hK hX hS hA hP hD [0, 1] rfl rfl 0 rfl rfl rfl rfl (Nat.le_of_ble_eq_true rfl) dX12_crash_19 ⟨Nat.zero_le _, Nat.zero_le _⟩) hP hD hS hA [0, 1] [2, 3, 4, 5, 6] [5, 6, 0, 1, 2, 3, 4] rfl rfl rfl (by decide) rfl rfl (fun H locs hP hD hS => ?_)
    refine z_if_ne (tgt := 31) hx hb dX12_crash_22 (by decide) hf (fun hf => ?_) (fun hf => ?_)
    · refine lv_aload_n hx hb dX12_crash_31 rfl (lv_at hl 0 rfl) ?_
      obtain ⟨u5, hu5, hf⟩ := bd_some hf
      refine z_cv (ws1 := w_X12_crash h_t r_t F1 cI u5 a_refused a_memory a_order a_image a_well) (wr := List.filterMap (fun i : Nat => (w_X12_crash h_t r_t F1 cI a_rows a_refused a_memory a_order a_image a_well)[i]?) [2, 3, 4, 5, 6]) (z_rV (rest := []) hx hb hml hown hcx hl.1 (c_X12_tries l D cI h_t r_t F1 a_rows u5 hu5 _) tl_X12_218 ti_X12_tries tz_X12_tries tn_X12 tc_X12_tries tm_X12_tries rfl rfl ⟨Nat.le_of_ble_eq_true rfl, Nat.le_of_ble_eq_true rfl⟩ hK hX hS hA hP hD [0, 1] rfl rfl 0 rfl rfl rfl rfl (Nat.le_of_ble_eq_true rfl) dX12_crash_32 ⟨Nat.zero_le _, Nat.zero_le _⟩) hP hD hS hA [0, 1] [2, 3, 4, 5, 6] [5, 6, 0, 1, 2, 3, 4] rfl rfl rfl (by decide) rfl rfl (fun H locs hP hD hS => ?_)
      refine lv_aload_n hx hb dX12_crash_35 rfl (lv_at hl 0 rfl) ?_
      refine lv_sipush (v := 786) hx hb dX12_crash_36 (by decide) ?_
      refine lv_iload_n hx hb dX12_crash_39 rfl (lv_at hl 1 rfl) ?_
      obtain ⟨u6, hu6, hf⟩ := bd_some hf
      refine z_cv (ws1 := w_X12_crash h_t r_t F1 cI u5 a_refused a_memory u6 a_image a_well) (wr := List.filterMap (fun i : Nat => (w_X12_crash h_t r_t F1 cI u5 a_refused a_memory a_order a_image a_well)[i]?) [2, 3, 5, 6]) (z_rV (rest := []) hx hb hml hown hcx hl.1 (c_X12_laysOrder l D cI h_t r_t F1 u5 a_order 786 p1 u6 hu6 _) tl_X12_360 ti_X12_laysOrder tz_X12_laysOrder tn_X12 tc_X12_laysOrder tm_X12_laysOrder rfl rfl ⟨Nat.le_of_ble_eq_true rfl, Nat.le_of_ble_eq_true rfl⟩ hK hX hS hA hP hD [0, 1, 4] rfl rfl 0 rfl rfl rfl rfl (Nat.le_of_ble_eq_true rfl) dX12_crash_40 ⟨Nat.zero_le _, Nat.zero_le _⟩) hP hD hS hA [0, 1, 4] [2, 3, 5, 6] [4, 5, 0, 1, 6, 2, 3] rfl rfl rfl (by decide) rfl rfl (fun H locs hP hD hS => ?_)
      refine lv_aload_n hx hb dX12_crash_43 rfl (lv_at hl 0 rfl) ?_
      refine lv_aload_n hx hb dX12_crash_44 rfl (lv_at hl 0 rfl) ?_
      refine lv_sipush (v := 786) hx hb dX12_crash_45 (by decide) ?_
      obtain ⟨u7, hu7, hf⟩ := bd_some hf
      refine z_ci (ws1 := w_X12_crash h_t r_t u7.2.1 cI u7.2.2.1 a_refused u7.2.2.2.1 u6 u7.2.2.2.2.1 u7.2.2.2.2.2) (wr := List.filterMap (fun i : Nat => (w_X12_crash h_t r_t F1 cI u5 a_refused a_memory u6 a_image a_well)[i]?) [2]) (z_rV (rest := [.ref h_t]) hx hb hml hown hcx hl.1 (c_X12_crashes l D cI h_t r_t F1 u5 a_memory u6 a_image a_well 786 u7 hu7 _) tl_X12_363 ti_X12_crashes tz_X12_crashes tn_X12 tc_X12_crashes tm_X12_crashes rfl rfl ⟨Nat.le_of_ble_eq_true rfl, Nat.le_of_ble_eq_true rfl⟩ hK hX hS hA hP hD [0, 1, 3, 4, 5, 6] rfl rfl 0 rfl rfl rfl rfl (Nat.le_of_ble_eq_true rfl) dX12_crash_48 ⟨Nat.zero_le _, Nat.zero_le _⟩) hP hD hS hA [0, 1, 3, 4, 5, 6] [2] [1, 2, 0, 3, 4, 5, 6] rfl rfl rfl (by decide) rfl rfl (fun H locs hP hD hS => ?_)
      obtain ⟨u8, hu8, hf⟩ := bd_some hf
      refine z_ci (ws1 := w_X12_crash h_t r_t u8.2.1 cI u8.2.2.1 u8.2.2.2 u7.2.2.2.1 u6 u7.2.2.2.2.1 u7.2.2.2.2.2) (wr := List.filterMap (fun i : Nat => (w_X12_crash h_t r_t u7.2.1 cI u7.2.2.1 a_refused u7.2.2.2.1 u6 u7.2.2.2.2.1 u7.2.2.2.2.2)[i]?) [3, 4, 5, 6]) (z_rV (rest := []) hx hb hml hown hcx hl.1 (c_X12_isDone l D cI h_t r_t u7.2.1 u7.2.2.1 a_refused u7.1 u8 hu8 _) tl_X12_354 ti_X12_isDone tz_X12_isDone tn_X12 tc_X12_isDone tm_X12_isDone rfl rfl ⟨Nat.le_of_ble_eq_true rfl, Nat.le_of_ble_eq_true rfl⟩ hK hX hS hA hP hD [0, 1, 2] rfl rfl 0 rfl rfl rfl rfl (Nat.le_of_ble_eq_true rfl) dX12_crash_51 ⟨Nat.zero_le _, Nat.zero_le _⟩) hP hD hS hA [0, 1, 2] [3, 4, 5, 6] [4, 5, 6, 0, 1, 2, 3] rfl rfl rfl (by decide) rfl rfl (fun H locs hP hD hS => ?_)
      exact hret (u8.1, u8.2.1, u8.2.2.1, u8.2.2.2, u7.2.2.2.1, u6, u7.2.2.2.2.1, u7.2.2.2.2.2) _ _ _ _ hf hP hD hS dX12_crash_54
    · exact L25 F1 a_rows a_refused a_memory a_order a_image a_well _ _ _ hf hP hD hS (lv_sub hl [0] rfl)
abbrev w_X12_recover (h_t : Nat) (r_t : Nat → Nat) (F_t : Nat → Int32) (cI : ClassId) (a_rows : Nat → Int32) (a_refused : Nat → Int32) (a_address : Nat → Int32) (a_number : Nat → Int32) (a_memory : Nat → Int32) : va_W := [(h_t, .inr (12, o_X12 r_t F_t)), ((r_t 0), .inl (cI, 66100, .inl a_rows)), ((r_t 3), .inl (cI, 6, .inl a_refused)), ((r_t 17), .inl (cI, 64, .inl a_address)), ((r_t 18), .inl (cI, 64, .inl a_number)), ((r_t 23), .inl (cI, 64, .inl a_memory))]
abbrev rm_X12_recover : Room := { frames := 5, cells := 0, slots := 0, locals := 118 }
def m_X12_recover (F_t : Nat → Int32) (a_rows : Nat → Int32) (a_refused : Nat → Int32) (a_address : Nat → Int32) (a_number : Nat → Int32) (a_memory : Nat → Int32) : Option (Int32 × (Nat → Int32) × (Nat → Int32) × (Nat → Int32) × (Nat → Int32) × (Nat → Int32) × (Nat → Int32)) :=
  nm (upd F_t 4 0) fun F1 =>
  rd a_rows 66100 772 fun y2 =>
  if y2 = 1 then (
  bd (m_X12_tries a_rows) fun u3 =>
  bd (m_X12_recovery F1 u3 a_address a_number a_memory 786) fun u4 =>
  rd u4.2.1 66100 1560 fun y5 =>
  bd (m_X12_isDone u4.1 u4.2.1 a_refused y5) fun u6 =>
  some (u6.1, u6.2.1, u6.2.2.1, u6.2.2.2, u4.2.2.1, u4.2.2.2.1, u4.2.2.2.2))
  else (
  bd (m_X12_refuses a_refused 1) fun u7 =>
  some (u7.1, F1, a_rows, u7.2, a_address, a_number, a_memory))
set_option maxHeartbeats 4000000 in
set_option maxRecDepth 100000 in
theorem c_X12_recover (l : Launch) (D : va_G) (cI : ClassId) (h_t : Nat) (r_t : Nat → Nat) (F_t : Nat → Int32) (a_rows : Nat → Int32) (a_refused : Nat → Int32) (a_address : Nat → Int32) (a_number : Nat → Int32) (a_memory : Nat → Int32) (Rr : Int32 × (Nat → Int32) × (Nat → Int32) × (Nat → Int32) × (Nat → Int32) × (Nat → Int32) × (Nat → Int32)) (hf : m_X12_recover F_t a_rows a_refused a_address a_number a_memory = some Rr) : CTi l yX12_recover (Cond.code yX12_recover cX12_recover 1 (some .int)) rm_X12_recover D cI [.ref h_t] (w_X12_recover h_t r_t F_t cI a_rows a_refused a_address a_number a_memory) Rr.1 (w_X12_recover h_t r_t Rr.2.1 cI Rr.2.2.1 Rr.2.2.2.1 Rr.2.2.2.2.1 Rr.2.2.2.2.2.1 Rr.2.2.2.2.2.2) := by
  refine z_begin_i (own := RX12) (ρ := Int32 × (Nat → Int32) × (Nat → Int32) × (Nat → Int32) × (Nat → Int32) × (Nat → Int32) × (Nat → Int32)) (fun u => w_X12_recover h_t r_t u.2.1 cI u.2.2.1 u.2.2.2.1 u.2.2.2.2.1 u.2.2.2.2.2.1 u.2.2.2.2.2.2) (fun u => u.1) (by decide +kernel) rfl (Nat.le_of_ble_eq_true rfl) ?_
  intro p e s m args below meth c ls Q A hx hb hml hts hcx hown hK hX hA hP hD hS hl hret
  have hl : lv_has ls 1 [(0, .ref h_t)] := hl
  have hf := (m_X12_recover.eq_1 _ _ _ _ _ _).symm.trans hf
  refine lv_aload_n hx hb dX12_recover_0 rfl (lv_at hl 0 rfl) ?_
  refine lv_iconst (v := 0) hx hb dX12_recover_1 (by decide) ?_
  refine z_put (ci := 12) (C := RX12) (T := TX12) (N := 51) hx hb hts inT_X12 tyX12 tyX12_ok nmX12 hown hK hP hD hS 0 rfl rfl 4 (by decide) tf_X12_63 rfl (by decide +kernel) (Nat.le_of_ble_eq_true rfl) (o_X12 r_t) (o_X12_s4 _ _ _) (fun z => w_X12_recover h_t r_t z cI a_rows a_refused a_address a_number a_memory) (fun _ => rfl) dX12_recover_2 hf (fun F1 H locs hf hP hD hS => ?_)
  refine lv_aload_n hx hb dX12_recover_5 rfl (lv_at hl 0 rfl) ?_
  refine z_get (ci := 12) (C := RX12) (T := TX12) (N := 51) (v := .ref (r_t 0)) hx hb hts inT_X12 hown hK hP 0 rfl rfl 0 (by decide) tf_X12_10 rfl dX12_recover_6 ?_
  refine lv_sipush (v := 772) hx hb dX12_recover_9 (by decide) ?_
  refine z_iald hx hb hK hP 1 rfl dX12_recover_12 hf (fun y2 hf => ?_)
  refine lv_iconst (v := 1) hx hb dX12_recover_13 (by decide) ?_
  refine z_icmp_eq (tgt := 23) hx hb dX12_recover_14 (by decide) hf (fun hf => ?_) (fun hf => ?_)
  · refine lv_aload_n hx hb dX12_recover_23 rfl (lv_at hl 0 rfl) ?_
    obtain ⟨u3, hu3, hf⟩ := bd_some hf
    refine z_cv (ws1 := w_X12_recover h_t r_t F1 cI u3 a_refused a_address a_number a_memory) (wr := List.filterMap (fun i : Nat => (w_X12_recover h_t r_t F1 cI a_rows a_refused a_address a_number a_memory)[i]?) [2, 3, 4, 5]) (z_rV (rest := []) hx hb hml hown hcx hl.1 (c_X12_tries l D cI h_t r_t F1 a_rows u3 hu3 _) tl_X12_218 ti_X12_tries tz_X12_tries tn_X12 tc_X12_tries tm_X12_tries rfl rfl ⟨Nat.le_of_ble_eq_true rfl, Nat.le_of_ble_eq_true rfl⟩ hK hX hS hA hP hD [0, 1] rfl rfl 0 rfl rfl rfl rfl (Nat.le_of_ble_eq_true rfl) dX12_recover_24 ⟨Nat.zero_le _, Nat.zero_le _⟩) hP hD hS hA [0, 1] [2, 3, 4, 5] [4, 5, 0, 1, 2, 3] rfl rfl rfl (by decide) rfl rfl (fun H locs hP hD hS => ?_)
    refine lv_aload_n hx hb dX12_recover_27 rfl (lv_at hl 0 rfl) ?_
    refine lv_sipush (v := 786) hx hb dX12_recover_28 (by decide) ?_
    obtain ⟨u4, hu4, hf⟩ := bd_some hf
    refine z_cv (ws1 := w_X12_recover h_t r_t u4.1 cI u4.2.1 a_refused u4.2.2.1 u4.2.2.2.1 u4.2.2.2.2) (wr := List.filterMap (fun i : Nat => (w_X12_recover h_t r_t F1 cI u3 a_refused a_address a_number a_memory)[i]?) [2]) (z_rV (rest := []) hx hb hml hown hcx hl.1 (c_X12_recovery l D cI h_t r_t F1 u3 a_address a_number a_memory 786 u4 hu4 _) tl_X12_221 ti_X12_recovery tz_X12_recovery tn_X12 tc_X12_recovery tm_X12_recovery rfl rfl ⟨Nat.le_of_ble_eq_true rfl, Nat.le_of_ble_eq_true rfl⟩ hK hX hS hA hP hD [0, 1, 3, 4, 5] rfl rfl 0 rfl rfl rfl rfl (Nat.le_of_ble_eq_true rfl) dX12_recover_31 ⟨Nat.zero_le _, Nat.zero_le _⟩) hP hD hS hA [0, 1, 3, 4, 5] [2] [1, 2, 0, 3, 4, 5] rfl rfl rfl (by decide) rfl rfl (fun H locs hP hD hS => ?_)
    refine lv_aload_n hx hb dX12_recover_34 rfl (lv_at hl 0 rfl) ?_
    refine lv_aload_n hx hb dX12_recover_35 rfl (lv_at hl 0 rfl) ?_
    refine z_get (ci := 12) (C := RX12) (T := TX12) (N := 51) (v := .ref (r_t 0)) hx hb hts inT_X12 hown hK hP 0 rfl rfl 0 (by decide) tf_X12_10 rfl dX12_recover_36 ?_
    refine lv_sipush (v := 1560) hx hb dX12_recover_39 (by decide) ?_
    refine z_iald hx hb hK hP 1 rfl dX12_recover_42 hf (fun y5 hf => ?_)
    obtain ⟨u6, hu6, hf⟩ := bd_some hf
    refine z_ci (ws1 := w_X12_recover h_t r_t u6.2.1 cI u6.2.2.1 u6.2.2.2 u4.2.2.1 u4.2.2.2.1 u4.2.2.2.2) (wr := List.filterMap (fun i : Nat => (w_X12_recover h_t r_t u4.1 cI u4.2.1 a_refused u4.2.2.1 u4.2.2.2.1 u4.2.2.2.2)[i]?) [3, 4, 5]) (z_rV (rest := []) hx hb hml hown hcx hl.1 (c_X12_isDone l D cI h_t r_t u4.1 u4.2.1 a_refused y5 u6 hu6 _) tl_X12_354 ti_X12_isDone tz_X12_isDone tn_X12 tc_X12_isDone tm_X12_isDone rfl rfl ⟨Nat.le_of_ble_eq_true rfl, Nat.le_of_ble_eq_true rfl⟩ hK hX hS hA hP hD [0, 1, 2] rfl rfl 0 rfl rfl rfl rfl (Nat.le_of_ble_eq_true rfl) dX12_recover_43 ⟨Nat.zero_le _, Nat.zero_le _⟩) hP hD hS hA [0, 1, 2] [3, 4, 5] [3, 4, 5, 0, 1, 2] rfl rfl rfl (by decide) rfl rfl (fun H locs hP hD hS => ?_)
    exact hret (u6.1, u6.2.1, u6.2.2.1, u6.2.2.2, u4.2.2.1, u4.2.2.2.1, u4.2.2.2.2) _ _ _ _ hf hP hD hS dX12_recover_46
  · refine lv_aload_n hx hb dX12_recover_17 rfl (lv_at hl 0 rfl) ?_
    refine lv_iconst (v := 1) hx hb dX12_recover_18 (by decide) ?_
    obtain ⟨u7, hu7, hf⟩ := bd_some hf
    refine z_ci (ws1 := w_X12_recover h_t r_t F1 cI a_rows u7.2 a_address a_number a_memory) (wr := List.filterMap (fun i : Nat => (w_X12_recover h_t r_t F1 cI a_rows a_refused a_address a_number a_memory)[i]?) [1, 3, 4, 5]) (z_rV (rest := []) hx hb hml hown hcx hl.1 (c_X12_refuses l D cI h_t r_t F1 a_refused 1 u7 hu7 _) tl_X12_345 ti_X12_refuses tz_X12_refuses tn_X12 tc_X12_refuses tm_X12_refuses rfl rfl ⟨Nat.le_of_ble_eq_true rfl, Nat.le_of_ble_eq_true rfl⟩ hK hX hS hA hP hD [0, 2] rfl rfl 0 rfl rfl rfl rfl (Nat.le_of_ble_eq_true rfl) dX12_recover_19 ⟨Nat.zero_le _, Nat.zero_le _⟩) hP hD hS hA [0, 2] [1, 3, 4, 5] [4, 0, 5, 1, 2, 3] rfl rfl rfl (by decide) rfl rfl (fun H locs hP hD hS => ?_)
    exact hret (u7.1, F1, a_rows, u7.2, a_address, a_number, a_memory) _ _ _ _ hf hP hD hS dX12_recover_22
abbrev w_X12_waits (h_t : Nat) (r_t : Nat → Nat) (F_t : Nat → Int32) (cI : ClassId) (a_rows : Nat → Int32) : va_W := [(h_t, .inr (12, o_X12 r_t F_t)), ((r_t 0), .inl (cI, 66100, .inl a_rows))]
abbrev rm_X12_waits : Room := { frames := 0, cells := 0, slots := 0, locals := 0 }
def m_X12_waits_j48 (p1 : Int32) (p2 : Int32) (p3 : Int32) (p4 : Int32) (x5 : Int32) (a_rows : Nat → Int32) : Option ((Nat → Int32)) :=
  wr a_rows 66100 x5 1 fun a3 =>
  wr a3 66100 (x5 + 1) p2 fun a4 =>
  wr a4 66100 (x5 + 2) p3 fun a5 =>
  wr a5 66100 (x5 + 3) p4 fun a6 =>
  rd a6 66100 (p1 + 777) fun y7 =>
  wr a6 66100 (p1 + 777) (y7 + 1) fun a8 =>
  some a8
def m_X12_waits_w24 (p1 : Int32) (p2 : Int32) (p3 : Int32) (p4 : Int32) (k48 : Int32 → (Nat → Int32) → Option ((Nat → Int32))) : Nat → Int32 → Int32 → (Nat → Int32) → Option ((Nat → Int32))
  | 0, _, _, _ => none
  | n24 + 1, x5, x6, a_rows =>
    if 13 ≤ x6 then (
    k48 x5 a_rows)
    else (
    wr a_rows 66100 (x5 + x6) 0 fun a9 =>
    nm (x6 + 1) fun v10 =>
    m_X12_waits_w24 p1 p2 p3 p4 k48 n24 x5 v10 a9)
def m_X12_waits (a_rows : Nat → Int32) (p1 : Int32) (p2 : Int32) (p3 : Int32) (p4 : Int32) : Option ((Nat → Int32)) :=
  rd a_rows 66100 (p1 + 777) fun y1 =>
  nm ((p1 + 616) + (13 * y1)) fun v2 =>
  m_X12_waits_w24 p1 p2 p3 p4 (m_X12_waits_j48 p1 p2 p3 p4) fuelN v2 0 a_rows
set_option maxHeartbeats 4000000 in
set_option maxRecDepth 100000 in
theorem c_X12_waits (l : Launch) (D : va_G) (cI : ClassId) (h_t : Nat) (r_t : Nat → Nat) (F_t : Nat → Int32) (a_rows : Nat → Int32) (p1 : Int32) (p2 : Int32) (p3 : Int32) (p4 : Int32) (Rr : (Nat → Int32)) (hf : m_X12_waits a_rows p1 p2 p3 p4 = some Rr) : CTv l yX12_waits (Cond.code yX12_waits cX12_waits 7 none) rm_X12_waits D cI [.ref h_t, .int p1, .int p2, .int p3, .int p4] (w_X12_waits h_t r_t F_t cI a_rows) (w_X12_waits h_t r_t F_t cI Rr) := by
  refine z_begin_v (own := RX12) (ρ := (Nat → Int32)) (fun u => w_X12_waits h_t r_t F_t cI u) (by decide +kernel) rfl (Nat.le_of_ble_eq_true rfl) ?_
  intro p e s m args below meth c ls Q A hx hb hml hts hcx hown hK hX hA hP hD hS hl hret
  have hl : lv_has ls 7 [(0, .ref h_t), (1, .int p1), (2, .int p2), (3, .int p3), (4, .int p4)] := hl
  have hf := (m_X12_waits.eq_1 _ _ _ _ _).symm.trans hf
  have L48 : ∀ (x5 : Int32) (a_rows : Nat → Int32) (H : Heap) (locs : List Loc) (ls : Array Slot), m_X12_waits_j48 p1 p2 p3 p4 x5 a_rows = some Rr → va_P D vwCl (w_X12_waits h_t r_t F_t cI a_rows) H → va_D A (w_X12_waits h_t r_t F_t cI a_rows) → va_S A s.heap H locs → lv_has ls 7 [(0, .ref h_t), (1, .int p1), (2, .int p2), (3, .int p3), (4, .int p4), (5, .int x5)] → W p l e rm_X12_waits s m args below meth c H locs 0 0 Q (F0 m 48 ls []) := by
    intro x5 a_rows H locs ls hf hP hD hS hl
    have hf := (m_X12_waits_j48.eq_1 _ _ _ _ _ _).symm.trans hf
    refine lv_aload_n hx hb dX12_waits_48 rfl (lv_at hl 0 rfl) ?_
    refine z_get (ci := 12) (C := RX12) (T := TX12) (N := 51) (v := .ref (r_t 0)) hx hb hts inT_X12 hown hK hP 0 rfl rfl 0 (by decide) tf_X12_10 rfl dX12_waits_49 ?_
    refine lv_iload hx hb dX12_waits_52 (lv_at hl 5 rfl) ?_
    refine lv_iconst (v := 1) hx hb dX12_waits_54 (by decide) ?_
    refine z_iast hx hb hK hP hD hS 1 rfl (fun z => w_X12_waits h_t r_t F_t cI z) (fun _ => rfl) dX12_waits_55 hf (fun a3 H locs hf hP hD hS => ?_)
    refine lv_aload_n hx hb dX12_waits_56 rfl (lv_at hl 0 rfl) ?_
    refine z_get (ci := 12) (C := RX12) (T := TX12) (N := 51) (v := .ref (r_t 0)) hx hb hts inT_X12 hown hK hP 0 rfl rfl 0 (by decide) tf_X12_10 rfl dX12_waits_57 ?_
    refine lv_iload hx hb dX12_waits_60 (lv_at hl 5 rfl) ?_
    refine lv_iconst (v := 1) hx hb dX12_waits_62 (by decide) ?_
    refine lv_iadd hx hb dX12_waits_63 ?_
    refine lv_iload_n hx hb dX12_waits_64 rfl (lv_at hl 2 rfl) ?_
    refine z_iast hx hb hK hP hD hS 1 rfl (fun z => w_X12_waits h_t r_t F_t cI z) (fun _ => rfl) dX12_waits_65 hf (fun a4 H locs hf hP hD hS => ?_)
    refine lv_aload_n hx hb dX12_waits_66 rfl (lv_at hl 0 rfl) ?_
    refine z_get (ci := 12) (C := RX12) (T := TX12) (N := 51) (v := .ref (r_t 0)) hx hb hts inT_X12 hown hK hP 0 rfl rfl 0 (by decide) tf_X12_10 rfl dX12_waits_67 ?_
    refine lv_iload hx hb dX12_waits_70 (lv_at hl 5 rfl) ?_
    refine lv_iconst (v := 2) hx hb dX12_waits_72 (by decide) ?_
    refine lv_iadd hx hb dX12_waits_73 ?_
    refine lv_iload_n hx hb dX12_waits_74 rfl (lv_at hl 3 rfl) ?_
    refine z_iast hx hb hK hP hD hS 1 rfl (fun z => w_X12_waits h_t r_t F_t cI z) (fun _ => rfl) dX12_waits_75 hf (fun a5 H locs hf hP hD hS => ?_)
    refine lv_aload_n hx hb dX12_waits_76 rfl (lv_at hl 0 rfl) ?_
    refine z_get (ci := 12) (C := RX12) (T := TX12) (N := 51) (v := .ref (r_t 0)) hx hb hts inT_X12 hown hK hP 0 rfl rfl 0 (by decide) tf_X12_10 rfl dX12_waits_77 ?_
    refine lv_iload hx hb dX12_waits_80 (lv_at hl 5 rfl) ?_
    refine lv_iconst (v := 3) hx hb dX12_waits_82 (by decide) ?_
    refine lv_iadd hx hb dX12_waits_83 ?_
    refine lv_iload hx hb dX12_waits_84 (lv_at hl 4 rfl) ?_
    refine z_iast hx hb hK hP hD hS 1 rfl (fun z => w_X12_waits h_t r_t F_t cI z) (fun _ => rfl) dX12_waits_86 hf (fun a6 H locs hf hP hD hS => ?_)
    refine lv_aload_n hx hb dX12_waits_87 rfl (lv_at hl 0 rfl) ?_
    refine z_get (ci := 12) (C := RX12) (T := TX12) (N := 51) (v := .ref (r_t 0)) hx hb hts inT_X12 hown hK hP 0 rfl rfl 0 (by decide) tf_X12_10 rfl dX12_waits_88 ?_
    refine lv_iload_n hx hb dX12_waits_91 rfl (lv_at hl 1 rfl) ?_
    refine lv_sipush (v := 777) hx hb dX12_waits_92 (by decide) ?_
    refine lv_iadd hx hb dX12_waits_95 ?_
    refine lv_dup2_11 hx hb dX12_waits_96 rfl rfl ?_
    refine z_iald hx hb hK hP 1 rfl dX12_waits_97 hf (fun y7 hf => ?_)
    refine lv_iconst (v := 1) hx hb dX12_waits_98 (by decide) ?_
    refine lv_iadd hx hb dX12_waits_99 ?_
    refine z_iast hx hb hK hP hD hS 1 rfl (fun z => w_X12_waits h_t r_t F_t cI z) (fun _ => rfl) dX12_waits_100 hf (fun a8 H locs hf hP hD hS => ?_)
    exact hret a8 _ _ _ _ hf hP hD hS dX12_waits_101
  have L24 : ∀ (n24 : Nat) (x5 : Int32) (x6 : Int32) (a_rows : Nat → Int32) (H : Heap) (locs : List Loc) (ls : Array Slot), m_X12_waits_w24 p1 p2 p3 p4 (m_X12_waits_j48 p1 p2 p3 p4) n24 x5 x6 a_rows = some Rr → va_P D vwCl (w_X12_waits h_t r_t F_t cI a_rows) H → va_D A (w_X12_waits h_t r_t F_t cI a_rows) → va_S A s.heap H locs → lv_has ls 7 [(0, .ref h_t), (1, .int p1), (2, .int p2), (3, .int p3), (4, .int p4), (5, .int x5), (6, .int x6)] → W p l e rm_X12_waits s m args below meth c H locs 0 0 Q (F0 m 24 ls []) := by
    intro n24
    induction n24 with
    | zero => intro x5 x6 a_rows H locs ls hf; cases (show (none : Option _) = some Rr from hf)
    | succ n24 ih24 =>
      intro x5 x6 a_rows H locs ls hf hP hD hS hl
      have hf := (m_X12_waits_w24.eq_2 _ _ _ _ _ _ _ _ _).symm.trans hf
      refine lv_iload hx hb dX12_waits_24 (lv_at hl 6 rfl) ?_
      refine lv_bipush (v := 13) hx hb dX12_waits_26 (by decide) ?_
      refine z_icmp_ge (tgt := 48) hx hb dX12_waits_28 (by decide) hf (fun hf => ?_) (fun hf => ?_)
      · exact L48 x5 a_rows _ _ _ hf hP hD hS (lv_sub hl [0, 1, 2, 3, 4, 5] rfl)
      · refine lv_aload_n hx hb dX12_waits_31 rfl (lv_at hl 0 rfl) ?_
        refine z_get (ci := 12) (C := RX12) (T := TX12) (N := 51) (v := .ref (r_t 0)) hx hb hts inT_X12 hown hK hP 0 rfl rfl 0 (by decide) tf_X12_10 rfl dX12_waits_32 ?_
        refine lv_iload hx hb dX12_waits_35 (lv_at hl 5 rfl) ?_
        refine lv_iload hx hb dX12_waits_37 (lv_at hl 6 rfl) ?_
        refine lv_iadd hx hb dX12_waits_39 ?_
        refine lv_iconst (v := 0) hx hb dX12_waits_40 (by decide) ?_
        refine z_iast hx hb hK hP hD hS 1 rfl (fun z => w_X12_waits h_t r_t F_t cI z) (fun _ => rfl) dX12_waits_41 hf (fun a9 H locs hf hP hD hS => ?_)
        refine z_iinc (k0 := 6) (fun z => [(6, .int z), (0, .ref h_t), (1, .int p1), (2, .int p2), (3, .int p3), (4, .int p4), (5, .int x5)]) hx hb dX12_waits_42 hl rfl (by decide) (by decide) (fun _ => rfl) hf (fun v10 ls hf hl => ?_)
        refine lv_goto (tgt := 24) hx hb dX12_waits_45 (by decide) ?_
        exact ih24 x5 v10 a9 _ _ _ hf hP hD hS (lv_sub hl [1, 2, 3, 4, 5, 6, 0] rfl)
  refine lv_iload_n hx hb dX12_waits_0 rfl (lv_at hl 1 rfl) ?_
  refine lv_sipush (v := 616) hx hb dX12_waits_1 (by decide) ?_
  refine lv_iadd hx hb dX12_waits_4 ?_
  refine lv_bipush (v := 13) hx hb dX12_waits_5 (by decide) ?_
  refine lv_aload_n hx hb dX12_waits_7 rfl (lv_at hl 0 rfl) ?_
  refine z_get (ci := 12) (C := RX12) (T := TX12) (N := 51) (v := .ref (r_t 0)) hx hb hts inT_X12 hown hK hP 0 rfl rfl 0 (by decide) tf_X12_10 rfl dX12_waits_8 ?_
  refine lv_iload_n hx hb dX12_waits_11 rfl (lv_at hl 1 rfl) ?_
  refine lv_sipush (v := 777) hx hb dX12_waits_12 (by decide) ?_
  refine lv_iadd hx hb dX12_waits_15 ?_
  refine z_iald hx hb hK hP 1 rfl dX12_waits_16 hf (fun y1 hf => ?_)
  refine lv_imul hx hb dX12_waits_17 ?_
  refine lv_iadd hx hb dX12_waits_18 ?_
  refine z_istore (fun z => [(5, .int z), (0, .ref h_t), (1, .int p1), (2, .int p2), (3, .int p3), (4, .int p4)]) hx hb dX12_waits_19 hl (by decide) (fun _ => rfl) hf (fun v2 ls hf hl => ?_)
  refine lv_iconst (v := 0) hx hb dX12_waits_21 (by decide) ?_
  refine lv_istore (lv' := [(6, .int 0), (5, .int v2), (0, .ref h_t), (1, .int p1), (2, .int p2), (3, .int p3), (4, .int p4)]) hx hb dX12_waits_22 hl (by decide) rfl (fun ls hl => ?_)
  exact L24 fuelN v2 0 a_rows _ _ _ hf hP hD hS (lv_sub hl [2, 3, 4, 5, 6, 1, 0] rfl)
abbrev w_X12_isTold (cI : ClassId) : va_W := []
abbrev rm_X12_isTold : Room := { frames := 1, cells := 0, slots := 0, locals := 22 }
def m_X12_isTold (p0 : Int32) (p1 : Int32) (p2 : Int32) : Option (Int32) :=
  if p0 = 4 then (
  some 1)
  else (
  if p0 = 3 then (
  bd (m_X12_within p1 20 63) fun u4 =>
  if u4 = 0 then (
  some 0)
  else (
  bd (m_X12_within p2 0 99) fun u5 =>
  if u5 = 0 then (
  some 0)
  else (
  some 1)))
  else (
  bd (m_X12_within p1 0 3) fun u1 =>
  if u1 = 0 then (
  some 0)
  else (
  if p0 = 1 then (
  some 1)
  else (
  if p0 = 0 then (
  bd (m_X12_within p2 0 99) fun u3 =>
  if u3 = 0 then (
  some 0)
  else (
  some 1))
  else (
  bd (m_X12_within p2 0 3) fun u2 =>
  if u2 = 0 then (
  some 0)
  else (
  if p1 = p2 then (
  some 0)
  else (
  some 1)))))))
set_option maxHeartbeats 4000000 in
set_option maxRecDepth 100000 in
theorem c_X12_isTold (l : Launch) (D : va_G) (cI : ClassId) (p0 : Int32) (p1 : Int32) (p2 : Int32) (Rr : Int32) (hf : m_X12_isTold p0 p1 p2 = some Rr) : CTi l yX12_isTold (Cond.code yX12_isTold cX12_isTold 3 (some .boolean)) rm_X12_isTold D cI [.int p0, .int p1, .int p2] (w_X12_isTold cI) Rr (w_X12_isTold cI) := by
  refine z_begin_z (own := RX12) (ρ := Int32) (fun u => w_X12_isTold cI) (fun u => u) (by decide +kernel) rfl (Nat.le_of_ble_eq_true rfl) ?_
  intro p e s m args below meth c ls Q A hx hb hml hts hcx hown hK hX hA hP hD hS hl hret
  have hl : lv_has ls 3 [(0, .int p0), (1, .int p1), (2, .int p2)] := hl
  have hf := (m_X12_isTold.eq_1 _ _ _).symm.trans hf
  refine lv_iload_n hx hb dX12_isTold_0 rfl (lv_at hl 0 rfl) ?_
  refine lv_iconst (v := 4) hx hb dX12_isTold_1 (by decide) ?_
  refine z_icmp_ne (tgt := 7) hx hb dX12_isTold_2 (by decide) hf (fun hf => ?_) (fun hf => ?_)
  · refine lv_iload_n hx hb dX12_isTold_7 rfl (lv_at hl 0 rfl) ?_
    refine lv_iconst (v := 3) hx hb dX12_isTold_8 (by decide) ?_
    refine z_icmp_ne (tgt := 39) hx hb dX12_isTold_9 (by decide) hf (fun hf => ?_) (fun hf => ?_)
    · refine lv_iload_n hx hb dX12_isTold_39 rfl (lv_at hl 1 rfl) ?_
      refine lv_iconst (v := 0) hx hb dX12_isTold_40 (by decide) ?_
      refine lv_iconst (v := 3) hx hb dX12_isTold_41 (by decide) ?_
      obtain ⟨u1, hu1, hf⟩ := bd_some hf
      refine z_ci (ws1 := w_X12_isTold cI) (wr := List.filterMap (fun i : Nat => (w_X12_isTold cI)[i]?) []) (z_rS (rest := []) hx hb hml hown hcx hl.1 (c_X12_within l D cI p1 0 3 u1 hu1 _) tl_X12_172 ts_X12_within tn_X12 tc_X12_within tm_X12_within rfl rfl ⟨Nat.le_of_ble_eq_true rfl, Nat.le_of_ble_eq_true rfl⟩ hK hX hS hA hP hD [] rfl rfl rfl rfl (Nat.le_of_ble_eq_true rfl) dX12_isTold_42 ⟨Nat.zero_le _, Nat.zero_le _⟩) hP hD hS hA [] [] [] rfl rfl rfl (by decide) rfl rfl (fun H locs hP hD hS => ?_)
      refine z_if_ne (tgt := 50) hx hb dX12_isTold_45 (by decide) hf (fun hf => ?_) (fun hf => ?_)
      · refine lv_iload_n hx hb dX12_isTold_50 rfl (lv_at hl 0 rfl) ?_
        refine lv_iconst (v := 1) hx hb dX12_isTold_51 (by decide) ?_
        refine z_icmp_eq (tgt := 86) hx hb dX12_isTold_52 (by decide) hf (fun hf => ?_) (fun hf => ?_)
        · refine lv_iconst (v := 1) hx hb dX12_isTold_86 (by decide) ?_
          refine lv_goto (tgt := 91) hx hb dX12_isTold_87 (by decide) ?_
          exact hret 1 _ _ _ _ (Or.inr rfl) hf hP hD hS dX12_isTold_91
        · refine lv_iload_n hx hb dX12_isTold_55 rfl (lv_at hl 0 rfl) ?_
          refine z_if_ne (tgt := 72) hx hb dX12_isTold_56 (by decide) hf (fun hf => ?_) (fun hf => ?_)
          · refine lv_iload_n hx hb dX12_isTold_72 rfl (lv_at hl 2 rfl) ?_
            refine lv_iconst (v := 0) hx hb dX12_isTold_73 (by decide) ?_
            refine lv_iconst (v := 3) hx hb dX12_isTold_74 (by decide) ?_
            obtain ⟨u2, hu2, hf⟩ := bd_some hf
            refine z_ci (ws1 := w_X12_isTold cI) (wr := List.filterMap (fun i : Nat => (w_X12_isTold cI)[i]?) []) (z_rS (rest := []) hx hb hml hown hcx hl.1 (c_X12_within l D cI p2 0 3 u2 hu2 _) tl_X12_172 ts_X12_within tn_X12 tc_X12_within tm_X12_within rfl rfl ⟨Nat.le_of_ble_eq_true rfl, Nat.le_of_ble_eq_true rfl⟩ hK hX hS hA hP hD [] rfl rfl rfl rfl (Nat.le_of_ble_eq_true rfl) dX12_isTold_75 ⟨Nat.zero_le _, Nat.zero_le _⟩) hP hD hS hA [] [] [] rfl rfl rfl (by decide) rfl rfl (fun H locs hP hD hS => ?_)
            refine z_if_eq (tgt := 90) hx hb dX12_isTold_78 (by decide) hf (fun hf => ?_) (fun hf => ?_)
            · refine lv_iconst (v := 0) hx hb dX12_isTold_90 (by decide) ?_
              exact hret 0 _ _ _ _ (Or.inl rfl) hf hP hD hS dX12_isTold_91
            · refine lv_iload_n hx hb dX12_isTold_81 rfl (lv_at hl 1 rfl) ?_
              refine lv_iload_n hx hb dX12_isTold_82 rfl (lv_at hl 2 rfl) ?_
              refine z_icmp_eq (tgt := 90) hx hb dX12_isTold_83 (by decide) hf (fun hf => ?_) (fun hf => ?_)
              · refine lv_iconst (v := 0) hx hb dX12_isTold_90 (by decide) ?_
                exact hret 0 _ _ _ _ (Or.inl rfl) hf hP hD hS dX12_isTold_91
              · refine lv_iconst (v := 1) hx hb dX12_isTold_86 (by decide) ?_
                refine lv_goto (tgt := 91) hx hb dX12_isTold_87 (by decide) ?_
                exact hret 1 _ _ _ _ (Or.inr rfl) hf hP hD hS dX12_isTold_91
          · refine lv_iload_n hx hb dX12_isTold_59 rfl (lv_at hl 2 rfl) ?_
            refine lv_iconst (v := 0) hx hb dX12_isTold_60 (by decide) ?_
            refine lv_bipush (v := 99) hx hb dX12_isTold_61 (by decide) ?_
            obtain ⟨u3, hu3, hf⟩ := bd_some hf
            refine z_ci (ws1 := w_X12_isTold cI) (wr := List.filterMap (fun i : Nat => (w_X12_isTold cI)[i]?) []) (z_rS (rest := []) hx hb hml hown hcx hl.1 (c_X12_within l D cI p2 0 99 u3 hu3 _) tl_X12_172 ts_X12_within tn_X12 tc_X12_within tm_X12_within rfl rfl ⟨Nat.le_of_ble_eq_true rfl, Nat.le_of_ble_eq_true rfl⟩ hK hX hS hA hP hD [] rfl rfl rfl rfl (Nat.le_of_ble_eq_true rfl) dX12_isTold_63 ⟨Nat.zero_le _, Nat.zero_le _⟩) hP hD hS hA [] [] [] rfl rfl rfl (by decide) rfl rfl (fun H locs hP hD hS => ?_)
            refine z_if_eq (tgt := 90) hx hb dX12_isTold_66 (by decide) hf (fun hf => ?_) (fun hf => ?_)
            · refine lv_iconst (v := 0) hx hb dX12_isTold_90 (by decide) ?_
              exact hret 0 _ _ _ _ (Or.inl rfl) hf hP hD hS dX12_isTold_91
            · refine lv_goto (tgt := 86) hx hb dX12_isTold_69 (by decide) ?_
              refine lv_iconst (v := 1) hx hb dX12_isTold_86 (by decide) ?_
              refine lv_goto (tgt := 91) hx hb dX12_isTold_87 (by decide) ?_
              exact hret 1 _ _ _ _ (Or.inr rfl) hf hP hD hS dX12_isTold_91
      · refine lv_iconst (v := 0) hx hb dX12_isTold_48 (by decide) ?_
        exact hret 0 _ _ _ _ (Or.inl rfl) hf hP hD hS dX12_isTold_49
    · refine lv_iload_n hx hb dX12_isTold_12 rfl (lv_at hl 1 rfl) ?_
      refine lv_bipush (v := 20) hx hb dX12_isTold_13 (by decide) ?_
      refine lv_bipush (v := 63) hx hb dX12_isTold_15 (by decide) ?_
      obtain ⟨u4, hu4, hf⟩ := bd_some hf
      refine z_ci (ws1 := w_X12_isTold cI) (wr := List.filterMap (fun i : Nat => (w_X12_isTold cI)[i]?) []) (z_rS (rest := []) hx hb hml hown hcx hl.1 (c_X12_within l D cI p1 20 63 u4 hu4 _) tl_X12_172 ts_X12_within tn_X12 tc_X12_within tm_X12_within rfl rfl ⟨Nat.le_of_ble_eq_true rfl, Nat.le_of_ble_eq_true rfl⟩ hK hX hS hA hP hD [] rfl rfl rfl rfl (Nat.le_of_ble_eq_true rfl) dX12_isTold_17 ⟨Nat.zero_le _, Nat.zero_le _⟩) hP hD hS hA [] [] [] rfl rfl rfl (by decide) rfl rfl (fun H locs hP hD hS => ?_)
      refine z_if_eq (tgt := 37) hx hb dX12_isTold_20 (by decide) hf (fun hf => ?_) (fun hf => ?_)
      · refine lv_iconst (v := 0) hx hb dX12_isTold_37 (by decide) ?_
        exact hret 0 _ _ _ _ (Or.inl rfl) hf hP hD hS dX12_isTold_38
      · refine lv_iload_n hx hb dX12_isTold_23 rfl (lv_at hl 2 rfl) ?_
        refine lv_iconst (v := 0) hx hb dX12_isTold_24 (by decide) ?_
        refine lv_bipush (v := 99) hx hb dX12_isTold_25 (by decide) ?_
        obtain ⟨u5, hu5, hf⟩ := bd_some hf
        refine z_ci (ws1 := w_X12_isTold cI) (wr := List.filterMap (fun i : Nat => (w_X12_isTold cI)[i]?) []) (z_rS (rest := []) hx hb hml hown hcx hl.1 (c_X12_within l D cI p2 0 99 u5 hu5 _) tl_X12_172 ts_X12_within tn_X12 tc_X12_within tm_X12_within rfl rfl ⟨Nat.le_of_ble_eq_true rfl, Nat.le_of_ble_eq_true rfl⟩ hK hX hS hA hP hD [] rfl rfl rfl rfl (Nat.le_of_ble_eq_true rfl) dX12_isTold_27 ⟨Nat.zero_le _, Nat.zero_le _⟩) hP hD hS hA [] [] [] rfl rfl rfl (by decide) rfl rfl (fun H locs hP hD hS => ?_)
        refine z_if_eq (tgt := 37) hx hb dX12_isTold_30 (by decide) hf (fun hf => ?_) (fun hf => ?_)
        · refine lv_iconst (v := 0) hx hb dX12_isTold_37 (by decide) ?_
          exact hret 0 _ _ _ _ (Or.inl rfl) hf hP hD hS dX12_isTold_38
        · refine lv_iconst (v := 1) hx hb dX12_isTold_33 (by decide) ?_
          refine lv_goto (tgt := 38) hx hb dX12_isTold_34 (by decide) ?_
          exact hret 1 _ _ _ _ (Or.inr rfl) hf hP hD hS dX12_isTold_38
  · refine lv_iconst (v := 1) hx hb dX12_isTold_5 (by decide) ?_
    exact hret 1 _ _ _ _ (Or.inr rfl) hf hP hD hS dX12_isTold_6
abbrev w_X12_later (h_t : Nat) (r_t : Nat → Nat) (F_t : Nat → Int32) (cI : ClassId) (a_rows : Nat → Int32) (a_refused : Nat → Int32) : va_W := [(h_t, .inr (12, o_X12 r_t F_t)), ((r_t 0), .inl (cI, 66100, .inl a_rows)), ((r_t 3), .inl (cI, 6, .inl a_refused))]
abbrev rm_X12_later : Room := { frames := 2, cells := 0, slots := 0, locals := 45 }
def m_X12_later_j43 (p1 : Int32) (p2 : Int32) (p3 : Int32) (F_t : Nat → Int32) (a_rows : Nat → Int32) (a_refused : Nat → Int32) : Option (Int32 × (Nat → Int32) × (Nat → Int32) × (Nat → Int32)) :=
  bd (m_X12_refuses a_refused 1) fun u5 =>
  some (u5.1, F_t, a_rows, u5.2)
def m_X12_later (F_t : Nat → Int32) (a_rows : Nat → Int32) (a_refused : Nat → Int32) (p1 : Int32) (p2 : Int32) (p3 : Int32) : Option (Int32 × (Nat → Int32) × (Nat → Int32) × (Nat → Int32)) :=
  nm (upd F_t 4 0) fun F1 =>
  bd (m_X12_within p1 0 4) fun u2 =>
  bd (m_X12_right F1 u2 1) fun u3 =>
  if u3.1 = 0 then (
  some (0, u3.2, a_rows, a_refused))
  else (
  rd a_rows 66100 777 fun y4 =>
  if y4 = 12 then (
  m_X12_later_j43 p1 p2 p3 u3.2 a_rows a_refused)
  else (
  bd (m_X12_isTold p1 p2 p3) fun u6 =>
  if u6 = 0 then (
  m_X12_later_j43 p1 p2 p3 u3.2 a_rows a_refused)
  else (
  bd (m_X12_tries a_rows) fun u7 =>
  bd (m_X12_waits u7 786 p1 p2 p3) fun u8 =>
  rd u8 66100 1563 fun y9 =>
  bd (m_X12_isDone u3.2 u8 a_refused y9) fun u10 =>
  some (u10.1, u10.2.1, u10.2.2.1, u10.2.2.2))))
set_option maxHeartbeats 4000000 in
set_option maxRecDepth 100000 in
theorem c_X12_later (l : Launch) (D : va_G) (cI : ClassId) (h_t : Nat) (r_t : Nat → Nat) (F_t : Nat → Int32) (a_rows : Nat → Int32) (a_refused : Nat → Int32) (p1 : Int32) (p2 : Int32) (p3 : Int32) (Rr : Int32 × (Nat → Int32) × (Nat → Int32) × (Nat → Int32)) (hf : m_X12_later F_t a_rows a_refused p1 p2 p3 = some Rr) : CTi l yX12_later (Cond.code yX12_later cX12_later 4 (some .int)) rm_X12_later D cI [.ref h_t, .int p1, .int p2, .int p3] (w_X12_later h_t r_t F_t cI a_rows a_refused) Rr.1 (w_X12_later h_t r_t Rr.2.1 cI Rr.2.2.1 Rr.2.2.2) := by
  refine z_begin_i (own := RX12) (ρ := Int32 × (Nat → Int32) × (Nat → Int32) × (Nat → Int32)) (fun u => w_X12_later h_t r_t u.2.1 cI u.2.2.1 u.2.2.2) (fun u => u.1) (by decide +kernel) rfl (Nat.le_of_ble_eq_true rfl) ?_
  intro p e s m args below meth c ls Q A hx hb hml hts hcx hown hK hX hA hP hD hS hl hret
  have hl : lv_has ls 4 [(0, .ref h_t), (1, .int p1), (2, .int p2), (3, .int p3)] := hl
  have hf := (m_X12_later.eq_1 _ _ _ _ _ _).symm.trans hf
  have L43 : ∀ (F_t : Nat → Int32) (a_rows : Nat → Int32) (a_refused : Nat → Int32) (H : Heap) (locs : List Loc) (ls : Array Slot), m_X12_later_j43 p1 p2 p3 F_t a_rows a_refused = some Rr → va_P D vwCl (w_X12_later h_t r_t F_t cI a_rows a_refused) H → va_D A (w_X12_later h_t r_t F_t cI a_rows a_refused) → va_S A s.heap H locs → lv_has ls 4 [(0, .ref h_t)] → W p l e rm_X12_later s m args below meth c H locs 0 0 Q (F0 m 43 ls []) := by
    intro F_t a_rows a_refused H locs ls hf hP hD hS hl
    have hf := (m_X12_later_j43.eq_1 _ _ _ _ _ _).symm.trans hf
    refine lv_aload_n hx hb dX12_later_43 rfl (lv_at hl 0 rfl) ?_
    refine lv_iconst (v := 1) hx hb dX12_later_44 (by decide) ?_
    obtain ⟨u5, hu5, hf⟩ := bd_some hf
    refine z_ci (ws1 := w_X12_later h_t r_t F_t cI a_rows u5.2) (wr := List.filterMap (fun i : Nat => (w_X12_later h_t r_t F_t cI a_rows a_refused)[i]?) [1]) (z_rV (rest := []) hx hb hml hown hcx hl.1 (c_X12_refuses l D cI h_t r_t F_t a_refused 1 u5 hu5 _) tl_X12_345 ti_X12_refuses tz_X12_refuses tn_X12 tc_X12_refuses tm_X12_refuses rfl rfl ⟨Nat.le_of_ble_eq_true rfl, Nat.le_of_ble_eq_true rfl⟩ hK hX hS hA hP hD [0, 2] rfl rfl 0 rfl rfl rfl rfl (Nat.le_of_ble_eq_true rfl) dX12_later_45 ⟨Nat.zero_le _, Nat.zero_le _⟩) hP hD hS hA [0, 2] [1] [1, 0, 2] rfl rfl rfl (by decide) rfl rfl (fun H locs hP hD hS => ?_)
    exact hret (u5.1, F_t, a_rows, u5.2) _ _ _ _ hf hP hD hS dX12_later_48
  refine lv_aload_n hx hb dX12_later_0 rfl (lv_at hl 0 rfl) ?_
  refine lv_iconst (v := 0) hx hb dX12_later_1 (by decide) ?_
  refine z_put (ci := 12) (C := RX12) (T := TX12) (N := 51) hx hb hts inT_X12 tyX12 tyX12_ok nmX12 hown hK hP hD hS 0 rfl rfl 4 (by decide) tf_X12_63 rfl (by decide +kernel) (Nat.le_of_ble_eq_true rfl) (o_X12 r_t) (o_X12_s4 _ _ _) (fun z => w_X12_later h_t r_t z cI a_rows a_refused) (fun _ => rfl) dX12_later_2 hf (fun F1 H locs hf hP hD hS => ?_)
  refine lv_aload_n hx hb dX12_later_5 rfl (lv_at hl 0 rfl) ?_
  refine lv_iload_n hx hb dX12_later_6 rfl (lv_at hl 1 rfl) ?_
  refine lv_iconst (v := 0) hx hb dX12_later_7 (by decide) ?_
  refine lv_iconst (v := 4) hx hb dX12_later_8 (by decide) ?_
  obtain ⟨u2, hu2, hf⟩ := bd_some hf
  refine z_ci (ws1 := w_X12_later h_t r_t F1 cI a_rows a_refused) (wr := List.filterMap (fun i : Nat => (w_X12_later h_t r_t F1 cI a_rows a_refused)[i]?) [0, 1, 2]) (z_rS (rest := [.ref h_t]) hx hb hml hown hcx hl.1 (c_X12_within l D cI p1 0 4 u2 hu2 _) tl_X12_172 ts_X12_within tn_X12 tc_X12_within tm_X12_within rfl rfl ⟨Nat.le_of_ble_eq_true rfl, Nat.le_of_ble_eq_true rfl⟩ hK hX hS hA hP hD [] rfl rfl rfl rfl (Nat.le_of_ble_eq_true rfl) dX12_later_9 ⟨Nat.zero_le _, Nat.zero_le _⟩) hP hD hS hA [] [0, 1, 2] [0, 1, 2] rfl rfl rfl (by decide) rfl rfl (fun H locs hP hD hS => ?_)
  refine lv_iconst (v := 1) hx hb dX12_later_12 (by decide) ?_
  obtain ⟨u3, hu3, hf⟩ := bd_some hf
  refine z_ci (ws1 := w_X12_later h_t r_t u3.2 cI a_rows a_refused) (wr := List.filterMap (fun i : Nat => (w_X12_later h_t r_t F1 cI a_rows a_refused)[i]?) [1, 2]) (z_rV (rest := []) hx hb hml hown hcx hl.1 (c_X12_right l D cI h_t r_t F1 u2 1 u3 hu3 _) tl_X12_321 ti_X12_right tz_X12_right tn_X12 tc_X12_right tm_X12_right rfl rfl ⟨Nat.le_of_ble_eq_true rfl, Nat.le_of_ble_eq_true rfl⟩ hK hX hS hA hP hD [0] rfl rfl 0 rfl rfl rfl rfl (Nat.le_of_ble_eq_true rfl) dX12_later_13 ⟨Nat.zero_le _, Nat.zero_le _⟩) hP hD hS hA [0] [1, 2] [2, 0, 1] rfl rfl rfl (by decide) rfl rfl (fun H locs hP hD hS => ?_)
  refine z_if_ne (tgt := 21) hx hb dX12_later_16 (by decide) hf (fun hf => ?_) (fun hf => ?_)
  · refine lv_aload_n hx hb dX12_later_21 rfl (lv_at hl 0 rfl) ?_
    refine z_get (ci := 12) (C := RX12) (T := TX12) (N := 51) (v := .ref (r_t 0)) hx hb hts inT_X12 hown hK hP 0 rfl rfl 0 (by decide) tf_X12_10 rfl dX12_later_22 ?_
    refine lv_sipush (v := 777) hx hb dX12_later_25 (by decide) ?_
    refine z_iald hx hb hK hP 1 rfl dX12_later_28 hf (fun y4 hf => ?_)
    refine lv_bipush (v := 12) hx hb dX12_later_29 (by decide) ?_
    refine z_icmp_eq (tgt := 43) hx hb dX12_later_31 (by decide) hf (fun hf => ?_) (fun hf => ?_)
    · exact L43 u3.2 a_rows a_refused _ _ _ hf hP hD hS (lv_sub hl [0] rfl)
    · refine lv_iload_n hx hb dX12_later_34 rfl (lv_at hl 1 rfl) ?_
      refine lv_iload_n hx hb dX12_later_35 rfl (lv_at hl 2 rfl) ?_
      refine lv_iload_n hx hb dX12_later_36 rfl (lv_at hl 3 rfl) ?_
      obtain ⟨u6, hu6, hf⟩ := bd_some hf
      refine z_ci (ws1 := w_X12_later h_t r_t u3.2 cI a_rows a_refused) (wr := List.filterMap (fun i : Nat => (w_X12_later h_t r_t u3.2 cI a_rows a_refused)[i]?) [0, 1, 2]) (z_rS (rest := []) hx hb hml hown hcx hl.1 (c_X12_isTold l D cI p1 p2 p3 u6 hu6 _) tl_X12_366 ts_X12_isTold tn_X12 tc_X12_isTold tm_X12_isTold rfl rfl ⟨Nat.le_of_ble_eq_true rfl, Nat.le_of_ble_eq_true rfl⟩ hK hX hS hA hP hD [] rfl rfl rfl rfl (Nat.le_of_ble_eq_true rfl) dX12_later_37 ⟨Nat.zero_le _, Nat.zero_le _⟩) hP hD hS hA [] [0, 1, 2] [0, 1, 2] rfl rfl rfl (by decide) rfl rfl (fun H locs hP hD hS => ?_)
      refine z_if_ne (tgt := 49) hx hb dX12_later_40 (by decide) hf (fun hf => ?_) (fun hf => ?_)
      · refine lv_aload_n hx hb dX12_later_49 rfl (lv_at hl 0 rfl) ?_
        obtain ⟨u7, hu7, hf⟩ := bd_some hf
        refine z_cv (ws1 := w_X12_later h_t r_t u3.2 cI u7 a_refused) (wr := List.filterMap (fun i : Nat => (w_X12_later h_t r_t u3.2 cI a_rows a_refused)[i]?) [2]) (z_rV (rest := []) hx hb hml hown hcx hl.1 (c_X12_tries l D cI h_t r_t u3.2 a_rows u7 hu7 _) tl_X12_218 ti_X12_tries tz_X12_tries tn_X12 tc_X12_tries tm_X12_tries rfl rfl ⟨Nat.le_of_ble_eq_true rfl, Nat.le_of_ble_eq_true rfl⟩ hK hX hS hA hP hD [0, 1] rfl rfl 0 rfl rfl rfl rfl (Nat.le_of_ble_eq_true rfl) dX12_later_50 ⟨Nat.zero_le _, Nat.zero_le _⟩) hP hD hS hA [0, 1] [2] [1, 2, 0] rfl rfl rfl (by decide) rfl rfl (fun H locs hP hD hS => ?_)
        refine lv_aload_n hx hb dX12_later_53 rfl (lv_at hl 0 rfl) ?_
        refine lv_sipush (v := 786) hx hb dX12_later_54 (by decide) ?_
        refine lv_iload_n hx hb dX12_later_57 rfl (lv_at hl 1 rfl) ?_
        refine lv_iload_n hx hb dX12_later_58 rfl (lv_at hl 2 rfl) ?_
        refine lv_iload_n hx hb dX12_later_59 rfl (lv_at hl 3 rfl) ?_
        obtain ⟨u8, hu8, hf⟩ := bd_some hf
        refine z_cv (ws1 := w_X12_later h_t r_t u3.2 cI u8 a_refused) (wr := List.filterMap (fun i : Nat => (w_X12_later h_t r_t u3.2 cI u7 a_refused)[i]?) [2]) (z_rV (rest := []) hx hb hml hown hcx hl.1 (c_X12_waits l D cI h_t r_t u3.2 u7 786 p1 p2 p3 u8 hu8 _) tl_X12_369 ti_X12_waits tz_X12_waits tn_X12 tc_X12_waits tm_X12_waits rfl rfl ⟨Nat.le_of_ble_eq_true rfl, Nat.le_of_ble_eq_true rfl⟩ hK hX hS hA hP hD [0, 1] rfl rfl 0 rfl rfl rfl rfl (Nat.le_of_ble_eq_true rfl) dX12_later_60 ⟨Nat.zero_le _, Nat.zero_le _⟩) hP hD hS hA [0, 1] [2] [1, 2, 0] rfl rfl rfl (by decide) rfl rfl (fun H locs hP hD hS => ?_)
        refine lv_aload_n hx hb dX12_later_63 rfl (lv_at hl 0 rfl) ?_
        refine lv_aload_n hx hb dX12_later_64 rfl (lv_at hl 0 rfl) ?_
        refine z_get (ci := 12) (C := RX12) (T := TX12) (N := 51) (v := .ref (r_t 0)) hx hb hts inT_X12 hown hK hP 0 rfl rfl 0 (by decide) tf_X12_10 rfl dX12_later_65 ?_
        refine lv_sipush (v := 1563) hx hb dX12_later_68 (by decide) ?_
        refine z_iald hx hb hK hP 1 rfl dX12_later_71 hf (fun y9 hf => ?_)
        obtain ⟨u10, hu10, hf⟩ := bd_some hf
        refine z_ci (ws1 := w_X12_later h_t r_t u10.2.1 cI u10.2.2.1 u10.2.2.2) (wr := List.filterMap (fun i : Nat => (w_X12_later h_t r_t u3.2 cI u8 a_refused)[i]?) []) (z_rV (rest := []) hx hb hml hown hcx hl.1 (c_X12_isDone l D cI h_t r_t u3.2 u8 a_refused y9 u10 hu10 _) tl_X12_354 ti_X12_isDone tz_X12_isDone tn_X12 tc_X12_isDone tm_X12_isDone rfl rfl ⟨Nat.le_of_ble_eq_true rfl, Nat.le_of_ble_eq_true rfl⟩ hK hX hS hA hP hD [0, 1, 2] rfl rfl 0 rfl rfl rfl rfl (Nat.le_of_ble_eq_true rfl) dX12_later_72 ⟨Nat.zero_le _, Nat.zero_le _⟩) hP hD hS hA [0, 1, 2] [] [0, 1, 2] rfl rfl rfl (by decide) rfl rfl (fun H locs hP hD hS => ?_)
        exact hret (u10.1, u10.2.1, u10.2.2.1, u10.2.2.2) _ _ _ _ hf hP hD hS dX12_later_75
      · exact L43 u3.2 a_rows a_refused _ _ _ hf hP hD hS (lv_sub hl [0] rfl)
  · refine lv_iconst (v := 0) hx hb dX12_later_19 (by decide) ?_
    exact hret (0, u3.2, a_rows, a_refused) _ _ _ _ hf hP hD hS dX12_later_20
abbrev w_X12_site (h_t : Nat) (r_t : Nat → Nat) (F_t : Nat → Int32) (cI : ClassId) (a_rows : Nat → Int32) (a_refused : Nat → Int32) : va_W := [(h_t, .inr (12, o_X12 r_t F_t)), ((r_t 0), .inl (cI, 66100, .inl a_rows)), ((r_t 3), .inl (cI, 6, .inl a_refused))]
abbrev rm_X12_site : Room := { frames := 2, cells := 0, slots := 0, locals := 45 }
def m_X12_site (F_t : Nat → Int32) (a_rows : Nat → Int32) (a_refused : Nat → Int32) (p1 : Int32) : Option (Int32 × (Nat → Int32) × (Nat → Int32) × (Nat → Int32)) :=
  nm (upd F_t 4 0) fun F1 =>
  bd (m_X12_within p1 0 6) fun u2 =>
  bd (m_X12_right F1 u2 1) fun u3 =>
  if u3.1 = 0 then (
  some (0, u3.2, a_rows, a_refused))
  else (
  bd (m_X12_tries a_rows) fun u4 =>
  rd u4 66100 1559 fun y5 =>
  wr u4 66100 1559 (y5 ^^^ ((1 : Int32) <<< (p1 &&& 31))) fun a6 =>
  rd a6 66100 1559 fun y7 =>
  bd (m_X12_isDone u3.2 a6 a_refused y7) fun u8 =>
  some (u8.1, u8.2.1, u8.2.2.1, u8.2.2.2))
set_option maxHeartbeats 4000000 in
set_option maxRecDepth 100000 in
theorem c_X12_site (l : Launch) (D : va_G) (cI : ClassId) (h_t : Nat) (r_t : Nat → Nat) (F_t : Nat → Int32) (a_rows : Nat → Int32) (a_refused : Nat → Int32) (p1 : Int32) (Rr : Int32 × (Nat → Int32) × (Nat → Int32) × (Nat → Int32)) (hf : m_X12_site F_t a_rows a_refused p1 = some Rr) : CTi l yX12_site (Cond.code yX12_site cX12_site 2 (some .int)) rm_X12_site D cI [.ref h_t, .int p1] (w_X12_site h_t r_t F_t cI a_rows a_refused) Rr.1 (w_X12_site h_t r_t Rr.2.1 cI Rr.2.2.1 Rr.2.2.2) := by
  refine z_begin_i (own := RX12) (ρ := Int32 × (Nat → Int32) × (Nat → Int32) × (Nat → Int32)) (fun u => w_X12_site h_t r_t u.2.1 cI u.2.2.1 u.2.2.2) (fun u => u.1) (by decide +kernel) rfl (Nat.le_of_ble_eq_true rfl) ?_
  intro p e s m args below meth c ls Q A hx hb hml hts hcx hown hK hX hA hP hD hS hl hret
  have hl : lv_has ls 2 [(0, .ref h_t), (1, .int p1)] := hl
  have hf := (m_X12_site.eq_1 _ _ _ _).symm.trans hf
  refine lv_aload_n hx hb dX12_site_0 rfl (lv_at hl 0 rfl) ?_
  refine lv_iconst (v := 0) hx hb dX12_site_1 (by decide) ?_
  refine z_put (ci := 12) (C := RX12) (T := TX12) (N := 51) hx hb hts inT_X12 tyX12 tyX12_ok nmX12 hown hK hP hD hS 0 rfl rfl 4 (by decide) tf_X12_63 rfl (by decide +kernel) (Nat.le_of_ble_eq_true rfl) (o_X12 r_t) (o_X12_s4 _ _ _) (fun z => w_X12_site h_t r_t z cI a_rows a_refused) (fun _ => rfl) dX12_site_2 hf (fun F1 H locs hf hP hD hS => ?_)
  refine lv_aload_n hx hb dX12_site_5 rfl (lv_at hl 0 rfl) ?_
  refine lv_iload_n hx hb dX12_site_6 rfl (lv_at hl 1 rfl) ?_
  refine lv_iconst (v := 0) hx hb dX12_site_7 (by decide) ?_
  refine lv_bipush (v := 6) hx hb dX12_site_8 (by decide) ?_
  obtain ⟨u2, hu2, hf⟩ := bd_some hf
  refine z_ci (ws1 := w_X12_site h_t r_t F1 cI a_rows a_refused) (wr := List.filterMap (fun i : Nat => (w_X12_site h_t r_t F1 cI a_rows a_refused)[i]?) [0, 1, 2]) (z_rS (rest := [.ref h_t]) hx hb hml hown hcx hl.1 (c_X12_within l D cI p1 0 6 u2 hu2 _) tl_X12_172 ts_X12_within tn_X12 tc_X12_within tm_X12_within rfl rfl ⟨Nat.le_of_ble_eq_true rfl, Nat.le_of_ble_eq_true rfl⟩ hK hX hS hA hP hD [] rfl rfl rfl rfl (Nat.le_of_ble_eq_true rfl) dX12_site_10 ⟨Nat.zero_le _, Nat.zero_le _⟩) hP hD hS hA [] [0, 1, 2] [0, 1, 2] rfl rfl rfl (by decide) rfl rfl (fun H locs hP hD hS => ?_)
  refine lv_iconst (v := 1) hx hb dX12_site_13 (by decide) ?_
  obtain ⟨u3, hu3, hf⟩ := bd_some hf
  refine z_ci (ws1 := w_X12_site h_t r_t u3.2 cI a_rows a_refused) (wr := List.filterMap (fun i : Nat => (w_X12_site h_t r_t F1 cI a_rows a_refused)[i]?) [1, 2]) (z_rV (rest := []) hx hb hml hown hcx hl.1 (c_X12_right l D cI h_t r_t F1 u2 1 u3 hu3 _) tl_X12_321 ti_X12_right tz_X12_right tn_X12 tc_X12_right tm_X12_right rfl rfl ⟨Nat.le_of_ble_eq_true rfl, Nat.le_of_ble_eq_true rfl⟩ hK hX hS hA hP hD [0] rfl rfl 0 rfl rfl rfl rfl (Nat.le_of_ble_eq_true rfl) dX12_site_14 ⟨Nat.zero_le _, Nat.zero_le _⟩) hP hD hS hA [0] [1, 2] [2, 0, 1] rfl rfl rfl (by decide) rfl rfl (fun H locs hP hD hS => ?_)
  refine z_if_ne (tgt := 22) hx hb dX12_site_17 (by decide) hf (fun hf => ?_) (fun hf => ?_)
  · refine lv_aload_n hx hb dX12_site_22 rfl (lv_at hl 0 rfl) ?_
    obtain ⟨u4, hu4, hf⟩ := bd_some hf
    refine z_cv (ws1 := w_X12_site h_t r_t u3.2 cI u4 a_refused) (wr := List.filterMap (fun i : Nat => (w_X12_site h_t r_t u3.2 cI a_rows a_refused)[i]?) [2]) (z_rV (rest := []) hx hb hml hown hcx hl.1 (c_X12_tries l D cI h_t r_t u3.2 a_rows u4 hu4 _) tl_X12_218 ti_X12_tries tz_X12_tries tn_X12 tc_X12_tries tm_X12_tries rfl rfl ⟨Nat.le_of_ble_eq_true rfl, Nat.le_of_ble_eq_true rfl⟩ hK hX hS hA hP hD [0, 1] rfl rfl 0 rfl rfl rfl rfl (Nat.le_of_ble_eq_true rfl) dX12_site_23 ⟨Nat.zero_le _, Nat.zero_le _⟩) hP hD hS hA [0, 1] [2] [1, 2, 0] rfl rfl rfl (by decide) rfl rfl (fun H locs hP hD hS => ?_)
    refine lv_aload_n hx hb dX12_site_26 rfl (lv_at hl 0 rfl) ?_
    refine z_get (ci := 12) (C := RX12) (T := TX12) (N := 51) (v := .ref (r_t 0)) hx hb hts inT_X12 hown hK hP 0 rfl rfl 0 (by decide) tf_X12_10 rfl dX12_site_27 ?_
    refine lv_sipush (v := 1559) hx hb dX12_site_30 (by decide) ?_
    refine lv_dup2_11 hx hb dX12_site_33 rfl rfl ?_
    refine z_iald hx hb hK hP 1 rfl dX12_site_34 hf (fun y5 hf => ?_)
    refine lv_iconst (v := 1) hx hb dX12_site_35 (by decide) ?_
    refine lv_iload_n hx hb dX12_site_36 rfl (lv_at hl 1 rfl) ?_
    refine lv_ishl hx hb dX12_site_37 ?_
    refine lv_ixor hx hb dX12_site_38 ?_
    refine z_iast hx hb hK hP hD hS 1 rfl (fun z => w_X12_site h_t r_t u3.2 cI z a_refused) (fun _ => rfl) dX12_site_39 hf (fun a6 H locs hf hP hD hS => ?_)
    refine lv_aload_n hx hb dX12_site_40 rfl (lv_at hl 0 rfl) ?_
    refine lv_aload_n hx hb dX12_site_41 rfl (lv_at hl 0 rfl) ?_
    refine z_get (ci := 12) (C := RX12) (T := TX12) (N := 51) (v := .ref (r_t 0)) hx hb hts inT_X12 hown hK hP 0 rfl rfl 0 (by decide) tf_X12_10 rfl dX12_site_42 ?_
    refine lv_sipush (v := 1559) hx hb dX12_site_45 (by decide) ?_
    refine z_iald hx hb hK hP 1 rfl dX12_site_48 hf (fun y7 hf => ?_)
    obtain ⟨u8, hu8, hf⟩ := bd_some hf
    refine z_ci (ws1 := w_X12_site h_t r_t u8.2.1 cI u8.2.2.1 u8.2.2.2) (wr := List.filterMap (fun i : Nat => (w_X12_site h_t r_t u3.2 cI a6 a_refused)[i]?) []) (z_rV (rest := []) hx hb hml hown hcx hl.1 (c_X12_isDone l D cI h_t r_t u3.2 a6 a_refused y7 u8 hu8 _) tl_X12_354 ti_X12_isDone tz_X12_isDone tn_X12 tc_X12_isDone tm_X12_isDone rfl rfl ⟨Nat.le_of_ble_eq_true rfl, Nat.le_of_ble_eq_true rfl⟩ hK hX hS hA hP hD [0, 1, 2] rfl rfl 0 rfl rfl rfl rfl (Nat.le_of_ble_eq_true rfl) dX12_site_49 ⟨Nat.zero_le _, Nat.zero_le _⟩) hP hD hS hA [0, 1, 2] [] [0, 1, 2] rfl rfl rfl (by decide) rfl rfl (fun H locs hP hD hS => ?_)
    exact hret (u8.1, u8.2.1, u8.2.2.1, u8.2.2.2) _ _ _ _ hf hP hD hS dX12_site_52
  · refine lv_iconst (v := 0) hx hb dX12_site_20 (by decide) ?_
    exact hret (0, u3.2, a_rows, a_refused) _ _ _ _ hf hP hD hS dX12_site_21
abbrev w_X12_undo (h_t : Nat) (r_t : Nat → Nat) (F_t : Nat → Int32) (cI : ClassId) (a_rows : Nat → Int32) : va_W := [(h_t, .inr (12, o_X12 r_t F_t)), ((r_t 0), .inl (cI, 66100, .inl a_rows))]
abbrev rm_X12_undo : Room := { frames := 1, cells := 0, slots := 0, locals := 24 }
def m_X12_undo (F_t : Nat → Int32) (a_rows : Nat → Int32) : Option (Int32 × (Nat → Int32) × (Nat → Int32)) :=
  nm (upd F_t 4 0) fun F1 =>
  if (F1 5) = 0 then (
  some ((-1), F1, a_rows))
  else (
  nm (upd F1 5 ((F1 5) - 1)) fun F2 =>
  bd (m_X12_keptAt (F2 6) (F2 5)) fun u3 =>
  bd (m_X12_copies a_rows u3 0 786) fun u4 =>
  some ((F2 5), F2, u4))
set_option maxHeartbeats 4000000 in
set_option maxRecDepth 100000 in
theorem c_X12_undo (l : Launch) (D : va_G) (cI : ClassId) (h_t : Nat) (r_t : Nat → Nat) (F_t : Nat → Int32) (a_rows : Nat → Int32) (Rr : Int32 × (Nat → Int32) × (Nat → Int32)) (hf : m_X12_undo F_t a_rows = some Rr) : CTi l yX12_undo (Cond.code yX12_undo cX12_undo 1 (some .int)) rm_X12_undo D cI [.ref h_t] (w_X12_undo h_t r_t F_t cI a_rows) Rr.1 (w_X12_undo h_t r_t Rr.2.1 cI Rr.2.2) := by
  refine z_begin_i (own := RX12) (ρ := Int32 × (Nat → Int32) × (Nat → Int32)) (fun u => w_X12_undo h_t r_t u.2.1 cI u.2.2) (fun u => u.1) (by decide +kernel) rfl (Nat.le_of_ble_eq_true rfl) ?_
  intro p e s m args below meth c ls Q A hx hb hml hts hcx hown hK hX hA hP hD hS hl hret
  have hl : lv_has ls 1 [(0, .ref h_t)] := hl
  have hf := (m_X12_undo.eq_1 _ _).symm.trans hf
  refine lv_aload_n hx hb dX12_undo_0 rfl (lv_at hl 0 rfl) ?_
  refine lv_iconst (v := 0) hx hb dX12_undo_1 (by decide) ?_
  refine z_put (ci := 12) (C := RX12) (T := TX12) (N := 51) hx hb hts inT_X12 tyX12 tyX12_ok nmX12 hown hK hP hD hS 0 rfl rfl 4 (by decide) tf_X12_63 rfl (by decide +kernel) (Nat.le_of_ble_eq_true rfl) (o_X12 r_t) (o_X12_s4 _ _ _) (fun z => w_X12_undo h_t r_t z cI a_rows) (fun _ => rfl) dX12_undo_2 hf (fun F1 H locs hf hP hD hS => ?_)
  refine lv_aload_n hx hb dX12_undo_5 rfl (lv_at hl 0 rfl) ?_
  refine z_get (ci := 12) (C := RX12) (T := TX12) (N := 51) (v := .int (F1 5)) hx hb hts inT_X12 hown hK hP 0 rfl rfl 5 (by decide) tf_X12_336 rfl dX12_undo_6 ?_
  refine z_if_ne (tgt := 14) hx hb dX12_undo_9 (by decide) hf (fun hf => ?_) (fun hf => ?_)
  · refine lv_aload_n hx hb dX12_undo_14 rfl (lv_at hl 0 rfl) ?_
    refine lv_dup hx hb dX12_undo_15 rfl ?_
    refine z_get (ci := 12) (C := RX12) (T := TX12) (N := 51) (v := .int (F1 5)) hx hb hts inT_X12 hown hK hP 0 rfl rfl 5 (by decide) tf_X12_336 rfl dX12_undo_16 ?_
    refine lv_iconst (v := 1) hx hb dX12_undo_19 (by decide) ?_
    refine lv_isub hx hb dX12_undo_20 ?_
    refine z_put (ci := 12) (C := RX12) (T := TX12) (N := 51) hx hb hts inT_X12 tyX12 tyX12_ok nmX12 hown hK hP hD hS 0 rfl rfl 5 (by decide) tf_X12_336 rfl (by decide +kernel) (Nat.le_of_ble_eq_true rfl) (o_X12 r_t) (o_X12_s5 _ _ _) (fun z => w_X12_undo h_t r_t z cI a_rows) (fun _ => rfl) dX12_undo_21 hf (fun F2 H locs hf hP hD hS => ?_)
    refine lv_aload_n hx hb dX12_undo_24 rfl (lv_at hl 0 rfl) ?_
    refine lv_aload_n hx hb dX12_undo_25 rfl (lv_at hl 0 rfl) ?_
    refine z_get (ci := 12) (C := RX12) (T := TX12) (N := 51) (v := .int (F2 6)) hx hb hts inT_X12 hown hK hP 0 rfl rfl 6 (by decide) tf_X12_333 rfl dX12_undo_26 ?_
    refine lv_aload_n hx hb dX12_undo_29 rfl (lv_at hl 0 rfl) ?_
    refine z_get (ci := 12) (C := RX12) (T := TX12) (N := 51) (v := .int (F2 5)) hx hb hts inT_X12 hown hK hP 0 rfl rfl 5 (by decide) tf_X12_336 rfl dX12_undo_30 ?_
    obtain ⟨u3, hu3, hf⟩ := bd_some hf
    refine z_ci (ws1 := w_X12_undo h_t r_t F2 cI a_rows) (wr := List.filterMap (fun i : Nat => (w_X12_undo h_t r_t F2 cI a_rows)[i]?) [0, 1]) (z_rS (rest := [.ref h_t]) hx hb hml hown hcx hl.1 (c_X12_keptAt l D cI (F2 6) (F2 5) u3 hu3 _) tl_X12_348 ts_X12_keptAt tn_X12 tc_X12_keptAt tm_X12_keptAt rfl rfl ⟨Nat.le_of_ble_eq_true rfl, Nat.le_of_ble_eq_true rfl⟩ hK hX hS hA hP hD [] rfl rfl rfl rfl (Nat.le_of_ble_eq_true rfl) dX12_undo_33 ⟨Nat.zero_le _, Nat.zero_le _⟩) hP hD hS hA [] [0, 1] [0, 1] rfl rfl rfl (by decide) rfl rfl (fun H locs hP hD hS => ?_)
    refine lv_iconst (v := 0) hx hb dX12_undo_36 (by decide) ?_
    refine lv_sipush (v := 786) hx hb dX12_undo_37 (by decide) ?_
    obtain ⟨u4, hu4, hf⟩ := bd_some hf
    refine z_cv (ws1 := w_X12_undo h_t r_t F2 cI u4) (wr := List.filterMap (fun i : Nat => (w_X12_undo h_t r_t F2 cI a_rows)[i]?) []) (z_rV (rest := []) hx hb hml hown hcx hl.1 (c_X12_copies l D cI h_t r_t F2 a_rows u3 0 786 u4 hu4 _) tl_X12_224 ti_X12_copies tz_X12_copies tn_X12 tc_X12_copies tm_X12_copies rfl rfl ⟨Nat.le_of_ble_eq_true rfl, Nat.le_of_ble_eq_true rfl⟩ hK hX hS hA hP hD [0, 1] rfl rfl 0 rfl rfl rfl rfl (Nat.le_of_ble_eq_true rfl) dX12_undo_40 ⟨Nat.zero_le _, Nat.zero_le _⟩) hP hD hS hA [0, 1] [] [0, 1] rfl rfl rfl (by decide) rfl rfl (fun H locs hP hD hS => ?_)
    refine lv_aload_n hx hb dX12_undo_43 rfl (lv_at hl 0 rfl) ?_
    refine z_get (ci := 12) (C := RX12) (T := TX12) (N := 51) (v := .int (F2 5)) hx hb hts inT_X12 hown hK hP 0 rfl rfl 5 (by decide) tf_X12_336 rfl dX12_undo_44 ?_
    exact hret ((F2 5), F2, u4) _ _ _ _ hf hP hD hS dX12_undo_47
  · refine lv_iconst (v := (-1)) hx hb dX12_undo_12 (by decide) ?_
    exact hret ((-1), F1, a_rows) _ _ _ _ hf hP hD hS dX12_undo_13
abbrev w_X12_recovered (h_t : Nat) (r_t : Nat → Nat) (F_t : Nat → Int32) (cI : ClassId) (a_rows : Nat → Int32) (a_order : Nat → Int32) (a_image : Nat → Int32) : va_W := [(h_t, .inr (12, o_X12 r_t F_t)), ((r_t 0), .inl (cI, 66100, .inl a_rows)), ((r_t 24), .inl (cI, 16, .inl a_order)), ((r_t 25), .inl (cI, 64, .inl a_image))]
abbrev rm_X12_recovered : Room := { frames := 2, cells := 0, slots := 0, locals := 46 }
def m_X12_recovered (F_t : Nat → Int32) (a_rows : Nat → Int32) (a_order : Nat → Int32) (a_image : Nat → Int32) (p1 : Int32) (p2 : Int32) : Option (Int32 × (Nat → Int32) × (Nat → Int32) × (Nat → Int32)) :=
  nm (upd F_t 4 0) fun F1 =>
  bd (m_X12_isWord F1 p2) fun u2 =>
  if u2.1 = 0 then (
  some (0, u2.2, a_order, a_image))
  else (
  bd (m_X12_isOrder a_rows p1) fun u3 =>
  bd (m_X12_right u2.2 u3 2) fun u4 =>
  if u4.1 = 0 then (
  some (0, u4.2, a_order, a_image))
  else (
  bd (m_X12_laysOrder a_rows a_order 0 p1) fun u5 =>
  bd (m_X12_laysImage a_rows u5 a_image 0) fun u6 =>
  bd (m_X12_recovers u4.2 u6 64) fun u7 =>
  rd u7 64 p2 fun y8 =>
  some (y8, u4.2, u5, u7)))
set_option maxHeartbeats 4000000 in
set_option maxRecDepth 100000 in
theorem c_X12_recovered (l : Launch) (D : va_G) (cI : ClassId) (h_t : Nat) (r_t : Nat → Nat) (F_t : Nat → Int32) (a_rows : Nat → Int32) (a_order : Nat → Int32) (a_image : Nat → Int32) (p1 : Int32) (p2 : Int32) (Rr : Int32 × (Nat → Int32) × (Nat → Int32) × (Nat → Int32)) (hf : m_X12_recovered F_t a_rows a_order a_image p1 p2 = some Rr) : CTi l yX12_recovered (Cond.code yX12_recovered cX12_recovered 3 (some .int)) rm_X12_recovered D cI [.ref h_t, .int p1, .int p2] (w_X12_recovered h_t r_t F_t cI a_rows a_order a_image) Rr.1 (w_X12_recovered h_t r_t Rr.2.1 cI a_rows Rr.2.2.1 Rr.2.2.2) := by
  refine z_begin_i (own := RX12) (ρ := Int32 × (Nat → Int32) × (Nat → Int32) × (Nat → Int32)) (fun u => w_X12_recovered h_t r_t u.2.1 cI a_rows u.2.2.1 u.2.2.2) (fun u => u.1) (by decide +kernel) rfl (Nat.le_of_ble_eq_true rfl) ?_
  intro p e s m args below meth c ls Q A hx hb hml hts hcx hown hK hX hA hP hD hS hl hret
  have hl : lv_has ls 3 [(0, .ref h_t), (1, .int p1), (2, .int p2)] := hl
  have hf := (m_X12_recovered.eq_1 _ _ _ _ _ _).symm.trans hf
  refine lv_aload_n hx hb dX12_recovered_0 rfl (lv_at hl 0 rfl) ?_
  refine lv_iconst (v := 0) hx hb dX12_recovered_1 (by decide) ?_
  refine z_put (ci := 12) (C := RX12) (T := TX12) (N := 51) hx hb hts inT_X12 tyX12 tyX12_ok nmX12 hown hK hP hD hS 0 rfl rfl 4 (by decide) tf_X12_63 rfl (by decide +kernel) (Nat.le_of_ble_eq_true rfl) (o_X12 r_t) (o_X12_s4 _ _ _) (fun z => w_X12_recovered h_t r_t z cI a_rows a_order a_image) (fun _ => rfl) dX12_recovered_2 hf (fun F1 H locs hf hP hD hS => ?_)
  refine lv_aload_n hx hb dX12_recovered_5 rfl (lv_at hl 0 rfl) ?_
  refine lv_iload_n hx hb dX12_recovered_6 rfl (lv_at hl 2 rfl) ?_
  obtain ⟨u2, hu2, hf⟩ := bd_some hf
  refine z_ci (ws1 := w_X12_recovered h_t r_t u2.2 cI a_rows a_order a_image) (wr := List.filterMap (fun i : Nat => (w_X12_recovered h_t r_t F1 cI a_rows a_order a_image)[i]?) [1, 2, 3]) (z_rV (rest := []) hx hb hml hown hcx hl.1 (c_X12_isWord l D cI h_t r_t F1 p2 u2 hu2 _) tl_X12_342 ti_X12_isWord tz_X12_isWord tn_X12 tc_X12_isWord tm_X12_isWord rfl rfl ⟨Nat.le_of_ble_eq_true rfl, Nat.le_of_ble_eq_true rfl⟩ hK hX hS hA hP hD [0] rfl rfl 0 rfl rfl rfl rfl (Nat.le_of_ble_eq_true rfl) dX12_recovered_7 ⟨Nat.zero_le _, Nat.zero_le _⟩) hP hD hS hA [0] [1, 2, 3] [3, 0, 1, 2] rfl rfl rfl (by decide) rfl rfl (fun H locs hP hD hS => ?_)
  refine z_if_eq (tgt := 26) hx hb dX12_recovered_10 (by decide) hf (fun hf => ?_) (fun hf => ?_)
  · refine lv_iconst (v := 0) hx hb dX12_recovered_26 (by decide) ?_
    exact hret (0, u2.2, a_order, a_image) _ _ _ _ hf hP hD hS dX12_recovered_27
  · refine lv_aload_n hx hb dX12_recovered_13 rfl (lv_at hl 0 rfl) ?_
    refine lv_aload_n hx hb dX12_recovered_14 rfl (lv_at hl 0 rfl) ?_
    refine lv_iload_n hx hb dX12_recovered_15 rfl (lv_at hl 1 rfl) ?_
    obtain ⟨u3, hu3, hf⟩ := bd_some hf
    refine z_ci (ws1 := w_X12_recovered h_t r_t u2.2 cI a_rows a_order a_image) (wr := List.filterMap (fun i : Nat => (w_X12_recovered h_t r_t u2.2 cI a_rows a_order a_image)[i]?) [2, 3]) (z_rV (rest := [.ref h_t]) hx hb hml hown hcx hl.1 (c_X12_isOrder l D cI h_t r_t u2.2 a_rows p1 u3 hu3 _) tl_X12_357 ti_X12_isOrder tz_X12_isOrder tn_X12 tc_X12_isOrder tm_X12_isOrder rfl rfl ⟨Nat.le_of_ble_eq_true rfl, Nat.le_of_ble_eq_true rfl⟩ hK hX hS hA hP hD [0, 1] rfl rfl 0 rfl rfl rfl rfl (Nat.le_of_ble_eq_true rfl) dX12_recovered_16 ⟨Nat.zero_le _, Nat.zero_le _⟩) hP hD hS hA [0, 1] [2, 3] [2, 3, 0, 1] rfl rfl rfl (by decide) rfl rfl (fun H locs hP hD hS => ?_)
    refine lv_iconst (v := 2) hx hb dX12_recovered_19 (by decide) ?_
    obtain ⟨u4, hu4, hf⟩ := bd_some hf
    refine z_ci (ws1 := w_X12_recovered h_t r_t u4.2 cI a_rows a_order a_image) (wr := List.filterMap (fun i : Nat => (w_X12_recovered h_t r_t u2.2 cI a_rows a_order a_image)[i]?) [1, 2, 3]) (z_rV (rest := []) hx hb hml hown hcx hl.1 (c_X12_right l D cI h_t r_t u2.2 u3 2 u4 hu4 _) tl_X12_321 ti_X12_right tz_X12_right tn_X12 tc_X12_right tm_X12_right rfl rfl ⟨Nat.le_of_ble_eq_true rfl, Nat.le_of_ble_eq_true rfl⟩ hK hX hS hA hP hD [0] rfl rfl 0 rfl rfl rfl rfl (Nat.le_of_ble_eq_true rfl) dX12_recovered_20 ⟨Nat.zero_le _, Nat.zero_le _⟩) hP hD hS hA [0] [1, 2, 3] [3, 0, 1, 2] rfl rfl rfl (by decide) rfl rfl (fun H locs hP hD hS => ?_)
    refine z_if_ne (tgt := 28) hx hb dX12_recovered_23 (by decide) hf (fun hf => ?_) (fun hf => ?_)
    · refine lv_aload_n hx hb dX12_recovered_28 rfl (lv_at hl 0 rfl) ?_
      refine lv_iconst (v := 0) hx hb dX12_recovered_29 (by decide) ?_
      refine lv_iload_n hx hb dX12_recovered_30 rfl (lv_at hl 1 rfl) ?_
      obtain ⟨u5, hu5, hf⟩ := bd_some hf
      refine z_cv (ws1 := w_X12_recovered h_t r_t u4.2 cI a_rows u5 a_image) (wr := List.filterMap (fun i : Nat => (w_X12_recovered h_t r_t u4.2 cI a_rows a_order a_image)[i]?) [3]) (z_rV (rest := []) hx hb hml hown hcx hl.1 (c_X12_laysOrder l D cI h_t r_t u4.2 a_rows a_order 0 p1 u5 hu5 _) tl_X12_360 ti_X12_laysOrder tz_X12_laysOrder tn_X12 tc_X12_laysOrder tm_X12_laysOrder rfl rfl ⟨Nat.le_of_ble_eq_true rfl, Nat.le_of_ble_eq_true rfl⟩ hK hX hS hA hP hD [0, 1, 2] rfl rfl 0 rfl rfl rfl rfl (Nat.le_of_ble_eq_true rfl) dX12_recovered_31 ⟨Nat.zero_le _, Nat.zero_le _⟩) hP hD hS hA [0, 1, 2] [3] [1, 2, 3, 0] rfl rfl rfl (by decide) rfl rfl (fun H locs hP hD hS => ?_)
      refine lv_aload_n hx hb dX12_recovered_34 rfl (lv_at hl 0 rfl) ?_
      refine lv_iconst (v := 0) hx hb dX12_recovered_35 (by decide) ?_
      obtain ⟨u6, hu6, hf⟩ := bd_some hf
      refine z_cv (ws1 := w_X12_recovered h_t r_t u4.2 cI a_rows u5 u6) (wr := List.filterMap (fun i : Nat => (w_X12_recovered h_t r_t u4.2 cI a_rows u5 a_image)[i]?) []) (z_rV (rest := []) hx hb hml hown hcx hl.1 (c_X12_laysImage l D cI h_t r_t u4.2 a_rows u5 a_image 0 u6 hu6 _) tl_X12_185 ti_X12_laysImage tz_X12_laysImage tn_X12 tc_X12_laysImage tm_X12_laysImage rfl rfl ⟨Nat.le_of_ble_eq_true rfl, Nat.le_of_ble_eq_true rfl⟩ hK hX hS hA hP hD [0, 1, 2, 3] rfl rfl 0 rfl rfl rfl rfl (Nat.le_of_ble_eq_true rfl) dX12_recovered_36 ⟨Nat.zero_le _, Nat.zero_le _⟩) hP hD hS hA [0, 1, 2, 3] [] [0, 1, 2, 3] rfl rfl rfl (by decide) rfl rfl (fun H locs hP hD hS => ?_)
      refine lv_aload_n hx hb dX12_recovered_39 rfl (lv_at hl 0 rfl) ?_
      refine lv_aload_n hx hb dX12_recovered_40 rfl (lv_at hl 0 rfl) ?_
      refine z_get (ci := 12) (C := RX12) (T := TX12) (N := 51) (v := .ref (r_t 25)) hx hb hts inT_X12 hown hK hP 0 rfl rfl 25 (by decide) tf_X12_45 rfl dX12_recovered_41 ?_
      obtain ⟨u7, hu7, hf⟩ := bd_some hf
      refine z_cv (ws1 := w_X12_recovered h_t r_t u4.2 cI a_rows u5 u7) (wr := List.filterMap (fun i : Nat => (w_X12_recovered h_t r_t u4.2 cI a_rows u5 u6)[i]?) [1, 2]) (z_rV (rest := []) hx hb hml hown hcx hl.1 (c_X12_recovers l D cI h_t (r_t 25) r_t u4.2 64 u6 u7 hu7 _) tl_X12_178 ti_X12_recovers tz_X12_recovers tn_X12 tc_X12_recovers tm_X12_recovers rfl rfl ⟨Nat.le_of_ble_eq_true rfl, Nat.le_of_ble_eq_true rfl⟩ hK hX hS hA hP hD [0, 3] rfl rfl 0 rfl rfl rfl rfl (Nat.le_of_ble_eq_true rfl) dX12_recovered_44 ⟨Nat.zero_le _, Nat.zero_le _⟩) hP hD hS hA [0, 3] [1, 2] [2, 0, 1, 3] rfl rfl rfl (by decide) rfl rfl (fun H locs hP hD hS => ?_)
      refine lv_aload_n hx hb dX12_recovered_47 rfl (lv_at hl 0 rfl) ?_
      refine z_get (ci := 12) (C := RX12) (T := TX12) (N := 51) (v := .ref (r_t 25)) hx hb hts inT_X12 hown hK hP 0 rfl rfl 25 (by decide) tf_X12_45 rfl dX12_recovered_48 ?_
      refine lv_iload_n hx hb dX12_recovered_51 rfl (lv_at hl 2 rfl) ?_
      refine z_iald hx hb hK hP 3 rfl dX12_recovered_52 hf (fun y8 hf => ?_)
      exact hret (y8, u4.2, u5, u7) _ _ _ _ hf hP hD hS dX12_recovered_53
    · refine lv_iconst (v := 0) hx hb dX12_recovered_26 (by decide) ?_
      exact hret (0, u4.2, a_order, a_image) _ _ _ _ hf hP hD hS dX12_recovered_27
abbrev w_X12_fate (h_t : Nat) (r_t : Nat → Nat) (F_t : Nat → Int32) (cI : ClassId) (a_rows : Nat → Int32) (a_memory : Nat → Int32) (a_order : Nat → Int32) (a_image : Nat → Int32) (a_well : Nat → Int32) : va_W := [(h_t, .inr (12, o_X12 r_t F_t)), ((r_t 0), .inl (cI, 66100, .inl a_rows)), ((r_t 23), .inl (cI, 64, .inl a_memory)), ((r_t 24), .inl (cI, 16, .inl a_order)), ((r_t 25), .inl (cI, 64, .inl a_image)), ((r_t 26), .inl (cI, 88, .inl a_well))]
abbrev rm_X12_fate : Room := { frames := 3, cells := 0, slots := 0, locals := 70 }
def m_X12_fate (F_t : Nat → Int32) (a_rows : Nat → Int32) (a_memory : Nat → Int32) (a_order : Nat → Int32) (a_image : Nat → Int32) (a_well : Nat → Int32) (p1 : Int32) : Option (Int32 × (Nat → Int32) × (Nat → Int32) × (Nat → Int32) × (Nat → Int32) × (Nat → Int32)) :=
  nm (upd F_t 4 0) fun F1 =>
  bd (m_X12_isOrder a_rows p1) fun u2 =>
  bd (m_X12_right F1 u2 1) fun u3 =>
  if u3.1 = 0 then (
  some (0, u3.2, a_memory, a_order, a_image, a_well))
  else (
  bd (m_X12_laysOrder a_rows a_order 0 p1) fun u4 =>
  bd (m_X12_laysWell u3.2 a_rows a_memory a_well 0) fun u5 =>
  bd (m_X12_fateHere u5.1 a_rows u4 a_image u5.2.2 0) fun u6 =>
  some (u6.1, u5.1, u5.2.1, u4, u6.2, u5.2.2))
set_option maxHeartbeats 4000000 in
set_option maxRecDepth 100000 in
theorem c_X12_fate (l : Launch) (D : va_G) (cI : ClassId) (h_t : Nat) (r_t : Nat → Nat) (F_t : Nat → Int32) (a_rows : Nat → Int32) (a_memory : Nat → Int32) (a_order : Nat → Int32) (a_image : Nat → Int32) (a_well : Nat → Int32) (p1 : Int32) (Rr : Int32 × (Nat → Int32) × (Nat → Int32) × (Nat → Int32) × (Nat → Int32) × (Nat → Int32)) (hf : m_X12_fate F_t a_rows a_memory a_order a_image a_well p1 = some Rr) : CTi l yX12_fate (Cond.code yX12_fate cX12_fate 2 (some .int)) rm_X12_fate D cI [.ref h_t, .int p1] (w_X12_fate h_t r_t F_t cI a_rows a_memory a_order a_image a_well) Rr.1 (w_X12_fate h_t r_t Rr.2.1 cI a_rows Rr.2.2.1 Rr.2.2.2.1 Rr.2.2.2.2.1 Rr.2.2.2.2.2) := by
  refine z_begin_i (own := RX12) (ρ := Int32 × (Nat → Int32) × (Nat → Int32) × (Nat → Int32) × (Nat → Int32) × (Nat → Int32)) (fun u => w_X12_fate h_t r_t u.2.1 cI a_rows u.2.2.1 u.2.2.2.1 u.2.2.2.2.1 u.2.2.2.2.2) (fun u => u.1) (by decide +kernel) rfl (Nat.le_of_ble_eq_true rfl) ?_
  intro p e s m args below meth c ls Q A hx hb hml hts hcx hown hK hX hA hP hD hS hl hret
  have hl : lv_has ls 2 [(0, .ref h_t), (1, .int p1)] := hl
  have hf := (m_X12_fate.eq_1 _ _ _ _ _ _ _).symm.trans hf
  refine lv_aload_n hx hb dX12_fate_0 rfl (lv_at hl 0 rfl) ?_
  refine lv_iconst (v := 0) hx hb dX12_fate_1 (by decide) ?_
  refine z_put (ci := 12) (C := RX12) (T := TX12) (N := 51) hx hb hts inT_X12 tyX12 tyX12_ok nmX12 hown hK hP hD hS 0 rfl rfl 4 (by decide) tf_X12_63 rfl (by decide +kernel) (Nat.le_of_ble_eq_true rfl) (o_X12 r_t) (o_X12_s4 _ _ _) (fun z => w_X12_fate h_t r_t z cI a_rows a_memory a_order a_image a_well) (fun _ => rfl) dX12_fate_2 hf (fun F1 H locs hf hP hD hS => ?_)
  refine lv_aload_n hx hb dX12_fate_5 rfl (lv_at hl 0 rfl) ?_
  refine lv_aload_n hx hb dX12_fate_6 rfl (lv_at hl 0 rfl) ?_
  refine lv_iload_n hx hb dX12_fate_7 rfl (lv_at hl 1 rfl) ?_
  obtain ⟨u2, hu2, hf⟩ := bd_some hf
  refine z_ci (ws1 := w_X12_fate h_t r_t F1 cI a_rows a_memory a_order a_image a_well) (wr := List.filterMap (fun i : Nat => (w_X12_fate h_t r_t F1 cI a_rows a_memory a_order a_image a_well)[i]?) [2, 3, 4, 5]) (z_rV (rest := [.ref h_t]) hx hb hml hown hcx hl.1 (c_X12_isOrder l D cI h_t r_t F1 a_rows p1 u2 hu2 _) tl_X12_357 ti_X12_isOrder tz_X12_isOrder tn_X12 tc_X12_isOrder tm_X12_isOrder rfl rfl ⟨Nat.le_of_ble_eq_true rfl, Nat.le_of_ble_eq_true rfl⟩ hK hX hS hA hP hD [0, 1] rfl rfl 0 rfl rfl rfl rfl (Nat.le_of_ble_eq_true rfl) dX12_fate_8 ⟨Nat.zero_le _, Nat.zero_le _⟩) hP hD hS hA [0, 1] [2, 3, 4, 5] [4, 5, 0, 1, 2, 3] rfl rfl rfl (by decide) rfl rfl (fun H locs hP hD hS => ?_)
  refine lv_iconst (v := 1) hx hb dX12_fate_11 (by decide) ?_
  obtain ⟨u3, hu3, hf⟩ := bd_some hf
  refine z_ci (ws1 := w_X12_fate h_t r_t u3.2 cI a_rows a_memory a_order a_image a_well) (wr := List.filterMap (fun i : Nat => (w_X12_fate h_t r_t F1 cI a_rows a_memory a_order a_image a_well)[i]?) [1, 2, 3, 4, 5]) (z_rV (rest := []) hx hb hml hown hcx hl.1 (c_X12_right l D cI h_t r_t F1 u2 1 u3 hu3 _) tl_X12_321 ti_X12_right tz_X12_right tn_X12 tc_X12_right tm_X12_right rfl rfl ⟨Nat.le_of_ble_eq_true rfl, Nat.le_of_ble_eq_true rfl⟩ hK hX hS hA hP hD [0] rfl rfl 0 rfl rfl rfl rfl (Nat.le_of_ble_eq_true rfl) dX12_fate_12 ⟨Nat.zero_le _, Nat.zero_le _⟩) hP hD hS hA [0] [1, 2, 3, 4, 5] [5, 0, 1, 2, 3, 4] rfl rfl rfl (by decide) rfl rfl (fun H locs hP hD hS => ?_)
  refine z_if_ne (tgt := 20) hx hb dX12_fate_15 (by decide) hf (fun hf => ?_) (fun hf => ?_)
  · refine lv_aload_n hx hb dX12_fate_20 rfl (lv_at hl 0 rfl) ?_
    refine lv_iconst (v := 0) hx hb dX12_fate_21 (by decide) ?_
    refine lv_iload_n hx hb dX12_fate_22 rfl (lv_at hl 1 rfl) ?_
    obtain ⟨u4, hu4, hf⟩ := bd_some hf
    refine z_cv (ws1 := w_X12_fate h_t r_t u3.2 cI a_rows a_memory u4 a_image a_well) (wr := List.filterMap (fun i : Nat => (w_X12_fate h_t r_t u3.2 cI a_rows a_memory a_order a_image a_well)[i]?) [2, 4, 5]) (z_rV (rest := []) hx hb hml hown hcx hl.1 (c_X12_laysOrder l D cI h_t r_t u3.2 a_rows a_order 0 p1 u4 hu4 _) tl_X12_360 ti_X12_laysOrder tz_X12_laysOrder tn_X12 tc_X12_laysOrder tm_X12_laysOrder rfl rfl ⟨Nat.le_of_ble_eq_true rfl, Nat.le_of_ble_eq_true rfl⟩ hK hX hS hA hP hD [0, 1, 3] rfl rfl 0 rfl rfl rfl rfl (Nat.le_of_ble_eq_true rfl) dX12_fate_23 ⟨Nat.zero_le _, Nat.zero_le _⟩) hP hD hS hA [0, 1, 3] [2, 4, 5] [3, 4, 0, 5, 1, 2] rfl rfl rfl (by decide) rfl rfl (fun H locs hP hD hS => ?_)
    refine lv_aload_n hx hb dX12_fate_26 rfl (lv_at hl 0 rfl) ?_
    refine lv_iconst (v := 0) hx hb dX12_fate_27 (by decide) ?_
    obtain ⟨u5, hu5, hf⟩ := bd_some hf
    refine z_cv (ws1 := w_X12_fate h_t r_t u5.1 cI a_rows u5.2.1 u4 a_image u5.2.2) (wr := List.filterMap (fun i : Nat => (w_X12_fate h_t r_t u3.2 cI a_rows a_memory u4 a_image a_well)[i]?) [3, 4]) (z_rV (rest := []) hx hb hml hown hcx hl.1 (c_X12_laysWell l D cI h_t r_t u3.2 a_rows a_memory a_well 0 u5 hu5 _) tl_X12_197 ti_X12_laysWell tz_X12_laysWell tn_X12 tc_X12_laysWell tm_X12_laysWell rfl rfl ⟨Nat.le_of_ble_eq_true rfl, Nat.le_of_ble_eq_true rfl⟩ hK hX hS hA hP hD [0, 1, 2, 5] rfl rfl 0 rfl rfl rfl rfl (Nat.le_of_ble_eq_true rfl) dX12_fate_28 ⟨Nat.zero_le _, Nat.zero_le _⟩) hP hD hS hA [0, 1, 2, 5] [3, 4] [2, 3, 4, 0, 1, 5] rfl rfl rfl (by decide) rfl rfl (fun H locs hP hD hS => ?_)
    refine lv_aload_n hx hb dX12_fate_31 rfl (lv_at hl 0 rfl) ?_
    refine lv_iconst (v := 0) hx hb dX12_fate_32 (by decide) ?_
    obtain ⟨u6, hu6, hf⟩ := bd_some hf
    refine z_ci (ws1 := w_X12_fate h_t r_t u5.1 cI a_rows u5.2.1 u4 u6.2 u5.2.2) (wr := List.filterMap (fun i : Nat => (w_X12_fate h_t r_t u5.1 cI a_rows u5.2.1 u4 a_image u5.2.2)[i]?) [2]) (z_rV (rest := []) hx hb hml hown hcx hl.1 (c_X12_fateHere l D cI h_t r_t u5.1 a_rows u4 a_image u5.2.2 0 u6 hu6 _) tl_X12_203 ti_X12_fateHere tz_X12_fateHere tn_X12 tc_X12_fateHere tm_X12_fateHere rfl rfl ⟨Nat.le_of_ble_eq_true rfl, Nat.le_of_ble_eq_true rfl⟩ hK hX hS hA hP hD [0, 1, 3, 4, 5] rfl rfl 0 rfl rfl rfl rfl (Nat.le_of_ble_eq_true rfl) dX12_fate_33 ⟨Nat.zero_le _, Nat.zero_le _⟩) hP hD hS hA [0, 1, 3, 4, 5] [2] [1, 2, 0, 3, 4, 5] rfl rfl rfl (by decide) rfl rfl (fun H locs hP hD hS => ?_)
    exact hret (u6.1, u5.1, u5.2.1, u4, u6.2, u5.2.2) _ _ _ _ hf hP hD hS dX12_fate_36
  · refine lv_iconst (v := 0) hx hb dX12_fate_18 (by decide) ?_
    exact hret (0, u3.2, a_memory, a_order, a_image, a_well) _ _ _ _ hf hP hD hS dX12_fate_19
abbrev w_X12_check (h_t : Nat) (r_t : Nat → Nat) (F_t : Nat → Int32) (cI : ClassId) (a_rows : Nat → Int32) (a_words : Nat → Int32) (a_address : Nat → Int32) (a_number : Nat → Int32) (a_memory : Nat → Int32) (a_order : Nat → Int32) (a_image : Nat → Int32) (a_well : Nat → Int32) : va_W := [(h_t, .inr (12, o_X12 r_t F_t)), ((r_t 0), .inl (cI, 66100, .inl a_rows)), ((r_t 16), .inl (cI, 64, .inl a_words)), ((r_t 17), .inl (cI, 64, .inl a_address)), ((r_t 18), .inl (cI, 64, .inl a_number)), ((r_t 23), .inl (cI, 64, .inl a_memory)), ((r_t 24), .inl (cI, 16, .inl a_order)), ((r_t 25), .inl (cI, 64, .inl a_image)), ((r_t 26), .inl (cI, 88, .inl a_well))]
abbrev rm_X12_check : Room := { frames := 10, cells := 0, slots := 0, locals := 230 }
def m_X12_check_j55 (p1 : Int32) (F_t : Nat → Int32) (a_rows : Nat → Int32) (a_words : Nat → Int32) (a_address : Nat → Int32) (a_number : Nat → Int32) (a_memory : Nat → Int32) (a_order : Nat → Int32) (a_image : Nat → Int32) (a_well : Nat → Int32) : Option (Int32 × (Nat → Int32) × (Nat → Int32) × (Nat → Int32) × (Nat → Int32) × (Nat → Int32) × (Nat → Int32) × (Nat → Int32) × (Nat → Int32) × (Nat → Int32)) :=
  if p1 = 0 then (
  some ((F_t 28), F_t, a_rows, a_words, a_address, a_number, a_memory, a_order, a_image, a_well))
  else (
  if p1 = 1 then (
  some ((F_t 29), F_t, a_rows, a_words, a_address, a_number, a_memory, a_order, a_image, a_well))
  else (
  some ((F_t 30), F_t, a_rows, a_words, a_address, a_number, a_memory, a_order, a_image, a_well)))
def m_X12_check (F_t : Nat → Int32) (a_rows : Nat → Int32) (a_words : Nat → Int32) (a_address : Nat → Int32) (a_number : Nat → Int32) (a_memory : Nat → Int32) (a_order : Nat → Int32) (a_image : Nat → Int32) (a_well : Nat → Int32) (p1 : Int32) : Option (Int32 × (Nat → Int32) × (Nat → Int32) × (Nat → Int32) × (Nat → Int32) × (Nat → Int32) × (Nat → Int32) × (Nat → Int32) × (Nat → Int32) × (Nat → Int32)) :=
  nm (upd F_t 4 0) fun F1 =>
  bd (m_X12_within p1 0 2) fun u2 =>
  bd (m_X12_right F1 u2 1) fun u3 =>
  if u3.1 = 0 then (
  some (0, u3.2, a_rows, a_words, a_address, a_number, a_memory, a_order, a_image, a_well))
  else (
  rd a_rows 66100 773 fun y4 =>
  bd (m_X12_checks u3.2 a_rows a_words a_address a_number a_memory a_order a_image a_well y4) fun u5 =>
  if (u5.1 31) = 0 then (
  m_X12_check_j55 p1 u5.1 u5.2.1 u5.2.2.1 u5.2.2.2.1 u5.2.2.2.2.1 u5.2.2.2.2.2.1 u5.2.2.2.2.2.2.1 u5.2.2.2.2.2.2.2.1 u5.2.2.2.2.2.2.2.2)
  else (
  if p1 = 0 then (
  some ((-2), u5.1, u5.2.1, u5.2.2.1, u5.2.2.2.1, u5.2.2.2.2.1, u5.2.2.2.2.2.1, u5.2.2.2.2.2.2.1, u5.2.2.2.2.2.2.2.1, u5.2.2.2.2.2.2.2.2))
  else (
  if (u5.1 29) = (-1) then (
  some ((-2), u5.1, u5.2.1, u5.2.2.1, u5.2.2.2.1, u5.2.2.2.2.1, u5.2.2.2.2.2.1, u5.2.2.2.2.2.2.1, u5.2.2.2.2.2.2.2.1, u5.2.2.2.2.2.2.2.2))
  else (
  m_X12_check_j55 p1 u5.1 u5.2.1 u5.2.2.1 u5.2.2.2.1 u5.2.2.2.2.1 u5.2.2.2.2.2.1 u5.2.2.2.2.2.2.1 u5.2.2.2.2.2.2.2.1 u5.2.2.2.2.2.2.2.2))))
set_option maxHeartbeats 4000000 in
set_option maxRecDepth 100000 in
theorem c_X12_check (l : Launch) (D : va_G) (cI : ClassId) (h_t : Nat) (r_t : Nat → Nat) (F_t : Nat → Int32) (a_rows : Nat → Int32) (a_words : Nat → Int32) (a_address : Nat → Int32) (a_number : Nat → Int32) (a_memory : Nat → Int32) (a_order : Nat → Int32) (a_image : Nat → Int32) (a_well : Nat → Int32) (p1 : Int32) (Rr : Int32 × (Nat → Int32) × (Nat → Int32) × (Nat → Int32) × (Nat → Int32) × (Nat → Int32) × (Nat → Int32) × (Nat → Int32) × (Nat → Int32) × (Nat → Int32)) (hf : m_X12_check F_t a_rows a_words a_address a_number a_memory a_order a_image a_well p1 = some Rr) : CTi l yX12_check (Cond.code yX12_check cX12_check 2 (some .int)) rm_X12_check D cI [.ref h_t, .int p1] (w_X12_check h_t r_t F_t cI a_rows a_words a_address a_number a_memory a_order a_image a_well) Rr.1 (w_X12_check h_t r_t Rr.2.1 cI Rr.2.2.1 Rr.2.2.2.1 Rr.2.2.2.2.1 Rr.2.2.2.2.2.1 Rr.2.2.2.2.2.2.1 Rr.2.2.2.2.2.2.2.1 Rr.2.2.2.2.2.2.2.2.1 Rr.2.2.2.2.2.2.2.2.2) := by
  refine z_begin_i (own := RX12) (ρ := Int32 × (Nat → Int32) × (Nat → Int32) × (Nat → Int32) × (Nat → Int32) × (Nat → Int32) × (Nat → Int32) × (Nat → Int32) × (Nat → Int32) × (Nat → Int32)) (fun u => w_X12_check h_t r_t u.2.1 cI u.2.2.1 u.2.2.2.1 u.2.2.2.2.1 u.2.2.2.2.2.1 u.2.2.2.2.2.2.1 u.2.2.2.2.2.2.2.1 u.2.2.2.2.2.2.2.2.1 u.2.2.2.2.2.2.2.2.2) (fun u => u.1) (by decide +kernel) rfl (Nat.le_of_ble_eq_true rfl) ?_
  intro p e s m args below meth c ls Q A hx hb hml hts hcx hown hK hX hA hP hD hS hl hret
  have hl : lv_has ls 2 [(0, .ref h_t), (1, .int p1)] := hl
  have hf := (m_X12_check.eq_1 _ _ _ _ _ _ _ _ _ _).symm.trans hf
  have L55 : ∀ (F_t : Nat → Int32) (a_rows : Nat → Int32) (a_words : Nat → Int32) (a_address : Nat → Int32) (a_number : Nat → Int32) (a_memory : Nat → Int32) (a_order : Nat → Int32) (a_image : Nat → Int32) (a_well : Nat → Int32) (H : Heap) (locs : List Loc) (ls : Array Slot), m_X12_check_j55 p1 F_t a_rows a_words a_address a_number a_memory a_order a_image a_well = some Rr → va_P D vwCl (w_X12_check h_t r_t F_t cI a_rows a_words a_address a_number a_memory a_order a_image a_well) H → va_D A (w_X12_check h_t r_t F_t cI a_rows a_words a_address a_number a_memory a_order a_image a_well) → va_S A s.heap H locs → lv_has ls 2 [(0, .ref h_t), (1, .int p1)] → W p l e rm_X12_check s m args below meth c H locs 0 0 Q (F0 m 55 ls []) := by
    intro F_t a_rows a_words a_address a_number a_memory a_order a_image a_well H locs ls hf hP hD hS hl
    have hf := (m_X12_check_j55.eq_1 _ _ _ _ _ _ _ _ _ _).symm.trans hf
    refine lv_iload_n hx hb dX12_check_55 rfl (lv_at hl 1 rfl) ?_
    refine z_if_ne (tgt := 66) hx hb dX12_check_56 (by decide) hf (fun hf => ?_) (fun hf => ?_)
    · refine lv_iload_n hx hb dX12_check_66 rfl (lv_at hl 1 rfl) ?_
      refine lv_iconst (v := 1) hx hb dX12_check_67 (by decide) ?_
      refine z_icmp_ne (tgt := 78) hx hb dX12_check_68 (by decide) hf (fun hf => ?_) (fun hf => ?_)
      · refine lv_aload_n hx hb dX12_check_78 rfl (lv_at hl 0 rfl) ?_
        refine z_get (ci := 12) (C := RX12) (T := TX12) (N := 51) (v := .int (F_t 30)) hx hb hts inT_X12 hown hK hP 0 rfl rfl 30 (by decide) tf_X12_212 rfl dX12_check_79 ?_
        exact hret ((F_t 30), F_t, a_rows, a_words, a_address, a_number, a_memory, a_order, a_image, a_well) _ _ _ _ hf hP hD hS dX12_check_82
      · refine lv_aload_n hx hb dX12_check_71 rfl (lv_at hl 0 rfl) ?_
        refine z_get (ci := 12) (C := RX12) (T := TX12) (N := 51) (v := .int (F_t 29)) hx hb hts inT_X12 hown hK hP 0 rfl rfl 29 (by decide) tf_X12_209 rfl dX12_check_72 ?_
        refine lv_goto (tgt := 82) hx hb dX12_check_75 (by decide) ?_
        exact hret ((F_t 29), F_t, a_rows, a_words, a_address, a_number, a_memory, a_order, a_image, a_well) _ _ _ _ hf hP hD hS dX12_check_82
    · refine lv_aload_n hx hb dX12_check_59 rfl (lv_at hl 0 rfl) ?_
      refine z_get (ci := 12) (C := RX12) (T := TX12) (N := 51) (v := .int (F_t 28)) hx hb hts inT_X12 hown hK hP 0 rfl rfl 28 (by decide) tf_X12_206 rfl dX12_check_60 ?_
      refine lv_goto (tgt := 82) hx hb dX12_check_63 (by decide) ?_
      exact hret ((F_t 28), F_t, a_rows, a_words, a_address, a_number, a_memory, a_order, a_image, a_well) _ _ _ _ hf hP hD hS dX12_check_82
  refine lv_aload_n hx hb dX12_check_0 rfl (lv_at hl 0 rfl) ?_
  refine lv_iconst (v := 0) hx hb dX12_check_1 (by decide) ?_
  refine z_put (ci := 12) (C := RX12) (T := TX12) (N := 51) hx hb hts inT_X12 tyX12 tyX12_ok nmX12 hown hK hP hD hS 0 rfl rfl 4 (by decide) tf_X12_63 rfl (by decide +kernel) (Nat.le_of_ble_eq_true rfl) (o_X12 r_t) (o_X12_s4 _ _ _) (fun z => w_X12_check h_t r_t z cI a_rows a_words a_address a_number a_memory a_order a_image a_well) (fun _ => rfl) dX12_check_2 hf (fun F1 H locs hf hP hD hS => ?_)
  refine lv_aload_n hx hb dX12_check_5 rfl (lv_at hl 0 rfl) ?_
  refine lv_iload_n hx hb dX12_check_6 rfl (lv_at hl 1 rfl) ?_
  refine lv_iconst (v := 0) hx hb dX12_check_7 (by decide) ?_
  refine lv_iconst (v := 2) hx hb dX12_check_8 (by decide) ?_
  obtain ⟨u2, hu2, hf⟩ := bd_some hf
  refine z_ci (ws1 := w_X12_check h_t r_t F1 cI a_rows a_words a_address a_number a_memory a_order a_image a_well) (wr := List.filterMap (fun i : Nat => (w_X12_check h_t r_t F1 cI a_rows a_words a_address a_number a_memory a_order a_image a_well)[i]?) [0, 1, 2, 3, 4, 5, 6, 7, 8]) (z_rS (rest := [.ref h_t]) hx hb hml hown hcx hl.1 (c_X12_within l D cI p1 0 2 u2 hu2 _) tl_X12_172 ts_X12_within tn_X12 tc_X12_within tm_X12_within rfl rfl ⟨Nat.le_of_ble_eq_true rfl, Nat.le_of_ble_eq_true rfl⟩ hK hX hS hA hP hD [] rfl rfl rfl rfl (Nat.le_of_ble_eq_true rfl) dX12_check_9 ⟨Nat.zero_le _, Nat.zero_le _⟩) hP hD hS hA [] [0, 1, 2, 3, 4, 5, 6, 7, 8] [0, 1, 2, 3, 4, 5, 6, 7, 8] rfl rfl rfl (by decide) rfl rfl (fun H locs hP hD hS => ?_)
  refine lv_iconst (v := 1) hx hb dX12_check_12 (by decide) ?_
  obtain ⟨u3, hu3, hf⟩ := bd_some hf
  refine z_ci (ws1 := w_X12_check h_t r_t u3.2 cI a_rows a_words a_address a_number a_memory a_order a_image a_well) (wr := List.filterMap (fun i : Nat => (w_X12_check h_t r_t F1 cI a_rows a_words a_address a_number a_memory a_order a_image a_well)[i]?) [1, 2, 3, 4, 5, 6, 7, 8]) (z_rV (rest := []) hx hb hml hown hcx hl.1 (c_X12_right l D cI h_t r_t F1 u2 1 u3 hu3 _) tl_X12_321 ti_X12_right tz_X12_right tn_X12 tc_X12_right tm_X12_right rfl rfl ⟨Nat.le_of_ble_eq_true rfl, Nat.le_of_ble_eq_true rfl⟩ hK hX hS hA hP hD [0] rfl rfl 0 rfl rfl rfl rfl (Nat.le_of_ble_eq_true rfl) dX12_check_13 ⟨Nat.zero_le _, Nat.zero_le _⟩) hP hD hS hA [0] [1, 2, 3, 4, 5, 6, 7, 8] [8, 0, 1, 2, 3, 4, 5, 6, 7] rfl rfl rfl (by decide) rfl rfl (fun H locs hP hD hS => ?_)
  refine z_if_ne (tgt := 21) hx hb dX12_check_16 (by decide) hf (fun hf => ?_) (fun hf => ?_)
  · refine lv_aload_n hx hb dX12_check_21 rfl (lv_at hl 0 rfl) ?_
    refine lv_aload_n hx hb dX12_check_22 rfl (lv_at hl 0 rfl) ?_
    refine z_get (ci := 12) (C := RX12) (T := TX12) (N := 51) (v := .ref (r_t 0)) hx hb hts inT_X12 hown hK hP 0 rfl rfl 0 (by decide) tf_X12_10 rfl dX12_check_23 ?_
    refine lv_sipush (v := 773) hx hb dX12_check_26 (by decide) ?_
    refine z_iald hx hb hK hP 1 rfl dX12_check_29 hf (fun y4 hf => ?_)
    obtain ⟨u5, hu5, hf⟩ := bd_some hf
    refine z_cv (ws1 := w_X12_check h_t r_t u5.1 cI u5.2.1 u5.2.2.1 u5.2.2.2.1 u5.2.2.2.2.1 u5.2.2.2.2.2.1 u5.2.2.2.2.2.2.1 u5.2.2.2.2.2.2.2.1 u5.2.2.2.2.2.2.2.2) (wr := List.filterMap (fun i : Nat => (w_X12_check h_t r_t u3.2 cI a_rows a_words a_address a_number a_memory a_order a_image a_well)[i]?) []) (z_rV (rest := []) hx hb hml hown hcx hl.1 (c_X12_checks l D cI h_t r_t u3.2 a_rows a_words a_address a_number a_memory a_order a_image a_well y4 u5 hu5 _) tl_X12_233 ti_X12_checks tz_X12_checks tn_X12 tc_X12_checks tm_X12_checks rfl rfl ⟨Nat.le_of_ble_eq_true rfl, Nat.le_of_ble_eq_true rfl⟩ hK hX hS hA hP hD [0, 1, 2, 3, 4, 5, 6, 7, 8] rfl rfl 0 rfl rfl rfl rfl (Nat.le_of_ble_eq_true rfl) dX12_check_30 ⟨Nat.zero_le _, Nat.zero_le _⟩) hP hD hS hA [0, 1, 2, 3, 4, 5, 6, 7, 8] [] [0, 1, 2, 3, 4, 5, 6, 7, 8] rfl rfl rfl (by decide) rfl rfl (fun H locs hP hD hS => ?_)
    refine lv_aload_n hx hb dX12_check_33 rfl (lv_at hl 0 rfl) ?_
    refine z_get (ci := 12) (C := RX12) (T := TX12) (N := 51) (v := .int (u5.1 31)) hx hb hts inT_X12 hown hK hP 0 rfl rfl 31 (by decide) tf_X12_194 rfl dX12_check_34 ?_
    refine z_if_eq (tgt := 55) hx hb dX12_check_37 (by decide) hf (fun hf => ?_) (fun hf => ?_)
    · exact L55 u5.1 u5.2.1 u5.2.2.1 u5.2.2.2.1 u5.2.2.2.2.1 u5.2.2.2.2.2.1 u5.2.2.2.2.2.2.1 u5.2.2.2.2.2.2.2.1 u5.2.2.2.2.2.2.2.2 _ _ _ hf hP hD hS (lv_sub hl [0, 1] rfl)
    · refine lv_iload_n hx hb dX12_check_40 rfl (lv_at hl 1 rfl) ?_
      refine z_if_eq (tgt := 52) hx hb dX12_check_41 (by decide) hf (fun hf => ?_) (fun hf => ?_)
      · refine lv_bipush (v := (-2)) hx hb dX12_check_52 (by decide) ?_
        exact hret ((-2), u5.1, u5.2.1, u5.2.2.1, u5.2.2.2.1, u5.2.2.2.2.1, u5.2.2.2.2.2.1, u5.2.2.2.2.2.2.1, u5.2.2.2.2.2.2.2.1, u5.2.2.2.2.2.2.2.2) _ _ _ _ hf hP hD hS dX12_check_54
      · refine lv_aload_n hx hb dX12_check_44 rfl (lv_at hl 0 rfl) ?_
        refine z_get (ci := 12) (C := RX12) (T := TX12) (N := 51) (v := .int (u5.1 29)) hx hb hts inT_X12 hown hK hP 0 rfl rfl 29 (by decide) tf_X12_209 rfl dX12_check_45 ?_
        refine lv_iconst (v := (-1)) hx hb dX12_check_48 (by decide) ?_
        refine z_icmp_ne (tgt := 55) hx hb dX12_check_49 (by decide) hf (fun hf => ?_) (fun hf => ?_)
        · exact L55 u5.1 u5.2.1 u5.2.2.1 u5.2.2.2.1 u5.2.2.2.2.1 u5.2.2.2.2.2.1 u5.2.2.2.2.2.2.1 u5.2.2.2.2.2.2.2.1 u5.2.2.2.2.2.2.2.2 _ _ _ hf hP hD hS (lv_sub hl [0, 1] rfl)
        · refine lv_bipush (v := (-2)) hx hb dX12_check_52 (by decide) ?_
          exact hret ((-2), u5.1, u5.2.1, u5.2.2.1, u5.2.2.2.1, u5.2.2.2.2.1, u5.2.2.2.2.2.1, u5.2.2.2.2.2.2.1, u5.2.2.2.2.2.2.2.1, u5.2.2.2.2.2.2.2.2) _ _ _ _ hf hP hD hS dX12_check_54
  · refine lv_iconst (v := 0) hx hb dX12_check_19 (by decide) ?_
    exact hret (0, u3.2, a_rows, a_words, a_address, a_number, a_memory, a_order, a_image, a_well) _ _ _ _ hf hP hD hS dX12_check_20
abbrev w_X12_isReady (h_t : Nat) (r_t : Nat → Nat) (F_t : Nat → Int32) (cI : ClassId) (a_rows : Nat → Int32) (a_words : Nat → Int32) (a_address : Nat → Int32) (a_number : Nat → Int32) : va_W := [(h_t, .inr (12, o_X12 r_t F_t)), ((r_t 0), .inl (cI, 66100, .inl a_rows)), ((r_t 16), .inl (cI, 64, .inl a_words)), ((r_t 17), .inl (cI, 64, .inl a_address)), ((r_t 18), .inl (cI, 64, .inl a_number))]
abbrev rm_X12_isReady : Room := { frames := 8, cells := 0, slots := 0, locals := 183 }
def m_X12_isReady (F_t : Nat → Int32) (a_rows : Nat → Int32) (a_words : Nat → Int32) (a_address : Nat → Int32) (a_number : Nat → Int32) : Option (Int32 × (Nat → Int32) × (Nat → Int32) × (Nat → Int32) × (Nat → Int32) × (Nat → Int32)) :=
  rd a_rows 66100 772 fun y1 =>
  if y1 = 0 then (
  rd a_rows 66100 776 fun y2 =>
  if y2 = 0 then (
  bd (m_X12_copies a_rows 0 1572 786) fun u3 =>
  bd (m_X12_isBegun F_t u3 a_words a_address a_number 1572) fun u4 =>
  cb u4.1 (some (u4.1, u4.2.1, u4.2.2.1, u4.2.2.2.1, u4.2.2.2.2.1, u4.2.2.2.2.2)))
  else (
  some (0, F_t, a_rows, a_words, a_address, a_number)))
  else (
  some (0, F_t, a_rows, a_words, a_address, a_number))
set_option maxHeartbeats 4000000 in
set_option maxRecDepth 100000 in
theorem c_X12_isReady (l : Launch) (D : va_G) (cI : ClassId) (h_t : Nat) (r_t : Nat → Nat) (F_t : Nat → Int32) (a_rows : Nat → Int32) (a_words : Nat → Int32) (a_address : Nat → Int32) (a_number : Nat → Int32) (Rr : Int32 × (Nat → Int32) × (Nat → Int32) × (Nat → Int32) × (Nat → Int32) × (Nat → Int32)) (hf : m_X12_isReady F_t a_rows a_words a_address a_number = some Rr) : CTi l yX12_isReady (Cond.code yX12_isReady cX12_isReady 1 (some .boolean)) rm_X12_isReady D cI [.ref h_t] (w_X12_isReady h_t r_t F_t cI a_rows a_words a_address a_number) Rr.1 (w_X12_isReady h_t r_t Rr.2.1 cI Rr.2.2.1 Rr.2.2.2.1 Rr.2.2.2.2.1 Rr.2.2.2.2.2) := by
  refine z_begin_z (own := RX12) (ρ := Int32 × (Nat → Int32) × (Nat → Int32) × (Nat → Int32) × (Nat → Int32) × (Nat → Int32)) (fun u => w_X12_isReady h_t r_t u.2.1 cI u.2.2.1 u.2.2.2.1 u.2.2.2.2.1 u.2.2.2.2.2) (fun u => u.1) (by decide +kernel) rfl (Nat.le_of_ble_eq_true rfl) ?_
  intro p e s m args below meth c ls Q A hx hb hml hts hcx hown hK hX hA hP hD hS hl hret
  have hl : lv_has ls 1 [(0, .ref h_t)] := hl
  have hf := (m_X12_isReady.eq_1 _ _ _ _ _).symm.trans hf
  refine lv_aload_n hx hb dX12_isReady_0 rfl (lv_at hl 0 rfl) ?_
  refine z_get (ci := 12) (C := RX12) (T := TX12) (N := 51) (v := .ref (r_t 0)) hx hb hts inT_X12 hown hK hP 0 rfl rfl 0 (by decide) tf_X12_10 rfl dX12_isReady_1 ?_
  refine lv_sipush (v := 772) hx hb dX12_isReady_4 (by decide) ?_
  refine z_iald hx hb hK hP 1 rfl dX12_isReady_7 hf (fun y1 hf => ?_)
  refine z_if_ne (tgt := 22) hx hb dX12_isReady_8 (by decide) hf (fun hf => ?_) (fun hf => ?_)
  · refine lv_iconst (v := 0) hx hb dX12_isReady_22 (by decide) ?_
    exact hret (0, F_t, a_rows, a_words, a_address, a_number) _ _ _ _ (Or.inl rfl) hf hP hD hS dX12_isReady_23
  · refine lv_aload_n hx hb dX12_isReady_11 rfl (lv_at hl 0 rfl) ?_
    refine z_get (ci := 12) (C := RX12) (T := TX12) (N := 51) (v := .ref (r_t 0)) hx hb hts inT_X12 hown hK hP 0 rfl rfl 0 (by decide) tf_X12_10 rfl dX12_isReady_12 ?_
    refine lv_sipush (v := 776) hx hb dX12_isReady_15 (by decide) ?_
    refine z_iald hx hb hK hP 1 rfl dX12_isReady_18 hf (fun y2 hf => ?_)
    refine z_if_eq (tgt := 24) hx hb dX12_isReady_19 (by decide) hf (fun hf => ?_) (fun hf => ?_)
    · refine lv_aload_n hx hb dX12_isReady_24 rfl (lv_at hl 0 rfl) ?_
      refine lv_iconst (v := 0) hx hb dX12_isReady_25 (by decide) ?_
      refine lv_sipush (v := 1572) hx hb dX12_isReady_26 (by decide) ?_
      refine lv_sipush (v := 786) hx hb dX12_isReady_29 (by decide) ?_
      obtain ⟨u3, hu3, hf⟩ := bd_some hf
      refine z_cv (ws1 := w_X12_isReady h_t r_t F_t cI u3 a_words a_address a_number) (wr := List.filterMap (fun i : Nat => (w_X12_isReady h_t r_t F_t cI a_rows a_words a_address a_number)[i]?) [2, 3, 4]) (z_rV (rest := []) hx hb hml hown hcx hl.1 (c_X12_copies l D cI h_t r_t F_t a_rows 0 1572 786 u3 hu3 _) tl_X12_224 ti_X12_copies tz_X12_copies tn_X12 tc_X12_copies tm_X12_copies rfl rfl ⟨Nat.le_of_ble_eq_true rfl, Nat.le_of_ble_eq_true rfl⟩ hK hX hS hA hP hD [0, 1] rfl rfl 0 rfl rfl rfl rfl (Nat.le_of_ble_eq_true rfl) dX12_isReady_32 ⟨Nat.zero_le _, Nat.zero_le _⟩) hP hD hS hA [0, 1] [2, 3, 4] [3, 4, 0, 1, 2] rfl rfl rfl (by decide) rfl rfl (fun H locs hP hD hS => ?_)
      refine lv_aload_n hx hb dX12_isReady_35 rfl (lv_at hl 0 rfl) ?_
      refine lv_sipush (v := 1572) hx hb dX12_isReady_36 (by decide) ?_
      obtain ⟨u4, hu4, hf⟩ := bd_some hf
      refine z_ci (ws1 := w_X12_isReady h_t r_t u4.2.1 cI u4.2.2.1 u4.2.2.2.1 u4.2.2.2.2.1 u4.2.2.2.2.2) (wr := List.filterMap (fun i : Nat => (w_X12_isReady h_t r_t F_t cI u3 a_words a_address a_number)[i]?) []) (z_rV (rest := []) hx hb hml hown hcx hl.1 (c_X12_isBegun l D cI h_t r_t F_t u3 a_words a_address a_number 1572 u4 hu4 _) tl_X12_160 ti_X12_isBegun tz_X12_isBegun tn_X12 tc_X12_isBegun tm_X12_isBegun rfl rfl ⟨Nat.le_of_ble_eq_true rfl, Nat.le_of_ble_eq_true rfl⟩ hK hX hS hA hP hD [0, 1, 2, 3, 4] rfl rfl 0 rfl rfl rfl rfl (Nat.le_of_ble_eq_true rfl) dX12_isReady_39 ⟨Nat.zero_le _, Nat.zero_le _⟩) hP hD hS hA [0, 1, 2, 3, 4] [] [0, 1, 2, 3, 4] rfl rfl rfl (by decide) rfl rfl (fun H locs hP hD hS => ?_)
      obtain ⟨h01, hf⟩ := cb_some hf
      exact hret (u4.1, u4.2.1, u4.2.2.1, u4.2.2.2.1, u4.2.2.2.2.1, u4.2.2.2.2.2) _ _ _ _ h01 hf hP hD hS dX12_isReady_42
    · refine lv_iconst (v := 0) hx hb dX12_isReady_22 (by decide) ?_
      exact hret (0, F_t, a_rows, a_words, a_address, a_number) _ _ _ _ (Or.inl rfl) hf hP hD hS dX12_isReady_23
abbrev w_X12_needless (h_t : Nat) (r_t : Nat → Nat) (F_t : Nat → Int32) (cI : ClassId) (a_rows : Nat → Int32) (a_words : Nat → Int32) (a_address : Nat → Int32) (a_number : Nat → Int32) (a_memory : Nat → Int32) (a_order : Nat → Int32) (a_image : Nat → Int32) (a_well : Nat → Int32) : va_W := [(h_t, .inr (12, o_X12 r_t F_t)), ((r_t 0), .inl (cI, 66100, .inl a_rows)), ((r_t 16), .inl (cI, 64, .inl a_words)), ((r_t 17), .inl (cI, 64, .inl a_address)), ((r_t 18), .inl (cI, 64, .inl a_number)), ((r_t 23), .inl (cI, 64, .inl a_memory)), ((r_t 24), .inl (cI, 16, .inl a_order)), ((r_t 25), .inl (cI, 64, .inl a_image)), ((r_t 26), .inl (cI, 88, .inl a_well))]
abbrev rm_X12_needless : Room := { frames := 11, cells := 0, slots := 0, locals := 251 }
def m_X12_needless_j64 (k18 : Int32 → Int32 → (Nat → Int32) → (Nat → Int32) → (Nat → Int32) → (Nat → Int32) → (Nat → Int32) → (Nat → Int32) → (Nat → Int32) → (Nat → Int32) → (Nat → Int32) → Option (Int32 × (Nat → Int32) × (Nat → Int32) × (Nat → Int32) × (Nat → Int32) × (Nat → Int32) × (Nat → Int32) × (Nat → Int32) × (Nat → Int32) × (Nat → Int32))) (x1 : Int32) (x2 : Int32) (F_t : Nat → Int32) (a_rows : Nat → Int32) (a_words : Nat → Int32) (a_address : Nat → Int32) (a_number : Nat → Int32) (a_memory : Nat → Int32) (a_order : Nat → Int32) (a_image : Nat → Int32) (a_well : Nat → Int32) : Option (Int32 × (Nat → Int32) × (Nat → Int32) × (Nat → Int32) × (Nat → Int32) × (Nat → Int32) × (Nat → Int32) × (Nat → Int32) × (Nat → Int32) × (Nat → Int32)) :=
  nm (x2 + 1) fun v4 =>
  k18 x1 v4 F_t a_rows a_words a_address a_number a_memory a_order a_image a_well
def m_X12_needless_w18 : Nat → Int32 → Int32 → (Nat → Int32) → (Nat → Int32) → (Nat → Int32) → (Nat → Int32) → (Nat → Int32) → (Nat → Int32) → (Nat → Int32) → (Nat → Int32) → (Nat → Int32) → Option (Int32 × (Nat → Int32) × (Nat → Int32) × (Nat → Int32) × (Nat → Int32) × (Nat → Int32) × (Nat → Int32) × (Nat → Int32) × (Nat → Int32) × (Nat → Int32))
  | 0, _, _, _, _, _, _, _, _, _, _, _ => none
  | n18 + 1, x1, x2, F_t, a_rows, a_words, a_address, a_number, a_memory, a_order, a_image, a_well =>
    if 7 ≤ x2 then (
    some (x1, F_t, a_rows, a_words, a_address, a_number, a_memory, a_order, a_image, a_well))
    else (
    rd a_rows 66100 773 fun y3 =>
    if ((y3 >>> (x2 &&& 31)) &&& 1) = 0 then (
    rd a_rows 66100 773 fun y5 =>
    bd (m_X12_isWell F_t a_rows a_words a_address a_number a_memory a_order a_image a_well (y5 ||| ((1 : Int32) <<< (x2 &&& 31)))) fun u6 =>
    if u6.1 = 0 then (
    m_X12_needless_j64 (m_X12_needless_w18 n18) x1 x2 u6.2.1 u6.2.2.1 u6.2.2.2.1 u6.2.2.2.2.1 u6.2.2.2.2.2.1 u6.2.2.2.2.2.2.1 u6.2.2.2.2.2.2.2.1 u6.2.2.2.2.2.2.2.2.1 u6.2.2.2.2.2.2.2.2.2)
    else (
    nm (x1 ||| ((1 : Int32) <<< (x2 &&& 31))) fun v7 =>
    m_X12_needless_j64 (m_X12_needless_w18 n18) v7 x2 u6.2.1 u6.2.2.1 u6.2.2.2.1 u6.2.2.2.2.1 u6.2.2.2.2.2.1 u6.2.2.2.2.2.2.1 u6.2.2.2.2.2.2.2.1 u6.2.2.2.2.2.2.2.2.1 u6.2.2.2.2.2.2.2.2.2))
    else (
    m_X12_needless_j64 (m_X12_needless_w18 n18) x1 x2 F_t a_rows a_words a_address a_number a_memory a_order a_image a_well))
def m_X12_needless (F_t : Nat → Int32) (a_rows : Nat → Int32) (a_words : Nat → Int32) (a_address : Nat → Int32) (a_number : Nat → Int32) (a_memory : Nat → Int32) (a_order : Nat → Int32) (a_image : Nat → Int32) (a_well : Nat → Int32) : Option (Int32 × (Nat → Int32) × (Nat → Int32) × (Nat → Int32) × (Nat → Int32) × (Nat → Int32) × (Nat → Int32) × (Nat → Int32) × (Nat → Int32) × (Nat → Int32)) :=
  nm (upd F_t 4 0) fun F1 =>
  bd (m_X12_isReady F1 a_rows a_words a_address a_number) fun u2 =>
  if u2.1 = 0 then (
  some ((-1), u2.2.1, u2.2.2.1, u2.2.2.2.1, u2.2.2.2.2.1, u2.2.2.2.2.2, a_memory, a_order, a_image, a_well))
  else (
  m_X12_needless_w18 fuelN 0 0 u2.2.1 u2.2.2.1 u2.2.2.2.1 u2.2.2.2.2.1 u2.2.2.2.2.2 a_memory a_order a_image a_well)
set_option maxHeartbeats 4000000 in
set_option maxRecDepth 100000 in
theorem c_X12_needless (l : Launch) (D : va_G) (cI : ClassId) (h_t : Nat) (r_t : Nat → Nat) (F_t : Nat → Int32) (a_rows : Nat → Int32) (a_words : Nat → Int32) (a_address : Nat → Int32) (a_number : Nat → Int32) (a_memory : Nat → Int32) (a_order : Nat → Int32) (a_image : Nat → Int32) (a_well : Nat → Int32) (Rr : Int32 × (Nat → Int32) × (Nat → Int32) × (Nat → Int32) × (Nat → Int32) × (Nat → Int32) × (Nat → Int32) × (Nat → Int32) × (Nat → Int32) × (Nat → Int32)) (hf : m_X12_needless F_t a_rows a_words a_address a_number a_memory a_order a_image a_well = some Rr) : CTi l yX12_needless (Cond.code yX12_needless cX12_needless 3 (some .int)) rm_X12_needless D cI [.ref h_t] (w_X12_needless h_t r_t F_t cI a_rows a_words a_address a_number a_memory a_order a_image a_well) Rr.1 (w_X12_needless h_t r_t Rr.2.1 cI Rr.2.2.1 Rr.2.2.2.1 Rr.2.2.2.2.1 Rr.2.2.2.2.2.1 Rr.2.2.2.2.2.2.1 Rr.2.2.2.2.2.2.2.1 Rr.2.2.2.2.2.2.2.2.1 Rr.2.2.2.2.2.2.2.2.2) := by
  refine z_begin_i (own := RX12) (ρ := Int32 × (Nat → Int32) × (Nat → Int32) × (Nat → Int32) × (Nat → Int32) × (Nat → Int32) × (Nat → Int32) × (Nat → Int32) × (Nat → Int32) × (Nat → Int32)) (fun u => w_X12_needless h_t r_t u.2.1 cI u.2.2.1 u.2.2.2.1 u.2.2.2.2.1 u.2.2.2.2.2.1 u.2.2.2.2.2.2.1 u.2.2.2.2.2.2.2.1 u.2.2.2.2.2.2.2.2.1 u.2.2.2.2.2.2.2.2.2) (fun u => u.1) (by decide +kernel) rfl (Nat.le_of_ble_eq_true rfl) ?_
  intro p e s m args below meth c ls Q A hx hb hml hts hcx hown hK hX hA hP hD hS hl hret
  have hl : lv_has ls 3 [(0, .ref h_t)] := hl
  have hf := (m_X12_needless.eq_1 _ _ _ _ _ _ _ _ _).symm.trans hf
  have L18 : ∀ (n18 : Nat) (x1 : Int32) (x2 : Int32) (F_t : Nat → Int32) (a_rows : Nat → Int32) (a_words : Nat → Int32) (a_address : Nat → Int32) (a_number : Nat → Int32) (a_memory : Nat → Int32) (a_order : Nat → Int32) (a_image : Nat → Int32) (a_well : Nat → Int32) (H : Heap) (locs : List Loc) (ls : Array Slot), m_X12_needless_w18 n18 x1 x2 F_t a_rows a_words a_address a_number a_memory a_order a_image a_well = some Rr → va_P D vwCl (w_X12_needless h_t r_t F_t cI a_rows a_words a_address a_number a_memory a_order a_image a_well) H → va_D A (w_X12_needless h_t r_t F_t cI a_rows a_words a_address a_number a_memory a_order a_image a_well) → va_S A s.heap H locs → lv_has ls 3 [(0, .ref h_t), (1, .int x1), (2, .int x2)] → W p l e rm_X12_needless s m args below meth c H locs 0 0 Q (F0 m 18 ls []) := by
    intro n18
    induction n18 with
    | zero => intro x1 x2 F_t a_rows a_words a_address a_number a_memory a_order a_image a_well H locs ls hf; cases (show (none : Option _) = some Rr from hf)
    | succ n18 ih18 =>
      intro x1 x2 F_t a_rows a_words a_address a_number a_memory a_order a_image a_well H locs ls hf hP hD hS hl
      have hf := (m_X12_needless_w18.eq_2 _ _ _ _ _ _ _ _ _ _ _ _).symm.trans hf
      have L64 : ∀ (x1 : Int32) (x2 : Int32) (F_t : Nat → Int32) (a_rows : Nat → Int32) (a_words : Nat → Int32) (a_address : Nat → Int32) (a_number : Nat → Int32) (a_memory : Nat → Int32) (a_order : Nat → Int32) (a_image : Nat → Int32) (a_well : Nat → Int32) (H : Heap) (locs : List Loc) (ls : Array Slot), m_X12_needless_j64 (m_X12_needless_w18 n18) x1 x2 F_t a_rows a_words a_address a_number a_memory a_order a_image a_well = some Rr → va_P D vwCl (w_X12_needless h_t r_t F_t cI a_rows a_words a_address a_number a_memory a_order a_image a_well) H → va_D A (w_X12_needless h_t r_t F_t cI a_rows a_words a_address a_number a_memory a_order a_image a_well) → va_S A s.heap H locs → lv_has ls 3 [(0, .ref h_t), (1, .int x1), (2, .int x2)] → W p l e rm_X12_needless s m args below meth c H locs 0 0 Q (F0 m 64 ls []) := by
        intro x1 x2 F_t a_rows a_words a_address a_number a_memory a_order a_image a_well H locs ls hf hP hD hS hl
        have hf := (m_X12_needless_j64.eq_1 _ _ _ _ _ _ _ _ _ _ _ _).symm.trans hf
        refine z_iinc (k0 := 2) (fun z => [(2, .int z), (0, .ref h_t), (1, .int x1)]) hx hb dX12_needless_64 hl rfl (by decide) (by decide) (fun _ => rfl) hf (fun v4 ls hf hl => ?_)
        refine lv_goto (tgt := 18) hx hb dX12_needless_67 (by decide) ?_
        exact ih18 x1 v4 F_t a_rows a_words a_address a_number a_memory a_order a_image a_well _ _ _ hf hP hD hS (lv_sub hl [1, 2, 0] rfl)
      refine lv_iload_n hx hb dX12_needless_18 rfl (lv_at hl 2 rfl) ?_
      refine lv_bipush (v := 7) hx hb dX12_needless_19 (by decide) ?_
      refine z_icmp_ge (tgt := 70) hx hb dX12_needless_21 (by decide) hf (fun hf => ?_) (fun hf => ?_)
      · refine lv_iload_n hx hb dX12_needless_70 rfl (lv_at hl 1 rfl) ?_
        exact hret (x1, F_t, a_rows, a_words, a_address, a_number, a_memory, a_order, a_image, a_well) _ _ _ _ hf hP hD hS dX12_needless_71
      · refine lv_aload_n hx hb dX12_needless_24 rfl (lv_at hl 0 rfl) ?_
        refine z_get (ci := 12) (C := RX12) (T := TX12) (N := 51) (v := .ref (r_t 0)) hx hb hts inT_X12 hown hK hP 0 rfl rfl 0 (by decide) tf_X12_10 rfl dX12_needless_25 ?_
        refine lv_sipush (v := 773) hx hb dX12_needless_28 (by decide) ?_
        refine z_iald hx hb hK hP 1 rfl dX12_needless_31 hf (fun y3 hf => ?_)
        refine lv_iload_n hx hb dX12_needless_32 rfl (lv_at hl 2 rfl) ?_
        refine lv_ishr hx hb dX12_needless_33 ?_
        refine lv_iconst (v := 1) hx hb dX12_needless_34 (by decide) ?_
        refine lv_iand hx hb dX12_needless_35 ?_
        refine z_if_ne (tgt := 64) hx hb dX12_needless_36 (by decide) hf (fun hf => ?_) (fun hf => ?_)
        · exact L64 x1 x2 F_t a_rows a_words a_address a_number a_memory a_order a_image a_well _ _ _ hf hP hD hS (lv_sub hl [0, 1, 2] rfl)
        · refine lv_aload_n hx hb dX12_needless_39 rfl (lv_at hl 0 rfl) ?_
          refine lv_aload_n hx hb dX12_needless_40 rfl (lv_at hl 0 rfl) ?_
          refine z_get (ci := 12) (C := RX12) (T := TX12) (N := 51) (v := .ref (r_t 0)) hx hb hts inT_X12 hown hK hP 0 rfl rfl 0 (by decide) tf_X12_10 rfl dX12_needless_41 ?_
          refine lv_sipush (v := 773) hx hb dX12_needless_44 (by decide) ?_
          refine z_iald hx hb hK hP 1 rfl dX12_needless_47 hf (fun y5 hf => ?_)
          refine lv_iconst (v := 1) hx hb dX12_needless_48 (by decide) ?_
          refine lv_iload_n hx hb dX12_needless_49 rfl (lv_at hl 2 rfl) ?_
          refine lv_ishl hx hb dX12_needless_50 ?_
          refine lv_ior hx hb dX12_needless_51 ?_
          obtain ⟨u6, hu6, hf⟩ := bd_some hf
          refine z_ci (ws1 := w_X12_needless h_t r_t u6.2.1 cI u6.2.2.1 u6.2.2.2.1 u6.2.2.2.2.1 u6.2.2.2.2.2.1 u6.2.2.2.2.2.2.1 u6.2.2.2.2.2.2.2.1 u6.2.2.2.2.2.2.2.2.1 u6.2.2.2.2.2.2.2.2.2) (wr := List.filterMap (fun i : Nat => (w_X12_needless h_t r_t F_t cI a_rows a_words a_address a_number a_memory a_order a_image a_well)[i]?) []) (z_rV (rest := []) hx hb hml hown hcx hl.1 (c_X12_isWell l D cI h_t r_t F_t a_rows a_words a_address a_number a_memory a_order a_image a_well (y5 ||| ((1 : Int32) <<< (x2 &&& 31))) u6 hu6 _) tl_X12_376 ti_X12_isWell tz_X12_isWell tn_X12 tc_X12_isWell tm_X12_isWell rfl rfl ⟨Nat.le_of_ble_eq_true rfl, Nat.le_of_ble_eq_true rfl⟩ hK hX hS hA hP hD [0, 1, 2, 3, 4, 5, 6, 7, 8] rfl rfl 0 rfl rfl rfl rfl (Nat.le_of_ble_eq_true rfl) dX12_needless_52 ⟨Nat.zero_le _, Nat.zero_le _⟩) hP hD hS hA [0, 1, 2, 3, 4, 5, 6, 7, 8] [] [0, 1, 2, 3, 4, 5, 6, 7, 8] rfl rfl rfl (by decide) rfl rfl (fun H locs hP hD hS => ?_)
          refine z_if_eq (tgt := 64) hx hb dX12_needless_55 (by decide) hf (fun hf => ?_) (fun hf => ?_)
          · exact L64 x1 x2 u6.2.1 u6.2.2.1 u6.2.2.2.1 u6.2.2.2.2.1 u6.2.2.2.2.2.1 u6.2.2.2.2.2.2.1 u6.2.2.2.2.2.2.2.1 u6.2.2.2.2.2.2.2.2.1 u6.2.2.2.2.2.2.2.2.2 _ _ _ hf hP hD hS (lv_sub hl [0, 1, 2] rfl)
          · refine lv_iload_n hx hb dX12_needless_58 rfl (lv_at hl 1 rfl) ?_
            refine lv_iconst (v := 1) hx hb dX12_needless_59 (by decide) ?_
            refine lv_iload_n hx hb dX12_needless_60 rfl (lv_at hl 2 rfl) ?_
            refine lv_ishl hx hb dX12_needless_61 ?_
            refine lv_ior hx hb dX12_needless_62 ?_
            refine z_istore_n (fun z => [(1, .int z), (0, .ref h_t), (2, .int x2)]) hx hb dX12_needless_63 rfl hl (by decide) (fun _ => rfl) hf (fun v7 ls hf hl => ?_)
            exact L64 v7 x2 u6.2.1 u6.2.2.1 u6.2.2.2.1 u6.2.2.2.2.1 u6.2.2.2.2.2.1 u6.2.2.2.2.2.2.1 u6.2.2.2.2.2.2.2.1 u6.2.2.2.2.2.2.2.2.1 u6.2.2.2.2.2.2.2.2.2 _ _ _ hf hP hD hS (lv_sub hl [1, 0, 2] rfl)
  refine lv_aload_n hx hb dX12_needless_0 rfl (lv_at hl 0 rfl) ?_
  refine lv_iconst (v := 0) hx hb dX12_needless_1 (by decide) ?_
  refine z_put (ci := 12) (C := RX12) (T := TX12) (N := 51) hx hb hts inT_X12 tyX12 tyX12_ok nmX12 hown hK hP hD hS 0 rfl rfl 4 (by decide) tf_X12_63 rfl (by decide +kernel) (Nat.le_of_ble_eq_true rfl) (o_X12 r_t) (o_X12_s4 _ _ _) (fun z => w_X12_needless h_t r_t z cI a_rows a_words a_address a_number a_memory a_order a_image a_well) (fun _ => rfl) dX12_needless_2 hf (fun F1 H locs hf hP hD hS => ?_)
  refine lv_aload_n hx hb dX12_needless_5 rfl (lv_at hl 0 rfl) ?_
  obtain ⟨u2, hu2, hf⟩ := bd_some hf
  refine z_ci (ws1 := w_X12_needless h_t r_t u2.2.1 cI u2.2.2.1 u2.2.2.2.1 u2.2.2.2.2.1 u2.2.2.2.2.2 a_memory a_order a_image a_well) (wr := List.filterMap (fun i : Nat => (w_X12_needless h_t r_t F1 cI a_rows a_words a_address a_number a_memory a_order a_image a_well)[i]?) [5, 6, 7, 8]) (z_rV (rest := []) hx hb hml hown hcx hl.1 (c_X12_isReady l D cI h_t r_t F1 a_rows a_words a_address a_number u2 hu2 _) tl_X12_372 ti_X12_isReady tz_X12_isReady tn_X12 tc_X12_isReady tm_X12_isReady rfl rfl ⟨Nat.le_of_ble_eq_true rfl, Nat.le_of_ble_eq_true rfl⟩ hK hX hS hA hP hD [0, 1, 2, 3, 4] rfl rfl 0 rfl rfl rfl rfl (Nat.le_of_ble_eq_true rfl) dX12_needless_6 ⟨Nat.zero_le _, Nat.zero_le _⟩) hP hD hS hA [0, 1, 2, 3, 4] [5, 6, 7, 8] [4, 5, 6, 7, 8, 0, 1, 2, 3] rfl rfl rfl (by decide) rfl rfl (fun H locs hP hD hS => ?_)
  refine z_if_ne (tgt := 14) hx hb dX12_needless_9 (by decide) hf (fun hf => ?_) (fun hf => ?_)
  · refine lv_iconst (v := 0) hx hb dX12_needless_14 (by decide) ?_
    refine lv_istore_n (lv' := [(1, .int 0), (0, .ref h_t)]) hx hb dX12_needless_15 rfl hl (by decide) rfl (fun ls hl => ?_)
    refine lv_iconst (v := 0) hx hb dX12_needless_16 (by decide) ?_
    refine lv_istore_n (lv' := [(2, .int 0), (1, .int 0), (0, .ref h_t)]) hx hb dX12_needless_17 rfl hl (by decide) rfl (fun ls hl => ?_)
    exact L18 fuelN 0 0 u2.2.1 u2.2.2.1 u2.2.2.2.1 u2.2.2.2.2.1 u2.2.2.2.2.2 a_memory a_order a_image a_well _ _ _ hf hP hD hS (lv_sub hl [2, 1, 0] rfl)
  · refine lv_iconst (v := (-1)) hx hb dX12_needless_12 (by decide) ?_
    exact hret ((-1), u2.2.1, u2.2.2.1, u2.2.2.2.1, u2.2.2.2.2.1, u2.2.2.2.2.2, a_memory, a_order, a_image, a_well) _ _ _ _ hf hP hD hS dX12_needless_13
abbrev w_X12_least (h_t : Nat) (r_t : Nat → Nat) (F_t : Nat → Int32) (cI : ClassId) (a_rows : Nat → Int32) (a_words : Nat → Int32) (a_address : Nat → Int32) (a_number : Nat → Int32) (a_memory : Nat → Int32) (a_order : Nat → Int32) (a_image : Nat → Int32) (a_well : Nat → Int32) : va_W := [(h_t, .inr (12, o_X12 r_t F_t)), ((r_t 0), .inl (cI, 66100, .inl a_rows)), ((r_t 16), .inl (cI, 64, .inl a_words)), ((r_t 17), .inl (cI, 64, .inl a_address)), ((r_t 18), .inl (cI, 64, .inl a_number)), ((r_t 23), .inl (cI, 64, .inl a_memory)), ((r_t 24), .inl (cI, 16, .inl a_order)), ((r_t 25), .inl (cI, 64, .inl a_image)), ((r_t 26), .inl (cI, 88, .inl a_well))]
abbrev rm_X12_least : Room := { frames := 11, cells := 0, slots := 0, locals := 251 }
def m_X12_least_j92 (p1 : Int32) (x2 : Int32) (F_t : Nat → Int32) (a_rows : Nat → Int32) (a_words : Nat → Int32) (a_address : Nat → Int32) (a_number : Nat → Int32) (a_memory : Nat → Int32) (a_order : Nat → Int32) (a_image : Nat → Int32) (a_well : Nat → Int32) : Option (Int32 × (Nat → Int32) × (Nat → Int32) × (Nat → Int32) × (Nat → Int32) × (Nat → Int32) × (Nat → Int32) × (Nat → Int32) × (Nat → Int32) × (Nat → Int32)) :=
  if p1 = 0 then (
  some (x2, F_t, a_rows, a_words, a_address, a_number, a_memory, a_order, a_image, a_well))
  else (
  if x2 = (-1) then (
  some (x2, F_t, a_rows, a_words, a_address, a_number, a_memory, a_order, a_image, a_well))
  else (
  bd (m_X12_bits x2) fun u5 =>
  some (u5, F_t, a_rows, a_words, a_address, a_number, a_memory, a_order, a_image, a_well)))
def m_X12_least_j86 (p1 : Int32) (k34 : Int32 → Int32 → (Nat → Int32) → (Nat → Int32) → (Nat → Int32) → (Nat → Int32) → (Nat → Int32) → (Nat → Int32) → (Nat → Int32) → (Nat → Int32) → (Nat → Int32) → Option (Int32 × (Nat → Int32) × (Nat → Int32) × (Nat → Int32) × (Nat → Int32) × (Nat → Int32) × (Nat → Int32) × (Nat → Int32) × (Nat → Int32) × (Nat → Int32))) (x2 : Int32) (x3 : Int32) (F_t : Nat → Int32) (a_rows : Nat → Int32) (a_words : Nat → Int32) (a_address : Nat → Int32) (a_number : Nat → Int32) (a_memory : Nat → Int32) (a_order : Nat → Int32) (a_image : Nat → Int32) (a_well : Nat → Int32) : Option (Int32 × (Nat → Int32) × (Nat → Int32) × (Nat → Int32) × (Nat → Int32) × (Nat → Int32) × (Nat → Int32) × (Nat → Int32) × (Nat → Int32) × (Nat → Int32)) :=
  nm (x3 + 1) fun v8 =>
  k34 x2 v8 F_t a_rows a_words a_address a_number a_memory a_order a_image a_well
def m_X12_least_j59 (p1 : Int32) (k34 : Int32 → Int32 → (Nat → Int32) → (Nat → Int32) → (Nat → Int32) → (Nat → Int32) → (Nat → Int32) → (Nat → Int32) → (Nat → Int32) → (Nat → Int32) → (Nat → Int32) → Option (Int32 × (Nat → Int32) × (Nat → Int32) × (Nat → Int32) × (Nat → Int32) × (Nat → Int32) × (Nat → Int32) × (Nat → Int32) × (Nat → Int32) × (Nat → Int32))) (x2 : Int32) (x3 : Int32) (F_t : Nat → Int32) (a_rows : Nat → Int32) (a_words : Nat → Int32) (a_address : Nat → Int32) (a_number : Nat → Int32) (a_memory : Nat → Int32) (a_order : Nat → Int32) (a_image : Nat → Int32) (a_well : Nat → Int32) : Option (Int32 × (Nat → Int32) × (Nat → Int32) × (Nat → Int32) × (Nat → Int32) × (Nat → Int32) × (Nat → Int32) × (Nat → Int32) × (Nat → Int32) × (Nat → Int32)) :=
  rd a_rows 66100 773 fun y6 =>
  bd (m_X12_isWell F_t a_rows a_words a_address a_number a_memory a_order a_image a_well ((y6 &&& (-16)) ||| (15 &&& (x3 ^^^ (-1))))) fun u7 =>
  if u7.1 = 0 then (
  m_X12_least_j86 p1 k34 x2 x3 u7.2.1 u7.2.2.1 u7.2.2.2.1 u7.2.2.2.2.1 u7.2.2.2.2.2.1 u7.2.2.2.2.2.2.1 u7.2.2.2.2.2.2.2.1 u7.2.2.2.2.2.2.2.2.1 u7.2.2.2.2.2.2.2.2.2)
  else (
  m_X12_least_j86 p1 k34 x3 x3 u7.2.1 u7.2.2.1 u7.2.2.2.1 u7.2.2.2.2.1 u7.2.2.2.2.2.1 u7.2.2.2.2.2.2.1 u7.2.2.2.2.2.2.2.1 u7.2.2.2.2.2.2.2.2.1 u7.2.2.2.2.2.2.2.2.2)
def m_X12_least_w34 (p1 : Int32) (k92 : Int32 → (Nat → Int32) → (Nat → Int32) → (Nat → Int32) → (Nat → Int32) → (Nat → Int32) → (Nat → Int32) → (Nat → Int32) → (Nat → Int32) → (Nat → Int32) → Option (Int32 × (Nat → Int32) × (Nat → Int32) × (Nat → Int32) × (Nat → Int32) × (Nat → Int32) × (Nat → Int32) × (Nat → Int32) × (Nat → Int32) × (Nat → Int32))) : Nat → Int32 → Int32 → (Nat → Int32) → (Nat → Int32) → (Nat → Int32) → (Nat → Int32) → (Nat → Int32) → (Nat → Int32) → (Nat → Int32) → (Nat → Int32) → (Nat → Int32) → Option (Int32 × (Nat → Int32) × (Nat → Int32) × (Nat → Int32) × (Nat → Int32) × (Nat → Int32) × (Nat → Int32) × (Nat → Int32) × (Nat → Int32) × (Nat → Int32))
  | 0, _, _, _, _, _, _, _, _, _, _, _ => none
  | n34 + 1, x2, x3, F_t, a_rows, a_words, a_address, a_number, a_memory, a_order, a_image, a_well =>
    if 16 ≤ x3 then (
    k92 x2 F_t a_rows a_words a_address a_number a_memory a_order a_image a_well)
    else (
    if x2 = (-1) then (
    m_X12_least_j59 p1 (m_X12_least_w34 p1 k92 n34) x2 x3 F_t a_rows a_words a_address a_number a_memory a_order a_image a_well)
    else (
    bd (m_X12_bits x3) fun u9 =>
    bd (m_X12_bits x2) fun u10 =>
    if u9 < u10 then (
    m_X12_least_j59 p1 (m_X12_least_w34 p1 k92 n34) x2 x3 F_t a_rows a_words a_address a_number a_memory a_order a_image a_well)
    else (
    m_X12_least_j86 p1 (m_X12_least_w34 p1 k92 n34) x2 x3 F_t a_rows a_words a_address a_number a_memory a_order a_image a_well)))
def m_X12_least (F_t : Nat → Int32) (a_rows : Nat → Int32) (a_words : Nat → Int32) (a_address : Nat → Int32) (a_number : Nat → Int32) (a_memory : Nat → Int32) (a_order : Nat → Int32) (a_image : Nat → Int32) (a_well : Nat → Int32) (p1 : Int32) : Option (Int32 × (Nat → Int32) × (Nat → Int32) × (Nat → Int32) × (Nat → Int32) × (Nat → Int32) × (Nat → Int32) × (Nat → Int32) × (Nat → Int32) × (Nat → Int32)) :=
  nm (upd F_t 4 0) fun F1 =>
  bd (m_X12_within p1 0 1) fun u2 =>
  bd (m_X12_right F1 u2 1) fun u3 =>
  if u3.1 = 0 then (
  some (0, u3.2, a_rows, a_words, a_address, a_number, a_memory, a_order, a_image, a_well))
  else (
  bd (m_X12_isReady u3.2 a_rows a_words a_address a_number) fun u4 =>
  if u4.1 = 0 then (
  some ((-1), u4.2.1, u4.2.2.1, u4.2.2.2.1, u4.2.2.2.2.1, u4.2.2.2.2.2, a_memory, a_order, a_image, a_well))
  else (
  m_X12_least_w34 p1 (m_X12_least_j92 p1) fuelN (-1) 0 u4.2.1 u4.2.2.1 u4.2.2.2.1 u4.2.2.2.2.1 u4.2.2.2.2.2 a_memory a_order a_image a_well))
set_option maxHeartbeats 4000000 in
set_option maxRecDepth 100000 in
theorem c_X12_least (l : Launch) (D : va_G) (cI : ClassId) (h_t : Nat) (r_t : Nat → Nat) (F_t : Nat → Int32) (a_rows : Nat → Int32) (a_words : Nat → Int32) (a_address : Nat → Int32) (a_number : Nat → Int32) (a_memory : Nat → Int32) (a_order : Nat → Int32) (a_image : Nat → Int32) (a_well : Nat → Int32) (p1 : Int32) (Rr : Int32 × (Nat → Int32) × (Nat → Int32) × (Nat → Int32) × (Nat → Int32) × (Nat → Int32) × (Nat → Int32) × (Nat → Int32) × (Nat → Int32) × (Nat → Int32)) (hf : m_X12_least F_t a_rows a_words a_address a_number a_memory a_order a_image a_well p1 = some Rr) : CTi l yX12_least (Cond.code yX12_least cX12_least 4 (some .int)) rm_X12_least D cI [.ref h_t, .int p1] (w_X12_least h_t r_t F_t cI a_rows a_words a_address a_number a_memory a_order a_image a_well) Rr.1 (w_X12_least h_t r_t Rr.2.1 cI Rr.2.2.1 Rr.2.2.2.1 Rr.2.2.2.2.1 Rr.2.2.2.2.2.1 Rr.2.2.2.2.2.2.1 Rr.2.2.2.2.2.2.2.1 Rr.2.2.2.2.2.2.2.2.1 Rr.2.2.2.2.2.2.2.2.2) := by
  refine z_begin_i (own := RX12) (ρ := Int32 × (Nat → Int32) × (Nat → Int32) × (Nat → Int32) × (Nat → Int32) × (Nat → Int32) × (Nat → Int32) × (Nat → Int32) × (Nat → Int32) × (Nat → Int32)) (fun u => w_X12_least h_t r_t u.2.1 cI u.2.2.1 u.2.2.2.1 u.2.2.2.2.1 u.2.2.2.2.2.1 u.2.2.2.2.2.2.1 u.2.2.2.2.2.2.2.1 u.2.2.2.2.2.2.2.2.1 u.2.2.2.2.2.2.2.2.2) (fun u => u.1) (by decide +kernel) rfl (Nat.le_of_ble_eq_true rfl) ?_
  intro p e s m args below meth c ls Q A hx hb hml hts hcx hown hK hX hA hP hD hS hl hret
  have hl : lv_has ls 4 [(0, .ref h_t), (1, .int p1)] := hl
  have hf := (m_X12_least.eq_1 _ _ _ _ _ _ _ _ _ _).symm.trans hf
  have L92 : ∀ (x2 : Int32) (F_t : Nat → Int32) (a_rows : Nat → Int32) (a_words : Nat → Int32) (a_address : Nat → Int32) (a_number : Nat → Int32) (a_memory : Nat → Int32) (a_order : Nat → Int32) (a_image : Nat → Int32) (a_well : Nat → Int32) (H : Heap) (locs : List Loc) (ls : Array Slot), m_X12_least_j92 p1 x2 F_t a_rows a_words a_address a_number a_memory a_order a_image a_well = some Rr → va_P D vwCl (w_X12_least h_t r_t F_t cI a_rows a_words a_address a_number a_memory a_order a_image a_well) H → va_D A (w_X12_least h_t r_t F_t cI a_rows a_words a_address a_number a_memory a_order a_image a_well) → va_S A s.heap H locs → lv_has ls 4 [(1, .int p1), (2, .int x2)] → W p l e rm_X12_least s m args below meth c H locs 0 0 Q (F0 m 92 ls []) := by
    intro x2 F_t a_rows a_words a_address a_number a_memory a_order a_image a_well H locs ls hf hP hD hS hl
    have hf := (m_X12_least_j92.eq_1 _ _ _ _ _ _ _ _ _ _ _).symm.trans hf
    refine lv_iload_n hx hb dX12_least_92 rfl (lv_at hl 0 rfl) ?_
    refine z_if_eq (tgt := 101) hx hb dX12_least_93 (by decide) hf (fun hf => ?_) (fun hf => ?_)
    · refine lv_iload_n hx hb dX12_least_101 rfl (lv_at hl 1 rfl) ?_
      refine lv_goto (tgt := 109) hx hb dX12_least_102 (by decide) ?_
      exact hret (x2, F_t, a_rows, a_words, a_address, a_number, a_memory, a_order, a_image, a_well) _ _ _ _ hf hP hD hS dX12_least_109
    · refine lv_iload_n hx hb dX12_least_96 rfl (lv_at hl 1 rfl) ?_
      refine lv_iconst (v := (-1)) hx hb dX12_least_97 (by decide) ?_
      refine z_icmp_ne (tgt := 105) hx hb dX12_least_98 (by decide) hf (fun hf => ?_) (fun hf => ?_)
      · refine lv_iload_n hx hb dX12_least_105 rfl (lv_at hl 1 rfl) ?_
        obtain ⟨u5, hu5, hf⟩ := bd_some hf
        refine z_ci (ws1 := w_X12_least h_t r_t F_t cI a_rows a_words a_address a_number a_memory a_order a_image a_well) (wr := List.filterMap (fun i : Nat => (w_X12_least h_t r_t F_t cI a_rows a_words a_address a_number a_memory a_order a_image a_well)[i]?) [0, 1, 2, 3, 4, 5, 6, 7, 8]) (z_rS (rest := []) hx hb hml hown hcx hl.1 (c_X12_bits l D cI x2 u5 hu5 _) tl_X12_379 ts_X12_bits tn_X12 tc_X12_bits tm_X12_bits rfl rfl ⟨Nat.le_of_ble_eq_true rfl, Nat.le_of_ble_eq_true rfl⟩ hK hX hS hA hP hD [] rfl rfl rfl rfl (Nat.le_of_ble_eq_true rfl) dX12_least_106 ⟨Nat.zero_le _, Nat.zero_le _⟩) hP hD hS hA [] [0, 1, 2, 3, 4, 5, 6, 7, 8] [0, 1, 2, 3, 4, 5, 6, 7, 8] rfl rfl rfl (by decide) rfl rfl (fun H locs hP hD hS => ?_)
        exact hret (u5, F_t, a_rows, a_words, a_address, a_number, a_memory, a_order, a_image, a_well) _ _ _ _ hf hP hD hS dX12_least_109
      · refine lv_iload_n hx hb dX12_least_101 rfl (lv_at hl 1 rfl) ?_
        refine lv_goto (tgt := 109) hx hb dX12_least_102 (by decide) ?_
        exact hret (x2, F_t, a_rows, a_words, a_address, a_number, a_memory, a_order, a_image, a_well) _ _ _ _ hf hP hD hS dX12_least_109
  have L34 : ∀ (n34 : Nat) (x2 : Int32) (x3 : Int32) (F_t : Nat → Int32) (a_rows : Nat → Int32) (a_words : Nat → Int32) (a_address : Nat → Int32) (a_number : Nat → Int32) (a_memory : Nat → Int32) (a_order : Nat → Int32) (a_image : Nat → Int32) (a_well : Nat → Int32) (H : Heap) (locs : List Loc) (ls : Array Slot), m_X12_least_w34 p1 (m_X12_least_j92 p1) n34 x2 x3 F_t a_rows a_words a_address a_number a_memory a_order a_image a_well = some Rr → va_P D vwCl (w_X12_least h_t r_t F_t cI a_rows a_words a_address a_number a_memory a_order a_image a_well) H → va_D A (w_X12_least h_t r_t F_t cI a_rows a_words a_address a_number a_memory a_order a_image a_well) → va_S A s.heap H locs → lv_has ls 4 [(0, .ref h_t), (1, .int p1), (2, .int x2), (3, .int x3)] → W p l e rm_X12_least s m args below meth c H locs 0 0 Q (F0 m 34 ls []) := by
    intro n34
    induction n34 with
    | zero => intro x2 x3 F_t a_rows a_words a_address a_number a_memory a_order a_image a_well H locs ls hf; cases (show (none : Option _) = some Rr from hf)
    | succ n34 ih34 =>
      intro x2 x3 F_t a_rows a_words a_address a_number a_memory a_order a_image a_well H locs ls hf hP hD hS hl
      have hf := (m_X12_least_w34.eq_2 _ _ _ _ _ _ _ _ _ _ _ _ _ _).symm.trans hf
      have L86 : ∀ (x2 : Int32) (x3 : Int32) (F_t : Nat → Int32) (a_rows : Nat → Int32) (a_words : Nat → Int32) (a_address : Nat → Int32) (a_number : Nat → Int32) (a_memory : Nat → Int32) (a_order : Nat → Int32) (a_image : Nat → Int32) (a_well : Nat → Int32) (H : Heap) (locs : List Loc) (ls : Array Slot), m_X12_least_j86 p1 (m_X12_least_w34 p1 (m_X12_least_j92 p1) n34) x2 x3 F_t a_rows a_words a_address a_number a_memory a_order a_image a_well = some Rr → va_P D vwCl (w_X12_least h_t r_t F_t cI a_rows a_words a_address a_number a_memory a_order a_image a_well) H → va_D A (w_X12_least h_t r_t F_t cI a_rows a_words a_address a_number a_memory a_order a_image a_well) → va_S A s.heap H locs → lv_has ls 4 [(0, .ref h_t), (1, .int p1), (2, .int x2), (3, .int x3)] → W p l e rm_X12_least s m args below meth c H locs 0 0 Q (F0 m 86 ls []) := by
        intro x2 x3 F_t a_rows a_words a_address a_number a_memory a_order a_image a_well H locs ls hf hP hD hS hl
        have hf := (m_X12_least_j86.eq_1 _ _ _ _ _ _ _ _ _ _ _ _ _).symm.trans hf
        refine z_iinc (k0 := 3) (fun z => [(3, .int z), (0, .ref h_t), (1, .int p1), (2, .int x2)]) hx hb dX12_least_86 hl rfl (by decide) (by decide) (fun _ => rfl) hf (fun v8 ls hf hl => ?_)
        refine lv_goto (tgt := 34) hx hb dX12_least_89 (by decide) ?_
        exact ih34 x2 v8 F_t a_rows a_words a_address a_number a_memory a_order a_image a_well _ _ _ hf hP hD hS (lv_sub hl [1, 2, 3, 0] rfl)
      have L59 : ∀ (x2 : Int32) (x3 : Int32) (F_t : Nat → Int32) (a_rows : Nat → Int32) (a_words : Nat → Int32) (a_address : Nat → Int32) (a_number : Nat → Int32) (a_memory : Nat → Int32) (a_order : Nat → Int32) (a_image : Nat → Int32) (a_well : Nat → Int32) (H : Heap) (locs : List Loc) (ls : Array Slot), m_X12_least_j59 p1 (m_X12_least_w34 p1 (m_X12_least_j92 p1) n34) x2 x3 F_t a_rows a_words a_address a_number a_memory a_order a_image a_well = some Rr → va_P D vwCl (w_X12_least h_t r_t F_t cI a_rows a_words a_address a_number a_memory a_order a_image a_well) H → va_D A (w_X12_least h_t r_t F_t cI a_rows a_words a_address a_number a_memory a_order a_image a_well) → va_S A s.heap H locs → lv_has ls 4 [(0, .ref h_t), (1, .int p1), (2, .int x2), (3, .int x3)] → W p l e rm_X12_least s m args below meth c H locs 0 0 Q (F0 m 59 ls []) := by
        intro x2 x3 F_t a_rows a_words a_address a_number a_memory a_order a_image a_well H locs ls hf hP hD hS hl
        have hf := (m_X12_least_j59.eq_1 _ _ _ _ _ _ _ _ _ _ _ _ _).symm.trans hf
        refine lv_aload_n hx hb dX12_least_59 rfl (lv_at hl 0 rfl) ?_
        refine lv_aload_n hx hb dX12_least_60 rfl (lv_at hl 0 rfl) ?_
        refine z_get (ci := 12) (C := RX12) (T := TX12) (N := 51) (v := .ref (r_t 0)) hx hb hts inT_X12 hown hK hP 0 rfl rfl 0 (by decide) tf_X12_10 rfl dX12_least_61 ?_
        refine lv_sipush (v := 773) hx hb dX12_least_64 (by decide) ?_
        refine z_iald hx hb hK hP 1 rfl dX12_least_67 hf (fun y6 hf => ?_)
        refine lv_bipush (v := (-16)) hx hb dX12_least_68 (by decide) ?_
        refine lv_iand hx hb dX12_least_70 ?_
        refine lv_bipush (v := 15) hx hb dX12_least_71 (by decide) ?_
        refine lv_iload_n hx hb dX12_least_73 rfl (lv_at hl 3 rfl) ?_
        refine lv_iconst (v := (-1)) hx hb dX12_least_74 (by decide) ?_
        refine lv_ixor hx hb dX12_least_75 ?_
        refine lv_iand hx hb dX12_least_76 ?_
        refine lv_ior hx hb dX12_least_77 ?_
        obtain ⟨u7, hu7, hf⟩ := bd_some hf
        refine z_ci (ws1 := w_X12_least h_t r_t u7.2.1 cI u7.2.2.1 u7.2.2.2.1 u7.2.2.2.2.1 u7.2.2.2.2.2.1 u7.2.2.2.2.2.2.1 u7.2.2.2.2.2.2.2.1 u7.2.2.2.2.2.2.2.2.1 u7.2.2.2.2.2.2.2.2.2) (wr := List.filterMap (fun i : Nat => (w_X12_least h_t r_t F_t cI a_rows a_words a_address a_number a_memory a_order a_image a_well)[i]?) []) (z_rV (rest := []) hx hb hml hown hcx hl.1 (c_X12_isWell l D cI h_t r_t F_t a_rows a_words a_address a_number a_memory a_order a_image a_well ((y6 &&& (-16)) ||| (15 &&& (x3 ^^^ (-1)))) u7 hu7 _) tl_X12_376 ti_X12_isWell tz_X12_isWell tn_X12 tc_X12_isWell tm_X12_isWell rfl rfl ⟨Nat.le_of_ble_eq_true rfl, Nat.le_of_ble_eq_true rfl⟩ hK hX hS hA hP hD [0, 1, 2, 3, 4, 5, 6, 7, 8] rfl rfl 0 rfl rfl rfl rfl (Nat.le_of_ble_eq_true rfl) dX12_least_78 ⟨Nat.zero_le _, Nat.zero_le _⟩) hP hD hS hA [0, 1, 2, 3, 4, 5, 6, 7, 8] [] [0, 1, 2, 3, 4, 5, 6, 7, 8] rfl rfl rfl (by decide) rfl rfl (fun H locs hP hD hS => ?_)
        refine z_if_eq (tgt := 86) hx hb dX12_least_81 (by decide) hf (fun hf => ?_) (fun hf => ?_)
        · exact L86 x2 x3 u7.2.1 u7.2.2.1 u7.2.2.2.1 u7.2.2.2.2.1 u7.2.2.2.2.2.1 u7.2.2.2.2.2.2.1 u7.2.2.2.2.2.2.2.1 u7.2.2.2.2.2.2.2.2.1 u7.2.2.2.2.2.2.2.2.2 _ _ _ hf hP hD hS (lv_sub hl [0, 1, 2, 3] rfl)
        · refine lv_iload_n hx hb dX12_least_84 rfl (lv_at hl 3 rfl) ?_
          refine lv_istore_n (lv' := [(2, .int x3), (0, .ref h_t), (1, .int p1), (3, .int x3)]) hx hb dX12_least_85 rfl hl (by decide) rfl (fun ls hl => ?_)
          exact L86 x3 x3 u7.2.1 u7.2.2.1 u7.2.2.2.1 u7.2.2.2.2.1 u7.2.2.2.2.2.1 u7.2.2.2.2.2.2.1 u7.2.2.2.2.2.2.2.1 u7.2.2.2.2.2.2.2.2.1 u7.2.2.2.2.2.2.2.2.2 _ _ _ hf hP hD hS (lv_sub hl [1, 2, 0, 3] rfl)
      refine lv_iload_n hx hb dX12_least_34 rfl (lv_at hl 3 rfl) ?_
      refine lv_bipush (v := 16) hx hb dX12_least_35 (by decide) ?_
      refine z_icmp_ge (tgt := 92) hx hb dX12_least_37 (by decide) hf (fun hf => ?_) (fun hf => ?_)
      · exact L92 x2 F_t a_rows a_words a_address a_number a_memory a_order a_image a_well _ _ _ hf hP hD hS (lv_sub hl [1, 2] rfl)
      · refine lv_iload_n hx hb dX12_least_40 rfl (lv_at hl 2 rfl) ?_
        refine lv_iconst (v := (-1)) hx hb dX12_least_41 (by decide) ?_
        refine z_icmp_eq (tgt := 59) hx hb dX12_least_42 (by decide) hf (fun hf => ?_) (fun hf => ?_)
        · exact L59 x2 x3 F_t a_rows a_words a_address a_number a_memory a_order a_image a_well _ _ _ hf hP hD hS (lv_sub hl [0, 1, 2, 3] rfl)
        · refine lv_iload_n hx hb dX12_least_45 rfl (lv_at hl 3 rfl) ?_
          obtain ⟨u9, hu9, hf⟩ := bd_some hf
          refine z_ci (ws1 := w_X12_least h_t r_t F_t cI a_rows a_words a_address a_number a_memory a_order a_image a_well) (wr := List.filterMap (fun i : Nat => (w_X12_least h_t r_t F_t cI a_rows a_words a_address a_number a_memory a_order a_image a_well)[i]?) [0, 1, 2, 3, 4, 5, 6, 7, 8]) (z_rS (rest := []) hx hb hml hown hcx hl.1 (c_X12_bits l D cI x3 u9 hu9 _) tl_X12_379 ts_X12_bits tn_X12 tc_X12_bits tm_X12_bits rfl rfl ⟨Nat.le_of_ble_eq_true rfl, Nat.le_of_ble_eq_true rfl⟩ hK hX hS hA hP hD [] rfl rfl rfl rfl (Nat.le_of_ble_eq_true rfl) dX12_least_46 ⟨Nat.zero_le _, Nat.zero_le _⟩) hP hD hS hA [] [0, 1, 2, 3, 4, 5, 6, 7, 8] [0, 1, 2, 3, 4, 5, 6, 7, 8] rfl rfl rfl (by decide) rfl rfl (fun H locs hP hD hS => ?_)
          refine lv_iload_n hx hb dX12_least_49 rfl (lv_at hl 2 rfl) ?_
          obtain ⟨u10, hu10, hf⟩ := bd_some hf
          refine z_ci (ws1 := w_X12_least h_t r_t F_t cI a_rows a_words a_address a_number a_memory a_order a_image a_well) (wr := List.filterMap (fun i : Nat => (w_X12_least h_t r_t F_t cI a_rows a_words a_address a_number a_memory a_order a_image a_well)[i]?) [0, 1, 2, 3, 4, 5, 6, 7, 8]) (z_rS (rest := [.int u9]) hx hb hml hown hcx hl.1 (c_X12_bits l D cI x2 u10 hu10 _) tl_X12_379 ts_X12_bits tn_X12 tc_X12_bits tm_X12_bits rfl rfl ⟨Nat.le_of_ble_eq_true rfl, Nat.le_of_ble_eq_true rfl⟩ hK hX hS hA hP hD [] rfl rfl rfl rfl (Nat.le_of_ble_eq_true rfl) dX12_least_50 ⟨Nat.zero_le _, Nat.zero_le _⟩) hP hD hS hA [] [0, 1, 2, 3, 4, 5, 6, 7, 8] [0, 1, 2, 3, 4, 5, 6, 7, 8] rfl rfl rfl (by decide) rfl rfl (fun H locs hP hD hS => ?_)
          refine z_icmp_lt (tgt := 59) hx hb dX12_least_53 (by decide) hf (fun hf => ?_) (fun hf => ?_)
          · exact L59 x2 x3 F_t a_rows a_words a_address a_number a_memory a_order a_image a_well _ _ _ hf hP hD hS (lv_sub hl [0, 1, 2, 3] rfl)
          · refine lv_goto (tgt := 86) hx hb dX12_least_56 (by decide) ?_
            exact L86 x2 x3 F_t a_rows a_words a_address a_number a_memory a_order a_image a_well _ _ _ hf hP hD hS (lv_sub hl [0, 1, 2, 3] rfl)
  refine lv_aload_n hx hb dX12_least_0 rfl (lv_at hl 0 rfl) ?_
  refine lv_iconst (v := 0) hx hb dX12_least_1 (by decide) ?_
  refine z_put (ci := 12) (C := RX12) (T := TX12) (N := 51) hx hb hts inT_X12 tyX12 tyX12_ok nmX12 hown hK hP hD hS 0 rfl rfl 4 (by decide) tf_X12_63 rfl (by decide +kernel) (Nat.le_of_ble_eq_true rfl) (o_X12 r_t) (o_X12_s4 _ _ _) (fun z => w_X12_least h_t r_t z cI a_rows a_words a_address a_number a_memory a_order a_image a_well) (fun _ => rfl) dX12_least_2 hf (fun F1 H locs hf hP hD hS => ?_)
  refine lv_aload_n hx hb dX12_least_5 rfl (lv_at hl 0 rfl) ?_
  refine lv_iload_n hx hb dX12_least_6 rfl (lv_at hl 1 rfl) ?_
  refine lv_iconst (v := 0) hx hb dX12_least_7 (by decide) ?_
  refine lv_iconst (v := 1) hx hb dX12_least_8 (by decide) ?_
  obtain ⟨u2, hu2, hf⟩ := bd_some hf
  refine z_ci (ws1 := w_X12_least h_t r_t F1 cI a_rows a_words a_address a_number a_memory a_order a_image a_well) (wr := List.filterMap (fun i : Nat => (w_X12_least h_t r_t F1 cI a_rows a_words a_address a_number a_memory a_order a_image a_well)[i]?) [0, 1, 2, 3, 4, 5, 6, 7, 8]) (z_rS (rest := [.ref h_t]) hx hb hml hown hcx hl.1 (c_X12_within l D cI p1 0 1 u2 hu2 _) tl_X12_172 ts_X12_within tn_X12 tc_X12_within tm_X12_within rfl rfl ⟨Nat.le_of_ble_eq_true rfl, Nat.le_of_ble_eq_true rfl⟩ hK hX hS hA hP hD [] rfl rfl rfl rfl (Nat.le_of_ble_eq_true rfl) dX12_least_9 ⟨Nat.zero_le _, Nat.zero_le _⟩) hP hD hS hA [] [0, 1, 2, 3, 4, 5, 6, 7, 8] [0, 1, 2, 3, 4, 5, 6, 7, 8] rfl rfl rfl (by decide) rfl rfl (fun H locs hP hD hS => ?_)
  refine lv_iconst (v := 1) hx hb dX12_least_12 (by decide) ?_
  obtain ⟨u3, hu3, hf⟩ := bd_some hf
  refine z_ci (ws1 := w_X12_least h_t r_t u3.2 cI a_rows a_words a_address a_number a_memory a_order a_image a_well) (wr := List.filterMap (fun i : Nat => (w_X12_least h_t r_t F1 cI a_rows a_words a_address a_number a_memory a_order a_image a_well)[i]?) [1, 2, 3, 4, 5, 6, 7, 8]) (z_rV (rest := []) hx hb hml hown hcx hl.1 (c_X12_right l D cI h_t r_t F1 u2 1 u3 hu3 _) tl_X12_321 ti_X12_right tz_X12_right tn_X12 tc_X12_right tm_X12_right rfl rfl ⟨Nat.le_of_ble_eq_true rfl, Nat.le_of_ble_eq_true rfl⟩ hK hX hS hA hP hD [0] rfl rfl 0 rfl rfl rfl rfl (Nat.le_of_ble_eq_true rfl) dX12_least_13 ⟨Nat.zero_le _, Nat.zero_le _⟩) hP hD hS hA [0] [1, 2, 3, 4, 5, 6, 7, 8] [8, 0, 1, 2, 3, 4, 5, 6, 7] rfl rfl rfl (by decide) rfl rfl (fun H locs hP hD hS => ?_)
  refine z_if_ne (tgt := 21) hx hb dX12_least_16 (by decide) hf (fun hf => ?_) (fun hf => ?_)
  · refine lv_aload_n hx hb dX12_least_21 rfl (lv_at hl 0 rfl) ?_
    obtain ⟨u4, hu4, hf⟩ := bd_some hf
    refine z_ci (ws1 := w_X12_least h_t r_t u4.2.1 cI u4.2.2.1 u4.2.2.2.1 u4.2.2.2.2.1 u4.2.2.2.2.2 a_memory a_order a_image a_well) (wr := List.filterMap (fun i : Nat => (w_X12_least h_t r_t u3.2 cI a_rows a_words a_address a_number a_memory a_order a_image a_well)[i]?) [5, 6, 7, 8]) (z_rV (rest := []) hx hb hml hown hcx hl.1 (c_X12_isReady l D cI h_t r_t u3.2 a_rows a_words a_address a_number u4 hu4 _) tl_X12_372 ti_X12_isReady tz_X12_isReady tn_X12 tc_X12_isReady tm_X12_isReady rfl rfl ⟨Nat.le_of_ble_eq_true rfl, Nat.le_of_ble_eq_true rfl⟩ hK hX hS hA hP hD [0, 1, 2, 3, 4] rfl rfl 0 rfl rfl rfl rfl (Nat.le_of_ble_eq_true rfl) dX12_least_22 ⟨Nat.zero_le _, Nat.zero_le _⟩) hP hD hS hA [0, 1, 2, 3, 4] [5, 6, 7, 8] [4, 5, 6, 7, 8, 0, 1, 2, 3] rfl rfl rfl (by decide) rfl rfl (fun H locs hP hD hS => ?_)
    refine z_if_ne (tgt := 30) hx hb dX12_least_25 (by decide) hf (fun hf => ?_) (fun hf => ?_)
    · refine lv_iconst (v := (-1)) hx hb dX12_least_30 (by decide) ?_
      refine lv_istore_n (lv' := [(2, .int (-1)), (0, .ref h_t), (1, .int p1)]) hx hb dX12_least_31 rfl hl (by decide) rfl (fun ls hl => ?_)
      refine lv_iconst (v := 0) hx hb dX12_least_32 (by decide) ?_
      refine lv_istore_n (lv' := [(3, .int 0), (2, .int (-1)), (0, .ref h_t), (1, .int p1)]) hx hb dX12_least_33 rfl hl (by decide) rfl (fun ls hl => ?_)
      exact L34 fuelN (-1) 0 u4.2.1 u4.2.2.1 u4.2.2.2.1 u4.2.2.2.2.1 u4.2.2.2.2.2 a_memory a_order a_image a_well _ _ _ hf hP hD hS (lv_sub hl [2, 3, 1, 0] rfl)
    · refine lv_iconst (v := (-1)) hx hb dX12_least_28 (by decide) ?_
      exact hret ((-1), u4.2.1, u4.2.2.1, u4.2.2.2.1, u4.2.2.2.2.1, u4.2.2.2.2.2, a_memory, a_order, a_image, a_well) _ _ _ _ hf hP hD hS dX12_least_29
  · refine lv_iconst (v := 0) hx hb dX12_least_19 (by decide) ?_
    exact hret (0, u3.2, a_rows, a_words, a_address, a_number, a_memory, a_order, a_image, a_well) _ _ _ _ hf hP hD hS dX12_least_20
abbrev w_X12_divisor (cI : ClassId) : va_W := []
abbrev rm_X12_divisor : Room := { frames := 0, cells := 0, slots := 0, locals := 0 }
def m_X12_divisor_w4 (p0 : Int32) (p1 : Int32) : Nat → Int32 → Int32 → Option (Int32)
  | 0, _, _ => none
  | n4 + 1, x2, x3 =>
    if x3 = 0 then (
    some x2)
    else (
    dz x3 (
    nm (x2 - x2 / x3 * x3) fun v1 =>
    m_X12_divisor_w4 p0 p1 n4 x3 v1))
def m_X12_divisor (p0 : Int32) (p1 : Int32) : Option (Int32) :=
  m_X12_divisor_w4 p0 p1 fuelN p0 p1
set_option maxHeartbeats 4000000 in
set_option maxRecDepth 100000 in
theorem c_X12_divisor (l : Launch) (D : va_G) (cI : ClassId) (p0 : Int32) (p1 : Int32) (Rr : Int32) (hf : m_X12_divisor p0 p1 = some Rr) : CTi l yX12_divisor (Cond.code yX12_divisor cX12_divisor 5 (some .int)) rm_X12_divisor D cI [.int p0, .int p1] (w_X12_divisor cI) Rr (w_X12_divisor cI) := by
  refine z_begin_i (own := RX12) (ρ := Int32) (fun u => w_X12_divisor cI) (fun u => u) (by decide +kernel) rfl (Nat.le_of_ble_eq_true rfl) ?_
  intro p e s m args below meth c ls Q A hx hb hml hts hcx hown hK hX hA hP hD hS hl hret
  have hl : lv_has ls 5 [(0, .int p0), (1, .int p1)] := hl
  have hf := (m_X12_divisor.eq_1 _ _).symm.trans hf
  have L4 : ∀ (n4 : Nat) (x2 : Int32) (x3 : Int32) (H : Heap) (locs : List Loc) (ls : Array Slot), m_X12_divisor_w4 p0 p1 n4 x2 x3 = some Rr → va_P D vwCl (w_X12_divisor cI) H → va_D A (w_X12_divisor cI) → va_S A s.heap H locs → lv_has ls 5 [(2, .int x2), (3, .int x3)] → W p l e rm_X12_divisor s m args below meth c H locs 0 0 Q (F0 m 4 ls []) := by
    intro n4
    induction n4 with
    | zero => intro x2 x3 H locs ls hf; cases (show (none : Option _) = some Rr from hf)
    | succ n4 ih4 =>
      intro x2 x3 H locs ls hf hP hD hS hl
      have hf := (m_X12_divisor_w4.eq_2 _ _ _ _ _).symm.trans hf
      refine lv_iload_n hx hb dX12_divisor_4 rfl (lv_at hl 1 rfl) ?_
      refine z_if_eq (tgt := 21) hx hb dX12_divisor_5 (by decide) hf (fun hf => ?_) (fun hf => ?_)
      · refine lv_iload_n hx hb dX12_divisor_21 rfl (lv_at hl 0 rfl) ?_
        exact hret x2 _ _ _ _ hf hP hD hS dX12_divisor_22
      · refine lv_iload_n hx hb dX12_divisor_8 rfl (lv_at hl 0 rfl) ?_
        refine lv_iload_n hx hb dX12_divisor_9 rfl (lv_at hl 1 rfl) ?_
        refine z_irem hx hb dX12_divisor_10 hf (fun hf => ?_)
        refine z_istore (fun z => [(4, .int z), (2, .int x2), (3, .int x3)]) hx hb dX12_divisor_11 hl (by decide) (fun _ => rfl) hf (fun v1 ls hf hl => ?_)
        refine lv_iload_n hx hb dX12_divisor_13 rfl (lv_at hl 2 rfl) ?_
        refine lv_istore_n (lv' := [(2, .int x3), (4, .int v1), (3, .int x3)]) hx hb dX12_divisor_14 rfl hl (by decide) rfl (fun ls hl => ?_)
        refine lv_iload hx hb dX12_divisor_15 (lv_at hl 1 rfl) ?_
        refine lv_istore_n (lv' := [(3, .int v1), (2, .int x3), (4, .int v1)]) hx hb dX12_divisor_17 rfl hl (by decide) rfl (fun ls hl => ?_)
        refine lv_goto (tgt := 4) hx hb dX12_divisor_18 (by decide) ?_
        exact ih4 x3 v1 _ _ _ hf hP hD hS (lv_sub hl [1, 0] rfl)
  refine lv_iload_n hx hb dX12_divisor_0 rfl (lv_at hl 0 rfl) ?_
  refine lv_istore_n (lv' := [(2, .int p0), (0, .int p0), (1, .int p1)]) hx hb dX12_divisor_1 rfl hl (by decide) rfl (fun ls hl => ?_)
  refine lv_iload_n hx hb dX12_divisor_2 rfl (lv_at hl 2 rfl) ?_
  refine lv_istore_n (lv' := [(3, .int p1), (2, .int p0), (0, .int p0), (1, .int p1)]) hx hb dX12_divisor_3 rfl hl (by decide) rfl (fun ls hl => ?_)
  exact L4 fuelN p0 p1 _ _ _ hf hP hD hS (lv_sub hl [1, 0] rfl)
