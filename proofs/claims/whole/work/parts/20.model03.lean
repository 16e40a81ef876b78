abbrev w_X12_laysMemory (h_t : Nat) (r_t : Nat → Nat) (F_t : Nat → Int32) (cI : ClassId) (a_rows : Nat → Int32) (a_memory : Nat → Int32) : va_W := [(h_t, .inr (12, o_X12 r_t F_t)), ((r_t 0), .inl (cI, 66100, .inl a_rows)), ((r_t 23), .inl (cI, 64, .inl a_memory))]
abbrev rm_X12_laysMemory : Room := { frames := 0, cells := 0, slots := 0, locals := 0 }
def m_X12_laysMemory_w2 (a_rows : Nat → Int32) (p1 : Int32) : Nat → Int32 → (Nat → Int32) → Option ((Nat → Int32))
  | 0, _, _ => none
  | n2 + 1, x2, a_memory =>
    if 64 ≤ x2 then (
    some a_memory)
    else (
    rd a_rows 66100 (p1 + x2) fun y1 =>
    wr a_memory 64 x2 y1 fun a2 =>
    nm (x2 + 1) fun v3 =>
    m_X12_laysMemory_w2 a_rows p1 n2 v3 a2)
def m_X12_laysMemory (a_rows : Nat → Int32) (a_memory : Nat → Int32) (p1 : Int32) : Option ((Nat → Int32)) :=
  m_X12_laysMemory_w2 a_rows p1 fuelN 0 a_memory
set_option maxHeartbeats 4000000 in
set_option maxRecDepth 100000 in
theorem c_X12_laysMemory (l : Launch) (D : va_G) (cI : ClassId) (h_t : Nat) (r_t : Nat → Nat) (F_t : Nat → Int32) (a_rows : Nat → Int32) (a_memory : Nat → Int32) (p1 : Int32) (Rr : (Nat → Int32)) (hf : m_X12_laysMemory a_rows a_memory p1 = some Rr) : CTv l yX12_laysMemory (Cond.code yX12_laysMemory cX12_laysMemory 3 none) rm_X12_laysMemory D cI [.ref h_t, .int p1] (w_X12_laysMemory h_t r_t F_t cI a_rows a_memory) (w_X12_laysMemory h_t r_t F_t cI a_rows Rr) := by
  refine z_begin_v (own := RX12) (ρ := (Nat → Int32)) (fun u => w_X12_laysMemory h_t r_t F_t cI a_rows u) (by decide +kernel) rfl (Nat.le_of_ble_eq_true rfl) ?_
  intro p e s m args below meth c ls Q A hx hb hml hts hcx hown hK hX hA hP hD hS hl hret
  have hl : lv_has ls 3 [(0, .ref h_t), (1, .int p1)] := hl
  have hf := (m_X12_laysMemory.eq_1 _ _ _).symm.trans hf
  have L2 : ∀ (n2 : Nat) (x2 : Int32) (a_memory : Nat → Int32) (H : Heap) (locs : List Loc) (ls : Array Slot), m_X12_laysMemory_w2 a_rows p1 n2 x2 a_memory = some Rr → va_P D vwCl (w_X12_laysMemory h_t r_t F_t cI a_rows a_memory) H → va_D A (w_X12_laysMemory h_t r_t F_t cI a_rows a_memory) → va_S A s.heap H locs → lv_has ls 3 [(0, .ref h_t), (1, .int p1), (2, .int x2)] → W p l e rm_X12_laysMemory s m args below meth c H locs 0 0 Q (F0 m 2 ls []) := by
    intro n2
    induction n2 with
    | zero => intro x2 a_memory H locs ls hf; cases (show (none : Option _) = some Rr from hf)
    | succ n2 ih2 =>
      intro x2 a_memory H locs ls hf hP hD hS hl
      have hf := (m_X12_laysMemory_w2.eq_2 _ _ _ _ _).symm.trans hf
      refine lv_iload_n hx hb dX12_laysMemory_2 rfl (lv_at hl 2 rfl) ?_
      refine lv_bipush (v := 64) hx hb dX12_laysMemory_3 (by decide) ?_
      refine z_icmp_ge (tgt := 28) hx hb dX12_laysMemory_5 (by decide) hf (fun hf => ?_) (fun hf => ?_)
      · exact hret a_memory _ _ _ _ hf hP hD hS dX12_laysMemory_28
      · refine lv_aload_n hx hb dX12_laysMemory_8 rfl (lv_at hl 0 rfl) ?_
        refine z_get (ci := 12) (C := RX12) (T := TX12) (N := 51) (v := .ref (r_t 23)) hx hb hts inT_X12 hown hK hP 0 rfl rfl 23 (by decide) tf_X12_39 rfl dX12_laysMemory_9 ?_
        refine lv_iload_n hx hb dX12_laysMemory_12 rfl (lv_at hl 2 rfl) ?_
        refine lv_aload_n hx hb dX12_laysMemory_13 rfl (lv_at hl 0 rfl) ?_
        refine z_get (ci := 12) (C := RX12) (T := TX12) (N := 51) (v := .ref (r_t 0)) hx hb hts inT_X12 hown hK hP 0 rfl rfl 0 (by decide) tf_X12_10 rfl dX12_laysMemory_14 ?_
        refine lv_iload_n hx hb dX12_laysMemory_17 rfl (lv_at hl 1 rfl) ?_
        refine lv_iload_n hx hb dX12_laysMemory_18 rfl (lv_at hl 2 rfl) ?_
        refine lv_iadd hx hb dX12_laysMemory_19 ?_
        refine z_iald hx hb hK hP 1 rfl dX12_laysMemory_20 hf (fun y1 hf => ?_)
        refine z_iast hx hb hK hP hD hS 2 rfl (fun z => w_X12_laysMemory h_t r_t F_t cI a_rows z) (fun _ => rfl) dX12_laysMemory_21 hf (fun a2 H locs hf hP hD hS => ?_)
        refine z_iinc (k0 := 2) (fun z => [(2, .int z), (0, .ref h_t), (1, .int p1)]) hx hb dX12_laysMemory_22 hl rfl (by decide) (by decide) (fun _ => rfl) hf (fun v3 ls hf hl => ?_)
        refine lv_goto (tgt := 2) hx hb dX12_laysMemory_25 (by decide) ?_
        exact ih2 v3 a2 _ _ _ hf hP hD hS (lv_sub hl [1, 2, 0] rfl)
  refine lv_iconst (v := 0) hx hb dX12_laysMemory_0 (by decide) ?_
  refine lv_istore_n (lv' := [(2, .int 0), (0, .ref h_t), (1, .int p1)]) hx hb dX12_laysMemory_1 rfl hl (by decide) rfl (fun ls hl => ?_)
  exact L2 fuelN 0 a_memory _ _ _ hf hP hD hS (lv_sub hl [1, 2, 0] rfl)
abbrev w_X12_recovery (h_t : Nat) (r_t : Nat → Nat) (F_t : Nat → Int32) (cI : ClassId) (a_rows : Nat → Int32) (a_address : Nat → Int32) (a_number : Nat → Int32) (a_memory : Nat → Int32) : va_W := [(h_t, .inr (12, o_X12 r_t F_t)), ((r_t 0), .inl (cI, 66100, .inl a_rows)), ((r_t 17), .inl (cI, 64, .inl a_address)), ((r_t 18), .inl (cI, 64, .inl a_number)), ((r_t 23), .inl (cI, 64, .inl a_memory))]
abbrev rm_X12_recovery : Room := { frames := 4, cells := 0, slots := 0, locals := 94 }
def m_X12_recovery_j237 (p1 : Int32) (F_t : Nat → Int32) (a_rows : Nat → Int32) (a_address : Nat → Int32) (a_number : Nat → Int32) (a_memory : Nat → Int32) : Option ((Nat → Int32) × (Nat → Int32) × (Nat → Int32) × (Nat → Int32) × (Nat → Int32)) :=
  wr a_rows 66100 (p1 + 776) 2 fun a11 =>
  wr a11 66100 (p1 + 772) 2 fun a12 =>
  some (F_t, a12, a_address, a_number, a_memory)
def m_X12_recovery_w204 (p1 : Int32) (k237 : (Nat → Int32) → (Nat → Int32) → (Nat → Int32) → (Nat → Int32) → (Nat → Int32) → Option ((Nat → Int32) × (Nat → Int32) × (Nat → Int32) × (Nat → Int32) × (Nat → Int32))) : Nat → Int32 → (Nat → Int32) → (Nat → Int32) → (Nat → Int32) → (Nat → Int32) → (Nat → Int32) → Option ((Nat → Int32) × (Nat → Int32) × (Nat → Int32) × (Nat → Int32) × (Nat → Int32))
  | 0, _, _, _, _, _, _ => none
  | n204 + 1, x3, F_t, a_rows, a_address, a_number, a_memory =>
    if 44 ≤ x3 then (
    k237 F_t a_rows a_address a_number a_memory)
    else (
    rd a_memory 64 (20 + x3) fun y13 =>
    wr a_rows 66100 ((p1 + 528) + x3) y13 fun a14 =>
    nm (x3 + 1) fun v15 =>
    m_X12_recovery_w204 p1 k237 n204 v15 F_t a14 a_address a_number a_memory)
def m_X12_recovery_j189 (p1 : Int32) (F_t : Nat → Int32) (a_rows : Nat → Int32) (a_address : Nat → Int32) (a_number : Nat → Int32) (a_memory : Nat → Int32) : Option ((Nat → Int32) × (Nat → Int32) × (Nat → Int32) × (Nat → Int32) × (Nat → Int32)) :=
  bd (m_X12_laysEnd F_t a_rows a_address p1) fun u9 =>
  bd (m_X12_recovers F_t a_memory 64) fun u10 =>
  m_X12_recovery_w204 p1 (m_X12_recovery_j237 p1) fuelN 0 F_t u9 a_address a_number u10
def m_X12_recovery_w157 (p1 : Int32) (k189 : (Nat → Int32) → (Nat → Int32) → (Nat → Int32) → (Nat → Int32) → (Nat → Int32) → Option ((Nat → Int32) × (Nat → Int32) × (Nat → Int32) × (Nat → Int32) × (Nat → Int32))) : Nat → Int32 → (Nat → Int32) → (Nat → Int32) → (Nat → Int32) → (Nat → Int32) → (Nat → Int32) → Option ((Nat → Int32) × (Nat → Int32) × (Nat → Int32) × (Nat → Int32) × (Nat → Int32))
  | 0, _, _, _, _, _, _ => none
  | n157 + 1, x3, F_t, a_rows, a_address, a_number, a_memory =>
    if (F_t 19) ≤ x3 then (
    k189 F_t a_rows a_address a_number a_memory)
    else (
    rd a_address 64 x3 fun y16 =>
    rd a_number 64 x3 fun y17 =>
    bd (m_X12_lays a_rows p1 0 y16 y17) fun u18 =>
    nm (x3 + 1) fun v19 =>
    m_X12_recovery_w157 p1 k189 n157 v19 F_t u18 a_address a_number a_memory)
def m_X12_recovery_j133 (p1 : Int32) (F_t : Nat → Int32) (a_rows : Nat → Int32) (a_address : Nat → Int32) (a_number : Nat → Int32) (a_memory : Nat → Int32) : Option ((Nat → Int32) × (Nat → Int32) × (Nat → Int32) × (Nat → Int32) × (Nat → Int32)) :=
  wr a_rows 66100 (p1 + 774) 0 fun a7 =>
  wr a7 66100 (p1 + 775) 0 fun a8 =>
  m_X12_recovery_w157 p1 (m_X12_recovery_j189 p1) fuelN 0 F_t a8 a_address a_number a_memory
def m_X12_recovery_j127 (p1 : Int32) (k50 : Int32 → Int32 → (Nat → Int32) → (Nat → Int32) → (Nat → Int32) → (Nat → Int32) → (Nat → Int32) → Option ((Nat → Int32) × (Nat → Int32) × (Nat → Int32) × (Nat → Int32) × (Nat → Int32))) (x2 : Int32) (x3 : Int32) (F_t : Nat → Int32) (a_rows : Nat → Int32) (a_address : Nat → Int32) (a_number : Nat → Int32) (a_memory : Nat → Int32) : Option ((Nat → Int32) × (Nat → Int32) × (Nat → Int32) × (Nat → Int32) × (Nat → Int32)) :=
  nm (x3 + 1) fun v28 =>
  k50 x2 v28 F_t a_rows a_address a_number a_memory
def m_X12_recovery_w50 (p1 : Int32) (k133 : (Nat → Int32) → (Nat → Int32) → (Nat → Int32) → (Nat → Int32) → (Nat → Int32) → Option ((Nat → Int32) × (Nat → Int32) × (Nat → Int32) × (Nat → Int32) × (Nat → Int32))) : Nat → Int32 → Int32 → (Nat → Int32) → (Nat → Int32) → (Nat → Int32) → (Nat → Int32) → (Nat → Int32) → Option ((Nat → Int32) × (Nat → Int32) × (Nat → Int32) × (Nat → Int32) × (Nat → Int32))
  | 0, _, _, _, _, _, _, _ => none
  | n50 + 1, x2, x3, F_t, a_rows, a_address, a_number, a_memory =>
    if x2 ≤ x3 then (
    k133 F_t a_rows a_address a_number a_memory)
    else (
    bd (m_X12_entryAt F_t x2 x3) fun u20 =>
    rd a_memory 64 u20 fun y21 =>
    bd (m_X12_within y21 20 63) fun u22 =>
    if u22 = 0 then (
    m_X12_recovery_j127 p1 (m_X12_recovery_w50 p1 k133 n50) x2 x3 F_t a_rows a_address a_number a_memory)
    else (
    rd a_memory 64 u20 fun y23 =>
    wr a_address 64 (F_t 19) y23 fun a24 =>
    rd a_memory 64 (u20 + 1) fun y25 =>
    wr a_number 64 (F_t 19) y25 fun a26 =>
    nm (upd F_t 19 ((F_t 19) + 1)) fun F27 =>
    m_X12_recovery_j127 p1 (m_X12_recovery_w50 p1 k133 n50) x2 x3 F27 a_rows a24 a26 a_memory))
def m_X12_recovery (F_t : Nat → Int32) (a_rows : Nat → Int32) (a_address : Nat → Int32) (a_number : Nat → Int32) (a_memory : Nat → Int32) (p1 : Int32) : Option ((Nat → Int32) × (Nat → Int32) × (Nat → Int32) × (Nat → Int32) × (Nat → Int32)) :=
  rd a_rows 66100 (p1 + 781) fun y1 =>
  wr a_rows 66100 (p1 + 781) (y1 + 1) fun a2 =>
  wr a2 66100 (p1 + 772) 0 fun a3 =>
  bd (m_X12_laysMemory a3 a_memory p1) fun u4 =>
  bd (m_X12_counted u4 64) fun u5 =>
  if u5 = 0 then (
  some (F_t, a3, a_address, a_number, u4))
  else (
  nm (upd F_t 19 0) fun F6 =>
  m_X12_recovery_w50 p1 (m_X12_recovery_j133 p1) fuelN u5 0 F6 a3 a_address a_number u4)
set_option maxHeartbeats 4000000 in
set_option maxRecDepth 100000 in
theorem c_X12_recovery (l : Launch) (D : va_G) (cI : ClassId) (h_t : Nat) (r_t : Nat → Nat) (F_t : Nat → Int32) (a_rows : Nat → Int32) (a_address : Nat → Int32) (a_number : Nat → Int32) (a_memory : Nat → Int32) (p1 : Int32) (Rr : (Nat → Int32) × (Nat → Int32) × (Nat → Int32) × (Nat → Int32) × (Nat → Int32)) (hf : m_X12_recovery F_t a_rows a_address a_number a_memory p1 = some Rr) : CTv l yX12_recovery (Cond.code yX12_recovery cX12_recovery 5 none) rm_X12_recovery D cI [.ref h_t, .int p1] (w_X12_recovery h_t r_t F_t cI a_rows a_address a_number a_memory) (w_X12_recovery h_t r_t Rr.1 cI Rr.2.1 Rr.2.2.1 Rr.2.2.2.1 Rr.2.2.2.2) := by
  refine z_begin_v (own := RX12) (ρ := (Nat → Int32) × (Nat → Int32) × (Nat → Int32) × (Nat → Int32) × (Nat → Int32)) (fun u => w_X12_recovery h_t r_t u.1 cI u.2.1 u.2.2.1 u.2.2.2.1 u.2.2.2.2) (by decide +kernel) rfl (Nat.le_of_ble_eq_true rfl) ?_
  intro p e s m args below meth c ls Q A hx hb hml hts hcx hown hK hX hA hP hD hS hl hret
  have hl : lv_has ls 5 [(0, .ref h_t), (1, .int p1)] := hl
  have hf := (m_X12_recovery.eq_1 _ _ _ _ _ _).symm.trans hf
  have L237 : ∀ (F_t : Nat → Int32) (a_rows : Nat → Int32) (a_address : Nat → Int32) (a_number : Nat → Int32) (a_memory : Nat → Int32) (H : Heap) (locs : List Loc) (ls : Array Slot), m_X12_recovery_j237 p1 F_t a_rows a_address a_number a_memory = some Rr → va_P D vwCl (w_X12_recovery h_t r_t F_t cI a_rows a_address a_number a_memory) H → va_D A (w_X12_recovery h_t r_t F_t cI a_rows a_address a_number a_memory) → va_S A s.heap H locs → lv_has ls 5 [(0, .ref h_t), (1, .int p1)] → W p l e rm_X12_recovery s m args below meth c H locs 0 0 Q (F0 m 237 ls []) := by
    intro F_t a_rows a_address a_number a_memory H locs ls hf hP hD hS hl
    have hf := (m_X12_recovery_j237.eq_1 _ _ _ _ _ _).symm.trans hf
    refine lv_aload_n hx hb dX12_recovery_237 rfl (lv_at hl 0 rfl) ?_
    refine z_get (ci := 12) (C := RX12) (T := TX12) (N := 51) (v := .ref (r_t 0)) hx hb hts inT_X12 hown hK hP 0 rfl rfl 0 (by decide) tf_X12_10 rfl dX12_recovery_238 ?_
    refine lv_iload_n hx hb dX12_recovery_241 rfl (lv_at hl 1 rfl) ?_
    refine lv_sipush (v := 776) hx hb dX12_recovery_242 (by decide) ?_
    refine lv_iadd hx hb dX12_recovery_245 ?_
    refine lv_iconst (v := 2) hx hb dX12_recovery_246 (by decide) ?_
    refine z_iast hx hb hK hP hD hS 1 rfl (fun z => w_X12_recovery h_t r_t F_t cI z a_address a_number a_memory) (fun _ => rfl) dX12_recovery_247 hf (fun a11 H locs hf hP hD hS => ?_)
    refine lv_aload_n hx hb dX12_recovery_248 rfl (lv_at hl 0 rfl) ?_
    refine z_get (ci := 12) (C := RX12) (T := TX12) (N := 51) (v := .ref (r_t 0)) hx hb hts inT_X12 hown hK hP 0 rfl rfl 0 (by decide) tf_X12_10 rfl dX12_recovery_249 ?_
    refine lv_iload_n hx hb dX12_recovery_252 rfl (lv_at hl 1 rfl) ?_
    refine lv_sipush (v := 772) hx hb dX12_recovery_253 (by decide) ?_
    refine lv_iadd hx hb dX12_recovery_256 ?_
    refine lv_iconst (v := 2) hx hb dX12_recovery_257 (by decide) ?_
    refine z_iast hx hb hK hP hD hS 1 rfl (fun z => w_X12_recovery h_t r_t F_t cI z a_address a_number a_memory) (fun _ => rfl) dX12_recovery_258 hf (fun a12 H locs hf hP hD hS => ?_)
    exact hret (F_t, a12, a_address, a_number, a_memory) _ _ _ _ hf hP hD hS dX12_recovery_259
  have L204 : ∀ (n204 : Nat) (x3 : Int32) (F_t : Nat → Int32) (a_rows : Nat → Int32) (a_address : Nat → Int32) (a_number : Nat → Int32) (a_memory : Nat → Int32) (H : Heap) (locs : List Loc) (ls : Array Slot), m_X12_recovery_w204 p1 (m_X12_recovery_j237 p1) n204 x3 F_t a_rows a_address a_number a_memory = some Rr → va_P D vwCl (w_X12_recovery h_t r_t F_t cI a_rows a_address a_number a_memory) H → va_D A (w_X12_recovery h_t r_t F_t cI a_rows a_address a_number a_memory) → va_S A s.heap H locs → lv_has ls 5 [(0, .ref h_t), (1, .int p1), (3, .int x3)] → W p l e rm_X12_recovery s m args below meth c H locs 0 0 Q (F0 m 204 ls []) := by
    intro n204
    induction n204 with
    | zero => intro x3 F_t a_rows a_address a_number a_memory H locs ls hf; cases (show (none : Option _) = some Rr from hf)
    | succ n204 ih204 =>
      intro x3 F_t a_rows a_address a_number a_memory H locs ls hf hP hD hS hl
      have hf := (m_X12_recovery_w204.eq_2 _ _ _ _ _ _ _ _ _).symm.trans hf
      refine lv_iload_n hx hb dX12_recovery_204 rfl (lv_at hl 2 rfl) ?_
      refine lv_bipush (v := 44) hx hb dX12_recovery_205 (by decide) ?_
      refine z_icmp_ge (tgt := 237) hx hb dX12_recovery_207 (by decide) hf (fun hf => ?_) (fun hf => ?_)
      · exact L237 F_t a_rows a_address a_number a_memory _ _ _ hf hP hD hS (lv_sub hl [0, 1] rfl)
      · refine lv_aload_n hx hb dX12_recovery_210 rfl (lv_at hl 0 rfl) ?_
        refine z_get (ci := 12) (C := RX12) (T := TX12) (N := 51) (v := .ref (r_t 0)) hx hb hts inT_X12 hown hK hP 0 rfl rfl 0 (by decide) tf_X12_10 rfl dX12_recovery_211 ?_
        refine lv_iload_n hx hb dX12_recovery_214 rfl (lv_at hl 1 rfl) ?_
        refine lv_sipush (v := 528) hx hb dX12_recovery_215 (by decide) ?_
        refine lv_iadd hx hb dX12_recovery_218 ?_
        refine lv_iload_n hx hb dX12_recovery_219 rfl (lv_at hl 2 rfl) ?_
        refine lv_iadd hx hb dX12_recovery_220 ?_
        refine lv_aload_n hx hb dX12_recovery_221 rfl (lv_at hl 0 rfl) ?_
        refine z_get (ci := 12) (C := RX12) (T := TX12) (N := 51) (v := .ref (r_t 23)) hx hb hts inT_X12 hown hK hP 0 rfl rfl 23 (by decide) tf_X12_39 rfl dX12_recovery_222 ?_
        refine lv_bipush (v := 20) hx hb dX12_recovery_225 (by decide) ?_
        refine lv_iload_n hx hb dX12_recovery_227 rfl (lv_at hl 2 rfl) ?_
        refine lv_iadd hx hb dX12_recovery_228 ?_
        refine z_iald hx hb hK hP 4 rfl dX12_recovery_229 hf (fun y13 hf => ?_)
        refine z_iast hx hb hK hP hD hS 1 rfl (fun z => w_X12_recovery h_t r_t F_t cI z a_address a_number a_memory) (fun _ => rfl) dX12_recovery_230 hf (fun a14 H locs hf hP hD hS => ?_)
        refine z_iinc (k0 := 2) (fun z => [(3, .int z), (0, .ref h_t), (1, .int p1)]) hx hb dX12_recovery_231 hl rfl (by decide) (by decide) (fun _ => rfl) hf (fun v15 ls hf hl => ?_)
        refine lv_goto (tgt := 204) hx hb dX12_recovery_234 (by decide) ?_
        exact ih204 v15 F_t a14 a_address a_number a_memory _ _ _ hf hP hD hS (lv_sub hl [1, 2, 0] rfl)
  have L189 : ∀ (F_t : Nat → Int32) (a_rows : Nat → Int32) (a_address : Nat → Int32) (a_number : Nat → Int32) (a_memory : Nat → Int32) (H : Heap) (locs : List Loc) (ls : Array Slot), m_X12_recovery_j189 p1 F_t a_rows a_address a_number a_memory = some Rr → va_P D vwCl (w_X12_recovery h_t r_t F_t cI a_rows a_address a_number a_memory) H → va_D A (w_X12_recovery h_t r_t F_t cI a_rows a_address a_number a_memory) → va_S A s.heap H locs → lv_has ls 5 [(0, .ref h_t), (1, .int p1)] → W p l e rm_X12_recovery s m args below meth c H locs 0 0 Q (F0 m 189 ls []) := by
    intro F_t a_rows a_address a_number a_memory H locs ls hf hP hD hS hl
    have hf := (m_X12_recovery_j189.eq_1 _ _ _ _ _ _).symm.trans hf
    refine lv_aload_n hx hb dX12_recovery_189 rfl (lv_at hl 0 rfl) ?_
    refine lv_iload_n hx hb dX12_recovery_190 rfl (lv_at hl 1 rfl) ?_
    obtain ⟨u9, hu9, hf⟩ := bd_some hf
    refine z_cv (ws1 := w_X12_recovery h_t r_t F_t cI u9 a_address a_number a_memory) (wr := List.filterMap (fun i : Nat => (w_X12_recovery h_t r_t F_t cI a_rows a_address a_number a_memory)[i]?) [3, 4]) (z_rV (rest := []) hx hb hml hown hcx hl.1 (c_X12_laysEnd l D cI h_t r_t F_t a_rows a_address p1 u9 hu9 _) tl_X12_150 ti_X12_laysEnd tz_X12_laysEnd tn_X12 tc_X12_laysEnd tm_X12_laysEnd rfl rfl ⟨Nat.le_of_ble_eq_true rfl, Nat.le_of_ble_eq_true rfl⟩ hK hX hS hA hP hD [0, 1, 2] rfl rfl 0 rfl rfl rfl rfl (Nat.le_of_ble_eq_true rfl) dX12_recovery_191 ⟨Nat.zero_le _, Nat.zero_le _⟩) hP hD hS hA [0, 1, 2] [3, 4] [2, 3, 4, 0, 1] rfl rfl rfl (by decide) rfl rfl (fun H locs hP hD hS => ?_)
    refine lv_aload_n hx hb dX12_recovery_194 rfl (lv_at hl 0 rfl) ?_
    refine lv_aload_n hx hb dX12_recovery_195 rfl (lv_at hl 0 rfl) ?_
    refine z_get (ci := 12) (C := RX12) (T := TX12) (N := 51) (v := .ref (r_t 23)) hx hb hts inT_X12 hown hK hP 0 rfl rfl 23 (by decide) tf_X12_39 rfl dX12_recovery_196 ?_
    obtain ⟨u10, hu10, hf⟩ := bd_some hf
    refine z_cv (ws1 := w_X12_recovery h_t r_t F_t cI u9 a_address a_number u10) (wr := List.filterMap (fun i : Nat => (w_X12_recovery h_t r_t F_t cI u9 a_address a_number a_memory)[i]?) [1, 2, 3]) (z_rV (rest := []) hx hb hml hown hcx hl.1 (c_X12_recovers l D cI h_t (r_t 23) r_t F_t 64 a_memory u10 hu10 _) tl_X12_178 ti_X12_recovers tz_X12_recovers tn_X12 tc_X12_recovers tm_X12_recovers rfl rfl ⟨Nat.le_of_ble_eq_true rfl, Nat.le_of_ble_eq_true rfl⟩ hK hX hS hA hP hD [0, 4] rfl rfl 0 rfl rfl rfl rfl (Nat.le_of_ble_eq_true rfl) dX12_recovery_199 ⟨Nat.zero_le _, Nat.zero_le _⟩) hP hD hS hA [0, 4] [1, 2, 3] [3, 0, 1, 2, 4] rfl rfl rfl (by decide) rfl rfl (fun H locs hP hD hS => ?_)
    refine lv_iconst (v := 0) hx hb dX12_recovery_202 (by decide) ?_
    refine lv_istore_n (lv' := [(3, .int 0), (0, .ref h_t), (1, .int p1)]) hx hb dX12_recovery_203 rfl hl (by decide) rfl (fun ls hl => ?_)
    exact L204 fuelN 0 F_t u9 a_address a_number u10 _ _ _ hf hP hD hS (lv_sub hl [1, 2, 0] rfl)
  have L157 : ∀ (n157 : Nat) (x3 : Int32) (F_t : Nat → Int32) (a_rows : Nat → Int32) (a_address : Nat → Int32) (a_number : Nat → Int32) (a_memory : Nat → Int32) (H : Heap) (locs : List Loc) (ls : Array Slot), m_X12_recovery_w157 p1 (m_X12_recovery_j189 p1) n157 x3 F_t a_rows a_address a_number a_memory = some Rr → va_P D vwCl (w_X12_recovery h_t r_t F_t cI a_rows a_address a_number a_memory) H → va_D A (w_X12_recovery h_t r_t F_t cI a_rows a_address a_number a_memory) → va_S A s.heap H locs → lv_has ls 5 [(0, .ref h_t), (1, .int p1), (3, .int x3)] → W p l e rm_X12_recovery s m args below meth c H locs 0 0 Q (F0 m 157 ls []) := by
    intro n157
    induction n157 with
    | zero => intro x3 F_t a_rows a_address a_number a_memory H locs ls hf; cases (show (none : Option _) = some Rr from hf)
    | succ n157 ih157 =>
      intro x3 F_t a_rows a_address a_number a_memory H locs ls hf hP hD hS hl
      have hf := (m_X12_recovery_w157.eq_2 _ _ _ _ _ _ _ _ _).symm.trans hf
      refine lv_iload_n hx hb dX12_recovery_157 rfl (lv_at hl 2 rfl) ?_
      refine lv_aload_n hx hb dX12_recovery_158 rfl (lv_at hl 0 rfl) ?_
      refine z_get (ci := 12) (C := RX12) (T := TX12) (N := 51) (v := .int (F_t 19)) hx hb hts inT_X12 hown hK hP 0 rfl rfl 19 (by decide) tf_X12_73 rfl dX12_recovery_159 ?_
      refine z_icmp_ge (tgt := 189) hx hb dX12_recovery_162 (by decide) hf (fun hf => ?_) (fun hf => ?_)
      · exact L189 F_t a_rows a_address a_number a_memory _ _ _ hf hP hD hS (lv_sub hl [0, 1] rfl)
      · refine lv_aload_n hx hb dX12_recovery_165 rfl (lv_at hl 0 rfl) ?_
        refine lv_iload_n hx hb dX12_recovery_166 rfl (lv_at hl 1 rfl) ?_
        refine lv_iconst (v := 0) hx hb dX12_recovery_167 (by decide) ?_
        refine lv_aload_n hx hb dX12_recovery_168 rfl (lv_at hl 0 rfl) ?_
        refine z_get (ci := 12) (C := RX12) (T := TX12) (N := 51) (v := .ref (r_t 17)) hx hb hts inT_X12 hown hK hP 0 rfl rfl 17 (by decide) tf_X12_33 rfl dX12_recovery_169 ?_
        refine lv_iload_n hx hb dX12_recovery_172 rfl (lv_at hl 2 rfl) ?_
        refine z_iald hx hb hK hP 2 rfl dX12_recovery_173 hf (fun y16 hf => ?_)
        refine lv_aload_n hx hb dX12_recovery_174 rfl (lv_at hl 0 rfl) ?_
        refine z_get (ci := 12) (C := RX12) (T := TX12) (N := 51) (v := .ref (r_t 18)) hx hb hts inT_X12 hown hK hP 0 rfl rfl 18 (by decide) tf_X12_36 rfl dX12_recovery_175 ?_
        refine lv_iload_n hx hb dX12_recovery_178 rfl (lv_at hl 2 rfl) ?_
        refine z_iald hx hb hK hP 3 rfl dX12_recovery_179 hf (fun y17 hf => ?_)
        obtain ⟨u18, hu18, hf⟩ := bd_some hf
        refine z_cv (ws1 := w_X12_recovery h_t r_t F_t cI u18 a_address a_number a_memory) (wr := List.filterMap (fun i : Nat => (w_X12_recovery h_t r_t F_t cI a_rows a_address a_number a_memory)[i]?) [2, 3, 4]) (z_rV (rest := []) hx hb hml hown hcx hl.1 (c_X12_lays l D cI h_t r_t F_t a_rows p1 0 y16 y17 u18 hu18 _) tl_X12_134 ti_X12_lays tz_X12_lays tn_X12 tc_X12_lays tm_X12_lays rfl rfl ⟨Nat.le_of_ble_eq_true rfl, Nat.le_of_ble_eq_true rfl⟩ hK hX hS hA hP hD [0, 1] rfl rfl 0 rfl rfl rfl rfl (Nat.le_of_ble_eq_true rfl) dX12_recovery_180 ⟨Nat.zero_le _, Nat.zero_le _⟩) hP hD hS hA [0, 1] [2, 3, 4] [3, 4, 0, 1, 2] rfl rfl rfl (by decide) rfl rfl (fun H locs hP hD hS => ?_)
        refine z_iinc (k0 := 2) (fun z => [(3, .int z), (0, .ref h_t), (1, .int p1)]) hx hb dX12_recovery_183 hl rfl (by decide) (by decide) (fun _ => rfl) hf (fun v19 ls hf hl => ?_)
        refine lv_goto (tgt := 157) hx hb dX12_recovery_186 (by decide) ?_
        exact ih157 v19 F_t u18 a_address a_number a_memory _ _ _ hf hP hD hS (lv_sub hl [1, 2, 0] rfl)
  have L133 : ∀ (F_t : Nat → Int32) (a_rows : Nat → Int32) (a_address : Nat → Int32) (a_number : Nat → Int32) (a_memory : Nat → Int32) (H : Heap) (locs : List Loc) (ls : Array Slot), m_X12_recovery_j133 p1 F_t a_rows a_address a_number a_memory = some Rr → va_P D vwCl (w_X12_recovery h_t r_t F_t cI a_rows a_address a_number a_memory) H → va_D A (w_X12_recovery h_t r_t F_t cI a_rows a_address a_number a_memory) → va_S A s.heap H locs → lv_has ls 5 [(0, .ref h_t), (1, .int p1)] → W p l e rm_X12_recovery s m args below meth c H locs 0 0 Q (F0 m 133 ls []) := by
    intro F_t a_rows a_address a_number a_memory H locs ls hf hP hD hS hl
    have hf := (m_X12_recovery_j133.eq_1 _ _ _ _ _ _).symm.trans hf
    refine lv_aload_n hx hb dX12_recovery_133 rfl (lv_at hl 0 rfl) ?_
    refine z_get (ci := 12) (C := RX12) (T := TX12) (N := 51) (v := .ref (r_t 0)) hx hb hts inT_X12 hown hK hP 0 rfl rfl 0 (by decide) tf_X12_10 rfl dX12_recovery_134 ?_
    refine lv_iload_n hx hb dX12_recovery_137 rfl (lv_at hl 1 rfl) ?_
    refine lv_sipush (v := 774) hx hb dX12_recovery_138 (by decide) ?_
    refine lv_iadd hx hb dX12_recovery_141 ?_
    refine lv_iconst (v := 0) hx hb dX12_recovery_142 (by decide) ?_
    refine z_iast hx hb hK hP hD hS 1 rfl (fun z => w_X12_recovery h_t r_t F_t cI z a_address a_number a_memory) (fun _ => rfl) dX12_recovery_143 hf (fun a7 H locs hf hP hD hS => ?_)
    refine lv_aload_n hx hb dX12_recovery_144 rfl (lv_at hl 0 rfl) ?_
    refine z_get (ci := 12) (C := RX12) (T := TX12) (N := 51) (v := .ref (r_t 0)) hx hb hts inT_X12 hown hK hP 0 rfl rfl 0 (by decide) tf_X12_10 rfl dX12_recovery_145 ?_
    refine lv_iload_n hx hb dX12_recovery_148 rfl (lv_at hl 1 rfl) ?_
    refine lv_sipush (v := 775) hx hb dX12_recovery_149 (by decide) ?_
    refine lv_iadd hx hb dX12_recovery_152 ?_
    refine lv_iconst (v := 0) hx hb dX12_recovery_153 (by decide) ?_
    refine z_iast hx hb hK hP hD hS 1 rfl (fun z => w_X12_recovery h_t r_t F_t cI z a_address a_number a_memory) (fun _ => rfl) dX12_recovery_154 hf (fun a8 H locs hf hP hD hS => ?_)
    refine lv_iconst (v := 0) hx hb dX12_recovery_155 (by decide) ?_
    refine lv_istore_n (lv' := [(3, .int 0), (0, .ref h_t), (1, .int p1)]) hx hb dX12_recovery_156 rfl hl (by decide) rfl (fun ls hl => ?_)
    exact L157 fuelN 0 F_t a8 a_address a_number a_memory _ _ _ hf hP hD hS (lv_sub hl [1, 2, 0] rfl)
  have L50 : ∀ (n50 : Nat) (x2 : Int32) (x3 : Int32) (F_t : Nat → Int32) (a_rows : Nat → Int32) (a_address : Nat → Int32) (a_number : Nat → Int32) (a_memory : Nat → Int32) (H : Heap) (locs : List Loc) (ls : Array Slot), m_X12_recovery_w50 p1 (m_X12_recovery_j133 p1) n50 x2 x3 F_t a_rows a_address a_number a_memory = some Rr → va_P D vwCl (w_X12_recovery h_t r_t F_t cI a_rows a_address a_number a_memory) H → va_D A (w_X12_recovery h_t r_t F_t cI a_rows a_address a_number a_memory) → va_S A s.heap H locs → lv_has ls 5 [(0, .ref h_t), (1, .int p1), (2, .int x2), (3, .int x3)] → W p l e rm_X12_recovery s m args below meth c H locs 0 0 Q (F0 m 50 ls []) := by
    intro n50
    induction n50 with
    | zero => intro x2 x3 F_t a_rows a_address a_number a_memory H locs ls hf; cases (show (none : Option _) = some Rr from hf)
    | succ n50 ih50 =>
      intro x2 x3 F_t a_rows a_address a_number a_memory H locs ls hf hP hD hS hl
      have hf := (m_X12_recovery_w50.eq_2 _ _ _ _ _ _ _ _ _ _).symm.trans hf
      have L127 : ∀ (x2 : Int32) (x3 : Int32) (F_t : Nat → Int32) (a_rows : Nat → Int32) (a_address : Nat → Int32) (a_number : Nat → Int32) (a_memory : Nat → Int32) (H : Heap) (locs : List Loc) (ls : Array Slot), m_X12_recovery_j127 p1 (m_X12_recovery_w50 p1 (m_X12_recovery_j133 p1) n50) x2 x3 F_t a_rows a_address a_number a_memory = some Rr → va_P D vwCl (w_X12_recovery h_t r_t F_t cI a_rows a_address a_number a_memory) H → va_D A (w_X12_recovery h_t r_t F_t cI a_rows a_address a_number a_memory) → va_S A s.heap H locs → lv_has ls 5 [(0, .ref h_t), (1, .int p1), (2, .int x2), (3, .int x3)] → W p l e rm_X12_recovery s m args below meth c H locs 0 0 Q (F0 m 127 ls []) := by
        intro x2 x3 F_t a_rows a_address a_number a_memory H locs ls hf hP hD hS hl
        have hf := (m_X12_recovery_j127.eq_1 _ _ _ _ _ _ _ _ _).symm.trans hf
        refine z_iinc (k0 := 3) (fun z => [(3, .int z), (0, .ref h_t), (1, .int p1), (2, .int x2)]) hx hb dX12_recovery_127 hl rfl (by decide) (by decide) (fun _ => rfl) hf (fun v28 ls hf hl => ?_)
        refine lv_goto (tgt := 50) hx hb dX12_recovery_130 (by decide) ?_
        exact ih50 x2 v28 F_t a_rows a_address a_number a_memory _ _ _ hf hP hD hS (lv_sub hl [1, 2, 3, 0] rfl)
      refine lv_iload_n hx hb dX12_recovery_50 rfl (lv_at hl 3 rfl) ?_
      refine lv_iload_n hx hb dX12_recovery_51 rfl (lv_at hl 2 rfl) ?_
      refine z_icmp_ge (tgt := 133) hx hb dX12_recovery_52 (by decide) hf (fun hf => ?_) (fun hf => ?_)
      · exact L133 F_t a_rows a_address a_number a_memory _ _ _ hf hP hD hS (lv_sub hl [0, 1] rfl)
      · refine lv_aload_n hx hb dX12_recovery_55 rfl (lv_at hl 0 rfl) ?_
        refine lv_iload_n hx hb dX12_recovery_56 rfl (lv_at hl 2 rfl) ?_
        refine lv_iload_n hx hb dX12_recovery_57 rfl (lv_at hl 3 rfl) ?_
        obtain ⟨u20, hu20, hf⟩ := bd_some hf
        refine z_ci (ws1 := w_X12_recovery h_t r_t F_t cI a_rows a_address a_number a_memory) (wr := List.filterMap (fun i : Nat => (w_X12_recovery h_t r_t F_t cI a_rows a_address a_number a_memory)[i]?) [1, 2, 3, 4]) (z_rV (rest := []) hx hb hml hown hcx hl.1 (c_X12_entryAt l D cI h_t r_t F_t x2 x3 u20 hu20 _) tl_X12_169 ti_X12_entryAt tz_X12_entryAt tn_X12 tc_X12_entryAt tm_X12_entryAt rfl rfl ⟨Nat.le_of_ble_eq_true rfl, Nat.le_of_ble_eq_true rfl⟩ hK hX hS hA hP hD [0] rfl rfl 0 rfl rfl rfl rfl (Nat.le_of_ble_eq_true rfl) dX12_recovery_58 ⟨Nat.zero_le _, Nat.zero_le _⟩) hP hD hS hA [0] [1, 2, 3, 4] [4, 0, 1, 2, 3] rfl rfl rfl (by decide) rfl rfl (fun H locs hP hD hS => ?_)
        refine lv_istore (lv' := [(4, .int u20), (0, .ref h_t), (1, .int p1), (2, .int x2), (3, .int x3)]) hx hb dX12_recovery_61 hl (by decide) rfl (fun ls hl => ?_)
        refine lv_aload_n hx hb dX12_recovery_63 rfl (lv_at hl 1 rfl) ?_
        refine z_get (ci := 12) (C := RX12) (T := TX12) (N := 51) (v := .ref (r_t 23)) hx hb hts inT_X12 hown hK hP 0 rfl rfl 23 (by decide) tf_X12_39 rfl dX12_recovery_64 ?_
        refine lv_iload hx hb dX12_recovery_67 (lv_at hl 0 rfl) ?_
        refine z_iald hx hb hK hP 4 rfl dX12_recovery_69 hf (fun y21 hf => ?_)
        refine lv_bipush (v := 20) hx hb dX12_recovery_70 (by decide) ?_
        refine lv_bipush (v := 63) hx hb dX12_recovery_72 (by decide) ?_
        obtain ⟨u22, hu22, hf⟩ := bd_some hf
        refine z_ci (ws1 := w_X12_recovery h_t r_t F_t cI a_rows a_address a_number a_memory) (wr := List.filterMap (fun i : Nat => (w_X12_recovery h_t r_t F_t cI a_rows a_address a_number a_memory)[i]?) [0, 1, 2, 3, 4]) (z_rS (rest := []) hx hb hml hown hcx hl.1 (c_X12_within l D cI y21 20 63 u22 hu22 _) tl_X12_172 ts_X12_within tn_X12 tc_X12_within tm_X12_within rfl rfl ⟨Nat.le_of_ble_eq_true rfl, Nat.le_of_ble_eq_true rfl⟩ hK hX hS hA hP hD [] rfl rfl rfl rfl (Nat.le_of_ble_eq_true rfl) dX12_recovery_74 ⟨Nat.zero_le _, Nat.zero_le _⟩) hP hD hS hA [] [0, 1, 2, 3, 4] [0, 1, 2, 3, 4] rfl rfl rfl (by decide) rfl rfl (fun H locs hP hD hS => ?_)
        refine z_if_ne (tgt := 83) hx hb dX12_recovery_77 (by decide) hf (fun hf => ?_) (fun hf => ?_)
        · refine lv_aload_n hx hb dX12_recovery_83 rfl (lv_at hl 1 rfl) ?_
          refine z_get (ci := 12) (C := RX12) (T := TX12) (N := 51) (v := .ref (r_t 17)) hx hb hts inT_X12 hown hK hP 0 rfl rfl 17 (by decide) tf_X12_33 rfl dX12_recovery_84 ?_
          refine lv_aload_n hx hb dX12_recovery_87 rfl (lv_at hl 1 rfl) ?_
          refine z_get (ci := 12) (C := RX12) (T := TX12) (N := 51) (v := .int (F_t 19)) hx hb hts inT_X12 hown hK hP 0 rfl rfl 19 (by decide) tf_X12_73 rfl dX12_recovery_88 ?_
          refine lv_aload_n hx hb dX12_recovery_91 rfl (lv_at hl 1 rfl) ?_
          refine z_get (ci := 12) (C := RX12) (T := TX12) (N := 51) (v := .ref (r_t 23)) hx hb hts inT_X12 hown hK hP 0 rfl rfl 23 (by decide) tf_X12_39 rfl dX12_recovery_92 ?_
          refine lv_iload hx hb dX12_recovery_95 (lv_at hl 0 rfl) ?_
          refine z_iald hx hb hK hP 4 rfl dX12_recovery_97 hf (fun y23 hf => ?_)
          refine z_iast hx hb hK hP hD hS 2 rfl (fun z => w_X12_recovery h_t r_t F_t cI a_rows z a_number a_memory) (fun _ => rfl) dX12_recovery_98 hf (fun a24 H locs hf hP hD hS => ?_)
          refine lv_aload_n hx hb dX12_recovery_99 rfl (lv_at hl 1 rfl) ?_
          refine z_get (ci := 12) (C := RX12) (T := TX12) (N := 51) (v := .ref (r_t 18)) hx hb hts inT_X12 hown hK hP 0 rfl rfl 18 (by decide) tf_X12_36 rfl dX12_recovery_100 ?_
          refine lv_aload_n hx hb dX12_recovery_103 rfl (lv_at hl 1 rfl) ?_
          refine z_get (ci := 12) (C := RX12) (T := TX12) (N := 51) (v := .int (F_t 19)) hx hb hts inT_X12 hown hK hP 0 rfl rfl 19 (by decide) tf_X12_73 rfl dX12_recovery_104 ?_
          refine lv_aload_n hx hb dX12_recovery_107 rfl (lv_at hl 1 rfl) ?_
          refine z_get (ci := 12) (C := RX12) (T := TX12) (N := 51) (v := .ref (r_t 23)) hx hb hts inT_X12 hown hK hP 0 rfl rfl 23 (by decide) tf_X12_39 rfl dX12_recovery_108 ?_
          refine lv_iload hx hb dX12_recovery_111 (lv_at hl 0 rfl) ?_
          refine lv_iconst (v := 1) hx hb dX12_recovery_113 (by decide) ?_
          refine lv_iadd hx hb dX12_recovery_114 ?_
          refine z_iald hx hb hK hP 4 rfl dX12_recovery_115 hf (fun y25 hf => ?_)
          refine z_iast hx hb hK hP hD hS 3 rfl (fun z => w_X12_recovery h_t r_t F_t cI a_rows a24 z a_memory) (fun _ => rfl) dX12_recovery_116 hf (fun a26 H locs hf hP hD hS => ?_)
          refine lv_aload_n hx hb dX12_recovery_117 rfl (lv_at hl 1 rfl) ?_
          refine lv_dup hx hb dX12_recovery_118 rfl ?_
          refine z_get (ci := 12) (C := RX12) (T := TX12) (N := 51) (v := .int (F_t 19)) hx hb hts inT_X12 hown hK hP 0 rfl rfl 19 (by decide) tf_X12_73 rfl dX12_recovery_119 ?_
          refine lv_iconst (v := 1) hx hb dX12_recovery_122 (by decide) ?_
          refine lv_iadd hx hb dX12_recovery_123 ?_
          refine z_put (ci := 12) (C := RX12) (T := TX12) (N := 51) hx hb hts inT_X12 tyX12 tyX12_ok nmX12 hown hK hP hD hS 0 rfl rfl 19 (by decide) tf_X12_73 rfl (by decide +kernel) (Nat.le_of_ble_eq_true rfl) (o_X12 r_t) (o_X12_s19 _ _ _) (fun z => w_X12_recovery h_t r_t z cI a_rows a24 a26 a_memory) (fun _ => rfl) dX12_recovery_124 hf (fun F27 H locs hf hP hD hS => ?_)
          exact L127 x2 x3 F27 a_rows a24 a26 a_memory _ _ _ hf hP hD hS (lv_sub hl [1, 2, 3, 4] rfl)
        · refine lv_goto (tgt := 127) hx hb dX12_recovery_80 (by decide) ?_
          exact L127 x2 x3 F_t a_rows a_address a_number a_memory _ _ _ hf hP hD hS (lv_sub hl [1, 2, 3, 4] rfl)
  refine lv_aload_n hx hb dX12_recovery_0 rfl (lv_at hl 0 rfl) ?_
  refine z_get (ci := 12) (C := RX12) (T := TX12) (N := 51) (v := .ref (r_t 0)) hx hb hts inT_X12 hown hK hP 0 rfl rfl 0 (by decide) tf_X12_10 rfl dX12_recovery_1 ?_
  refine lv_iload_n hx hb dX12_recovery_4 rfl (lv_at hl 1 rfl) ?_
  refine lv_sipush (v := 781) hx hb dX12_recovery_5 (by decide) ?_
  refine lv_iadd hx hb dX12_recovery_8 ?_
  refine lv_dup2_11 hx hb dX12_recovery_9 rfl rfl ?_
  refine z_iald hx hb hK hP 1 rfl dX12_recovery_10 hf (fun y1 hf => ?_)
  refine lv_iconst (v := 1) hx hb dX12_recovery_11 (by decide) ?_
  refine lv_iadd hx hb dX12_recovery_12 ?_
  refine z_iast hx hb hK hP hD hS 1 rfl (fun z => w_X12_recovery h_t r_t F_t cI z a_address a_number a_memory) (fun _ => rfl) dX12_recovery_13 hf (fun a2 H locs hf hP hD hS => ?_)
  refine lv_aload_n hx hb dX12_recovery_14 rfl (lv_at hl 0 rfl) ?_
  refine z_get (ci := 12) (C := RX12) (T := TX12) (N := 51) (v := .ref (r_t 0)) hx hb hts inT_X12 hown hK hP 0 rfl rfl 0 (by decide) tf_X12_10 rfl dX12_recovery_15 ?_
  refine lv_iload_n hx hb dX12_recovery_18 rfl (lv_at hl 1 rfl) ?_
  refine lv_sipush (v := 772) hx hb dX12_recovery_19 (by decide) ?_
  refine lv_iadd hx hb dX12_recovery_22 ?_
  refine lv_iconst (v := 0) hx hb dX12_recovery_23 (by decide) ?_
  refine z_iast hx hb hK hP hD hS 1 rfl (fun z => w_X12_recovery h_t r_t F_t cI z a_address a_number a_memory) (fun _ => rfl) dX12_recovery_24 hf (fun a3 H locs hf hP hD hS => ?_)
  refine lv_aload_n hx hb dX12_recovery_25 rfl (lv_at hl 0 rfl) ?_
  refine lv_iload_n hx hb dX12_recovery_26 rfl (lv_at hl 1 rfl) ?_
  obtain ⟨u4, hu4, hf⟩ := bd_some hf
  refine z_cv (ws1 := w_X12_recovery h_t r_t F_t cI a3 a_address a_number u4) (wr := List.filterMap (fun i : Nat => (w_X12_recovery h_t r_t F_t cI a3 a_address a_number a_memory)[i]?) [2, 3]) (z_rV (rest := []) hx hb hml hown hcx hl.1 (c_X12_laysMemory l D cI h_t r_t F_t a3 a_memory p1 u4 hu4 _) tl_X12_175 ti_X12_laysMemory tz_X12_laysMemory tn_X12 tc_X12_laysMemory tm_X12_laysMemory rfl rfl ⟨Nat.le_of_ble_eq_true rfl, Nat.le_of_ble_eq_true rfl⟩ hK hX hS hA hP hD [0, 1, 4] rfl rfl 0 rfl rfl rfl rfl (Nat.le_of_ble_eq_true rfl) dX12_recovery_27 ⟨Nat.zero_le _, Nat.zero_le _⟩) hP hD hS hA [0, 1, 4] [2, 3] [2, 3, 0, 1, 4] rfl rfl rfl (by decide) rfl rfl (fun H locs hP hD hS => ?_)
  refine lv_aload_n hx hb dX12_recovery_30 rfl (lv_at hl 0 rfl) ?_
  refine z_get (ci := 12) (C := RX12) (T := TX12) (N := 51) (v := .ref (r_t 23)) hx hb hts inT_X12 hown hK hP 0 rfl rfl 23 (by decide) tf_X12_39 rfl dX12_recovery_31 ?_
  obtain ⟨u5, hu5, hf⟩ := bd_some hf
  refine z_ci (ws1 := w_X12_recovery h_t r_t F_t cI a3 a_address a_number u4) (wr := List.filterMap (fun i : Nat => (w_X12_recovery h_t r_t F_t cI a3 a_address a_number u4)[i]?) [0, 1, 2, 3]) (z_rS (rest := []) hx hb hml hown hcx hl.1 (c_X12_counted l D cI (r_t 23) 64 u4 u5 hu5 _) tl_X12_166 ts_X12_counted tn_X12 tc_X12_counted tm_X12_counted rfl rfl ⟨Nat.le_of_ble_eq_true rfl, Nat.le_of_ble_eq_true rfl⟩ hK hX hS hA hP hD [4] rfl rfl rfl rfl (Nat.le_of_ble_eq_true rfl) dX12_recovery_34 ⟨Nat.zero_le _, Nat.zero_le _⟩) hP hD hS hA [4] [0, 1, 2, 3] [0, 1, 2, 3, 4] rfl rfl rfl (by decide) rfl rfl (fun H locs hP hD hS => ?_)
  refine lv_istore_n (lv' := [(2, .int u5), (0, .ref h_t), (1, .int p1)]) hx hb dX12_recovery_37 rfl hl (by decide) rfl (fun ls hl => ?_)
  refine lv_iload_n hx hb dX12_recovery_38 rfl (lv_at hl 0 rfl) ?_
  refine z_if_ne (tgt := 43) hx hb dX12_recovery_39 (by decide) hf (fun hf => ?_) (fun hf => ?_)
  · refine lv_aload_n hx hb dX12_recovery_43 rfl (lv_at hl 1 rfl) ?_
    refine lv_iconst (v := 0) hx hb dX12_recovery_44 (by decide) ?_
    refine z_put (ci := 12) (C := RX12) (T := TX12) (N := 51) hx hb hts inT_X12 tyX12 tyX12_ok nmX12 hown hK hP hD hS 0 rfl rfl 19 (by decide) tf_X12_73 rfl (by decide +kernel) (Nat.le_of_ble_eq_true rfl) (o_X12 r_t) (o_X12_s19 _ _ _) (fun z => w_X12_recovery h_t r_t z cI a3 a_address a_number u4) (fun _ => rfl) dX12_recovery_45 hf (fun F6 H locs hf hP hD hS => ?_)
    refine lv_iconst (v := 0) hx hb dX12_recovery_48 (by decide) ?_
    refine lv_istore_n (lv' := [(3, .int 0), (2, .int u5), (0, .ref h_t), (1, .int p1)]) hx hb dX12_recovery_49 rfl hl (by decide) rfl (fun ls hl => ?_)
    exact L50 fuelN u5 0 F6 a3 a_address a_number u4 _ _ _ hf hP hD hS (lv_sub hl [2, 3, 1, 0] rfl)
  · exact hret (F_t, a3, a_address, a_number, u4) _ _ _ _ hf hP hD hS dX12_recovery_42
abbrev w_X12_ordersOf (h_t : Nat) (r_t : Nat → Nat) (F_t : Nat → Int32) (cI : ClassId) (a_rows : Nat → Int32) : va_W := [(h_t, .inr (12, o_X12 r_t F_t)), ((r_t 0), .inl (cI, 66100, .inl a_rows))]
abbrev rm_X12_ordersOf : Room := { frames := 0, cells := 0, slots := 0, locals := 0 }
def m_X12_ordersOf_w5 (a_rows : Nat → Int32) (p1 : Int32) : Nat → Int64 → Int32 → Option (Int64)
  | 0, _, _ => none
  | n5 + 1, x2, x4 =>
    if 16 ≤ x4 then (
    some x2)
    else (
    rd a_rows 66100 ((p1 + 64) + x4) fun y1 =>
    nm (x2 * (y1 + 1).toInt64) fun v2 =>
    nm (x4 + 1) fun v3 =>
    m_X12_ordersOf_w5 a_rows p1 n5 v2 v3)
def m_X12_ordersOf (a_rows : Nat → Int32) (p1 : Int32) : Option (Int64) :=
  m_X12_ordersOf_w5 a_rows p1 fuelN 1 0
set_option maxHeartbeats 4000000 in
set_option maxRecDepth 100000 in
theorem c_X12_ordersOf (l : Launch) (D : va_G) (cI : ClassId) (h_t : Nat) (r_t : Nat → Nat) (F_t : Nat → Int32) (a_rows : Nat → Int32) (p1 : Int32) (Rr : Int64) (hf : m_X12_ordersOf a_rows p1 = some Rr) : CTl l yX12_ordersOf (Cond.code yX12_ordersOf cX12_ordersOf 5 (some .long)) rm_X12_ordersOf D cI [.ref h_t, .int p1] (w_X12_ordersOf h_t r_t F_t cI a_rows) Rr (w_X12_ordersOf h_t r_t F_t cI a_rows) := by
  refine z_begin_l (own := RX12) (ρ := Int64) (fun u => w_X12_ordersOf h_t r_t F_t cI a_rows) (fun u => u) (by decide +kernel) rfl (Nat.le_of_ble_eq_true rfl) ?_
  intro p e s m args below meth c ls Q A hx hb hml hts hcx hown hK hX hA hP hD hS hl hret
  have hl : lv_has ls 5 [(0, .ref h_t), (1, .int p1)] := hl
  have hf := (m_X12_ordersOf.eq_1 _ _).symm.trans hf
  have L5 : ∀ (n5 : Nat) (x2 : Int64) (x4 : Int32) (H : Heap) (locs : List Loc) (ls : Array Slot), m_X12_ordersOf_w5 a_rows p1 n5 x2 x4 = some Rr → va_P D vwCl (w_X12_ordersOf h_t r_t F_t cI a_rows) H → va_D A (w_X12_ordersOf h_t r_t F_t cI a_rows) → va_S A s.heap H locs → lv_has ls 5 [(0, .ref h_t), (1, .int p1), (2, .long x2), (4, .int x4)] → W p l e rm_X12_ordersOf s m args below meth c H locs 0 0 Q (F0 m 5 ls []) := by
    intro n5
    induction n5 with
    | zero => intro x2 x4 H locs ls hf; cases (show (none : Option _) = some Rr from hf)
    | succ n5 ih5 =>
      intro x2 x4 H locs ls hf hP hD hS hl
      have hf := (m_X12_ordersOf_w5.eq_2 _ _ _ _ _).symm.trans hf
      refine lv_iload hx hb dX12_ordersOf_5 (lv_at hl 3 rfl) ?_
      refine lv_bipush (v := 16) hx hb dX12_ordersOf_7 (by decide) ?_
      refine z_icmp_ge (tgt := 36) hx hb dX12_ordersOf_9 (by decide) hf (fun hf => ?_) (fun hf => ?_)
      · refine lv_lload_n hx hb dX12_ordersOf_36 rfl (lv_at hl 2 rfl) ?_
        exact hret x2 _ _ _ _ hf hP hD hS dX12_ordersOf_37
      · refine lv_lload_n hx hb dX12_ordersOf_12 rfl (lv_at hl 2 rfl) ?_
        refine lv_aload_n hx hb dX12_ordersOf_13 rfl (lv_at hl 0 rfl) ?_
        refine z_get (ci := 12) (C := RX12) (T := TX12) (N := 51) (v := .ref (r_t 0)) hx hb hts inT_X12 hown hK hP 0 rfl rfl 0 (by decide) tf_X12_10 rfl dX12_ordersOf_14 ?_
        refine lv_iload_n hx hb dX12_ordersOf_17 rfl (lv_at hl 1 rfl) ?_
        refine lv_bipush (v := 64) hx hb dX12_ordersOf_18 (by decide) ?_
        refine lv_iadd hx hb dX12_ordersOf_20 ?_
        refine lv_iload hx hb dX12_ordersOf_21 (lv_at hl 3 rfl) ?_
        refine lv_iadd hx hb dX12_ordersOf_23 ?_
        refine z_iald hx hb hK hP 1 rfl dX12_ordersOf_24 hf (fun y1 hf => ?_)
        refine lv_iconst (v := 1) hx hb dX12_ordersOf_25 (by decide) ?_
        refine lv_iadd hx hb dX12_ordersOf_26 ?_
        refine lv_i2l hx hb dX12_ordersOf_27 rfl ?_
        refine lv_lmul hx hb dX12_ordersOf_28 ?_
        refine z_lstore_n (fun z => [(2, .long z), (0, .ref h_t), (1, .int p1), (4, .int x4)]) hx hb dX12_ordersOf_29 rfl hl (by decide) (fun _ => rfl) hf (fun v2 ls hf hl => ?_)
        refine z_iinc (k0 := 3) (fun z => [(4, .int z), (2, .long v2), (0, .ref h_t), (1, .int p1)]) hx hb dX12_ordersOf_30 hl rfl (by decide) (by decide) (fun _ => rfl) hf (fun v3 ls hf hl => ?_)
        refine lv_goto (tgt := 5) hx hb dX12_ordersOf_33 (by decide) ?_
        exact ih5 v2 v3 _ _ _ hf hP hD hS (lv_sub hl [2, 3, 1, 0] rfl)
  refine lv_lconst (v := 1) hx hb dX12_ordersOf_0 (by decide) ?_
  refine lv_lstore_n (lv' := [(2, .long 1), (0, .ref h_t), (1, .int p1)]) hx hb dX12_ordersOf_1 rfl hl (by decide) rfl (fun ls hl => ?_)
  refine lv_iconst (v := 0) hx hb dX12_ordersOf_2 (by decide) ?_
  refine lv_istore (lv' := [(4, .int 0), (2, .long 1), (0, .ref h_t), (1, .int p1)]) hx hb dX12_ordersOf_3 hl (by decide) rfl (fun ls hl => ?_)
  exact L5 fuelN 1 0 _ _ _ hf hP hD hS (lv_sub hl [2, 3, 1, 0] rfl)
abbrev w_X12_firstOrder (h_t : Nat) (r_t : Nat → Nat) (F_t : Nat → Int32) (cI : ClassId) (a_order : Nat → Int32) : va_W := [(h_t, .inr (12, o_X12 r_t F_t)), ((r_t 24), .inl (cI, 16, .inl a_order))]
abbrev rm_X12_firstOrder : Room := { frames := 0, cells := 0, slots := 0, locals := 0 }
def m_X12_firstOrder_w2 : Nat → Int32 → (Nat → Int32) → Option ((Nat → Int32))
  | 0, _, _ => none
  | n2 + 1, x1, a_order =>
    if 16 ≤ x1 then (
    some a_order)
    else (
    wr a_order 16 x1 0 fun a1 =>
    nm (x1 + 1) fun v2 =>
    m_X12_firstOrder_w2 n2 v2 a1)
def m_X12_firstOrder (a_order : Nat → Int32) : Option ((Nat → Int32)) :=
  m_X12_firstOrder_w2 fuelN 0 a_order
set_option maxHeartbeats 4000000 in
set_option maxRecDepth 100000 in
theorem c_X12_firstOrder (l : Launch) (D : va_G) (cI : ClassId) (h_t : Nat) (r_t : Nat → Nat) (F_t : Nat → Int32) (a_order : Nat → Int32) (Rr : (Nat → Int32)) (hf : m_X12_firstOrder a_order = some Rr) : CTv l yX12_firstOrder (Cond.code yX12_firstOrder cX12_firstOrder 2 none) rm_X12_firstOrder D cI [.ref h_t] (w_X12_firstOrder h_t r_t F_t cI a_order) (w_X12_firstOrder h_t r_t F_t cI Rr) := by
  refine z_begin_v (own := RX12) (ρ := (Nat → Int32)) (fun u => w_X12_firstOrder h_t r_t F_t cI u) (by decide +kernel) rfl (Nat.le_of_ble_eq_true rfl) ?_
  intro p e s m args below meth c ls Q A hx hb hml hts hcx hown hK hX hA hP hD hS hl hret
  have hl : lv_has ls 2 [(0, .ref h_t)] := hl
  have hf := (m_X12_firstOrder.eq_1 _).symm.trans hf
  have L2 : ∀ (n2 : Nat) (x1 : Int32) (a_order : Nat → Int32) (H : Heap) (locs : List Loc) (ls : Array Slot), m_X12_firstOrder_w2 n2 x1 a_order = some Rr → va_P D vwCl (w_X12_firstOrder h_t r_t F_t cI a_order) H → va_D A (w_X12_firstOrder h_t r_t F_t cI a_order) → va_S A s.heap H locs → lv_has ls 2 [(0, .ref h_t), (1, .int x1)] → W p l e rm_X12_firstOrder s m args below meth c H locs 0 0 Q (F0 m 2 ls []) := by
    intro n2
    induction n2 with
    | zero => intro x1 a_order H locs ls hf; cases (show (none : Option _) = some Rr from hf)
    | succ n2 ih2 =>
      intro x1 a_order H locs ls hf hP hD hS hl
      have hf := (m_X12_firstOrder_w2.eq_2 _ _ _).symm.trans hf
      refine lv_iload_n hx hb dX12_firstOrder_2 rfl (lv_at hl 1 rfl) ?_
      refine lv_bipush (v := 16) hx hb dX12_firstOrder_3 (by decide) ?_
      refine z_icmp_ge (tgt := 21) hx hb dX12_firstOrder_5 (by decide) hf (fun hf => ?_) (fun hf => ?_)
      · exact hret a_order _ _ _ _ hf hP hD hS dX12_firstOrder_21
      · refine lv_aload_n hx hb dX12_firstOrder_8 rfl (lv_at hl 0 rfl) ?_
        refine z_get (ci := 12) (C := RX12) (T := TX12) (N := 51) (v := .ref (r_t 24)) hx hb hts inT_X12 hown hK hP 0 rfl rfl 24 (by decide) tf_X12_42 rfl dX12_firstOrder_9 ?_
        refine lv_iload_n hx hb dX12_firstOrder_12 rfl (lv_at hl 1 rfl) ?_
        refine lv_iconst (v := 0) hx hb dX12_firstOrder_13 (by decide) ?_
        refine z_iast hx hb hK hP hD hS 1 rfl (fun z => w_X12_firstOrder h_t r_t F_t cI z) (fun _ => rfl) dX12_firstOrder_14 hf (fun a1 H locs hf hP hD hS => ?_)
        refine z_iinc (k0 := 1) (fun z => [(1, .int z), (0, .ref h_t)]) hx hb dX12_firstOrder_15 hl rfl (by decide) (by decide) (fun _ => rfl) hf (fun v2 ls hf hl => ?_)
        refine lv_goto (tgt := 2) hx hb dX12_firstOrder_18 (by decide) ?_
        exact ih2 v2 a1 _ _ _ hf hP hD hS (lv_sub hl [1, 0] rfl)
  refine lv_iconst (v := 0) hx hb dX12_firstOrder_0 (by decide) ?_
  refine lv_istore_n (lv' := [(1, .int 0), (0, .ref h_t)]) hx hb dX12_firstOrder_1 rfl hl (by decide) rfl (fun ls hl => ?_)
  exact L2 fuelN 0 a_order _ _ _ hf hP hD hS (lv_sub hl [1, 0] rfl)
abbrev w_X12_nextOrder (h_t : Nat) (r_t : Nat → Nat) (F_t : Nat → Int32) (cI : ClassId) (a_rows : Nat → Int32) (a_order : Nat → Int32) : va_W := [(h_t, .inr (12, o_X12 r_t F_t)), ((r_t 0), .inl (cI, 66100, .inl a_rows)), ((r_t 24), .inl (cI, 16, .inl a_order))]
abbrev rm_X12_nextOrder : Room := { frames := 0, cells := 0, slots := 0, locals := 0 }
def m_X12_nextOrder_j40 (a_rows : Nat → Int32) (p1 : Int32) (x2 : Int32) (a_order : Nat → Int32) : Option ((Nat → Int32)) :=
  if x2 < 0 then (
  some a_order)
  else (
  rd a_order 16 x2 fun y1 =>
  wr a_order 16 x2 (y1 + 1) fun a2 =>
  some a2)
def m_X12_nextOrder_w3 (a_rows : Nat → Int32) (p1 : Int32) (k40 : Int32 → (Nat → Int32) → Option ((Nat → Int32))) : Nat → Int32 → (Nat → Int32) → Option ((Nat → Int32))
  | 0, _, _ => none
  | n3 + 1, x2, a_order =>
    if x2 < 0 then (
    k40 x2 a_order)
    else (
    rd a_order 16 x2 fun y3 =>
    rd a_rows 66100 ((p1 + 64) + x2) fun y4 =>
    if y3 = y4 then (
    wr a_order 16 x2 0 fun a5 =>
    nm (x2 + (-1)) fun v6 =>
    m_X12_nextOrder_w3 a_rows p1 k40 n3 v6 a5)
    else (
    k40 x2 a_order))
def m_X12_nextOrder (a_rows : Nat → Int32) (a_order : Nat → Int32) (p1 : Int32) : Option ((Nat → Int32)) :=
  m_X12_nextOrder_w3 a_rows p1 (m_X12_nextOrder_j40 a_rows p1) fuelN 15 a_order
set_option maxHeartbeats 4000000 in
set_option maxRecDepth 100000 in
theorem c_X12_nextOrder (l : Launch) (D : va_G) (cI : ClassId) (h_t : Nat) (r_t : Nat → Nat) (F_t : Nat → Int32) (a_rows : Nat → Int32) (a_order : Nat → Int32) (p1 : Int32) (Rr : (Nat → Int32)) (hf : m_X12_nextOrder a_rows a_order p1 = some Rr) : CTv l yX12_nextOrder (Cond.code yX12_nextOrder cX12_nextOrder 3 none) rm_X12_nextOrder D cI [.ref h_t, .int p1] (w_X12_nextOrder h_t r_t F_t cI a_rows a_order) (w_X12_nextOrder h_t r_t F_t cI a_rows Rr) := by
  refine z_begin_v (own := RX12) (ρ := (Nat → Int32)) (fun u => w_X12_nextOrder h_t r_t F_t cI a_rows u) (by decide +kernel) rfl (Nat.le_of_ble_eq_true rfl) ?_
  intro p e s m args below meth c ls Q A hx hb hml hts hcx hown hK hX hA hP hD hS hl hret
  have hl : lv_has ls 3 [(0, .ref h_t), (1, .int p1)] := hl
  have hf := (m_X12_nextOrder.eq_1 _ _ _).symm.trans hf
  have L40 : ∀ (x2 : Int32) (a_order : Nat → Int32) (H : Heap) (locs : List Loc) (ls : Array Slot), m_X12_nextOrder_j40 a_rows p1 x2 a_order = some Rr → va_P D vwCl (w_X12_nextOrder h_t r_t F_t cI a_rows a_order) H → va_D A (w_X12_nextOrder h_t r_t F_t cI a_rows a_order) → va_S A s.heap H locs → lv_has ls 3 [(0, .ref h_t), (2, .int x2)] → W p l e rm_X12_nextOrder s m args below meth c H locs 0 0 Q (F0 m 40 ls []) := by
    intro x2 a_order H locs ls hf hP hD hS hl
    have hf := (m_X12_nextOrder_j40.eq_1 _ _ _ _).symm.trans hf
    refine lv_iload_n hx hb dX12_nextOrder_40 rfl (lv_at hl 1 rfl) ?_
    refine z_if_lt (tgt := 54) hx hb dX12_nextOrder_41 (by decide) hf (fun hf => ?_) (fun hf => ?_)
    · exact hret a_order _ _ _ _ hf hP hD hS dX12_nextOrder_54
    · refine lv_aload_n hx hb dX12_nextOrder_44 rfl (lv_at hl 0 rfl) ?_
      refine z_get (ci := 12) (C := RX12) (T := TX12) (N := 51) (v := .ref (r_t 24)) hx hb hts inT_X12 hown hK hP 0 rfl rfl 24 (by decide) tf_X12_42 rfl dX12_nextOrder_45 ?_
      refine lv_iload_n hx hb dX12_nextOrder_48 rfl (lv_at hl 1 rfl) ?_
      refine lv_dup2_11 hx hb dX12_nextOrder_49 rfl rfl ?_
      refine z_iald hx hb hK hP 2 rfl dX12_nextOrder_50 hf (fun y1 hf => ?_)
      refine lv_iconst (v := 1) hx hb dX12_nextOrder_51 (by decide) ?_
      refine lv_iadd hx hb dX12_nextOrder_52 ?_
      refine z_iast hx hb hK hP hD hS 2 rfl (fun z => w_X12_nextOrder h_t r_t F_t cI a_rows z) (fun _ => rfl) dX12_nextOrder_53 hf (fun a2 H locs hf hP hD hS => ?_)
      exact hret a2 _ _ _ _ hf hP hD hS dX12_nextOrder_54
  have L3 : ∀ (n3 : Nat) (x2 : Int32) (a_order : Nat → Int32) (H : Heap) (locs : List Loc) (ls : Array Slot), m_X12_nextOrder_w3 a_rows p1 (m_X12_nextOrder_j40 a_rows p1) n3 x2 a_order = some Rr → va_P D vwCl (w_X12_nextOrder h_t r_t F_t cI a_rows a_order) H → va_D A (w_X12_nextOrder h_t r_t F_t cI a_rows a_order) → va_S A s.heap H locs → lv_has ls 3 [(0, .ref h_t), (1, .int p1), (2, .int x2)] → W p l e rm_X12_nextOrder s m args below meth c H locs 0 0 Q (F0 m 3 ls []) := by
    intro n3
    induction n3 with
    | zero => intro x2 a_order H locs ls hf; cases (show (none : Option _) = some Rr from hf)
    | succ n3 ih3 =>
      intro x2 a_order H locs ls hf hP hD hS hl
      have hf := (m_X12_nextOrder_w3.eq_2 _ _ _ _ _ _).symm.trans hf
      refine lv_iload_n hx hb dX12_nextOrder_3 rfl (lv_at hl 2 rfl) ?_
      refine z_if_lt (tgt := 40) hx hb dX12_nextOrder_4 (by decide) hf (fun hf => ?_) (fun hf => ?_)
      · exact L40 x2 a_order _ _ _ hf hP hD hS (lv_sub hl [0, 2] rfl)
      · refine lv_aload_n hx hb dX12_nextOrder_7 rfl (lv_at hl 0 rfl) ?_
        refine z_get (ci := 12) (C := RX12) (T := TX12) (N := 51) (v := .ref (r_t 24)) hx hb hts inT_X12 hown hK hP 0 rfl rfl 24 (by decide) tf_X12_42 rfl dX12_nextOrder_8 ?_
        refine lv_iload_n hx hb dX12_nextOrder_11 rfl (lv_at hl 2 rfl) ?_
        refine z_iald hx hb hK hP 2 rfl dX12_nextOrder_12 hf (fun y3 hf => ?_)
        refine lv_aload_n hx hb dX12_nextOrder_13 rfl (lv_at hl 0 rfl) ?_
        refine z_get (ci := 12) (C := RX12) (T := TX12) (N := 51) (v := .ref (r_t 0)) hx hb hts inT_X12 hown hK hP 0 rfl rfl 0 (by decide) tf_X12_10 rfl dX12_nextOrder_14 ?_
        refine lv_iload_n hx hb dX12_nextOrder_17 rfl (lv_at hl 1 rfl) ?_
        refine lv_bipush (v := 64) hx hb dX12_nextOrder_18 (by decide) ?_
        refine lv_iadd hx hb dX12_nextOrder_20 ?_
        refine lv_iload_n hx hb dX12_nextOrder_21 rfl (lv_at hl 2 rfl) ?_
        refine lv_iadd hx hb dX12_nextOrder_22 ?_
        refine z_iald hx hb hK hP 1 rfl dX12_nextOrder_23 hf (fun y4 hf => ?_)
        refine z_icmp_ne (tgt := 40) hx hb dX12_nextOrder_24 (by decide) hf (fun hf => ?_) (fun hf => ?_)
        · exact L40 x2 a_order _ _ _ hf hP hD hS (lv_sub hl [0, 2] rfl)
        · refine lv_aload_n hx hb dX12_nextOrder_27 rfl (lv_at hl 0 rfl) ?_
          refine z_get (ci := 12) (C := RX12) (T := TX12) (N := 51) (v := .ref (r_t 24)) hx hb hts inT_X12 hown hK hP 0 rfl rfl 24 (by decide) tf_X12_42 rfl dX12_nextOrder_28 ?_
          refine lv_iload_n hx hb dX12_nextOrder_31 rfl (lv_at hl 2 rfl) ?_
          refine lv_iconst (v := 0) hx hb dX12_nextOrder_32 (by decide) ?_
          refine z_iast hx hb hK hP hD hS 2 rfl (fun z => w_X12_nextOrder h_t r_t F_t cI a_rows z) (fun _ => rfl) dX12_nextOrder_33 hf (fun a5 H locs hf hP hD hS => ?_)
          refine z_iinc (k0 := 2) (fun z => [(2, .int z), (0, .ref h_t), (1, .int p1)]) hx hb dX12_nextOrder_34 hl rfl (by decide) (by decide) (fun _ => rfl) hf (fun v6 ls hf hl => ?_)
          refine lv_goto (tgt := 3) hx hb dX12_nextOrder_37 (by decide) ?_
          exact ih3 v6 a5 _ _ _ hf hP hD hS (lv_sub hl [1, 2, 0] rfl)
  refine lv_bipush (v := 15) hx hb dX12_nextOrder_0 (by decide) ?_
  refine lv_istore_n (lv' := [(2, .int 15), (0, .ref h_t), (1, .int p1)]) hx hb dX12_nextOrder_2 rfl hl (by decide) rfl (fun ls hl => ?_)
  exact L3 fuelN 15 a_order _ _ _ hf hP hD hS (lv_sub hl [1, 2, 0] rfl)
abbrev w_X12_laysOrder (h_t : Nat) (r_t : Nat → Nat) (F_t : Nat → Int32) (cI : ClassId) (a_rows : Nat → Int32) (a_order : Nat → Int32) : va_W := [(h_t, .inr (12, o_X12 r_t F_t)), ((r_t 0), .inl (cI, 66100, .inl a_rows)), ((r_t 24), .inl (cI, 16, .inl a_order))]
abbrev rm_X12_laysOrder : Room := { frames := 0, cells := 0, slots := 0, locals := 0 }
def m_X12_laysOrder_w6 (a_rows : Nat → Int32) (p1 : Int32) (p2 : Int32) : Nat → Int32 → Int32 → (Nat → Int32) → Option ((Nat → Int32))
  | 0, _, _, _ => none
  | n6 + 1, x3, x4, a_order =>
    if x4 < 0 then (
    some a_order)
    else (
    rd a_rows 66100 ((p1 + 64) + x4) fun y1 =>
    nm (y1 + 1) fun v2 =>
    dz v2 (
    wr a_order 16 x4 (x3 - x3 / v2 * v2) fun a3 =>
    dz v2 (
    nm (x3 / v2) fun v4 =>
    nm (x4 + (-1)) fun v5 =>
    m_X12_laysOrder_w6 a_rows p1 p2 n6 v4 v5 a3)))
def m_X12_laysOrder (a_rows : Nat → Int32) (a_order : Nat → Int32) (p1 : Int32) (p2 : Int32) : Option ((Nat → Int32)) :=
  m_X12_laysOrder_w6 a_rows p1 p2 fuelN p2 15 a_order
set_option maxHeartbeats 4000000 in
set_option maxRecDepth 100000 in
theorem c_X12_laysOrder (l : Launch) (D : va_G) (cI : ClassId) (h_t : Nat) (r_t : Nat → Nat) (F_t : Nat → Int32) (a_rows : Nat → Int32) (a_order : Nat → Int32) (p1 : Int32) (p2 : Int32) (Rr : (Nat → Int32)) (hf : m_X12_laysOrder a_rows a_order p1 p2 = some Rr) : CTv l yX12_laysOrder (Cond.code yX12_laysOrder cX12_laysOrder 6 none) rm_X12_laysOrder D cI [.ref h_t, .int p1, .int p2] (w_X12_laysOrder h_t r_t F_t cI a_rows a_order) (w_X12_laysOrder h_t r_t F_t cI a_rows Rr) := by
  refine z_begin_v (own := RX12) (ρ := (Nat → Int32)) (fun u => w_X12_laysOrder h_t r_t F_t cI a_rows u) (by decide +kernel) rfl (Nat.le_of_ble_eq_true rfl) ?_
  intro p e s m args below meth c ls Q A hx hb hml hts hcx hown hK hX hA hP hD hS hl hret
  have hl : lv_has ls 6 [(0, .ref h_t), (1, .int p1), (2, .int p2)] := hl
  have hf := (m_X12_laysOrder.eq_1 _ _ _ _).symm.trans hf
  have L6 : ∀ (n6 : Nat) (x3 : Int32) (x4 : Int32) (a_order : Nat → Int32) (H : Heap) (locs : List Loc) (ls : Array Slot), m_X12_laysOrder_w6 a_rows p1 p2 n6 x3 x4 a_order = some Rr → va_P D vwCl (w_X12_laysOrder h_t r_t F_t cI a_rows a_order) H → va_D A (w_X12_laysOrder h_t r_t F_t cI a_rows a_order) → va_S A s.heap H locs → lv_has ls 6 [(0, .ref h_t), (1, .int p1), (3, .int x3), (4, .int x4)] → W p l e rm_X12_laysOrder s m args below meth c H locs 0 0 Q (F0 m 6 ls []) := by
    intro n6
    induction n6 with
    | zero => intro x3 x4 a_order H locs ls hf; cases (show (none : Option _) = some Rr from hf)
    | succ n6 ih6 =>
      intro x3 x4 a_order H locs ls hf hP hD hS hl
      have hf := (m_X12_laysOrder_w6.eq_2 _ _ _ _ _ _ _).symm.trans hf
      refine lv_iload hx hb dX12_laysOrder_6 (lv_at hl 3 rfl) ?_
      refine z_if_lt (tgt := 49) hx hb dX12_laysOrder_8 (by decide) hf (fun hf => ?_) (fun hf => ?_)
      · exact hret a_order _ _ _ _ hf hP hD hS dX12_laysOrder_49
      · refine lv_aload_n hx hb dX12_laysOrder_11 rfl (lv_at hl 0 rfl) ?_
        refine z_get (ci := 12) (C := RX12) (T := TX12) (N := 51) (v := .ref (r_t 0)) hx hb hts inT_X12 hown hK hP 0 rfl rfl 0 (by decide) tf_X12_10 rfl dX12_laysOrder_12 ?_
        refine lv_iload_n hx hb dX12_laysOrder_15 rfl (lv_at hl 1 rfl) ?_
        refine lv_bipush (v := 64) hx hb dX12_laysOrder_16 (by decide) ?_
        refine lv_iadd hx hb dX12_laysOrder_18 ?_
        refine lv_iload hx hb dX12_laysOrder_19 (lv_at hl 3 rfl) ?_
        refine lv_iadd hx hb dX12_laysOrder_21 ?_
        refine z_iald hx hb hK hP 1 rfl dX12_laysOrder_22 hf (fun y1 hf => ?_)
        refine lv_iconst (v := 1) hx hb dX12_laysOrder_23 (by decide) ?_
        refine lv_iadd hx hb dX12_laysOrder_24 ?_
        refine z_istore (fun z => [(5, .int z), (0, .ref h_t), (1, .int p1), (3, .int x3), (4, .int x4)]) hx hb dX12_laysOrder_25 hl (by decide) (fun _ => rfl) hf (fun v2 ls hf hl => ?_)
        refine lv_aload_n hx hb dX12_laysOrder_27 rfl (lv_at hl 1 rfl) ?_
        refine z_get (ci := 12) (C := RX12) (T := TX12) (N := 51) (v := .ref (r_t 24)) hx hb hts inT_X12 hown hK hP 0 rfl rfl 24 (by decide) tf_X12_42 rfl dX12_laysOrder_28 ?_
        refine lv_iload hx hb dX12_laysOrder_31 (lv_at hl 4 rfl) ?_
        refine lv_iload_n hx hb dX12_laysOrder_33 rfl (lv_at hl 3 rfl) ?_
        refine lv_iload hx hb dX12_laysOrder_34 (lv_at hl 0 rfl) ?_
        refine z_irem hx hb dX12_laysOrder_36 hf (fun hf => ?_)
        refine z_iast hx hb hK hP hD hS 2 rfl (fun z => w_X12_laysOrder h_t r_t F_t cI a_rows z) (fun _ => rfl) dX12_laysOrder_37 hf (fun a3 H locs hf hP hD hS => ?_)
        refine lv_iload_n hx hb dX12_laysOrder_38 rfl (lv_at hl 3 rfl) ?_
        refine lv_iload hx hb dX12_laysOrder_39 (lv_at hl 0 rfl) ?_
        refine z_idiv hx hb dX12_laysOrder_41 hf (fun hf => ?_)
        refine z_istore_n (fun z => [(3, .int z), (5, .int v2), (0, .ref h_t), (1, .int p1), (4, .int x4)]) hx hb dX12_laysOrder_42 rfl hl (by decide) (fun _ => rfl) hf (fun v4 ls hf hl => ?_)
        refine z_iinc (k0 := 4) (fun z => [(4, .int z), (3, .int v4), (5, .int v2), (0, .ref h_t), (1, .int p1)]) hx hb dX12_laysOrder_43 hl rfl (by decide) (by decide) (fun _ => rfl) hf (fun v5 ls hf hl => ?_)
        refine lv_goto (tgt := 6) hx hb dX12_laysOrder_46 (by decide) ?_
        exact ih6 v4 v5 a3 _ _ _ hf hP hD hS (lv_sub hl [3, 4, 1, 0] rfl)
  refine lv_iload_n hx hb dX12_laysOrder_0 rfl (lv_at hl 2 rfl) ?_
  refine lv_istore_n (lv' := [(3, .int p2), (0, .ref h_t), (1, .int p1), (2, .int p2)]) hx hb dX12_laysOrder_1 rfl hl (by decide) rfl (fun ls hl => ?_)
  refine lv_bipush (v := 15) hx hb dX12_laysOrder_2 (by decide) ?_
  refine lv_istore (lv' := [(4, .int 15), (3, .int p2), (0, .ref h_t), (1, .int p1), (2, .int p2)]) hx hb dX12_laysOrder_4 hl (by decide) rfl (fun ls hl => ?_)
  exact L6 fuelN p2 15 a_order _ _ _ hf hP hD hS (lv_sub hl [2, 3, 1, 0] rfl)
abbrev w_X12_laysImage (h_t : Nat) (r_t : Nat → Nat) (F_t : Nat → Int32) (cI : ClassId) (a_rows : Nat → Int32) (a_order : Nat → Int32) (a_image : Nat → Int32) : va_W := [(h_t, .inr (12, o_X12 r_t F_t)), ((r_t 0), .inl (cI, 66100, .inl a_rows)), ((r_t 24), .inl (cI, 16, .inl a_order)), ((r_t 25), .inl (cI, 64, .inl a_image))]
abbrev rm_X12_laysImage : Room := { frames := 0, cells := 0, slots := 0, locals := 0 }
def m_X12_laysImage_j95 (a_rows : Nat → Int32) (a_order : Nat → Int32) (p1 : Int32) (k30 : Int32 → (Nat → Int32) → Option ((Nat → Int32))) (x2 : Int32) (a_image : Nat → Int32) : Option ((Nat → Int32)) :=
  nm (x2 + 1) fun v3 =>
  k30 v3 a_image
def m_X12_laysImage_w49 (a_rows : Nat → Int32) (a_order : Nat → Int32) (p1 : Int32) (k95 : Int32 → (Nat → Int32) → Option ((Nat → Int32))) : Nat → Int32 → Int32 → Int32 → (Nat → Int32) → Option ((Nat → Int32))
  | 0, _, _, _, _ => none
  | n49 + 1, x2, x3, x4, a_image =>
    rd a_order 16 x2 fun y2 =>
    if y2 ≤ x4 then (
    k95 x2 a_image)
    else (
    rd a_rows 66100 (x3 + (2 * x4)) fun y4 =>
    rd a_rows 66100 ((x3 + (2 * x4)) + 1) fun y5 =>
    wr a_image 64 y4 y5 fun a6 =>
    nm (x4 + 1) fun v7 =>
    m_X12_laysImage_w49 a_rows a_order p1 k95 n49 x2 x3 v7 a6)
def m_X12_laysImage_w30 (a_rows : Nat → Int32) (a_order : Nat → Int32) (p1 : Int32) : Nat → Int32 → (Nat → Int32) → Option ((Nat → Int32))
  | 0, _, _ => none
  | n30 + 1, x2, a_image =>
    if 16 ≤ x2 then (
    some a_image)
    else (
    nm ((p1 + 96) + (12 * x2)) fun v1 =>
    m_X12_laysImage_w49 a_rows a_order p1 (m_X12_laysImage_j95 a_rows a_order p1 (m_X12_laysImage_w30 a_rows a_order p1 n30)) fuelN x2 v1 0 a_image)
def m_X12_laysImage_j28 (a_rows : Nat → Int32) (a_order : Nat → Int32) (p1 : Int32) (a_image : Nat → Int32) : Option ((Nat → Int32)) :=
  m_X12_laysImage_w30 a_rows a_order p1 fuelN 0 a_image
def m_X12_laysImage_w2 (a_rows : Nat → Int32) (a_order : Nat → Int32) (p1 : Int32) (k28 : (Nat → Int32) → Option ((Nat → Int32))) : Nat → Int32 → (Nat → Int32) → Option ((Nat → Int32))
  | 0, _, _ => none
  | n2 + 1, x2, a_image =>
    if 64 ≤ x2 then (
    k28 a_image)
    else (
    rd a_rows 66100 (p1 + x2) fun y8 =>
    wr a_image 64 x2 y8 fun a9 =>
    nm (x2 + 1) fun v10 =>
    m_X12_laysImage_w2 a_rows a_order p1 k28 n2 v10 a9)
def m_X12_laysImage (a_rows : Nat → Int32) (a_order : Nat → Int32) (a_image : Nat → Int32) (p1 : Int32) : Option ((Nat → Int32)) :=
  m_X12_laysImage_w2 a_rows a_order p1 (m_X12_laysImage_j28 a_rows a_order p1) fuelN 0 a_image
set_option maxHeartbeats 4000000 in
set_option maxRecDepth 100000 in
theorem c_X12_laysImage (l : Launch) (D : va_G) (cI : ClassId) (h_t : Nat) (r_t : Nat → Nat) (F_t : Nat → Int32) (a_rows : Nat → Int32) (a_order : Nat → Int32) (a_image : Nat → Int32) (p1 : Int32) (Rr : (Nat → Int32)) (hf : m_X12_laysImage a_rows a_order a_image p1 = some Rr) : CTv l yX12_laysImage (Cond.code yX12_laysImage cX12_laysImage 5 none) rm_X12_laysImage D cI [.ref h_t, .int p1] (w_X12_laysImage h_t r_t F_t cI a_rows a_order a_image) (w_X12_laysImage h_t r_t F_t cI a_rows a_order Rr) := by
  refine z_begin_v (own := RX12) (ρ := (Nat → Int32)) (fun u => w_X12_laysImage h_t r_t F_t cI a_rows a_order u) (by decide +kernel) rfl (Nat.le_of_ble_eq_true rfl) ?_
  intro p e s m args below meth c ls Q A hx hb hml hts hcx hown hK hX hA hP hD hS hl hret
  have hl : lv_has ls 5 [(0, .ref h_t), (1, .int p1)] := hl
  have hf := (m_X12_laysImage.eq_1 _ _ _ _).symm.trans hf
  have L30 : ∀ (n30 : Nat) (x2 : Int32) (a_image : Nat → Int32) (H : Heap) (locs : List Loc) (ls : Array Slot), m_X12_laysImage_w30 a_rows a_order p1 n30 x2 a_image = some Rr → va_P D vwCl (w_X12_laysImage h_t r_t F_t cI a_rows a_order a_image) H → va_D A (w_X12_laysImage h_t r_t F_t cI a_rows a_order a_image) → va_S A s.heap H locs → lv_has ls 5 [(0, .ref h_t), (1, .int p1), (2, .int x2)] → W p l e rm_X12_laysImage s m args below meth c H locs 0 0 Q (F0 m 30 ls []) := by
    intro n30
    induction n30 with
    | zero => intro x2 a_image H locs ls hf; cases (show (none : Option _) = some Rr from hf)
    | succ n30 ih30 =>
      intro x2 a_image H locs ls hf hP hD hS hl
      have hf := (m_X12_laysImage_w30.eq_2 _ _ _ _ _ _).symm.trans hf
      have L95 : ∀ (x2 : Int32) (a_image : Nat → Int32) (H : Heap) (locs : List Loc) (ls : Array Slot), m_X12_laysImage_j95 a_rows a_order p1 (m_X12_laysImage_w30 a_rows a_order p1 n30) x2 a_image = some Rr → va_P D vwCl (w_X12_laysImage h_t r_t F_t cI a_rows a_order a_image) H → va_D A (w_X12_laysImage h_t r_t F_t cI a_rows a_order a_image) → va_S A s.heap H locs → lv_has ls 5 [(0, .ref h_t), (1, .int p1), (2, .int x2)] → W p l e rm_X12_laysImage s m args below meth c H locs 0 0 Q (F0 m 95 ls []) := by
        intro x2 a_image H locs ls hf hP hD hS hl
        have hf := (m_X12_laysImage_j95.eq_1 _ _ _ _ _ _).symm.trans hf
        refine z_iinc (k0 := 2) (fun z => [(2, .int z), (0, .ref h_t), (1, .int p1)]) hx hb dX12_laysImage_95 hl rfl (by decide) (by decide) (fun _ => rfl) hf (fun v3 ls hf hl => ?_)
        refine lv_goto (tgt := 30) hx hb dX12_laysImage_98 (by decide) ?_
        exact ih30 v3 a_image _ _ _ hf hP hD hS (lv_sub hl [1, 2, 0] rfl)
      have L49 : ∀ (n49 : Nat) (x2 : Int32) (x3 : Int32) (x4 : Int32) (a_image : Nat → Int32) (H : Heap) (locs : List Loc) (ls : Array Slot), m_X12_laysImage_w49 a_rows a_order p1 (m_X12_laysImage_j95 a_rows a_order p1 (m_X12_laysImage_w30 a_rows a_order p1 n30)) n49 x2 x3 x4 a_image = some Rr → va_P D vwCl (w_X12_laysImage h_t r_t F_t cI a_rows a_order a_image) H → va_D A (w_X12_laysImage h_t r_t F_t cI a_rows a_order a_image) → va_S A s.heap H locs → lv_has ls 5 [(0, .ref h_t), (1, .int p1), (2, .int x2), (3, .int x3), (4, .int x4)] → W p l e rm_X12_laysImage s m args below meth c H locs 0 0 Q (F0 m 49 ls []) := by
        intro n49
        induction n49 with
        | zero => intro x2 x3 x4 a_image H locs ls hf; cases (show (none : Option _) = some Rr from hf)
        | succ n49 ih49 =>
          intro x2 x3 x4 a_image H locs ls hf hP hD hS hl
          have hf := (m_X12_laysImage_w49.eq_2 _ _ _ _ _ _ _ _ _).symm.trans hf
          refine lv_iload hx hb dX12_laysImage_49 (lv_at hl 4 rfl) ?_
          refine lv_aload_n hx hb dX12_laysImage_51 rfl (lv_at hl 0 rfl) ?_
          refine z_get (ci := 12) (C := RX12) (T := TX12) (N := 51) (v := .ref (r_t 24)) hx hb hts inT_X12 hown hK hP 0 rfl rfl 24 (by decide) tf_X12_42 rfl dX12_laysImage_52 ?_
          refine lv_iload_n hx hb dX12_laysImage_55 rfl (lv_at hl 2 rfl) ?_
          refine z_iald hx hb hK hP 2 rfl dX12_laysImage_56 hf (fun y2 hf => ?_)
          refine z_icmp_ge (tgt := 95) hx hb dX12_laysImage_57 (by decide) hf (fun hf => ?_) (fun hf => ?_)
          · exact L95 x2 a_image _ _ _ hf hP hD hS (lv_sub hl [0, 1, 2] rfl)
          · refine lv_aload_n hx hb dX12_laysImage_60 rfl (lv_at hl 0 rfl) ?_
            refine z_get (ci := 12) (C := RX12) (T := TX12) (N := 51) (v := .ref (r_t 25)) hx hb hts inT_X12 hown hK hP 0 rfl rfl 25 (by decide) tf_X12_45 rfl dX12_laysImage_61 ?_
            refine lv_aload_n hx hb dX12_laysImage_64 rfl (lv_at hl 0 rfl) ?_
            refine z_get (ci := 12) (C := RX12) (T := TX12) (N := 51) (v := .ref (r_t 0)) hx hb hts inT_X12 hown hK hP 0 rfl rfl 0 (by decide) tf_X12_10 rfl dX12_laysImage_65 ?_
            refine lv_iload_n hx hb dX12_laysImage_68 rfl (lv_at hl 3 rfl) ?_
            refine lv_iconst (v := 2) hx hb dX12_laysImage_69 (by decide) ?_
            refine lv_iload hx hb dX12_laysImage_70 (lv_at hl 4 rfl) ?_
            refine lv_imul hx hb dX12_laysImage_72 ?_
            refine lv_iadd hx hb dX12_laysImage_73 ?_
            refine z_iald hx hb hK hP 1 rfl dX12_laysImage_74 hf (fun y4 hf => ?_)
            refine lv_aload_n hx hb dX12_laysImage_75 rfl (lv_at hl 0 rfl) ?_
            refine z_get (ci := 12) (C := RX12) (T := TX12) (N := 51) (v := .ref (r_t 0)) hx hb hts inT_X12 hown hK hP 0 rfl rfl 0 (by decide) tf_X12_10 rfl dX12_laysImage_76 ?_
            refine lv_iload_n hx hb dX12_laysImage_79 rfl (lv_at hl 3 rfl) ?_
            refine lv_iconst (v := 2) hx hb dX12_laysImage_80 (by decide) ?_
            refine lv_iload hx hb dX12_laysImage_81 (lv_at hl 4 rfl) ?_
            refine lv_imul hx hb dX12_laysImage_83 ?_
            refine lv_iadd hx hb dX12_laysImage_84 ?_
            refine lv_iconst (v := 1) hx hb dX12_laysImage_85 (by decide) ?_
            refine lv_iadd hx hb dX12_laysImage_86 ?_
            refine z_iald hx hb hK hP 1 rfl dX12_laysImage_87 hf (fun y5 hf => ?_)
            refine z_iast hx hb hK hP hD hS 3 rfl (fun z => w_X12_laysImage h_t r_t F_t cI a_rows a_order z) (fun _ => rfl) dX12_laysImage_88 hf (fun a6 H locs hf hP hD hS => ?_)
            refine z_iinc (k0 := 4) (fun z => [(4, .int z), (0, .ref h_t), (1, .int p1), (2, .int x2), (3, .int x3)]) hx hb dX12_laysImage_89 hl rfl (by decide) (by decide) (fun _ => rfl) hf (fun v7 ls hf hl => ?_)
            refine lv_goto (tgt := 49) hx hb dX12_laysImage_92 (by decide) ?_
            exact ih49 x2 x3 v7 a6 _ _ _ hf hP hD hS (lv_sub hl [1, 2, 3, 4, 0] rfl)
      refine lv_iload_n hx hb dX12_laysImage_30 rfl (lv_at hl 2 rfl) ?_
      refine lv_bipush (v := 16) hx hb dX12_laysImage_31 (by decide) ?_
      refine z_icmp_ge (tgt := 101) hx hb dX12_laysImage_33 (by decide) hf (fun hf => ?_) (fun hf => ?_)
      · exact hret a_image _ _ _ _ hf hP hD hS dX12_laysImage_101
      · refine lv_iload_n hx hb dX12_laysImage_36 rfl (lv_at hl 1 rfl) ?_
        refine lv_bipush (v := 96) hx hb dX12_laysImage_37 (by decide) ?_
        refine lv_iadd hx hb dX12_laysImage_39 ?_
        refine lv_bipush (v := 12) hx hb dX12_laysImage_40 (by decide) ?_
        refine lv_iload_n hx hb dX12_laysImage_42 rfl (lv_at hl 2 rfl) ?_
        refine lv_imul hx hb dX12_laysImage_43 ?_
        refine lv_iadd hx hb dX12_laysImage_44 ?_
        refine z_istore_n (fun z => [(3, .int z), (0, .ref h_t), (1, .int p1), (2, .int x2)]) hx hb dX12_laysImage_45 rfl hl (by decide) (fun _ => rfl) hf (fun v1 ls hf hl => ?_)
        refine lv_iconst (v := 0) hx hb dX12_laysImage_46 (by decide) ?_
        refine lv_istore (lv' := [(4, .int 0), (3, .int v1), (0, .ref h_t), (1, .int p1), (2, .int x2)]) hx hb dX12_laysImage_47 hl (by decide) rfl (fun ls hl => ?_)
        exact L49 fuelN x2 v1 0 a_image _ _ _ hf hP hD hS (lv_sub hl [2, 3, 4, 1, 0] rfl)
  have L28 : ∀ (a_image : Nat → Int32) (H : Heap) (locs : List Loc) (ls : Array Slot), m_X12_laysImage_j28 a_rows a_order p1 a_image = some Rr → va_P D vwCl (w_X12_laysImage h_t r_t F_t cI a_rows a_order a_image) H → va_D A (w_X12_laysImage h_t r_t F_t cI a_rows a_order a_image) → va_S A s.heap H locs → lv_has ls 5 [(0, .ref h_t), (1, .int p1)] → W p l e rm_X12_laysImage s m args below meth c H locs 0 0 Q (F0 m 28 ls []) := by
    intro a_image H locs ls hf hP hD hS hl
    have hf := (m_X12_laysImage_j28.eq_1 _ _ _ _).symm.trans hf
    refine lv_iconst (v := 0) hx hb dX12_laysImage_28 (by decide) ?_
    refine lv_istore_n (lv' := [(2, .int 0), (0, .ref h_t), (1, .int p1)]) hx hb dX12_laysImage_29 rfl hl (by decide) rfl (fun ls hl => ?_)
    exact L30 fuelN 0 a_image _ _ _ hf hP hD hS (lv_sub hl [1, 2, 0] rfl)
  have L2 : ∀ (n2 : Nat) (x2 : Int32) (a_image : Nat → Int32) (H : Heap) (locs : List Loc) (ls : Array Slot), m_X12_laysImage_w2 a_rows a_order p1 (m_X12_laysImage_j28 a_rows a_order p1) n2 x2 a_image = some Rr → va_P D vwCl (w_X12_laysImage h_t r_t F_t cI a_rows a_order a_image) H → va_D A (w_X12_laysImage h_t r_t F_t cI a_rows a_order a_image) → va_S A s.heap H locs → lv_has ls 5 [(0, .ref h_t), (1, .int p1), (2, .int x2)] → W p l e rm_X12_laysImage s m args below meth c H locs 0 0 Q (F0 m 2 ls []) := by
    intro n2
    induction n2 with
    | zero => intro x2 a_image H locs ls hf; cases (show (none : Option _) = some Rr from hf)
    | succ n2 ih2 =>
      intro x2 a_image H locs ls hf hP hD hS hl
      have hf := (m_X12_laysImage_w2.eq_2 _ _ _ _ _ _ _).symm.trans hf
      refine lv_iload_n hx hb dX12_laysImage_2 rfl (lv_at hl 2 rfl) ?_
      refine lv_bipush (v := 64) hx hb dX12_laysImage_3 (by decide) ?_
      refine z_icmp_ge (tgt := 28) hx hb dX12_laysImage_5 (by decide) hf (fun hf => ?_) (fun hf => ?_)
      · exact L28 a_image _ _ _ hf hP hD hS (lv_sub hl [0, 1] rfl)
      · refine lv_aload_n hx hb dX12_laysImage_8 rfl (lv_at hl 0 rfl) ?_
        refine z_get (ci := 12) (C := RX12) (T := TX12) (N := 51) (v := .ref (r_t 25)) hx hb hts inT_X12 hown hK hP 0 rfl rfl 25 (by decide) tf_X12_45 rfl dX12_laysImage_9 ?_
        refine lv_iload_n hx hb dX12_laysImage_12 rfl (lv_at hl 2 rfl) ?_
        refine lv_aload_n hx hb dX12_laysImage_13 rfl (lv_at hl 0 rfl) ?_
        refine z_get (ci := 12) (C := RX12) (T := TX12) (N := 51) (v := .ref (r_t 0)) hx hb hts inT_X12 hown hK hP 0 rfl rfl 0 (by decide) tf_X12_10 rfl dX12_laysImage_14 ?_
        refine lv_iload_n hx hb dX12_laysImage_17 rfl (lv_at hl 1 rfl) ?_
        refine lv_iload_n hx hb dX12_laysImage_18 rfl (lv_at hl 2 rfl) ?_
        refine lv_iadd hx hb dX12_laysImage_19 ?_
        refine z_iald hx hb hK hP 1 rfl dX12_laysImage_20 hf (fun y8 hf => ?_)
        refine z_iast hx hb hK hP hD hS 3 rfl (fun z => w_X12_laysImage h_t r_t F_t cI a_rows a_order z) (fun _ => rfl) dX12_laysImage_21 hf (fun a9 H locs hf hP hD hS => ?_)
        refine z_iinc (k0 := 2) (fun z => [(2, .int z), (0, .ref h_t), (1, .int p1)]) hx hb dX12_laysImage_22 hl rfl (by decide) (by decide) (fun _ => rfl) hf (fun v10 ls hf hl => ?_)
        refine lv_goto (tgt := 2) hx hb dX12_laysImage_25 (by decide) ?_
        exact ih2 v10 a9 _ _ _ hf hP hD hS (lv_sub hl [1, 2, 0] rfl)
  refine lv_iconst (v := 0) hx hb dX12_laysImage_0 (by decide) ?_
  refine lv_istore_n (lv' := [(2, .int 0), (0, .ref h_t), (1, .int p1)]) hx hb dX12_laysImage_1 rfl hl (by decide) rfl (fun ls hl => ?_)
  exact L2 fuelN 0 a_image _ _ _ hf hP hD hS (lv_sub hl [1, 2, 0] rfl)
abbrev w_X12_laysWell (h_t : Nat) (r_t : Nat → Nat) (F_t : Nat → Int32) (cI : ClassId) (a_rows : Nat → Int32) (a_memory : Nat → Int32) (a_well : Nat → Int32) : va_W := [(h_t, .inr (12, o_X12 r_t F_t)), ((r_t 0), .inl (cI, 66100, .inl a_rows)), ((r_t 23), .inl (cI, 64, .inl a_memory)), ((r_t 26), .inl (cI, 88, .inl a_well))]
abbrev rm_X12_laysWell : Room := { frames := 2, cells := 0, slots := 0, locals := 46 }
def m_X12_laysWell_j126 (a_rows : Nat → Int32) (p1 : Int32) (k52 : Int32 → (Nat → Int32) → (Nat → Int32) → (Nat → Int32) → Option ((Nat → Int32) × (Nat → Int32) × (Nat → Int32))) (x2 : Int32) (s1 : Int32) (s2 : Int32) (F_t : Nat → Int32) (a_memory : Nat → Int32) (a_well : Nat → Int32) : Option ((Nat → Int32) × (Nat → Int32) × (Nat → Int32)) :=
  wr a_well 88 s1 s2 fun a7 =>
  rd a_rows 66100 ((p1 + 572) + x2) fun y8 =>
  wr a7 88 (44 + x2) y8 fun a9 =>
  nm (x2 + 1) fun v10 =>
  k52 v10 F_t a_memory a9
def m_X12_laysWell_w52 (a_rows : Nat → Int32) (p1 : Int32) : Nat → Int32 → (Nat → Int32) → (Nat → Int32) → (Nat → Int32) → Option ((Nat → Int32) × (Nat → Int32) × (Nat → Int32))
  | 0, _, _, _, _ => none
  | n52 + 1, x2, F_t, a_memory, a_well =>
    if 44 ≤ x2 then (
    some (F_t, a_memory, a_well))
    else (
    rd a_rows 66100 (p1 + 772) fun y4 =>
    if y4 = 1 then (
    rd a_memory 64 (20 + x2) fun y12 =>
    m_X12_laysWell_j126 a_rows p1 (m_X12_laysWell_w52 a_rows p1 n52) x2 x2 y12 F_t a_memory a_well)
    else (
    rd a_rows 66100 (p1 + 776) fun y5 =>
    if y5 = 0 then (
    bd (m_X12_wordOf a_rows p1 (20 + x2)) fun u6 =>
    m_X12_laysWell_j126 a_rows p1 (m_X12_laysWell_w52 a_rows p1 n52) x2 x2 u6 F_t a_memory a_well)
    else (
    rd a_rows 66100 ((p1 + 528) + x2) fun y11 =>
    m_X12_laysWell_j126 a_rows p1 (m_X12_laysWell_w52 a_rows p1 n52) x2 x2 y11 F_t a_memory a_well)))
def m_X12_laysWell_j50 (a_rows : Nat → Int32) (p1 : Int32) (F_t : Nat → Int32) (a_memory : Nat → Int32) (a_well : Nat → Int32) : Option ((Nat → Int32) × (Nat → Int32) × (Nat → Int32)) :=
  m_X12_laysWell_w52 a_rows p1 fuelN 0 F_t a_memory a_well
def m_X12_laysWell_j20 (a_rows : Nat → Int32) (p1 : Int32) (s1 : Int32) (F_t : Nat → Int32) (a_memory : Nat → Int32) (a_well : Nat → Int32) : Option ((Nat → Int32) × (Nat → Int32) × (Nat → Int32)) :=
  cb s1 (
  nm (upd F_t 27 s1) fun F2 =>
  rd a_rows 66100 (p1 + 772) fun y3 =>
  if y3 = 1 then (
  bd (m_X12_laysMemory a_rows a_memory p1) fun u13 =>
  bd (m_X12_recovers F2 u13 64) fun u14 =>
  m_X12_laysWell_j50 a_rows p1 F2 u14 a_well)
  else (
  m_X12_laysWell_j50 a_rows p1 F2 a_memory a_well))
def m_X12_laysWell (F_t : Nat → Int32) (a_rows : Nat → Int32) (a_memory : Nat → Int32) (a_well : Nat → Int32) (p1 : Int32) : Option ((Nat → Int32) × (Nat → Int32) × (Nat → Int32)) :=
  rd a_rows 66100 (p1 + 776) fun y1 =>
  if y1 = 1 then (
  m_X12_laysWell_j20 a_rows p1 1 F_t a_memory a_well)
  else (
  m_X12_laysWell_j20 a_rows p1 0 F_t a_memory a_well)
set_option maxHeartbeats 4000000 in
set_option maxRecDepth 100000 in
theorem c_X12_laysWell (l : Launch) (D : va_G) (cI : ClassId) (h_t : Nat) (r_t : Nat → Nat) (F_t : Nat → Int32) (a_rows : Nat → Int32) (a_memory : Nat → Int32) (a_well : Nat → Int32) (p1 : Int32) (Rr : (Nat → Int32) × (Nat → Int32) × (Nat → Int32)) (hf : m_X12_laysWell F_t a_rows a_memory a_well p1 = some Rr) : CTv l yX12_laysWell (Cond.code yX12_laysWell cX12_laysWell 3 none) rm_X12_laysWell D cI [.ref h_t, .int p1] (w_X12_laysWell h_t r_t F_t cI a_rows a_memory a_well) (w_X12_laysWell h_t r_t Rr.1 cI a_rows Rr.2.1 Rr.2.2) := by
  refine z_begin_v (own := RX12) (ρ := (Nat → Int32) × (Nat → Int32) × (Nat → Int32)) (fun u => w_X12_laysWell h_t r_t u.1 cI a_rows u.2.1 u.2.2) (by decide +kernel) rfl (Nat.le_of_ble_eq_true rfl) ?_
  intro p e s m args below meth c ls Q A hx hb hml hts hcx hown hK hX hA hP hD hS hl hret
  have hl : lv_has ls 3 [(0, .ref h_t), (1, .int p1)] := hl
  have hf := (m_X12_laysWell.eq_1 _ _ _ _ _).symm.trans hf
  have L52 : ∀ (n52 : Nat) (x2 : Int32) (F_t : Nat → Int32) (a_memory : Nat → Int32) (a_well : Nat → Int32) (H : Heap) (locs : List Loc) (ls : Array Slot), m_X12_laysWell_w52 a_rows p1 n52 x2 F_t a_memory a_well = some Rr → va_P D vwCl (w_X12_laysWell h_t r_t F_t cI a_rows a_memory a_well) H → va_D A (w_X12_laysWell h_t r_t F_t cI a_rows a_memory a_well) → va_S A s.heap H locs → lv_has ls 3 [(0, .ref h_t), (1, .int p1), (2, .int x2)] → W p l e rm_X12_laysWell s m args below meth c H locs 0 0 Q (F0 m 52 ls []) := by
    intro n52
    induction n52 with
    | zero => intro x2 F_t a_memory a_well H locs ls hf; cases (show (none : Option _) = some Rr from hf)
    | succ n52 ih52 =>
      intro x2 F_t a_memory a_well H locs ls hf hP hD hS hl
      have hf := (m_X12_laysWell_w52.eq_2 _ _ _ _ _ _ _).symm.trans hf
      have L126 : ∀ (x2 : Int32) (s1 : Int32) (s2 : Int32) (F_t : Nat → Int32) (a_memory : Nat → Int32) (a_well : Nat → Int32) (H : Heap) (locs : List Loc) (ls : Array Slot), m_X12_laysWell_j126 a_rows p1 (m_X12_laysWell_w52 a_rows p1 n52) x2 s1 s2 F_t a_memory a_well = some Rr → va_P D vwCl (w_X12_laysWell h_t r_t F_t cI a_rows a_memory a_well) H → va_D A (w_X12_laysWell h_t r_t F_t cI a_rows a_memory a_well) → va_S A s.heap H locs → lv_has ls 3 [(0, .ref h_t), (1, .int p1), (2, .int x2)] → W p l e rm_X12_laysWell s m args below meth c H locs 0 0 Q (F0 m 126 ls [.int s2, .int s1, .ref (r_t 26)]) := by
        intro x2 s1 s2 F_t a_memory a_well H locs ls hf hP hD hS hl
        have hf := (m_X12_laysWell_j126.eq_1 _ _ _ _ _ _ _ _ _).symm.trans hf
        refine z_iast hx hb hK hP hD hS 3 rfl (fun z => w_X12_laysWell h_t r_t F_t cI a_rows a_memory z) (fun _ => rfl) dX12_laysWell_126 hf (fun a7 H locs hf hP hD hS => ?_)
        refine lv_aload_n hx hb dX12_laysWell_127 rfl (lv_at hl 0 rfl) ?_
        refine z_get (ci := 12) (C := RX12) (T := TX12) (N := 51) (v := .ref (r_t 26)) hx hb hts inT_X12 hown hK hP 0 rfl rfl 26 (by decide) tf_X12_48 rfl dX12_laysWell_128 ?_
        refine lv_bipush (v := 44) hx hb dX12_laysWell_131 (by decide) ?_
        refine lv_iload_n hx hb dX12_laysWell_133 rfl (lv_at hl 2 rfl) ?_
        refine lv_iadd hx hb dX12_laysWell_134 ?_
        refine lv_aload_n hx hb dX12_laysWell_135 rfl (lv_at hl 0 rfl) ?_
        refine z_get (ci := 12) (C := RX12) (T := TX12) (N := 51) (v := .ref (r_t 0)) hx hb hts inT_X12 hown hK hP 0 rfl rfl 0 (by decide) tf_X12_10 rfl dX12_laysWell_136 ?_
        refine lv_iload_n hx hb dX12_laysWell_139 rfl (lv_at hl 1 rfl) ?_
        refine lv_sipush (v := 572) hx hb dX12_laysWell_140 (by decide) ?_
        refine lv_iadd hx hb dX12_laysWell_143 ?_
        refine lv_iload_n hx hb dX12_laysWell_144 rfl (lv_at hl 2 rfl) ?_
        refine lv_iadd hx hb dX12_laysWell_145 ?_
        refine z_iald hx hb hK hP 1 rfl dX12_laysWell_146 hf (fun y8 hf => ?_)
        refine z_iast hx hb hK hP hD hS 3 rfl (fun z => w_X12_laysWell h_t r_t F_t cI a_rows a_memory z) (fun _ => rfl) dX12_laysWell_147 hf (fun a9 H locs hf hP hD hS => ?_)
        refine z_iinc (k0 := 2) (fun z => [(2, .int z), (0, .ref h_t), (1, .int p1)]) hx hb dX12_laysWell_148 hl rfl (by decide) (by decide) (fun _ => rfl) hf (fun v10 ls hf hl => ?_)
        refine lv_goto (tgt := 52) hx hb dX12_laysWell_151 (by decide) ?_
        exact ih52 v10 F_t a_memory a9 _ _ _ hf hP hD hS (lv_sub hl [1, 2, 0] rfl)
      refine lv_iload_n hx hb dX12_laysWell_52 rfl (lv_at hl 2 rfl) ?_
      refine lv_bipush (v := 44) hx hb dX12_laysWell_53 (by decide) ?_
      refine z_icmp_ge (tgt := 154) hx hb dX12_laysWell_55 (by decide) hf (fun hf => ?_) (fun hf => ?_)
      · exact hret (F_t, a_memory, a_well) _ _ _ _ hf hP hD hS dX12_laysWell_154
      · refine lv_aload_n hx hb dX12_laysWell_58 rfl (lv_at hl 0 rfl) ?_
        refine z_get (ci := 12) (C := RX12) (T := TX12) (N := 51) (v := .ref (r_t 26)) hx hb hts inT_X12 hown hK hP 0 rfl rfl 26 (by decide) tf_X12_48 rfl dX12_laysWell_59 ?_
        refine lv_iload_n hx hb dX12_laysWell_62 rfl (lv_at hl 2 rfl) ?_
        refine lv_aload_n hx hb dX12_laysWell_63 rfl (lv_at hl 0 rfl) ?_
        refine z_get (ci := 12) (C := RX12) (T := TX12) (N := 51) (v := .ref (r_t 0)) hx hb hts inT_X12 hown hK hP 0 rfl rfl 0 (by decide) tf_X12_10 rfl dX12_laysWell_64 ?_
        refine lv_iload_n hx hb dX12_laysWell_67 rfl (lv_at hl 1 rfl) ?_
        refine lv_sipush (v := 772) hx hb dX12_laysWell_68 (by decide) ?_
        refine lv_iadd hx hb dX12_laysWell_71 ?_
        refine z_iald hx hb hK hP 1 rfl dX12_laysWell_72 hf (fun y4 hf => ?_)
        refine lv_iconst (v := 1) hx hb dX12_laysWell_73 (by decide) ?_
        refine z_icmp_ne (tgt := 89) hx hb dX12_laysWell_74 (by decide) hf (fun hf => ?_) (fun hf => ?_)
        · refine lv_aload_n hx hb dX12_laysWell_89 rfl (lv_at hl 0 rfl) ?_
          refine z_get (ci := 12) (C := RX12) (T := TX12) (N := 51) (v := .ref (r_t 0)) hx hb hts inT_X12 hown hK hP 0 rfl rfl 0 (by decide) tf_X12_10 rfl dX12_laysWell_90 ?_
          refine lv_iload_n hx hb dX12_laysWell_93 rfl (lv_at hl 1 rfl) ?_
          refine lv_sipush (v := 776) hx hb dX12_laysWell_94 (by decide) ?_
          refine lv_iadd hx hb dX12_laysWell_97 ?_
          refine z_iald hx hb hK hP 1 rfl dX12_laysWell_98 hf (fun y5 hf => ?_)
          refine z_if_eq (tgt := 117) hx hb dX12_laysWell_99 (by decide) hf (fun hf => ?_) (fun hf => ?_)
          · refine lv_aload_n hx hb dX12_laysWell_117 rfl (lv_at hl 0 rfl) ?_
            refine lv_iload_n hx hb dX12_laysWell_118 rfl (lv_at hl 1 rfl) ?_
            refine lv_bipush (v := 20) hx hb dX12_laysWell_119 (by decide) ?_
            refine lv_iload_n hx hb dX12_laysWell_121 rfl (lv_at hl 2 rfl) ?_
            refine lv_iadd hx hb dX12_laysWell_122 ?_
            obtain ⟨u6, hu6, hf⟩ := bd_some hf
            refine z_ci (ws1 := w_X12_laysWell h_t r_t F_t cI a_rows a_memory a_well) (wr := List.filterMap (fun i : Nat => (w_X12_laysWell h_t r_t F_t cI a_rows a_memory a_well)[i]?) [2, 3]) (z_rV (rest := [.int x2, .ref (r_t 26)]) hx hb hml hown hcx hl.1 (c_X12_wordOf l D cI h_t r_t F_t a_rows p1 (20 + x2) u6 hu6 _) tl_X12_118 ti_X12_wordOf tz_X12_wordOf tn_X12 tc_X12_wordOf tm_X12_wordOf rfl rfl ⟨Nat.le_of_ble_eq_true rfl, Nat.le_of_ble_eq_true rfl⟩ hK hX hS hA hP hD [0, 1] rfl rfl 0 rfl rfl rfl rfl (Nat.le_of_ble_eq_true rfl) dX12_laysWell_123 ⟨Nat.zero_le _, Nat.zero_le _⟩) hP hD hS hA [0, 1] [2, 3] [2, 3, 0, 1] rfl rfl rfl (by decide) rfl rfl (fun H locs hP hD hS => ?_)
            exact L126 x2 x2 u6 F_t a_memory a_well _ _ _ hf hP hD hS (lv_sub hl [0, 1, 2] rfl)
          · refine lv_aload_n hx hb dX12_laysWell_102 rfl (lv_at hl 0 rfl) ?_
            refine z_get (ci := 12) (C := RX12) (T := TX12) (N := 51) (v := .ref (r_t 0)) hx hb hts inT_X12 hown hK hP 0 rfl rfl 0 (by decide) tf_X12_10 rfl dX12_laysWell_103 ?_
            refine lv_iload_n hx hb dX12_laysWell_106 rfl (lv_at hl 1 rfl) ?_
            refine lv_sipush (v := 528) hx hb dX12_laysWell_107 (by decide) ?_
            refine lv_iadd hx hb dX12_laysWell_110 ?_
            refine lv_iload_n hx hb dX12_laysWell_111 rfl (lv_at hl 2 rfl) ?_
            refine lv_iadd hx hb dX12_laysWell_112 ?_
            refine z_iald hx hb hK hP 1 rfl dX12_laysWell_113 hf (fun y11 hf => ?_)
            refine lv_goto (tgt := 126) hx hb dX12_laysWell_114 (by decide) ?_
            exact L126 x2 x2 y11 F_t a_memory a_well _ _ _ hf hP hD hS (lv_sub hl [0, 1, 2] rfl)
        · refine lv_aload_n hx hb dX12_laysWell_77 rfl (lv_at hl 0 rfl) ?_
          refine z_get (ci := 12) (C := RX12) (T := TX12) (N := 51) (v := .ref (r_t 23)) hx hb hts inT_X12 hown hK hP 0 rfl rfl 23 (by decide) tf_X12_39 rfl dX12_laysWell_78 ?_
          refine lv_bipush (v := 20) hx hb dX12_laysWell_81 (by decide) ?_
          refine lv_iload_n hx hb dX12_laysWell_83 rfl (lv_at hl 2 rfl) ?_
          refine lv_iadd hx hb dX12_laysWell_84 ?_
          refine z_iald hx hb hK hP 2 rfl dX12_laysWell_85 hf (fun y12 hf => ?_)
          refine lv_goto (tgt := 126) hx hb dX12_laysWell_86 (by decide) ?_
          exact L126 x2 x2 y12 F_t a_memory a_well _ _ _ hf hP hD hS (lv_sub hl [0, 1, 2] rfl)
  have L50 : ∀ (F_t : Nat → Int32) (a_memory : Nat → Int32) (a_well : Nat → Int32) (H : Heap) (locs : List Loc) (ls : Array Slot), m_X12_laysWell_j50 a_rows p1 F_t a_memory a_well = some Rr → va_P D vwCl (w_X12_laysWell h_t r_t F_t cI a_rows a_memory a_well) H → va_D A (w_X12_laysWell h_t r_t F_t cI a_rows a_memory a_well) → va_S A s.heap H locs → lv_has ls 3 [(0, .ref h_t), (1, .int p1)] → W p l e rm_X12_laysWell s m args below meth c H locs 0 0 Q (F0 m 50 ls []) := by
    intro F_t a_memory a_well H locs ls hf hP hD hS hl
    have hf := (m_X12_laysWell_j50.eq_1 _ _ _ _ _).symm.trans hf
    refine lv_iconst (v := 0) hx hb dX12_laysWell_50 (by decide) ?_
    refine lv_istore_n (lv' := [(2, .int 0), (0, .ref h_t), (1, .int p1)]) hx hb dX12_laysWell_51 rfl hl (by decide) rfl (fun ls hl => ?_)
    exact L52 fuelN 0 F_t a_memory a_well _ _ _ hf hP hD hS (lv_sub hl [1, 2, 0] rfl)
  have L20 : ∀ (s1 : Int32) (F_t : Nat → Int32) (a_memory : Nat → Int32) (a_well : Nat → Int32) (H : Heap) (locs : List Loc) (ls : Array Slot), m_X12_laysWell_j20 a_rows p1 s1 F_t a_memory a_well = some Rr → va_P D vwCl (w_X12_laysWell h_t r_t F_t cI a_rows a_memory a_well) H → va_D A (w_X12_laysWell h_t r_t F_t cI a_rows a_memory a_well) → va_S A s.heap H locs → lv_has ls 3 [(0, .ref h_t), (1, .int p1)] → W p l e rm_X12_laysWell s m args below meth c H locs 0 0 Q (F0 m 20 ls [.int s1, .ref h_t]) := by
    intro s1 F_t a_memory a_well H locs ls hf hP hD hS hl
    have hf := (m_X12_laysWell_j20.eq_1 _ _ _ _ _ _).symm.trans hf
    refine z_putb (ci := 12) (C := RX12) (T := TX12) (N := 51) hx hb hts inT_X12 tyX12 tyX12_ok nmX12 hown hK hP hD hS 0 rfl rfl 27 (by decide) tf_X12_181 rfl (by decide +kernel) (Nat.le_of_ble_eq_true rfl) (o_X12 r_t) (o_X12_s27 _ _ _) (fun z => w_X12_laysWell h_t r_t z cI a_rows a_memory a_well) (fun _ => rfl) dX12_laysWell_20 hf (fun F2 H locs hf hP hD hS => ?_)
    refine lv_aload_n hx hb dX12_laysWell_23 rfl (lv_at hl 0 rfl) ?_
    refine z_get (ci := 12) (C := RX12) (T := TX12) (N := 51) (v := .ref (r_t 0)) hx hb hts inT_X12 hown hK hP 0 rfl rfl 0 (by decide) tf_X12_10 rfl dX12_laysWell_24 ?_
    refine lv_iload_n hx hb dX12_laysWell_27 rfl (lv_at hl 1 rfl) ?_
    refine lv_sipush (v := 772) hx hb dX12_laysWell_28 (by decide) ?_
    refine lv_iadd hx hb dX12_laysWell_31 ?_
    refine z_iald hx hb hK hP 1 rfl dX12_laysWell_32 hf (fun y3 hf => ?_)
    refine lv_iconst (v := 1) hx hb dX12_laysWell_33 (by decide) ?_
    refine z_icmp_ne (tgt := 50) hx hb dX12_laysWell_34 (by decide) hf (fun hf => ?_) (fun hf => ?_)
    · exact L50 F2 a_memory a_well _ _ _ hf hP hD hS (lv_sub hl [0, 1] rfl)
    · refine lv_aload_n hx hb dX12_laysWell_37 rfl (lv_at hl 0 rfl) ?_
      refine lv_iload_n hx hb dX12_laysWell_38 rfl (lv_at hl 1 rfl) ?_
      obtain ⟨u13, hu13, hf⟩ := bd_some hf
      refine z_cv (ws1 := w_X12_laysWell h_t r_t F2 cI a_rows u13 a_well) (wr := List.filterMap (fun i : Nat => (w_X12_laysWell h_t r_t F2 cI a_rows a_memory a_well)[i]?) [3]) (z_rV (rest := []) hx hb hml hown hcx hl.1 (c_X12_laysMemory l D cI h_t r_t F2 a_rows a_memory p1 u13 hu13 _) tl_X12_175 ti_X12_laysMemory tz_X12_laysMemory tn_X12 tc_X12_laysMemory tm_X12_laysMemory rfl rfl ⟨Nat.le_of_ble_eq_true rfl, Nat.le_of_ble_eq_true rfl⟩ hK hX hS hA hP hD [0, 1, 2] rfl rfl 0 rfl rfl rfl rfl (Nat.le_of_ble_eq_true rfl) dX12_laysWell_39 ⟨Nat.zero_le _, Nat.zero_le _⟩) hP hD hS hA [0, 1, 2] [3] [1, 2, 3, 0] rfl rfl rfl (by decide) rfl rfl (fun H locs hP hD hS => ?_)
      refine lv_aload_n hx hb dX12_laysWell_42 rfl (lv_at hl 0 rfl) ?_
      refine lv_aload_n hx hb dX12_laysWell_43 rfl (lv_at hl 0 rfl) ?_
      refine z_get (ci := 12) (C := RX12) (T := TX12) (N := 51) (v := .ref (r_t 23)) hx hb hts inT_X12 hown hK hP 0 rfl rfl 23 (by decide) tf_X12_39 rfl dX12_laysWell_44 ?_
      obtain ⟨u14, hu14, hf⟩ := bd_some hf
      refine z_cv (ws1 := w_X12_laysWell h_t r_t F2 cI a_rows u14 a_well) (wr := List.filterMap (fun i : Nat => (w_X12_laysWell h_t r_t F2 cI a_rows u13 a_well)[i]?) [1, 3]) (z_rV (rest := []) hx hb hml hown hcx hl.1 (c_X12_recovers l D cI h_t (r_t 23) r_t F2 64 u13 u14 hu14 _) tl_X12_178 ti_X12_recovers tz_X12_recovers tn_X12 tc_X12_recovers tm_X12_recovers rfl rfl ⟨Nat.le_of_ble_eq_true rfl, Nat.le_of_ble_eq_true rfl⟩ hK hX hS hA hP hD [0, 2] rfl rfl 0 rfl rfl rfl rfl (Nat.le_of_ble_eq_true rfl) dX12_laysWell_47 ⟨Nat.zero_le _, Nat.zero_le _⟩) hP hD hS hA [0, 2] [1, 3] [2, 0, 3, 1] rfl rfl rfl (by decide) rfl rfl (fun H locs hP hD hS => ?_)
      exact L50 F2 u14 a_well _ _ _ hf hP hD hS (lv_sub hl [0, 1] rfl)
  refine lv_aload_n hx hb dX12_laysWell_0 rfl (lv_at hl 0 rfl) ?_
  refine lv_aload_n hx hb dX12_laysWell_1 rfl (lv_at hl 0 rfl) ?_
  refine z_get (ci := 12) (C := RX12) (T := TX12) (N := 51) (v := .ref (r_t 0)) hx hb hts inT_X12 hown hK hP 0 rfl rfl 0 (by decide) tf_X12_10 rfl dX12_laysWell_2 ?_
  refine lv_iload_n hx hb dX12_laysWell_5 rfl (lv_at hl 1 rfl) ?_
  refine lv_sipush (v := 776) hx hb dX12_laysWell_6 (by decide) ?_
  refine lv_iadd hx hb dX12_laysWell_9 ?_
  refine z_iald hx hb hK hP 1 rfl dX12_laysWell_10 hf (fun y1 hf => ?_)
  refine lv_iconst (v := 1) hx hb dX12_laysWell_11 (by decide) ?_
  refine z_icmp_ne (tgt := 19) hx hb dX12_laysWell_12 (by decide) hf (fun hf => ?_) (fun hf => ?_)
  · refine lv_iconst (v := 0) hx hb dX12_laysWell_19 (by decide) ?_
    exact L20 0 F_t a_memory a_well _ _ _ hf hP hD hS (lv_sub hl [0, 1] rfl)
  · refine lv_iconst (v := 1) hx hb dX12_laysWell_15 (by decide) ?_
    refine lv_goto (tgt := 20) hx hb dX12_laysWell_16 (by decide) ?_
    exact L20 1 F_t a_memory a_well _ _ _ hf hP hD hS (lv_sub hl [0, 1] rfl)
abbrev w_X12_fateHere (h_t : Nat) (r_t : Nat → Nat) (F_t : Nat → Int32) (cI : ClassId) (a_rows : Nat → Int32) (a_order : Nat → Int32) (a_image : Nat → Int32) (a_well : Nat → Int32) : va_W := [(h_t, .inr (12, o_X12 r_t F_t)), ((r_t 0), .inl (cI, 66100, .inl a_rows)), ((r_t 24), .inl (cI, 16, .inl a_order)), ((r_t 25), .inl (cI, 64, .inl a_image)), ((r_t 26), .inl (cI, 88, .inl a_well))]
abbrev rm_X12_fateHere : Room := { frames := 2, cells := 0, slots := 0, locals := 46 }
def m_X12_fateHere_j128 (F_t : Nat → Int32) (a_rows : Nat → Int32) (a_order : Nat → Int32) (a_well : Nat → Int32) (p1 : Int32) (x2 : Int32) (x3 : Int32) (a_image : Nat → Int32) : Option (Int32 × (Nat → Int32)) :=
  if x2 = 0 then (
  if x3 = 0 then (
  some (3, a_image))
  else (
  some (1, a_image)))
  else (
  some (0, a_image))
def m_X12_fateHere_j99 (F_t : Nat → Int32) (a_rows : Nat → Int32) (a_order : Nat → Int32) (a_well : Nat → Int32) (p1 : Int32) (x2 : Int32) (x3 : Int32) (a_image : Nat → Int32) : Option (Int32 × (Nat → Int32)) :=
  if (F_t 27) = 0 then (
  if x2 = 0 then (
  some (3, a_image))
  else (
  some (2, a_image)))
  else (
  if x2 = 0 then (
  m_X12_fateHere_j128 F_t a_rows a_order a_well p1 x2 x3 a_image)
  else (
  if x3 = 0 then (
  m_X12_fateHere_j128 F_t a_rows a_order a_well p1 x2 x3 a_image)
  else (
  some (2, a_image))))
def m_X12_fateHere_j92 (F_t : Nat → Int32) (a_rows : Nat → Int32) (a_order : Nat → Int32) (a_well : Nat → Int32) (p1 : Int32) (k23 : Int32 → Int32 → Int32 → (Nat → Int32) → Option (Int32 × (Nat → Int32))) (x2 : Int32) (x4 : Int32) (s0 : Int32) (a_image : Nat → Int32) : Option (Int32 × (Nat → Int32)) :=
  nm (x4 + 1) fun v4 =>
  k23 x2 s0 v4 a_image
def m_X12_fateHere_j91 (F_t : Nat → Int32) (a_rows : Nat → Int32) (a_order : Nat → Int32) (a_well : Nat → Int32) (p1 : Int32) (k23 : Int32 → Int32 → Int32 → (Nat → Int32) → Option (Int32 × (Nat → Int32))) (x2 : Int32) (x4 : Int32) (a_image : Nat → Int32) : Option (Int32 × (Nat → Int32)) :=
  m_X12_fateHere_j92 F_t a_rows a_order a_well p1 k23 x2 x4 0 a_image
def m_X12_fateHere_j59 (F_t : Nat → Int32) (a_rows : Nat → Int32) (a_order : Nat → Int32) (a_well : Nat → Int32) (p1 : Int32) (k23 : Int32 → Int32 → Int32 → (Nat → Int32) → Option (Int32 × (Nat → Int32))) (x3 : Int32) (x4 : Int32) (s0 : Int32) (a_image : Nat → Int32) : Option (Int32 × (Nat → Int32)) :=
  if x3 = 0 then (
  m_X12_fateHere_j91 F_t a_rows a_order a_well p1 k23 s0 x4 a_image)
  else (
  rd a_image 64 (20 + x4) fun y5 =>
  rd a_well 88 (44 + x4) fun y6 =>
  if y5 = y6 then (
  m_X12_fateHere_j92 F_t a_rows a_order a_well p1 k23 s0 x4 1 a_image)
  else (
  m_X12_fateHere_j91 F_t a_rows a_order a_well p1 k23 s0 x4 a_image))
def m_X12_fateHere_j58 (F_t : Nat → Int32) (a_rows : Nat → Int32) (a_order : Nat → Int32) (a_well : Nat → Int32) (p1 : Int32) (k23 : Int32 → Int32 → Int32 → (Nat → Int32) → Option (Int32 × (Nat → Int32))) (x3 : Int32) (x4 : Int32) (a_image : Nat → Int32) : Option (Int32 × (Nat → Int32)) :=
  m_X12_fateHere_j59 F_t a_rows a_order a_well p1 k23 x3 x4 0 a_image
def m_X12_fateHere_w23 (F_t : Nat → Int32) (a_rows : Nat → Int32) (a_order : Nat → Int32) (a_well : Nat → Int32) (p1 : Int32) (k99 : Int32 → Int32 → (Nat → Int32) → Option (Int32 × (Nat → Int32))) : Nat → Int32 → Int32 → Int32 → (Nat → Int32) → Option (Int32 × (Nat → Int32))
  | 0, _, _, _, _ => none
  | n23 + 1, x2, x3, x4, a_image =>
    if 44 ≤ x4 then (
    k99 x2 x3 a_image)
    else (
    if x2 = 0 then (
    m_X12_fateHere_j58 F_t a_rows a_order a_well p1 (m_X12_fateHere_w23 F_t a_rows a_order a_well p1 k99 n23) x3 x4 a_image)
    else (
    rd a_image 64 (20 + x4) fun y7 =>
    rd a_well 88 x4 fun y8 =>
    if y7 = y8 then (
    m_X12_fateHere_j59 F_t a_rows a_order a_well p1 (m_X12_fateHere_w23 F_t a_rows a_order a_well p1 k99 n23) x3 x4 1 a_image)
    else (
    m_X12_fateHere_j58 F_t a_rows a_order a_well p1 (m_X12_fateHere_w23 F_t a_rows a_order a_well p1 k99 n23) x3 x4 a_image)))
def m_X12_fateHere (F_t : Nat → Int32) (a_rows : Nat → Int32) (a_order : Nat → Int32) (a_image : Nat → Int32) (a_well : Nat → Int32) (p1 : Int32) : Option (Int32 × (Nat → Int32)) :=
  bd (m_X12_laysImage a_rows a_order a_image p1) fun u1 =>
  bd (m_X12_recovers F_t u1 64) fun u2 =>
  nm (F_t 27) fun v3 =>
  m_X12_fateHere_w23 F_t a_rows a_order a_well p1 (m_X12_fateHere_j99 F_t a_rows a_order a_well p1) fuelN 1 v3 0 u2
set_option maxHeartbeats 4000000 in
set_option maxRecDepth 100000 in
theorem c_X12_fateHere (l : Launch) (D : va_G) (cI : ClassId) (h_t : Nat) (r_t : Nat → Nat) (F_t : Nat → Int32) (a_rows : Nat → Int32) (a_order : Nat → Int32) (a_image : Nat → Int32) (a_well : Nat → Int32) (p1 : Int32) (Rr : Int32 × (Nat → Int32)) (hf : m_X12_fateHere F_t a_rows a_order a_image a_well p1 = some Rr) : CTi l yX12_fateHere (Cond.code yX12_fateHere cX12_fateHere 5 (some .int)) rm_X12_fateHere D cI [.ref h_t, .int p1] (w_X12_fateHere h_t r_t F_t cI a_rows a_order a_image a_well) Rr.1 (w_X12_fateHere h_t r_t F_t cI a_rows a_order Rr.2 a_well) := by
  refine z_begin_i (own := RX12) (ρ := Int32 × (Nat → Int32)) (fun u => w_X12_fateHere h_t r_t F_t cI a_rows a_order u.2 a_well) (fun u => u.1) (by decide +kernel) rfl (Nat.le_of_ble_eq_true rfl) ?_
  intro p e s m args below meth c ls Q A hx hb hml hts hcx hown hK hX hA hP hD hS hl hret
  have hl : lv_has ls 5 [(0, .ref h_t), (1, .int p1)] := hl
  have hf := (m_X12_fateHere.eq_1 _ _ _ _ _ _).symm.trans hf
  have L128 : ∀ (x2 : Int32) (x3 : Int32) (a_image : Nat → Int32) (H : Heap) (locs : List Loc) (ls : Array Slot), m_X12_fateHere_j128 F_t a_rows a_order a_well p1 x2 x3 a_image = some Rr → va_P D vwCl (w_X12_fateHere h_t r_t F_t cI a_rows a_order a_image a_well) H → va_D A (w_X12_fateHere h_t r_t F_t cI a_rows a_order a_image a_well) → va_S A s.heap H locs → lv_has ls 5 [(2, .int x2), (3, .int x3)] → W p l e rm_X12_fateHere s m args below meth c H locs 0 0 Q (F0 m 128 ls []) := by
    intro x2 x3 a_image H locs ls hf hP hD hS hl
    have hf := (m_X12_fateHere_j128.eq_1 _ _ _ _ _ _ _ _).symm.trans hf
    refine lv_iload_n hx hb dX12_fateHere_128 rfl (lv_at hl 0 rfl) ?_
    refine z_if_eq (tgt := 136) hx hb dX12_fateHere_129 (by decide) hf (fun hf => ?_) (fun hf => ?_)
    · refine lv_iload_n hx hb dX12_fateHere_136 rfl (lv_at hl 1 rfl) ?_
      refine z_if_eq (tgt := 144) hx hb dX12_fateHere_137 (by decide) hf (fun hf => ?_) (fun hf => ?_)
      · refine lv_iconst (v := 3) hx hb dX12_fateHere_144 (by decide) ?_
        exact hret (3, a_image) _ _ _ _ hf hP hD hS dX12_fateHere_145
      · refine lv_iconst (v := 1) hx hb dX12_fateHere_140 (by decide) ?_
        refine lv_goto (tgt := 145) hx hb dX12_fateHere_141 (by decide) ?_
        exact hret (1, a_image) _ _ _ _ hf hP hD hS dX12_fateHere_145
    · refine lv_iconst (v := 0) hx hb dX12_fateHere_132 (by decide) ?_
      refine lv_goto (tgt := 145) hx hb dX12_fateHere_133 (by decide) ?_
      exact hret (0, a_image) _ _ _ _ hf hP hD hS dX12_fateHere_145
  have L99 : ∀ (x2 : Int32) (x3 : Int32) (a_image : Nat → Int32) (H : Heap) (locs : List Loc) (ls : Array Slot), m_X12_fateHere_j99 F_t a_rows a_order a_well p1 x2 x3 a_image = some Rr → va_P D vwCl (w_X12_fateHere h_t r_t F_t cI a_rows a_order a_image a_well) H → va_D A (w_X12_fateHere h_t r_t F_t cI a_rows a_order a_image a_well) → va_S A s.heap H locs → lv_has ls 5 [(0, .ref h_t), (2, .int x2), (3, .int x3)] → W p l e rm_X12_fateHere s m args below meth c H locs 0 0 Q (F0 m 99 ls []) := by
    intro x2 x3 a_image H locs ls hf hP hD hS hl
    have hf := (m_X12_fateHere_j99.eq_1 _ _ _ _ _ _ _ _).symm.trans hf
    refine lv_aload_n hx hb dX12_fateHere_99 rfl (lv_at hl 0 rfl) ?_
    refine z_get (ci := 12) (C := RX12) (T := TX12) (N := 51) (v := .int (F_t 27)) hx hb hts inT_X12 hown hK hP 0 rfl rfl 27 (by decide) tf_X12_181 rfl dX12_fateHere_100 ?_
    refine z_if_ne (tgt := 116) hx hb dX12_fateHere_103 (by decide) hf (fun hf => ?_) (fun hf => ?_)
    · refine lv_iload_n hx hb dX12_fateHere_116 rfl (lv_at hl 1 rfl) ?_
      refine z_if_eq (tgt := 128) hx hb dX12_fateHere_117 (by decide) hf (fun hf => ?_) (fun hf => ?_)
      · exact L128 x2 x3 a_image _ _ _ hf hP hD hS (lv_sub hl [1, 2] rfl)
      · refine lv_iload_n hx hb dX12_fateHere_120 rfl (lv_at hl 2 rfl) ?_
        refine z_if_eq (tgt := 128) hx hb dX12_fateHere_121 (by decide) hf (fun hf => ?_) (fun hf => ?_)
        · exact L128 x2 x3 a_image _ _ _ hf hP hD hS (lv_sub hl [1, 2] rfl)
        · refine lv_iconst (v := 2) hx hb dX12_fateHere_124 (by decide) ?_
          refine lv_goto (tgt := 145) hx hb dX12_fateHere_125 (by decide) ?_
          exact hret (2, a_image) _ _ _ _ hf hP hD hS dX12_fateHere_145
    · refine lv_iload_n hx hb dX12_fateHere_106 rfl (lv_at hl 1 rfl) ?_
      refine z_if_eq (tgt := 114) hx hb dX12_fateHere_107 (by decide) hf (fun hf => ?_) (fun hf => ?_)
      · refine lv_iconst (v := 3) hx hb dX12_fateHere_114 (by decide) ?_
        exact hret (3, a_image) _ _ _ _ hf hP hD hS dX12_fateHere_115
      · refine lv_iconst (v := 2) hx hb dX12_fateHere_110 (by decide) ?_
        refine lv_goto (tgt := 115) hx hb dX12_fateHere_111 (by decide) ?_
        exact hret (2, a_image) _ _ _ _ hf hP hD hS dX12_fateHere_115
  have L23 : ∀ (n23 : Nat) (x2 : Int32) (x3 : Int32) (x4 : Int32) (a_image : Nat → Int32) (H : Heap) (locs : List Loc) (ls : Array Slot), m_X12_fateHere_w23 F_t a_rows a_order a_well p1 (m_X12_fateHere_j99 F_t a_rows a_order a_well p1) n23 x2 x3 x4 a_image = some Rr → va_P D vwCl (w_X12_fateHere h_t r_t F_t cI a_rows a_order a_image a_well) H → va_D A (w_X12_fateHere h_t r_t F_t cI a_rows a_order a_image a_well) → va_S A s.heap H locs → lv_has ls 5 [(0, .ref h_t), (2, .int x2), (3, .int x3), (4, .int x4)] → W p l e rm_X12_fateHere s m args below meth c H locs 0 0 Q (F0 m 23 ls []) := by
    intro n23
    induction n23 with
    | zero => intro x2 x3 x4 a_image H locs ls hf; cases (show (none : Option _) = some Rr from hf)
    | succ n23 ih23 =>
      intro x2 x3 x4 a_image H locs ls hf hP hD hS hl
      have hf := (m_X12_fateHere_w23.eq_2 _ _ _ _ _ _ _ _ _ _ _).symm.trans hf
      have L92 : ∀ (x2 : Int32) (x4 : Int32) (s0 : Int32) (a_image : Nat → Int32) (H : Heap) (locs : List Loc) (ls : Array Slot), m_X12_fateHere_j92 F_t a_rows a_order a_well p1 (m_X12_fateHere_w23 F_t a_rows a_order a_well p1 (m_X12_fateHere_j99 F_t a_rows a_order a_well p1) n23) x2 x4 s0 a_image = some Rr → va_P D vwCl (w_X12_fateHere h_t r_t F_t cI a_rows a_order a_image a_well) H → va_D A (w_X12_fateHere h_t r_t F_t cI a_rows a_order a_image a_well) → va_S A s.heap H locs → lv_has ls 5 [(0, .ref h_t), (2, .int x2), (4, .int x4)] → W p l e rm_X12_fateHere s m args below meth c H locs 0 0 Q (F0 m 92 ls [.int s0]) := by
        intro x2 x4 s0 a_image H locs ls hf hP hD hS hl
        have hf := (m_X12_fateHere_j92.eq_1 _ _ _ _ _ _ _ _ _ _).symm.trans hf
        refine lv_istore_n (lv' := [(3, .int s0), (0, .ref h_t), (2, .int x2), (4, .int x4)]) hx hb dX12_fateHere_92 rfl hl (by decide) rfl (fun ls hl => ?_)
        refine z_iinc (k0 := 3) (fun z => [(4, .int z), (3, .int s0), (0, .ref h_t), (2, .int x2)]) hx hb dX12_fateHere_93 hl rfl (by decide) (by decide) (fun _ => rfl) hf (fun v4 ls hf hl => ?_)
        refine lv_goto (tgt := 23) hx hb dX12_fateHere_96 (by decide) ?_
        exact ih23 x2 s0 v4 a_image _ _ _ hf hP hD hS (lv_sub hl [2, 3, 1, 0] rfl)
      have L91 : ∀ (x2 : Int32) (x4 : Int32) (a_image : Nat → Int32) (H : Heap) (locs : List Loc) (ls : Array Slot), m_X12_fateHere_j91 F_t a_rows a_order a_well p1 (m_X12_fateHere_w23 F_t a_rows a_order a_well p1 (m_X12_fateHere_j99 F_t a_rows a_order a_well p1) n23) x2 x4 a_image = some Rr → va_P D vwCl (w_X12_fateHere h_t r_t F_t cI a_rows a_order a_image a_well) H → va_D A (w_X12_fateHere h_t r_t F_t cI a_rows a_order a_image a_well) → va_S A s.heap H locs → lv_has ls 5 [(0, .ref h_t), (2, .int x2), (4, .int x4)] → W p l e rm_X12_fateHere s m args below meth c H locs 0 0 Q (F0 m 91 ls []) := by
        intro x2 x4 a_image H locs ls hf hP hD hS hl
        have hf := (m_X12_fateHere_j91.eq_1 _ _ _ _ _ _ _ _ _).symm.trans hf
        refine lv_iconst (v := 0) hx hb dX12_fateHere_91 (by decide) ?_
        exact L92 x2 x4 0 a_image _ _ _ hf hP hD hS (lv_sub hl [0, 1, 2] rfl)
      have L59 : ∀ (x3 : Int32) (x4 : Int32) (s0 : Int32) (a_image : Nat → Int32) (H : Heap) (locs : List Loc) (ls : Array Slot), m_X12_fateHere_j59 F_t a_rows a_order a_well p1 (m_X12_fateHere_w23 F_t a_rows a_order a_well p1 (m_X12_fateHere_j99 F_t a_rows a_order a_well p1) n23) x3 x4 s0 a_image = some Rr → va_P D vwCl (w_X12_fateHere h_t r_t F_t cI a_rows a_order a_image a_well) H → va_D A (w_X12_fateHere h_t r_t F_t cI a_rows a_order a_image a_well) → va_S A s.heap H locs → lv_has ls 5 [(0, .ref h_t), (3, .int x3), (4, .int x4)] → W p l e rm_X12_fateHere s m args below meth c H locs 0 0 Q (F0 m 59 ls [.int s0]) := by
        intro x3 x4 s0 a_image H locs ls hf hP hD hS hl
        have hf := (m_X12_fateHere_j59.eq_1 _ _ _ _ _ _ _ _ _ _).symm.trans hf
        refine lv_istore_n (lv' := [(2, .int s0), (0, .ref h_t), (3, .int x3), (4, .int x4)]) hx hb dX12_fateHere_59 rfl hl (by decide) rfl (fun ls hl => ?_)
        refine lv_iload_n hx hb dX12_fateHere_60 rfl (lv_at hl 2 rfl) ?_
        refine z_if_eq (tgt := 91) hx hb dX12_fateHere_61 (by decide) hf (fun hf => ?_) (fun hf => ?_)
        · exact L91 s0 x4 a_image _ _ _ hf hP hD hS (lv_sub hl [1, 0, 3] rfl)
        · refine lv_aload_n hx hb dX12_fateHere_64 rfl (lv_at hl 1 rfl) ?_
          refine z_get (ci := 12) (C := RX12) (T := TX12) (N := 51) (v := .ref (r_t 25)) hx hb hts inT_X12 hown hK hP 0 rfl rfl 25 (by decide) tf_X12_45 rfl dX12_fateHere_65 ?_
          refine lv_bipush (v := 20) hx hb dX12_fateHere_68 (by decide) ?_
          refine lv_iload hx hb dX12_fateHere_70 (lv_at hl 3 rfl) ?_
          refine lv_iadd hx hb dX12_fateHere_72 ?_
          refine z_iald hx hb hK hP 3 rfl dX12_fateHere_73 hf (fun y5 hf => ?_)
          refine lv_aload_n hx hb dX12_fateHere_74 rfl (lv_at hl 1 rfl) ?_
          refine z_get (ci := 12) (C := RX12) (T := TX12) (N := 51) (v := .ref (r_t 26)) hx hb hts inT_X12 hown hK hP 0 rfl rfl 26 (by decide) tf_X12_48 rfl dX12_fateHere_75 ?_
          refine lv_bipush (v := 44) hx hb dX12_fateHere_78 (by decide) ?_
          refine lv_iload hx hb dX12_fateHere_80 (lv_at hl 3 rfl) ?_
          refine lv_iadd hx hb dX12_fateHere_82 ?_
          refine z_iald hx hb hK hP 4 rfl dX12_fateHere_83 hf (fun y6 hf => ?_)
          refine z_icmp_ne (tgt := 91) hx hb dX12_fateHere_84 (by decide) hf (fun hf => ?_) (fun hf => ?_)
          · exact L91 s0 x4 a_image _ _ _ hf hP hD hS (lv_sub hl [1, 0, 3] rfl)
          · refine lv_iconst (v := 1) hx hb dX12_fateHere_87 (by decide) ?_
            refine lv_goto (tgt := 92) hx hb dX12_fateHere_88 (by decide) ?_
            exact L92 s0 x4 1 a_image _ _ _ hf hP hD hS (lv_sub hl [1, 0, 3] rfl)
      have L58 : ∀ (x3 : Int32) (x4 : Int32) (a_image : Nat → Int32) (H : Heap) (locs : List Loc) (ls : Array Slot), m_X12_fateHere_j58 F_t a_rows a_order a_well p1 (m_X12_fateHere_w23 F_t a_rows a_order a_well p1 (m_X12_fateHere_j99 F_t a_rows a_order a_well p1) n23) x3 x4 a_image = some Rr → va_P D vwCl (w_X12_fateHere h_t r_t F_t cI a_rows a_order a_image a_well) H → va_D A (w_X12_fateHere h_t r_t F_t cI a_rows a_order a_image a_well) → va_S A s.heap H locs → lv_has ls 5 [(0, .ref h_t), (3, .int x3), (4, .int x4)] → W p l e rm_X12_fateHere s m args below meth c H locs 0 0 Q (F0 m 58 ls []) := by
        intro x3 x4 a_image H locs ls hf hP hD hS hl
        have hf := (m_X12_fateHere_j58.eq_1 _ _ _ _ _ _ _ _ _).symm.trans hf
        refine lv_iconst (v := 0) hx hb dX12_fateHere_58 (by decide) ?_
        exact L59 x3 x4 0 a_image _ _ _ hf hP hD hS (lv_sub hl [0, 1, 2] rfl)
      refine lv_iload hx hb dX12_fateHere_23 (lv_at hl 3 rfl) ?_
      refine lv_bipush (v := 44) hx hb dX12_fateHere_25 (by decide) ?_
      refine z_icmp_ge (tgt := 99) hx hb dX12_fateHere_27 (by decide) hf (fun hf => ?_) (fun hf => ?_)
      · exact L99 x2 x3 a_image _ _ _ hf hP hD hS (lv_sub hl [0, 1, 2] rfl)
      · refine lv_iload_n hx hb dX12_fateHere_30 rfl (lv_at hl 1 rfl) ?_
        refine z_if_eq (tgt := 58) hx hb dX12_fateHere_31 (by decide) hf (fun hf => ?_) (fun hf => ?_)
        · exact L58 x3 x4 a_image _ _ _ hf hP hD hS (lv_sub hl [0, 2, 3] rfl)
        · refine lv_aload_n hx hb dX12_fateHere_34 rfl (lv_at hl 0 rfl) ?_
          refine z_get (ci := 12) (C := RX12) (T := TX12) (N := 51) (v := .ref (r_t 25)) hx hb hts inT_X12 hown hK hP 0 rfl rfl 25 (by decide) tf_X12_45 rfl dX12_fateHere_35 ?_
          refine lv_bipush (v := 20) hx hb dX12_fateHere_38 (by decide) ?_
          refine lv_iload hx hb dX12_fateHere_40 (lv_at hl 3 rfl) ?_
          refine lv_iadd hx hb dX12_fateHere_42 ?_
          refine z_iald hx hb hK hP 3 rfl dX12_fateHere_43 hf (fun y7 hf => ?_)
          refine lv_aload_n hx hb dX12_fateHere_44 rfl (lv_at hl 0 rfl) ?_
          refine z_get (ci := 12) (C := RX12) (T := TX12) (N := 51) (v := .ref (r_t 26)) hx hb hts inT_X12 hown hK hP 0 rfl rfl 26 (by decide) tf_X12_48 rfl dX12_fateHere_45 ?_
          refine lv_iload hx hb dX12_fateHere_48 (lv_at hl 3 rfl) ?_
          refine z_iald hx hb hK hP 4 rfl dX12_fateHere_50 hf (fun y8 hf => ?_)
          refine z_icmp_ne (tgt := 58) hx hb dX12_fateHere_51 (by decide) hf (fun hf => ?_) (fun hf => ?_)
          · exact L58 x3 x4 a_image _ _ _ hf hP hD hS (lv_sub hl [0, 2, 3] rfl)
          · refine lv_iconst (v := 1) hx hb dX12_fateHere_54 (by decide) ?_
            refine lv_goto (tgt := 59) hx hb dX12_fateHere_55 (by decide) ?_
            exact L59 x3 x4 1 a_image _ _ _ hf hP hD hS (lv_sub hl [0, 2, 3] rfl)
  refine lv_aload_n hx hb dX12_fateHere_0 rfl (lv_at hl 0 rfl) ?_
  refine lv_iload_n hx hb dX12_fateHere_1 rfl (lv_at hl 1 rfl) ?_
  obtain ⟨u1, hu1, hf⟩ := bd_some hf
  refine z_cv (ws1 := w_X12_fateHere h_t r_t F_t cI a_rows a_order u1 a_well) (wr := List.filterMap (fun i : Nat => (w_X12_fateHere h_t r_t F_t cI a_rows a_order a_image a_well)[i]?) [4]) (z_rV (rest := []) hx hb hml hown hcx hl.1 (c_X12_laysImage l D cI h_t r_t F_t a_rows a_order a_image p1 u1 hu1 _) tl_X12_185 ti_X12_laysImage tz_X12_laysImage tn_X12 tc_X12_laysImage tm_X12_laysImage rfl rfl ⟨Nat.le_of_ble_eq_true rfl, Nat.le_of_ble_eq_true rfl⟩ hK hX hS hA hP hD [0, 1, 2, 3] rfl rfl 0 rfl rfl rfl rfl (Nat.le_of_ble_eq_true rfl) dX12_fateHere_2 ⟨Nat.zero_le _, Nat.zero_le _⟩) hP hD hS hA [0, 1, 2, 3] [4] [1, 2, 3, 4, 0] rfl rfl rfl (by decide) rfl rfl (fun H locs hP hD hS => ?_)
  refine lv_aload_n hx hb dX12_fateHere_5 rfl (lv_at hl 0 rfl) ?_
  refine lv_aload_n hx hb dX12_fateHere_6 rfl (lv_at hl 0 rfl) ?_
  refine z_get (ci := 12) (C := RX12) (T := TX12) (N := 51) (v := .ref (r_t 25)) hx hb hts inT_X12 hown hK hP 0 rfl rfl 25 (by decide) tf_X12_45 rfl dX12_fateHere_7 ?_
  obtain ⟨u2, hu2, hf⟩ := bd_some hf
  refine z_cv (ws1 := w_X12_fateHere h_t r_t F_t cI a_rows a_order u2 a_well) (wr := List.filterMap (fun i : Nat => (w_X12_fateHere h_t r_t F_t cI a_rows a_order u1 a_well)[i]?) [1, 2, 4]) (z_rV (rest := []) hx hb hml hown hcx hl.1 (c_X12_recovers l D cI h_t (r_t 25) r_t F_t 64 u1 u2 hu2 _) tl_X12_178 ti_X12_recovers tz_X12_recovers tn_X12 tc_X12_recovers tm_X12_recovers rfl rfl ⟨Nat.le_of_ble_eq_true rfl, Nat.le_of_ble_eq_true rfl⟩ hK hX hS hA hP hD [0, 3] rfl rfl 0 rfl rfl rfl rfl (Nat.le_of_ble_eq_true rfl) dX12_fateHere_10 ⟨Nat.zero_le _, Nat.zero_le _⟩) hP hD hS hA [0, 3] [1, 2, 4] [3, 0, 1, 4, 2] rfl rfl rfl (by decide) rfl rfl (fun H locs hP hD hS => ?_)
  refine lv_iconst (v := 1) hx hb dX12_fateHere_13 (by decide) ?_
  refine lv_istore_n (lv' := [(2, .int 1), (0, .ref h_t), (1, .int p1)]) hx hb dX12_fateHere_14 rfl hl (by decide) rfl (fun ls hl => ?_)
  refine lv_aload_n hx hb dX12_fateHere_15 rfl (lv_at hl 1 rfl) ?_
  refine z_get (ci := 12) (C := RX12) (T := TX12) (N := 51) (v := .int (F_t 27)) hx hb hts inT_X12 hown hK hP 0 rfl rfl 27 (by decide) tf_X12_181 rfl dX12_fateHere_16 ?_
  refine z_istore_n (fun z => [(3, .int z), (2, .int 1), (0, .ref h_t), (1, .int p1)]) hx hb dX12_fateHere_19 rfl hl (by decide) (fun _ => rfl) hf (fun v3 ls hf hl => ?_)
  refine lv_iconst (v := 0) hx hb dX12_fateHere_20 (by decide) ?_
  refine lv_istore (lv' := [(4, .int 0), (3, .int v3), (2, .int 1), (0, .ref h_t), (1, .int p1)]) hx hb dX12_fateHere_21 hl (by decide) rfl (fun ls hl => ?_)
  exact L23 fuelN 1 v3 0 u2 _ _ _ hf hP hD hS (lv_sub hl [3, 2, 1, 0] rfl)
abbrev w_X12_looks (h_t : Nat) (r_t : Nat → Nat) (F_t : Nat → Int32) (cI : ClassId) (a_rows : Nat → Int32) (a_memory : Nat → Int32) (a_order : Nat → Int32) (a_image : Nat → Int32) (a_well : Nat → Int32) : va_W := [(h_t, .inr (12, o_X12 r_t F_t)), ((r_t 0), .inl (cI, 66100, .inl a_rows)), ((r_t 23), .inl (cI, 64, .inl a_memory)), ((r_t 24), .inl (cI, 16, .inl a_order)), ((r_t 25), .inl (cI, 64, .inl a_image)), ((r_t 26), .inl (cI, 88, .inl a_well))]
abbrev rm_X12_looks : Room := { frames := 3, cells := 0, slots := 0, locals := 70 }
def m_X12_looks_j89 (a_rows : Nat → Int32) (p1 : Int32) (p2 : Int32) (k43 : Int64 → Int32 → (Nat → Int32) → (Nat → Int32) → (Nat → Int32) → (Nat → Int32) → (Nat → Int32) → Option ((Nat → Int32) × (Nat → Int32) × (Nat → Int32) × (Nat → Int32) × (Nat → Int32))) (x3 : Int64) (x5 : Int32) (F_t : Nat → Int32) (a_memory : Nat → Int32) (a_order : Nat → Int32) (a_image : Nat → Int32) (a_well : Nat → Int32) : Option ((Nat → Int32) × (Nat → Int32) × (Nat → Int32) × (Nat → Int32) × (Nat → Int32)) :=
  bd (m_X12_nextOrder a_rows a_order p1) fun u6 =>
  nm (x5 + 1) fun v7 =>
  k43 x3 v7 F_t a_memory u6 a_image a_well
def m_X12_looks_w43 (a_rows : Nat → Int32) (p1 : Int32) (p2 : Int32) : Nat → Int64 → Int32 → (Nat → Int32) → (Nat → Int32) → (Nat → Int32) → (Nat → Int32) → (Nat → Int32) → Option ((Nat → Int32) × (Nat → Int32) × (Nat → Int32) × (Nat → Int32) × (Nat → Int32))
  | 0, _, _, _, _, _, _, _ => none
  | n43 + 1, x3, x5, F_t, a_memory, a_order, a_image, a_well =>
    if 0 ≤ (lg_cmp x5.toInt64 x3) then (
    some (F_t, a_memory, a_order, a_image, a_well))
    else (
    bd (m_X12_fateHere F_t a_rows a_order a_image a_well p1) fun u5 =>
    if u5.1 = 3 then (
    nm (upd F_t 28 ((F_t 28) + 1)) fun F8 =>
    if (F8 29) = (-1) then (
    nm (upd F8 29 p2) fun F9 =>
    nm (upd F9 30 x5) fun F10 =>
    m_X12_looks_j89 a_rows p1 p2 (m_X12_looks_w43 a_rows p1 p2 n43) x3 x5 F10 a_memory a_order u5.2 a_well)
    else (
    m_X12_looks_j89 a_rows p1 p2 (m_X12_looks_w43 a_rows p1 p2 n43) x3 x5 F8 a_memory a_order u5.2 a_well))
    else (
    m_X12_looks_j89 a_rows p1 p2 (m_X12_looks_w43 a_rows p1 p2 n43) x3 x5 F_t a_memory a_order u5.2 a_well))
def m_X12_looks_j20 (a_rows : Nat → Int32) (p1 : Int32) (p2 : Int32) (x3 : Int64) (s1 : Int32) (F_t : Nat → Int32) (a_memory : Nat → Int32) (a_order : Nat → Int32) (a_image : Nat → Int32) (a_well : Nat → Int32) : Option ((Nat → Int32) × (Nat → Int32) × (Nat → Int32) × (Nat → Int32) × (Nat → Int32)) :=
  cb s1 (
  nm (upd F_t 31 s1) fun F2 =>
  if (F2 31) = 0 then (
  bd (m_X12_laysWell F2 a_rows a_memory a_well p1) fun u3 =>
  bd (m_X12_firstOrder a_order) fun u4 =>
  m_X12_looks_w43 a_rows p1 p2 fuelN x3 0 u3.1 u3.2.1 u4 a_image u3.2.2)
  else (
  some (F2, a_memory, a_order, a_image, a_well)))
def m_X12_looks (F_t : Nat → Int32) (a_rows : Nat → Int32) (a_memory : Nat → Int32) (a_order : Nat → Int32) (a_image : Nat → Int32) (a_well : Nat → Int32) (p1 : Int32) (p2 : Int32) : Option ((Nat → Int32) × (Nat → Int32) × (Nat → Int32) × (Nat → Int32) × (Nat → Int32)) :=
  bd (m_X12_ordersOf a_rows p1) fun u1 =>
  if (lg_cmp u1 2000) ≤ 0 then (
  m_X12_looks_j20 a_rows p1 p2 u1 0 F_t a_memory a_order a_image a_well)
  else (
  m_X12_looks_j20 a_rows p1 p2 u1 1 F_t a_memory a_order a_image a_well)
set_option maxHeartbeats 4000000 in
set_option maxRecDepth 100000 in
theorem c_X12_looks (l : Launch) (D : va_G) (cI : ClassId) (h_t : Nat) (r_t : Nat → Nat) (F_t : Nat → Int32) (a_rows : Nat → Int32) (a_memory : Nat → Int32) (a_order : Nat → Int32) (a_image : Nat → Int32) (a_well : Nat → Int32) (p1 : Int32) (p2 : Int32) (Rr : (Nat → Int32) × (Nat → Int32) × (Nat → Int32) × (Nat → Int32) × (Nat → Int32)) (hf : m_X12_looks F_t a_rows a_memory a_order a_image a_well p1 p2 = some Rr) : CTv l yX12_looks (Cond.code yX12_looks cX12_looks 6 none) rm_X12_looks D cI [.ref h_t, .int p1, .int p2] (w_X12_looks h_t r_t F_t cI a_rows a_memory a_order a_image a_well) (w_X12_looks h_t r_t Rr.1 cI a_rows Rr.2.1 Rr.2.2.1 Rr.2.2.2.1 Rr.2.2.2.2) := by
  refine z_begin_v (own := RX12) (ρ := (Nat → Int32) × (Nat → Int32) × (Nat → Int32) × (Nat → Int32) × (Nat → Int32)) (fun u => w_X12_looks h_t r_t u.1 cI a_rows u.2.1 u.2.2.1 u.2.2.2.1 u.2.2.2.2) (by decide +kernel) rfl (Nat.le_of_ble_eq_true rfl) ?_
  intro p e s m args below meth c ls Q A hx hb hml hts hcx hown hK hX hA hP hD hS hl hret
  have hl : lv_has ls 6 [(0, .ref h_t), (1, .int p1), (2, .int p2)] := hl
  have hf := (m_X12_looks.eq_1 _ _ _ _ _ _ _ _).symm.trans hf
  have L43 : ∀ (n43 : Nat) (x3 : Int64) (x5 : Int32) (F_t : Nat → Int32) (a_memory : Nat → Int32) (a_order : Nat → Int32) (a_image : Nat → Int32) (a_well : Nat → Int32) (H : Heap) (locs : List Loc) (ls : Array Slot), m_X12_looks_w43 a_rows p1 p2 n43 x3 x5 F_t a_memory a_order a_image a_well = some Rr → va_P D vwCl (w_X12_looks h_t r_t F_t cI a_rows a_memory a_order a_image a_well) H → va_D A (w_X12_looks h_t r_t F_t cI a_rows a_memory a_order a_image a_well) → va_S A s.heap H locs → lv_has ls 6 [(0, .ref h_t), (1, .int p1), (2, .int p2), (3, .long x3), (5, .int x5)] → W p l e rm_X12_looks s m args below meth c H locs 0 0 Q (F0 m 43 ls []) := by
    intro n43
    induction n43 with
    | zero => intro x3 x5 F_t a_memory a_order a_image a_well H locs ls hf; cases (show (none : Option _) = some Rr from hf)
    | succ n43 ih43 =>
      intro x3 x5 F_t a_memory a_order a_image a_well H locs ls hf hP hD hS hl
      have hf := (m_X12_looks_w43.eq_2 _ _ _ _ _ _ _ _ _ _ _).symm.trans hf
      have L89 : ∀ (x3 : Int64) (x5 : Int32) (F_t : Nat → Int32) (a_memory : Nat → Int32) (a_order : Nat → Int32) (a_image : Nat → Int32) (a_well : Nat → Int32) (H : Heap) (locs : List Loc) (ls : Array Slot), m_X12_looks_j89 a_rows p1 p2 (m_X12_looks_w43 a_rows p1 p2 n43) x3 x5 F_t a_memory a_order a_image a_well = some Rr → va_P D vwCl (w_X12_looks h_t r_t F_t cI a_rows a_memory a_order a_image a_well) H → va_D A (w_X12_looks h_t r_t F_t cI a_rows a_memory a_order a_image a_well) → va_S A s.heap H locs → lv_has ls 6 [(0, .ref h_t), (1, .int p1), (2, .int p2), (3, .long x3), (5, .int x5)] → W p l e rm_X12_looks s m args below meth c H locs 0 0 Q (F0 m 89 ls []) := by
        intro x3 x5 F_t a_memory a_order a_image a_well H locs ls hf hP hD hS hl
        have hf := (m_X12_looks_j89.eq_1 _ _ _ _ _ _ _ _ _ _ _).symm.trans hf
        refine lv_aload_n hx hb dX12_looks_89 rfl (lv_at hl 0 rfl) ?_
        refine lv_iload_n hx hb dX12_looks_90 rfl (lv_at hl 1 rfl) ?_
        obtain ⟨u6, hu6, hf⟩ := bd_some hf
        refine z_cv (ws1 := w_X12_looks h_t r_t F_t cI a_rows a_memory u6 a_image a_well) (wr := List.filterMap (fun i : Nat => (w_X12_looks h_t r_t F_t cI a_rows a_memory a_order a_image a_well)[i]?) [2, 4, 5]) (z_rV (rest := []) hx hb hml hown hcx hl.1 (c_X12_nextOrder l D cI h_t r_t F_t a_rows a_order p1 u6 hu6 _) tl_X12_215 ti_X12_nextOrder tz_X12_nextOrder tn_X12 tc_X12_nextOrder tm_X12_nextOrder rfl rfl ⟨Nat.le_of_ble_eq_true rfl, Nat.le_of_ble_eq_true rfl⟩ hK hX hS hA hP hD [0, 1, 3] rfl rfl 0 rfl rfl rfl rfl (Nat.le_of_ble_eq_true rfl) dX12_looks_91 ⟨Nat.zero_le _, Nat.zero_le _⟩) hP hD hS hA [0, 1, 3] [2, 4, 5] [3, 4, 0, 5, 1, 2] rfl rfl rfl (by decide) rfl rfl (fun H locs hP hD hS => ?_)
        refine z_iinc (k0 := 4) (fun z => [(5, .int z), (0, .ref h_t), (1, .int p1), (2, .int p2), (3, .long x3)]) hx hb dX12_looks_94 hl rfl (by decide) (by decide) (fun _ => rfl) hf (fun v7 ls hf hl => ?_)
        refine lv_goto (tgt := 43) hx hb dX12_looks_97 (by decide) ?_
        exact ih43 x3 v7 F_t a_memory u6 a_image a_well _ _ _ hf hP hD hS (lv_sub hl [1, 2, 3, 4, 0] rfl)
      refine lv_iload hx hb dX12_looks_43 (lv_at hl 4 rfl) ?_
      refine lv_i2l hx hb dX12_looks_45 rfl ?_
      refine lv_lload_n hx hb dX12_looks_46 rfl (lv_at hl 3 rfl) ?_
      refine W.lcmp hx hb dX12_looks_47 ?_
      refine z_if_ge (tgt := 100) hx hb dX12_looks_48 (by decide) hf (fun hf => ?_) (fun hf => ?_)
      · exact hret (F_t, a_memory, a_order, a_image, a_well) _ _ _ _ hf hP hD hS dX12_looks_100
      · refine lv_aload_n hx hb dX12_looks_51 rfl (lv_at hl 0 rfl) ?_
        refine lv_iload_n hx hb dX12_looks_52 rfl (lv_at hl 1 rfl) ?_
        obtain ⟨u5, hu5, hf⟩ := bd_some hf
        refine z_ci (ws1 := w_X12_looks h_t r_t F_t cI a_rows a_memory a_order u5.2 a_well) (wr := List.filterMap (fun i : Nat => (w_X12_looks h_t r_t F_t cI a_rows a_memory a_order a_image a_well)[i]?) [2]) (z_rV (rest := []) hx hb hml hown hcx hl.1 (c_X12_fateHere l D cI h_t r_t F_t a_rows a_order a_image a_well p1 u5 hu5 _) tl_X12_203 ti_X12_fateHere tz_X12_fateHere tn_X12 tc_X12_fateHere tm_X12_fateHere rfl rfl ⟨Nat.le_of_ble_eq_true rfl, Nat.le_of_ble_eq_true rfl⟩ hK hX hS hA hP hD [0, 1, 3, 4, 5] rfl rfl 0 rfl rfl rfl rfl (Nat.le_of_ble_eq_true rfl) dX12_looks_53 ⟨Nat.zero_le _, Nat.zero_le _⟩) hP hD hS hA [0, 1, 3, 4, 5] [2] [1, 2, 0, 3, 4, 5] rfl rfl rfl (by decide) rfl rfl (fun H locs hP hD hS => ?_)
        refine lv_iconst (v := 3) hx hb dX12_looks_56 (by decide) ?_
        refine z_icmp_ne (tgt := 89) hx hb dX12_looks_57 (by decide) hf (fun hf => ?_) (fun hf => ?_)
        · exact L89 x3 x5 F_t a_memory a_order u5.2 a_well _ _ _ hf hP hD hS (lv_sub hl [0, 1, 2, 3, 4] rfl)
        · refine lv_aload_n hx hb dX12_looks_60 rfl (lv_at hl 0 rfl) ?_
          refine lv_dup hx hb dX12_looks_61 rfl ?_
          refine z_get (ci := 12) (C := RX12) (T := TX12) (N := 51) (v := .int (F_t 28)) hx hb hts inT_X12 hown hK hP 0 rfl rfl 28 (by decide) tf_X12_206 rfl dX12_looks_62 ?_
          refine lv_iconst (v := 1) hx hb dX12_looks_65 (by decide) ?_
          refine lv_iadd hx hb dX12_looks_66 ?_
          refine z_put (ci := 12) (C := RX12) (T := TX12) (N := 51) hx hb hts inT_X12 tyX12 tyX12_ok nmX12 hown hK hP hD hS 0 rfl rfl 28 (by decide) tf_X12_206 rfl (by decide +kernel) (Nat.le_of_ble_eq_true rfl) (o_X12 r_t) (o_X12_s28 _ _ _) (fun z => w_X12_looks h_t r_t z cI a_rows a_memory a_order u5.2 a_well) (fun _ => rfl) dX12_looks_67 hf (fun F8 H locs hf hP hD hS => ?_)
          refine lv_aload_n hx hb dX12_looks_70 rfl (lv_at hl 0 rfl) ?_
          refine z_get (ci := 12) (C := RX12) (T := TX12) (N := 51) (v := .int (F8 29)) hx hb hts inT_X12 hown hK hP 0 rfl rfl 29 (by decide) tf_X12_209 rfl dX12_looks_71 ?_
          refine lv_iconst (v := (-1)) hx hb dX12_looks_74 (by decide) ?_
          refine z_icmp_ne (tgt := 89) hx hb dX12_looks_75 (by decide) hf (fun hf => ?_) (fun hf => ?_)
          · exact L89 x3 x5 F8 a_memory a_order u5.2 a_well _ _ _ hf hP hD hS (lv_sub hl [0, 1, 2, 3, 4] rfl)
          · refine lv_aload_n hx hb dX12_looks_78 rfl (lv_at hl 0 rfl) ?_
            refine lv_iload_n hx hb dX12_looks_79 rfl (lv_at hl 2 rfl) ?_
            refine z_put (ci := 12) (C := RX12) (T := TX12) (N := 51) hx hb hts inT_X12 tyX12 tyX12_ok nmX12 hown hK hP hD hS 0 rfl rfl 29 (by decide) tf_X12_209 rfl (by decide +kernel) (Nat.le_of_ble_eq_true rfl) (o_X12 r_t) (o_X12_s29 _ _ _) (fun z => w_X12_looks h_t r_t z cI a_rows a_memory a_order u5.2 a_well) (fun _ => rfl) dX12_looks_80 hf (fun F9 H locs hf hP hD hS => ?_)
            refine lv_aload_n hx hb dX12_looks_83 rfl (lv_at hl 0 rfl) ?_
            refine lv_iload hx hb dX12_looks_84 (lv_at hl 4 rfl) ?_
            refine z_put (ci := 12) (C := RX12) (T := TX12) (N := 51) hx hb hts inT_X12 tyX12 tyX12_ok nmX12 hown hK hP hD hS 0 rfl rfl 30 (by decide) tf_X12_212 rfl (by decide +kernel) (Nat.le_of_ble_eq_true rfl) (o_X12 r_t) (o_X12_s30 _ _ _) (fun z => w_X12_looks h_t r_t z cI a_rows a_memory a_order u5.2 a_well) (fun _ => rfl) dX12_looks_86 hf (fun F10 H locs hf hP hD hS => ?_)
            exact L89 x3 x5 F10 a_memory a_order u5.2 a_well _ _ _ hf hP hD hS (lv_sub hl [0, 1, 2, 3, 4] rfl)
  have L20 : ∀ (x3 : Int64) (s1 : Int32) (F_t : Nat → Int32) (a_memory : Nat → Int32) (a_order : Nat → Int32) (a_image : Nat → Int32) (a_well : Nat → Int32) (H : Heap) (locs : List Loc) (ls : Array Slot), m_X12_looks_j20 a_rows p1 p2 x3 s1 F_t a_memory a_order a_image a_well = some Rr → va_P D vwCl (w_X12_looks h_t r_t F_t cI a_rows a_memory a_order a_image a_well) H → va_D A (w_X12_looks h_t r_t F_t cI a_rows a_memory a_order a_image a_well) → va_S A s.heap H locs → lv_has ls 6 [(0, .ref h_t), (1, .int p1), (2, .int p2), (3, .long x3)] → W p l e rm_X12_looks s m args below meth c H locs 0 0 Q (F0 m 20 ls [.int s1, .ref h_t]) := by
    intro x3 s1 F_t a_memory a_order a_image a_well H locs ls hf hP hD hS hl
    have hf := (m_X12_looks_j20.eq_1 _ _ _ _ _ _ _ _ _ _).symm.trans hf
    refine z_putb (ci := 12) (C := RX12) (T := TX12) (N := 51) hx hb hts inT_X12 tyX12 tyX12_ok nmX12 hown hK hP hD hS 0 rfl rfl 31 (by decide) tf_X12_194 rfl (by decide +kernel) (Nat.le_of_ble_eq_true rfl) (o_X12 r_t) (o_X12_s31 _ _ _) (fun z => w_X12_looks h_t r_t z cI a_rows a_memory a_order a_image a_well) (fun _ => rfl) dX12_looks_20 hf (fun F2 H locs hf hP hD hS => ?_)
    refine lv_aload_n hx hb dX12_looks_23 rfl (lv_at hl 0 rfl) ?_
    refine z_get (ci := 12) (C := RX12) (T := TX12) (N := 51) (v := .int (F2 31)) hx hb hts inT_X12 hown hK hP 0 rfl rfl 31 (by decide) tf_X12_194 rfl dX12_looks_24 ?_
    refine z_if_eq (tgt := 31) hx hb dX12_looks_27 (by decide) hf (fun hf => ?_) (fun hf => ?_)
    · refine lv_aload_n hx hb dX12_looks_31 rfl (lv_at hl 0 rfl) ?_
      refine lv_iload_n hx hb dX12_looks_32 rfl (lv_at hl 1 rfl) ?_
      obtain ⟨u3, hu3, hf⟩ := bd_some hf
      refine z_cv (ws1 := w_X12_looks h_t r_t u3.1 cI a_rows u3.2.1 a_order a_image u3.2.2) (wr := List.filterMap (fun i : Nat => (w_X12_looks h_t r_t F2 cI a_rows a_memory a_order a_image a_well)[i]?) [3, 4]) (z_rV (rest := []) hx hb hml hown hcx hl.1 (c_X12_laysWell l D cI h_t r_t F2 a_rows a_memory a_well p1 u3 hu3 _) tl_X12_197 ti_X12_laysWell tz_X12_laysWell tn_X12 tc_X12_laysWell tm_X12_laysWell rfl rfl ⟨Nat.le_of_ble_eq_true rfl, Nat.le_of_ble_eq_true rfl⟩ hK hX hS hA hP hD [0, 1, 2, 5] rfl rfl 0 rfl rfl rfl rfl (Nat.le_of_ble_eq_true rfl) dX12_looks_33 ⟨Nat.zero_le _, Nat.zero_le _⟩) hP hD hS hA [0, 1, 2, 5] [3, 4] [2, 3, 4, 0, 1, 5] rfl rfl rfl (by decide) rfl rfl (fun H locs hP hD hS => ?_)
      refine lv_aload_n hx hb dX12_looks_36 rfl (lv_at hl 0 rfl) ?_
      obtain ⟨u4, hu4, hf⟩ := bd_some hf
      refine z_cv (ws1 := w_X12_looks h_t r_t u3.1 cI a_rows u3.2.1 u4 a_image u3.2.2) (wr := List.filterMap (fun i : Nat => (w_X12_looks h_t r_t u3.1 cI a_rows u3.2.1 a_order a_image u3.2.2)[i]?) [1, 2, 4, 5]) (z_rV (rest := []) hx hb hml hown hcx hl.1 (c_X12_firstOrder l D cI h_t r_t u3.1 a_order u4 hu4 _) tl_X12_200 ti_X12_firstOrder tz_X12_firstOrder tn_X12 tc_X12_firstOrder tm_X12_firstOrder rfl rfl ⟨Nat.le_of_ble_eq_true rfl, Nat.le_of_ble_eq_true rfl⟩ hK hX hS hA hP hD [0, 3] rfl rfl 0 rfl rfl rfl rfl (Nat.le_of_ble_eq_true rfl) dX12_looks_37 ⟨Nat.zero_le _, Nat.zero_le _⟩) hP hD hS hA [0, 3] [1, 2, 4, 5] [4, 0, 1, 5, 2, 3] rfl rfl rfl (by decide) rfl rfl (fun H locs hP hD hS => ?_)
      refine lv_iconst (v := 0) hx hb dX12_looks_40 (by decide) ?_
      refine lv_istore (lv' := [(5, .int 0), (0, .ref h_t), (1, .int p1), (2, .int p2), (3, .long x3)]) hx hb dX12_looks_41 hl (by decide) rfl (fun ls hl => ?_)
      exact L43 fuelN x3 0 u3.1 u3.2.1 u4 a_image u3.2.2 _ _ _ hf hP hD hS (lv_sub hl [1, 2, 3, 4, 0] rfl)
    · exact hret (F2, a_memory, a_order, a_image, a_well) _ _ _ _ hf hP hD hS dX12_looks_30
  refine lv_aload_n hx hb dX12_looks_0 rfl (lv_at hl 0 rfl) ?_
  refine lv_iload_n hx hb dX12_looks_1 rfl (lv_at hl 1 rfl) ?_
  obtain ⟨u1, hu1, hf⟩ := bd_some hf
  refine z_cl (ws1 := w_X12_looks h_t r_t F_t cI a_rows a_memory a_order a_image a_well) (wr := List.filterMap (fun i : Nat => (w_X12_looks h_t r_t F_t cI a_rows a_memory a_order a_image a_well)[i]?) [2, 3, 4, 5]) (z_rV (rest := []) hx hb hml hown hcx hl.1 (c_X12_ordersOf l D cI h_t r_t F_t a_rows p1 u1 hu1 _) tl_X12_188 ti_X12_ordersOf tz_X12_ordersOf tn_X12 tc_X12_ordersOf tm_X12_ordersOf rfl rfl ⟨Nat.le_of_ble_eq_true rfl, Nat.le_of_ble_eq_true rfl⟩ hK hX hS hA hP hD [0, 1] rfl rfl 0 rfl rfl rfl rfl (Nat.le_of_ble_eq_true rfl) dX12_looks_2 ⟨Nat.zero_le _, Nat.zero_le _⟩) hP hD hS hA [0, 1] [2, 3, 4, 5] [4, 5, 0, 1, 2, 3] rfl rfl rfl (by decide) rfl rfl (fun H locs hP hD hS => ?_)
  refine lv_lstore_n (lv' := [(3, .long u1), (0, .ref h_t), (1, .int p1), (2, .int p2)]) hx hb dX12_looks_5 rfl hl (by decide) rfl (fun ls hl => ?_)
  refine lv_aload_n hx hb dX12_looks_6 rfl (lv_at hl 1 rfl) ?_
  refine lv_lload_n hx hb dX12_looks_7 rfl (lv_at hl 0 rfl) ?_
  refine lv_ldc2 hx hb hown (hts _ tk_X12_192) dX12_looks_8 ?_
  refine W.lcmp hx hb dX12_looks_11 ?_
  refine z_if_le (tgt := 19) hx hb dX12_looks_12 (by decide) hf (fun hf => ?_) (fun hf => ?_)
  · refine lv_iconst (v := 0) hx hb dX12_looks_19 (by decide) ?_
    exact L20 u1 0 F_t a_memory a_order a_image a_well _ _ _ hf hP hD hS (lv_sub hl [1, 2, 3, 0] rfl)
  · refine lv_iconst (v := 1) hx hb dX12_looks_15 (by decide) ?_
    refine lv_goto (tgt := 20) hx hb dX12_looks_16 (by decide) ?_
    exact L20 u1 1 F_t a_memory a_order a_image a_well _ _ _ hf hP hD hS (lv_sub hl [1, 2, 3, 0] rfl)
abbrev w_X12_tries (h_t : Nat) (r_t : Nat → Nat) (F_t : Nat → Int32) (cI : ClassId) (a_rows : Nat → Int32) : va_W := [(h_t, .inr (12, o_X12 r_t F_t)), ((r_t 0), .inl (cI, 66100, .inl a_rows))]
abbrev rm_X12_tries : Room := { frames := 1, cells := 0, slots := 0, locals := 24 }
def m_X12_tries (a_rows : Nat → Int32) : Option ((Nat → Int32)) :=
  bd (m_X12_copies a_rows 0 786 786) fun u1 =>
  some u1
set_option maxHeartbeats 4000000 in
set_option maxRecDepth 100000 in
theorem c_X12_tries (l : Launch) (D : va_G) (cI : ClassId) (h_t : Nat) (r_t : Nat → Nat) (F_t : Nat → Int32) (a_rows : Nat → Int32) (Rr : (Nat → Int32)) (hf : m_X12_tries a_rows = some Rr) : CTv l yX12_tries (Cond.code yX12_tries cX12_tries 1 none) rm_X12_tries D cI [.ref h_t] (w_X12_tries h_t r_t F_t cI a_rows) (w_X12_tries h_t r_t F_t cI Rr) := by
  refine z_begin_v (own := RX12) (ρ := (Nat → Int32)) (fun u => w_X12_tries h_t r_t F_t cI u) (by decide +kernel) rfl (Nat.le_of_ble_eq_true rfl) ?_
  intro p e s m args below meth c ls Q A hx hb hml hts hcx hown hK hX hA hP hD hS hl hret
  have hl : lv_has ls 1 [(0, .ref h_t)] := hl
  have hf := (m_X12_tries.eq_1 _).symm.trans hf
  refine lv_aload_n hx hb dX12_tries_0 rfl (lv_at hl 0 rfl) ?_
  refine lv_iconst (v := 0) hx hb dX12_tries_1 (by decide) ?_
  refine lv_sipush (v := 786) hx hb dX12_tries_2 (by decide) ?_
  refine lv_sipush (v := 786) hx hb dX12_tries_5 (by decide) ?_
  obtain ⟨u1, hu1, hf⟩ := bd_some hf
  refine z_cv (ws1 := w_X12_tries h_t r_t F_t cI u1) (wr := List.filterMap (fun i : Nat => (w_X12_tries h_t r_t F_t cI a_rows)[i]?) []) (z_rV (rest := []) hx hb hml hown hcx hl.1 (c_X12_copies l D cI h_t r_t F_t a_rows 0 786 786 u1 hu1 _) tl_X12_224 ti_X12_copies tz_X12_copies tn_X12 tc_X12_copies tm_X12_copies rfl rfl ⟨Nat.le_of_ble_eq_true rfl, Nat.le_of_ble_eq_true rfl⟩ hK hX hS hA hP hD [0, 1] rfl rfl 0 rfl rfl rfl rfl (Nat.le_of_ble_eq_true rfl) dX12_tries_8 ⟨Nat.zero_le _, Nat.zero_le _⟩) hP hD hS hA [0, 1] [] [0, 1] rfl rfl rfl (by decide) rfl rfl (fun H locs hP hD hS => ?_)
  exact hret u1 _ _ _ _ hf hP hD hS dX12_tries_11
abbrev w_X12_checks (h_t : Nat) (r_t : Nat → Nat) (F_t : Nat → Int32) (cI : ClassId) (a_rows : Nat → Int32) (a_words : Nat → Int32) (a_address : Nat → Int32) (a_number : Nat → Int32) (a_memory : Nat → Int32) (a_order : Nat → Int32) (a_image : Nat → Int32) (a_well : Nat → Int32) : va_W := [(h_t, .inr (12, o_X12 r_t F_t)), ((r_t 0), .inl (cI, 66100, .inl a_rows)), ((r_t 16), .inl (cI, 64, .inl a_words)), ((r_t 17), .inl (cI, 64, .inl a_address)), ((r_t 18), .inl (cI, 64, .inl a_number)), ((r_t 23), .inl (cI, 64, .inl a_memory)), ((r_t 24), .inl (cI, 16, .inl a_order)), ((r_t 25), .inl (cI, 64, .inl a_image)), ((r_t 26), .inl (cI, 88, .inl a_well))]
abbrev rm_X12_checks : Room := { frames := 9, cells := 0, slots := 0, locals := 205 }
def m_X12_checks_j157 (p1 : Int32) (k112 : Int32 → Int32 → (Nat → Int32) → (Nat → Int32) → (Nat → Int32) → (Nat → Int32) → (Nat → Int32) → (Nat → Int32) → (Nat → Int32) → (Nat → Int32) → (Nat → Int32) → Option ((Nat → Int32) × (Nat → Int32) × (Nat → Int32) × (Nat → Int32) × (Nat → Int32) × (Nat → Int32) × (Nat → Int32) × (Nat → Int32) × (Nat → Int32))) (x4 : Int32) (s0 : Int32) (F_t : Nat → Int32) (a_rows : Nat → Int32) (a_words : Nat → Int32) (a_address : Nat → Int32) (a_number : Nat → Int32) (a_memory : Nat → Int32) (a_order : Nat → Int32) (a_image : Nat → Int32) (a_well : Nat → Int32) : Option ((Nat → Int32) × (Nat → Int32) × (Nat → Int32) × (Nat → Int32) × (Nat → Int32) × (Nat → Int32) × (Nat → Int32) × (Nat → Int32) × (Nat → Int32)) :=
  nm (x4 + 1) fun v13 =>
  k112 s0 v13 F_t a_rows a_words a_address a_number a_memory a_order a_image a_well
def m_X12_checks_w112 (p1 : Int32) : Nat → Int32 → Int32 → (Nat → Int32) → (Nat → Int32) → (Nat → Int32) → (Nat → Int32) → (Nat → Int32) → (Nat → Int32) → (Nat → Int32) → (Nat → Int32) → (Nat → Int32) → Option ((Nat → Int32) × (Nat → Int32) × (Nat → Int32) × (Nat → Int32) × (Nat → Int32) × (Nat → Int32) × (Nat → Int32) × (Nat → Int32) × (Nat → Int32))
  | 0, _, _, _, _, _, _, _, _, _, _, _ => none
  | n112 + 1, x3, x4, F_t, a_rows, a_words, a_address, a_number, a_memory, a_order, a_image, a_well =>
    if x3 = 0 then (
    some (F_t, a_rows, a_words, a_address, a_number, a_memory, a_order, a_image, a_well))
    else (
    if (F_t 31) = 0 then (
    bd (m_X12_isStep F_t a_rows a_words a_address a_number 786) fun u10 =>
    bd (m_X12_looks u10.2.1 u10.2.2.1 a_memory a_order a_image a_well 786 x4) fun u11 =>
    rd u10.2.2.1 66100 1562 fun y12 =>
    if y12 = 0 then (
    m_X12_checks_j157 p1 (m_X12_checks_w112 p1 n112) x4 0 u11.1 u10.2.2.1 u10.2.2.2.1 u10.2.2.2.2.1 u10.2.2.2.2.2 u11.2.1 u11.2.2.1 u11.2.2.2.1 u11.2.2.2.2)
    else (
    m_X12_checks_j157 p1 (m_X12_checks_w112 p1 n112) x4 1 u11.1 u10.2.2.1 u10.2.2.2.1 u10.2.2.2.2.1 u10.2.2.2.2.2 u11.2.1 u11.2.2.1 u11.2.2.2.1 u11.2.2.2.2))
    else (
    some (F_t, a_rows, a_words, a_address, a_number, a_memory, a_order, a_image, a_well)))
def m_X12_checks_j100 (p1 : Int32) (s0 : Int32) (F_t : Nat → Int32) (a_rows : Nat → Int32) (a_words : Nat → Int32) (a_address : Nat → Int32) (a_number : Nat → Int32) (a_memory : Nat → Int32) (a_order : Nat → Int32) (a_image : Nat → Int32) (a_well : Nat → Int32) : Option ((Nat → Int32) × (Nat → Int32) × (Nat → Int32) × (Nat → Int32) × (Nat → Int32) × (Nat → Int32) × (Nat → Int32) × (Nat → Int32) × (Nat → Int32)) :=
  bd (m_X12_looks F_t a_rows a_memory a_order a_image a_well 786 0) fun u9 =>
  m_X12_checks_w112 p1 fuelN s0 1 u9.1 a_rows a_words a_address a_number u9.2.1 u9.2.2.1 u9.2.2.2.1 u9.2.2.2.2
def m_X12_checks_j95 (p1 : Int32) (F_t : Nat → Int32) (a_rows : Nat → Int32) (a_words : Nat → Int32) (a_address : Nat → Int32) (a_number : Nat → Int32) (a_memory : Nat → Int32) (a_order : Nat → Int32) (a_image : Nat → Int32) (a_well : Nat → Int32) : Option ((Nat → Int32) × (Nat → Int32) × (Nat → Int32) × (Nat → Int32) × (Nat → Int32) × (Nat → Int32) × (Nat → Int32) × (Nat → Int32) × (Nat → Int32)) :=
  m_X12_checks_j100 p1 1 F_t a_rows a_words a_address a_number a_memory a_order a_image a_well
def m_X12_checks_j99 (p1 : Int32) (F_t : Nat → Int32) (a_rows : Nat → Int32) (a_words : Nat → Int32) (a_address : Nat → Int32) (a_number : Nat → Int32) (a_memory : Nat → Int32) (a_order : Nat → Int32) (a_image : Nat → Int32) (a_well : Nat → Int32) : Option ((Nat → Int32) × (Nat → Int32) × (Nat → Int32) × (Nat → Int32) × (Nat → Int32) × (Nat → Int32) × (Nat → Int32) × (Nat → Int32) × (Nat → Int32)) :=
  m_X12_checks_j100 p1 0 F_t a_rows a_words a_address a_number a_memory a_order a_image a_well
def m_X12_checks_j57 (p1 : Int32) (x2 : Int32) (F_t : Nat → Int32) (a_rows : Nat → Int32) (a_words : Nat → Int32) (a_address : Nat → Int32) (a_number : Nat → Int32) (a_memory : Nat → Int32) (a_order : Nat → Int32) (a_image : Nat → Int32) (a_well : Nat → Int32) : Option ((Nat → Int32) × (Nat → Int32) × (Nat → Int32) × (Nat → Int32) × (Nat → Int32) × (Nat → Int32) × (Nat → Int32) × (Nat → Int32) × (Nat → Int32)) :=
  bd (m_X12_copies a_rows 786 1572 786) fun u7 =>
  rd u7 66100 1562 fun y8 =>
  if y8 = 0 then (
  if x2 = 0 then (
  bd (m_X12_isBegun F_t u7 a_words a_address a_number 1572) fun u14 =>
  if u14.1 = 0 then (
  m_X12_checks_j99 p1 u14.2.1 u14.2.2.1 u14.2.2.2.1 u14.2.2.2.2.1 u14.2.2.2.2.2 a_memory a_order a_image a_well)
  else (
  m_X12_checks_j95 p1 u14.2.1 u14.2.2.1 u14.2.2.2.1 u14.2.2.2.2.1 u14.2.2.2.2.2 a_memory a_order a_image a_well))
  else (
  m_X12_checks_j99 p1 F_t u7 a_words a_address a_number a_memory a_order a_image a_well))
  else (
  m_X12_checks_j95 p1 F_t u7 a_words a_address a_number a_memory a_order a_image a_well)
def m_X12_checks_j45 (p1 : Int32) (s0 : Int32) (F_t : Nat → Int32) (a_rows : Nat → Int32) (a_words : Nat → Int32) (a_address : Nat → Int32) (a_number : Nat → Int32) (a_memory : Nat → Int32) (a_order : Nat → Int32) (a_image : Nat → Int32) (a_well : Nat → Int32) : Option ((Nat → Int32) × (Nat → Int32) × (Nat → Int32) × (Nat → Int32) × (Nat → Int32) × (Nat → Int32) × (Nat → Int32) × (Nat → Int32) × (Nat → Int32)) :=
  if s0 = 0 then (
  m_X12_checks_j57 p1 s0 F_t a_rows a_words a_address a_number a_memory a_order a_image a_well)
  else (
  bd (m_X12_recovery F_t a_rows a_address a_number a_memory 786) fun u15 =>
  m_X12_checks_j57 p1 s0 u15.1 u15.2.1 a_words u15.2.2.1 u15.2.2.2.1 u15.2.2.2.2 a_order a_image a_well)
def m_X12_checks (F_t : Nat → Int32) (a_rows : Nat → Int32) (a_words : Nat → Int32) (a_address : Nat → Int32) (a_number : Nat → Int32) (a_memory : Nat → Int32) (a_order : Nat → Int32) (a_image : Nat → Int32) (a_well : Nat → Int32) (p1 : Int32) : Option ((Nat → Int32) × (Nat → Int32) × (Nat → Int32) × (Nat → Int32) × (Nat → Int32) × (Nat → Int32) × (Nat → Int32) × (Nat → Int32) × (Nat → Int32)) :=
  bd (m_X12_tries a_rows) fun u1 =>
  wr u1 66100 1559 p1 fun a2 =>
  nm (upd F_t 28 0) fun F3 =>
  nm (upd F3 30 (-1)) fun F4 =>
  nm (upd F4 29 (-1)) fun F5 =>
  rd a2 66100 1558 fun y6 =>
  if y6 = 1 then (
  m_X12_checks_j45 p1 1 F5 a2 a_words a_address a_number a_memory a_order a_image a_well)
  else (
  m_X12_checks_j45 p1 0 F5 a2 a_words a_address a_number a_memory a_order a_image a_well)
set_option maxHeartbeats 4000000 in
set_option maxRecDepth 100000 in
theorem c_X12_checks (l : Launch) (D : va_G) (cI : ClassId) (h_t : Nat) (r_t : Nat → Nat) (F_t : Nat → Int32) (a_rows : Nat → Int32) (a_words : Nat → Int32) (a_address : Nat → Int32) (a_number : Nat → Int32) (a_memory : Nat → Int32) (a_order : Nat → Int32) (a_image : Nat → Int32) (a_well : Nat → Int32) (p1 : Int32) (Rr : (Nat → Int32) × (Nat → Int32) × (Nat → Int32) × (Nat → Int32) × (Nat → Int32) × (Nat → Int32) × (Nat → Int32) × (Nat → Int32) × (Nat → Int32)) (hf : m_X12_checks F_t a_rows a_words a_address a_number a_memory a_order a_image a_well p1 = some Rr) : CTv l yX12_checks (Cond.code yX12_checks cX12_checks 6 none) rm_X12_checks D cI [.ref h_t, .int p1] (w_X12_checks h_t r_t F_t cI a_rows a_words a_address a_number a_memory a_order a_image a_well) (w_X12_checks h_t r_t Rr.1 cI Rr.2.1 Rr.2.2.1 Rr.2.2.2.1 Rr.2.2.2.2.1 Rr.2.2.2.2.2.1 Rr.2.2.2.2.2.2.1 Rr.2.2.2.2.2.2.2.1 Rr.2.2.2.2.2.2.2.2) := by
  refine z_begin_v (own := RX12) (ρ := (Nat → Int32) × (Nat → Int32) × (Nat → Int32) × (Nat → Int32) × (Nat → Int32) × (Nat → Int32) × (Nat → Int32) × (Nat → Int32) × (Nat → Int32)) (fun u => w_X12_checks h_t r_t u.1 cI u.2.1 u.2.2.1 u.2.2.2.1 u.2.2.2.2.1 u.2.2.2.2.2.1 u.2.2.2.2.2.2.1 u.2.2.2.2.2.2.2.1 u.2.2.2.2.2.2.2.2) (by decide +kernel) rfl (Nat.le_of_ble_eq_true rfl) ?_
  intro p e s m args below meth c ls Q A hx hb hml hts hcx hown hK hX hA hP hD hS hl hret
  have hl : lv_has ls 6 [(0, .ref h_t), (1, .int p1)] := hl
  have hf := (m_X12_checks.eq_1 _ _ _ _ _ _ _ _ _ _).symm.trans hf
  have L112 : ∀ (n112 : Nat) (x3 : Int32) (x4 : Int32) (F_t : Nat → Int32) (a_rows : Nat → Int32) (a_words : Nat → Int32) (a_address : Nat → Int32) (a_number : Nat → Int32) (a_memory : Nat → Int32) (a_order : Nat → Int32) (a_image : Nat → Int32) (a_well : Nat → Int32) (H : Heap) (locs : List Loc) (ls : Array Slot), m_X12_checks_w112 p1 n112 x3 x4 F_t a_rows a_words a_address a_number a_memory a_order a_image a_well = some Rr → va_P D vwCl (w_X12_checks h_t r_t F_t cI a_rows a_words a_address a_number a_memory a_order a_image a_well) H → va_D A (w_X12_checks h_t r_t F_t cI a_rows a_words a_address a_number a_memory a_order a_image a_well) → va_S A s.heap H locs → lv_has ls 6 [(0, .ref h_t), (3, .int x3), (4, .int x4)] → W p l e rm_X12_checks s m args below meth c H locs 0 0 Q (F0 m 112 ls []) := by
    intro n112
    induction n112 with
    | zero => intro x3 x4 F_t a_rows a_words a_address a_number a_memory a_order a_image a_well H locs ls hf; cases (show (none : Option _) = some Rr from hf)
    | succ n112 ih112 =>
      intro x3 x4 F_t a_rows a_words a_address a_number a_memory a_order a_image a_well H locs ls hf hP hD hS hl
      have hf := (m_X12_checks_w112.eq_2 _ _ _ _ _ _ _ _ _ _ _ _ _).symm.trans hf
      have L157 : ∀ (x4 : Int32) (s0 : Int32) (F_t : Nat → Int32) (a_rows : Nat → Int32) (a_words : Nat → Int32) (a_address : Nat → Int32) (a_number : Nat → Int32) (a_memory : Nat → Int32) (a_order : Nat → Int32) (a_image : Nat → Int32) (a_well : Nat → Int32) (H : Heap) (locs : List Loc) (ls : Array Slot), m_X12_checks_j157 p1 (m_X12_checks_w112 p1 n112) x4 s0 F_t a_rows a_words a_address a_number a_memory a_order a_image a_well = some Rr → va_P D vwCl (w_X12_checks h_t r_t F_t cI a_rows a_words a_address a_number a_memory a_order a_image a_well) H → va_D A (w_X12_checks h_t r_t F_t cI a_rows a_words a_address a_number a_memory a_order a_image a_well) → va_S A s.heap H locs → lv_has ls 6 [(0, .ref h_t), (4, .int x4)] → W p l e rm_X12_checks s m args below meth c H locs 0 0 Q (F0 m 157 ls [.int s0]) := by
        intro x4 s0 F_t a_rows a_words a_address a_number a_memory a_order a_image a_well H locs ls hf hP hD hS hl
        have hf := (m_X12_checks_j157.eq_1 _ _ _ _ _ _ _ _ _ _ _ _ _).symm.trans hf
        refine lv_istore_n (lv' := [(3, .int s0), (0, .ref h_t), (4, .int x4)]) hx hb dX12_checks_157 rfl hl (by decide) rfl (fun ls hl => ?_)
        refine z_iinc (k0 := 2) (fun z => [(4, .int z), (3, .int s0), (0, .ref h_t)]) hx hb dX12_checks_158 hl rfl (by decide) (by decide) (fun _ => rfl) hf (fun v13 ls hf hl => ?_)
        refine lv_goto (tgt := 112) hx hb dX12_checks_161 (by decide) ?_
        exact ih112 s0 v13 F_t a_rows a_words a_address a_number a_memory a_order a_image a_well _ _ _ hf hP hD hS (lv_sub hl [2, 1, 0] rfl)
      refine lv_iload_n hx hb dX12_checks_112 rfl (lv_at hl 1 rfl) ?_
      refine z_if_eq (tgt := 164) hx hb dX12_checks_113 (by decide) hf (fun hf => ?_) (fun hf => ?_)
      · exact hret (F_t, a_rows, a_words, a_address, a_number, a_memory, a_order, a_image, a_well) _ _ _ _ hf hP hD hS dX12_checks_164
      · refine lv_aload_n hx hb dX12_checks_116 rfl (lv_at hl 0 rfl) ?_
        refine z_get (ci := 12) (C := RX12) (T := TX12) (N := 51) (v := .int (F_t 31)) hx hb hts inT_X12 hown hK hP 0 rfl rfl 31 (by decide) tf_X12_194 rfl dX12_checks_117 ?_
        refine z_if_ne (tgt := 164) hx hb dX12_checks_120 (by decide) hf (fun hf => ?_) (fun hf => ?_)
        · exact hret (F_t, a_rows, a_words, a_address, a_number, a_memory, a_order, a_image, a_well) _ _ _ _ hf hP hD hS dX12_checks_164
        · refine lv_aload_n hx hb dX12_checks_123 rfl (lv_at hl 0 rfl) ?_
          refine lv_sipush (v := 786) hx hb dX12_checks_124 (by decide) ?_
          obtain ⟨u10, hu10, hf⟩ := bd_some hf
          refine z_ci (ws1 := w_X12_checks h_t r_t u10.2.1 cI u10.2.2.1 u10.2.2.2.1 u10.2.2.2.2.1 u10.2.2.2.2.2 a_memory a_order a_image a_well) (wr := List.filterMap (fun i : Nat => (w_X12_checks h_t r_t F_t cI a_rows a_words a_address a_number a_memory a_order a_image a_well)[i]?) [5, 6, 7, 8]) (z_rV (rest := []) hx hb hml hown hcx hl.1 (c_X12_isStep l D cI h_t r_t F_t a_rows a_words a_address a_number 786 u10 hu10 _) tl_X12_230 ti_X12_isStep tz_X12_isStep tn_X12 tc_X12_isStep tm_X12_isStep rfl rfl ⟨Nat.le_of_ble_eq_true rfl, Nat.le_of_ble_eq_true rfl⟩ hK hX hS hA hP hD [0, 1, 2, 3, 4] rfl rfl 0 rfl rfl rfl rfl (Nat.le_of_ble_eq_true rfl) dX12_checks_127 ⟨Nat.zero_le _, Nat.zero_le _⟩) hP hD hS hA [0, 1, 2, 3, 4] [5, 6, 7, 8] [4, 5, 6, 7, 8, 0, 1, 2, 3] rfl rfl rfl (by decide) rfl rfl (fun H locs hP hD hS => ?_)
          refine lv_istore (lv' := [(5, .int u10.1), (0, .ref h_t), (3, .int x3), (4, .int x4)]) hx hb dX12_checks_130 hl (by decide) rfl (fun ls hl => ?_)
          refine lv_aload_n hx hb dX12_checks_132 rfl (lv_at hl 1 rfl) ?_
          refine lv_sipush (v := 786) hx hb dX12_checks_133 (by decide) ?_
          refine lv_iload hx hb dX12_checks_136 (lv_at hl 3 rfl) ?_
          obtain ⟨u11, hu11, hf⟩ := bd_some hf
          refine z_cv (ws1 := w_X12_checks h_t r_t u11.1 cI u10.2.2.1 u10.2.2.2.1 u10.2.2.2.2.1 u10.2.2.2.2.2 u11.2.1 u11.2.2.1 u11.2.2.2.1 u11.2.2.2.2) (wr := List.filterMap (fun i : Nat => (w_X12_checks h_t r_t u10.2.1 cI u10.2.2.1 u10.2.2.2.1 u10.2.2.2.2.1 u10.2.2.2.2.2 a_memory a_order a_image a_well)[i]?) [2, 3, 4]) (z_rV (rest := []) hx hb hml hown hcx hl.1 (c_X12_looks l D cI h_t r_t u10.2.1 u10.2.2.1 a_memory a_order a_image a_well 786 x4 u11 hu11 _) tl_X12_227 ti_X12_looks tz_X12_looks tn_X12 tc_X12_looks tm_X12_looks rfl rfl ⟨Nat.le_of_ble_eq_true rfl, Nat.le_of_ble_eq_true rfl⟩ hK hX hS hA hP hD [0, 1, 5, 6, 7, 8] rfl rfl 0 rfl rfl rfl rfl (Nat.le_of_ble_eq_true rfl) dX12_checks_138 ⟨Nat.zero_le _, Nat.zero_le _⟩) hP hD hS hA [0, 1, 5, 6, 7, 8] [2, 3, 4] [3, 4, 0, 1, 2, 5, 6, 7, 8] rfl rfl rfl (by decide) rfl rfl (fun H locs hP hD hS => ?_)
          refine lv_aload_n hx hb dX12_checks_141 rfl (lv_at hl 1 rfl) ?_
          refine z_get (ci := 12) (C := RX12) (T := TX12) (N := 51) (v := .ref (r_t 0)) hx hb hts inT_X12 hown hK hP 0 rfl rfl 0 (by decide) tf_X12_10 rfl dX12_checks_142 ?_
          refine lv_sipush (v := 1562) hx hb dX12_checks_145 (by decide) ?_
          refine z_iald hx hb hK hP 1 rfl dX12_checks_148 hf (fun y12 hf => ?_)
          refine z_if_eq (tgt := 156) hx hb dX12_checks_149 (by decide) hf (fun hf => ?_) (fun hf => ?_)
          · refine lv_iconst (v := 0) hx hb dX12_checks_156 (by decide) ?_
            exact L157 x4 0 u11.1 u10.2.2.1 u10.2.2.2.1 u10.2.2.2.2.1 u10.2.2.2.2.2 u11.2.1 u11.2.2.1 u11.2.2.2.1 u11.2.2.2.2 _ _ _ hf hP hD hS (lv_sub hl [1, 3] rfl)
          · refine lv_iconst (v := 1) hx hb dX12_checks_152 (by decide) ?_
            refine lv_goto (tgt := 157) hx hb dX12_checks_153 (by decide) ?_
            exact L157 x4 1 u11.1 u10.2.2.1 u10.2.2.2.1 u10.2.2.2.2.1 u10.2.2.2.2.2 u11.2.1 u11.2.2.1 u11.2.2.2.1 u11.2.2.2.2 _ _ _ hf hP hD hS (lv_sub hl [1, 3] rfl)
  have L100 : ∀ (s0 : Int32) (F_t : Nat → Int32) (a_rows : Nat → Int32) (a_words : Nat → Int32) (a_address : Nat → Int32) (a_number : Nat → Int32) (a_memory : Nat → Int32) (a_order : Nat → Int32) (a_image : Nat → Int32) (a_well : Nat → Int32) (H : Heap) (locs : List Loc) (ls : Array Slot), m_X12_checks_j100 p1 s0 F_t a_rows a_words a_address a_number a_memory a_order a_image a_well = some Rr → va_P D vwCl (w_X12_checks h_t r_t F_t cI a_rows a_words a_address a_number a_memory a_order a_image a_well) H → va_D A (w_X12_checks h_t r_t F_t cI a_rows a_words a_address a_number a_memory a_order a_image a_well) → va_S A s.heap H locs → lv_has ls 6 [(0, .ref h_t)] → W p l e rm_X12_checks s m args below meth c H locs 0 0 Q (F0 m 100 ls [.int s0]) := by
    intro s0 F_t a_rows a_words a_address a_number a_memory a_order a_image a_well H locs ls hf hP hD hS hl
    have hf := (m_X12_checks_j100.eq_1 _ _ _ _ _ _ _ _ _ _ _).symm.trans hf
    refine lv_istore_n (lv' := [(3, .int s0), (0, .ref h_t)]) hx hb dX12_checks_100 rfl hl (by decide) rfl (fun ls hl => ?_)
    refine lv_aload_n hx hb dX12_checks_101 rfl (lv_at hl 1 rfl) ?_
    refine lv_sipush (v := 786) hx hb dX12_checks_102 (by decide) ?_
    refine lv_iconst (v := 0) hx hb dX12_checks_105 (by decide) ?_
    obtain ⟨u9, hu9, hf⟩ := bd_some hf
    refine z_cv (ws1 := w_X12_checks h_t r_t u9.1 cI a_rows a_words a_address a_number u9.2.1 u9.2.2.1 u9.2.2.2.1 u9.2.2.2.2) (wr := List.filterMap (fun i : Nat => (w_X12_checks h_t r_t F_t cI a_rows a_words a_address a_number a_memory a_order a_image a_well)[i]?) [2, 3, 4]) (z_rV (rest := []) hx hb hml hown hcx hl.1 (c_X12_looks l D cI h_t r_t F_t a_rows a_memory a_order a_image a_well 786 0 u9 hu9 _) tl_X12_227 ti_X12_looks tz_X12_looks tn_X12 tc_X12_looks tm_X12_looks rfl rfl ⟨Nat.le_of_ble_eq_true rfl, Nat.le_of_ble_eq_true rfl⟩ hK hX hS hA hP hD [0, 1, 5, 6, 7, 8] rfl rfl 0 rfl rfl rfl rfl (Nat.le_of_ble_eq_true rfl) dX12_checks_106 ⟨Nat.zero_le _, Nat.zero_le _⟩) hP hD hS hA [0, 1, 5, 6, 7, 8] [2, 3, 4] [3, 4, 0, 1, 2, 5, 6, 7, 8] rfl rfl rfl (by decide) rfl rfl (fun H locs hP hD hS => ?_)
    refine lv_iconst (v := 1) hx hb dX12_checks_109 (by decide) ?_
    refine lv_istore (lv' := [(4, .int 1), (3, .int s0), (0, .ref h_t)]) hx hb dX12_checks_110 hl (by decide) rfl (fun ls hl => ?_)
    exact L112 fuelN s0 1 u9.1 a_rows a_words a_address a_number u9.2.1 u9.2.2.1 u9.2.2.2.1 u9.2.2.2.2 _ _ _ hf hP hD hS (lv_sub hl [2, 1, 0] rfl)
  have L95 : ∀ (F_t : Nat → Int32) (a_rows : Nat → Int32) (a_words : Nat → Int32) (a_address : Nat → Int32) (a_number : Nat → Int32) (a_memory : Nat → Int32) (a_order : Nat → Int32) (a_image : Nat → Int32) (a_well : Nat → Int32) (H : Heap) (locs : List Loc) (ls : Array Slot), m_X12_checks_j95 p1 F_t a_rows a_words a_address a_number a_memory a_order a_image a_well = some Rr → va_P D vwCl (w_X12_checks h_t r_t F_t cI a_rows a_words a_address a_number a_memory a_order a_image a_well) H → va_D A (w_X12_checks h_t r_t F_t cI a_rows a_words a_address a_number a_memory a_order a_image a_well) → va_S A s.heap H locs → lv_has ls 6 [(0, .ref h_t)] → W p l e rm_X12_checks s m args below meth c H locs 0 0 Q (F0 m 95 ls []) := by
    intro F_t a_rows a_words a_address a_number a_memory a_order a_image a_well H locs ls hf hP hD hS hl
    have hf := (m_X12_checks_j95.eq_1 _ _ _ _ _ _ _ _ _ _).symm.trans hf
    refine lv_iconst (v := 1) hx hb dX12_checks_95 (by decide) ?_
    refine lv_goto (tgt := 100) hx hb dX12_checks_96 (by decide) ?_
    exact L100 1 F_t a_rows a_words a_address a_number a_memory a_order a_image a_well _ _ _ hf hP hD hS (lv_sub hl [0] rfl)
  have L99 : ∀ (F_t : Nat → Int32) (a_rows : Nat → Int32) (a_words : Nat → Int32) (a_address : Nat → Int32) (a_number : Nat → Int32) (a_memory : Nat → Int32) (a_order : Nat → Int32) (a_image : Nat → Int32) (a_well : Nat → Int32) (H : Heap) (locs : List Loc) (ls : Array Slot), m_X12_checks_j99 p1 F_t a_rows a_words a_address a_number a_memory a_order a_image a_well = some Rr → va_P D vwCl (w_X12_checks h_t r_t F_t cI a_rows a_words a_address a_number a_memory a_order a_image a_well) H → va_D A (w_X12_checks h_t r_t F_t cI a_rows a_words a_address a_number a_memory a_order a_image a_well) → va_S A s.heap H locs → lv_has ls 6 [(0, .ref h_t)] → W p l e rm_X12_checks s m args below meth c H locs 0 0 Q (F0 m 99 ls []) := by
    intro F_t a_rows a_words a_address a_number a_memory a_order a_image a_well H locs ls hf hP hD hS hl
    have hf := (m_X12_checks_j99.eq_1 _ _ _ _ _ _ _ _ _ _).symm.trans hf
    refine lv_iconst (v := 0) hx hb dX12_checks_99 (by decide) ?_
    exact L100 0 F_t a_rows a_words a_address a_number a_memory a_order a_image a_well _ _ _ hf hP hD hS (lv_sub hl [0] rfl)
  have L57 : ∀ (x2 : Int32) (F_t : Nat → Int32) (a_rows : Nat → Int32) (a_words : Nat → Int32) (a_address : Nat → Int32) (a_number : Nat → Int32) (a_memory : Nat → Int32) (a_order : Nat → Int32) (a_image : Nat → Int32) (a_well : Nat → Int32) (H : Heap) (locs : List Loc) (ls : Array Slot), m_X12_checks_j57 p1 x2 F_t a_rows a_words a_address a_number a_memory a_order a_image a_well = some Rr → va_P D vwCl (w_X12_checks h_t r_t F_t cI a_rows a_words a_address a_number a_memory a_order a_image a_well) H → va_D A (w_X12_checks h_t r_t F_t cI a_rows a_words a_address a_number a_memory a_order a_image a_well) → va_S A s.heap H locs → lv_has ls 6 [(0, .ref h_t), (2, .int x2)] → W p l e rm_X12_checks s m args below meth c H locs 0 0 Q (F0 m 57 ls []) := by
    intro x2 F_t a_rows a_words a_address a_number a_memory a_order a_image a_well H locs ls hf hP hD hS hl
    have hf := (m_X12_checks_j57.eq_1 _ _ _ _ _ _ _ _ _ _ _).symm.trans hf
    refine lv_aload_n hx hb dX12_checks_57 rfl (lv_at hl 0 rfl) ?_
    refine lv_sipush (v := 786) hx hb dX12_checks_58 (by decide) ?_
    refine lv_sipush (v := 1572) hx hb dX12_checks_61 (by decide) ?_
    refine lv_sipush (v := 786) hx hb dX12_checks_64 (by decide) ?_
    obtain ⟨u7, hu7, hf⟩ := bd_some hf
    refine z_cv (ws1 := w_X12_checks h_t r_t F_t cI u7 a_words a_address a_number a_memory a_order a_image a_well) (wr := List.filterMap (fun i : Nat => (w_X12_checks h_t r_t F_t cI a_rows a_words a_address a_number a_memory a_order a_image a_well)[i]?) [2, 3, 4, 5, 6, 7, 8]) (z_rV (rest := []) hx hb hml hown hcx hl.1 (c_X12_copies l D cI h_t r_t F_t a_rows 786 1572 786 u7 hu7 _) tl_X12_224 ti_X12_copies tz_X12_copies tn_X12 tc_X12_copies tm_X12_copies rfl rfl ⟨Nat.le_of_ble_eq_true rfl, Nat.le_of_ble_eq_true rfl⟩ hK hX hS hA hP hD [0, 1] rfl rfl 0 rfl rfl rfl rfl (Nat.le_of_ble_eq_true rfl) dX12_checks_67 ⟨Nat.zero_le _, Nat.zero_le _⟩) hP hD hS hA [0, 1] [2, 3, 4, 5, 6, 7, 8] [7, 8, 0, 1, 2, 3, 4, 5, 6] rfl rfl rfl (by decide) rfl rfl (fun H locs hP hD hS => ?_)
    refine lv_aload_n hx hb dX12_checks_70 rfl (lv_at hl 0 rfl) ?_
    refine z_get (ci := 12) (C := RX12) (T := TX12) (N := 51) (v := .ref (r_t 0)) hx hb hts inT_X12 hown hK hP 0 rfl rfl 0 (by decide) tf_X12_10 rfl dX12_checks_71 ?_
    refine lv_sipush (v := 1562) hx hb dX12_checks_74 (by decide) ?_
    refine z_iald hx hb hK hP 1 rfl dX12_checks_77 hf (fun y8 hf => ?_)
    refine z_if_ne (tgt := 95) hx hb dX12_checks_78 (by decide) hf (fun hf => ?_) (fun hf => ?_)
    · exact L95 F_t u7 a_words a_address a_number a_memory a_order a_image a_well _ _ _ hf hP hD hS (lv_sub hl [0] rfl)
    · refine lv_iload_n hx hb dX12_checks_81 rfl (lv_at hl 1 rfl) ?_
      refine z_if_ne (tgt := 99) hx hb dX12_checks_82 (by decide) hf (fun hf => ?_) (fun hf => ?_)
      · exact L99 F_t u7 a_words a_address a_number a_memory a_order a_image a_well _ _ _ hf hP hD hS (lv_sub hl [0] rfl)
      · refine lv_aload_n hx hb dX12_checks_85 rfl (lv_at hl 0 rfl) ?_
        refine lv_sipush (v := 1572) hx hb dX12_checks_86 (by decide) ?_
        obtain ⟨u14, hu14, hf⟩ := bd_some hf
        refine z_ci (ws1 := w_X12_checks h_t r_t u14.2.1 cI u14.2.2.1 u14.2.2.2.1 u14.2.2.2.2.1 u14.2.2.2.2.2 a_memory a_order a_image a_well) (wr := List.filterMap (fun i : Nat => (w_X12_checks h_t r_t F_t cI u7 a_words a_address a_number a_memory a_order a_image a_well)[i]?) [5, 6, 7, 8]) (z_rV (rest := []) hx hb hml hown hcx hl.1 (c_X12_isBegun l D cI h_t r_t F_t u7 a_words a_address a_number 1572 u14 hu14 _) tl_X12_160 ti_X12_isBegun tz_X12_isBegun tn_X12 tc_X12_isBegun tm_X12_isBegun rfl rfl ⟨Nat.le_of_ble_eq_true rfl, Nat.le_of_ble_eq_true rfl⟩ hK hX hS hA hP hD [0, 1, 2, 3, 4] rfl rfl 0 rfl rfl rfl rfl (Nat.le_of_ble_eq_true rfl) dX12_checks_89 ⟨Nat.zero_le _, Nat.zero_le _⟩) hP hD hS hA [0, 1, 2, 3, 4] [5, 6, 7, 8] [4, 5, 6, 7, 8, 0, 1, 2, 3] rfl rfl rfl (by decide) rfl rfl (fun H locs hP hD hS => ?_)
        refine z_if_eq (tgt := 99) hx hb dX12_checks_92 (by decide) hf (fun hf => ?_) (fun hf => ?_)
        · exact L99 u14.2.1 u14.2.2.1 u14.2.2.2.1 u14.2.2.2.2.1 u14.2.2.2.2.2 a_memory a_order a_image a_well _ _ _ hf hP hD hS (lv_sub hl [0] rfl)
        · exact L95 u14.2.1 u14.2.2.1 u14.2.2.2.1 u14.2.2.2.2.1 u14.2.2.2.2.2 a_memory a_order a_image a_well _ _ _ hf hP hD hS (lv_sub hl [0] rfl)
  have L45 : ∀ (s0 : Int32) (F_t : Nat → Int32) (a_rows : Nat → Int32) (a_words : Nat → Int32) (a_address : Nat → Int32) (a_number : Nat → Int32) (a_memory : Nat → Int32) (a_order : Nat → Int32) (a_image : Nat → Int32) (a_well : Nat → Int32) (H : Heap) (locs : List Loc) (ls : Array Slot), m_X12_checks_j45 p1 s0 F_t a_rows a_words a_address a_number a_memory a_order a_image a_well = some Rr → va_P D vwCl (w_X12_checks h_t r_t F_t cI a_rows a_words a_address a_number a_memory a_order a_image a_well) H → va_D A (w_X12_checks h_t r_t F_t cI a_rows a_words a_address a_number a_memory a_order a_image a_well) → va_S A s.heap H locs → lv_has ls 6 [(0, .ref h_t)] → W p l e rm_X12_checks s m args below meth c H locs 0 0 Q (F0 m 45 ls [.int s0]) := by
    intro s0 F_t a_rows a_words a_address a_number a_memory a_order a_image a_well H locs ls hf hP hD hS hl
    have hf := (m_X12_checks_j45.eq_1 _ _ _ _ _ _ _ _ _ _ _).symm.trans hf
    refine lv_istore_n (lv' := [(2, .int s0), (0, .ref h_t)]) hx hb dX12_checks_45 rfl hl (by decide) rfl (fun ls hl => ?_)
    refine lv_iload_n hx hb dX12_checks_46 rfl (lv_at hl 0 rfl) ?_
    refine z_if_eq (tgt := 57) hx hb dX12_checks_47 (by decide) hf (fun hf => ?_) (fun hf => ?_)
    · exact L57 s0 F_t a_rows a_words a_address a_number a_memory a_order a_image a_well _ _ _ hf hP hD hS (lv_sub hl [1, 0] rfl)
    · refine lv_aload_n hx hb dX12_checks_50 rfl (lv_at hl 1 rfl) ?_
      refine lv_sipush (v := 786) hx hb dX12_checks_51 (by decide) ?_
      obtain ⟨u15, hu15, hf⟩ := bd_some hf
      refine z_cv (ws1 := w_X12_checks h_t r_t u15.1 cI u15.2.1 a_words u15.2.2.1 u15.2.2.2.1 u15.2.2.2.2 a_order a_image a_well) (wr := List.filterMap (fun i : Nat => (w_X12_checks h_t r_t F_t cI a_rows a_words a_address a_number a_memory a_order a_image a_well)[i]?) [2, 6, 7, 8]) (z_rV (rest := []) hx hb hml hown hcx hl.1 (c_X12_recovery l D cI h_t r_t F_t a_rows a_address a_number a_memory 786 u15 hu15 _) tl_X12_221 ti_X12_recovery tz_X12_recovery tn_X12 tc_X12_recovery tm_X12_recovery rfl rfl ⟨Nat.le_of_ble_eq_true rfl, Nat.le_of_ble_eq_true rfl⟩ hK hX hS hA hP hD [0, 1, 3, 4, 5] rfl rfl 0 rfl rfl rfl rfl (Nat.le_of_ble_eq_true rfl) dX12_checks_54 ⟨Nat.zero_le _, Nat.zero_le _⟩) hP hD hS hA [0, 1, 3, 4, 5] [2, 6, 7, 8] [4, 5, 0, 6, 7, 8, 1, 2, 3] rfl rfl rfl (by decide) rfl rfl (fun H locs hP hD hS => ?_)
      exact L57 s0 u15.1 u15.2.1 a_words u15.2.2.1 u15.2.2.2.1 u15.2.2.2.2 a_order a_image a_well _ _ _ hf hP hD hS (lv_sub hl [1, 0] rfl)
  refine lv_aload_n hx hb dX12_checks_0 rfl (lv_at hl 0 rfl) ?_
  obtain ⟨u1, hu1, hf⟩ := bd_some hf
  refine z_cv (ws1 := w_X12_checks h_t r_t F_t cI u1 a_words a_address a_number a_memory a_order a_image a_well) (wr := List.filterMap (fun i : Nat => (w_X12_checks h_t r_t F_t cI a_rows a_words a_address a_number a_memory a_order a_image a_well)[i]?) [2, 3, 4, 5, 6, 7, 8]) (z_rV (rest := []) hx hb hml hown hcx hl.1 (c_X12_tries l D cI h_t r_t F_t a_rows u1 hu1 _) tl_X12_218 ti_X12_tries tz_X12_tries tn_X12 tc_X12_tries tm_X12_tries rfl rfl ⟨Nat.le_of_ble_eq_true rfl, Nat.le_of_ble_eq_true rfl⟩ hK hX hS hA hP hD [0, 1] rfl rfl 0 rfl rfl rfl rfl (Nat.le_of_ble_eq_true rfl) dX12_checks_1 ⟨Nat.zero_le _, Nat.zero_le _⟩) hP hD hS hA [0, 1] [2, 3, 4, 5, 6, 7, 8] [7, 8, 0, 1, 2, 3, 4, 5, 6] rfl rfl rfl (by decide) rfl rfl (fun H locs hP hD hS => ?_)
  refine lv_aload_n hx hb dX12_checks_4 rfl (lv_at hl 0 rfl) ?_
  refine z_get (ci := 12) (C := RX12) (T := TX12) (N := 51) (v := .ref (r_t 0)) hx hb hts inT_X12 hown hK hP 0 rfl rfl 0 (by decide) tf_X12_10 rfl dX12_checks_5 ?_
  refine lv_sipush (v := 1559) hx hb dX12_checks_8 (by decide) ?_
  refine lv_iload_n hx hb dX12_checks_11 rfl (lv_at hl 1 rfl) ?_
  refine z_iast hx hb hK hP hD hS 1 rfl (fun z => w_X12_checks h_t r_t F_t cI z a_words a_address a_number a_memory a_order a_image a_well) (fun _ => rfl) dX12_checks_12 hf (fun a2 H locs hf hP hD hS => ?_)
  refine lv_aload_n hx hb dX12_checks_13 rfl (lv_at hl 0 rfl) ?_
  refine lv_iconst (v := 0) hx hb dX12_checks_14 (by decide) ?_
  refine z_put (ci := 12) (C := RX12) (T := TX12) (N := 51) hx hb hts inT_X12 tyX12 tyX12_ok nmX12 hown hK hP hD hS 0 rfl rfl 28 (by decide) tf_X12_206 rfl (by decide +kernel) (Nat.le_of_ble_eq_true rfl) (o_X12 r_t) (o_X12_s28 _ _ _) (fun z => w_X12_checks h_t r_t z cI a2 a_words a_address a_number a_memory a_order a_image a_well) (fun _ => rfl) dX12_checks_15 hf (fun F3 H locs hf hP hD hS => ?_)
  refine lv_aload_n hx hb dX12_checks_18 rfl (lv_at hl 0 rfl) ?_
  refine lv_aload_n hx hb dX12_checks_19 rfl (lv_at hl 0 rfl) ?_
  refine lv_iconst (v := (-1)) hx hb dX12_checks_20 (by decide) ?_
  refine lv_dup_x1 hx hb dX12_checks_21 rfl rfl ?_
  refine z_put (ci := 12) (C := RX12) (T := TX12) (N := 51) hx hb hts inT_X12 tyX12 tyX12_ok nmX12 hown hK hP hD hS 0 rfl rfl 30 (by decide) tf_X12_212 rfl (by decide +kernel) (Nat.le_of_ble_eq_true rfl) (o_X12 r_t) (o_X12_s30 _ _ _) (fun z => w_X12_checks h_t r_t z cI a2 a_words a_address a_number a_memory a_order a_image a_well) (fun _ => rfl) dX12_checks_22 hf (fun F4 H locs hf hP hD hS => ?_)
  refine z_put (ci := 12) (C := RX12) (T := TX12) (N := 51) hx hb hts inT_X12 tyX12 tyX12_ok nmX12 hown hK hP hD hS 0 rfl rfl 29 (by decide) tf_X12_209 rfl (by decide +kernel) (Nat.le_of_ble_eq_true rfl) (o_X12 r_t) (o_X12_s29 _ _ _) (fun z => w_X12_checks h_t r_t z cI a2 a_words a_address a_number a_memory a_order a_image a_well) (fun _ => rfl) dX12_checks_25 hf (fun F5 H locs hf hP hD hS => ?_)
  refine lv_aload_n hx hb dX12_checks_28 rfl (lv_at hl 0 rfl) ?_
  refine z_get (ci := 12) (C := RX12) (T := TX12) (N := 51) (v := .ref (r_t 0)) hx hb hts inT_X12 hown hK hP 0 rfl rfl 0 (by decide) tf_X12_10 rfl dX12_checks_29 ?_
  refine lv_sipush (v := 1558) hx hb dX12_checks_32 (by decide) ?_
  refine z_iald hx hb hK hP 1 rfl dX12_checks_35 hf (fun y6 hf => ?_)
  refine lv_iconst (v := 1) hx hb dX12_checks_36 (by decide) ?_
  refine z_icmp_ne (tgt := 44) hx hb dX12_checks_37 (by decide) hf (fun hf => ?_) (fun hf => ?_)
  · refine lv_iconst (v := 0) hx hb dX12_checks_44 (by decide) ?_
    exact L45 0 F5 a2 a_words a_address a_number a_memory a_order a_image a_well _ _ _ hf hP hD hS (lv_sub hl [0] rfl)
  · refine lv_iconst (v := 1) hx hb dX12_checks_40 (by decide) ?_
    refine lv_goto (tgt := 45) hx hb dX12_checks_41 (by decide) ?_
    exact L45 1 F5 a2 a_words a_address a_number a_memory a_order a_image a_well _ _ _ hf hP hD hS (lv_sub hl [0] rfl)
abbrev w_X12_isWell (h_t : Nat) (r_t : Nat → Nat) (F_t : Nat → Int32) (cI : ClassId) (a_rows : Nat → Int32) (a_words : Nat → Int32) (a_address : Nat → Int32) (a_number : Nat → Int32) (a_memory : Nat → Int32) (a_order : Nat → Int32) (a_image : Nat → Int32) (a_well : Nat → Int32) : va_W := [(h_t, .inr (12, o_X12 r_t F_t)), ((r_t 0), .inl (cI, 66100, .inl a_rows)), ((r_t 16), .inl (cI, 64, .inl a_words)), ((r_t 17), .inl (cI, 64, .inl a_address)), ((r_t 18), .inl (cI, 64, .inl a_number)), ((r_t 23), .inl (cI, 64, .inl a_memory)), ((r_t 24), .inl (cI, 16, .inl a_order)), ((r_t 25), .inl (cI, 64, .inl a_image)), ((r_t 26), .inl (cI, 88, .inl a_well))]
abbrev rm_X12_isWell : Room := { frames := 10, cells := 0, slots := 0, locals := 230 }
def m_X12_isWell (F_t : Nat → Int32) (a_rows : Nat → Int32) (a_words : Nat → Int32) (a_address : Nat → Int32) (a_number : Nat → Int32) (a_memory : Nat → Int32) (a_order : Nat → Int32) (a_image : Nat → Int32) (a_well : Nat → Int32) (p1 : Int32) : Option (Int32 × (Nat → Int32) × (Nat → Int32) × (Nat → Int32) × (Nat → Int32) × (Nat → Int32) × (Nat → Int32) × (Nat → Int32) × (Nat → Int32) × (Nat → Int32)) :=
  bd (m_X12_checks F_t a_rows a_words a_address a_number a_memory a_order a_image a_well p1) fun u1 =>
  if (u1.1 28) = 0 then (
  if (u1.1 31) = 0 then (
  some (1, u1.1, u1.2.1, u1.2.2.1, u1.2.2.2.1, u1.2.2.2.2.1, u1.2.2.2.2.2.1, u1.2.2.2.2.2.2.1, u1.2.2.2.2.2.2.2.1, u1.2.2.2.2.2.2.2.2))
  else (
  some (0, u1.1, u1.2.1, u1.2.2.1, u1.2.2.2.1, u1.2.2.2.2.1, u1.2.2.2.2.2.1, u1.2.2.2.2.2.2.1, u1.2.2.2.2.2.2.2.1, u1.2.2.2.2.2.2.2.2)))
  else (
  some (0, u1.1, u1.2.1, u1.2.2.1, u1.2.2.2.1, u1.2.2.2.2.1, u1.2.2.2.2.2.1, u1.2.2.2.2.2.2.1, u1.2.2.2.2.2.2.2.1, u1.2.2.2.2.2.2.2.2))
set_option maxHeartbeats 4000000 in
set_option maxRecDepth 100000 in
theorem c_X12_isWell (l : Launch) (D : va_G) (cI : ClassId) (h_t : Nat) (r_t : Nat → Nat) (F_t : Nat → Int32) (a_rows : Nat → Int32) (a_words : Nat → Int32) (a_address : Nat → Int32) (a_number : Nat → Int32) (a_memory : Nat → Int32) (a_order : Nat → Int32) (a_image : Nat → Int32) (a_well : Nat → Int32) (p1 : Int32) (Rr : Int32 × (Nat → Int32) × (Nat → Int32) × (Nat → Int32) × (Nat → Int32) × (Nat → Int32) × (Nat → Int32) × (Nat → Int32) × (Nat → Int32) × (Nat → Int32)) (hf : m_X12_isWell F_t a_rows a_words a_address a_number a_memory a_order a_image a_well p1 = some Rr) : CTi l yX12_isWell (Cond.code yX12_isWell cX12_isWell 2 (some .boolean)) rm_X12_isWell D cI [.ref h_t, .int p1] (w_X12_isWell h_t r_t F_t cI a_rows a_words a_address a_number a_memory a_order a_image a_well) Rr.1 (w_X12_isWell h_t r_t Rr.2.1 cI Rr.2.2.1 Rr.2.2.2.1 Rr.2.2.2.2.1 Rr.2.2.2.2.2.1 Rr.2.2.2.2.2.2.1 Rr.2.2.2.2.2.2.2.1 Rr.2.2.2.2.2.2.2.2.1 Rr.2.2.2.2.2.2.2.2.2) := by
  refine z_begin_z (own := RX12) (ρ := Int32 × (Nat → Int32) × (Nat → Int32) × (Nat → Int32) × (Nat → Int32) × (Nat → Int32) × (Nat → Int32) × (Nat → Int32) × (Nat → Int32) × (Nat → Int32)) (fun u => w_X12_isWell h_t r_t u.2.1 cI u.2.2.1 u.2.2.2.1 u.2.2.2.2.1 u.2.2.2.2.2.1 u.2.2.2.2.2.2.1 u.2.2.2.2.2.2.2.1 u.2.2.2.2.2.2.2.2.1 u.2.2.2.2.2.2.2.2.2) (fun u => u.1) (by decide +kernel) rfl (Nat.le_of_ble_eq_true rfl) ?_
  intro p e s m args below meth c ls Q A hx hb hml hts hcx hown hK hX hA hP hD hS hl hret
  have hl : lv_has ls 2 [(0, .ref h_t), (1, .int p1)] := hl
  have hf := (m_X12_isWell.eq_1 _ _ _ _ _ _ _ _ _ _).symm.trans hf
  refine lv_aload_n hx hb dX12_isWell_0 rfl (lv_at hl 0 rfl) ?_
  refine lv_iload_n hx hb dX12_isWell_1 rfl (lv_at hl 1 rfl) ?_
  obtain ⟨u1, hu1, hf⟩ := bd_some hf
  refine z_cv (ws1 := w_X12_isWell h_t r_t u1.1 cI u1.2.1 u1.2.2.1 u1.2.2.2.1 u1.2.2.2.2.1 u1.2.2.2.2.2.1 u1.2.2.2.2.2.2.1 u1.2.2.2.2.2.2.2.1 u1.2.2.2.2.2.2.2.2) (wr := List.filterMap (fun i : Nat => (w_X12_isWell h_t r_t F_t cI a_rows a_words a_address a_number a_memory a_order a_image a_well)[i]?) []) (z_rV (rest := []) hx hb hml hown hcx hl.1 (c_X12_checks l D cI h_t r_t F_t a_rows a_words a_address a_number a_memory a_order a_image a_well p1 u1 hu1 _) tl_X12_233 ti_X12_checks tz_X12_checks tn_X12 tc_X12_checks tm_X12_checks rfl rfl ⟨Nat.le_of_ble_eq_true rfl, Nat.le_of_ble_eq_true rfl⟩ hK hX hS hA hP hD [0, 1, 2, 3, 4, 5, 6, 7, 8] rfl rfl 0 rfl rfl rfl rfl (Nat.le_of_ble_eq_true rfl) dX12_isWell_2 ⟨Nat.zero_le _, Nat.zero_le _⟩) hP hD hS hA [0, 1, 2, 3, 4, 5, 6, 7, 8] [] [0, 1, 2, 3, 4, 5, 6, 7, 8] rfl rfl rfl (by decide) rfl rfl (fun H locs hP hD hS => ?_)
  refine lv_aload_n hx hb dX12_isWell_5 rfl (lv_at hl 0 rfl) ?_
  refine z_get (ci := 12) (C := RX12) (T := TX12) (N := 51) (v := .int (u1.1 28)) hx hb hts inT_X12 hown hK hP 0 rfl rfl 28 (by decide) tf_X12_206 rfl dX12_isWell_6 ?_
  refine z_if_ne (tgt := 23) hx hb dX12_isWell_9 (by decide) hf (fun hf => ?_) (fun hf => ?_)
  · refine lv_iconst (v := 0) hx hb dX12_isWell_23 (by decide) ?_
    exact hret (0, u1.1, u1.2.1, u1.2.2.1, u1.2.2.2.1, u1.2.2.2.2.1, u1.2.2.2.2.2.1, u1.2.2.2.2.2.2.1, u1.2.2.2.2.2.2.2.1, u1.2.2.2.2.2.2.2.2) _ _ _ _ (Or.inl rfl) hf hP hD hS dX12_isWell_24
  · refine lv_aload_n hx hb dX12_isWell_12 rfl (lv_at hl 0 rfl) ?_
    refine z_get (ci := 12) (C := RX12) (T := TX12) (N := 51) (v := .int (u1.1 31)) hx hb hts inT_X12 hown hK hP 0 rfl rfl 31 (by decide) tf_X12_194 rfl dX12_isWell_13 ?_
    refine z_if_ne (tgt := 23) hx hb dX12_isWell_16 (by decide) hf (fun hf => ?_) (fun hf => ?_)
    · refine lv_iconst (v := 0) hx hb dX12_isWell_23 (by decide) ?_
      exact hret (0, u1.1, u1.2.1, u1.2.2.1, u1.2.2.2.1, u1.2.2.2.2.1, u1.2.2.2.2.2.1, u1.2.2.2.2.2.2.1, u1.2.2.2.2.2.2.2.1, u1.2.2.2.2.2.2.2.2) _ _ _ _ (Or.inl rfl) hf hP hD hS dX12_isWell_24
    · refine lv_iconst (v := 1) hx hb dX12_isWell_19 (by decide) ?_
      refine lv_goto (tgt := 24) hx hb dX12_isWell_20 (by decide) ?_
      exact hret (1, u1.1, u1.2.1, u1.2.2.1, u1.2.2.2.1, u1.2.2.2.2.1, u1.2.2.2.2.2.1, u1.2.2.2.2.2.2.1, u1.2.2.2.2.2.2.2.1, u1.2.2.2.2.2.2.2.2) _ _ _ _ (Or.inr rfl) hf hP hD hS dX12_isWell_24
abbrev w_X12_isLetter (cI : ClassId) : va_W := []
abbrev rm_X12_isLetter : Room := { frames := 0, cells := 0, slots := 0, locals := 0 }
def m_X12_isLetter (p0 : Int32) : Option (Int32) :=
  if p0 < 97 then (
  some 0)
  else (
  if 122 < p0 then (
  some 0)
  else (
  some 1))
set_option maxHeartbeats 4000000 in
set_option maxRecDepth 100000 in
theorem c_X12_isLetter (l : Launch) (D : va_G) (cI : ClassId) (p0 : Int32) (Rr : Int32) (hf : m_X12_isLetter p0 = some Rr) : CTi l yX12_isLetter (Cond.code yX12_isLetter cX12_isLetter 1 (some .boolean)) rm_X12_isLetter D cI [.int p0] (w_X12_isLetter cI) Rr (w_X12_isLetter cI) := by
  refine z_begin_z (own := RX12) (ρ := Int32) (fun u => w_X12_isLetter cI) (fun u => u) (by decide +kernel) rfl (Nat.le_of_ble_eq_true rfl) ?_
  intro p e s m args below meth c ls Q A hx hb hml hts hcx hown hK hX hA hP hD hS hl hret
  have hl : lv_has ls 1 [(0, .int p0)] := hl
  have hf := (m_X12_isLetter.eq_1 _).symm.trans hf
  refine lv_iload_n hx hb dX12_isLetter_0 rfl (lv_at hl 0 rfl) ?_
  refine lv_bipush (v := 97) hx hb dX12_isLetter_1 (by decide) ?_
  refine z_icmp_lt (tgt := 16) hx hb dX12_isLetter_3 (by decide) hf (fun hf => ?_) (fun hf => ?_)
  · refine lv_iconst (v := 0) hx hb dX12_isLetter_16 (by decide) ?_
    exact hret 0 _ _ _ _ (Or.inl rfl) hf hP hD hS dX12_isLetter_17
  · refine lv_iload_n hx hb dX12_isLetter_6 rfl (lv_at hl 0 rfl) ?_
    refine lv_bipush (v := 122) hx hb dX12_isLetter_7 (by decide) ?_
    refine z_icmp_gt (tgt := 16) hx hb dX12_isLetter_9 (by decide) hf (fun hf => ?_) (fun hf => ?_)
    · refine lv_iconst (v := 0) hx hb dX12_isLetter_16 (by decide) ?_
      exact hret 0 _ _ _ _ (Or.inl rfl) hf hP hD hS dX12_isLetter_17
    · refine lv_iconst (v := 1) hx hb dX12_isLetter_12 (by decide) ?_
      refine lv_goto (tgt := 17) hx hb dX12_isLetter_13 (by decide) ?_
      exact hret 1 _ _ _ _ (Or.inr rfl) hf hP hD hS dX12_isLetter_17
abbrev w_X12_byteAt (h_t : Nat) (r_t : Nat → Nat) (F_t : Nat → Int32) (cI : ClassId) (a_tape : Nat → Int32) : va_W := [(h_t, .inr (12, o_X12 r_t F_t)), ((r_t 13), .inl (cI, 700, .inl a_tape))]
abbrev rm_X12_byteAt : Room := { frames := 0, cells := 0, slots := 0, locals := 0 }
def m_X12_byteAt (F_t : Nat → Int32) (a_tape : Nat → Int32) (p1 : Int32) : Option (Int32) :=
  if (F_t 34) ≤ p1 then (
  some 0)
  else (
  rd a_tape 700 p1 fun y1 =>
  some (y1 &&& 255))
set_option maxHeartbeats 4000000 in
set_option maxRecDepth 100000 in
theorem c_X12_byteAt (l : Launch) (D : va_G) (cI : ClassId) (h_t : Nat) (r_t : Nat → Nat) (F_t : Nat → Int32) (a_tape : Nat → Int32) (p1 : Int32) (Rr : Int32) (hf : m_X12_byteAt F_t a_tape p1 = some Rr) : CTi l yX12_byteAt (Cond.code yX12_byteAt cX12_byteAt 2 (some .int)) rm_X12_byteAt D cI [.ref h_t, .int p1] (w_X12_byteAt h_t r_t F_t cI a_tape) Rr (w_X12_byteAt h_t r_t F_t cI a_tape) := by
  refine z_begin_i (own := RX12) (ρ := Int32) (fun u => w_X12_byteAt h_t r_t F_t cI a_tape) (fun u => u) (by decide +kernel) rfl (Nat.le_of_ble_eq_true rfl) ?_
  intro p e s m args below meth c ls Q A hx hb hml hts hcx hown hK hX hA hP hD hS hl hret
  have hl : lv_has ls 2 [(0, .ref h_t), (1, .int p1)] := hl
  have hf := (m_X12_byteAt.eq_1 _ _ _).symm.trans hf
  refine lv_iload_n hx hb dX12_byteAt_0 rfl (lv_at hl 1 rfl) ?_
  refine lv_aload_n hx hb dX12_byteAt_1 rfl (lv_at hl 0 rfl) ?_
  refine z_get (ci := 12) (C := RX12) (T := TX12) (N := 51) (v := .int (F_t 34)) hx hb hts inT_X12 hown hK hP 0 rfl rfl 34 (by decide) tf_X12_236 rfl dX12_byteAt_2 ?_
  refine z_icmp_ge (tgt := 21) hx hb dX12_byteAt_5 (by decide) hf (fun hf => ?_) (fun hf => ?_)
  · refine lv_iconst (v := 0) hx hb dX12_byteAt_21 (by decide) ?_
    exact hret 0 _ _ _ _ hf hP hD hS dX12_byteAt_22
  · refine lv_aload_n hx hb dX12_byteAt_8 rfl (lv_at hl 0 rfl) ?_
    refine z_get (ci := 12) (C := RX12) (T := TX12) (N := 51) (v := .ref (r_t 13)) hx hb hts inT_X12 hown hK hP 0 rfl rfl 13 (by decide) tf_X12_23 rfl dX12_byteAt_9 ?_
    refine lv_iload_n hx hb dX12_byteAt_12 rfl (lv_at hl 1 rfl) ?_
    refine z_iald hx hb hK hP 1 rfl dX12_byteAt_13 hf (fun y1 hf => ?_)
    refine lv_sipush (v := 255) hx hb dX12_byteAt_14 (by decide) ?_
    refine lv_iand hx hb dX12_byteAt_17 ?_
    refine lv_goto (tgt := 22) hx hb dX12_byteAt_18 (by decide) ?_
    exact hret (y1 &&& 255) _ _ _ _ hf hP hD hS dX12_byteAt_22
abbrev w_X12_wordFrom (h_t : Nat) (r_t : Nat → Nat) (F_t : Nat → Int32) (cI : ClassId) (a_tape : Nat → Int32) : va_W := [(h_t, .inr (12, o_X12 r_t F_t)), ((r_t 13), .inl (cI, 700, .inl a_tape))]
abbrev rm_X12_wordFrom : Room := { frames := 1, cells := 0, slots := 0, locals := 21 }
def m_X12_wordFrom_j92 (F_t : Nat → Int32) (a_tape : Nat → Int32) (p1 : Int32) (p2 : Int32) (k11 : Int32 → Int32 → Int32 → Int32 → Option (Int32)) (x3 : Int32) (x4 : Int32) (x5 : Int32) (x6 : Int32) : Option (Int32) :=
  nm (x6 + 1) fun v3 =>
  k11 x3 x4 x5 v3
def m_X12_wordFrom_j87 (F_t : Nat → Int32) (a_tape : Nat → Int32) (p1 : Int32) (p2 : Int32) (k11 : Int32 → Int32 → Int32 → Int32 → Option (Int32)) (x3 : Int32) (x4 : Int32) (x6 : Int32) (s0 : Int32) : Option (Int32) :=
  nm (x4 + 1) fun v2 =>
  m_X12_wordFrom_j92 F_t a_tape p1 p2 k11 x3 v2 s0 x6
def m_X12_wordFrom_j86 (F_t : Nat → Int32) (a_tape : Nat → Int32) (p1 : Int32) (p2 : Int32) (k11 : Int32 → Int32 → Int32 → Int32 → Option (Int32)) (x3 : Int32) (x4 : Int32) (x6 : Int32) : Option (Int32) :=
  m_X12_wordFrom_j87 F_t a_tape p1 p2 k11 x3 x4 x6 0
def m_X12_wordFrom_j44 (F_t : Nat → Int32) (a_tape : Nat → Int32) (p1 : Int32) (p2 : Int32) (k11 : Int32 → Int32 → Int32 → Int32 → Option (Int32)) (x3 : Int32) (x6 : Int32) : Option (Int32) :=
  nm (x3 + 1) fun v6 =>
  m_X12_wordFrom_j92 F_t a_tape p1 p2 k11 v6 p1 1 x6
def m_X12_wordFrom_w11 (F_t : Nat → Int32) (a_tape : Nat → Int32) (p1 : Int32) (p2 : Int32) : Nat → Int32 → Int32 → Int32 → Int32 → Option (Int32)
  | 0, _, _, _, _ => none
  | n11 + 1, x3, x4, x5, x6 =>
    if 75 ≤ x6 then (
    some (-1))
    else (
    rd K_KNOWN 75 x6 fun y1 =>
    if y1 = 32 then (
    if x5 = 0 then (
    m_X12_wordFrom_j44 F_t a_tape p1 p2 (m_X12_wordFrom_w11 F_t a_tape p1 p2 n11) x3 x6)
    else (
    if x4 = p2 then (
    some x3)
    else (
    m_X12_wordFrom_j44 F_t a_tape p1 p2 (m_X12_wordFrom_w11 F_t a_tape p1 p2 n11) x3 x6)))
    else (
    if x5 = 0 then (
    m_X12_wordFrom_j86 F_t a_tape p1 p2 (m_X12_wordFrom_w11 F_t a_tape p1 p2 n11) x3 x4 x6)
    else (
    if p2 ≤ x4 then (
    m_X12_wordFrom_j86 F_t a_tape p1 p2 (m_X12_wordFrom_w11 F_t a_tape p1 p2 n11) x3 x4 x6)
    else (
    bd (m_X12_byteAt F_t a_tape x4) fun u4 =>
    rd K_KNOWN 75 x6 fun y5 =>
    if u4 = y5 then (
    m_X12_wordFrom_j87 F_t a_tape p1 p2 (m_X12_wordFrom_w11 F_t a_tape p1 p2 n11) x3 x4 x6 1)
    else (
    m_X12_wordFrom_j86 F_t a_tape p1 p2 (m_X12_wordFrom_w11 F_t a_tape p1 p2 n11) x3 x4 x6)))))
def m_X12_wordFrom (F_t : Nat → Int32) (a_tape : Nat → Int32) (p1 : Int32) (p2 : Int32) : Option (Int32) :=
  m_X12_wordFrom_w11 F_t a_tape p1 p2 fuelN 0 p1 1 0
set_option maxHeartbeats 4000000 in
set_option maxRecDepth 100000 in
theorem c_X12_wordFrom (l : Launch) (D : va_G) (cI : ClassId) (h_t : Nat) (r_t : Nat → Nat) (F_t : Nat → Int32) (a_tape : Nat → Int32) (p1 : Int32) (p2 : Int32) (Rr : Int32) (hf : m_X12_wordFrom F_t a_tape p1 p2 = some Rr) : CTi l yX12_wordFrom (Cond.code yX12_wordFrom cX12_wordFrom 7 (some .int)) rm_X12_wordFrom D cI [.ref h_t, .int p1, .int p2] (w_X12_wordFrom h_t r_t F_t cI a_tape) Rr (w_X12_wordFrom h_t r_t F_t cI a_tape) := by
  refine z_begin_i (own := RX12) (ρ := Int32) (fun u => w_X12_wordFrom h_t r_t F_t cI a_tape) (fun u => u) (by decide +kernel) rfl (Nat.le_of_ble_eq_true rfl) ?_
  intro p e s m args below meth c ls Q A hx hb hml hts hcx hown hK hX hA hP hD hS hl hret
  obtain ⟨t_KNOWN, hZ_KNOWN, hT_KNOWN⟩ := hX.2.2.2.2.1
  have hl : lv_has ls 7 [(0, .ref h_t), (1, .int p1), (2, .int p2)] := hl
  have hf := (m_X12_wordFrom.eq_1 _ _ _ _).symm.trans hf
  have L11 : ∀ (n11 : Nat) (x3 : Int32) (x4 : Int32) (x5 : Int32) (x6 : Int32) (H : Heap) (locs : List Loc) (ls : Array Slot), m_X12_wordFrom_w11 F_t a_tape p1 p2 n11 x3 x4 x5 x6 = some Rr → va_P D vwCl (w_X12_wordFrom h_t r_t F_t cI a_tape) H → va_D A (w_X12_wordFrom h_t r_t F_t cI a_tape) → va_S A s.heap H locs → lv_has ls 7 [(0, .ref h_t), (1, .int p1), (2, .int p2), (3, .int x3), (4, .int x4), (5, .int x5), (6, .int x6)] → W p l e rm_X12_wordFrom s m args below meth c H locs 0 0 Q (F0 m 11 ls []) := by
    intro n11
    induction n11 with
    | zero => intro x3 x4 x5 x6 H locs ls hf; cases (show (none : Option _) = some Rr from hf)
    | succ n11 ih11 =>
      intro x3 x4 x5 x6 H locs ls hf hP hD hS hl
      have hf := (m_X12_wordFrom_w11.eq_2 _ _ _ _ _ _ _ _ _).symm.trans hf
      have L92 : ∀ (x3 : Int32) (x4 : Int32) (x5 : Int32) (x6 : Int32) (H : Heap) (locs : List Loc) (ls : Array Slot), m_X12_wordFrom_j92 F_t a_tape p1 p2 (m_X12_wordFrom_w11 F_t a_tape p1 p2 n11) x3 x4 x5 x6 = some Rr → va_P D vwCl (w_X12_wordFrom h_t r_t F_t cI a_tape) H → va_D A (w_X12_wordFrom h_t r_t F_t cI a_tape) → va_S A s.heap H locs → lv_has ls 7 [(0, .ref h_t), (1, .int p1), (2, .int p2), (3, .int x3), (4, .int x4), (5, .int x5), (6, .int x6)] → W p l e rm_X12_wordFrom s m args below meth c H locs 0 0 Q (F0 m 92 ls []) := by
        intro x3 x4 x5 x6 H locs ls hf hP hD hS hl
        have hf := (m_X12_wordFrom_j92.eq_1 _ _ _ _ _ _ _ _ _).symm.trans hf
        refine z_iinc (k0 := 6) (fun z => [(6, .int z), (0, .ref h_t), (1, .int p1), (2, .int p2), (3, .int x3), (4, .int x4), (5, .int x5)]) hx hb dX12_wordFrom_92 hl rfl (by decide) (by decide) (fun _ => rfl) hf (fun v3 ls hf hl => ?_)
        refine lv_goto (tgt := 11) hx hb dX12_wordFrom_95 (by decide) ?_
        exact ih11 x3 x4 x5 v3 _ _ _ hf hP hD hS (lv_sub hl [1, 2, 3, 4, 5, 6, 0] rfl)
      have L87 : ∀ (x3 : Int32) (x4 : Int32) (x6 : Int32) (s0 : Int32) (H : Heap) (locs : List Loc) (ls : Array Slot), m_X12_wordFrom_j87 F_t a_tape p1 p2 (m_X12_wordFrom_w11 F_t a_tape p1 p2 n11) x3 x4 x6 s0 = some Rr → va_P D vwCl (w_X12_wordFrom h_t r_t F_t cI a_tape) H → va_D A (w_X12_wordFrom h_t r_t F_t cI a_tape) → va_S A s.heap H locs → lv_has ls 7 [(0, .ref h_t), (1, .int p1), (2, .int p2), (3, .int x3), (4, .int x4), (6, .int x6)] → W p l e rm_X12_wordFrom s m args below meth c H locs 0 0 Q (F0 m 87 ls [.int s0]) := by
        intro x3 x4 x6 s0 H locs ls hf hP hD hS hl
        have hf := (m_X12_wordFrom_j87.eq_1 _ _ _ _ _ _ _ _ _).symm.trans hf
        refine lv_istore (lv' := [(5, .int s0), (0, .ref h_t), (1, .int p1), (2, .int p2), (3, .int x3), (4, .int x4), (6, .int x6)]) hx hb dX12_wordFrom_87 hl (by decide) rfl (fun ls hl => ?_)
        refine z_iinc (k0 := 5) (fun z => [(4, .int z), (5, .int s0), (0, .ref h_t), (1, .int p1), (2, .int p2), (3, .int x3), (6, .int x6)]) hx hb dX12_wordFrom_89 hl rfl (by decide) (by decide) (fun _ => rfl) hf (fun v2 ls hf hl => ?_)
        exact L92 x3 v2 s0 x6 _ _ _ hf hP hD hS (lv_sub hl [2, 3, 4, 5, 0, 1, 6] rfl)
      have L86 : ∀ (x3 : Int32) (x4 : Int32) (x6 : Int32) (H : Heap) (locs : List Loc) (ls : Array Slot), m_X12_wordFrom_j86 F_t a_tape p1 p2 (m_X12_wordFrom_w11 F_t a_tape p1 p2 n11) x3 x4 x6 = some Rr → va_P D vwCl (w_X12_wordFrom h_t r_t F_t cI a_tape) H → va_D A (w_X12_wordFrom h_t r_t F_t cI a_tape) → va_S A s.heap H locs → lv_has ls 7 [(0, .ref h_t), (1, .int p1), (2, .int p2), (3, .int x3), (4, .int x4), (6, .int x6)] → W p l e rm_X12_wordFrom s m args below meth c H locs 0 0 Q (F0 m 86 ls []) := by
        intro x3 x4 x6 H locs ls hf hP hD hS hl
        have hf := (m_X12_wordFrom_j86.eq_1 _ _ _ _ _ _ _ _).symm.trans hf
        refine lv_iconst (v := 0) hx hb dX12_wordFrom_86 (by decide) ?_
        exact L87 x3 x4 x6 0 _ _ _ hf hP hD hS (lv_sub hl [0, 1, 2, 3, 4, 5] rfl)
      have L44 : ∀ (x3 : Int32) (x6 : Int32) (H : Heap) (locs : List Loc) (ls : Array Slot), m_X12_wordFrom_j44 F_t a_tape p1 p2 (m_X12_wordFrom_w11 F_t a_tape p1 p2 n11) x3 x6 = some Rr → va_P D vwCl (w_X12_wordFrom h_t r_t F_t cI a_tape) H → va_D A (w_X12_wordFrom h_t r_t F_t cI a_tape) → va_S A s.heap H locs → lv_has ls 7 [(0, .ref h_t), (1, .int p1), (2, .int p2), (3, .int x3), (6, .int x6)] → W p l e rm_X12_wordFrom s m args below meth c H locs 0 0 Q (F0 m 44 ls []) := by
        intro x3 x6 H locs ls hf hP hD hS hl
        have hf := (m_X12_wordFrom_j44.eq_1 _ _ _ _ _ _ _).symm.trans hf
        refine z_iinc (k0 := 3) (fun z => [(3, .int z), (0, .ref h_t), (1, .int p1), (2, .int p2), (6, .int x6)]) hx hb dX12_wordFrom_44 hl rfl (by decide) (by decide) (fun _ => rfl) hf (fun v6 ls hf hl => ?_)
        refine lv_iload_n hx hb dX12_wordFrom_47 rfl (lv_at hl 2 rfl) ?_
        refine lv_istore (lv' := [(4, .int p1), (3, .int v6), (0, .ref h_t), (1, .int p1), (2, .int p2), (6, .int x6)]) hx hb dX12_wordFrom_48 hl (by decide) rfl (fun ls hl => ?_)
        refine lv_iconst (v := 1) hx hb dX12_wordFrom_50 (by decide) ?_
        refine lv_istore (lv' := [(5, .int 1), (4, .int p1), (3, .int v6), (0, .ref h_t), (1, .int p1), (2, .int p2), (6, .int x6)]) hx hb dX12_wordFrom_51 hl (by decide) rfl (fun ls hl => ?_)
        refine lv_goto (tgt := 92) hx hb dX12_wordFrom_53 (by decide) ?_
        exact L92 v6 p1 1 x6 _ _ _ hf hP hD hS (lv_sub hl [3, 4, 5, 2, 1, 0, 6] rfl)
      refine lv_iload hx hb dX12_wordFrom_11 (lv_at hl 6 rfl) ?_
      refine z_gets hx hb hts hZ_KNOWN hS hown tf_X12_239 dX12_wordFrom_13 ?_
      refine va_tlen hx hb hT_KNOWN hS (v := 75) (by decide) dX12_wordFrom_16 ?_
      refine z_icmp_ge (tgt := 98) hx hb dX12_wordFrom_17 (by decide) hf (fun hf => ?_) (fun hf => ?_)
      · refine lv_iconst (v := (-1)) hx hb dX12_wordFrom_98 (by decide) ?_
        exact hret (-1) _ _ _ _ hf hP hD hS dX12_wordFrom_99
      · refine z_gets hx hb hts hZ_KNOWN hS hown tf_X12_239 dX12_wordFrom_20 ?_
        refine lv_iload hx hb dX12_wordFrom_23 (lv_at hl 6 rfl) ?_
        refine z_tbld hx hb hT_KNOWN hS dX12_wordFrom_25 hf (fun y1 hf => ?_)
        refine lv_bipush (v := 32) hx hb dX12_wordFrom_26 (by decide) ?_
        refine z_icmp_ne (tgt := 56) hx hb dX12_wordFrom_28 (by decide) hf (fun hf => ?_) (fun hf => ?_)
        · refine lv_iload hx hb dX12_wordFrom_56 (lv_at hl 5 rfl) ?_
          refine z_if_eq (tgt := 86) hx hb dX12_wordFrom_58 (by decide) hf (fun hf => ?_) (fun hf => ?_)
          · exact L86 x3 x4 x6 _ _ _ hf hP hD hS (lv_sub hl [0, 1, 2, 3, 4, 6] rfl)
          · refine lv_iload hx hb dX12_wordFrom_61 (lv_at hl 4 rfl) ?_
            refine lv_iload_n hx hb dX12_wordFrom_63 rfl (lv_at hl 2 rfl) ?_
            refine z_icmp_ge (tgt := 86) hx hb dX12_wordFrom_64 (by decide) hf (fun hf => ?_) (fun hf => ?_)
            · exact L86 x3 x4 x6 _ _ _ hf hP hD hS (lv_sub hl [0, 1, 2, 3, 4, 6] rfl)
            · refine lv_aload_n hx hb dX12_wordFrom_67 rfl (lv_at hl 0 rfl) ?_
              refine lv_iload hx hb dX12_wordFrom_68 (lv_at hl 4 rfl) ?_
              obtain ⟨u4, hu4, hf⟩ := bd_some hf
              refine z_ci (ws1 := w_X12_wordFrom h_t r_t F_t cI a_tape) (wr := List.filterMap (fun i : Nat => (w_X12_wordFrom h_t r_t F_t cI a_tape)[i]?) []) (z_rV (rest := []) hx hb hml hown hcx hl.1 (c_X12_byteAt l D cI h_t r_t F_t a_tape x4 u4 hu4 _) tl_X12_243 ti_X12_byteAt tz_X12_byteAt tn_X12 tc_X12_byteAt tm_X12_byteAt rfl rfl ⟨Nat.le_of_ble_eq_true rfl, Nat.le_of_ble_eq_true rfl⟩ hK hX hS hA hP hD [0, 1] rfl rfl 0 rfl rfl rfl rfl (Nat.le_of_ble_eq_true rfl) dX12_wordFrom_70 ⟨Nat.zero_le _, Nat.zero_le _⟩) hP hD hS hA [0, 1] [] [0, 1] rfl rfl rfl (by decide) rfl rfl (fun H locs hP hD hS => ?_)
              refine z_gets hx hb hts hZ_KNOWN hS hown tf_X12_239 dX12_wordFrom_73 ?_
              refine lv_iload hx hb dX12_wordFrom_76 (lv_at hl 6 rfl) ?_
              refine z_tbld hx hb hT_KNOWN hS dX12_wordFrom_78 hf (fun y5 hf => ?_)
              refine z_icmp_ne (tgt := 86) hx hb dX12_wordFrom_79 (by decide) hf (fun hf => ?_) (fun hf => ?_)
              · exact L86 x3 x4 x6 _ _ _ hf hP hD hS (lv_sub hl [0, 1, 2, 3, 4, 6] rfl)
              · refine lv_iconst (v := 1) hx hb dX12_wordFrom_82 (by decide) ?_
                refine lv_goto (tgt := 87) hx hb dX12_wordFrom_83 (by decide) ?_
                exact L87 x3 x4 x6 1 _ _ _ hf hP hD hS (lv_sub hl [0, 1, 2, 3, 4, 6] rfl)
        · refine lv_iload hx hb dX12_wordFrom_31 (lv_at hl 5 rfl) ?_
          refine z_if_eq (tgt := 44) hx hb dX12_wordFrom_33 (by decide) hf (fun hf => ?_) (fun hf => ?_)
          · exact L44 x3 x6 _ _ _ hf hP hD hS (lv_sub hl [0, 1, 2, 3, 6] rfl)
          · refine lv_iload hx hb dX12_wordFrom_36 (lv_at hl 4 rfl) ?_
            refine lv_iload_n hx hb dX12_wordFrom_38 rfl (lv_at hl 2 rfl) ?_
            refine z_icmp_ne (tgt := 44) hx hb dX12_wordFrom_39 (by decide) hf (fun hf => ?_) (fun hf => ?_)
            · exact L44 x3 x6 _ _ _ hf hP hD hS (lv_sub hl [0, 1, 2, 3, 6] rfl)
            · refine lv_iload_n hx hb dX12_wordFrom_42 rfl (lv_at hl 3 rfl) ?_
              exact hret x3 _ _ _ _ hf hP hD hS dX12_wordFrom_43
  refine lv_iconst (v := 0) hx hb dX12_wordFrom_0 (by decide) ?_
  refine lv_istore_n (lv' := [(3, .int 0), (0, .ref h_t), (1, .int p1), (2, .int p2)]) hx hb dX12_wordFrom_1 rfl hl (by decide) rfl (fun ls hl => ?_)
  refine lv_iload_n hx hb dX12_wordFrom_2 rfl (lv_at hl 2 rfl) ?_
  refine lv_istore (lv' := [(4, .int p1), (3, .int 0), (0, .ref h_t), (1, .int p1), (2, .int p2)]) hx hb dX12_wordFrom_3 hl (by decide) rfl (fun ls hl => ?_)
  refine lv_iconst (v := 1) hx hb dX12_wordFrom_5 (by decide) ?_
  refine lv_istore (lv' := [(5, .int 1), (4, .int p1), (3, .int 0), (0, .ref h_t), (1, .int p1), (2, .int p2)]) hx hb dX12_wordFrom_6 hl (by decide) rfl (fun ls hl => ?_)
  refine lv_iconst (v := 0) hx hb dX12_wordFrom_8 (by decide) ?_
  refine lv_istore (lv' := [(6, .int 0), (5, .int 1), (4, .int p1), (3, .int 0), (0, .ref h_t), (1, .int p1), (2, .int p2)]) hx hb dX12_wordFrom_9 hl (by decide) rfl (fun ls hl => ?_)
  exact L11 fuelN 0 p1 1 0 _ _ _ hf hP hD hS (lv_sub hl [4, 5, 6, 3, 2, 1, 0] rfl)
