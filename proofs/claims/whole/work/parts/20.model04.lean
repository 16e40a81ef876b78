abbrev w_X12_go (h_t : Nat) (r_t : Nat → Nat) (F_t : Nat → Int32) (cI : ClassId) (a_tape : Nat → Int32) : va_W := [(h_t, .inr (12, o_X12 r_t F_t)), ((r_t 13), .inl (cI, 700, .inl a_tape))]
abbrev rm_X12_go : Room := { frames := 2, cells := 0, slots := 0, locals := 47 }
def m_X12_go_j283 (a_tape : Nat → Int32) (x1 : Int32) (s1 : Int32) (F_t : Nat → Int32) : Option ((Nat → Int32)) :=
  nm (upd F_t 35 s1) fun F7 =>
  nm (upd F7 36 x1) fun F8 =>
  some F8
def m_X12_go_j278 (a_tape : Nat → Int32) (x1 : Int32) (F_t : Nat → Int32) : Option ((Nat → Int32)) :=
  m_X12_go_j283 a_tape x1 3 F_t
def m_X12_go_j255 (a_tape : Nat → Int32) (x1 : Int32) (F_t : Nat → Int32) : Option ((Nat → Int32)) :=
  nm (upd F_t 32 ((F_t 32) + 1)) fun F6 =>
  if x1 = 59 then (
  m_X12_go_j278 a_tape x1 F6)
  else (
  if x1 = 44 then (
  m_X12_go_j278 a_tape x1 F6)
  else (
  m_X12_go_j283 a_tape x1 4 F6))
def m_X12_go_j247 (a_tape : Nat → Int32) (F_t : Nat → Int32) : Option ((Nat → Int32)) :=
  nm (upd F_t 35 2) fun F10 =>
  some F10
def m_X12_go_j231 (a_tape : Nat → Int32) (k166 : (Nat → Int32) → Option ((Nat → Int32))) (s1 : Int32) (F_t : Nat → Int32) : Option ((Nat → Int32)) :=
  nm (upd F_t 36 s1) fun F12 =>
  nm (upd F12 32 ((F12 32) + 1)) fun F13 =>
  k166 F13
def m_X12_go_w166 (a_tape : Nat → Int32) (k247 : (Nat → Int32) → Option ((Nat → Int32))) : Nat → (Nat → Int32) → Option ((Nat → Int32))
  | 0, _ => none
  | n166 + 1, F_t =>
    bd (m_X12_byteAt F_t a_tape (F_t 32)) fun u9 =>
    if u9 < 48 then (
    k247 F_t)
    else (
    bd (m_X12_byteAt F_t a_tape (F_t 32)) fun u11 =>
    if 57 < u11 then (
    k247 F_t)
    else (
    if 3 ≤ ((F_t 32) - (F_t 33)) then (
    m_X12_go_j231 a_tape (m_X12_go_w166 a_tape k247 n166) 9999 F_t)
    else (
    bd (m_X12_byteAt F_t a_tape (F_t 32)) fun u14 =>
    m_X12_go_j231 a_tape (m_X12_go_w166 a_tape k247 n166) (((10 * (F_t 36)) + u14) - 48) F_t)))
def m_X12_go_j130 (a_tape : Nat → Int32) (F_t : Nat → Int32) : Option ((Nat → Int32)) :=
  nm (upd F_t 35 1) fun F17 =>
  bd (m_X12_wordFrom F17 a_tape (F17 33) (F17 32)) fun u18 =>
  nm (upd F17 37 u18) fun F19 =>
  some F19
def m_X12_go_w103 (a_tape : Nat → Int32) (k130 : (Nat → Int32) → Option ((Nat → Int32))) : Nat → (Nat → Int32) → Option ((Nat → Int32))
  | 0, _ => none
  | n103 + 1, F_t =>
    bd (m_X12_byteAt F_t a_tape (F_t 32)) fun u15 =>
    bd (m_X12_isLetter u15) fun u16 =>
    if u16 = 0 then (
    k130 F_t)
    else (
    nm (upd F_t 32 ((F_t 32) + 1)) fun F20 =>
    m_X12_go_w103 a_tape k130 n103 F20)
def m_X12_go_j50 (a_tape : Nat → Int32) (F_t : Nat → Int32) : Option ((Nat → Int32)) :=
  nm (upd F_t 33 (F_t 32)) fun F1 =>
  bd (m_X12_byteAt F1 a_tape (F1 32)) fun u2 =>
  nm (upd F1 37 (-1)) fun F3 =>
  nm (upd F3 36 0) fun F4 =>
  if (F4 32) < (F4 34) then (
  bd (m_X12_isLetter u2) fun u5 =>
  if u5 = 0 then (
  if u2 < 48 then (
  m_X12_go_j255 a_tape u2 F4)
  else (
  if 57 < u2 then (
  m_X12_go_j255 a_tape u2 F4)
  else (
  m_X12_go_w166 a_tape (m_X12_go_j247 a_tape) fuelN F4)))
  else (
  m_X12_go_w103 a_tape (m_X12_go_j130 a_tape) fuelN F4))
  else (
  nm (upd F4 35 0) fun F21 =>
  some F21)
def m_X12_go_j37 (a_tape : Nat → Int32) (k0 : (Nat → Int32) → Option ((Nat → Int32))) (F_t : Nat → Int32) : Option ((Nat → Int32)) :=
  nm (upd F_t 32 ((F_t 32) + 1)) fun F23 =>
  k0 F23
def m_X12_go_w0 (a_tape : Nat → Int32) (k50 : (Nat → Int32) → Option ((Nat → Int32))) : Nat → (Nat → Int32) → Option ((Nat → Int32))
  | 0, _ => none
  | n0 + 1, F_t =>
    if (F_t 34) ≤ (F_t 32) then (
    k50 F_t)
    else (
    bd (m_X12_byteAt F_t a_tape (F_t 32)) fun u22 =>
    if u22 = 32 then (
    m_X12_go_j37 a_tape (m_X12_go_w0 a_tape k50 n0) F_t)
    else (
    bd (m_X12_byteAt F_t a_tape (F_t 32)) fun u24 =>
    if u24 = 10 then (
    m_X12_go_j37 a_tape (m_X12_go_w0 a_tape k50 n0) F_t)
    else (
    k50 F_t)))
def m_X12_go (F_t : Nat → Int32) (a_tape : Nat → Int32) : Option ((Nat → Int32)) :=
  m_X12_go_w0 a_tape (m_X12_go_j50 a_tape) fuelN F_t
set_option maxHeartbeats 4000000 in
set_option maxRecDepth 100000 in
theorem c_X12_go (l : Launch) (D : va_G) (cI : ClassId) (h_t : Nat) (r_t : Nat → Nat) (F_t : Nat → Int32) (a_tape : Nat → Int32) (Rr : (Nat → Int32)) (hf : m_X12_go F_t a_tape = some Rr) : CTv l yX12_go (Cond.code yX12_go cX12_go 2 none) rm_X12_go D cI [.ref h_t] (w_X12_go h_t r_t F_t cI a_tape) (w_X12_go h_t r_t Rr cI a_tape) := by
  refine z_begin_v (own := RX12) (ρ := (Nat → Int32)) (fun u => w_X12_go h_t r_t u cI a_tape) (by decide +kernel) rfl (Nat.le_of_ble_eq_true rfl) ?_
  intro p e s m args below meth c ls Q A hx hb hml hts hcx hown hK hX hA hP hD hS hl hret
  have hl : lv_has ls 2 [(0, .ref h_t)] := hl
  have hf := (m_X12_go.eq_1 _ _).symm.trans hf
  have L283 : ∀ (x1 : Int32) (s1 : Int32) (F_t : Nat → Int32) (H : Heap) (locs : List Loc) (ls : Array Slot), m_X12_go_j283 a_tape x1 s1 F_t = some Rr → va_P D vwCl (w_X12_go h_t r_t F_t cI a_tape) H → va_D A (w_X12_go h_t r_t F_t cI a_tape) → va_S A s.heap H locs → lv_has ls 2 [(0, .ref h_t), (1, .int x1)] → W p l e rm_X12_go s m args below meth c H locs 0 0 Q (F0 m 283 ls [.int s1, .ref h_t]) := by
    intro x1 s1 F_t H locs ls hf hP hD hS hl
    have hf := (m_X12_go_j283.eq_1 _ _ _ _).symm.trans hf
    refine z_put (ci := 12) (C := RX12) (T := TX12) (N := 51) hx hb hts inT_X12 tyX12 tyX12_ok nmX12 hown hK hP hD hS 0 rfl rfl 35 (by decide) tf_X12_258 rfl (by decide +kernel) (Nat.le_of_ble_eq_true rfl) (o_X12 r_t) (o_X12_s35 _ _ _) (fun z => w_X12_go h_t r_t z cI a_tape) (fun _ => rfl) dX12_go_283 hf (fun F7 H locs hf hP hD hS => ?_)
    refine lv_aload_n hx hb dX12_go_286 rfl (lv_at hl 0 rfl) ?_
    refine lv_iload_n hx hb dX12_go_287 rfl (lv_at hl 1 rfl) ?_
    refine z_put (ci := 12) (C := RX12) (T := TX12) (N := 51) hx hb hts inT_X12 tyX12 tyX12_ok nmX12 hown hK hP hD hS 0 rfl rfl 36 (by decide) tf_X12_255 rfl (by decide +kernel) (Nat.le_of_ble_eq_true rfl) (o_X12 r_t) (o_X12_s36 _ _ _) (fun z => w_X12_go h_t r_t z cI a_tape) (fun _ => rfl) dX12_go_288 hf (fun F8 H locs hf hP hD hS => ?_)
    exact hret F8 _ _ _ _ hf hP hD hS dX12_go_291
  have L278 : ∀ (x1 : Int32) (F_t : Nat → Int32) (H : Heap) (locs : List Loc) (ls : Array Slot), m_X12_go_j278 a_tape x1 F_t = some Rr → va_P D vwCl (w_X12_go h_t r_t F_t cI a_tape) H → va_D A (w_X12_go h_t r_t F_t cI a_tape) → va_S A s.heap H locs → lv_has ls 2 [(0, .ref h_t), (1, .int x1)] → W p l e rm_X12_go s m args below meth c H locs 0 0 Q (F0 m 278 ls [.ref h_t]) := by
    intro x1 F_t H locs ls hf hP hD hS hl
    have hf := (m_X12_go_j278.eq_1 _ _ _).symm.trans hf
    refine lv_iconst (v := 3) hx hb dX12_go_278 (by decide) ?_
    refine lv_goto (tgt := 283) hx hb dX12_go_279 (by decide) ?_
    exact L283 x1 3 F_t _ _ _ hf hP hD hS (lv_sub hl [0, 1] rfl)
  have L255 : ∀ (x1 : Int32) (F_t : Nat → Int32) (H : Heap) (locs : List Loc) (ls : Array Slot), m_X12_go_j255 a_tape x1 F_t = some Rr → va_P D vwCl (w_X12_go h_t r_t F_t cI a_tape) H → va_D A (w_X12_go h_t r_t F_t cI a_tape) → va_S A s.heap H locs → lv_has ls 2 [(0, .ref h_t), (1, .int x1)] → W p l e rm_X12_go s m args below meth c H locs 0 0 Q (F0 m 255 ls []) := by
    intro x1 F_t H locs ls hf hP hD hS hl
    have hf := (m_X12_go_j255.eq_1 _ _ _).symm.trans hf
    refine lv_aload_n hx hb dX12_go_255 rfl (lv_at hl 0 rfl) ?_
    refine lv_dup hx hb dX12_go_256 rfl ?_
    refine z_get (ci := 12) (C := RX12) (T := TX12) (N := 51) (v := .int (F_t 32)) hx hb hts inT_X12 hown hK hP 0 rfl rfl 32 (by decide) tf_X12_246 rfl dX12_go_257 ?_
    refine lv_iconst (v := 1) hx hb dX12_go_260 (by decide) ?_
    refine lv_iadd hx hb dX12_go_261 ?_
    refine z_put (ci := 12) (C := RX12) (T := TX12) (N := 51) hx hb hts inT_X12 tyX12 tyX12_ok nmX12 hown hK hP hD hS 0 rfl rfl 32 (by decide) tf_X12_246 rfl (by decide +kernel) (Nat.le_of_ble_eq_true rfl) (o_X12 r_t) (o_X12_s32 _ _ _) (fun z => w_X12_go h_t r_t z cI a_tape) (fun _ => rfl) dX12_go_262 hf (fun F6 H locs hf hP hD hS => ?_)
    refine lv_aload_n hx hb dX12_go_265 rfl (lv_at hl 0 rfl) ?_
    refine lv_iload_n hx hb dX12_go_266 rfl (lv_at hl 1 rfl) ?_
    refine lv_bipush (v := 59) hx hb dX12_go_267 (by decide) ?_
    refine z_icmp_eq (tgt := 278) hx hb dX12_go_269 (by decide) hf (fun hf => ?_) (fun hf => ?_)
    · exact L278 x1 F6 _ _ _ hf hP hD hS (lv_sub hl [0, 1] rfl)
    · refine lv_iload_n hx hb dX12_go_272 rfl (lv_at hl 1 rfl) ?_
      refine lv_bipush (v := 44) hx hb dX12_go_273 (by decide) ?_
      refine z_icmp_ne (tgt := 282) hx hb dX12_go_275 (by decide) hf (fun hf => ?_) (fun hf => ?_)
      · refine lv_iconst (v := 4) hx hb dX12_go_282 (by decide) ?_
        exact L283 x1 4 F6 _ _ _ hf hP hD hS (lv_sub hl [0, 1] rfl)
      · exact L278 x1 F6 _ _ _ hf hP hD hS (lv_sub hl [0, 1] rfl)
  have L247 : ∀ (F_t : Nat → Int32) (H : Heap) (locs : List Loc) (ls : Array Slot), m_X12_go_j247 a_tape F_t = some Rr → va_P D vwCl (w_X12_go h_t r_t F_t cI a_tape) H → va_D A (w_X12_go h_t r_t F_t cI a_tape) → va_S A s.heap H locs → lv_has ls 2 [(0, .ref h_t)] → W p l e rm_X12_go s m args below meth c H locs 0 0 Q (F0 m 247 ls []) := by
    intro F_t H locs ls hf hP hD hS hl
    have hf := (m_X12_go_j247.eq_1 _ _).symm.trans hf
    refine lv_aload_n hx hb dX12_go_247 rfl (lv_at hl 0 rfl) ?_
    refine lv_iconst (v := 2) hx hb dX12_go_248 (by decide) ?_
    refine z_put (ci := 12) (C := RX12) (T := TX12) (N := 51) hx hb hts inT_X12 tyX12 tyX12_ok nmX12 hown hK hP hD hS 0 rfl rfl 35 (by decide) tf_X12_258 rfl (by decide +kernel) (Nat.le_of_ble_eq_true rfl) (o_X12 r_t) (o_X12_s35 _ _ _) (fun z => w_X12_go h_t r_t z cI a_tape) (fun _ => rfl) dX12_go_249 hf (fun F10 H locs hf hP hD hS => ?_)
    refine lv_goto (tgt := 291) hx hb dX12_go_252 (by decide) ?_
    exact hret F10 _ _ _ _ hf hP hD hS dX12_go_291
  have L166 : ∀ (n166 : Nat) (F_t : Nat → Int32) (H : Heap) (locs : List Loc) (ls : Array Slot), m_X12_go_w166 a_tape (m_X12_go_j247 a_tape) n166 F_t = some Rr → va_P D vwCl (w_X12_go h_t r_t F_t cI a_tape) H → va_D A (w_X12_go h_t r_t F_t cI a_tape) → va_S A s.heap H locs → lv_has ls 2 [(0, .ref h_t)] → W p l e rm_X12_go s m args below meth c H locs 0 0 Q (F0 m 166 ls []) := by
    intro n166
    induction n166 with
    | zero => intro F_t H locs ls hf; cases (show (none : Option _) = some Rr from hf)
    | succ n166 ih166 =>
      intro F_t H locs ls hf hP hD hS hl
      have hf := (m_X12_go_w166.eq_2 _ _ _ _).symm.trans hf
      have L231 : ∀ (s1 : Int32) (F_t : Nat → Int32) (H : Heap) (locs : List Loc) (ls : Array Slot), m_X12_go_j231 a_tape (m_X12_go_w166 a_tape (m_X12_go_j247 a_tape) n166) s1 F_t = some Rr → va_P D vwCl (w_X12_go h_t r_t F_t cI a_tape) H → va_D A (w_X12_go h_t r_t F_t cI a_tape) → va_S A s.heap H locs → lv_has ls 2 [(0, .ref h_t)] → W p l e rm_X12_go s m args below meth c H locs 0 0 Q (F0 m 231 ls [.int s1, .ref h_t]) := by
        intro s1 F_t H locs ls hf hP hD hS hl
        have hf := (m_X12_go_j231.eq_1 _ _ _ _).symm.trans hf
        refine z_put (ci := 12) (C := RX12) (T := TX12) (N := 51) hx hb hts inT_X12 tyX12 tyX12_ok nmX12 hown hK hP hD hS 0 rfl rfl 36 (by decide) tf_X12_255 rfl (by decide +kernel) (Nat.le_of_ble_eq_true rfl) (o_X12 r_t) (o_X12_s36 _ _ _) (fun z => w_X12_go h_t r_t z cI a_tape) (fun _ => rfl) dX12_go_231 hf (fun F12 H locs hf hP hD hS => ?_)
        refine lv_aload_n hx hb dX12_go_234 rfl (lv_at hl 0 rfl) ?_
        refine lv_dup hx hb dX12_go_235 rfl ?_
        refine z_get (ci := 12) (C := RX12) (T := TX12) (N := 51) (v := .int (F12 32)) hx hb hts inT_X12 hown hK hP 0 rfl rfl 32 (by decide) tf_X12_246 rfl dX12_go_236 ?_
        refine lv_iconst (v := 1) hx hb dX12_go_239 (by decide) ?_
        refine lv_iadd hx hb dX12_go_240 ?_
        refine z_put (ci := 12) (C := RX12) (T := TX12) (N := 51) hx hb hts inT_X12 tyX12 tyX12_ok nmX12 hown hK hP hD hS 0 rfl rfl 32 (by decide) tf_X12_246 rfl (by decide +kernel) (Nat.le_of_ble_eq_true rfl) (o_X12 r_t) (o_X12_s32 _ _ _) (fun z => w_X12_go h_t r_t z cI a_tape) (fun _ => rfl) dX12_go_241 hf (fun F13 H locs hf hP hD hS => ?_)
        refine lv_goto (tgt := 166) hx hb dX12_go_244 (by decide) ?_
        exact ih166 F13 _ _ _ hf hP hD hS (lv_sub hl [0] rfl)
      refine lv_aload_n hx hb dX12_go_166 rfl (lv_at hl 0 rfl) ?_
      refine lv_aload_n hx hb dX12_go_167 rfl (lv_at hl 0 rfl) ?_
      refine z_get (ci := 12) (C := RX12) (T := TX12) (N := 51) (v := .int (F_t 32)) hx hb hts inT_X12 hown hK hP 0 rfl rfl 32 (by decide) tf_X12_246 rfl dX12_go_168 ?_
      obtain ⟨u9, hu9, hf⟩ := bd_some hf
      refine z_ci (ws1 := w_X12_go h_t r_t F_t cI a_tape) (wr := List.filterMap (fun i : Nat => (w_X12_go h_t r_t F_t cI a_tape)[i]?) []) (z_rV (rest := []) hx hb hml hown hcx hl.1 (c_X12_byteAt l D cI h_t r_t F_t a_tape (F_t 32) u9 hu9 _) tl_X12_243 ti_X12_byteAt tz_X12_byteAt tn_X12 tc_X12_byteAt tm_X12_byteAt rfl rfl ⟨Nat.le_of_ble_eq_true rfl, Nat.le_of_ble_eq_true rfl⟩ hK hX hS hA hP hD [0, 1] rfl rfl 0 rfl rfl rfl rfl (Nat.le_of_ble_eq_true rfl) dX12_go_171 ⟨Nat.zero_le _, Nat.zero_le _⟩) hP hD hS hA [0, 1] [] [0, 1] rfl rfl rfl (by decide) rfl rfl (fun H locs hP hD hS => ?_)
      refine lv_bipush (v := 48) hx hb dX12_go_174 (by decide) ?_
      refine z_icmp_lt (tgt := 247) hx hb dX12_go_176 (by decide) hf (fun hf => ?_) (fun hf => ?_)
      · exact L247 F_t _ _ _ hf hP hD hS (lv_sub hl [0] rfl)
      · refine lv_aload_n hx hb dX12_go_179 rfl (lv_at hl 0 rfl) ?_
        refine lv_aload_n hx hb dX12_go_180 rfl (lv_at hl 0 rfl) ?_
        refine z_get (ci := 12) (C := RX12) (T := TX12) (N := 51) (v := .int (F_t 32)) hx hb hts inT_X12 hown hK hP 0 rfl rfl 32 (by decide) tf_X12_246 rfl dX12_go_181 ?_
        obtain ⟨u11, hu11, hf⟩ := bd_some hf
        refine z_ci (ws1 := w_X12_go h_t r_t F_t cI a_tape) (wr := List.filterMap (fun i : Nat => (w_X12_go h_t r_t F_t cI a_tape)[i]?) []) (z_rV (rest := []) hx hb hml hown hcx hl.1 (c_X12_byteAt l D cI h_t r_t F_t a_tape (F_t 32) u11 hu11 _) tl_X12_243 ti_X12_byteAt tz_X12_byteAt tn_X12 tc_X12_byteAt tm_X12_byteAt rfl rfl ⟨Nat.le_of_ble_eq_true rfl, Nat.le_of_ble_eq_true rfl⟩ hK hX hS hA hP hD [0, 1] rfl rfl 0 rfl rfl rfl rfl (Nat.le_of_ble_eq_true rfl) dX12_go_184 ⟨Nat.zero_le _, Nat.zero_le _⟩) hP hD hS hA [0, 1] [] [0, 1] rfl rfl rfl (by decide) rfl rfl (fun H locs hP hD hS => ?_)
        refine lv_bipush (v := 57) hx hb dX12_go_187 (by decide) ?_
        refine z_icmp_gt (tgt := 247) hx hb dX12_go_189 (by decide) hf (fun hf => ?_) (fun hf => ?_)
        · exact L247 F_t _ _ _ hf hP hD hS (lv_sub hl [0] rfl)
        · refine lv_aload_n hx hb dX12_go_192 rfl (lv_at hl 0 rfl) ?_
          refine lv_aload_n hx hb dX12_go_193 rfl (lv_at hl 0 rfl) ?_
          refine z_get (ci := 12) (C := RX12) (T := TX12) (N := 51) (v := .int (F_t 32)) hx hb hts inT_X12 hown hK hP 0 rfl rfl 32 (by decide) tf_X12_246 rfl dX12_go_194 ?_
          refine lv_aload_n hx hb dX12_go_197 rfl (lv_at hl 0 rfl) ?_
          refine z_get (ci := 12) (C := RX12) (T := TX12) (N := 51) (v := .int (F_t 33)) hx hb hts inT_X12 hown hK hP 0 rfl rfl 33 (by decide) tf_X12_249 rfl dX12_go_198 ?_
          refine lv_isub hx hb dX12_go_201 ?_
          refine lv_iconst (v := 3) hx hb dX12_go_202 (by decide) ?_
          refine z_icmp_ge (tgt := 228) hx hb dX12_go_203 (by decide) hf (fun hf => ?_) (fun hf => ?_)
          · refine lv_sipush (v := 9999) hx hb dX12_go_228 (by decide) ?_
            exact L231 9999 F_t _ _ _ hf hP hD hS (lv_sub hl [0] rfl)
          · refine lv_bipush (v := 10) hx hb dX12_go_206 (by decide) ?_
            refine lv_aload_n hx hb dX12_go_208 rfl (lv_at hl 0 rfl) ?_
            refine z_get (ci := 12) (C := RX12) (T := TX12) (N := 51) (v := .int (F_t 36)) hx hb hts inT_X12 hown hK hP 0 rfl rfl 36 (by decide) tf_X12_255 rfl dX12_go_209 ?_
            refine lv_imul hx hb dX12_go_212 ?_
            refine lv_aload_n hx hb dX12_go_213 rfl (lv_at hl 0 rfl) ?_
            refine lv_aload_n hx hb dX12_go_214 rfl (lv_at hl 0 rfl) ?_
            refine z_get (ci := 12) (C := RX12) (T := TX12) (N := 51) (v := .int (F_t 32)) hx hb hts inT_X12 hown hK hP 0 rfl rfl 32 (by decide) tf_X12_246 rfl dX12_go_215 ?_
            obtain ⟨u14, hu14, hf⟩ := bd_some hf
            refine z_ci (ws1 := w_X12_go h_t r_t F_t cI a_tape) (wr := List.filterMap (fun i : Nat => (w_X12_go h_t r_t F_t cI a_tape)[i]?) []) (z_rV (rest := [.int (10 * (F_t 36)), .ref h_t]) hx hb hml hown hcx hl.1 (c_X12_byteAt l D cI h_t r_t F_t a_tape (F_t 32) u14 hu14 _) tl_X12_243 ti_X12_byteAt tz_X12_byteAt tn_X12 tc_X12_byteAt tm_X12_byteAt rfl rfl ⟨Nat.le_of_ble_eq_true rfl, Nat.le_of_ble_eq_true rfl⟩ hK hX hS hA hP hD [0, 1] rfl rfl 0 rfl rfl rfl rfl (Nat.le_of_ble_eq_true rfl) dX12_go_218 ⟨Nat.zero_le _, Nat.zero_le _⟩) hP hD hS hA [0, 1] [] [0, 1] rfl rfl rfl (by decide) rfl rfl (fun H locs hP hD hS => ?_)
            refine lv_iadd hx hb dX12_go_221 ?_
            refine lv_bipush (v := 48) hx hb dX12_go_222 (by decide) ?_
            refine lv_isub hx hb dX12_go_224 ?_
            refine lv_goto (tgt := 231) hx hb dX12_go_225 (by decide) ?_
            exact L231 (((10 * (F_t 36)) + u14) - 48) F_t _ _ _ hf hP hD hS (lv_sub hl [0] rfl)
  have L130 : ∀ (F_t : Nat → Int32) (H : Heap) (locs : List Loc) (ls : Array Slot), m_X12_go_j130 a_tape F_t = some Rr → va_P D vwCl (w_X12_go h_t r_t F_t cI a_tape) H → va_D A (w_X12_go h_t r_t F_t cI a_tape) → va_S A s.heap H locs → lv_has ls 2 [(0, .ref h_t)] → W p l e rm_X12_go s m args below meth c H locs 0 0 Q (F0 m 130 ls []) := by
    intro F_t H locs ls hf hP hD hS hl
    have hf := (m_X12_go_j130.eq_1 _ _).symm.trans hf
    refine lv_aload_n hx hb dX12_go_130 rfl (lv_at hl 0 rfl) ?_
    refine lv_iconst (v := 1) hx hb dX12_go_131 (by decide) ?_
    refine z_put (ci := 12) (C := RX12) (T := TX12) (N := 51) hx hb hts inT_X12 tyX12 tyX12_ok nmX12 hown hK hP hD hS 0 rfl rfl 35 (by decide) tf_X12_258 rfl (by decide +kernel) (Nat.le_of_ble_eq_true rfl) (o_X12 r_t) (o_X12_s35 _ _ _) (fun z => w_X12_go h_t r_t z cI a_tape) (fun _ => rfl) dX12_go_132 hf (fun F17 H locs hf hP hD hS => ?_)
    refine lv_aload_n hx hb dX12_go_135 rfl (lv_at hl 0 rfl) ?_
    refine lv_aload_n hx hb dX12_go_136 rfl (lv_at hl 0 rfl) ?_
    refine lv_aload_n hx hb dX12_go_137 rfl (lv_at hl 0 rfl) ?_
    refine z_get (ci := 12) (C := RX12) (T := TX12) (N := 51) (v := .int (F17 33)) hx hb hts inT_X12 hown hK hP 0 rfl rfl 33 (by decide) tf_X12_249 rfl dX12_go_138 ?_
    refine lv_aload_n hx hb dX12_go_141 rfl (lv_at hl 0 rfl) ?_
    refine z_get (ci := 12) (C := RX12) (T := TX12) (N := 51) (v := .int (F17 32)) hx hb hts inT_X12 hown hK hP 0 rfl rfl 32 (by decide) tf_X12_246 rfl dX12_go_142 ?_
    obtain ⟨u18, hu18, hf⟩ := bd_some hf
    refine z_ci (ws1 := w_X12_go h_t r_t F17 cI a_tape) (wr := List.filterMap (fun i : Nat => (w_X12_go h_t r_t F17 cI a_tape)[i]?) []) (z_rV (rest := [.ref h_t]) hx hb hml hown hcx hl.1 (c_X12_wordFrom l D cI h_t r_t F17 a_tape (F17 33) (F17 32) u18 hu18 _) tl_X12_264 ti_X12_wordFrom tz_X12_wordFrom tn_X12 tc_X12_wordFrom tm_X12_wordFrom rfl rfl ⟨Nat.le_of_ble_eq_true rfl, Nat.le_of_ble_eq_true rfl⟩ hK hX hS hA hP hD [0, 1] rfl rfl 0 rfl rfl rfl rfl (Nat.le_of_ble_eq_true rfl) dX12_go_145 ⟨Nat.zero_le _, Nat.zero_le _⟩) hP hD hS hA [0, 1] [] [0, 1] rfl rfl rfl (by decide) rfl rfl (fun H locs hP hD hS => ?_)
    refine z_put (ci := 12) (C := RX12) (T := TX12) (N := 51) hx hb hts inT_X12 tyX12 tyX12_ok nmX12 hown hK hP hD hS 0 rfl rfl 37 (by decide) tf_X12_252 rfl (by decide +kernel) (Nat.le_of_ble_eq_true rfl) (o_X12 r_t) (o_X12_s37 _ _ _) (fun z => w_X12_go h_t r_t z cI a_tape) (fun _ => rfl) dX12_go_148 hf (fun F19 H locs hf hP hD hS => ?_)
    refine lv_goto (tgt := 291) hx hb dX12_go_151 (by decide) ?_
    exact hret F19 _ _ _ _ hf hP hD hS dX12_go_291
  have L103 : ∀ (n103 : Nat) (F_t : Nat → Int32) (H : Heap) (locs : List Loc) (ls : Array Slot), m_X12_go_w103 a_tape (m_X12_go_j130 a_tape) n103 F_t = some Rr → va_P D vwCl (w_X12_go h_t r_t F_t cI a_tape) H → va_D A (w_X12_go h_t r_t F_t cI a_tape) → va_S A s.heap H locs → lv_has ls 2 [(0, .ref h_t)] → W p l e rm_X12_go s m args below meth c H locs 0 0 Q (F0 m 103 ls []) := by
    intro n103
    induction n103 with
    | zero => intro F_t H locs ls hf; cases (show (none : Option _) = some Rr from hf)
    | succ n103 ih103 =>
      intro F_t H locs ls hf hP hD hS hl
      have hf := (m_X12_go_w103.eq_2 _ _ _ _).symm.trans hf
      refine lv_aload_n hx hb dX12_go_103 rfl (lv_at hl 0 rfl) ?_
      refine lv_aload_n hx hb dX12_go_104 rfl (lv_at hl 0 rfl) ?_
      refine z_get (ci := 12) (C := RX12) (T := TX12) (N := 51) (v := .int (F_t 32)) hx hb hts inT_X12 hown hK hP 0 rfl rfl 32 (by decide) tf_X12_246 rfl dX12_go_105 ?_
      obtain ⟨u15, hu15, hf⟩ := bd_some hf
      refine z_ci (ws1 := w_X12_go h_t r_t F_t cI a_tape) (wr := List.filterMap (fun i : Nat => (w_X12_go h_t r_t F_t cI a_tape)[i]?) []) (z_rV (rest := []) hx hb hml hown hcx hl.1 (c_X12_byteAt l D cI h_t r_t F_t a_tape (F_t 32) u15 hu15 _) tl_X12_243 ti_X12_byteAt tz_X12_byteAt tn_X12 tc_X12_byteAt tm_X12_byteAt rfl rfl ⟨Nat.le_of_ble_eq_true rfl, Nat.le_of_ble_eq_true rfl⟩ hK hX hS hA hP hD [0, 1] rfl rfl 0 rfl rfl rfl rfl (Nat.le_of_ble_eq_true rfl) dX12_go_108 ⟨Nat.zero_le _, Nat.zero_le _⟩) hP hD hS hA [0, 1] [] [0, 1] rfl rfl rfl (by decide) rfl rfl (fun H locs hP hD hS => ?_)
      obtain ⟨u16, hu16, hf⟩ := bd_some hf
      refine z_ci (ws1 := w_X12_go h_t r_t F_t cI a_tape) (wr := List.filterMap (fun i : Nat => (w_X12_go h_t r_t F_t cI a_tape)[i]?) [0, 1]) (z_rS (rest := []) hx hb hml hown hcx hl.1 (c_X12_isLetter l D cI u15 u16 hu16 _) tl_X12_261 ts_X12_isLetter tn_X12 tc_X12_isLetter tm_X12_isLetter rfl rfl ⟨Nat.le_of_ble_eq_true rfl, Nat.le_of_ble_eq_true rfl⟩ hK hX hS hA hP hD [] rfl rfl rfl rfl (Nat.le_of_ble_eq_true rfl) dX12_go_111 ⟨Nat.zero_le _, Nat.zero_le _⟩) hP hD hS hA [] [0, 1] [0, 1] rfl rfl rfl (by decide) rfl rfl (fun H locs hP hD hS => ?_)
      refine z_if_eq (tgt := 130) hx hb dX12_go_114 (by decide) hf (fun hf => ?_) (fun hf => ?_)
      · exact L130 F_t _ _ _ hf hP hD hS (lv_sub hl [0] rfl)
      · refine lv_aload_n hx hb dX12_go_117 rfl (lv_at hl 0 rfl) ?_
        refine lv_dup hx hb dX12_go_118 rfl ?_
        refine z_get (ci := 12) (C := RX12) (T := TX12) (N := 51) (v := .int (F_t 32)) hx hb hts inT_X12 hown hK hP 0 rfl rfl 32 (by decide) tf_X12_246 rfl dX12_go_119 ?_
        refine lv_iconst (v := 1) hx hb dX12_go_122 (by decide) ?_
        refine lv_iadd hx hb dX12_go_123 ?_
        refine z_put (ci := 12) (C := RX12) (T := TX12) (N := 51) hx hb hts inT_X12 tyX12 tyX12_ok nmX12 hown hK hP hD hS 0 rfl rfl 32 (by decide) tf_X12_246 rfl (by decide +kernel) (Nat.le_of_ble_eq_true rfl) (o_X12 r_t) (o_X12_s32 _ _ _) (fun z => w_X12_go h_t r_t z cI a_tape) (fun _ => rfl) dX12_go_124 hf (fun F20 H locs hf hP hD hS => ?_)
        refine lv_goto (tgt := 103) hx hb dX12_go_127 (by decide) ?_
        exact ih103 F20 _ _ _ hf hP hD hS (lv_sub hl [0] rfl)
  have L50 : ∀ (F_t : Nat → Int32) (H : Heap) (locs : List Loc) (ls : Array Slot), m_X12_go_j50 a_tape F_t = some Rr → va_P D vwCl (w_X12_go h_t r_t F_t cI a_tape) H → va_D A (w_X12_go h_t r_t F_t cI a_tape) → va_S A s.heap H locs → lv_has ls 2 [(0, .ref h_t)] → W p l e rm_X12_go s m args below meth c H locs 0 0 Q (F0 m 50 ls []) := by
    intro F_t H locs ls hf hP hD hS hl
    have hf := (m_X12_go_j50.eq_1 _ _).symm.trans hf
    refine lv_aload_n hx hb dX12_go_50 rfl (lv_at hl 0 rfl) ?_
    refine lv_aload_n hx hb dX12_go_51 rfl (lv_at hl 0 rfl) ?_
    refine z_get (ci := 12) (C := RX12) (T := TX12) (N := 51) (v := .int (F_t 32)) hx hb hts inT_X12 hown hK hP 0 rfl rfl 32 (by decide) tf_X12_246 rfl dX12_go_52 ?_
    refine z_put (ci := 12) (C := RX12) (T := TX12) (N := 51) hx hb hts inT_X12 tyX12 tyX12_ok nmX12 hown hK hP hD hS 0 rfl rfl 33 (by decide) tf_X12_249 rfl (by decide +kernel) (Nat.le_of_ble_eq_true rfl) (o_X12 r_t) (o_X12_s33 _ _ _) (fun z => w_X12_go h_t r_t z cI a_tape) (fun _ => rfl) dX12_go_55 hf (fun F1 H locs hf hP hD hS => ?_)
    refine lv_aload_n hx hb dX12_go_58 rfl (lv_at hl 0 rfl) ?_
    refine lv_aload_n hx hb dX12_go_59 rfl (lv_at hl 0 rfl) ?_
    refine z_get (ci := 12) (C := RX12) (T := TX12) (N := 51) (v := .int (F1 32)) hx hb hts inT_X12 hown hK hP 0 rfl rfl 32 (by decide) tf_X12_246 rfl dX12_go_60 ?_
    obtain ⟨u2, hu2, hf⟩ := bd_some hf
    refine z_ci (ws1 := w_X12_go h_t r_t F1 cI a_tape) (wr := List.filterMap (fun i : Nat => (w_X12_go h_t r_t F1 cI a_tape)[i]?) []) (z_rV (rest := []) hx hb hml hown hcx hl.1 (c_X12_byteAt l D cI h_t r_t F1 a_tape (F1 32) u2 hu2 _) tl_X12_243 ti_X12_byteAt tz_X12_byteAt tn_X12 tc_X12_byteAt tm_X12_byteAt rfl rfl ⟨Nat.le_of_ble_eq_true rfl, Nat.le_of_ble_eq_true rfl⟩ hK hX hS hA hP hD [0, 1] rfl rfl 0 rfl rfl rfl rfl (Nat.le_of_ble_eq_true rfl) dX12_go_63 ⟨Nat.zero_le _, Nat.zero_le _⟩) hP hD hS hA [0, 1] [] [0, 1] rfl rfl rfl (by decide) rfl rfl (fun H locs hP hD hS => ?_)
    refine lv_istore_n (lv' := [(1, .int u2), (0, .ref h_t)]) hx hb dX12_go_66 rfl hl (by decide) rfl (fun ls hl => ?_)
    refine lv_aload_n hx hb dX12_go_67 rfl (lv_at hl 1 rfl) ?_
    refine lv_iconst (v := (-1)) hx hb dX12_go_68 (by decide) ?_
    refine z_put (ci := 12) (C := RX12) (T := TX12) (N := 51) hx hb hts inT_X12 tyX12 tyX12_ok nmX12 hown hK hP hD hS 0 rfl rfl 37 (by decide) tf_X12_252 rfl (by decide +kernel) (Nat.le_of_ble_eq_true rfl) (o_X12 r_t) (o_X12_s37 _ _ _) (fun z => w_X12_go h_t r_t z cI a_tape) (fun _ => rfl) dX12_go_69 hf (fun F3 H locs hf hP hD hS => ?_)
    refine lv_aload_n hx hb dX12_go_72 rfl (lv_at hl 1 rfl) ?_
    refine lv_iconst (v := 0) hx hb dX12_go_73 (by decide) ?_
    refine z_put (ci := 12) (C := RX12) (T := TX12) (N := 51) hx hb hts inT_X12 tyX12 tyX12_ok nmX12 hown hK hP hD hS 0 rfl rfl 36 (by decide) tf_X12_255 rfl (by decide +kernel) (Nat.le_of_ble_eq_true rfl) (o_X12 r_t) (o_X12_s36 _ _ _) (fun z => w_X12_go h_t r_t z cI a_tape) (fun _ => rfl) dX12_go_74 hf (fun F4 H locs hf hP hD hS => ?_)
    refine lv_aload_n hx hb dX12_go_77 rfl (lv_at hl 1 rfl) ?_
    refine z_get (ci := 12) (C := RX12) (T := TX12) (N := 51) (v := .int (F4 32)) hx hb hts inT_X12 hown hK hP 0 rfl rfl 32 (by decide) tf_X12_246 rfl dX12_go_78 ?_
    refine lv_aload_n hx hb dX12_go_81 rfl (lv_at hl 1 rfl) ?_
    refine z_get (ci := 12) (C := RX12) (T := TX12) (N := 51) (v := .int (F4 34)) hx hb hts inT_X12 hown hK hP 0 rfl rfl 34 (by decide) tf_X12_236 rfl dX12_go_82 ?_
    refine z_icmp_lt (tgt := 96) hx hb dX12_go_85 (by decide) hf (fun hf => ?_) (fun hf => ?_)
    · refine lv_iload_n hx hb dX12_go_96 rfl (lv_at hl 0 rfl) ?_
      obtain ⟨u5, hu5, hf⟩ := bd_some hf
      refine z_ci (ws1 := w_X12_go h_t r_t F4 cI a_tape) (wr := List.filterMap (fun i : Nat => (w_X12_go h_t r_t F4 cI a_tape)[i]?) [0, 1]) (z_rS (rest := []) hx hb hml hown hcx hl.1 (c_X12_isLetter l D cI u2 u5 hu5 _) tl_X12_261 ts_X12_isLetter tn_X12 tc_X12_isLetter tm_X12_isLetter rfl rfl ⟨Nat.le_of_ble_eq_true rfl, Nat.le_of_ble_eq_true rfl⟩ hK hX hS hA hP hD [] rfl rfl rfl rfl (Nat.le_of_ble_eq_true rfl) dX12_go_97 ⟨Nat.zero_le _, Nat.zero_le _⟩) hP hD hS hA [] [0, 1] [0, 1] rfl rfl rfl (by decide) rfl rfl (fun H locs hP hD hS => ?_)
      refine z_if_eq (tgt := 154) hx hb dX12_go_100 (by decide) hf (fun hf => ?_) (fun hf => ?_)
      · refine lv_iload_n hx hb dX12_go_154 rfl (lv_at hl 0 rfl) ?_
        refine lv_bipush (v := 48) hx hb dX12_go_155 (by decide) ?_
        refine z_icmp_lt (tgt := 255) hx hb dX12_go_157 (by decide) hf (fun hf => ?_) (fun hf => ?_)
        · exact L255 u2 F4 _ _ _ hf hP hD hS (lv_sub hl [1, 0] rfl)
        · refine lv_iload_n hx hb dX12_go_160 rfl (lv_at hl 0 rfl) ?_
          refine lv_bipush (v := 57) hx hb dX12_go_161 (by decide) ?_
          refine z_icmp_gt (tgt := 255) hx hb dX12_go_163 (by decide) hf (fun hf => ?_) (fun hf => ?_)
          · exact L255 u2 F4 _ _ _ hf hP hD hS (lv_sub hl [1, 0] rfl)
          · exact L166 fuelN F4 _ _ _ hf hP hD hS (lv_sub hl [1] rfl)
      · exact L103 fuelN F4 _ _ _ hf hP hD hS (lv_sub hl [1] rfl)
    · refine lv_aload_n hx hb dX12_go_88 rfl (lv_at hl 1 rfl) ?_
      refine lv_iconst (v := 0) hx hb dX12_go_89 (by decide) ?_
      refine z_put (ci := 12) (C := RX12) (T := TX12) (N := 51) hx hb hts inT_X12 tyX12 tyX12_ok nmX12 hown hK hP hD hS 0 rfl rfl 35 (by decide) tf_X12_258 rfl (by decide +kernel) (Nat.le_of_ble_eq_true rfl) (o_X12 r_t) (o_X12_s35 _ _ _) (fun z => w_X12_go h_t r_t z cI a_tape) (fun _ => rfl) dX12_go_90 hf (fun F21 H locs hf hP hD hS => ?_)
      refine lv_goto (tgt := 291) hx hb dX12_go_93 (by decide) ?_
      exact hret F21 _ _ _ _ hf hP hD hS dX12_go_291
  have L0 : ∀ (n0 : Nat) (F_t : Nat → Int32) (H : Heap) (locs : List Loc) (ls : Array Slot), m_X12_go_w0 a_tape (m_X12_go_j50 a_tape) n0 F_t = some Rr → va_P D vwCl (w_X12_go h_t r_t F_t cI a_tape) H → va_D A (w_X12_go h_t r_t F_t cI a_tape) → va_S A s.heap H locs → lv_has ls 2 [(0, .ref h_t)] → W p l e rm_X12_go s m args below meth c H locs 0 0 Q (F0 m 0 ls []) := by
    intro n0
    induction n0 with
    | zero => intro F_t H locs ls hf; cases (show (none : Option _) = some Rr from hf)
    | succ n0 ih0 =>
      intro F_t H locs ls hf hP hD hS hl
      have hf := (m_X12_go_w0.eq_2 _ _ _ _).symm.trans hf
      have L37 : ∀ (F_t : Nat → Int32) (H : Heap) (locs : List Loc) (ls : Array Slot), m_X12_go_j37 a_tape (m_X12_go_w0 a_tape (m_X12_go_j50 a_tape) n0) F_t = some Rr → va_P D vwCl (w_X12_go h_t r_t F_t cI a_tape) H → va_D A (w_X12_go h_t r_t F_t cI a_tape) → va_S A s.heap H locs → lv_has ls 2 [(0, .ref h_t)] → W p l e rm_X12_go s m args below meth c H locs 0 0 Q (F0 m 37 ls []) := by
        intro F_t H locs ls hf hP hD hS hl
        have hf := (m_X12_go_j37.eq_1 _ _ _).symm.trans hf
        refine lv_aload_n hx hb dX12_go_37 rfl (lv_at hl 0 rfl) ?_
        refine lv_dup hx hb dX12_go_38 rfl ?_
        refine z_get (ci := 12) (C := RX12) (T := TX12) (N := 51) (v := .int (F_t 32)) hx hb hts inT_X12 hown hK hP 0 rfl rfl 32 (by decide) tf_X12_246 rfl dX12_go_39 ?_
        refine lv_iconst (v := 1) hx hb dX12_go_42 (by decide) ?_
        refine lv_iadd hx hb dX12_go_43 ?_
        refine z_put (ci := 12) (C := RX12) (T := TX12) (N := 51) hx hb hts inT_X12 tyX12 tyX12_ok nmX12 hown hK hP hD hS 0 rfl rfl 32 (by decide) tf_X12_246 rfl (by decide +kernel) (Nat.le_of_ble_eq_true rfl) (o_X12 r_t) (o_X12_s32 _ _ _) (fun z => w_X12_go h_t r_t z cI a_tape) (fun _ => rfl) dX12_go_44 hf (fun F23 H locs hf hP hD hS => ?_)
        refine lv_goto (tgt := 0) hx hb dX12_go_47 (by decide) ?_
        exact ih0 F23 _ _ _ hf hP hD hS (lv_sub hl [0] rfl)
      refine lv_aload_n hx hb dX12_go_0 rfl (lv_at hl 0 rfl) ?_
      refine z_get (ci := 12) (C := RX12) (T := TX12) (N := 51) (v := .int (F_t 32)) hx hb hts inT_X12 hown hK hP 0 rfl rfl 32 (by decide) tf_X12_246 rfl dX12_go_1 ?_
      refine lv_aload_n hx hb dX12_go_4 rfl (lv_at hl 0 rfl) ?_
      refine z_get (ci := 12) (C := RX12) (T := TX12) (N := 51) (v := .int (F_t 34)) hx hb hts inT_X12 hown hK hP 0 rfl rfl 34 (by decide) tf_X12_236 rfl dX12_go_5 ?_
      refine z_icmp_ge (tgt := 50) hx hb dX12_go_8 (by decide) hf (fun hf => ?_) (fun hf => ?_)
      · exact L50 F_t _ _ _ hf hP hD hS (lv_sub hl [0] rfl)
      · refine lv_aload_n hx hb dX12_go_11 rfl (lv_at hl 0 rfl) ?_
        refine lv_aload_n hx hb dX12_go_12 rfl (lv_at hl 0 rfl) ?_
        refine z_get (ci := 12) (C := RX12) (T := TX12) (N := 51) (v := .int (F_t 32)) hx hb hts inT_X12 hown hK hP 0 rfl rfl 32 (by decide) tf_X12_246 rfl dX12_go_13 ?_
        obtain ⟨u22, hu22, hf⟩ := bd_some hf
        refine z_ci (ws1 := w_X12_go h_t r_t F_t cI a_tape) (wr := List.filterMap (fun i : Nat => (w_X12_go h_t r_t F_t cI a_tape)[i]?) []) (z_rV (rest := []) hx hb hml hown hcx hl.1 (c_X12_byteAt l D cI h_t r_t F_t a_tape (F_t 32) u22 hu22 _) tl_X12_243 ti_X12_byteAt tz_X12_byteAt tn_X12 tc_X12_byteAt tm_X12_byteAt rfl rfl ⟨Nat.le_of_ble_eq_true rfl, Nat.le_of_ble_eq_true rfl⟩ hK hX hS hA hP hD [0, 1] rfl rfl 0 rfl rfl rfl rfl (Nat.le_of_ble_eq_true rfl) dX12_go_16 ⟨Nat.zero_le _, Nat.zero_le _⟩) hP hD hS hA [0, 1] [] [0, 1] rfl rfl rfl (by decide) rfl rfl (fun H locs hP hD hS => ?_)
        refine lv_bipush (v := 32) hx hb dX12_go_19 (by decide) ?_
        refine z_icmp_eq (tgt := 37) hx hb dX12_go_21 (by decide) hf (fun hf => ?_) (fun hf => ?_)
        · exact L37 F_t _ _ _ hf hP hD hS (lv_sub hl [0] rfl)
        · refine lv_aload_n hx hb dX12_go_24 rfl (lv_at hl 0 rfl) ?_
          refine lv_aload_n hx hb dX12_go_25 rfl (lv_at hl 0 rfl) ?_
          refine z_get (ci := 12) (C := RX12) (T := TX12) (N := 51) (v := .int (F_t 32)) hx hb hts inT_X12 hown hK hP 0 rfl rfl 32 (by decide) tf_X12_246 rfl dX12_go_26 ?_
          obtain ⟨u24, hu24, hf⟩ := bd_some hf
          refine z_ci (ws1 := w_X12_go h_t r_t F_t cI a_tape) (wr := List.filterMap (fun i : Nat => (w_X12_go h_t r_t F_t cI a_tape)[i]?) []) (z_rV (rest := []) hx hb hml hown hcx hl.1 (c_X12_byteAt l D cI h_t r_t F_t a_tape (F_t 32) u24 hu24 _) tl_X12_243 ti_X12_byteAt tz_X12_byteAt tn_X12 tc_X12_byteAt tm_X12_byteAt rfl rfl ⟨Nat.le_of_ble_eq_true rfl, Nat.le_of_ble_eq_true rfl⟩ hK hX hS hA hP hD [0, 1] rfl rfl 0 rfl rfl rfl rfl (Nat.le_of_ble_eq_true rfl) dX12_go_29 ⟨Nat.zero_le _, Nat.zero_le _⟩) hP hD hS hA [0, 1] [] [0, 1] rfl rfl rfl (by decide) rfl rfl (fun H locs hP hD hS => ?_)
          refine lv_bipush (v := 10) hx hb dX12_go_32 (by decide) ?_
          refine z_icmp_ne (tgt := 50) hx hb dX12_go_34 (by decide) hf (fun hf => ?_) (fun hf => ?_)
          · exact L50 F_t _ _ _ hf hP hD hS (lv_sub hl [0] rfl)
          · exact L37 F_t _ _ _ hf hP hD hS (lv_sub hl [0] rfl)
  exact L0 fuelN F_t _ _ _ hf hP hD hS (lv_sub hl [0] rfl)
abbrev w_X12_wants (h_t : Nat) (r_t : Nat → Nat) (F_t : Nat → Int32) (cI : ClassId) : va_W := [(h_t, .inr (12, o_X12 r_t F_t))]
abbrev rm_X12_wants : Room := { frames := 0, cells := 0, slots := 0, locals := 0 }
def m_X12_wants_j24 (p1 : Int32) (p2 : Int32) (F_t : Nat → Int32) : Option (Int32 × (Nat → Int32)) :=
  if (F_t 38) = 0 then (
  some (1, F_t))
  else (
  some (0, F_t))
def m_X12_wants (F_t : Nat → Int32) (p1 : Int32) (p2 : Int32) : Option (Int32 × (Nat → Int32)) :=
  if (F_t 38) = 0 then (
  if p1 = 0 then (
  nm (upd F_t 38 p2) fun F1 =>
  nm (upd F1 15 (F1 33)) fun F2 =>
  m_X12_wants_j24 p1 p2 F2)
  else (
  m_X12_wants_j24 p1 p2 F_t))
  else (
  m_X12_wants_j24 p1 p2 F_t)
set_option maxHeartbeats 4000000 in
set_option maxRecDepth 100000 in
theorem c_X12_wants (l : Launch) (D : va_G) (cI : ClassId) (h_t : Nat) (r_t : Nat → Nat) (F_t : Nat → Int32) (p1 : Int32) (p2 : Int32) (Rr : Int32 × (Nat → Int32)) (hf : m_X12_wants F_t p1 p2 = some Rr) : CTi l yX12_wants (Cond.code yX12_wants cX12_wants 3 (some .boolean)) rm_X12_wants D cI [.ref h_t, .int p1, .int p2] (w_X12_wants h_t r_t F_t cI) Rr.1 (w_X12_wants h_t r_t Rr.2 cI) := by
  refine z_begin_z (own := RX12) (ρ := Int32 × (Nat → Int32)) (fun u => w_X12_wants h_t r_t u.2 cI) (fun u => u.1) (by decide +kernel) rfl (Nat.le_of_ble_eq_true rfl) ?_
  intro p e s m args below meth c ls Q A hx hb hml hts hcx hown hK hX hA hP hD hS hl hret
  have hl : lv_has ls 3 [(0, .ref h_t), (1, .int p1), (2, .int p2)] := hl
  have hf := (m_X12_wants.eq_1 _ _ _).symm.trans hf
  have L24 : ∀ (F_t : Nat → Int32) (H : Heap) (locs : List Loc) (ls : Array Slot), m_X12_wants_j24 p1 p2 F_t = some Rr → va_P D vwCl (w_X12_wants h_t r_t F_t cI) H → va_D A (w_X12_wants h_t r_t F_t cI) → va_S A s.heap H locs → lv_has ls 3 [(0, .ref h_t)] → W p l e rm_X12_wants s m args below meth c H locs 0 0 Q (F0 m 24 ls []) := by
    intro F_t H locs ls hf hP hD hS hl
    have hf := (m_X12_wants_j24.eq_1 _ _ _).symm.trans hf
    refine lv_aload_n hx hb dX12_wants_24 rfl (lv_at hl 0 rfl) ?_
    refine z_get (ci := 12) (C := RX12) (T := TX12) (N := 51) (v := .int (F_t 38)) hx hb hts inT_X12 hown hK hP 0 rfl rfl 38 (by decide) tf_X12_267 rfl dX12_wants_25 ?_
    refine z_if_ne (tgt := 35) hx hb dX12_wants_28 (by decide) hf (fun hf => ?_) (fun hf => ?_)
    · refine lv_iconst (v := 0) hx hb dX12_wants_35 (by decide) ?_
      exact hret (0, F_t) _ _ _ _ (Or.inl rfl) hf hP hD hS dX12_wants_36
    · refine lv_iconst (v := 1) hx hb dX12_wants_31 (by decide) ?_
      refine lv_goto (tgt := 36) hx hb dX12_wants_32 (by decide) ?_
      exact hret (1, F_t) _ _ _ _ (Or.inr rfl) hf hP hD hS dX12_wants_36
  refine lv_aload_n hx hb dX12_wants_0 rfl (lv_at hl 0 rfl) ?_
  refine z_get (ci := 12) (C := RX12) (T := TX12) (N := 51) (v := .int (F_t 38)) hx hb hts inT_X12 hown hK hP 0 rfl rfl 38 (by decide) tf_X12_267 rfl dX12_wants_1 ?_
  refine z_if_ne (tgt := 24) hx hb dX12_wants_4 (by decide) hf (fun hf => ?_) (fun hf => ?_)
  · exact L24 F_t _ _ _ hf hP hD hS (lv_sub hl [0] rfl)
  · refine lv_iload_n hx hb dX12_wants_7 rfl (lv_at hl 1 rfl) ?_
    refine z_if_ne (tgt := 24) hx hb dX12_wants_8 (by decide) hf (fun hf => ?_) (fun hf => ?_)
    · exact L24 F_t _ _ _ hf hP hD hS (lv_sub hl [0] rfl)
    · refine lv_aload_n hx hb dX12_wants_11 rfl (lv_at hl 0 rfl) ?_
      refine lv_iload_n hx hb dX12_wants_12 rfl (lv_at hl 2 rfl) ?_
      refine z_put (ci := 12) (C := RX12) (T := TX12) (N := 51) hx hb hts inT_X12 tyX12 tyX12_ok nmX12 hown hK hP hD hS 0 rfl rfl 38 (by decide) tf_X12_267 rfl (by decide +kernel) (Nat.le_of_ble_eq_true rfl) (o_X12 r_t) (o_X12_s38 _ _ _) (fun z => w_X12_wants h_t r_t z cI) (fun _ => rfl) dX12_wants_13 hf (fun F1 H locs hf hP hD hS => ?_)
      refine lv_aload_n hx hb dX12_wants_16 rfl (lv_at hl 0 rfl) ?_
      refine lv_aload_n hx hb dX12_wants_17 rfl (lv_at hl 0 rfl) ?_
      refine z_get (ci := 12) (C := RX12) (T := TX12) (N := 51) (v := .int (F1 33)) hx hb hts inT_X12 hown hK hP 0 rfl rfl 33 (by decide) tf_X12_249 rfl dX12_wants_18 ?_
      refine z_put (ci := 12) (C := RX12) (T := TX12) (N := 51) hx hb hts inT_X12 tyX12 tyX12_ok nmX12 hown hK hP hD hS 0 rfl rfl 15 (by decide) tf_X12_26 rfl (by decide +kernel) (Nat.le_of_ble_eq_true rfl) (o_X12 r_t) (o_X12_s15 _ _ _) (fun z => w_X12_wants h_t r_t z cI) (fun _ => rfl) dX12_wants_21 hf (fun F2 H locs hf hP hD hS => ?_)
      exact L24 F2 _ _ _ hf hP hD hS (lv_sub hl [0] rfl)
abbrev w_X12_numberHere (h_t : Nat) (r_t : Nat → Nat) (F_t : Nat → Int32) (cI : ClassId) (a_tape : Nat → Int32) : va_W := [(h_t, .inr (12, o_X12 r_t F_t)), ((r_t 13), .inl (cI, 700, .inl a_tape))]
abbrev rm_X12_numberHere : Room := { frames := 3, cells := 0, slots := 0, locals := 68 }
def m_X12_numberHere_j14 (a_tape : Nat → Int32) (p1 : Int32) (p2 : Int32) (s1 : Int32) (F_t : Nat → Int32) : Option (Int32 × (Nat → Int32)) :=
  bd (m_X12_wants F_t s1 1) fun u1 =>
  if u1.1 = 0 then (
  some (p1, u1.2))
  else (
  bd (m_X12_within (u1.2 36) p1 p2) fun u2 =>
  bd (m_X12_wants u1.2 u2 2) fun u3 =>
  if u3.1 = 0 then (
  some (p1, u3.2))
  else (
  nm (u3.2 36) fun v4 =>
  bd (m_X12_go u3.2 a_tape) fun u5 =>
  some (v4, u5)))
def m_X12_numberHere (F_t : Nat → Int32) (a_tape : Nat → Int32) (p1 : Int32) (p2 : Int32) : Option (Int32 × (Nat → Int32)) :=
  if (F_t 35) = 2 then (
  m_X12_numberHere_j14 a_tape p1 p2 1 F_t)
  else (
  m_X12_numberHere_j14 a_tape p1 p2 0 F_t)
set_option maxHeartbeats 4000000 in
set_option maxRecDepth 100000 in
theorem c_X12_numberHere (l : Launch) (D : va_G) (cI : ClassId) (h_t : Nat) (r_t : Nat → Nat) (F_t : Nat → Int32) (a_tape : Nat → Int32) (p1 : Int32) (p2 : Int32) (Rr : Int32 × (Nat → Int32)) (hf : m_X12_numberHere F_t a_tape p1 p2 = some Rr) : CTi l yX12_numberHere (Cond.code yX12_numberHere cX12_numberHere 4 (some .int)) rm_X12_numberHere D cI [.ref h_t, .int p1, .int p2] (w_X12_numberHere h_t r_t F_t cI a_tape) Rr.1 (w_X12_numberHere h_t r_t Rr.2 cI a_tape) := by
  refine z_begin_i (own := RX12) (ρ := Int32 × (Nat → Int32)) (fun u => w_X12_numberHere h_t r_t u.2 cI a_tape) (fun u => u.1) (by decide +kernel) rfl (Nat.le_of_ble_eq_true rfl) ?_
  intro p e s m args below meth c ls Q A hx hb hml hts hcx hown hK hX hA hP hD hS hl hret
  have hl : lv_has ls 4 [(0, .ref h_t), (1, .int p1), (2, .int p2)] := hl
  have hf := (m_X12_numberHere.eq_1 _ _ _ _).symm.trans hf
  have L14 : ∀ (s1 : Int32) (F_t : Nat → Int32) (H : Heap) (locs : List Loc) (ls : Array Slot), m_X12_numberHere_j14 a_tape p1 p2 s1 F_t = some Rr → va_P D vwCl (w_X12_numberHere h_t r_t F_t cI a_tape) H → va_D A (w_X12_numberHere h_t r_t F_t cI a_tape) → va_S A s.heap H locs → lv_has ls 4 [(0, .ref h_t), (1, .int p1), (2, .int p2)] → W p l e rm_X12_numberHere s m args below meth c H locs 0 0 Q (F0 m 14 ls [.int s1, .ref h_t]) := by
    intro s1 F_t H locs ls hf hP hD hS hl
    have hf := (m_X12_numberHere_j14.eq_1 _ _ _ _ _).symm.trans hf
    refine lv_iconst (v := 1) hx hb dX12_numberHere_14 (by decide) ?_
    obtain ⟨u1, hu1, hf⟩ := bd_some hf
    refine z_ci (ws1 := w_X12_numberHere h_t r_t u1.2 cI a_tape) (wr := List.filterMap (fun i : Nat => (w_X12_numberHere h_t r_t F_t cI a_tape)[i]?) [1]) (z_rV (rest := []) hx hb hml hown hcx hl.1 (c_X12_wants l D cI h_t r_t F_t s1 1 u1 hu1 _) tl_X12_270 ti_X12_wants tz_X12_wants tn_X12 tc_X12_wants tm_X12_wants rfl rfl ⟨Nat.le_of_ble_eq_true rfl, Nat.le_of_ble_eq_true rfl⟩ hK hX hS hA hP hD [0] rfl rfl 0 rfl rfl rfl rfl (Nat.le_of_ble_eq_true rfl) dX12_numberHere_15 ⟨Nat.zero_le _, Nat.zero_le _⟩) hP hD hS hA [0] [1] [1, 0] rfl rfl rfl (by decide) rfl rfl (fun H locs hP hD hS => ?_)
    refine z_if_eq (tgt := 38) hx hb dX12_numberHere_18 (by decide) hf (fun hf => ?_) (fun hf => ?_)
    · refine lv_iload_n hx hb dX12_numberHere_38 rfl (lv_at hl 1 rfl) ?_
      exact hret (p1, u1.2) _ _ _ _ hf hP hD hS dX12_numberHere_39
    · refine lv_aload_n hx hb dX12_numberHere_21 rfl (lv_at hl 0 rfl) ?_
      refine lv_aload_n hx hb dX12_numberHere_22 rfl (lv_at hl 0 rfl) ?_
      refine z_get (ci := 12) (C := RX12) (T := TX12) (N := 51) (v := .int (u1.2 36)) hx hb hts inT_X12 hown hK hP 0 rfl rfl 36 (by decide) tf_X12_255 rfl dX12_numberHere_23 ?_
      refine lv_iload_n hx hb dX12_numberHere_26 rfl (lv_at hl 1 rfl) ?_
      refine lv_iload_n hx hb dX12_numberHere_27 rfl (lv_at hl 2 rfl) ?_
      obtain ⟨u2, hu2, hf⟩ := bd_some hf
      refine z_ci (ws1 := w_X12_numberHere h_t r_t u1.2 cI a_tape) (wr := List.filterMap (fun i : Nat => (w_X12_numberHere h_t r_t u1.2 cI a_tape)[i]?) [0, 1]) (z_rS (rest := [.ref h_t]) hx hb hml hown hcx hl.1 (c_X12_within l D cI (u1.2 36) p1 p2 u2 hu2 _) tl_X12_172 ts_X12_within tn_X12 tc_X12_within tm_X12_within rfl rfl ⟨Nat.le_of_ble_eq_true rfl, Nat.le_of_ble_eq_true rfl⟩ hK hX hS hA hP hD [] rfl rfl rfl rfl (Nat.le_of_ble_eq_true rfl) dX12_numberHere_28 ⟨Nat.zero_le _, Nat.zero_le _⟩) hP hD hS hA [] [0, 1] [0, 1] rfl rfl rfl (by decide) rfl rfl (fun H locs hP hD hS => ?_)
      refine lv_iconst (v := 2) hx hb dX12_numberHere_31 (by decide) ?_
      obtain ⟨u3, hu3, hf⟩ := bd_some hf
      refine z_ci (ws1 := w_X12_numberHere h_t r_t u3.2 cI a_tape) (wr := List.filterMap (fun i : Nat => (w_X12_numberHere h_t r_t u1.2 cI a_tape)[i]?) [1]) (z_rV (rest := []) hx hb hml hown hcx hl.1 (c_X12_wants l D cI h_t r_t u1.2 u2 2 u3 hu3 _) tl_X12_270 ti_X12_wants tz_X12_wants tn_X12 tc_X12_wants tm_X12_wants rfl rfl ⟨Nat.le_of_ble_eq_true rfl, Nat.le_of_ble_eq_true rfl⟩ hK hX hS hA hP hD [0] rfl rfl 0 rfl rfl rfl rfl (Nat.le_of_ble_eq_true rfl) dX12_numberHere_32 ⟨Nat.zero_le _, Nat.zero_le _⟩) hP hD hS hA [0] [1] [1, 0] rfl rfl rfl (by decide) rfl rfl (fun H locs hP hD hS => ?_)
      refine z_if_ne (tgt := 40) hx hb dX12_numberHere_35 (by decide) hf (fun hf => ?_) (fun hf => ?_)
      · refine lv_aload_n hx hb dX12_numberHere_40 rfl (lv_at hl 0 rfl) ?_
        refine z_get (ci := 12) (C := RX12) (T := TX12) (N := 51) (v := .int (u3.2 36)) hx hb hts inT_X12 hown hK hP 0 rfl rfl 36 (by decide) tf_X12_255 rfl dX12_numberHere_41 ?_
        refine z_istore_n (fun z => [(3, .int z), (0, .ref h_t), (1, .int p1), (2, .int p2)]) hx hb dX12_numberHere_44 rfl hl (by decide) (fun _ => rfl) hf (fun v4 ls hf hl => ?_)
        refine lv_aload_n hx hb dX12_numberHere_45 rfl (lv_at hl 1 rfl) ?_
        obtain ⟨u5, hu5, hf⟩ := bd_some hf
        refine z_cv (ws1 := w_X12_numberHere h_t r_t u5 cI a_tape) (wr := List.filterMap (fun i : Nat => (w_X12_numberHere h_t r_t u3.2 cI a_tape)[i]?) []) (z_rV (rest := []) hx hb hml hown hcx hl.1 (c_X12_go l D cI h_t r_t u3.2 a_tape u5 hu5 _) tl_X12_274 ti_X12_go tz_X12_go tn_X12 tc_X12_go tm_X12_go rfl rfl ⟨Nat.le_of_ble_eq_true rfl, Nat.le_of_ble_eq_true rfl⟩ hK hX hS hA hP hD [0, 1] rfl rfl 0 rfl rfl rfl rfl (Nat.le_of_ble_eq_true rfl) dX12_numberHere_46 ⟨Nat.zero_le _, Nat.zero_le _⟩) hP hD hS hA [0, 1] [] [0, 1] rfl rfl rfl (by decide) rfl rfl (fun H locs hP hD hS => ?_)
        refine lv_iload_n hx hb dX12_numberHere_49 rfl (lv_at hl 0 rfl) ?_
        exact hret (v4, u5) _ _ _ _ hf hP hD hS dX12_numberHere_50
      · refine lv_iload_n hx hb dX12_numberHere_38 rfl (lv_at hl 1 rfl) ?_
        exact hret (p1, u3.2) _ _ _ _ hf hP hD hS dX12_numberHere_39
  refine lv_aload_n hx hb dX12_numberHere_0 rfl (lv_at hl 0 rfl) ?_
  refine lv_aload_n hx hb dX12_numberHere_1 rfl (lv_at hl 0 rfl) ?_
  refine z_get (ci := 12) (C := RX12) (T := TX12) (N := 51) (v := .int (F_t 35)) hx hb hts inT_X12 hown hK hP 0 rfl rfl 35 (by decide) tf_X12_258 rfl dX12_numberHere_2 ?_
  refine lv_iconst (v := 2) hx hb dX12_numberHere_5 (by decide) ?_
  refine z_icmp_ne (tgt := 13) hx hb dX12_numberHere_6 (by decide) hf (fun hf => ?_) (fun hf => ?_)
  · refine lv_iconst (v := 0) hx hb dX12_numberHere_13 (by decide) ?_
    exact L14 0 F_t _ _ _ hf hP hD hS (lv_sub hl [0, 1, 2] rfl)
  · refine lv_iconst (v := 1) hx hb dX12_numberHere_9 (by decide) ?_
    refine lv_goto (tgt := 14) hx hb dX12_numberHere_10 (by decide) ?_
    exact L14 1 F_t _ _ _ hf hP hD hS (lv_sub hl [0, 1, 2] rfl)
abbrev w_X12_isSign (h_t : Nat) (r_t : Nat → Nat) (F_t : Nat → Int32) (cI : ClassId) : va_W := [(h_t, .inr (12, o_X12 r_t F_t))]
abbrev rm_X12_isSign : Room := { frames := 0, cells := 0, slots := 0, locals := 0 }
def m_X12_isSign (F_t : Nat → Int32) (p1 : Int32) : Option (Int32) :=
  if (F_t 35) = 3 then (
  if (F_t 36) = p1 then (
  some 1)
  else (
  some 0))
  else (
  some 0)
set_option maxHeartbeats 4000000 in
set_option maxRecDepth 100000 in
theorem c_X12_isSign (l : Launch) (D : va_G) (cI : ClassId) (h_t : Nat) (r_t : Nat → Nat) (F_t : Nat → Int32) (p1 : Int32) (Rr : Int32) (hf : m_X12_isSign F_t p1 = some Rr) : CTi l yX12_isSign (Cond.code yX12_isSign cX12_isSign 2 (some .boolean)) rm_X12_isSign D cI [.ref h_t, .int p1] (w_X12_isSign h_t r_t F_t cI) Rr (w_X12_isSign h_t r_t F_t cI) := by
  refine z_begin_z (own := RX12) (ρ := Int32) (fun u => w_X12_isSign h_t r_t F_t cI) (fun u => u) (by decide +kernel) rfl (Nat.le_of_ble_eq_true rfl) ?_
  intro p e s m args below meth c ls Q A hx hb hml hts hcx hown hK hX hA hP hD hS hl hret
  have hl : lv_has ls 2 [(0, .ref h_t), (1, .int p1)] := hl
  have hf := (m_X12_isSign.eq_1 _ _).symm.trans hf
  refine lv_aload_n hx hb dX12_isSign_0 rfl (lv_at hl 0 rfl) ?_
  refine z_get (ci := 12) (C := RX12) (T := TX12) (N := 51) (v := .int (F_t 35)) hx hb hts inT_X12 hown hK hP 0 rfl rfl 35 (by decide) tf_X12_258 rfl dX12_isSign_1 ?_
  refine lv_iconst (v := 3) hx hb dX12_isSign_4 (by decide) ?_
  refine z_icmp_ne (tgt := 20) hx hb dX12_isSign_5 (by decide) hf (fun hf => ?_) (fun hf => ?_)
  · refine lv_iconst (v := 0) hx hb dX12_isSign_20 (by decide) ?_
    exact hret 0 _ _ _ _ (Or.inl rfl) hf hP hD hS dX12_isSign_21
  · refine lv_aload_n hx hb dX12_isSign_8 rfl (lv_at hl 0 rfl) ?_
    refine z_get (ci := 12) (C := RX12) (T := TX12) (N := 51) (v := .int (F_t 36)) hx hb hts inT_X12 hown hK hP 0 rfl rfl 36 (by decide) tf_X12_255 rfl dX12_isSign_9 ?_
    refine lv_iload_n hx hb dX12_isSign_12 rfl (lv_at hl 1 rfl) ?_
    refine z_icmp_ne (tgt := 20) hx hb dX12_isSign_13 (by decide) hf (fun hf => ?_) (fun hf => ?_)
    · refine lv_iconst (v := 0) hx hb dX12_isSign_20 (by decide) ?_
      exact hret 0 _ _ _ _ (Or.inl rfl) hf hP hD hS dX12_isSign_21
    · refine lv_iconst (v := 1) hx hb dX12_isSign_16 (by decide) ?_
      refine lv_goto (tgt := 21) hx hb dX12_isSign_17 (by decide) ?_
      exact hret 1 _ _ _ _ (Or.inr rfl) hf hP hD hS dX12_isSign_21
abbrev w_X12_usedHere (h_t : Nat) (r_t : Nat → Nat) (F_t : Nat → Int32) (cI : ClassId) (a_tape : Nat → Int32) (a_memory1 : Nat → Int32) : va_W := [(h_t, .inr (12, o_X12 r_t F_t)), ((r_t 13), .inl (cI, 700, .inl a_tape)), ((r_t 39), .inl (cI, 64, .inl a_memory1))]
abbrev rm_X12_usedHere : Room := { frames := 3, cells := 0, slots := 0, locals := 68 }
def m_X12_usedHere_j59 (a_tape : Nat → Int32) (s1 : Int32) (F_t : Nat → Int32) (a_memory1 : Nat → Int32) : Option (Int32 × (Nat → Int32) × (Nat → Int32)) :=
  bd (m_X12_wants F_t s1 3) fun u5 =>
  if u5.1 = 0 then (
  some (0, u5.2, a_memory1))
  else (
  nm (u5.2 36) fun v6 =>
  bd (m_X12_block v6) fun u7 =>
  wr a_memory1 64 u7 1 fun a8 =>
  bd (m_X12_go u5.2 a_tape) fun u9 =>
  some (v6, u9, a8))
def m_X12_usedHere_j14 (a_tape : Nat → Int32) (s1 : Int32) (F_t : Nat → Int32) (a_memory1 : Nat → Int32) : Option (Int32 × (Nat → Int32) × (Nat → Int32)) :=
  bd (m_X12_wants F_t s1 1) fun u1 =>
  if u1.1 = 0 then (
  some (0, u1.2, a_memory1))
  else (
  bd (m_X12_within (u1.2 36) 0 9) fun u2 =>
  bd (m_X12_wants u1.2 u2 2) fun u3 =>
  if u3.1 = 0 then (
  some (0, u3.2, a_memory1))
  else (
  bd (m_X12_isUsed a_memory1 64 (u3.2 36)) fun u4 =>
  if u4 = 0 then (
  m_X12_usedHere_j59 a_tape 1 u3.2 a_memory1)
  else (
  m_X12_usedHere_j59 a_tape 0 u3.2 a_memory1)))
def m_X12_usedHere (F_t : Nat → Int32) (a_tape : Nat → Int32) (a_memory1 : Nat → Int32) : Option (Int32 × (Nat → Int32) × (Nat → Int32)) :=
  if (F_t 35) = 2 then (
  m_X12_usedHere_j14 a_tape 1 F_t a_memory1)
  else (
  m_X12_usedHere_j14 a_tape 0 F_t a_memory1)
set_option maxHeartbeats 4000000 in
set_option maxRecDepth 100000 in
theorem c_X12_usedHere (l : Launch) (D : va_G) (cI : ClassId) (h_t : Nat) (r_t : Nat → Nat) (F_t : Nat → Int32) (a_tape : Nat → Int32) (a_memory1 : Nat → Int32) (Rr : Int32 × (Nat → Int32) × (Nat → Int32)) (hf : m_X12_usedHere F_t a_tape a_memory1 = some Rr) : CTi l yX12_usedHere (Cond.code yX12_usedHere cX12_usedHere 2 (some .int)) rm_X12_usedHere D cI [.ref h_t] (w_X12_usedHere h_t r_t F_t cI a_tape a_memory1) Rr.1 (w_X12_usedHere h_t r_t Rr.2.1 cI a_tape Rr.2.2) := by
  refine z_begin_i (own := RX12) (ρ := Int32 × (Nat → Int32) × (Nat → Int32)) (fun u => w_X12_usedHere h_t r_t u.2.1 cI a_tape u.2.2) (fun u => u.1) (by decide +kernel) rfl (Nat.le_of_ble_eq_true rfl) ?_
  intro p e s m args below meth c ls Q A hx hb hml hts hcx hown hK hX hA hP hD hS hl hret
  have hl : lv_has ls 2 [(0, .ref h_t)] := hl
  have hf := (m_X12_usedHere.eq_1 _ _ _).symm.trans hf
  have L59 : ∀ (s1 : Int32) (F_t : Nat → Int32) (a_memory1 : Nat → Int32) (H : Heap) (locs : List Loc) (ls : Array Slot), m_X12_usedHere_j59 a_tape s1 F_t a_memory1 = some Rr → va_P D vwCl (w_X12_usedHere h_t r_t F_t cI a_tape a_memory1) H → va_D A (w_X12_usedHere h_t r_t F_t cI a_tape a_memory1) → va_S A s.heap H locs → lv_has ls 2 [(0, .ref h_t)] → W p l e rm_X12_usedHere s m args below meth c H locs 0 0 Q (F0 m 59 ls [.int s1, .ref h_t]) := by
    intro s1 F_t a_memory1 H locs ls hf hP hD hS hl
    have hf := (m_X12_usedHere_j59.eq_1 _ _ _ _).symm.trans hf
    refine lv_iconst (v := 3) hx hb dX12_usedHere_59 (by decide) ?_
    obtain ⟨u5, hu5, hf⟩ := bd_some hf
    refine z_ci (ws1 := w_X12_usedHere h_t r_t u5.2 cI a_tape a_memory1) (wr := List.filterMap (fun i : Nat => (w_X12_usedHere h_t r_t F_t cI a_tape a_memory1)[i]?) [1, 2]) (z_rV (rest := []) hx hb hml hown hcx hl.1 (c_X12_wants l D cI h_t r_t F_t s1 3 u5 hu5 _) tl_X12_270 ti_X12_wants tz_X12_wants tn_X12 tc_X12_wants tm_X12_wants rfl rfl ⟨Nat.le_of_ble_eq_true rfl, Nat.le_of_ble_eq_true rfl⟩ hK hX hS hA hP hD [0] rfl rfl 0 rfl rfl rfl rfl (Nat.le_of_ble_eq_true rfl) dX12_usedHere_60 ⟨Nat.zero_le _, Nat.zero_le _⟩) hP hD hS hA [0] [1, 2] [2, 0, 1] rfl rfl rfl (by decide) rfl rfl (fun H locs hP hD hS => ?_)
    refine z_if_ne (tgt := 68) hx hb dX12_usedHere_63 (by decide) hf (fun hf => ?_) (fun hf => ?_)
    · refine lv_aload_n hx hb dX12_usedHere_68 rfl (lv_at hl 0 rfl) ?_
      refine z_get (ci := 12) (C := RX12) (T := TX12) (N := 51) (v := .int (u5.2 36)) hx hb hts inT_X12 hown hK hP 0 rfl rfl 36 (by decide) tf_X12_255 rfl dX12_usedHere_69 ?_
      refine z_istore_n (fun z => [(1, .int z), (0, .ref h_t)]) hx hb dX12_usedHere_72 rfl hl (by decide) (fun _ => rfl) hf (fun v6 ls hf hl => ?_)
      refine lv_aload_n hx hb dX12_usedHere_73 rfl (lv_at hl 1 rfl) ?_
      refine z_get (ci := 12) (C := RX12) (T := TX12) (N := 51) (v := .ref (r_t 39)) hx hb hts inT_X12 hown hK hP 0 rfl rfl 39 (by decide) tf_X12_51 rfl dX12_usedHere_74 ?_
      refine lv_iload_n hx hb dX12_usedHere_77 rfl (lv_at hl 0 rfl) ?_
      obtain ⟨u7, hu7, hf⟩ := bd_some hf
      refine z_ci (ws1 := w_X12_usedHere h_t r_t u5.2 cI a_tape a_memory1) (wr := List.filterMap (fun i : Nat => (w_X12_usedHere h_t r_t u5.2 cI a_tape a_memory1)[i]?) [0, 1, 2]) (z_rS (rest := [.ref (r_t 39)]) hx hb hml hown hcx hl.1 (c_X12_block l D cI v6 u7 hu7 _) tl_X12_76 ts_X12_block tn_X12 tc_X12_block tm_X12_block rfl rfl ⟨Nat.le_of_ble_eq_true rfl, Nat.le_of_ble_eq_true rfl⟩ hK hX hS hA hP hD [] rfl rfl rfl rfl (Nat.le_of_ble_eq_true rfl) dX12_usedHere_78 ⟨Nat.zero_le _, Nat.zero_le _⟩) hP hD hS hA [] [0, 1, 2] [0, 1, 2] rfl rfl rfl (by decide) rfl rfl (fun H locs hP hD hS => ?_)
      refine lv_iconst (v := 1) hx hb dX12_usedHere_81 (by decide) ?_
      refine z_iast hx hb hK hP hD hS 2 rfl (fun z => w_X12_usedHere h_t r_t u5.2 cI a_tape z) (fun _ => rfl) dX12_usedHere_82 hf (fun a8 H locs hf hP hD hS => ?_)
      refine lv_aload_n hx hb dX12_usedHere_83 rfl (lv_at hl 1 rfl) ?_
      obtain ⟨u9, hu9, hf⟩ := bd_some hf
      refine z_cv (ws1 := w_X12_usedHere h_t r_t u9 cI a_tape a8) (wr := List.filterMap (fun i : Nat => (w_X12_usedHere h_t r_t u5.2 cI a_tape a8)[i]?) [2]) (z_rV (rest := []) hx hb hml hown hcx hl.1 (c_X12_go l D cI h_t r_t u5.2 a_tape u9 hu9 _) tl_X12_274 ti_X12_go tz_X12_go tn_X12 tc_X12_go tm_X12_go rfl rfl ⟨Nat.le_of_ble_eq_true rfl, Nat.le_of_ble_eq_true rfl⟩ hK hX hS hA hP hD [0, 1] rfl rfl 0 rfl rfl rfl rfl (Nat.le_of_ble_eq_true rfl) dX12_usedHere_84 ⟨Nat.zero_le _, Nat.zero_le _⟩) hP hD hS hA [0, 1] [2] [1, 2, 0] rfl rfl rfl (by decide) rfl rfl (fun H locs hP hD hS => ?_)
      refine lv_iload_n hx hb dX12_usedHere_87 rfl (lv_at hl 0 rfl) ?_
      exact hret (v6, u9, a8) _ _ _ _ hf hP hD hS dX12_usedHere_88
    · refine lv_iconst (v := 0) hx hb dX12_usedHere_66 (by decide) ?_
      exact hret (0, u5.2, a_memory1) _ _ _ _ hf hP hD hS dX12_usedHere_67
  have L14 : ∀ (s1 : Int32) (F_t : Nat → Int32) (a_memory1 : Nat → Int32) (H : Heap) (locs : List Loc) (ls : Array Slot), m_X12_usedHere_j14 a_tape s1 F_t a_memory1 = some Rr → va_P D vwCl (w_X12_usedHere h_t r_t F_t cI a_tape a_memory1) H → va_D A (w_X12_usedHere h_t r_t F_t cI a_tape a_memory1) → va_S A s.heap H locs → lv_has ls 2 [(0, .ref h_t)] → W p l e rm_X12_usedHere s m args below meth c H locs 0 0 Q (F0 m 14 ls [.int s1, .ref h_t]) := by
    intro s1 F_t a_memory1 H locs ls hf hP hD hS hl
    have hf := (m_X12_usedHere_j14.eq_1 _ _ _ _).symm.trans hf
    refine lv_iconst (v := 1) hx hb dX12_usedHere_14 (by decide) ?_
    obtain ⟨u1, hu1, hf⟩ := bd_some hf
    refine z_ci (ws1 := w_X12_usedHere h_t r_t u1.2 cI a_tape a_memory1) (wr := List.filterMap (fun i : Nat => (w_X12_usedHere h_t r_t F_t cI a_tape a_memory1)[i]?) [1, 2]) (z_rV (rest := []) hx hb hml hown hcx hl.1 (c_X12_wants l D cI h_t r_t F_t s1 1 u1 hu1 _) tl_X12_270 ti_X12_wants tz_X12_wants tn_X12 tc_X12_wants tm_X12_wants rfl rfl ⟨Nat.le_of_ble_eq_true rfl, Nat.le_of_ble_eq_true rfl⟩ hK hX hS hA hP hD [0] rfl rfl 0 rfl rfl rfl rfl (Nat.le_of_ble_eq_true rfl) dX12_usedHere_15 ⟨Nat.zero_le _, Nat.zero_le _⟩) hP hD hS hA [0] [1, 2] [2, 0, 1] rfl rfl rfl (by decide) rfl rfl (fun H locs hP hD hS => ?_)
    refine z_if_eq (tgt := 66) hx hb dX12_usedHere_18 (by decide) hf (fun hf => ?_) (fun hf => ?_)
    · refine lv_iconst (v := 0) hx hb dX12_usedHere_66 (by decide) ?_
      exact hret (0, u1.2, a_memory1) _ _ _ _ hf hP hD hS dX12_usedHere_67
    · refine lv_aload_n hx hb dX12_usedHere_21 rfl (lv_at hl 0 rfl) ?_
      refine lv_aload_n hx hb dX12_usedHere_22 rfl (lv_at hl 0 rfl) ?_
      refine z_get (ci := 12) (C := RX12) (T := TX12) (N := 51) (v := .int (u1.2 36)) hx hb hts inT_X12 hown hK hP 0 rfl rfl 36 (by decide) tf_X12_255 rfl dX12_usedHere_23 ?_
      refine lv_iconst (v := 0) hx hb dX12_usedHere_26 (by decide) ?_
      refine lv_bipush (v := 9) hx hb dX12_usedHere_27 (by decide) ?_
      obtain ⟨u2, hu2, hf⟩ := bd_some hf
      refine z_ci (ws1 := w_X12_usedHere h_t r_t u1.2 cI a_tape a_memory1) (wr := List.filterMap (fun i : Nat => (w_X12_usedHere h_t r_t u1.2 cI a_tape a_memory1)[i]?) [0, 1, 2]) (z_rS (rest := [.ref h_t]) hx hb hml hown hcx hl.1 (c_X12_within l D cI (u1.2 36) 0 9 u2 hu2 _) tl_X12_172 ts_X12_within tn_X12 tc_X12_within tm_X12_within rfl rfl ⟨Nat.le_of_ble_eq_true rfl, Nat.le_of_ble_eq_true rfl⟩ hK hX hS hA hP hD [] rfl rfl rfl rfl (Nat.le_of_ble_eq_true rfl) dX12_usedHere_29 ⟨Nat.zero_le _, Nat.zero_le _⟩) hP hD hS hA [] [0, 1, 2] [0, 1, 2] rfl rfl rfl (by decide) rfl rfl (fun H locs hP hD hS => ?_)
      refine lv_iconst (v := 2) hx hb dX12_usedHere_32 (by decide) ?_
      obtain ⟨u3, hu3, hf⟩ := bd_some hf
      refine z_ci (ws1 := w_X12_usedHere h_t r_t u3.2 cI a_tape a_memory1) (wr := List.filterMap (fun i : Nat => (w_X12_usedHere h_t r_t u1.2 cI a_tape a_memory1)[i]?) [1, 2]) (z_rV (rest := []) hx hb hml hown hcx hl.1 (c_X12_wants l D cI h_t r_t u1.2 u2 2 u3 hu3 _) tl_X12_270 ti_X12_wants tz_X12_wants tn_X12 tc_X12_wants tm_X12_wants rfl rfl ⟨Nat.le_of_ble_eq_true rfl, Nat.le_of_ble_eq_true rfl⟩ hK hX hS hA hP hD [0] rfl rfl 0 rfl rfl rfl rfl (Nat.le_of_ble_eq_true rfl) dX12_usedHere_33 ⟨Nat.zero_le _, Nat.zero_le _⟩) hP hD hS hA [0] [1, 2] [2, 0, 1] rfl rfl rfl (by decide) rfl rfl (fun H locs hP hD hS => ?_)
      refine z_if_eq (tgt := 66) hx hb dX12_usedHere_36 (by decide) hf (fun hf => ?_) (fun hf => ?_)
      · refine lv_iconst (v := 0) hx hb dX12_usedHere_66 (by decide) ?_
        exact hret (0, u3.2, a_memory1) _ _ _ _ hf hP hD hS dX12_usedHere_67
      · refine lv_aload_n hx hb dX12_usedHere_39 rfl (lv_at hl 0 rfl) ?_
        refine lv_aload_n hx hb dX12_usedHere_40 rfl (lv_at hl 0 rfl) ?_
        refine z_get (ci := 12) (C := RX12) (T := TX12) (N := 51) (v := .ref (r_t 39)) hx hb hts inT_X12 hown hK hP 0 rfl rfl 39 (by decide) tf_X12_51 rfl dX12_usedHere_41 ?_
        refine lv_aload_n hx hb dX12_usedHere_44 rfl (lv_at hl 0 rfl) ?_
        refine z_get (ci := 12) (C := RX12) (T := TX12) (N := 51) (v := .int (u3.2 36)) hx hb hts inT_X12 hown hK hP 0 rfl rfl 36 (by decide) tf_X12_255 rfl dX12_usedHere_45 ?_
        obtain ⟨u4, hu4, hf⟩ := bd_some hf
        refine z_ci (ws1 := w_X12_usedHere h_t r_t u3.2 cI a_tape a_memory1) (wr := List.filterMap (fun i : Nat => (w_X12_usedHere h_t r_t u3.2 cI a_tape a_memory1)[i]?) [0, 1]) (z_rS (rest := [.ref h_t]) hx hb hml hown hcx hl.1 (c_X12_isUsed l D cI (r_t 39) 64 a_memory1 (u3.2 36) u4 hu4 _) tl_X12_83 ts_X12_isUsed tn_X12 tc_X12_isUsed tm_X12_isUsed rfl rfl ⟨Nat.le_of_ble_eq_true rfl, Nat.le_of_ble_eq_true rfl⟩ hK hX hS hA hP hD [2] rfl rfl rfl rfl (Nat.le_of_ble_eq_true rfl) dX12_usedHere_48 ⟨Nat.zero_le _, Nat.zero_le _⟩) hP hD hS hA [2] [0, 1] [0, 1, 2] rfl rfl rfl (by decide) rfl rfl (fun H locs hP hD hS => ?_)
        refine z_if_ne (tgt := 58) hx hb dX12_usedHere_51 (by decide) hf (fun hf => ?_) (fun hf => ?_)
        · refine lv_iconst (v := 0) hx hb dX12_usedHere_58 (by decide) ?_
          exact L59 0 u3.2 a_memory1 _ _ _ hf hP hD hS (lv_sub hl [0] rfl)
        · refine lv_iconst (v := 1) hx hb dX12_usedHere_54 (by decide) ?_
          refine lv_goto (tgt := 59) hx hb dX12_usedHere_55 (by decide) ?_
          exact L59 1 u3.2 a_memory1 _ _ _ hf hP hD hS (lv_sub hl [0] rfl)
  refine lv_aload_n hx hb dX12_usedHere_0 rfl (lv_at hl 0 rfl) ?_
  refine lv_aload_n hx hb dX12_usedHere_1 rfl (lv_at hl 0 rfl) ?_
  refine z_get (ci := 12) (C := RX12) (T := TX12) (N := 51) (v := .int (F_t 35)) hx hb hts inT_X12 hown hK hP 0 rfl rfl 35 (by decide) tf_X12_258 rfl dX12_usedHere_2 ?_
  refine lv_iconst (v := 2) hx hb dX12_usedHere_5 (by decide) ?_
  refine z_icmp_ne (tgt := 13) hx hb dX12_usedHere_6 (by decide) hf (fun hf => ?_) (fun hf => ?_)
  · refine lv_iconst (v := 0) hx hb dX12_usedHere_13 (by decide) ?_
    exact L14 0 F_t a_memory1 _ _ _ hf hP hD hS (lv_sub hl [0] rfl)
  · refine lv_iconst (v := 1) hx hb dX12_usedHere_9 (by decide) ?_
    refine lv_goto (tgt := 14) hx hb dX12_usedHere_10 (by decide) ?_
    exact L14 1 F_t a_memory1 _ _ _ hf hP hD hS (lv_sub hl [0] rfl)
abbrev w_X12_chain1 (h_t : Nat) (r_t : Nat → Nat) (F_t : Nat → Int32) (cI : ClassId) (a_tape : Nat → Int32) (a_memory1 : Nat → Int32) : va_W := [(h_t, .inr (12, o_X12 r_t F_t)), ((r_t 13), .inl (cI, 700, .inl a_tape)), ((r_t 39), .inl (cI, 64, .inl a_memory1))]
abbrev rm_X12_chain1 : Room := { frames := 4, cells := 0, slots := 0, locals := 89 }
def m_X12_chain1_j153 (a_tape : Nat → Int32) (k99 : Int32 → Int32 → (Nat → Int32) → (Nat → Int32) → Option ((Nat → Int32) × (Nat → Int32))) (x1 : Int32) (s0 : Int32) (F_t : Nat → Int32) (a_memory1 : Nat → Int32) : Option ((Nat → Int32) × (Nat → Int32)) :=
  k99 x1 s0 F_t a_memory1
def m_X12_chain1_w99 (a_tape : Nat → Int32) : Nat → Int32 → Int32 → (Nat → Int32) → (Nat → Int32) → Option ((Nat → Int32) × (Nat → Int32))
  | 0, _, _, _, _ => none
  | n99 + 1, x1, x2, F_t, a_memory1 =>
    if x2 = 0 then (
    some (F_t, a_memory1))
    else (
    if (F_t 38) = 0 then (
    bd (m_X12_usedHere F_t a_tape a_memory1) fun u9 =>
    if (u9.2.1 38) = 0 then (
    bd (m_X12_block u9.1) fun u10 =>
    wr u9.2.2 64 x1 u10 fun a11 =>
    bd (m_X12_block u9.1) fun u12 =>
    nm (u12 + 1) fun v13 =>
    if (u9.2.1 35) = 2 then (
    m_X12_chain1_j153 a_tape (m_X12_chain1_w99 a_tape n99) v13 1 u9.2.1 a11)
    else (
    m_X12_chain1_j153 a_tape (m_X12_chain1_w99 a_tape n99) v13 0 u9.2.1 a11))
    else (
    some (u9.2.1, u9.2.2)))
    else (
    some (F_t, a_memory1)))
def m_X12_chain1_j62 (a_tape : Nat → Int32) (s1 : Int32) (F_t : Nat → Int32) (a_memory1 : Nat → Int32) : Option ((Nat → Int32) × (Nat → Int32)) :=
  bd (m_X12_wants F_t s1 4) fun u5 =>
  if u5.1 = 0 then (
  some (u5.2, a_memory1))
  else (
  nm (upd u5.2 45 ((u5.2 45) ||| ((1 : Int32) <<< ((u5.2 36) &&& 31)))) fun F6 =>
  nm (20 + (F6 36)) fun v7 =>
  bd (m_X12_go F6 a_tape) fun u8 =>
  m_X12_chain1_w99 a_tape fuelN v7 1 u8 a_memory1)
def m_X12_chain1_j18 (a_tape : Nat → Int32) (s1 : Int32) (F_t : Nat → Int32) (a_memory1 : Nat → Int32) : Option ((Nat → Int32) × (Nat → Int32)) :=
  bd (m_X12_wants F_t s1 1) fun u2 =>
  if u2.1 = 0 then (
  some (u2.2, a_memory1))
  else (
  bd (m_X12_within (u2.2 36) 0 3) fun u3 =>
  bd (m_X12_wants u2.2 u3 2) fun u4 =>
  if u4.1 = 0 then (
  some (u4.2, a_memory1))
  else (
  if (((u4.2 45) >>> ((u4.2 36) &&& 31)) &&& 1) = 0 then (
  m_X12_chain1_j62 a_tape 1 u4.2 a_memory1)
  else (
  m_X12_chain1_j62 a_tape 0 u4.2 a_memory1)))
def m_X12_chain1 (F_t : Nat → Int32) (a_tape : Nat → Int32) (a_memory1 : Nat → Int32) : Option ((Nat → Int32) × (Nat → Int32)) :=
  bd (m_X12_go F_t a_tape) fun u1 =>
  if (u1 35) = 2 then (
  m_X12_chain1_j18 a_tape 1 u1 a_memory1)
  else (
  m_X12_chain1_j18 a_tape 0 u1 a_memory1)
set_option maxHeartbeats 4000000 in
set_option maxRecDepth 100000 in
theorem c_X12_chain1 (l : Launch) (D : va_G) (cI : ClassId) (h_t : Nat) (r_t : Nat → Nat) (F_t : Nat → Int32) (a_tape : Nat → Int32) (a_memory1 : Nat → Int32) (Rr : (Nat → Int32) × (Nat → Int32)) (hf : m_X12_chain1 F_t a_tape a_memory1 = some Rr) : CTv l yX12_chain1 (Cond.code yX12_chain1 cX12_chain1 4 none) rm_X12_chain1 D cI [.ref h_t] (w_X12_chain1 h_t r_t F_t cI a_tape a_memory1) (w_X12_chain1 h_t r_t Rr.1 cI a_tape Rr.2) := by
  refine z_begin_v (own := RX12) (ρ := (Nat → Int32) × (Nat → Int32)) (fun u => w_X12_chain1 h_t r_t u.1 cI a_tape u.2) (by decide +kernel) rfl (Nat.le_of_ble_eq_true rfl) ?_
  intro p e s m args below meth c ls Q A hx hb hml hts hcx hown hK hX hA hP hD hS hl hret
  have hl : lv_has ls 4 [(0, .ref h_t)] := hl
  have hf := (m_X12_chain1.eq_1 _ _ _).symm.trans hf
  have L99 : ∀ (n99 : Nat) (x1 : Int32) (x2 : Int32) (F_t : Nat → Int32) (a_memory1 : Nat → Int32) (H : Heap) (locs : List Loc) (ls : Array Slot), m_X12_chain1_w99 a_tape n99 x1 x2 F_t a_memory1 = some Rr → va_P D vwCl (w_X12_chain1 h_t r_t F_t cI a_tape a_memory1) H → va_D A (w_X12_chain1 h_t r_t F_t cI a_tape a_memory1) → va_S A s.heap H locs → lv_has ls 4 [(0, .ref h_t), (1, .int x1), (2, .int x2)] → W p l e rm_X12_chain1 s m args below meth c H locs 0 0 Q (F0 m 99 ls []) := by
    intro n99
    induction n99 with
    | zero => intro x1 x2 F_t a_memory1 H locs ls hf; cases (show (none : Option _) = some Rr from hf)
    | succ n99 ih99 =>
      intro x1 x2 F_t a_memory1 H locs ls hf hP hD hS hl
      have hf := (m_X12_chain1_w99.eq_2 _ _ _ _ _ _).symm.trans hf
      have L153 : ∀ (x1 : Int32) (s0 : Int32) (F_t : Nat → Int32) (a_memory1 : Nat → Int32) (H : Heap) (locs : List Loc) (ls : Array Slot), m_X12_chain1_j153 a_tape (m_X12_chain1_w99 a_tape n99) x1 s0 F_t a_memory1 = some Rr → va_P D vwCl (w_X12_chain1 h_t r_t F_t cI a_tape a_memory1) H → va_D A (w_X12_chain1 h_t r_t F_t cI a_tape a_memory1) → va_S A s.heap H locs → lv_has ls 4 [(0, .ref h_t), (1, .int x1)] → W p l e rm_X12_chain1 s m args below meth c H locs 0 0 Q (F0 m 153 ls [.int s0]) := by
        intro x1 s0 F_t a_memory1 H locs ls hf hP hD hS hl
        have hf := (m_X12_chain1_j153.eq_1 _ _ _ _ _ _).symm.trans hf
        refine lv_istore_n (lv' := [(2, .int s0), (0, .ref h_t), (1, .int x1)]) hx hb dX12_chain1_153 rfl hl (by decide) rfl (fun ls hl => ?_)
        refine lv_goto (tgt := 99) hx hb dX12_chain1_154 (by decide) ?_
        exact ih99 x1 s0 F_t a_memory1 _ _ _ hf hP hD hS (lv_sub hl [1, 2, 0] rfl)
      refine lv_iload_n hx hb dX12_chain1_99 rfl (lv_at hl 2 rfl) ?_
      refine z_if_eq (tgt := 157) hx hb dX12_chain1_100 (by decide) hf (fun hf => ?_) (fun hf => ?_)
      · exact hret (F_t, a_memory1) _ _ _ _ hf hP hD hS dX12_chain1_157
      · refine lv_aload_n hx hb dX12_chain1_103 rfl (lv_at hl 0 rfl) ?_
        refine z_get (ci := 12) (C := RX12) (T := TX12) (N := 51) (v := .int (F_t 38)) hx hb hts inT_X12 hown hK hP 0 rfl rfl 38 (by decide) tf_X12_267 rfl dX12_chain1_104 ?_
        refine z_if_ne (tgt := 157) hx hb dX12_chain1_107 (by decide) hf (fun hf => ?_) (fun hf => ?_)
        · exact hret (F_t, a_memory1) _ _ _ _ hf hP hD hS dX12_chain1_157
        · refine lv_aload_n hx hb dX12_chain1_110 rfl (lv_at hl 0 rfl) ?_
          obtain ⟨u9, hu9, hf⟩ := bd_some hf
          refine z_ci (ws1 := w_X12_chain1 h_t r_t u9.2.1 cI a_tape u9.2.2) (wr := List.filterMap (fun i : Nat => (w_X12_chain1 h_t r_t F_t cI a_tape a_memory1)[i]?) []) (z_rV (rest := []) hx hb hml hown hcx hl.1 (c_X12_usedHere l D cI h_t r_t F_t a_tape a_memory1 u9 hu9 _) tl_X12_280 ti_X12_usedHere tz_X12_usedHere tn_X12 tc_X12_usedHere tm_X12_usedHere rfl rfl ⟨Nat.le_of_ble_eq_true rfl, Nat.le_of_ble_eq_true rfl⟩ hK hX hS hA hP hD [0, 1, 2] rfl rfl 0 rfl rfl rfl rfl (Nat.le_of_ble_eq_true rfl) dX12_chain1_111 ⟨Nat.zero_le _, Nat.zero_le _⟩) hP hD hS hA [0, 1, 2] [] [0, 1, 2] rfl rfl rfl (by decide) rfl rfl (fun H locs hP hD hS => ?_)
          refine lv_istore_n (lv' := [(3, .int u9.1), (0, .ref h_t), (1, .int x1), (2, .int x2)]) hx hb dX12_chain1_114 rfl hl (by decide) rfl (fun ls hl => ?_)
          refine lv_aload_n hx hb dX12_chain1_115 rfl (lv_at hl 1 rfl) ?_
          refine z_get (ci := 12) (C := RX12) (T := TX12) (N := 51) (v := .int (u9.2.1 38)) hx hb hts inT_X12 hown hK hP 0 rfl rfl 38 (by decide) tf_X12_267 rfl dX12_chain1_116 ?_
          refine z_if_eq (tgt := 123) hx hb dX12_chain1_119 (by decide) hf (fun hf => ?_) (fun hf => ?_)
          · refine lv_aload_n hx hb dX12_chain1_123 rfl (lv_at hl 1 rfl) ?_
            refine z_get (ci := 12) (C := RX12) (T := TX12) (N := 51) (v := .ref (r_t 39)) hx hb hts inT_X12 hown hK hP 0 rfl rfl 39 (by decide) tf_X12_51 rfl dX12_chain1_124 ?_
            refine lv_iload_n hx hb dX12_chain1_127 rfl (lv_at hl 2 rfl) ?_
            refine lv_iload_n hx hb dX12_chain1_128 rfl (lv_at hl 0 rfl) ?_
            obtain ⟨u10, hu10, hf⟩ := bd_some hf
            refine z_ci (ws1 := w_X12_chain1 h_t r_t u9.2.1 cI a_tape u9.2.2) (wr := List.filterMap (fun i : Nat => (w_X12_chain1 h_t r_t u9.2.1 cI a_tape u9.2.2)[i]?) [0, 1, 2]) (z_rS (rest := [.int x1, .ref (r_t 39)]) hx hb hml hown hcx hl.1 (c_X12_block l D cI u9.1 u10 hu10 _) tl_X12_76 ts_X12_block tn_X12 tc_X12_block tm_X12_block rfl rfl ⟨Nat.le_of_ble_eq_true rfl, Nat.le_of_ble_eq_true rfl⟩ hK hX hS hA hP hD [] rfl rfl rfl rfl (Nat.le_of_ble_eq_true rfl) dX12_chain1_129 ⟨Nat.zero_le _, Nat.zero_le _⟩) hP hD hS hA [] [0, 1, 2] [0, 1, 2] rfl rfl rfl (by decide) rfl rfl (fun H locs hP hD hS => ?_)
            refine z_iast hx hb hK hP hD hS 2 rfl (fun z => w_X12_chain1 h_t r_t u9.2.1 cI a_tape z) (fun _ => rfl) dX12_chain1_132 hf (fun a11 H locs hf hP hD hS => ?_)
            refine lv_iload_n hx hb dX12_chain1_133 rfl (lv_at hl 0 rfl) ?_
            obtain ⟨u12, hu12, hf⟩ := bd_some hf
            refine z_ci (ws1 := w_X12_chain1 h_t r_t u9.2.1 cI a_tape a11) (wr := List.filterMap (fun i : Nat => (w_X12_chain1 h_t r_t u9.2.1 cI a_tape a11)[i]?) [0, 1, 2]) (z_rS (rest := []) hx hb hml hown hcx hl.1 (c_X12_block l D cI u9.1 u12 hu12 _) tl_X12_76 ts_X12_block tn_X12 tc_X12_block tm_X12_block rfl rfl ⟨Nat.le_of_ble_eq_true rfl, Nat.le_of_ble_eq_true rfl⟩ hK hX hS hA hP hD [] rfl rfl rfl rfl (Nat.le_of_ble_eq_true rfl) dX12_chain1_134 ⟨Nat.zero_le _, Nat.zero_le _⟩) hP hD hS hA [] [0, 1, 2] [0, 1, 2] rfl rfl rfl (by decide) rfl rfl (fun H locs hP hD hS => ?_)
            refine lv_iconst (v := 1) hx hb dX12_chain1_137 (by decide) ?_
            refine lv_iadd hx hb dX12_chain1_138 ?_
            refine z_istore_n (fun z => [(1, .int z), (3, .int u9.1), (0, .ref h_t), (2, .int x2)]) hx hb dX12_chain1_139 rfl hl (by decide) (fun _ => rfl) hf (fun v13 ls hf hl => ?_)
            refine lv_aload_n hx hb dX12_chain1_140 rfl (lv_at hl 2 rfl) ?_
            refine z_get (ci := 12) (C := RX12) (T := TX12) (N := 51) (v := .int (u9.2.1 35)) hx hb hts inT_X12 hown hK hP 0 rfl rfl 35 (by decide) tf_X12_258 rfl dX12_chain1_141 ?_
            refine lv_iconst (v := 2) hx hb dX12_chain1_144 (by decide) ?_
            refine z_icmp_ne (tgt := 152) hx hb dX12_chain1_145 (by decide) hf (fun hf => ?_) (fun hf => ?_)
            · refine lv_iconst (v := 0) hx hb dX12_chain1_152 (by decide) ?_
              exact L153 v13 0 u9.2.1 a11 _ _ _ hf hP hD hS (lv_sub hl [2, 0] rfl)
            · refine lv_iconst (v := 1) hx hb dX12_chain1_148 (by decide) ?_
              refine lv_goto (tgt := 153) hx hb dX12_chain1_149 (by decide) ?_
              exact L153 v13 1 u9.2.1 a11 _ _ _ hf hP hD hS (lv_sub hl [2, 0] rfl)
          · exact hret (u9.2.1, u9.2.2) _ _ _ _ hf hP hD hS dX12_chain1_122
  have L62 : ∀ (s1 : Int32) (F_t : Nat → Int32) (a_memory1 : Nat → Int32) (H : Heap) (locs : List Loc) (ls : Array Slot), m_X12_chain1_j62 a_tape s1 F_t a_memory1 = some Rr → va_P D vwCl (w_X12_chain1 h_t r_t F_t cI a_tape a_memory1) H → va_D A (w_X12_chain1 h_t r_t F_t cI a_tape a_memory1) → va_S A s.heap H locs → lv_has ls 4 [(0, .ref h_t)] → W p l e rm_X12_chain1 s m args below meth c H locs 0 0 Q (F0 m 62 ls [.int s1, .ref h_t]) := by
    intro s1 F_t a_memory1 H locs ls hf hP hD hS hl
    have hf := (m_X12_chain1_j62.eq_1 _ _ _ _).symm.trans hf
    refine lv_iconst (v := 4) hx hb dX12_chain1_62 (by decide) ?_
    obtain ⟨u5, hu5, hf⟩ := bd_some hf
    refine z_ci (ws1 := w_X12_chain1 h_t r_t u5.2 cI a_tape a_memory1) (wr := List.filterMap (fun i : Nat => (w_X12_chain1 h_t r_t F_t cI a_tape a_memory1)[i]?) [1, 2]) (z_rV (rest := []) hx hb hml hown hcx hl.1 (c_X12_wants l D cI h_t r_t F_t s1 4 u5 hu5 _) tl_X12_270 ti_X12_wants tz_X12_wants tn_X12 tc_X12_wants tm_X12_wants rfl rfl ⟨Nat.le_of_ble_eq_true rfl, Nat.le_of_ble_eq_true rfl⟩ hK hX hS hA hP hD [0] rfl rfl 0 rfl rfl rfl rfl (Nat.le_of_ble_eq_true rfl) dX12_chain1_63 ⟨Nat.zero_le _, Nat.zero_le _⟩) hP hD hS hA [0] [1, 2] [2, 0, 1] rfl rfl rfl (by decide) rfl rfl (fun H locs hP hD hS => ?_)
    refine z_if_ne (tgt := 70) hx hb dX12_chain1_66 (by decide) hf (fun hf => ?_) (fun hf => ?_)
    · refine lv_aload_n hx hb dX12_chain1_70 rfl (lv_at hl 0 rfl) ?_
      refine lv_dup hx hb dX12_chain1_71 rfl ?_
      refine z_get (ci := 12) (C := RX12) (T := TX12) (N := 51) (v := .int (u5.2 45)) hx hb hts inT_X12 hown hK hP 0 rfl rfl 45 (by decide) tf_X12_277 rfl dX12_chain1_72 ?_
      refine lv_iconst (v := 1) hx hb dX12_chain1_75 (by decide) ?_
      refine lv_aload_n hx hb dX12_chain1_76 rfl (lv_at hl 0 rfl) ?_
      refine z_get (ci := 12) (C := RX12) (T := TX12) (N := 51) (v := .int (u5.2 36)) hx hb hts inT_X12 hown hK hP 0 rfl rfl 36 (by decide) tf_X12_255 rfl dX12_chain1_77 ?_
      refine lv_ishl hx hb dX12_chain1_80 ?_
      refine lv_ior hx hb dX12_chain1_81 ?_
      refine z_put (ci := 12) (C := RX12) (T := TX12) (N := 51) hx hb hts inT_X12 tyX12 tyX12_ok nmX12 hown hK hP hD hS 0 rfl rfl 45 (by decide) tf_X12_277 rfl (by decide +kernel) (Nat.le_of_ble_eq_true rfl) (o_X12 r_t) (o_X12_s45 _ _ _) (fun z => w_X12_chain1 h_t r_t z cI a_tape a_memory1) (fun _ => rfl) dX12_chain1_82 hf (fun F6 H locs hf hP hD hS => ?_)
      refine lv_bipush (v := 20) hx hb dX12_chain1_85 (by decide) ?_
      refine lv_aload_n hx hb dX12_chain1_87 rfl (lv_at hl 0 rfl) ?_
      refine z_get (ci := 12) (C := RX12) (T := TX12) (N := 51) (v := .int (F6 36)) hx hb hts inT_X12 hown hK hP 0 rfl rfl 36 (by decide) tf_X12_255 rfl dX12_chain1_88 ?_
      refine lv_iadd hx hb dX12_chain1_91 ?_
      refine z_istore_n (fun z => [(1, .int z), (0, .ref h_t)]) hx hb dX12_chain1_92 rfl hl (by decide) (fun _ => rfl) hf (fun v7 ls hf hl => ?_)
      refine lv_aload_n hx hb dX12_chain1_93 rfl (lv_at hl 1 rfl) ?_
      obtain ⟨u8, hu8, hf⟩ := bd_some hf
      refine z_cv (ws1 := w_X12_chain1 h_t r_t u8 cI a_tape a_memory1) (wr := List.filterMap (fun i : Nat => (w_X12_chain1 h_t r_t F6 cI a_tape a_memory1)[i]?) [2]) (z_rV (rest := []) hx hb hml hown hcx hl.1 (c_X12_go l D cI h_t r_t F6 a_tape u8 hu8 _) tl_X12_274 ti_X12_go tz_X12_go tn_X12 tc_X12_go tm_X12_go rfl rfl ⟨Nat.le_of_ble_eq_true rfl, Nat.le_of_ble_eq_true rfl⟩ hK hX hS hA hP hD [0, 1] rfl rfl 0 rfl rfl rfl rfl (Nat.le_of_ble_eq_true rfl) dX12_chain1_94 ⟨Nat.zero_le _, Nat.zero_le _⟩) hP hD hS hA [0, 1] [2] [1, 2, 0] rfl rfl rfl (by decide) rfl rfl (fun H locs hP hD hS => ?_)
      refine lv_iconst (v := 1) hx hb dX12_chain1_97 (by decide) ?_
      refine lv_istore_n (lv' := [(2, .int 1), (1, .int v7), (0, .ref h_t)]) hx hb dX12_chain1_98 rfl hl (by decide) rfl (fun ls hl => ?_)
      exact L99 fuelN v7 1 u8 a_memory1 _ _ _ hf hP hD hS (lv_sub hl [2, 1, 0] rfl)
    · exact hret (u5.2, a_memory1) _ _ _ _ hf hP hD hS dX12_chain1_69
  have L18 : ∀ (s1 : Int32) (F_t : Nat → Int32) (a_memory1 : Nat → Int32) (H : Heap) (locs : List Loc) (ls : Array Slot), m_X12_chain1_j18 a_tape s1 F_t a_memory1 = some Rr → va_P D vwCl (w_X12_chain1 h_t r_t F_t cI a_tape a_memory1) H → va_D A (w_X12_chain1 h_t r_t F_t cI a_tape a_memory1) → va_S A s.heap H locs → lv_has ls 4 [(0, .ref h_t)] → W p l e rm_X12_chain1 s m args below meth c H locs 0 0 Q (F0 m 18 ls [.int s1, .ref h_t]) := by
    intro s1 F_t a_memory1 H locs ls hf hP hD hS hl
    have hf := (m_X12_chain1_j18.eq_1 _ _ _ _).symm.trans hf
    refine lv_iconst (v := 1) hx hb dX12_chain1_18 (by decide) ?_
    obtain ⟨u2, hu2, hf⟩ := bd_some hf
    refine z_ci (ws1 := w_X12_chain1 h_t r_t u2.2 cI a_tape a_memory1) (wr := List.filterMap (fun i : Nat => (w_X12_chain1 h_t r_t F_t cI a_tape a_memory1)[i]?) [1, 2]) (z_rV (rest := []) hx hb hml hown hcx hl.1 (c_X12_wants l D cI h_t r_t F_t s1 1 u2 hu2 _) tl_X12_270 ti_X12_wants tz_X12_wants tn_X12 tc_X12_wants tm_X12_wants rfl rfl ⟨Nat.le_of_ble_eq_true rfl, Nat.le_of_ble_eq_true rfl⟩ hK hX hS hA hP hD [0] rfl rfl 0 rfl rfl rfl rfl (Nat.le_of_ble_eq_true rfl) dX12_chain1_19 ⟨Nat.zero_le _, Nat.zero_le _⟩) hP hD hS hA [0] [1, 2] [2, 0, 1] rfl rfl rfl (by decide) rfl rfl (fun H locs hP hD hS => ?_)
    refine z_if_eq (tgt := 69) hx hb dX12_chain1_22 (by decide) hf (fun hf => ?_) (fun hf => ?_)
    · exact hret (u2.2, a_memory1) _ _ _ _ hf hP hD hS dX12_chain1_69
    · refine lv_aload_n hx hb dX12_chain1_25 rfl (lv_at hl 0 rfl) ?_
      refine lv_aload_n hx hb dX12_chain1_26 rfl (lv_at hl 0 rfl) ?_
      refine z_get (ci := 12) (C := RX12) (T := TX12) (N := 51) (v := .int (u2.2 36)) hx hb hts inT_X12 hown hK hP 0 rfl rfl 36 (by decide) tf_X12_255 rfl dX12_chain1_27 ?_
      refine lv_iconst (v := 0) hx hb dX12_chain1_30 (by decide) ?_
      refine lv_iconst (v := 3) hx hb dX12_chain1_31 (by decide) ?_
      obtain ⟨u3, hu3, hf⟩ := bd_some hf
      refine z_ci (ws1 := w_X12_chain1 h_t r_t u2.2 cI a_tape a_memory1) (wr := List.filterMap (fun i : Nat => (w_X12_chain1 h_t r_t u2.2 cI a_tape a_memory1)[i]?) [0, 1, 2]) (z_rS (rest := [.ref h_t]) hx hb hml hown hcx hl.1 (c_X12_within l D cI (u2.2 36) 0 3 u3 hu3 _) tl_X12_172 ts_X12_within tn_X12 tc_X12_within tm_X12_within rfl rfl ⟨Nat.le_of_ble_eq_true rfl, Nat.le_of_ble_eq_true rfl⟩ hK hX hS hA hP hD [] rfl rfl rfl rfl (Nat.le_of_ble_eq_true rfl) dX12_chain1_32 ⟨Nat.zero_le _, Nat.zero_le _⟩) hP hD hS hA [] [0, 1, 2] [0, 1, 2] rfl rfl rfl (by decide) rfl rfl (fun H locs hP hD hS => ?_)
      refine lv_iconst (v := 2) hx hb dX12_chain1_35 (by decide) ?_
      obtain ⟨u4, hu4, hf⟩ := bd_some hf
      refine z_ci (ws1 := w_X12_chain1 h_t r_t u4.2 cI a_tape a_memory1) (wr := List.filterMap (fun i : Nat => (w_X12_chain1 h_t r_t u2.2 cI a_tape a_memory1)[i]?) [1, 2]) (z_rV (rest := []) hx hb hml hown hcx hl.1 (c_X12_wants l D cI h_t r_t u2.2 u3 2 u4 hu4 _) tl_X12_270 ti_X12_wants tz_X12_wants tn_X12 tc_X12_wants tm_X12_wants rfl rfl ⟨Nat.le_of_ble_eq_true rfl, Nat.le_of_ble_eq_true rfl⟩ hK hX hS hA hP hD [0] rfl rfl 0 rfl rfl rfl rfl (Nat.le_of_ble_eq_true rfl) dX12_chain1_36 ⟨Nat.zero_le _, Nat.zero_le _⟩) hP hD hS hA [0] [1, 2] [2, 0, 1] rfl rfl rfl (by decide) rfl rfl (fun H locs hP hD hS => ?_)
      refine z_if_eq (tgt := 69) hx hb dX12_chain1_39 (by decide) hf (fun hf => ?_) (fun hf => ?_)
      · exact hret (u4.2, a_memory1) _ _ _ _ hf hP hD hS dX12_chain1_69
      · refine lv_aload_n hx hb dX12_chain1_42 rfl (lv_at hl 0 rfl) ?_
        refine lv_aload_n hx hb dX12_chain1_43 rfl (lv_at hl 0 rfl) ?_
        refine z_get (ci := 12) (C := RX12) (T := TX12) (N := 51) (v := .int (u4.2 45)) hx hb hts inT_X12 hown hK hP 0 rfl rfl 45 (by decide) tf_X12_277 rfl dX12_chain1_44 ?_
        refine lv_aload_n hx hb dX12_chain1_47 rfl (lv_at hl 0 rfl) ?_
        refine z_get (ci := 12) (C := RX12) (T := TX12) (N := 51) (v := .int (u4.2 36)) hx hb hts inT_X12 hown hK hP 0 rfl rfl 36 (by decide) tf_X12_255 rfl dX12_chain1_48 ?_
        refine lv_ishr hx hb dX12_chain1_51 ?_
        refine lv_iconst (v := 1) hx hb dX12_chain1_52 (by decide) ?_
        refine lv_iand hx hb dX12_chain1_53 ?_
        refine z_if_ne (tgt := 61) hx hb dX12_chain1_54 (by decide) hf (fun hf => ?_) (fun hf => ?_)
        · refine lv_iconst (v := 0) hx hb dX12_chain1_61 (by decide) ?_
          exact L62 0 u4.2 a_memory1 _ _ _ hf hP hD hS (lv_sub hl [0] rfl)
        · refine lv_iconst (v := 1) hx hb dX12_chain1_57 (by decide) ?_
          refine lv_goto (tgt := 62) hx hb dX12_chain1_58 (by decide) ?_
          exact L62 1 u4.2 a_memory1 _ _ _ hf hP hD hS (lv_sub hl [0] rfl)
  refine lv_aload_n hx hb dX12_chain1_0 rfl (lv_at hl 0 rfl) ?_
  obtain ⟨u1, hu1, hf⟩ := bd_some hf
  refine z_cv (ws1 := w_X12_chain1 h_t r_t u1 cI a_tape a_memory1) (wr := List.filterMap (fun i : Nat => (w_X12_chain1 h_t r_t F_t cI a_tape a_memory1)[i]?) [2]) (z_rV (rest := []) hx hb hml hown hcx hl.1 (c_X12_go l D cI h_t r_t F_t a_tape u1 hu1 _) tl_X12_274 ti_X12_go tz_X12_go tn_X12 tc_X12_go tm_X12_go rfl rfl ⟨Nat.le_of_ble_eq_true rfl, Nat.le_of_ble_eq_true rfl⟩ hK hX hS hA hP hD [0, 1] rfl rfl 0 rfl rfl rfl rfl (Nat.le_of_ble_eq_true rfl) dX12_chain1_1 ⟨Nat.zero_le _, Nat.zero_le _⟩) hP hD hS hA [0, 1] [2] [1, 2, 0] rfl rfl rfl (by decide) rfl rfl (fun H locs hP hD hS => ?_)
  refine lv_aload_n hx hb dX12_chain1_4 rfl (lv_at hl 0 rfl) ?_
  refine lv_aload_n hx hb dX12_chain1_5 rfl (lv_at hl 0 rfl) ?_
  refine z_get (ci := 12) (C := RX12) (T := TX12) (N := 51) (v := .int (u1 35)) hx hb hts inT_X12 hown hK hP 0 rfl rfl 35 (by decide) tf_X12_258 rfl dX12_chain1_6 ?_
  refine lv_iconst (v := 2) hx hb dX12_chain1_9 (by decide) ?_
  refine z_icmp_ne (tgt := 17) hx hb dX12_chain1_10 (by decide) hf (fun hf => ?_) (fun hf => ?_)
  · refine lv_iconst (v := 0) hx hb dX12_chain1_17 (by decide) ?_
    exact L18 0 u1 a_memory1 _ _ _ hf hP hD hS (lv_sub hl [0] rfl)
  · refine lv_iconst (v := 1) hx hb dX12_chain1_13 (by decide) ?_
    refine lv_goto (tgt := 18) hx hb dX12_chain1_14 (by decide) ?_
    exact L18 1 u1 a_memory1 _ _ _ hf hP hD hS (lv_sub hl [0] rfl)
abbrev w_X12_without1 (h_t : Nat) (r_t : Nat → Nat) (F_t : Nat → Int32) (cI : ClassId) (a_tape : Nat → Int32) : va_W := [(h_t, .inr (12, o_X12 r_t F_t)), ((r_t 13), .inl (cI, 700, .inl a_tape))]
abbrev rm_X12_without1 : Room := { frames := 3, cells := 0, slots := 0, locals := 68 }
def m_X12_without1_j113 (a_tape : Nat → Int32) (k6 : Int32 → (Nat → Int32) → Option ((Nat → Int32))) (s0 : Int32) (F_t : Nat → Int32) : Option ((Nat → Int32)) :=
  k6 s0 F_t
def m_X12_without1_j70 (a_tape : Nat → Int32) (k6 : Int32 → (Nat → Int32) → Option ((Nat → Int32))) (s1 : Int32) (F_t : Nat → Int32) : Option ((Nat → Int32)) :=
  bd (m_X12_wants F_t s1 4) fun u3 =>
  if u3.1 = 0 then (
  some u3.2)
  else (
  nm (upd u3.2 41 ((u3.2 41) ||| ((1 : Int32) <<< (((u3.2 37) - 12) &&& 31)))) fun F4 =>
  bd (m_X12_go F4 a_tape) fun u5 =>
  if (u5 35) = 1 then (
  m_X12_without1_j113 a_tape k6 1 u5)
  else (
  m_X12_without1_j113 a_tape k6 0 u5))
def m_X12_without1_j40 (a_tape : Nat → Int32) (k6 : Int32 → (Nat → Int32) → Option ((Nat → Int32))) (s1 : Int32) (F_t : Nat → Int32) : Option ((Nat → Int32)) :=
  bd (m_X12_wants F_t s1 1) fun u2 =>
  if u2.1 = 0 then (
  some u2.2)
  else (
  if (((u2.2 41) >>> (((u2.2 37) - 12) &&& 31)) &&& 1) = 0 then (
  m_X12_without1_j70 a_tape k6 1 u2.2)
  else (
  m_X12_without1_j70 a_tape k6 0 u2.2))
def m_X12_without1_j39 (a_tape : Nat → Int32) (k6 : Int32 → (Nat → Int32) → Option ((Nat → Int32))) (F_t : Nat → Int32) : Option ((Nat → Int32)) :=
  m_X12_without1_j40 a_tape k6 0 F_t
def m_X12_without1_w6 (a_tape : Nat → Int32) : Nat → Int32 → (Nat → Int32) → Option ((Nat → Int32))
  | 0, _, _ => none
  | n6 + 1, x1, F_t =>
    if x1 = 0 then (
    some F_t)
    else (
    if (F_t 38) = 0 then (
    if (F_t 35) = 1 then (
    if (F_t 37) < 12 then (
    m_X12_without1_j39 a_tape (m_X12_without1_w6 a_tape n6) F_t)
    else (
    m_X12_without1_j40 a_tape (m_X12_without1_w6 a_tape n6) 1 F_t))
    else (
    m_X12_without1_j39 a_tape (m_X12_without1_w6 a_tape n6) F_t))
    else (
    some F_t))
def m_X12_without1 (F_t : Nat → Int32) (a_tape : Nat → Int32) : Option ((Nat → Int32)) :=
  bd (m_X12_go F_t a_tape) fun u1 =>
  m_X12_without1_w6 a_tape fuelN 1 u1
set_option maxHeartbeats 4000000 in
set_option maxRecDepth 100000 in
theorem c_X12_without1 (l : Launch) (D : va_G) (cI : ClassId) (h_t : Nat) (r_t : Nat → Nat) (F_t : Nat → Int32) (a_tape : Nat → Int32) (Rr : (Nat → Int32)) (hf : m_X12_without1 F_t a_tape = some Rr) : CTv l yX12_without1 (Cond.code yX12_without1 cX12_without1 2 none) rm_X12_without1 D cI [.ref h_t] (w_X12_without1 h_t r_t F_t cI a_tape) (w_X12_without1 h_t r_t Rr cI a_tape) := by
  refine z_begin_v (own := RX12) (ρ := (Nat → Int32)) (fun u => w_X12_without1 h_t r_t u cI a_tape) (by decide +kernel) rfl (Nat.le_of_ble_eq_true rfl) ?_
  intro p e s m args below meth c ls Q A hx hb hml hts hcx hown hK hX hA hP hD hS hl hret
  have hl : lv_has ls 2 [(0, .ref h_t)] := hl
  have hf := (m_X12_without1.eq_1 _ _).symm.trans hf
  have L6 : ∀ (n6 : Nat) (x1 : Int32) (F_t : Nat → Int32) (H : Heap) (locs : List Loc) (ls : Array Slot), m_X12_without1_w6 a_tape n6 x1 F_t = some Rr → va_P D vwCl (w_X12_without1 h_t r_t F_t cI a_tape) H → va_D A (w_X12_without1 h_t r_t F_t cI a_tape) → va_S A s.heap H locs → lv_has ls 2 [(0, .ref h_t), (1, .int x1)] → W p l e rm_X12_without1 s m args below meth c H locs 0 0 Q (F0 m 6 ls []) := by
    intro n6
    induction n6 with
    | zero => intro x1 F_t H locs ls hf; cases (show (none : Option _) = some Rr from hf)
    | succ n6 ih6 =>
      intro x1 F_t H locs ls hf hP hD hS hl
      have hf := (m_X12_without1_w6.eq_2 _ _ _ _).symm.trans hf
      have L113 : ∀ (s0 : Int32) (F_t : Nat → Int32) (H : Heap) (locs : List Loc) (ls : Array Slot), m_X12_without1_j113 a_tape (m_X12_without1_w6 a_tape n6) s0 F_t = some Rr → va_P D vwCl (w_X12_without1 h_t r_t F_t cI a_tape) H → va_D A (w_X12_without1 h_t r_t F_t cI a_tape) → va_S A s.heap H locs → lv_has ls 2 [(0, .ref h_t)] → W p l e rm_X12_without1 s m args below meth c H locs 0 0 Q (F0 m 113 ls [.int s0]) := by
        intro s0 F_t H locs ls hf hP hD hS hl
        have hf := (m_X12_without1_j113.eq_1 _ _ _ _).symm.trans hf
        refine lv_istore_n (lv' := [(1, .int s0), (0, .ref h_t)]) hx hb dX12_without1_113 rfl hl (by decide) rfl (fun ls hl => ?_)
        refine lv_goto (tgt := 6) hx hb dX12_without1_114 (by decide) ?_
        exact ih6 s0 F_t _ _ _ hf hP hD hS (lv_sub hl [1, 0] rfl)
      have L70 : ∀ (s1 : Int32) (F_t : Nat → Int32) (H : Heap) (locs : List Loc) (ls : Array Slot), m_X12_without1_j70 a_tape (m_X12_without1_w6 a_tape n6) s1 F_t = some Rr → va_P D vwCl (w_X12_without1 h_t r_t F_t cI a_tape) H → va_D A (w_X12_without1 h_t r_t F_t cI a_tape) → va_S A s.heap H locs → lv_has ls 2 [(0, .ref h_t)] → W p l e rm_X12_without1 s m args below meth c H locs 0 0 Q (F0 m 70 ls [.int s1, .ref h_t]) := by
        intro s1 F_t H locs ls hf hP hD hS hl
        have hf := (m_X12_without1_j70.eq_1 _ _ _ _).symm.trans hf
        refine lv_iconst (v := 4) hx hb dX12_without1_70 (by decide) ?_
        obtain ⟨u3, hu3, hf⟩ := bd_some hf
        refine z_ci (ws1 := w_X12_without1 h_t r_t u3.2 cI a_tape) (wr := List.filterMap (fun i : Nat => (w_X12_without1 h_t r_t F_t cI a_tape)[i]?) [1]) (z_rV (rest := []) hx hb hml hown hcx hl.1 (c_X12_wants l D cI h_t r_t F_t s1 4 u3 hu3 _) tl_X12_270 ti_X12_wants tz_X12_wants tn_X12 tc_X12_wants tm_X12_wants rfl rfl ⟨Nat.le_of_ble_eq_true rfl, Nat.le_of_ble_eq_true rfl⟩ hK hX hS hA hP hD [0] rfl rfl 0 rfl rfl rfl rfl (Nat.le_of_ble_eq_true rfl) dX12_without1_71 ⟨Nat.zero_le _, Nat.zero_le _⟩) hP hD hS hA [0] [1] [1, 0] rfl rfl rfl (by decide) rfl rfl (fun H locs hP hD hS => ?_)
        refine z_if_ne (tgt := 78) hx hb dX12_without1_74 (by decide) hf (fun hf => ?_) (fun hf => ?_)
        · refine lv_aload_n hx hb dX12_without1_78 rfl (lv_at hl 0 rfl) ?_
          refine lv_dup hx hb dX12_without1_79 rfl ?_
          refine z_get (ci := 12) (C := RX12) (T := TX12) (N := 51) (v := .int (u3.2 41)) hx hb hts inT_X12 hown hK hP 0 rfl rfl 41 (by decide) tf_X12_283 rfl dX12_without1_80 ?_
          refine lv_iconst (v := 1) hx hb dX12_without1_83 (by decide) ?_
          refine lv_aload_n hx hb dX12_without1_84 rfl (lv_at hl 0 rfl) ?_
          refine z_get (ci := 12) (C := RX12) (T := TX12) (N := 51) (v := .int (u3.2 37)) hx hb hts inT_X12 hown hK hP 0 rfl rfl 37 (by decide) tf_X12_252 rfl dX12_without1_85 ?_
          refine lv_bipush (v := 12) hx hb dX12_without1_88 (by decide) ?_
          refine lv_isub hx hb dX12_without1_90 ?_
          refine lv_ishl hx hb dX12_without1_91 ?_
          refine lv_ior hx hb dX12_without1_92 ?_
          refine z_put (ci := 12) (C := RX12) (T := TX12) (N := 51) hx hb hts inT_X12 tyX12 tyX12_ok nmX12 hown hK hP hD hS 0 rfl rfl 41 (by decide) tf_X12_283 rfl (by decide +kernel) (Nat.le_of_ble_eq_true rfl) (o_X12 r_t) (o_X12_s41 _ _ _) (fun z => w_X12_without1 h_t r_t z cI a_tape) (fun _ => rfl) dX12_without1_93 hf (fun F4 H locs hf hP hD hS => ?_)
          refine lv_aload_n hx hb dX12_without1_96 rfl (lv_at hl 0 rfl) ?_
          obtain ⟨u5, hu5, hf⟩ := bd_some hf
          refine z_cv (ws1 := w_X12_without1 h_t r_t u5 cI a_tape) (wr := List.filterMap (fun i : Nat => (w_X12_without1 h_t r_t F4 cI a_tape)[i]?) []) (z_rV (rest := []) hx hb hml hown hcx hl.1 (c_X12_go l D cI h_t r_t F4 a_tape u5 hu5 _) tl_X12_274 ti_X12_go tz_X12_go tn_X12 tc_X12_go tm_X12_go rfl rfl ⟨Nat.le_of_ble_eq_true rfl, Nat.le_of_ble_eq_true rfl⟩ hK hX hS hA hP hD [0, 1] rfl rfl 0 rfl rfl rfl rfl (Nat.le_of_ble_eq_true rfl) dX12_without1_97 ⟨Nat.zero_le _, Nat.zero_le _⟩) hP hD hS hA [0, 1] [] [0, 1] rfl rfl rfl (by decide) rfl rfl (fun H locs hP hD hS => ?_)
          refine lv_aload_n hx hb dX12_without1_100 rfl (lv_at hl 0 rfl) ?_
          refine z_get (ci := 12) (C := RX12) (T := TX12) (N := 51) (v := .int (u5 35)) hx hb hts inT_X12 hown hK hP 0 rfl rfl 35 (by decide) tf_X12_258 rfl dX12_without1_101 ?_
          refine lv_iconst (v := 1) hx hb dX12_without1_104 (by decide) ?_
          refine z_icmp_ne (tgt := 112) hx hb dX12_without1_105 (by decide) hf (fun hf => ?_) (fun hf => ?_)
          · refine lv_iconst (v := 0) hx hb dX12_without1_112 (by decide) ?_
            exact L113 0 u5 _ _ _ hf hP hD hS (lv_sub hl [0] rfl)
          · refine lv_iconst (v := 1) hx hb dX12_without1_108 (by decide) ?_
            refine lv_goto (tgt := 113) hx hb dX12_without1_109 (by decide) ?_
            exact L113 1 u5 _ _ _ hf hP hD hS (lv_sub hl [0] rfl)
        · exact hret u3.2 _ _ _ _ hf hP hD hS dX12_without1_77
      have L40 : ∀ (s1 : Int32) (F_t : Nat → Int32) (H : Heap) (locs : List Loc) (ls : Array Slot), m_X12_without1_j40 a_tape (m_X12_without1_w6 a_tape n6) s1 F_t = some Rr → va_P D vwCl (w_X12_without1 h_t r_t F_t cI a_tape) H → va_D A (w_X12_without1 h_t r_t F_t cI a_tape) → va_S A s.heap H locs → lv_has ls 2 [(0, .ref h_t)] → W p l e rm_X12_without1 s m args below meth c H locs 0 0 Q (F0 m 40 ls [.int s1, .ref h_t]) := by
        intro s1 F_t H locs ls hf hP hD hS hl
        have hf := (m_X12_without1_j40.eq_1 _ _ _ _).symm.trans hf
        refine lv_iconst (v := 1) hx hb dX12_without1_40 (by decide) ?_
        obtain ⟨u2, hu2, hf⟩ := bd_some hf
        refine z_ci (ws1 := w_X12_without1 h_t r_t u2.2 cI a_tape) (wr := List.filterMap (fun i : Nat => (w_X12_without1 h_t r_t F_t cI a_tape)[i]?) [1]) (z_rV (rest := []) hx hb hml hown hcx hl.1 (c_X12_wants l D cI h_t r_t F_t s1 1 u2 hu2 _) tl_X12_270 ti_X12_wants tz_X12_wants tn_X12 tc_X12_wants tm_X12_wants rfl rfl ⟨Nat.le_of_ble_eq_true rfl, Nat.le_of_ble_eq_true rfl⟩ hK hX hS hA hP hD [0] rfl rfl 0 rfl rfl rfl rfl (Nat.le_of_ble_eq_true rfl) dX12_without1_41 ⟨Nat.zero_le _, Nat.zero_le _⟩) hP hD hS hA [0] [1] [1, 0] rfl rfl rfl (by decide) rfl rfl (fun H locs hP hD hS => ?_)
        refine z_if_eq (tgt := 77) hx hb dX12_without1_44 (by decide) hf (fun hf => ?_) (fun hf => ?_)
        · exact hret u2.2 _ _ _ _ hf hP hD hS dX12_without1_77
        · refine lv_aload_n hx hb dX12_without1_47 rfl (lv_at hl 0 rfl) ?_
          refine lv_aload_n hx hb dX12_without1_48 rfl (lv_at hl 0 rfl) ?_
          refine z_get (ci := 12) (C := RX12) (T := TX12) (N := 51) (v := .int (u2.2 41)) hx hb hts inT_X12 hown hK hP 0 rfl rfl 41 (by decide) tf_X12_283 rfl dX12_without1_49 ?_
          refine lv_aload_n hx hb dX12_without1_52 rfl (lv_at hl 0 rfl) ?_
          refine z_get (ci := 12) (C := RX12) (T := TX12) (N := 51) (v := .int (u2.2 37)) hx hb hts inT_X12 hown hK hP 0 rfl rfl 37 (by decide) tf_X12_252 rfl dX12_without1_53 ?_
          refine lv_bipush (v := 12) hx hb dX12_without1_56 (by decide) ?_
          refine lv_isub hx hb dX12_without1_58 ?_
          refine lv_ishr hx hb dX12_without1_59 ?_
          refine lv_iconst (v := 1) hx hb dX12_without1_60 (by decide) ?_
          refine lv_iand hx hb dX12_without1_61 ?_
          refine z_if_ne (tgt := 69) hx hb dX12_without1_62 (by decide) hf (fun hf => ?_) (fun hf => ?_)
          · refine lv_iconst (v := 0) hx hb dX12_without1_69 (by decide) ?_
            exact L70 0 u2.2 _ _ _ hf hP hD hS (lv_sub hl [0] rfl)
          · refine lv_iconst (v := 1) hx hb dX12_without1_65 (by decide) ?_
            refine lv_goto (tgt := 70) hx hb dX12_without1_66 (by decide) ?_
            exact L70 1 u2.2 _ _ _ hf hP hD hS (lv_sub hl [0] rfl)
      have L39 : ∀ (F_t : Nat → Int32) (H : Heap) (locs : List Loc) (ls : Array Slot), m_X12_without1_j39 a_tape (m_X12_without1_w6 a_tape n6) F_t = some Rr → va_P D vwCl (w_X12_without1 h_t r_t F_t cI a_tape) H → va_D A (w_X12_without1 h_t r_t F_t cI a_tape) → va_S A s.heap H locs → lv_has ls 2 [(0, .ref h_t)] → W p l e rm_X12_without1 s m args below meth c H locs 0 0 Q (F0 m 39 ls [.ref h_t]) := by
        intro F_t H locs ls hf hP hD hS hl
        have hf := (m_X12_without1_j39.eq_1 _ _ _).symm.trans hf
        refine lv_iconst (v := 0) hx hb dX12_without1_39 (by decide) ?_
        exact L40 0 F_t _ _ _ hf hP hD hS (lv_sub hl [0] rfl)
      refine lv_iload_n hx hb dX12_without1_6 rfl (lv_at hl 1 rfl) ?_
      refine z_if_eq (tgt := 117) hx hb dX12_without1_7 (by decide) hf (fun hf => ?_) (fun hf => ?_)
      · exact hret F_t _ _ _ _ hf hP hD hS dX12_without1_117
      · refine lv_aload_n hx hb dX12_without1_10 rfl (lv_at hl 0 rfl) ?_
        refine z_get (ci := 12) (C := RX12) (T := TX12) (N := 51) (v := .int (F_t 38)) hx hb hts inT_X12 hown hK hP 0 rfl rfl 38 (by decide) tf_X12_267 rfl dX12_without1_11 ?_
        refine z_if_ne (tgt := 117) hx hb dX12_without1_14 (by decide) hf (fun hf => ?_) (fun hf => ?_)
        · exact hret F_t _ _ _ _ hf hP hD hS dX12_without1_117
        · refine lv_aload_n hx hb dX12_without1_17 rfl (lv_at hl 0 rfl) ?_
          refine lv_aload_n hx hb dX12_without1_18 rfl (lv_at hl 0 rfl) ?_
          refine z_get (ci := 12) (C := RX12) (T := TX12) (N := 51) (v := .int (F_t 35)) hx hb hts inT_X12 hown hK hP 0 rfl rfl 35 (by decide) tf_X12_258 rfl dX12_without1_19 ?_
          refine lv_iconst (v := 1) hx hb dX12_without1_22 (by decide) ?_
          refine z_icmp_ne (tgt := 39) hx hb dX12_without1_23 (by decide) hf (fun hf => ?_) (fun hf => ?_)
          · exact L39 F_t _ _ _ hf hP hD hS (lv_sub hl [0] rfl)
          · refine lv_aload_n hx hb dX12_without1_26 rfl (lv_at hl 0 rfl) ?_
            refine z_get (ci := 12) (C := RX12) (T := TX12) (N := 51) (v := .int (F_t 37)) hx hb hts inT_X12 hown hK hP 0 rfl rfl 37 (by decide) tf_X12_252 rfl dX12_without1_27 ?_
            refine lv_bipush (v := 12) hx hb dX12_without1_30 (by decide) ?_
            refine z_icmp_lt (tgt := 39) hx hb dX12_without1_32 (by decide) hf (fun hf => ?_) (fun hf => ?_)
            · exact L39 F_t _ _ _ hf hP hD hS (lv_sub hl [0] rfl)
            · refine lv_iconst (v := 1) hx hb dX12_without1_35 (by decide) ?_
              refine lv_goto (tgt := 40) hx hb dX12_without1_36 (by decide) ?_
              exact L40 1 F_t _ _ _ hf hP hD hS (lv_sub hl [0] rfl)
  refine lv_aload_n hx hb dX12_without1_0 rfl (lv_at hl 0 rfl) ?_
  obtain ⟨u1, hu1, hf⟩ := bd_some hf
  refine z_cv (ws1 := w_X12_without1 h_t r_t u1 cI a_tape) (wr := List.filterMap (fun i : Nat => (w_X12_without1 h_t r_t F_t cI a_tape)[i]?) []) (z_rV (rest := []) hx hb hml hown hcx hl.1 (c_X12_go l D cI h_t r_t F_t a_tape u1 hu1 _) tl_X12_274 ti_X12_go tz_X12_go tn_X12 tc_X12_go tm_X12_go rfl rfl ⟨Nat.le_of_ble_eq_true rfl, Nat.le_of_ble_eq_true rfl⟩ hK hX hS hA hP hD [0, 1] rfl rfl 0 rfl rfl rfl rfl (Nat.le_of_ble_eq_true rfl) dX12_without1_1 ⟨Nat.zero_le _, Nat.zero_le _⟩) hP hD hS hA [0, 1] [] [0, 1] rfl rfl rfl (by decide) rfl rfl (fun H locs hP hD hS => ?_)
  refine lv_iconst (v := 1) hx hb dX12_without1_4 (by decide) ?_
  refine lv_istore_n (lv' := [(1, .int 1), (0, .ref h_t)]) hx hb dX12_without1_5 rfl hl (by decide) rfl (fun ls hl => ?_)
  exact L6 fuelN 1 u1 _ _ _ hf hP hD hS (lv_sub hl [1, 0] rfl)
abbrev w_X12_data1 (h_t : Nat) (r_t : Nat → Nat) (F_t : Nat → Int32) (cI : ClassId) (a_tape : Nat → Int32) (a_memory1 : Nat → Int32) : va_W := [(h_t, .inr (12, o_X12 r_t F_t)), ((r_t 13), .inl (cI, 700, .inl a_tape)), ((r_t 39), .inl (cI, 64, .inl a_memory1))]
abbrev rm_X12_data1 : Room := { frames := 4, cells := 0, slots := 0, locals := 91 }
def m_X12_data1_j63 (a_tape : Nat → Int32) (s1 : Int32) (F_t : Nat → Int32) (a_memory1 : Nat → Int32) : Option ((Nat → Int32) × (Nat → Int32)) :=
  bd (m_X12_wants F_t s1 3) fun u5 =>
  if u5.1 = 0 then (
  some (u5.2, a_memory1))
  else (
  nm (upd u5.2 46 ((u5.2 46) ||| ((1 : Int32) <<< ((u5.2 36) &&& 31)))) fun F6 =>
  bd (m_X12_block (F6 36)) fun u7 =>
  bd (m_X12_go F6 a_tape) fun u8 =>
  bd (m_X12_numberHere u8 a_tape 0 99) fun u9 =>
  wr a_memory1 64 (u7 + 2) u9.1 fun a10 =>
  if (u9.2 38) = 0 then (
  bd (m_X12_numberHere u9.2 a_tape 0 99) fun u11 =>
  wr a10 64 (u7 + 3) u11.1 fun a12 =>
  some (u11.2, a12))
  else (
  some (u9.2, a10)))
def m_X12_data1_j18 (a_tape : Nat → Int32) (s1 : Int32) (F_t : Nat → Int32) (a_memory1 : Nat → Int32) : Option ((Nat → Int32) × (Nat → Int32)) :=
  bd (m_X12_wants F_t s1 1) fun u2 =>
  if u2.1 = 0 then (
  some (u2.2, a_memory1))
  else (
  bd (m_X12_within (u2.2 36) 0 9) fun u3 =>
  bd (m_X12_wants u2.2 u3 2) fun u4 =>
  if u4.1 = 0 then (
  some (u4.2, a_memory1))
  else (
  if (((u4.2 46) >>> ((u4.2 36) &&& 31)) &&& 1) = 0 then (
  m_X12_data1_j63 a_tape 1 u4.2 a_memory1)
  else (
  m_X12_data1_j63 a_tape 0 u4.2 a_memory1)))
def m_X12_data1 (F_t : Nat → Int32) (a_tape : Nat → Int32) (a_memory1 : Nat → Int32) : Option ((Nat → Int32) × (Nat → Int32)) :=
  bd (m_X12_go F_t a_tape) fun u1 =>
  if (u1 35) = 2 then (
  m_X12_data1_j18 a_tape 1 u1 a_memory1)
  else (
  m_X12_data1_j18 a_tape 0 u1 a_memory1)
set_option maxHeartbeats 4000000 in
set_option maxRecDepth 100000 in
theorem c_X12_data1 (l : Launch) (D : va_G) (cI : ClassId) (h_t : Nat) (r_t : Nat → Nat) (F_t : Nat → Int32) (a_tape : Nat → Int32) (a_memory1 : Nat → Int32) (Rr : (Nat → Int32) × (Nat → Int32)) (hf : m_X12_data1 F_t a_tape a_memory1 = some Rr) : CTv l yX12_data1 (Cond.code yX12_data1 cX12_data1 2 none) rm_X12_data1 D cI [.ref h_t] (w_X12_data1 h_t r_t F_t cI a_tape a_memory1) (w_X12_data1 h_t r_t Rr.1 cI a_tape Rr.2) := by
  refine z_begin_v (own := RX12) (ρ := (Nat → Int32) × (Nat → Int32)) (fun u => w_X12_data1 h_t r_t u.1 cI a_tape u.2) (by decide +kernel) rfl (Nat.le_of_ble_eq_true rfl) ?_
  intro p e s m args below meth c ls Q A hx hb hml hts hcx hown hK hX hA hP hD hS hl hret
  have hl : lv_has ls 2 [(0, .ref h_t)] := hl
  have hf := (m_X12_data1.eq_1 _ _ _).symm.trans hf
  have L63 : ∀ (s1 : Int32) (F_t : Nat → Int32) (a_memory1 : Nat → Int32) (H : Heap) (locs : List Loc) (ls : Array Slot), m_X12_data1_j63 a_tape s1 F_t a_memory1 = some Rr → va_P D vwCl (w_X12_data1 h_t r_t F_t cI a_tape a_memory1) H → va_D A (w_X12_data1 h_t r_t F_t cI a_tape a_memory1) → va_S A s.heap H locs → lv_has ls 2 [(0, .ref h_t)] → W p l e rm_X12_data1 s m args below meth c H locs 0 0 Q (F0 m 63 ls [.int s1, .ref h_t]) := by
    intro s1 F_t a_memory1 H locs ls hf hP hD hS hl
    have hf := (m_X12_data1_j63.eq_1 _ _ _ _).symm.trans hf
    refine lv_iconst (v := 3) hx hb dX12_data1_63 (by decide) ?_
    obtain ⟨u5, hu5, hf⟩ := bd_some hf
    refine z_ci (ws1 := w_X12_data1 h_t r_t u5.2 cI a_tape a_memory1) (wr := List.filterMap (fun i : Nat => (w_X12_data1 h_t r_t F_t cI a_tape a_memory1)[i]?) [1, 2]) (z_rV (rest := []) hx hb hml hown hcx hl.1 (c_X12_wants l D cI h_t r_t F_t s1 3 u5 hu5 _) tl_X12_270 ti_X12_wants tz_X12_wants tn_X12 tc_X12_wants tm_X12_wants rfl rfl ⟨Nat.le_of_ble_eq_true rfl, Nat.le_of_ble_eq_true rfl⟩ hK hX hS hA hP hD [0] rfl rfl 0 rfl rfl rfl rfl (Nat.le_of_ble_eq_true rfl) dX12_data1_64 ⟨Nat.zero_le _, Nat.zero_le _⟩) hP hD hS hA [0] [1, 2] [2, 0, 1] rfl rfl rfl (by decide) rfl rfl (fun H locs hP hD hS => ?_)
    refine z_if_ne (tgt := 71) hx hb dX12_data1_67 (by decide) hf (fun hf => ?_) (fun hf => ?_)
    · refine lv_aload_n hx hb dX12_data1_71 rfl (lv_at hl 0 rfl) ?_
      refine lv_dup hx hb dX12_data1_72 rfl ?_
      refine z_get (ci := 12) (C := RX12) (T := TX12) (N := 51) (v := .int (u5.2 46)) hx hb hts inT_X12 hown hK hP 0 rfl rfl 46 (by decide) tf_X12_286 rfl dX12_data1_73 ?_
      refine lv_iconst (v := 1) hx hb dX12_data1_76 (by decide) ?_
      refine lv_aload_n hx hb dX12_data1_77 rfl (lv_at hl 0 rfl) ?_
      refine z_get (ci := 12) (C := RX12) (T := TX12) (N := 51) (v := .int (u5.2 36)) hx hb hts inT_X12 hown hK hP 0 rfl rfl 36 (by decide) tf_X12_255 rfl dX12_data1_78 ?_
      refine lv_ishl hx hb dX12_data1_81 ?_
      refine lv_ior hx hb dX12_data1_82 ?_
      refine z_put (ci := 12) (C := RX12) (T := TX12) (N := 51) hx hb hts inT_X12 tyX12 tyX12_ok nmX12 hown hK hP hD hS 0 rfl rfl 46 (by decide) tf_X12_286 rfl (by decide +kernel) (Nat.le_of_ble_eq_true rfl) (o_X12 r_t) (o_X12_s46 _ _ _) (fun z => w_X12_data1 h_t r_t z cI a_tape a_memory1) (fun _ => rfl) dX12_data1_83 hf (fun F6 H locs hf hP hD hS => ?_)
      refine lv_aload_n hx hb dX12_data1_86 rfl (lv_at hl 0 rfl) ?_
      refine z_get (ci := 12) (C := RX12) (T := TX12) (N := 51) (v := .int (F6 36)) hx hb hts inT_X12 hown hK hP 0 rfl rfl 36 (by decide) tf_X12_255 rfl dX12_data1_87 ?_
      obtain ⟨u7, hu7, hf⟩ := bd_some hf
      refine z_ci (ws1 := w_X12_data1 h_t r_t F6 cI a_tape a_memory1) (wr := List.filterMap (fun i : Nat => (w_X12_data1 h_t r_t F6 cI a_tape a_memory1)[i]?) [0, 1, 2]) (z_rS (rest := []) hx hb hml hown hcx hl.1 (c_X12_block l D cI (F6 36) u7 hu7 _) tl_X12_76 ts_X12_block tn_X12 tc_X12_block tm_X12_block rfl rfl ⟨Nat.le_of_ble_eq_true rfl, Nat.le_of_ble_eq_true rfl⟩ hK hX hS hA hP hD [] rfl rfl rfl rfl (Nat.le_of_ble_eq_true rfl) dX12_data1_90 ⟨Nat.zero_le _, Nat.zero_le _⟩) hP hD hS hA [] [0, 1, 2] [0, 1, 2] rfl rfl rfl (by decide) rfl rfl (fun H locs hP hD hS => ?_)
      refine lv_istore_n (lv' := [(1, .int u7), (0, .ref h_t)]) hx hb dX12_data1_93 rfl hl (by decide) rfl (fun ls hl => ?_)
      refine lv_aload_n hx hb dX12_data1_94 rfl (lv_at hl 1 rfl) ?_
      obtain ⟨u8, hu8, hf⟩ := bd_some hf
      refine z_cv (ws1 := w_X12_data1 h_t r_t u8 cI a_tape a_memory1) (wr := List.filterMap (fun i : Nat => (w_X12_data1 h_t r_t F6 cI a_tape a_memory1)[i]?) [2]) (z_rV (rest := []) hx hb hml hown hcx hl.1 (c_X12_go l D cI h_t r_t F6 a_tape u8 hu8 _) tl_X12_274 ti_X12_go tz_X12_go tn_X12 tc_X12_go tm_X12_go rfl rfl ⟨Nat.le_of_ble_eq_true rfl, Nat.le_of_ble_eq_true rfl⟩ hK hX hS hA hP hD [0, 1] rfl rfl 0 rfl rfl rfl rfl (Nat.le_of_ble_eq_true rfl) dX12_data1_95 ⟨Nat.zero_le _, Nat.zero_le _⟩) hP hD hS hA [0, 1] [2] [1, 2, 0] rfl rfl rfl (by decide) rfl rfl (fun H locs hP hD hS => ?_)
      refine lv_aload_n hx hb dX12_data1_98 rfl (lv_at hl 1 rfl) ?_
      refine z_get (ci := 12) (C := RX12) (T := TX12) (N := 51) (v := .ref (r_t 39)) hx hb hts inT_X12 hown hK hP 0 rfl rfl 39 (by decide) tf_X12_51 rfl dX12_data1_99 ?_
      refine lv_iload_n hx hb dX12_data1_102 rfl (lv_at hl 0 rfl) ?_
      refine lv_iconst (v := 2) hx hb dX12_data1_103 (by decide) ?_
      refine lv_iadd hx hb dX12_data1_104 ?_
      refine lv_aload_n hx hb dX12_data1_105 rfl (lv_at hl 1 rfl) ?_
      refine lv_iconst (v := 0) hx hb dX12_data1_106 (by decide) ?_
      refine lv_bipush (v := 99) hx hb dX12_data1_107 (by decide) ?_
      obtain ⟨u9, hu9, hf⟩ := bd_some hf
      refine z_ci (ws1 := w_X12_data1 h_t r_t u9.2 cI a_tape a_memory1) (wr := List.filterMap (fun i : Nat => (w_X12_data1 h_t r_t u8 cI a_tape a_memory1)[i]?) [2]) (z_rV (rest := [.int (u7 + 2), .ref (r_t 39)]) hx hb hml hown hcx hl.1 (c_X12_numberHere l D cI h_t r_t u8 a_tape 0 99 u9 hu9 _) tl_X12_289 ti_X12_numberHere tz_X12_numberHere tn_X12 tc_X12_numberHere tm_X12_numberHere rfl rfl ⟨Nat.le_of_ble_eq_true rfl, Nat.le_of_ble_eq_true rfl⟩ hK hX hS hA hP hD [0, 1] rfl rfl 0 rfl rfl rfl rfl (Nat.le_of_ble_eq_true rfl) dX12_data1_109 ⟨Nat.zero_le _, Nat.zero_le _⟩) hP hD hS hA [0, 1] [2] [1, 2, 0] rfl rfl rfl (by decide) rfl rfl (fun H locs hP hD hS => ?_)
      refine z_iast hx hb hK hP hD hS 2 rfl (fun z => w_X12_data1 h_t r_t u9.2 cI a_tape z) (fun _ => rfl) dX12_data1_112 hf (fun a10 H locs hf hP hD hS => ?_)
      refine lv_aload_n hx hb dX12_data1_113 rfl (lv_at hl 1 rfl) ?_
      refine z_get (ci := 12) (C := RX12) (T := TX12) (N := 51) (v := .int (u9.2 38)) hx hb hts inT_X12 hown hK hP 0 rfl rfl 38 (by decide) tf_X12_267 rfl dX12_data1_114 ?_
      refine z_if_ne (tgt := 135) hx hb dX12_data1_117 (by decide) hf (fun hf => ?_) (fun hf => ?_)
      · exact hret (u9.2, a10) _ _ _ _ hf hP hD hS dX12_data1_135
      · refine lv_aload_n hx hb dX12_data1_120 rfl (lv_at hl 1 rfl) ?_
        refine z_get (ci := 12) (C := RX12) (T := TX12) (N := 51) (v := .ref (r_t 39)) hx hb hts inT_X12 hown hK hP 0 rfl rfl 39 (by decide) tf_X12_51 rfl dX12_data1_121 ?_
        refine lv_iload_n hx hb dX12_data1_124 rfl (lv_at hl 0 rfl) ?_
        refine lv_iconst (v := 3) hx hb dX12_data1_125 (by decide) ?_
        refine lv_iadd hx hb dX12_data1_126 ?_
        refine lv_aload_n hx hb dX12_data1_127 rfl (lv_at hl 1 rfl) ?_
        refine lv_iconst (v := 0) hx hb dX12_data1_128 (by decide) ?_
        refine lv_bipush (v := 99) hx hb dX12_data1_129 (by decide) ?_
        obtain ⟨u11, hu11, hf⟩ := bd_some hf
        refine z_ci (ws1 := w_X12_data1 h_t r_t u11.2 cI a_tape a10) (wr := List.filterMap (fun i : Nat => (w_X12_data1 h_t r_t u9.2 cI a_tape a10)[i]?) [2]) (z_rV (rest := [.int (u7 + 3), .ref (r_t 39)]) hx hb hml hown hcx hl.1 (c_X12_numberHere l D cI h_t r_t u9.2 a_tape 0 99 u11 hu11 _) tl_X12_289 ti_X12_numberHere tz_X12_numberHere tn_X12 tc_X12_numberHere tm_X12_numberHere rfl rfl ⟨Nat.le_of_ble_eq_true rfl, Nat.le_of_ble_eq_true rfl⟩ hK hX hS hA hP hD [0, 1] rfl rfl 0 rfl rfl rfl rfl (Nat.le_of_ble_eq_true rfl) dX12_data1_131 ⟨Nat.zero_le _, Nat.zero_le _⟩) hP hD hS hA [0, 1] [2] [1, 2, 0] rfl rfl rfl (by decide) rfl rfl (fun H locs hP hD hS => ?_)
        refine z_iast hx hb hK hP hD hS 2 rfl (fun z => w_X12_data1 h_t r_t u11.2 cI a_tape z) (fun _ => rfl) dX12_data1_134 hf (fun a12 H locs hf hP hD hS => ?_)
        exact hret (u11.2, a12) _ _ _ _ hf hP hD hS dX12_data1_135
    · exact hret (u5.2, a_memory1) _ _ _ _ hf hP hD hS dX12_data1_70
  have L18 : ∀ (s1 : Int32) (F_t : Nat → Int32) (a_memory1 : Nat → Int32) (H : Heap) (locs : List Loc) (ls : Array Slot), m_X12_data1_j18 a_tape s1 F_t a_memory1 = some Rr → va_P D vwCl (w_X12_data1 h_t r_t F_t cI a_tape a_memory1) H → va_D A (w_X12_data1 h_t r_t F_t cI a_tape a_memory1) → va_S A s.heap H locs → lv_has ls 2 [(0, .ref h_t)] → W p l e rm_X12_data1 s m args below meth c H locs 0 0 Q (F0 m 18 ls [.int s1, .ref h_t]) := by
    intro s1 F_t a_memory1 H locs ls hf hP hD hS hl
    have hf := (m_X12_data1_j18.eq_1 _ _ _ _).symm.trans hf
    refine lv_iconst (v := 1) hx hb dX12_data1_18 (by decide) ?_
    obtain ⟨u2, hu2, hf⟩ := bd_some hf
    refine z_ci (ws1 := w_X12_data1 h_t r_t u2.2 cI a_tape a_memory1) (wr := List.filterMap (fun i : Nat => (w_X12_data1 h_t r_t F_t cI a_tape a_memory1)[i]?) [1, 2]) (z_rV (rest := []) hx hb hml hown hcx hl.1 (c_X12_wants l D cI h_t r_t F_t s1 1 u2 hu2 _) tl_X12_270 ti_X12_wants tz_X12_wants tn_X12 tc_X12_wants tm_X12_wants rfl rfl ⟨Nat.le_of_ble_eq_true rfl, Nat.le_of_ble_eq_true rfl⟩ hK hX hS hA hP hD [0] rfl rfl 0 rfl rfl rfl rfl (Nat.le_of_ble_eq_true rfl) dX12_data1_19 ⟨Nat.zero_le _, Nat.zero_le _⟩) hP hD hS hA [0] [1, 2] [2, 0, 1] rfl rfl rfl (by decide) rfl rfl (fun H locs hP hD hS => ?_)
    refine z_if_eq (tgt := 70) hx hb dX12_data1_22 (by decide) hf (fun hf => ?_) (fun hf => ?_)
    · exact hret (u2.2, a_memory1) _ _ _ _ hf hP hD hS dX12_data1_70
    · refine lv_aload_n hx hb dX12_data1_25 rfl (lv_at hl 0 rfl) ?_
      refine lv_aload_n hx hb dX12_data1_26 rfl (lv_at hl 0 rfl) ?_
      refine z_get (ci := 12) (C := RX12) (T := TX12) (N := 51) (v := .int (u2.2 36)) hx hb hts inT_X12 hown hK hP 0 rfl rfl 36 (by decide) tf_X12_255 rfl dX12_data1_27 ?_
      refine lv_iconst (v := 0) hx hb dX12_data1_30 (by decide) ?_
      refine lv_bipush (v := 9) hx hb dX12_data1_31 (by decide) ?_
      obtain ⟨u3, hu3, hf⟩ := bd_some hf
      refine z_ci (ws1 := w_X12_data1 h_t r_t u2.2 cI a_tape a_memory1) (wr := List.filterMap (fun i : Nat => (w_X12_data1 h_t r_t u2.2 cI a_tape a_memory1)[i]?) [0, 1, 2]) (z_rS (rest := [.ref h_t]) hx hb hml hown hcx hl.1 (c_X12_within l D cI (u2.2 36) 0 9 u3 hu3 _) tl_X12_172 ts_X12_within tn_X12 tc_X12_within tm_X12_within rfl rfl ⟨Nat.le_of_ble_eq_true rfl, Nat.le_of_ble_eq_true rfl⟩ hK hX hS hA hP hD [] rfl rfl rfl rfl (Nat.le_of_ble_eq_true rfl) dX12_data1_33 ⟨Nat.zero_le _, Nat.zero_le _⟩) hP hD hS hA [] [0, 1, 2] [0, 1, 2] rfl rfl rfl (by decide) rfl rfl (fun H locs hP hD hS => ?_)
      refine lv_iconst (v := 2) hx hb dX12_data1_36 (by decide) ?_
      obtain ⟨u4, hu4, hf⟩ := bd_some hf
      refine z_ci (ws1 := w_X12_data1 h_t r_t u4.2 cI a_tape a_memory1) (wr := List.filterMap (fun i : Nat => (w_X12_data1 h_t r_t u2.2 cI a_tape a_memory1)[i]?) [1, 2]) (z_rV (rest := []) hx hb hml hown hcx hl.1 (c_X12_wants l D cI h_t r_t u2.2 u3 2 u4 hu4 _) tl_X12_270 ti_X12_wants tz_X12_wants tn_X12 tc_X12_wants tm_X12_wants rfl rfl ⟨Nat.le_of_ble_eq_true rfl, Nat.le_of_ble_eq_true rfl⟩ hK hX hS hA hP hD [0] rfl rfl 0 rfl rfl rfl rfl (Nat.le_of_ble_eq_true rfl) dX12_data1_37 ⟨Nat.zero_le _, Nat.zero_le _⟩) hP hD hS hA [0] [1, 2] [2, 0, 1] rfl rfl rfl (by decide) rfl rfl (fun H locs hP hD hS => ?_)
      refine z_if_eq (tgt := 70) hx hb dX12_data1_40 (by decide) hf (fun hf => ?_) (fun hf => ?_)
      · exact hret (u4.2, a_memory1) _ _ _ _ hf hP hD hS dX12_data1_70
      · refine lv_aload_n hx hb dX12_data1_43 rfl (lv_at hl 0 rfl) ?_
        refine lv_aload_n hx hb dX12_data1_44 rfl (lv_at hl 0 rfl) ?_
        refine z_get (ci := 12) (C := RX12) (T := TX12) (N := 51) (v := .int (u4.2 46)) hx hb hts inT_X12 hown hK hP 0 rfl rfl 46 (by decide) tf_X12_286 rfl dX12_data1_45 ?_
        refine lv_aload_n hx hb dX12_data1_48 rfl (lv_at hl 0 rfl) ?_
        refine z_get (ci := 12) (C := RX12) (T := TX12) (N := 51) (v := .int (u4.2 36)) hx hb hts inT_X12 hown hK hP 0 rfl rfl 36 (by decide) tf_X12_255 rfl dX12_data1_49 ?_
        refine lv_ishr hx hb dX12_data1_52 ?_
        refine lv_iconst (v := 1) hx hb dX12_data1_53 (by decide) ?_
        refine lv_iand hx hb dX12_data1_54 ?_
        refine z_if_ne (tgt := 62) hx hb dX12_data1_55 (by decide) hf (fun hf => ?_) (fun hf => ?_)
        · refine lv_iconst (v := 0) hx hb dX12_data1_62 (by decide) ?_
          exact L63 0 u4.2 a_memory1 _ _ _ hf hP hD hS (lv_sub hl [0] rfl)
        · refine lv_iconst (v := 1) hx hb dX12_data1_58 (by decide) ?_
          refine lv_goto (tgt := 63) hx hb dX12_data1_59 (by decide) ?_
          exact L63 1 u4.2 a_memory1 _ _ _ hf hP hD hS (lv_sub hl [0] rfl)
  refine lv_aload_n hx hb dX12_data1_0 rfl (lv_at hl 0 rfl) ?_
  obtain ⟨u1, hu1, hf⟩ := bd_some hf
  refine z_cv (ws1 := w_X12_data1 h_t r_t u1 cI a_tape a_memory1) (wr := List.filterMap (fun i : Nat => (w_X12_data1 h_t r_t F_t cI a_tape a_memory1)[i]?) [2]) (z_rV (rest := []) hx hb hml hown hcx hl.1 (c_X12_go l D cI h_t r_t F_t a_tape u1 hu1 _) tl_X12_274 ti_X12_go tz_X12_go tn_X12 tc_X12_go tm_X12_go rfl rfl ⟨Nat.le_of_ble_eq_true rfl, Nat.le_of_ble_eq_true rfl⟩ hK hX hS hA hP hD [0, 1] rfl rfl 0 rfl rfl rfl rfl (Nat.le_of_ble_eq_true rfl) dX12_data1_1 ⟨Nat.zero_le _, Nat.zero_le _⟩) hP hD hS hA [0, 1] [2] [1, 2, 0] rfl rfl rfl (by decide) rfl rfl (fun H locs hP hD hS => ?_)
  refine lv_aload_n hx hb dX12_data1_4 rfl (lv_at hl 0 rfl) ?_
  refine lv_aload_n hx hb dX12_data1_5 rfl (lv_at hl 0 rfl) ?_
  refine z_get (ci := 12) (C := RX12) (T := TX12) (N := 51) (v := .int (u1 35)) hx hb hts inT_X12 hown hK hP 0 rfl rfl 35 (by decide) tf_X12_258 rfl dX12_data1_6 ?_
  refine lv_iconst (v := 2) hx hb dX12_data1_9 (by decide) ?_
  refine z_icmp_ne (tgt := 17) hx hb dX12_data1_10 (by decide) hf (fun hf => ?_) (fun hf => ?_)
  · refine lv_iconst (v := 0) hx hb dX12_data1_17 (by decide) ?_
    exact L18 0 u1 a_memory1 _ _ _ hf hP hD hS (lv_sub hl [0] rfl)
  · refine lv_iconst (v := 1) hx hb dX12_data1_13 (by decide) ?_
    refine lv_goto (tgt := 18) hx hb dX12_data1_14 (by decide) ?_
    exact L18 1 u1 a_memory1 _ _ _ hf hP hD hS (lv_sub hl [0] rfl)
abbrev w_X12_op1 (h_t : Nat) (r_t : Nat → Nat) (F_t : Nat → Int32) (cI : ClassId) (a_tape : Nat → Int32) (a_wait1 : Nat → Int32) : va_W := [(h_t, .inr (12, o_X12 r_t F_t)), ((r_t 13), .inl (cI, 700, .inl a_tape)), ((r_t 40), .inl (cI, 156, .inl a_wait1))]
abbrev rm_X12_op1 : Room := { frames := 4, cells := 0, slots := 0, locals := 91 }
def m_X12_op1_j137 (a_tape : Nat → Int32) (p1 : Int32) (x2 : Int32) (x3 : Int32) (x4 : Int32) (F_t : Nat → Int32) (a_wait1 : Nat → Int32) : Option ((Nat → Int32) × (Nat → Int32)) :=
  rd a_wait1 156 p1 fun y3 =>
  wr a_wait1 156 ((p1 + (3 * y3)) + 1) x2 fun a4 =>
  rd a4 156 p1 fun y5 =>
  wr a4 156 ((p1 + (3 * y5)) + 2) x3 fun a6 =>
  rd a6 156 p1 fun y7 =>
  wr a6 156 ((p1 + (3 * y7)) + 3) x4 fun a8 =>
  rd a8 156 p1 fun y9 =>
  wr a8 156 p1 (y9 + 1) fun a10 =>
  some (F_t, a10)
def m_X12_op1_j128 (a_tape : Nat → Int32) (p1 : Int32) (x2 : Int32) (x3 : Int32) (F_t : Nat → Int32) (a_wait1 : Nat → Int32) : Option ((Nat → Int32) × (Nat → Int32)) :=
  bd (m_X12_numberHere F_t a_tape 0 99) fun u11 =>
  m_X12_op1_j137 a_tape p1 x2 x3 u11.1 u11.2 a_wait1
def m_X12_op1_j112 (a_tape : Nat → Int32) (p1 : Int32) (x2 : Int32) (x3 : Int32) (x4 : Int32) (F_t : Nat → Int32) (a_wait1 : Nat → Int32) : Option ((Nat → Int32) × (Nat → Int32)) :=
  if (F_t 38) = 0 then (
  if x2 = 0 then (
  m_X12_op1_j128 a_tape p1 x2 x3 F_t a_wait1)
  else (
  if x2 = 3 then (
  m_X12_op1_j128 a_tape p1 x2 x3 F_t a_wait1)
  else (
  m_X12_op1_j137 a_tape p1 x2 x3 x4 F_t a_wait1)))
  else (
  m_X12_op1_j137 a_tape p1 x2 x3 x4 F_t a_wait1)
def m_X12_op1_j89 (a_tape : Nat → Int32) (p1 : Int32) (x2 : Int32) (x3 : Int32) (x4 : Int32) (s1 : Int32) (F_t : Nat → Int32) (a_wait1 : Nat → Int32) : Option ((Nat → Int32) × (Nat → Int32)) :=
  bd (m_X12_wants F_t s1 3) fun u12 =>
  if (u12.2 38) = 0 then (
  bd (m_X12_numberHere u12.2 a_tape 0 3) fun u13 =>
  m_X12_op1_j137 a_tape p1 x2 x3 u13.1 u13.2 a_wait1)
  else (
  m_X12_op1_j137 a_tape p1 x2 x3 x4 u12.2 a_wait1)
def m_X12_op1_j84 (a_tape : Nat → Int32) (p1 : Int32) (x2 : Int32) (x3 : Int32) (x4 : Int32) (F_t : Nat → Int32) (a_wait1 : Nat → Int32) : Option ((Nat → Int32) × (Nat → Int32)) :=
  m_X12_op1_j89 a_tape p1 x2 x3 x4 1 F_t a_wait1
def m_X12_op1_j43 (a_tape : Nat → Int32) (p1 : Int32) (x2 : Int32) (x3 : Int32) (x4 : Int32) (F_t : Nat → Int32) (a_wait1 : Nat → Int32) : Option ((Nat → Int32) × (Nat → Int32)) :=
  if (F_t 38) = 0 then (
  if x2 = 2 then (
  if (F_t 35) = 2 then (
  bd (m_X12_within (F_t 36) 0 3) fun u14 =>
  if u14 = 0 then (
  m_X12_op1_j84 a_tape p1 x2 x3 x4 F_t a_wait1)
  else (
  if (F_t 36) = x3 then (
  m_X12_op1_j89 a_tape p1 x2 x3 x4 0 F_t a_wait1)
  else (
  m_X12_op1_j84 a_tape p1 x2 x3 x4 F_t a_wait1)))
  else (
  m_X12_op1_j84 a_tape p1 x2 x3 x4 F_t a_wait1))
  else (
  m_X12_op1_j112 a_tape p1 x2 x3 x4 F_t a_wait1))
  else (
  m_X12_op1_j112 a_tape p1 x2 x3 x4 F_t a_wait1)
def m_X12_op1_j29 (a_tape : Nat → Int32) (p1 : Int32) (x2 : Int32) (x3 : Int32) (x4 : Int32) (F_t : Nat → Int32) (a_wait1 : Nat → Int32) : Option ((Nat → Int32) × (Nat → Int32)) :=
  if x2 = 3 then (
  bd (m_X12_numberHere F_t a_tape 20 63) fun u15 =>
  m_X12_op1_j43 a_tape p1 x2 u15.1 x4 u15.2 a_wait1)
  else (
  m_X12_op1_j43 a_tape p1 x2 x3 x4 F_t a_wait1)
def m_X12_op1 (F_t : Nat → Int32) (a_tape : Nat → Int32) (a_wait1 : Nat → Int32) (p1 : Int32) : Option ((Nat → Int32) × (Nat → Int32)) :=
  nm ((F_t 37) - 7) fun v1 =>
  bd (m_X12_go F_t a_tape) fun u2 =>
  if 3 ≤ v1 then (
  m_X12_op1_j29 a_tape p1 v1 0 0 u2 a_wait1)
  else (
  bd (m_X12_numberHere u2 a_tape 0 3) fun u16 =>
  m_X12_op1_j29 a_tape p1 v1 u16.1 0 u16.2 a_wait1)
set_option maxHeartbeats 4000000 in
set_option maxRecDepth 100000 in
theorem c_X12_op1 (l : Launch) (D : va_G) (cI : ClassId) (h_t : Nat) (r_t : Nat → Nat) (F_t : Nat → Int32) (a_tape : Nat → Int32) (a_wait1 : Nat → Int32) (p1 : Int32) (Rr : (Nat → Int32) × (Nat → Int32)) (hf : m_X12_op1 F_t a_tape a_wait1 p1 = some Rr) : CTv l yX12_op1 (Cond.code yX12_op1 cX12_op1 5 none) rm_X12_op1 D cI [.ref h_t, .int p1] (w_X12_op1 h_t r_t F_t cI a_tape a_wait1) (w_X12_op1 h_t r_t Rr.1 cI a_tape Rr.2) := by
  refine z_begin_v (own := RX12) (ρ := (Nat → Int32) × (Nat → Int32)) (fun u => w_X12_op1 h_t r_t u.1 cI a_tape u.2) (by decide +kernel) rfl (Nat.le_of_ble_eq_true rfl) ?_
  intro p e s m args below meth c ls Q A hx hb hml hts hcx hown hK hX hA hP hD hS hl hret
  have hl : lv_has ls 5 [(0, .ref h_t), (1, .int p1)] := hl
  have hf := (m_X12_op1.eq_1 _ _ _ _).symm.trans hf
  have L137 : ∀ (x2 : Int32) (x3 : Int32) (x4 : Int32) (F_t : Nat → Int32) (a_wait1 : Nat → Int32) (H : Heap) (locs : List Loc) (ls : Array Slot), m_X12_op1_j137 a_tape p1 x2 x3 x4 F_t a_wait1 = some Rr → va_P D vwCl (w_X12_op1 h_t r_t F_t cI a_tape a_wait1) H → va_D A (w_X12_op1 h_t r_t F_t cI a_tape a_wait1) → va_S A s.heap H locs → lv_has ls 5 [(0, .ref h_t), (1, .int p1), (2, .int x2), (3, .int x3), (4, .int x4)] → W p l e rm_X12_op1 s m args below meth c H locs 0 0 Q (F0 m 137 ls []) := by
    intro x2 x3 x4 F_t a_wait1 H locs ls hf hP hD hS hl
    have hf := (m_X12_op1_j137.eq_1 _ _ _ _ _ _ _).symm.trans hf
    refine lv_aload_n hx hb dX12_op1_137 rfl (lv_at hl 0 rfl) ?_
    refine z_get (ci := 12) (C := RX12) (T := TX12) (N := 51) (v := .ref (r_t 40)) hx hb hts inT_X12 hown hK hP 0 rfl rfl 40 (by decide) tf_X12_54 rfl dX12_op1_138 ?_
    refine lv_iload_n hx hb dX12_op1_141 rfl (lv_at hl 1 rfl) ?_
    refine lv_iconst (v := 3) hx hb dX12_op1_142 (by decide) ?_
    refine lv_aload_n hx hb dX12_op1_143 rfl (lv_at hl 0 rfl) ?_
    refine z_get (ci := 12) (C := RX12) (T := TX12) (N := 51) (v := .ref (r_t 40)) hx hb hts inT_X12 hown hK hP 0 rfl rfl 40 (by decide) tf_X12_54 rfl dX12_op1_144 ?_
    refine lv_iload_n hx hb dX12_op1_147 rfl (lv_at hl 1 rfl) ?_
    refine z_iald hx hb hK hP 2 rfl dX12_op1_148 hf (fun y3 hf => ?_)
    refine lv_imul hx hb dX12_op1_149 ?_
    refine lv_iadd hx hb dX12_op1_150 ?_
    refine lv_iconst (v := 1) hx hb dX12_op1_151 (by decide) ?_
    refine lv_iadd hx hb dX12_op1_152 ?_
    refine lv_iload_n hx hb dX12_op1_153 rfl (lv_at hl 2 rfl) ?_
    refine z_iast hx hb hK hP hD hS 2 rfl (fun z => w_X12_op1 h_t r_t F_t cI a_tape z) (fun _ => rfl) dX12_op1_154 hf (fun a4 H locs hf hP hD hS => ?_)
    refine lv_aload_n hx hb dX12_op1_155 rfl (lv_at hl 0 rfl) ?_
    refine z_get (ci := 12) (C := RX12) (T := TX12) (N := 51) (v := .ref (r_t 40)) hx hb hts inT_X12 hown hK hP 0 rfl rfl 40 (by decide) tf_X12_54 rfl dX12_op1_156 ?_
    refine lv_iload_n hx hb dX12_op1_159 rfl (lv_at hl 1 rfl) ?_
    refine lv_iconst (v := 3) hx hb dX12_op1_160 (by decide) ?_
    refine lv_aload_n hx hb dX12_op1_161 rfl (lv_at hl 0 rfl) ?_
    refine z_get (ci := 12) (C := RX12) (T := TX12) (N := 51) (v := .ref (r_t 40)) hx hb hts inT_X12 hown hK hP 0 rfl rfl 40 (by decide) tf_X12_54 rfl dX12_op1_162 ?_
    refine lv_iload_n hx hb dX12_op1_165 rfl (lv_at hl 1 rfl) ?_
    refine z_iald hx hb hK hP 2 rfl dX12_op1_166 hf (fun y5 hf => ?_)
    refine lv_imul hx hb dX12_op1_167 ?_
    refine lv_iadd hx hb dX12_op1_168 ?_
    refine lv_iconst (v := 2) hx hb dX12_op1_169 (by decide) ?_
    refine lv_iadd hx hb dX12_op1_170 ?_
    refine lv_iload_n hx hb dX12_op1_171 rfl (lv_at hl 3 rfl) ?_
    refine z_iast hx hb hK hP hD hS 2 rfl (fun z => w_X12_op1 h_t r_t F_t cI a_tape z) (fun _ => rfl) dX12_op1_172 hf (fun a6 H locs hf hP hD hS => ?_)
    refine lv_aload_n hx hb dX12_op1_173 rfl (lv_at hl 0 rfl) ?_
    refine z_get (ci := 12) (C := RX12) (T := TX12) (N := 51) (v := .ref (r_t 40)) hx hb hts inT_X12 hown hK hP 0 rfl rfl 40 (by decide) tf_X12_54 rfl dX12_op1_174 ?_
    refine lv_iload_n hx hb dX12_op1_177 rfl (lv_at hl 1 rfl) ?_
    refine lv_iconst (v := 3) hx hb dX12_op1_178 (by decide) ?_
    refine lv_aload_n hx hb dX12_op1_179 rfl (lv_at hl 0 rfl) ?_
    refine z_get (ci := 12) (C := RX12) (T := TX12) (N := 51) (v := .ref (r_t 40)) hx hb hts inT_X12 hown hK hP 0 rfl rfl 40 (by decide) tf_X12_54 rfl dX12_op1_180 ?_
    refine lv_iload_n hx hb dX12_op1_183 rfl (lv_at hl 1 rfl) ?_
    refine z_iald hx hb hK hP 2 rfl dX12_op1_184 hf (fun y7 hf => ?_)
    refine lv_imul hx hb dX12_op1_185 ?_
    refine lv_iadd hx hb dX12_op1_186 ?_
    refine lv_iconst (v := 3) hx hb dX12_op1_187 (by decide) ?_
    refine lv_iadd hx hb dX12_op1_188 ?_
    refine lv_iload hx hb dX12_op1_189 (lv_at hl 4 rfl) ?_
    refine z_iast hx hb hK hP hD hS 2 rfl (fun z => w_X12_op1 h_t r_t F_t cI a_tape z) (fun _ => rfl) dX12_op1_191 hf (fun a8 H locs hf hP hD hS => ?_)
    refine lv_aload_n hx hb dX12_op1_192 rfl (lv_at hl 0 rfl) ?_
    refine z_get (ci := 12) (C := RX12) (T := TX12) (N := 51) (v := .ref (r_t 40)) hx hb hts inT_X12 hown hK hP 0 rfl rfl 40 (by decide) tf_X12_54 rfl dX12_op1_193 ?_
    refine lv_iload_n hx hb dX12_op1_196 rfl (lv_at hl 1 rfl) ?_
    refine lv_dup2_11 hx hb dX12_op1_197 rfl rfl ?_
    refine z_iald hx hb hK hP 2 rfl dX12_op1_198 hf (fun y9 hf => ?_)
    refine lv_iconst (v := 1) hx hb dX12_op1_199 (by decide) ?_
    refine lv_iadd hx hb dX12_op1_200 ?_
    refine z_iast hx hb hK hP hD hS 2 rfl (fun z => w_X12_op1 h_t r_t F_t cI a_tape z) (fun _ => rfl) dX12_op1_201 hf (fun a10 H locs hf hP hD hS => ?_)
    exact hret (F_t, a10) _ _ _ _ hf hP hD hS dX12_op1_202
  have L128 : ∀ (x2 : Int32) (x3 : Int32) (F_t : Nat → Int32) (a_wait1 : Nat → Int32) (H : Heap) (locs : List Loc) (ls : Array Slot), m_X12_op1_j128 a_tape p1 x2 x3 F_t a_wait1 = some Rr → va_P D vwCl (w_X12_op1 h_t r_t F_t cI a_tape a_wait1) H → va_D A (w_X12_op1 h_t r_t F_t cI a_tape a_wait1) → va_S A s.heap H locs → lv_has ls 5 [(0, .ref h_t), (1, .int p1), (2, .int x2), (3, .int x3)] → W p l e rm_X12_op1 s m args below meth c H locs 0 0 Q (F0 m 128 ls []) := by
    intro x2 x3 F_t a_wait1 H locs ls hf hP hD hS hl
    have hf := (m_X12_op1_j128.eq_1 _ _ _ _ _ _).symm.trans hf
    refine lv_aload_n hx hb dX12_op1_128 rfl (lv_at hl 0 rfl) ?_
    refine lv_iconst (v := 0) hx hb dX12_op1_129 (by decide) ?_
    refine lv_bipush (v := 99) hx hb dX12_op1_130 (by decide) ?_
    obtain ⟨u11, hu11, hf⟩ := bd_some hf
    refine z_ci (ws1 := w_X12_op1 h_t r_t u11.2 cI a_tape a_wait1) (wr := List.filterMap (fun i : Nat => (w_X12_op1 h_t r_t F_t cI a_tape a_wait1)[i]?) [2]) (z_rV (rest := []) hx hb hml hown hcx hl.1 (c_X12_numberHere l D cI h_t r_t F_t a_tape 0 99 u11 hu11 _) tl_X12_289 ti_X12_numberHere tz_X12_numberHere tn_X12 tc_X12_numberHere tm_X12_numberHere rfl rfl ⟨Nat.le_of_ble_eq_true rfl, Nat.le_of_ble_eq_true rfl⟩ hK hX hS hA hP hD [0, 1] rfl rfl 0 rfl rfl rfl rfl (Nat.le_of_ble_eq_true rfl) dX12_op1_132 ⟨Nat.zero_le _, Nat.zero_le _⟩) hP hD hS hA [0, 1] [2] [1, 2, 0] rfl rfl rfl (by decide) rfl rfl (fun H locs hP hD hS => ?_)
    refine lv_istore (lv' := [(4, .int u11.1), (0, .ref h_t), (1, .int p1), (2, .int x2), (3, .int x3)]) hx hb dX12_op1_135 hl (by decide) rfl (fun ls hl => ?_)
    exact L137 x2 x3 u11.1 u11.2 a_wait1 _ _ _ hf hP hD hS (lv_sub hl [1, 2, 3, 4, 0] rfl)
  have L112 : ∀ (x2 : Int32) (x3 : Int32) (x4 : Int32) (F_t : Nat → Int32) (a_wait1 : Nat → Int32) (H : Heap) (locs : List Loc) (ls : Array Slot), m_X12_op1_j112 a_tape p1 x2 x3 x4 F_t a_wait1 = some Rr → va_P D vwCl (w_X12_op1 h_t r_t F_t cI a_tape a_wait1) H → va_D A (w_X12_op1 h_t r_t F_t cI a_tape a_wait1) → va_S A s.heap H locs → lv_has ls 5 [(0, .ref h_t), (1, .int p1), (2, .int x2), (3, .int x3), (4, .int x4)] → W p l e rm_X12_op1 s m args below meth c H locs 0 0 Q (F0 m 112 ls []) := by
    intro x2 x3 x4 F_t a_wait1 H locs ls hf hP hD hS hl
    have hf := (m_X12_op1_j112.eq_1 _ _ _ _ _ _ _).symm.trans hf
    refine lv_aload_n hx hb dX12_op1_112 rfl (lv_at hl 0 rfl) ?_
    refine z_get (ci := 12) (C := RX12) (T := TX12) (N := 51) (v := .int (F_t 38)) hx hb hts inT_X12 hown hK hP 0 rfl rfl 38 (by decide) tf_X12_267 rfl dX12_op1_113 ?_
    refine z_if_ne (tgt := 137) hx hb dX12_op1_116 (by decide) hf (fun hf => ?_) (fun hf => ?_)
    · exact L137 x2 x3 x4 F_t a_wait1 _ _ _ hf hP hD hS (lv_sub hl [0, 1, 2, 3, 4] rfl)
    · refine lv_iload_n hx hb dX12_op1_119 rfl (lv_at hl 2 rfl) ?_
      refine z_if_eq (tgt := 128) hx hb dX12_op1_120 (by decide) hf (fun hf => ?_) (fun hf => ?_)
      · exact L128 x2 x3 F_t a_wait1 _ _ _ hf hP hD hS (lv_sub hl [0, 1, 2, 3] rfl)
      · refine lv_iload_n hx hb dX12_op1_123 rfl (lv_at hl 2 rfl) ?_
        refine lv_iconst (v := 3) hx hb dX12_op1_124 (by decide) ?_
        refine z_icmp_ne (tgt := 137) hx hb dX12_op1_125 (by decide) hf (fun hf => ?_) (fun hf => ?_)
        · exact L137 x2 x3 x4 F_t a_wait1 _ _ _ hf hP hD hS (lv_sub hl [0, 1, 2, 3, 4] rfl)
        · exact L128 x2 x3 F_t a_wait1 _ _ _ hf hP hD hS (lv_sub hl [0, 1, 2, 3] rfl)
  have L89 : ∀ (x2 : Int32) (x3 : Int32) (x4 : Int32) (s1 : Int32) (F_t : Nat → Int32) (a_wait1 : Nat → Int32) (H : Heap) (locs : List Loc) (ls : Array Slot), m_X12_op1_j89 a_tape p1 x2 x3 x4 s1 F_t a_wait1 = some Rr → va_P D vwCl (w_X12_op1 h_t r_t F_t cI a_tape a_wait1) H → va_D A (w_X12_op1 h_t r_t F_t cI a_tape a_wait1) → va_S A s.heap H locs → lv_has ls 5 [(0, .ref h_t), (1, .int p1), (2, .int x2), (3, .int x3), (4, .int x4)] → W p l e rm_X12_op1 s m args below meth c H locs 0 0 Q (F0 m 89 ls [.int s1, .ref h_t]) := by
    intro x2 x3 x4 s1 F_t a_wait1 H locs ls hf hP hD hS hl
    have hf := (m_X12_op1_j89.eq_1 _ _ _ _ _ _ _ _).symm.trans hf
    refine lv_iconst (v := 3) hx hb dX12_op1_89 (by decide) ?_
    obtain ⟨u12, hu12, hf⟩ := bd_some hf
    refine z_ci (ws1 := w_X12_op1 h_t r_t u12.2 cI a_tape a_wait1) (wr := List.filterMap (fun i : Nat => (w_X12_op1 h_t r_t F_t cI a_tape a_wait1)[i]?) [1, 2]) (z_rV (rest := []) hx hb hml hown hcx hl.1 (c_X12_wants l D cI h_t r_t F_t s1 3 u12 hu12 _) tl_X12_270 ti_X12_wants tz_X12_wants tn_X12 tc_X12_wants tm_X12_wants rfl rfl ⟨Nat.le_of_ble_eq_true rfl, Nat.le_of_ble_eq_true rfl⟩ hK hX hS hA hP hD [0] rfl rfl 0 rfl rfl rfl rfl (Nat.le_of_ble_eq_true rfl) dX12_op1_90 ⟨Nat.zero_le _, Nat.zero_le _⟩) hP hD hS hA [0] [1, 2] [2, 0, 1] rfl rfl rfl (by decide) rfl rfl (fun H locs hP hD hS => ?_)
    refine lv_pop hx hb dX12_op1_93 rfl ?_
    refine lv_aload_n hx hb dX12_op1_94 rfl (lv_at hl 0 rfl) ?_
    refine z_get (ci := 12) (C := RX12) (T := TX12) (N := 51) (v := .int (u12.2 38)) hx hb hts inT_X12 hown hK hP 0 rfl rfl 38 (by decide) tf_X12_267 rfl dX12_op1_95 ?_
    refine z_if_ne (tgt := 137) hx hb dX12_op1_98 (by decide) hf (fun hf => ?_) (fun hf => ?_)
    · exact L137 x2 x3 x4 u12.2 a_wait1 _ _ _ hf hP hD hS (lv_sub hl [0, 1, 2, 3, 4] rfl)
    · refine lv_aload_n hx hb dX12_op1_101 rfl (lv_at hl 0 rfl) ?_
      refine lv_iconst (v := 0) hx hb dX12_op1_102 (by decide) ?_
      refine lv_iconst (v := 3) hx hb dX12_op1_103 (by decide) ?_
      obtain ⟨u13, hu13, hf⟩ := bd_some hf
      refine z_ci (ws1 := w_X12_op1 h_t r_t u13.2 cI a_tape a_wait1) (wr := List.filterMap (fun i : Nat => (w_X12_op1 h_t r_t u12.2 cI a_tape a_wait1)[i]?) [2]) (z_rV (rest := []) hx hb hml hown hcx hl.1 (c_X12_numberHere l D cI h_t r_t u12.2 a_tape 0 3 u13 hu13 _) tl_X12_289 ti_X12_numberHere tz_X12_numberHere tn_X12 tc_X12_numberHere tm_X12_numberHere rfl rfl ⟨Nat.le_of_ble_eq_true rfl, Nat.le_of_ble_eq_true rfl⟩ hK hX hS hA hP hD [0, 1] rfl rfl 0 rfl rfl rfl rfl (Nat.le_of_ble_eq_true rfl) dX12_op1_104 ⟨Nat.zero_le _, Nat.zero_le _⟩) hP hD hS hA [0, 1] [2] [1, 2, 0] rfl rfl rfl (by decide) rfl rfl (fun H locs hP hD hS => ?_)
      refine lv_istore (lv' := [(4, .int u13.1), (0, .ref h_t), (1, .int p1), (2, .int x2), (3, .int x3)]) hx hb dX12_op1_107 hl (by decide) rfl (fun ls hl => ?_)
      refine lv_goto (tgt := 137) hx hb dX12_op1_109 (by decide) ?_
      exact L137 x2 x3 u13.1 u13.2 a_wait1 _ _ _ hf hP hD hS (lv_sub hl [1, 2, 3, 4, 0] rfl)
  have L84 : ∀ (x2 : Int32) (x3 : Int32) (x4 : Int32) (F_t : Nat → Int32) (a_wait1 : Nat → Int32) (H : Heap) (locs : List Loc) (ls : Array Slot), m_X12_op1_j84 a_tape p1 x2 x3 x4 F_t a_wait1 = some Rr → va_P D vwCl (w_X12_op1 h_t r_t F_t cI a_tape a_wait1) H → va_D A (w_X12_op1 h_t r_t F_t cI a_tape a_wait1) → va_S A s.heap H locs → lv_has ls 5 [(0, .ref h_t), (1, .int p1), (2, .int x2), (3, .int x3), (4, .int x4)] → W p l e rm_X12_op1 s m args below meth c H locs 0 0 Q (F0 m 84 ls [.ref h_t]) := by
    intro x2 x3 x4 F_t a_wait1 H locs ls hf hP hD hS hl
    have hf := (m_X12_op1_j84.eq_1 _ _ _ _ _ _ _).symm.trans hf
    refine lv_iconst (v := 1) hx hb dX12_op1_84 (by decide) ?_
    refine lv_goto (tgt := 89) hx hb dX12_op1_85 (by decide) ?_
    exact L89 x2 x3 x4 1 F_t a_wait1 _ _ _ hf hP hD hS (lv_sub hl [0, 1, 2, 3, 4] rfl)
  have L43 : ∀ (x2 : Int32) (x3 : Int32) (x4 : Int32) (F_t : Nat → Int32) (a_wait1 : Nat → Int32) (H : Heap) (locs : List Loc) (ls : Array Slot), m_X12_op1_j43 a_tape p1 x2 x3 x4 F_t a_wait1 = some Rr → va_P D vwCl (w_X12_op1 h_t r_t F_t cI a_tape a_wait1) H → va_D A (w_X12_op1 h_t r_t F_t cI a_tape a_wait1) → va_S A s.heap H locs → lv_has ls 5 [(0, .ref h_t), (1, .int p1), (2, .int x2), (3, .int x3), (4, .int x4)] → W p l e rm_X12_op1 s m args below meth c H locs 0 0 Q (F0 m 43 ls []) := by
    intro x2 x3 x4 F_t a_wait1 H locs ls hf hP hD hS hl
    have hf := (m_X12_op1_j43.eq_1 _ _ _ _ _ _ _).symm.trans hf
    refine lv_aload_n hx hb dX12_op1_43 rfl (lv_at hl 0 rfl) ?_
    refine z_get (ci := 12) (C := RX12) (T := TX12) (N := 51) (v := .int (F_t 38)) hx hb hts inT_X12 hown hK hP 0 rfl rfl 38 (by decide) tf_X12_267 rfl dX12_op1_44 ?_
    refine z_if_ne (tgt := 112) hx hb dX12_op1_47 (by decide) hf (fun hf => ?_) (fun hf => ?_)
    · exact L112 x2 x3 x4 F_t a_wait1 _ _ _ hf hP hD hS (lv_sub hl [0, 1, 2, 3, 4] rfl)
    · refine lv_iload_n hx hb dX12_op1_50 rfl (lv_at hl 2 rfl) ?_
      refine lv_iconst (v := 2) hx hb dX12_op1_51 (by decide) ?_
      refine z_icmp_ne (tgt := 112) hx hb dX12_op1_52 (by decide) hf (fun hf => ?_) (fun hf => ?_)
      · exact L112 x2 x3 x4 F_t a_wait1 _ _ _ hf hP hD hS (lv_sub hl [0, 1, 2, 3, 4] rfl)
      · refine lv_aload_n hx hb dX12_op1_55 rfl (lv_at hl 0 rfl) ?_
        refine lv_aload_n hx hb dX12_op1_56 rfl (lv_at hl 0 rfl) ?_
        refine z_get (ci := 12) (C := RX12) (T := TX12) (N := 51) (v := .int (F_t 35)) hx hb hts inT_X12 hown hK hP 0 rfl rfl 35 (by decide) tf_X12_258 rfl dX12_op1_57 ?_
        refine lv_iconst (v := 2) hx hb dX12_op1_60 (by decide) ?_
        refine z_icmp_ne (tgt := 84) hx hb dX12_op1_61 (by decide) hf (fun hf => ?_) (fun hf => ?_)
        · exact L84 x2 x3 x4 F_t a_wait1 _ _ _ hf hP hD hS (lv_sub hl [0, 1, 2, 3, 4] rfl)
        · refine lv_aload_n hx hb dX12_op1_64 rfl (lv_at hl 0 rfl) ?_
          refine z_get (ci := 12) (C := RX12) (T := TX12) (N := 51) (v := .int (F_t 36)) hx hb hts inT_X12 hown hK hP 0 rfl rfl 36 (by decide) tf_X12_255 rfl dX12_op1_65 ?_
          refine lv_iconst (v := 0) hx hb dX12_op1_68 (by decide) ?_
          refine lv_iconst (v := 3) hx hb dX12_op1_69 (by decide) ?_
          obtain ⟨u14, hu14, hf⟩ := bd_some hf
          refine z_ci (ws1 := w_X12_op1 h_t r_t F_t cI a_tape a_wait1) (wr := List.filterMap (fun i : Nat => (w_X12_op1 h_t r_t F_t cI a_tape a_wait1)[i]?) [0, 1, 2]) (z_rS (rest := [.ref h_t]) hx hb hml hown hcx hl.1 (c_X12_within l D cI (F_t 36) 0 3 u14 hu14 _) tl_X12_172 ts_X12_within tn_X12 tc_X12_within tm_X12_within rfl rfl ⟨Nat.le_of_ble_eq_true rfl, Nat.le_of_ble_eq_true rfl⟩ hK hX hS hA hP hD [] rfl rfl rfl rfl (Nat.le_of_ble_eq_true rfl) dX12_op1_70 ⟨Nat.zero_le _, Nat.zero_le _⟩) hP hD hS hA [] [0, 1, 2] [0, 1, 2] rfl rfl rfl (by decide) rfl rfl (fun H locs hP hD hS => ?_)
          refine z_if_eq (tgt := 84) hx hb dX12_op1_73 (by decide) hf (fun hf => ?_) (fun hf => ?_)
          · exact L84 x2 x3 x4 F_t a_wait1 _ _ _ hf hP hD hS (lv_sub hl [0, 1, 2, 3, 4] rfl)
          · refine lv_aload_n hx hb dX12_op1_76 rfl (lv_at hl 0 rfl) ?_
            refine z_get (ci := 12) (C := RX12) (T := TX12) (N := 51) (v := .int (F_t 36)) hx hb hts inT_X12 hown hK hP 0 rfl rfl 36 (by decide) tf_X12_255 rfl dX12_op1_77 ?_
            refine lv_iload_n hx hb dX12_op1_80 rfl (lv_at hl 3 rfl) ?_
            refine z_icmp_eq (tgt := 88) hx hb dX12_op1_81 (by decide) hf (fun hf => ?_) (fun hf => ?_)
            · refine lv_iconst (v := 0) hx hb dX12_op1_88 (by decide) ?_
              exact L89 x2 x3 x4 0 F_t a_wait1 _ _ _ hf hP hD hS (lv_sub hl [0, 1, 2, 3, 4] rfl)
            · exact L84 x2 x3 x4 F_t a_wait1 _ _ _ hf hP hD hS (lv_sub hl [0, 1, 2, 3, 4] rfl)
  have L29 : ∀ (x2 : Int32) (x3 : Int32) (x4 : Int32) (F_t : Nat → Int32) (a_wait1 : Nat → Int32) (H : Heap) (locs : List Loc) (ls : Array Slot), m_X12_op1_j29 a_tape p1 x2 x3 x4 F_t a_wait1 = some Rr → va_P D vwCl (w_X12_op1 h_t r_t F_t cI a_tape a_wait1) H → va_D A (w_X12_op1 h_t r_t F_t cI a_tape a_wait1) → va_S A s.heap H locs → lv_has ls 5 [(0, .ref h_t), (1, .int p1), (2, .int x2), (3, .int x3), (4, .int x4)] → W p l e rm_X12_op1 s m args below meth c H locs 0 0 Q (F0 m 29 ls []) := by
    intro x2 x3 x4 F_t a_wait1 H locs ls hf hP hD hS hl
    have hf := (m_X12_op1_j29.eq_1 _ _ _ _ _ _ _).symm.trans hf
    refine lv_iload_n hx hb dX12_op1_29 rfl (lv_at hl 2 rfl) ?_
    refine lv_iconst (v := 3) hx hb dX12_op1_30 (by decide) ?_
    refine z_icmp_ne (tgt := 43) hx hb dX12_op1_31 (by decide) hf (fun hf => ?_) (fun hf => ?_)
    · exact L43 x2 x3 x4 F_t a_wait1 _ _ _ hf hP hD hS (lv_sub hl [0, 1, 2, 3, 4] rfl)
    · refine lv_aload_n hx hb dX12_op1_34 rfl (lv_at hl 0 rfl) ?_
      refine lv_bipush (v := 20) hx hb dX12_op1_35 (by decide) ?_
      refine lv_bipush (v := 63) hx hb dX12_op1_37 (by decide) ?_
      obtain ⟨u15, hu15, hf⟩ := bd_some hf
      refine z_ci (ws1 := w_X12_op1 h_t r_t u15.2 cI a_tape a_wait1) (wr := List.filterMap (fun i : Nat => (w_X12_op1 h_t r_t F_t cI a_tape a_wait1)[i]?) [2]) (z_rV (rest := []) hx hb hml hown hcx hl.1 (c_X12_numberHere l D cI h_t r_t F_t a_tape 20 63 u15 hu15 _) tl_X12_289 ti_X12_numberHere tz_X12_numberHere tn_X12 tc_X12_numberHere tm_X12_numberHere rfl rfl ⟨Nat.le_of_ble_eq_true rfl, Nat.le_of_ble_eq_true rfl⟩ hK hX hS hA hP hD [0, 1] rfl rfl 0 rfl rfl rfl rfl (Nat.le_of_ble_eq_true rfl) dX12_op1_39 ⟨Nat.zero_le _, Nat.zero_le _⟩) hP hD hS hA [0, 1] [2] [1, 2, 0] rfl rfl rfl (by decide) rfl rfl (fun H locs hP hD hS => ?_)
      refine lv_istore_n (lv' := [(3, .int u15.1), (0, .ref h_t), (1, .int p1), (2, .int x2), (4, .int x4)]) hx hb dX12_op1_42 rfl hl (by decide) rfl (fun ls hl => ?_)
      exact L43 x2 u15.1 x4 u15.2 a_wait1 _ _ _ hf hP hD hS (lv_sub hl [1, 2, 3, 0, 4] rfl)
  refine lv_aload_n hx hb dX12_op1_0 rfl (lv_at hl 0 rfl) ?_
  refine z_get (ci := 12) (C := RX12) (T := TX12) (N := 51) (v := .int (F_t 37)) hx hb hts inT_X12 hown hK hP 0 rfl rfl 37 (by decide) tf_X12_252 rfl dX12_op1_1 ?_
  refine lv_bipush (v := 7) hx hb dX12_op1_4 (by decide) ?_
  refine lv_isub hx hb dX12_op1_6 ?_
  refine z_istore_n (fun z => [(2, .int z), (0, .ref h_t), (1, .int p1)]) hx hb dX12_op1_7 rfl hl (by decide) (fun _ => rfl) hf (fun v1 ls hf hl => ?_)
  refine lv_iconst (v := 0) hx hb dX12_op1_8 (by decide) ?_
  refine lv_istore_n (lv' := [(3, .int 0), (2, .int v1), (0, .ref h_t), (1, .int p1)]) hx hb dX12_op1_9 rfl hl (by decide) rfl (fun ls hl => ?_)
  refine lv_iconst (v := 0) hx hb dX12_op1_10 (by decide) ?_
  refine lv_istore (lv' := [(4, .int 0), (3, .int 0), (2, .int v1), (0, .ref h_t), (1, .int p1)]) hx hb dX12_op1_11 hl (by decide) rfl (fun ls hl => ?_)
  refine lv_aload_n hx hb dX12_op1_13 rfl (lv_at hl 3 rfl) ?_
  obtain ⟨u2, hu2, hf⟩ := bd_some hf
  refine z_cv (ws1 := w_X12_op1 h_t r_t u2 cI a_tape a_wait1) (wr := List.filterMap (fun i : Nat => (w_X12_op1 h_t r_t F_t cI a_tape a_wait1)[i]?) [2]) (z_rV (rest := []) hx hb hml hown hcx hl.1 (c_X12_go l D cI h_t r_t F_t a_tape u2 hu2 _) tl_X12_274 ti_X12_go tz_X12_go tn_X12 tc_X12_go tm_X12_go rfl rfl ⟨Nat.le_of_ble_eq_true rfl, Nat.le_of_ble_eq_true rfl⟩ hK hX hS hA hP hD [0, 1] rfl rfl 0 rfl rfl rfl rfl (Nat.le_of_ble_eq_true rfl) dX12_op1_14 ⟨Nat.zero_le _, Nat.zero_le _⟩) hP hD hS hA [0, 1] [2] [1, 2, 0] rfl rfl rfl (by decide) rfl rfl (fun H locs hP hD hS => ?_)
  refine lv_iload_n hx hb dX12_op1_17 rfl (lv_at hl 2 rfl) ?_
  refine lv_iconst (v := 3) hx hb dX12_op1_18 (by decide) ?_
  refine z_icmp_ge (tgt := 29) hx hb dX12_op1_19 (by decide) hf (fun hf => ?_) (fun hf => ?_)
  · exact L29 v1 0 0 u2 a_wait1 _ _ _ hf hP hD hS (lv_sub hl [3, 4, 2, 1, 0] rfl)
  · refine lv_aload_n hx hb dX12_op1_22 rfl (lv_at hl 3 rfl) ?_
    refine lv_iconst (v := 0) hx hb dX12_op1_23 (by decide) ?_
    refine lv_iconst (v := 3) hx hb dX12_op1_24 (by decide) ?_
    obtain ⟨u16, hu16, hf⟩ := bd_some hf
    refine z_ci (ws1 := w_X12_op1 h_t r_t u16.2 cI a_tape a_wait1) (wr := List.filterMap (fun i : Nat => (w_X12_op1 h_t r_t u2 cI a_tape a_wait1)[i]?) [2]) (z_rV (rest := []) hx hb hml hown hcx hl.1 (c_X12_numberHere l D cI h_t r_t u2 a_tape 0 3 u16 hu16 _) tl_X12_289 ti_X12_numberHere tz_X12_numberHere tn_X12 tc_X12_numberHere tm_X12_numberHere rfl rfl ⟨Nat.le_of_ble_eq_true rfl, Nat.le_of_ble_eq_true rfl⟩ hK hX hS hA hP hD [0, 1] rfl rfl 0 rfl rfl rfl rfl (Nat.le_of_ble_eq_true rfl) dX12_op1_25 ⟨Nat.zero_le _, Nat.zero_le _⟩) hP hD hS hA [0, 1] [2] [1, 2, 0] rfl rfl rfl (by decide) rfl rfl (fun H locs hP hD hS => ?_)
    refine lv_istore_n (lv' := [(3, .int u16.1), (4, .int 0), (2, .int v1), (0, .ref h_t), (1, .int p1)]) hx hb dX12_op1_28 rfl hl (by decide) rfl (fun ls hl => ?_)
    exact L29 v1 u16.1 0 u16.2 a_wait1 _ _ _ hf hP hD hS (lv_sub hl [3, 4, 2, 0, 1] rfl)
abbrev w_X12_do1 (h_t : Nat) (r_t : Nat → Nat) (F_t : Nat → Int32) (cI : ClassId) (a_tape : Nat → Int32) (a_wait1 : Nat → Int32) : va_W := [(h_t, .inr (12, o_X12 r_t F_t)), ((r_t 13), .inl (cI, 700, .inl a_tape)), ((r_t 40), .inl (cI, 156, .inl a_wait1))]
abbrev rm_X12_do1 : Room := { frames := 5, cells := 0, slots := 0, locals := 115 }
def m_X12_do1_j132 (a_tape : Nat → Int32) (k66 : Int32 → Int32 → (Nat → Int32) → (Nat → Int32) → Option ((Nat → Int32) × (Nat → Int32))) (x1 : Int32) (s1 : Int32) (F_t : Nat → Int32) (a_wait1 : Nat → Int32) : Option ((Nat → Int32) × (Nat → Int32)) :=
  bd (m_X12_wants F_t s1 2) fun u7 =>
  if u7.1 = 0 then (
  some (u7.2, a_wait1))
  else (
  bd (m_X12_op1 u7.2 a_tape a_wait1 x1) fun u8 =>
  bd (m_X12_isSign u8.1 44) fun u9 =>
  k66 x1 u9 u8.1 u8.2)
def m_X12_do1_j109 (a_tape : Nat → Int32) (k66 : Int32 → Int32 → (Nat → Int32) → (Nat → Int32) → Option ((Nat → Int32) × (Nat → Int32))) (x1 : Int32) (s1 : Int32) (F_t : Nat → Int32) (a_wait1 : Nat → Int32) : Option ((Nat → Int32) × (Nat → Int32)) :=
  bd (m_X12_wants F_t s1 1) fun u5 =>
  if u5.1 = 0 then (
  some (u5.2, a_wait1))
  else (
  rd a_wait1 156 x1 fun y6 =>
  if 4 ≤ y6 then (
  m_X12_do1_j132 a_tape k66 x1 0 u5.2 a_wait1)
  else (
  m_X12_do1_j132 a_tape k66 x1 1 u5.2 a_wait1))
def m_X12_do1_j108 (a_tape : Nat → Int32) (k66 : Int32 → Int32 → (Nat → Int32) → (Nat → Int32) → Option ((Nat → Int32) × (Nat → Int32))) (x1 : Int32) (F_t : Nat → Int32) (a_wait1 : Nat → Int32) : Option ((Nat → Int32) × (Nat → Int32)) :=
  m_X12_do1_j109 a_tape k66 x1 0 F_t a_wait1
def m_X12_do1_w66 (a_tape : Nat → Int32) : Nat → Int32 → Int32 → (Nat → Int32) → (Nat → Int32) → Option ((Nat → Int32) × (Nat → Int32))
  | 0, _, _, _, _ => none
  | n66 + 1, x1, x2, F_t, a_wait1 =>
    if x2 = 0 then (
    some (F_t, a_wait1))
    else (
    if (F_t 38) = 0 then (
    bd (m_X12_go F_t a_tape) fun u4 =>
    if (u4 35) = 1 then (
    bd (m_X12_within (u4 37) 7 11) fun u10 =>
    if u10 = 0 then (
    m_X12_do1_j108 a_tape (m_X12_do1_w66 a_tape n66) x1 u4 a_wait1)
    else (
    m_X12_do1_j109 a_tape (m_X12_do1_w66 a_tape n66) x1 1 u4 a_wait1))
    else (
    m_X12_do1_j108 a_tape (m_X12_do1_w66 a_tape n66) x1 u4 a_wait1))
    else (
    some (F_t, a_wait1)))
def m_X12_do1_j54 (a_tape : Nat → Int32) (x1 : Int32) (F_t : Nat → Int32) (a_wait1 : Nat → Int32) : Option ((Nat → Int32) × (Nat → Int32)) :=
  nm (upd F_t 42 ((F_t 42) + 1)) fun F3 =>
  m_X12_do1_w66 a_tape fuelN x1 1 F3 a_wait1
def m_X12_do1_w33 (a_tape : Nat → Int32) (k54 : Int32 → (Nat → Int32) → (Nat → Int32) → Option ((Nat → Int32) × (Nat → Int32))) : Nat → Int32 → Int32 → (Nat → Int32) → (Nat → Int32) → Option ((Nat → Int32) × (Nat → Int32))
  | 0, _, _, _, _ => none
  | n33 + 1, x1, x2, F_t, a_wait1 =>
    if 13 ≤ x2 then (
    k54 x1 F_t a_wait1)
    else (
    wr a_wait1 156 (x1 + x2) 0 fun a11 =>
    nm (x2 + 1) fun v12 =>
    m_X12_do1_w33 a_tape k54 n33 x1 v12 F_t a11)
def m_X12_do1_j15 (a_tape : Nat → Int32) (s1 : Int32) (F_t : Nat → Int32) (a_wait1 : Nat → Int32) : Option ((Nat → Int32) × (Nat → Int32)) :=
  bd (m_X12_wants F_t s1 2) fun u1 =>
  if u1.1 = 0 then (
  some (u1.2, a_wait1))
  else (
  nm (13 * (u1.2 42)) fun v2 =>
  m_X12_do1_w33 a_tape (m_X12_do1_j54 a_tape) fuelN v2 0 u1.2 a_wait1)
def m_X12_do1 (F_t : Nat → Int32) (a_tape : Nat → Int32) (a_wait1 : Nat → Int32) : Option ((Nat → Int32) × (Nat → Int32)) :=
  if 12 ≤ (F_t 42) then (
  m_X12_do1_j15 a_tape 0 F_t a_wait1)
  else (
  m_X12_do1_j15 a_tape 1 F_t a_wait1)
set_option maxHeartbeats 4000000 in
set_option maxRecDepth 100000 in
theorem c_X12_do1 (l : Launch) (D : va_G) (cI : ClassId) (h_t : Nat) (r_t : Nat → Nat) (F_t : Nat → Int32) (a_tape : Nat → Int32) (a_wait1 : Nat → Int32) (Rr : (Nat → Int32) × (Nat → Int32)) (hf : m_X12_do1 F_t a_tape a_wait1 = some Rr) : CTv l yX12_do1 (Cond.code yX12_do1 cX12_do1 3 none) rm_X12_do1 D cI [.ref h_t] (w_X12_do1 h_t r_t F_t cI a_tape a_wait1) (w_X12_do1 h_t r_t Rr.1 cI a_tape Rr.2) := by
  refine z_begin_v (own := RX12) (ρ := (Nat → Int32) × (Nat → Int32)) (fun u => w_X12_do1 h_t r_t u.1 cI a_tape u.2) (by decide +kernel) rfl (Nat.le_of_ble_eq_true rfl) ?_
  intro p e s m args below meth c ls Q A hx hb hml hts hcx hown hK hX hA hP hD hS hl hret
  have hl : lv_has ls 3 [(0, .ref h_t)] := hl
  have hf := (m_X12_do1.eq_1 _ _ _).symm.trans hf
  have L66 : ∀ (n66 : Nat) (x1 : Int32) (x2 : Int32) (F_t : Nat → Int32) (a_wait1 : Nat → Int32) (H : Heap) (locs : List Loc) (ls : Array Slot), m_X12_do1_w66 a_tape n66 x1 x2 F_t a_wait1 = some Rr → va_P D vwCl (w_X12_do1 h_t r_t F_t cI a_tape a_wait1) H → va_D A (w_X12_do1 h_t r_t F_t cI a_tape a_wait1) → va_S A s.heap H locs → lv_has ls 3 [(0, .ref h_t), (1, .int x1), (2, .int x2)] → W p l e rm_X12_do1 s m args below meth c H locs 0 0 Q (F0 m 66 ls []) := by
    intro n66
    induction n66 with
    | zero => intro x1 x2 F_t a_wait1 H locs ls hf; cases (show (none : Option _) = some Rr from hf)
    | succ n66 ih66 =>
      intro x1 x2 F_t a_wait1 H locs ls hf hP hD hS hl
      have hf := (m_X12_do1_w66.eq_2 _ _ _ _ _ _).symm.trans hf
      have L132 : ∀ (x1 : Int32) (s1 : Int32) (F_t : Nat → Int32) (a_wait1 : Nat → Int32) (H : Heap) (locs : List Loc) (ls : Array Slot), m_X12_do1_j132 a_tape (m_X12_do1_w66 a_tape n66) x1 s1 F_t a_wait1 = some Rr → va_P D vwCl (w_X12_do1 h_t r_t F_t cI a_tape a_wait1) H → va_D A (w_X12_do1 h_t r_t F_t cI a_tape a_wait1) → va_S A s.heap H locs → lv_has ls 3 [(0, .ref h_t), (1, .int x1)] → W p l e rm_X12_do1 s m args below meth c H locs 0 0 Q (F0 m 132 ls [.int s1, .ref h_t]) := by
        intro x1 s1 F_t a_wait1 H locs ls hf hP hD hS hl
        have hf := (m_X12_do1_j132.eq_1 _ _ _ _ _ _).symm.trans hf
        refine lv_iconst (v := 2) hx hb dX12_do1_132 (by decide) ?_
        obtain ⟨u7, hu7, hf⟩ := bd_some hf
        refine z_ci (ws1 := w_X12_do1 h_t r_t u7.2 cI a_tape a_wait1) (wr := List.filterMap (fun i : Nat => (w_X12_do1 h_t r_t F_t cI a_tape a_wait1)[i]?) [1, 2]) (z_rV (rest := []) hx hb hml hown hcx hl.1 (c_X12_wants l D cI h_t r_t F_t s1 2 u7 hu7 _) tl_X12_270 ti_X12_wants tz_X12_wants tn_X12 tc_X12_wants tm_X12_wants rfl rfl ⟨Nat.le_of_ble_eq_true rfl, Nat.le_of_ble_eq_true rfl⟩ hK hX hS hA hP hD [0] rfl rfl 0 rfl rfl rfl rfl (Nat.le_of_ble_eq_true rfl) dX12_do1_133 ⟨Nat.zero_le _, Nat.zero_le _⟩) hP hD hS hA [0] [1, 2] [2, 0, 1] rfl rfl rfl (by decide) rfl rfl (fun H locs hP hD hS => ?_)
        refine z_if_ne (tgt := 140) hx hb dX12_do1_136 (by decide) hf (fun hf => ?_) (fun hf => ?_)
        · refine lv_aload_n hx hb dX12_do1_140 rfl (lv_at hl 0 rfl) ?_
          refine lv_iload_n hx hb dX12_do1_141 rfl (lv_at hl 1 rfl) ?_
          obtain ⟨u8, hu8, hf⟩ := bd_some hf
          refine z_cv (ws1 := w_X12_do1 h_t r_t u8.1 cI a_tape u8.2) (wr := List.filterMap (fun i : Nat => (w_X12_do1 h_t r_t u7.2 cI a_tape a_wait1)[i]?) []) (z_rV (rest := []) hx hb hml hown hcx hl.1 (c_X12_op1 l D cI h_t r_t u7.2 a_tape a_wait1 x1 u8 hu8 _) tl_X12_295 ti_X12_op1 tz_X12_op1 tn_X12 tc_X12_op1 tm_X12_op1 rfl rfl ⟨Nat.le_of_ble_eq_true rfl, Nat.le_of_ble_eq_true rfl⟩ hK hX hS hA hP hD [0, 1, 2] rfl rfl 0 rfl rfl rfl rfl (Nat.le_of_ble_eq_true rfl) dX12_do1_142 ⟨Nat.zero_le _, Nat.zero_le _⟩) hP hD hS hA [0, 1, 2] [] [0, 1, 2] rfl rfl rfl (by decide) rfl rfl (fun H locs hP hD hS => ?_)
          refine lv_aload_n hx hb dX12_do1_145 rfl (lv_at hl 0 rfl) ?_
          refine lv_bipush (v := 44) hx hb dX12_do1_146 (by decide) ?_
          obtain ⟨u9, hu9, hf⟩ := bd_some hf
          refine z_ci (ws1 := w_X12_do1 h_t r_t u8.1 cI a_tape u8.2) (wr := List.filterMap (fun i : Nat => (w_X12_do1 h_t r_t u8.1 cI a_tape u8.2)[i]?) [1, 2]) (z_rV (rest := []) hx hb hml hown hcx hl.1 (c_X12_isSign l D cI h_t r_t u8.1 44 u9 hu9 _) tl_X12_298 ti_X12_isSign tz_X12_isSign tn_X12 tc_X12_isSign tm_X12_isSign rfl rfl ⟨Nat.le_of_ble_eq_true rfl, Nat.le_of_ble_eq_true rfl⟩ hK hX hS hA hP hD [0] rfl rfl 0 rfl rfl rfl rfl (Nat.le_of_ble_eq_true rfl) dX12_do1_148 ⟨Nat.zero_le _, Nat.zero_le _⟩) hP hD hS hA [0] [1, 2] [2, 0, 1] rfl rfl rfl (by decide) rfl rfl (fun H locs hP hD hS => ?_)
          refine lv_istore_n (lv' := [(2, .int u9), (0, .ref h_t), (1, .int x1)]) hx hb dX12_do1_151 rfl hl (by decide) rfl (fun ls hl => ?_)
          refine lv_goto (tgt := 66) hx hb dX12_do1_152 (by decide) ?_
          exact ih66 x1 u9 u8.1 u8.2 _ _ _ hf hP hD hS (lv_sub hl [1, 2, 0] rfl)
        · exact hret (u7.2, a_wait1) _ _ _ _ hf hP hD hS dX12_do1_139
      have L109 : ∀ (x1 : Int32) (s1 : Int32) (F_t : Nat → Int32) (a_wait1 : Nat → Int32) (H : Heap) (locs : List Loc) (ls : Array Slot), m_X12_do1_j109 a_tape (m_X12_do1_w66 a_tape n66) x1 s1 F_t a_wait1 = some Rr → va_P D vwCl (w_X12_do1 h_t r_t F_t cI a_tape a_wait1) H → va_D A (w_X12_do1 h_t r_t F_t cI a_tape a_wait1) → va_S A s.heap H locs → lv_has ls 3 [(0, .ref h_t), (1, .int x1)] → W p l e rm_X12_do1 s m args below meth c H locs 0 0 Q (F0 m 109 ls [.int s1, .ref h_t]) := by
        intro x1 s1 F_t a_wait1 H locs ls hf hP hD hS hl
        have hf := (m_X12_do1_j109.eq_1 _ _ _ _ _ _).symm.trans hf
        refine lv_iconst (v := 1) hx hb dX12_do1_109 (by decide) ?_
        obtain ⟨u5, hu5, hf⟩ := bd_some hf
        refine z_ci (ws1 := w_X12_do1 h_t r_t u5.2 cI a_tape a_wait1) (wr := List.filterMap (fun i : Nat => (w_X12_do1 h_t r_t F_t cI a_tape a_wait1)[i]?) [1, 2]) (z_rV (rest := []) hx hb hml hown hcx hl.1 (c_X12_wants l D cI h_t r_t F_t s1 1 u5 hu5 _) tl_X12_270 ti_X12_wants tz_X12_wants tn_X12 tc_X12_wants tm_X12_wants rfl rfl ⟨Nat.le_of_ble_eq_true rfl, Nat.le_of_ble_eq_true rfl⟩ hK hX hS hA hP hD [0] rfl rfl 0 rfl rfl rfl rfl (Nat.le_of_ble_eq_true rfl) dX12_do1_110 ⟨Nat.zero_le _, Nat.zero_le _⟩) hP hD hS hA [0] [1, 2] [2, 0, 1] rfl rfl rfl (by decide) rfl rfl (fun H locs hP hD hS => ?_)
        refine z_if_eq (tgt := 139) hx hb dX12_do1_113 (by decide) hf (fun hf => ?_) (fun hf => ?_)
        · exact hret (u5.2, a_wait1) _ _ _ _ hf hP hD hS dX12_do1_139
        · refine lv_aload_n hx hb dX12_do1_116 rfl (lv_at hl 0 rfl) ?_
          refine lv_aload_n hx hb dX12_do1_117 rfl (lv_at hl 0 rfl) ?_
          refine z_get (ci := 12) (C := RX12) (T := TX12) (N := 51) (v := .ref (r_t 40)) hx hb hts inT_X12 hown hK hP 0 rfl rfl 40 (by decide) tf_X12_54 rfl dX12_do1_118 ?_
          refine lv_iload_n hx hb dX12_do1_121 rfl (lv_at hl 1 rfl) ?_
          refine z_iald hx hb hK hP 2 rfl dX12_do1_122 hf (fun y6 hf => ?_)
          refine lv_iconst (v := 4) hx hb dX12_do1_123 (by decide) ?_
          refine z_icmp_ge (tgt := 131) hx hb dX12_do1_124 (by decide) hf (fun hf => ?_) (fun hf => ?_)
          · refine lv_iconst (v := 0) hx hb dX12_do1_131 (by decide) ?_
            exact L132 x1 0 u5.2 a_wait1 _ _ _ hf hP hD hS (lv_sub hl [0, 1] rfl)
          · refine lv_iconst (v := 1) hx hb dX12_do1_127 (by decide) ?_
            refine lv_goto (tgt := 132) hx hb dX12_do1_128 (by decide) ?_
            exact L132 x1 1 u5.2 a_wait1 _ _ _ hf hP hD hS (lv_sub hl [0, 1] rfl)
      have L108 : ∀ (x1 : Int32) (F_t : Nat → Int32) (a_wait1 : Nat → Int32) (H : Heap) (locs : List Loc) (ls : Array Slot), m_X12_do1_j108 a_tape (m_X12_do1_w66 a_tape n66) x1 F_t a_wait1 = some Rr → va_P D vwCl (w_X12_do1 h_t r_t F_t cI a_tape a_wait1) H → va_D A (w_X12_do1 h_t r_t F_t cI a_tape a_wait1) → va_S A s.heap H locs → lv_has ls 3 [(0, .ref h_t), (1, .int x1)] → W p l e rm_X12_do1 s m args below meth c H locs 0 0 Q (F0 m 108 ls [.ref h_t]) := by
        intro x1 F_t a_wait1 H locs ls hf hP hD hS hl
        have hf := (m_X12_do1_j108.eq_1 _ _ _ _ _).symm.trans hf
        refine lv_iconst (v := 0) hx hb dX12_do1_108 (by decide) ?_
        exact L109 x1 0 F_t a_wait1 _ _ _ hf hP hD hS (lv_sub hl [0, 1] rfl)
      refine lv_iload_n hx hb dX12_do1_66 rfl (lv_at hl 2 rfl) ?_
      refine z_if_eq (tgt := 155) hx hb dX12_do1_67 (by decide) hf (fun hf => ?_) (fun hf => ?_)
      · exact hret (F_t, a_wait1) _ _ _ _ hf hP hD hS dX12_do1_155
      · refine lv_aload_n hx hb dX12_do1_70 rfl (lv_at hl 0 rfl) ?_
        refine z_get (ci := 12) (C := RX12) (T := TX12) (N := 51) (v := .int (F_t 38)) hx hb hts inT_X12 hown hK hP 0 rfl rfl 38 (by decide) tf_X12_267 rfl dX12_do1_71 ?_
        refine z_if_ne (tgt := 155) hx hb dX12_do1_74 (by decide) hf (fun hf => ?_) (fun hf => ?_)
        · exact hret (F_t, a_wait1) _ _ _ _ hf hP hD hS dX12_do1_155
        · refine lv_aload_n hx hb dX12_do1_77 rfl (lv_at hl 0 rfl) ?_
          obtain ⟨u4, hu4, hf⟩ := bd_some hf
          refine z_cv (ws1 := w_X12_do1 h_t r_t u4 cI a_tape a_wait1) (wr := List.filterMap (fun i : Nat => (w_X12_do1 h_t r_t F_t cI a_tape a_wait1)[i]?) [2]) (z_rV (rest := []) hx hb hml hown hcx hl.1 (c_X12_go l D cI h_t r_t F_t a_tape u4 hu4 _) tl_X12_274 ti_X12_go tz_X12_go tn_X12 tc_X12_go tm_X12_go rfl rfl ⟨Nat.le_of_ble_eq_true rfl, Nat.le_of_ble_eq_true rfl⟩ hK hX hS hA hP hD [0, 1] rfl rfl 0 rfl rfl rfl rfl (Nat.le_of_ble_eq_true rfl) dX12_do1_78 ⟨Nat.zero_le _, Nat.zero_le _⟩) hP hD hS hA [0, 1] [2] [1, 2, 0] rfl rfl rfl (by decide) rfl rfl (fun H locs hP hD hS => ?_)
          refine lv_aload_n hx hb dX12_do1_81 rfl (lv_at hl 0 rfl) ?_
          refine lv_aload_n hx hb dX12_do1_82 rfl (lv_at hl 0 rfl) ?_
          refine z_get (ci := 12) (C := RX12) (T := TX12) (N := 51) (v := .int (u4 35)) hx hb hts inT_X12 hown hK hP 0 rfl rfl 35 (by decide) tf_X12_258 rfl dX12_do1_83 ?_
          refine lv_iconst (v := 1) hx hb dX12_do1_86 (by decide) ?_
          refine z_icmp_ne (tgt := 108) hx hb dX12_do1_87 (by decide) hf (fun hf => ?_) (fun hf => ?_)
          · exact L108 x1 u4 a_wait1 _ _ _ hf hP hD hS (lv_sub hl [0, 1] rfl)
          · refine lv_aload_n hx hb dX12_do1_90 rfl (lv_at hl 0 rfl) ?_
            refine z_get (ci := 12) (C := RX12) (T := TX12) (N := 51) (v := .int (u4 37)) hx hb hts inT_X12 hown hK hP 0 rfl rfl 37 (by decide) tf_X12_252 rfl dX12_do1_91 ?_
            refine lv_bipush (v := 7) hx hb dX12_do1_94 (by decide) ?_
            refine lv_bipush (v := 11) hx hb dX12_do1_96 (by decide) ?_
            obtain ⟨u10, hu10, hf⟩ := bd_some hf
            refine z_ci (ws1 := w_X12_do1 h_t r_t u4 cI a_tape a_wait1) (wr := List.filterMap (fun i : Nat => (w_X12_do1 h_t r_t u4 cI a_tape a_wait1)[i]?) [0, 1, 2]) (z_rS (rest := [.ref h_t]) hx hb hml hown hcx hl.1 (c_X12_within l D cI (u4 37) 7 11 u10 hu10 _) tl_X12_172 ts_X12_within tn_X12 tc_X12_within tm_X12_within rfl rfl ⟨Nat.le_of_ble_eq_true rfl, Nat.le_of_ble_eq_true rfl⟩ hK hX hS hA hP hD [] rfl rfl rfl rfl (Nat.le_of_ble_eq_true rfl) dX12_do1_98 ⟨Nat.zero_le _, Nat.zero_le _⟩) hP hD hS hA [] [0, 1, 2] [0, 1, 2] rfl rfl rfl (by decide) rfl rfl (fun H locs hP hD hS => ?_)
            refine z_if_eq (tgt := 108) hx hb dX12_do1_101 (by decide) hf (fun hf => ?_) (fun hf => ?_)
            · exact L108 x1 u4 a_wait1 _ _ _ hf hP hD hS (lv_sub hl [0, 1] rfl)
            · refine lv_iconst (v := 1) hx hb dX12_do1_104 (by decide) ?_
              refine lv_goto (tgt := 109) hx hb dX12_do1_105 (by decide) ?_
              exact L109 x1 1 u4 a_wait1 _ _ _ hf hP hD hS (lv_sub hl [0, 1] rfl)
  have L54 : ∀ (x1 : Int32) (F_t : Nat → Int32) (a_wait1 : Nat → Int32) (H : Heap) (locs : List Loc) (ls : Array Slot), m_X12_do1_j54 a_tape x1 F_t a_wait1 = some Rr → va_P D vwCl (w_X12_do1 h_t r_t F_t cI a_tape a_wait1) H → va_D A (w_X12_do1 h_t r_t F_t cI a_tape a_wait1) → va_S A s.heap H locs → lv_has ls 3 [(0, .ref h_t), (1, .int x1)] → W p l e rm_X12_do1 s m args below meth c H locs 0 0 Q (F0 m 54 ls []) := by
    intro x1 F_t a_wait1 H locs ls hf hP hD hS hl
    have hf := (m_X12_do1_j54.eq_1 _ _ _ _).symm.trans hf
    refine lv_aload_n hx hb dX12_do1_54 rfl (lv_at hl 0 rfl) ?_
    refine lv_dup hx hb dX12_do1_55 rfl ?_
    refine z_get (ci := 12) (C := RX12) (T := TX12) (N := 51) (v := .int (F_t 42)) hx hb hts inT_X12 hown hK hP 0 rfl rfl 42 (by decide) tf_X12_292 rfl dX12_do1_56 ?_
    refine lv_iconst (v := 1) hx hb dX12_do1_59 (by decide) ?_
    refine lv_iadd hx hb dX12_do1_60 ?_
    refine z_put (ci := 12) (C := RX12) (T := TX12) (N := 51) hx hb hts inT_X12 tyX12 tyX12_ok nmX12 hown hK hP hD hS 0 rfl rfl 42 (by decide) tf_X12_292 rfl (by decide +kernel) (Nat.le_of_ble_eq_true rfl) (o_X12 r_t) (o_X12_s42 _ _ _) (fun z => w_X12_do1 h_t r_t z cI a_tape a_wait1) (fun _ => rfl) dX12_do1_61 hf (fun F3 H locs hf hP hD hS => ?_)
    refine lv_iconst (v := 1) hx hb dX12_do1_64 (by decide) ?_
    refine lv_istore_n (lv' := [(2, .int 1), (0, .ref h_t), (1, .int x1)]) hx hb dX12_do1_65 rfl hl (by decide) rfl (fun ls hl => ?_)
    exact L66 fuelN x1 1 F3 a_wait1 _ _ _ hf hP hD hS (lv_sub hl [1, 2, 0] rfl)
  have L33 : ∀ (n33 : Nat) (x1 : Int32) (x2 : Int32) (F_t : Nat → Int32) (a_wait1 : Nat → Int32) (H : Heap) (locs : List Loc) (ls : Array Slot), m_X12_do1_w33 a_tape (m_X12_do1_j54 a_tape) n33 x1 x2 F_t a_wait1 = some Rr → va_P D vwCl (w_X12_do1 h_t r_t F_t cI a_tape a_wait1) H → va_D A (w_X12_do1 h_t r_t F_t cI a_tape a_wait1) → va_S A s.heap H locs → lv_has ls 3 [(0, .ref h_t), (1, .int x1), (2, .int x2)] → W p l e rm_X12_do1 s m args below meth c H locs 0 0 Q (F0 m 33 ls []) := by
    intro n33
    induction n33 with
    | zero => intro x1 x2 F_t a_wait1 H locs ls hf; cases (show (none : Option _) = some Rr from hf)
    | succ n33 ih33 =>
      intro x1 x2 F_t a_wait1 H locs ls hf hP hD hS hl
      have hf := (m_X12_do1_w33.eq_2 _ _ _ _ _ _ _).symm.trans hf
      refine lv_iload_n hx hb dX12_do1_33 rfl (lv_at hl 2 rfl) ?_
      refine lv_bipush (v := 13) hx hb dX12_do1_34 (by decide) ?_
      refine z_icmp_ge (tgt := 54) hx hb dX12_do1_36 (by decide) hf (fun hf => ?_) (fun hf => ?_)
      · exact L54 x1 F_t a_wait1 _ _ _ hf hP hD hS (lv_sub hl [0, 1] rfl)
      · refine lv_aload_n hx hb dX12_do1_39 rfl (lv_at hl 0 rfl) ?_
        refine z_get (ci := 12) (C := RX12) (T := TX12) (N := 51) (v := .ref (r_t 40)) hx hb hts inT_X12 hown hK hP 0 rfl rfl 40 (by decide) tf_X12_54 rfl dX12_do1_40 ?_
        refine lv_iload_n hx hb dX12_do1_43 rfl (lv_at hl 1 rfl) ?_
        refine lv_iload_n hx hb dX12_do1_44 rfl (lv_at hl 2 rfl) ?_
        refine lv_iadd hx hb dX12_do1_45 ?_
        refine lv_iconst (v := 0) hx hb dX12_do1_46 (by decide) ?_
        refine z_iast hx hb hK hP hD hS 2 rfl (fun z => w_X12_do1 h_t r_t F_t cI a_tape z) (fun _ => rfl) dX12_do1_47 hf (fun a11 H locs hf hP hD hS => ?_)
        refine z_iinc (k0 := 2) (fun z => [(2, .int z), (0, .ref h_t), (1, .int x1)]) hx hb dX12_do1_48 hl rfl (by decide) (by decide) (fun _ => rfl) hf (fun v12 ls hf hl => ?_)
        refine lv_goto (tgt := 33) hx hb dX12_do1_51 (by decide) ?_
        exact ih33 x1 v12 F_t a11 _ _ _ hf hP hD hS (lv_sub hl [1, 2, 0] rfl)
  have L15 : ∀ (s1 : Int32) (F_t : Nat → Int32) (a_wait1 : Nat → Int32) (H : Heap) (locs : List Loc) (ls : Array Slot), m_X12_do1_j15 a_tape s1 F_t a_wait1 = some Rr → va_P D vwCl (w_X12_do1 h_t r_t F_t cI a_tape a_wait1) H → va_D A (w_X12_do1 h_t r_t F_t cI a_tape a_wait1) → va_S A s.heap H locs → lv_has ls 3 [(0, .ref h_t)] → W p l e rm_X12_do1 s m args below meth c H locs 0 0 Q (F0 m 15 ls [.int s1, .ref h_t]) := by
    intro s1 F_t a_wait1 H locs ls hf hP hD hS hl
    have hf := (m_X12_do1_j15.eq_1 _ _ _ _).symm.trans hf
    refine lv_iconst (v := 2) hx hb dX12_do1_15 (by decide) ?_
    obtain ⟨u1, hu1, hf⟩ := bd_some hf
    refine z_ci (ws1 := w_X12_do1 h_t r_t u1.2 cI a_tape a_wait1) (wr := List.filterMap (fun i : Nat => (w_X12_do1 h_t r_t F_t cI a_tape a_wait1)[i]?) [1, 2]) (z_rV (rest := []) hx hb hml hown hcx hl.1 (c_X12_wants l D cI h_t r_t F_t s1 2 u1 hu1 _) tl_X12_270 ti_X12_wants tz_X12_wants tn_X12 tc_X12_wants tm_X12_wants rfl rfl ⟨Nat.le_of_ble_eq_true rfl, Nat.le_of_ble_eq_true rfl⟩ hK hX hS hA hP hD [0] rfl rfl 0 rfl rfl rfl rfl (Nat.le_of_ble_eq_true rfl) dX12_do1_16 ⟨Nat.zero_le _, Nat.zero_le _⟩) hP hD hS hA [0] [1, 2] [2, 0, 1] rfl rfl rfl (by decide) rfl rfl (fun H locs hP hD hS => ?_)
    refine z_if_ne (tgt := 23) hx hb dX12_do1_19 (by decide) hf (fun hf => ?_) (fun hf => ?_)
    · refine lv_bipush (v := 13) hx hb dX12_do1_23 (by decide) ?_
      refine lv_aload_n hx hb dX12_do1_25 rfl (lv_at hl 0 rfl) ?_
      refine z_get (ci := 12) (C := RX12) (T := TX12) (N := 51) (v := .int (u1.2 42)) hx hb hts inT_X12 hown hK hP 0 rfl rfl 42 (by decide) tf_X12_292 rfl dX12_do1_26 ?_
      refine lv_imul hx hb dX12_do1_29 ?_
      refine z_istore_n (fun z => [(1, .int z), (0, .ref h_t)]) hx hb dX12_do1_30 rfl hl (by decide) (fun _ => rfl) hf (fun v2 ls hf hl => ?_)
      refine lv_iconst (v := 0) hx hb dX12_do1_31 (by decide) ?_
      refine lv_istore_n (lv' := [(2, .int 0), (1, .int v2), (0, .ref h_t)]) hx hb dX12_do1_32 rfl hl (by decide) rfl (fun ls hl => ?_)
      exact L33 fuelN v2 0 u1.2 a_wait1 _ _ _ hf hP hD hS (lv_sub hl [2, 1, 0] rfl)
    · exact hret (u1.2, a_wait1) _ _ _ _ hf hP hD hS dX12_do1_22
  refine lv_aload_n hx hb dX12_do1_0 rfl (lv_at hl 0 rfl) ?_
  refine lv_aload_n hx hb dX12_do1_1 rfl (lv_at hl 0 rfl) ?_
  refine z_get (ci := 12) (C := RX12) (T := TX12) (N := 51) (v := .int (F_t 42)) hx hb hts inT_X12 hown hK hP 0 rfl rfl 42 (by decide) tf_X12_292 rfl dX12_do1_2 ?_
  refine lv_bipush (v := 12) hx hb dX12_do1_5 (by decide) ?_
  refine z_icmp_ge (tgt := 14) hx hb dX12_do1_7 (by decide) hf (fun hf => ?_) (fun hf => ?_)
  · refine lv_iconst (v := 0) hx hb dX12_do1_14 (by decide) ?_
    exact L15 0 F_t a_wait1 _ _ _ hf hP hD hS (lv_sub hl [0] rfl)
  · refine lv_iconst (v := 1) hx hb dX12_do1_10 (by decide) ?_
    refine lv_goto (tgt := 15) hx hb dX12_do1_11 (by decide) ?_
    exact L15 1 F_t a_wait1 _ _ _ hf hP hD hS (lv_sub hl [0] rfl)
