abbrev w_X11_heap (h_t : Nat) (r_t : Nat → Nat) (r_all : Nat → Nat) (r_all_machine : Nat → Nat) (r_all_machine_cache : Nat → Nat) (r_all_history : Nat → Nat) (r_reader : Nat → Nat) (r_reader_machine : Nat → Nat) (r_reader_machine_cache : Nat → Nat) (F_t : Nat → Int32) (F_all : Nat → Int32) (F_all_machine : Nat → Int32) (F_all_history : Nat → Int32) (F_reader : Nat → Int32) (F_reader_machine : Nat → Int32) (kq : Option Nat) (cI : ClassId) (a_tape : Nat → Int32) (a_all_machine_cache_media : Nat → Int32) (a_all_machine_cache_stores : Nat → Int32) (a_all_machine_cache_held : Nat → Int32) (a_all_machine_cache_asked : Nat → Int32) (a_all_machine_micros : Nat → Int32) (a_all_machine_before : Nat → Int32) (a_all_machine_after : Nat → Int32) (a_all_machine_waiting : Nat → Int32) (a_all_machine_tallies : Nat → Int32) (a_all_refused : Nat → Int32) (a_reader_machine_cache_media : Nat → Int32) (a_reader_machine_cache_stores : Nat → Int32) (a_reader_machine_cache_held : Nat → Int32) (a_reader_machine_cache_asked : Nat → Int32) (a_reader_machine_micros : Nat → Int32) (a_reader_machine_before : Nat → Int32) (a_reader_machine_after : Nat → Int32) (a_reader_machine_waiting : Nat → Int32) (a_reader_machine_tallies : Nat → Int32) : va_W := [(h_t, .inr (11, o_X11 r_t F_t kq)), ((r_t 0), .inl (cI, 700, .inl a_tape)), ((r_t 3), .inr (0, o_X0 r_all F_all)), ((r_all 0), .inr (4, o_X4 r_all_machine F_all_machine)), ((r_all_machine 0), .inr (1, o_X1 r_all_machine_cache)), ((r_all_machine_cache 0), .inl (cI, 64, .inl a_all_machine_cache_media)), ((r_all_machine_cache 1), .inl (cI, 96, .inl a_all_machine_cache_stores)), ((r_all_machine_cache 2), .inl (cI, 16, .inl a_all_machine_cache_held)), ((r_all_machine_cache 3), .inl (cI, 16, .inl a_all_machine_cache_asked)), ((r_all_machine 1), .inl (cI, 80, .inl a_all_machine_micros)), ((r_all_machine 4), .inl (cI, 44, .inl a_all_machine_before)), ((r_all_machine 5), .inl (cI, 44, .inl a_all_machine_after)), ((r_all_machine 6), .inl (cI, 48, .inl a_all_machine_waiting)), ((r_all_machine 11), .inl (cI, 8, .inl a_all_machine_tallies)), ((r_all 1), .inr (3, o_X3 r_all_history F_all_history)), ((r_all 4), .inl (cI, 3, .inl a_all_refused)), ((r_t 12), .inr (6, o_X6 (alX6 r_reader r_reader_machine_cache) F_reader)), ((r_reader 0), .inr (4, o_X4 r_reader_machine F_reader_machine)), ((r_reader_machine 0), .inr (1, o_X1 r_reader_machine_cache)), ((r_reader_machine_cache 0), .inl (cI, 64, .inl a_reader_machine_cache_media)), ((r_reader_machine_cache 1), .inl (cI, 96, .inl a_reader_machine_cache_stores)), ((r_reader_machine_cache 2), .inl (cI, 16, .inl a_reader_machine_cache_held)), ((r_reader_machine_cache 3), .inl (cI, 16, .inl a_reader_machine_cache_asked)), ((r_reader_machine 1), .inl (cI, 80, .inl a_reader_machine_micros)), ((r_reader_machine 4), .inl (cI, 44, .inl a_reader_machine_before)), ((r_reader_machine 5), .inl (cI, 44, .inl a_reader_machine_after)), ((r_reader_machine 6), .inl (cI, 48, .inl a_reader_machine_waiting)), ((r_reader_machine 11), .inl (cI, 8, .inl a_reader_machine_tallies))]
abbrev rm_X11_heap : Room := { frames := 10, cells := 1, slots := 6, locals := 219 }
def m_X11_heap (F_t : Nat → Int32) (F_all : Nat → Int32) (F_all_machine : Nat → Int32) (F_all_history : Nat → Int32) (F_reader : Nat → Int32) (F_reader_machine : Nat → Int32) (a_tape : Nat → Int32) (a_all_machine_cache_media : Nat → Int32) (a_all_machine_cache_stores : Nat → Int32) (a_all_machine_cache_held : Nat → Int32) (a_all_machine_cache_asked : Nat → Int32) (a_all_machine_micros : Nat → Int32) (a_all_machine_before : Nat → Int32) (a_all_machine_after : Nat → Int32) (a_all_machine_waiting : Nat → Int32) (a_all_machine_tallies : Nat → Int32) (a_all_refused : Nat → Int32) (a_reader_machine_cache_media : Nat → Int32) (a_reader_machine_cache_stores : Nat → Int32) (a_reader_machine_cache_held : Nat → Int32) (a_reader_machine_cache_asked : Nat → Int32) (a_reader_machine_micros : Nat → Int32) (a_reader_machine_before : Nat → Int32) (a_reader_machine_after : Nat → Int32) (a_reader_machine_waiting : Nat → Int32) (a_reader_machine_tallies : Nat → Int32) (p1 : Int32) : Option (Int32 × Int32 × (Nat → Int32) × (Nat → Int32) × (Nat → Int32) × (Nat → Int32) × (Nat → Int32) × (Nat → Int32) × (Nat → Int32) × (Nat → Int32) × (Nat → Int32) × (Nat → Int32) × (Nat → Int32) × (Nat → Int32) × (Nat → Int32) × (Nat → Int32) × (Nat → Int32) × (Nat → Int32) × (Nat → Int32) × (Nat → Int32) × (Nat → Int32) × (Nat → Int32) × Bool) :=
  if p1 < 0 then (
  some (2, 0, F_t, F_all, F_all_machine, F_all_history, F_reader, F_reader_machine, a_all_machine_cache_media, a_all_machine_cache_stores, a_all_machine_cache_held, a_all_machine_cache_asked, a_all_machine_micros, a_all_machine_before, a_all_machine_after, a_all_machine_waiting, a_all_machine_tallies, a_all_refused, a_reader_machine_cache_media, a_reader_machine_before, a_reader_machine_after, a_reader_machine_waiting, false))
  else (
  if p1 ≤ (F_t 1) then (
  nm (upd F_t 1 0) fun F1 =>
  bd (m_X6_readText F_reader F_reader_machine a_reader_machine_before a_reader_machine_after a_reader_machine_waiting a_reader_machine_cache_media a_tape 700 p1) fun u2 =>
  if u2.1 = 0 then (
  nm (upd F1 2 (-1)) fun F3 =>
  cb 0 (
  nm (upd F3 5 0) fun F4 =>
  bd (m_X0_renew F_all F_all_machine F_all_history u2.2.2.1 a_all_machine_cache_media a_all_machine_cache_stores a_all_machine_cache_held a_all_machine_cache_asked a_all_machine_micros a_all_machine_before a_all_machine_after a_all_machine_waiting a_all_machine_tallies u2.2.2.2.2.2.2 a_reader_machine_cache_stores a_reader_machine_cache_held a_reader_machine_cache_asked a_reader_machine_micros u2.2.2.2.1 u2.2.2.2.2.1 u2.2.2.2.2.2.1 a_reader_machine_tallies) fun u5 =>
  some (0, 0, F4, u5.1, u5.2.1, u5.2.2.1, u2.2.1, u2.2.2.1, u5.2.2.2.1, u5.2.2.2.2.1, u5.2.2.2.2.2.1, u5.2.2.2.2.2.2.1, u5.2.2.2.2.2.2.2.1, u5.2.2.2.2.2.2.2.2.1, u5.2.2.2.2.2.2.2.2.2.1, u5.2.2.2.2.2.2.2.2.2.2.1, u5.2.2.2.2.2.2.2.2.2.2.2, a_all_refused, u2.2.2.2.2.2.2, u2.2.2.2.1, u2.2.2.2.2.1, u2.2.2.2.2.2.1, true)))
  else (
  nm (upd F1 2 (u2.2.1 6)) fun F6 =>
  rd a_all_refused 3 0 fun y7 =>
  wr a_all_refused 3 0 (y7 + 1) fun a8 =>
  some (0, u2.1, F6, F_all, F_all_machine, F_all_history, u2.2.1, u2.2.2.1, a_all_machine_cache_media, a_all_machine_cache_stores, a_all_machine_cache_held, a_all_machine_cache_asked, a_all_machine_micros, a_all_machine_before, a_all_machine_after, a_all_machine_waiting, a_all_machine_tallies, a8, u2.2.2.2.2.2.2, u2.2.2.2.1, u2.2.2.2.2.1, u2.2.2.2.2.2.1, true)))
  else (
  some (2, 0, F_t, F_all, F_all_machine, F_all_history, F_reader, F_reader_machine, a_all_machine_cache_media, a_all_machine_cache_stores, a_all_machine_cache_held, a_all_machine_cache_asked, a_all_machine_micros, a_all_machine_before, a_all_machine_after, a_all_machine_waiting, a_all_machine_tallies, a_all_refused, a_reader_machine_cache_media, a_reader_machine_before, a_reader_machine_after, a_reader_machine_waiting, false)))
set_option maxHeartbeats 4000000 in
set_option maxRecDepth 100000 in
theorem c_X11_heap (l : Launch) (hlt : l.stackTraces = false) (D : va_G) (cI : ClassId) (h_t : Nat) (r_t : Nat → Nat) (r_all : Nat → Nat) (r_all_machine : Nat → Nat) (r_all_machine_cache : Nat → Nat) (r_all_history : Nat → Nat) (r_reader : Nat → Nat) (r_reader_machine : Nat → Nat) (r_reader_machine_cache : Nat → Nat) (F_t : Nat → Int32) (F_all : Nat → Int32) (F_all_machine : Nat → Int32) (F_all_history : Nat → Int32) (F_reader : Nat → Int32) (F_reader_machine : Nat → Int32) (kq : Option Nat) (a_tape : Nat → Int32) (a_all_machine_cache_media : Nat → Int32) (a_all_machine_cache_stores : Nat → Int32) (a_all_machine_cache_held : Nat → Int32) (a_all_machine_cache_asked : Nat → Int32) (a_all_machine_micros : Nat → Int32) (a_all_machine_before : Nat → Int32) (a_all_machine_after : Nat → Int32) (a_all_machine_waiting : Nat → Int32) (a_all_machine_tallies : Nat → Int32) (a_all_refused : Nat → Int32) (a_reader_machine_cache_media : Nat → Int32) (a_reader_machine_cache_stores : Nat → Int32) (a_reader_machine_cache_held : Nat → Int32) (a_reader_machine_cache_asked : Nat → Int32) (a_reader_machine_micros : Nat → Int32) (a_reader_machine_before : Nat → Int32) (a_reader_machine_after : Nat → Int32) (a_reader_machine_waiting : Nat → Int32) (a_reader_machine_tallies : Nat → Int32) (p1 : Int32) (Rr : Int32 × Int32 × (Nat → Int32) × (Nat → Int32) × (Nat → Int32) × (Nat → Int32) × (Nat → Int32) × (Nat → Int32) × (Nat → Int32) × (Nat → Int32) × (Nat → Int32) × (Nat → Int32) × (Nat → Int32) × (Nat → Int32) × (Nat → Int32) × (Nat → Int32) × (Nat → Int32) × (Nat → Int32) × (Nat → Int32) × (Nat → Int32) × (Nat → Int32) × (Nat → Int32) × Bool) (hf : m_X11_heap F_t F_all F_all_machine F_all_history F_reader F_reader_machine a_tape a_all_machine_cache_media a_all_machine_cache_stores a_all_machine_cache_held a_all_machine_cache_asked a_all_machine_micros a_all_machine_before a_all_machine_after a_all_machine_waiting a_all_machine_tallies a_all_refused a_reader_machine_cache_media a_reader_machine_cache_stores a_reader_machine_cache_held a_reader_machine_cache_asked a_reader_machine_micros a_reader_machine_before a_reader_machine_after a_reader_machine_waiting a_reader_machine_tallies p1 = some Rr) : CTx l yX11_heap (Cond.code yX11_heap cX11_heap 3 (some .int)) rm_X11_heap D cI [.ref h_t, .int p1] (w_X11_heap h_t r_t r_all r_all_machine r_all_machine_cache r_all_history r_reader r_reader_machine r_reader_machine_cache F_t F_all F_all_machine F_all_history F_reader F_reader_machine kq cI a_tape a_all_machine_cache_media a_all_machine_cache_stores a_all_machine_cache_held a_all_machine_cache_asked a_all_machine_micros a_all_machine_before a_all_machine_after a_all_machine_waiting a_all_machine_tallies a_all_refused a_reader_machine_cache_media a_reader_machine_cache_stores a_reader_machine_cache_held a_reader_machine_cache_asked a_reader_machine_micros a_reader_machine_before a_reader_machine_after a_reader_machine_waiting a_reader_machine_tallies) Rr.1 Rr.2.1 (fun (_ : Unit) => w_X11_heap h_t r_t r_all r_all_machine r_all_machine_cache r_all_history (cond Rr.2.2.2.2.2.2.2.2.2.2.2.2.2.2.2.2.2.2.2.2.2.2 (updR r_reader 2 (r_t 0)) r_reader) r_reader_machine r_reader_machine_cache Rr.2.2.1 Rr.2.2.2.1 Rr.2.2.2.2.1 Rr.2.2.2.2.2.1 Rr.2.2.2.2.2.2.1 Rr.2.2.2.2.2.2.2.1 kq cI a_tape Rr.2.2.2.2.2.2.2.2.1 Rr.2.2.2.2.2.2.2.2.2.1 Rr.2.2.2.2.2.2.2.2.2.2.1 Rr.2.2.2.2.2.2.2.2.2.2.2.1 Rr.2.2.2.2.2.2.2.2.2.2.2.2.1 Rr.2.2.2.2.2.2.2.2.2.2.2.2.2.1 Rr.2.2.2.2.2.2.2.2.2.2.2.2.2.2.1 Rr.2.2.2.2.2.2.2.2.2.2.2.2.2.2.2.1 Rr.2.2.2.2.2.2.2.2.2.2.2.2.2.2.2.2.1 Rr.2.2.2.2.2.2.2.2.2.2.2.2.2.2.2.2.2.1 Rr.2.2.2.2.2.2.2.2.2.2.2.2.2.2.2.2.2.2.1 a_reader_machine_cache_stores a_reader_machine_cache_held a_reader_machine_cache_asked a_reader_machine_micros Rr.2.2.2.2.2.2.2.2.2.2.2.2.2.2.2.2.2.2.2.1 Rr.2.2.2.2.2.2.2.2.2.2.2.2.2.2.2.2.2.2.2.2.1 Rr.2.2.2.2.2.2.2.2.2.2.2.2.2.2.2.2.2.2.2.2.2.1 a_reader_machine_tallies) 1 6 := by
  refine z_begin_x (ρ := Int32 × Int32 × (Nat → Int32) × (Nat → Int32) × (Nat → Int32) × (Nat → Int32) × (Nat → Int32) × (Nat → Int32) × (Nat → Int32) × (Nat → Int32) × (Nat → Int32) × (Nat → Int32) × (Nat → Int32) × (Nat → Int32) × (Nat → Int32) × (Nat → Int32) × (Nat → Int32) × (Nat → Int32) × (Nat → Int32) × (Nat → Int32) × (Nat → Int32) × (Nat → Int32) × Bool) (fun u (_ : Unit) => w_X11_heap h_t r_t r_all r_all_machine r_all_machine_cache r_all_history (cond u.2.2.2.2.2.2.2.2.2.2.2.2.2.2.2.2.2.2.2.2.2.2 (updR r_reader 2 (r_t 0)) r_reader) r_reader_machine r_reader_machine_cache u.2.2.1 u.2.2.2.1 u.2.2.2.2.1 u.2.2.2.2.2.1 u.2.2.2.2.2.2.1 u.2.2.2.2.2.2.2.1 kq cI a_tape u.2.2.2.2.2.2.2.2.1 u.2.2.2.2.2.2.2.2.2.1 u.2.2.2.2.2.2.2.2.2.2.1 u.2.2.2.2.2.2.2.2.2.2.2.1 u.2.2.2.2.2.2.2.2.2.2.2.2.1 u.2.2.2.2.2.2.2.2.2.2.2.2.2.1 u.2.2.2.2.2.2.2.2.2.2.2.2.2.2.1 u.2.2.2.2.2.2.2.2.2.2.2.2.2.2.2.1 u.2.2.2.2.2.2.2.2.2.2.2.2.2.2.2.2.1 u.2.2.2.2.2.2.2.2.2.2.2.2.2.2.2.2.2.1 u.2.2.2.2.2.2.2.2.2.2.2.2.2.2.2.2.2.2.1 a_reader_machine_cache_stores a_reader_machine_cache_held a_reader_machine_cache_asked a_reader_machine_micros u.2.2.2.2.2.2.2.2.2.2.2.2.2.2.2.2.2.2.2.1 u.2.2.2.2.2.2.2.2.2.2.2.2.2.2.2.2.2.2.2.2.1 u.2.2.2.2.2.2.2.2.2.2.2.2.2.2.2.2.2.2.2.2.2.1 a_reader_machine_tallies) (fun u => u.1) (fun u => u.2.1) 1 6 hlt (by decide +kernel) rfl (Nat.le_of_ble_eq_true rfl) (Nat.le_of_ble_eq_true rfl) (Nat.le_of_ble_eq_true rfl) (Nat.le_of_ble_eq_true rfl) (Nat.le_of_ble_eq_true rfl) (Nat.le_of_ble_eq_true rfl) (Nat.le_of_ble_eq_true rfl) ?_
  intro p e s m args below meth c ls Q A hx hb hml hts hcx hown hK hX hA hP hD hS hl hret hth1 hth1W hth2 hth2W
  have hl : lv_has ls 3 [(0, .ref h_t), (1, .int p1)] := hl
  have hf := (m_X11_heap.eq_1 _ _ _ _ _ _ _ _ _ _ _ _ _ _ _ _ _ _ _ _ _ _ _ _ _ _ _).symm.trans hf
  refine lv_iload_n hx hb dX11_heap_0 rfl (lv_at hl 1 rfl) ?_
  refine z_if_lt (tgt := 12) hx hb dX11_heap_1 (by decide) hf (fun hf => ?_) (fun hf => ?_)
  · exact hth2 (2, 0, F_t, F_all, F_all_machine, F_all_history, F_reader, F_reader_machine, a_all_machine_cache_media, a_all_machine_cache_stores, a_all_machine_cache_held, a_all_machine_cache_asked, a_all_machine_micros, a_all_machine_before, a_all_machine_after, a_all_machine_waiting, a_all_machine_tallies, a_all_refused, a_reader_machine_cache_media, a_reader_machine_before, a_reader_machine_after, a_reader_machine_waiting, false) () _ _ _ _ 89 "the tape has not so many bytes" hl.1 (List.mem_of_getElem? (i := 0) rfl) rfl hf hP hD hS dX11_heap_12 dX11_heap_15 dX11_heap_16 dX11_heap_18 dX11_heap_21
  · refine lv_iload_n hx hb dX11_heap_4 rfl (lv_at hl 1 rfl) ?_
    refine lv_aload_n hx hb dX11_heap_5 rfl (lv_at hl 0 rfl) ?_
    refine z_get (ci := 11) (C := RX11) (T := TX11) (N := 13) (v := .int (F_t 1)) hx hb hts inT_X11 hown hK hP 0 rfl rfl 1 (by decide) tf_X11_13 rfl dX11_heap_6 ?_
    refine z_icmp_le (tgt := 22) hx hb dX11_heap_9 (by decide) hf (fun hf => ?_) (fun hf => ?_)
    · refine lv_aload_n hx hb dX11_heap_22 rfl (lv_at hl 0 rfl) ?_
      refine lv_iconst (v := 0) hx hb dX11_heap_23 (by decide) ?_
      refine z_put (ci := 11) (C := RX11) (T := TX11) (N := 13) hx hb hts inT_X11 tyX11 tyX11_ok nmX11 hown hK hP hD hS 0 rfl rfl 1 (by decide) tf_X11_13 rfl (by decide +kernel) (Nat.le_of_ble_eq_true rfl) (fun z => o_X11 r_t z kq) (o_X11_s1 _ _ _ _) (fun z => w_X11_heap h_t r_t r_all r_all_machine r_all_machine_cache r_all_history r_reader r_reader_machine r_reader_machine_cache z F_all F_all_machine F_all_history F_reader F_reader_machine kq cI a_tape a_all_machine_cache_media a_all_machine_cache_stores a_all_machine_cache_held a_all_machine_cache_asked a_all_machine_micros a_all_machine_before a_all_machine_after a_all_machine_waiting a_all_machine_tallies a_all_refused a_reader_machine_cache_media a_reader_machine_cache_stores a_reader_machine_cache_held a_reader_machine_cache_asked a_reader_machine_micros a_reader_machine_before a_reader_machine_after a_reader_machine_waiting a_reader_machine_tallies) (fun _ => rfl) dX11_heap_24 hf (fun F1 H locs hf hP hD hS => ?_)
      refine lv_aload_n hx hb dX11_heap_27 rfl (lv_at hl 0 rfl) ?_
      refine z_get (ci := 11) (C := RX11) (T := TX11) (N := 13) (v := .ref (r_t 12)) hx hb hts inT_X11 hown hK hP 0 rfl rfl 12 (by decide) tf_X11_79 rfl dX11_heap_28 ?_
      refine lv_aload_n hx hb dX11_heap_31 rfl (lv_at hl 0 rfl) ?_
      refine z_get (ci := 11) (C := RX11) (T := TX11) (N := 13) (v := .ref (r_t 0)) hx hb hts inT_X11 hown hK hP 0 rfl rfl 0 (by decide) tf_X11_9 rfl dX11_heap_32 ?_
      refine lv_iload_n hx hb dX11_heap_35 rfl (lv_at hl 1 rfl) ?_
      obtain ⟨u2, hu2, hf⟩ := bd_some hf
      refine z_ci (ws1 := w_X11_heap h_t r_t r_all r_all_machine r_all_machine_cache r_all_history (updR r_reader 2 (r_t 0)) r_reader_machine r_reader_machine_cache F1 F_all F_all_machine F_all_history u2.2.1 u2.2.2.1 kq cI a_tape a_all_machine_cache_media a_all_machine_cache_stores a_all_machine_cache_held a_all_machine_cache_asked a_all_machine_micros a_all_machine_before a_all_machine_after a_all_machine_waiting a_all_machine_tallies a_all_refused u2.2.2.2.2.2.2 a_reader_machine_cache_stores a_reader_machine_cache_held a_reader_machine_cache_asked a_reader_machine_micros u2.2.2.2.1 u2.2.2.2.2.1 u2.2.2.2.2.2.1 a_reader_machine_tallies) (wr := List.filterMap (fun i : Nat => (w_X11_heap h_t r_t r_all r_all_machine r_all_machine_cache r_all_history r_reader r_reader_machine r_reader_machine_cache F1 F_all F_all_machine F_all_history F_reader F_reader_machine kq cI a_tape a_all_machine_cache_media a_all_machine_cache_stores a_all_machine_cache_held a_all_machine_cache_asked a_all_machine_micros a_all_machine_before a_all_machine_after a_all_machine_waiting a_all_machine_tallies a_all_refused a_reader_machine_cache_media a_reader_machine_cache_stores a_reader_machine_cache_held a_reader_machine_cache_asked a_reader_machine_micros a_reader_machine_before a_reader_machine_after a_reader_machine_waiting a_reader_machine_tallies)[i]?) [0, 2, 3, 4, 5, 6, 7, 8, 9, 10, 11, 12, 13, 14, 15, 18, 20, 21, 22, 23, 27]) (z_rV (rest := []) hx hb hml hown hcx hl.1 (c_X6_readText l D cI (r_t 12) (r_t 0) (alX6 r_reader r_reader_machine_cache) r_reader_machine F_reader F_reader_machine 700 a_reader_machine_before a_reader_machine_after a_reader_machine_waiting a_reader_machine_cache_media a_tape p1 u2 hu2 _) tl_X11_94 ti_X6_readText tz_X6_readText tn_X6 tc_X6_readText tm_X6_readText rfl rfl ⟨Nat.le_of_ble_eq_true rfl, Nat.le_of_ble_eq_true rfl⟩ hK hX hS hA hP hD [16, 17, 24, 25, 26, 19, 1] rfl rfl 16 rfl rfl rfl rfl (Nat.le_of_ble_eq_true rfl) dX11_heap_36 ⟨Nat.zero_le _, Nat.zero_le _⟩) hP hD hS hA [16, 17, 24, 25, 26, 19, 1] [0, 2, 3, 4, 5, 6, 7, 8, 9, 10, 11, 12, 13, 14, 15, 18, 20, 21, 22, 23, 27] [0, 27, 1, 2, 3, 4, 5, 6, 7, 8, 9, 10, 11, 12, 13, 14, 21, 22, 15, 26, 16, 17, 18, 19, 23, 24, 25, 20] rfl rfl rfl (by decide) rfl rfl (fun H locs hP hD hS => ?_)
      refine lv_istore_n (lv' := [(2, .int u2.1), (0, .ref h_t), (1, .int p1)]) hx hb dX11_heap_39 rfl hl (by decide) rfl (fun ls hl => ?_)
      refine lv_iload_n hx hb dX11_heap_40 rfl (lv_at hl 0 rfl) ?_
      refine z_if_eq (tgt := 70) hx hb dX11_heap_41 (by decide) hf (fun hf => ?_) (fun hf => ?_)
      · refine lv_aload_n hx hb dX11_heap_70 rfl (lv_at hl 1 rfl) ?_
        refine lv_iconst (v := (-1)) hx hb dX11_heap_71 (by decide) ?_
        refine z_put (ci := 11) (C := RX11) (T := TX11) (N := 13) hx hb hts inT_X11 tyX11 tyX11_ok nmX11 hown hK hP hD hS 0 rfl rfl 2 (by decide) tf_X11_17 rfl (by decide +kernel) (Nat.le_of_ble_eq_true rfl) (fun z => o_X11 r_t z kq) (o_X11_s2 _ _ _ _) (fun z => w_X11_heap h_t r_t r_all r_all_machine r_all_machine_cache r_all_history (updR r_reader 2 (r_t 0)) r_reader_machine r_reader_machine_cache z F_all F_all_machine F_all_history u2.2.1 u2.2.2.1 kq cI a_tape a_all_machine_cache_media a_all_machine_cache_stores a_all_machine_cache_held a_all_machine_cache_asked a_all_machine_micros a_all_machine_before a_all_machine_after a_all_machine_waiting a_all_machine_tallies a_all_refused u2.2.2.2.2.2.2 a_reader_machine_cache_stores a_reader_machine_cache_held a_reader_machine_cache_asked a_reader_machine_micros u2.2.2.2.1 u2.2.2.2.2.1 u2.2.2.2.2.2.1 a_reader_machine_tallies) (fun _ => rfl) dX11_heap_72 hf (fun F3 H locs hf hP hD hS => ?_)
        refine lv_aload_n hx hb dX11_heap_75 rfl (lv_at hl 1 rfl) ?_
        refine lv_iconst (v := 0) hx hb dX11_heap_76 (by decide) ?_
        refine z_putb (ci := 11) (C := RX11) (T := TX11) (N := 13) hx hb hts inT_X11 tyX11 tyX11_ok nmX11 hown hK hP hD hS 0 rfl rfl 5 (by decide) tf_X11_30 rfl (by decide +kernel) (Nat.le_of_ble_eq_true rfl) (fun z => o_X11 r_t z kq) (o_X11_s5 _ _ _ _) (fun z => w_X11_heap h_t r_t r_all r_all_machine r_all_machine_cache r_all_history (updR r_reader 2 (r_t 0)) r_reader_machine r_reader_machine_cache z F_all F_all_machine F_all_history u2.2.1 u2.2.2.1 kq cI a_tape a_all_machine_cache_media a_all_machine_cache_stores a_all_machine_cache_held a_all_machine_cache_asked a_all_machine_micros a_all_machine_before a_all_machine_after a_all_machine_waiting a_all_machine_tallies a_all_refused u2.2.2.2.2.2.2 a_reader_machine_cache_stores a_reader_machine_cache_held a_reader_machine_cache_asked a_reader_machine_micros u2.2.2.2.1 u2.2.2.2.2.1 u2.2.2.2.2.2.1 a_reader_machine_tallies) (fun _ => rfl) dX11_heap_77 hf (fun F4 H locs hf hP hD hS => ?_)
        refine lv_aload_n hx hb dX11_heap_80 rfl (lv_at hl 1 rfl) ?_
        refine z_get (ci := 11) (C := RX11) (T := TX11) (N := 13) (v := .ref (r_t 3)) hx hb hts inT_X11 hown hK hP 0 rfl rfl 3 (by decide) tf_X11_23 rfl dX11_heap_81 ?_
        refine lv_aload_n hx hb dX11_heap_84 rfl (lv_at hl 1 rfl) ?_
        refine z_get (ci := 11) (C := RX11) (T := TX11) (N := 13) (v := .ref (r_t 12)) hx hb hts inT_X11 hown hK hP 0 rfl rfl 12 (by decide) tf_X11_79 rfl dX11_heap_85 ?_
        refine z_get (ci := 6) (C := RX6) (T := TX6) (N := 11) (v := .ref (r_reader 0)) hx hb hts inT_X6 hown hK hP 16 rfl rfl 0 (by decide) tf_X11_104 rfl dX11_heap_88 ?_
        obtain ⟨u5, hu5, hf⟩ := bd_some hf
        refine z_cv (ws1 := w_X11_heap h_t r_t r_all r_all_machine r_all_machine_cache r_all_history (updR r_reader 2 (r_t 0)) r_reader_machine r_reader_machine_cache F4 u5.1 u5.2.1 u5.2.2.1 u2.2.1 u2.2.2.1 kq cI a_tape u5.2.2.2.1 u5.2.2.2.2.1 u5.2.2.2.2.2.1 u5.2.2.2.2.2.2.1 u5.2.2.2.2.2.2.2.1 u5.2.2.2.2.2.2.2.2.1 u5.2.2.2.2.2.2.2.2.2.1 u5.2.2.2.2.2.2.2.2.2.2.1 u5.2.2.2.2.2.2.2.2.2.2.2 a_all_refused u2.2.2.2.2.2.2 a_reader_machine_cache_stores a_reader_machine_cache_held a_reader_machine_cache_asked a_reader_machine_micros u2.2.2.2.1 u2.2.2.2.2.1 u2.2.2.2.2.2.1 a_reader_machine_tallies) (wr := List.filterMap (fun i : Nat => (w_X11_heap h_t r_t r_all r_all_machine r_all_machine_cache r_all_history (updR r_reader 2 (r_t 0)) r_reader_machine r_reader_machine_cache F4 F_all F_all_machine F_all_history u2.2.1 u2.2.2.1 kq cI a_tape a_all_machine_cache_media a_all_machine_cache_stores a_all_machine_cache_held a_all_machine_cache_asked a_all_machine_micros a_all_machine_before a_all_machine_after a_all_machine_waiting a_all_machine_tallies a_all_refused u2.2.2.2.2.2.2 a_reader_machine_cache_stores a_reader_machine_cache_held a_reader_machine_cache_asked a_reader_machine_micros u2.2.2.2.1 u2.2.2.2.2.1 u2.2.2.2.2.2.1 a_reader_machine_tallies)[i]?) [0, 1, 15, 16]) (z_rV (rest := []) hx hb hml hown hcx hl.1 (c_X0_renew l D cI (r_t 3) (r_reader 0) r_all r_all_machine r_all_machine_cache r_all_history r_reader_machine r_reader_machine_cache F_all F_all_machine F_all_history u2.2.2.1 a_all_machine_cache_media a_all_machine_cache_stores a_all_machine_cache_held a_all_machine_cache_asked a_all_machine_micros a_all_machine_before a_all_machine_after a_all_machine_waiting a_all_machine_tallies u2.2.2.2.2.2.2 a_reader_machine_cache_stores a_reader_machine_cache_held a_reader_machine_cache_asked a_reader_machine_micros u2.2.2.2.1 u2.2.2.2.2.1 u2.2.2.2.2.2.1 a_reader_machine_tallies u5 hu5 _) tl_X11_108 ti_X0_renew tz_X0_renew tn_X0 tc_X0_renew tm_X0_renew rfl rfl ⟨Nat.le_of_ble_eq_true rfl, Nat.le_of_ble_eq_true rfl⟩ hK hX hS hA hP hD [2, 3, 4, 5, 6, 7, 8, 9, 10, 11, 12, 13, 14, 17, 18, 19, 20, 21, 22, 23, 24, 25, 26, 27] rfl rfl 2 rfl rfl rfl rfl (Nat.le_of_ble_eq_true rfl) dX11_heap_91 ⟨Nat.zero_le _, Nat.zero_le _⟩) hP hD hS hA [2, 3, 4, 5, 6, 7, 8, 9, 10, 11, 12, 13, 14, 17, 18, 19, 20, 21, 22, 23, 24, 25, 26, 27] [0, 1, 15, 16] [0, 1, 4, 5, 6, 7, 8, 9, 10, 11, 12, 13, 14, 15, 16, 2, 3, 17, 18, 19, 20, 21, 22, 23, 24, 25, 26, 27] rfl rfl rfl (by decide) rfl rfl (fun H locs hP hD hS => ?_)
        refine lv_iconst (v := 0) hx hb dX11_heap_94 (by decide) ?_
        exact hret (0, 0, F4, u5.1, u5.2.1, u5.2.2.1, u2.2.1, u2.2.2.1, u5.2.2.2.1, u5.2.2.2.2.1, u5.2.2.2.2.2.1, u5.2.2.2.2.2.2.1, u5.2.2.2.2.2.2.2.1, u5.2.2.2.2.2.2.2.2.1, u5.2.2.2.2.2.2.2.2.2.1, u5.2.2.2.2.2.2.2.2.2.2.1, u5.2.2.2.2.2.2.2.2.2.2.2, a_all_refused, u2.2.2.2.2.2.2, u2.2.2.2.1, u2.2.2.2.2.1, u2.2.2.2.2.2.1, true) () _ _ _ _ _ _ (Nat.le_of_ble_eq_true rfl) (Nat.le_of_ble_eq_true rfl) rfl hf hP hD hS dX11_heap_95
      · refine lv_aload_n hx hb dX11_heap_44 rfl (lv_at hl 1 rfl) ?_
        refine lv_aload_n hx hb dX11_heap_45 rfl (lv_at hl 1 rfl) ?_
        refine z_get (ci := 11) (C := RX11) (T := TX11) (N := 13) (v := .ref (r_t 12)) hx hb hts inT_X11 hown hK hP 0 rfl rfl 12 (by decide) tf_X11_79 rfl dX11_heap_46 ?_
        refine z_get (ci := 6) (C := RX6) (T := TX6) (N := 11) (v := .int (u2.2.1 6)) hx hb hts inT_X6 hown hK hP 16 rfl rfl 6 (by decide) tf_X11_98 rfl dX11_heap_49 ?_
        refine z_put (ci := 11) (C := RX11) (T := TX11) (N := 13) hx hb hts inT_X11 tyX11 tyX11_ok nmX11 hown hK hP hD hS 0 rfl rfl 2 (by decide) tf_X11_17 rfl (by decide +kernel) (Nat.le_of_ble_eq_true rfl) (fun z => o_X11 r_t z kq) (o_X11_s2 _ _ _ _) (fun z => w_X11_heap h_t r_t r_all r_all_machine r_all_machine_cache r_all_history (updR r_reader 2 (r_t 0)) r_reader_machine r_reader_machine_cache z F_all F_all_machine F_all_history u2.2.1 u2.2.2.1 kq cI a_tape a_all_machine_cache_media a_all_machine_cache_stores a_all_machine_cache_held a_all_machine_cache_asked a_all_machine_micros a_all_machine_before a_all_machine_after a_all_machine_waiting a_all_machine_tallies a_all_refused u2.2.2.2.2.2.2 a_reader_machine_cache_stores a_reader_machine_cache_held a_reader_machine_cache_asked a_reader_machine_micros u2.2.2.2.1 u2.2.2.2.2.1 u2.2.2.2.2.2.1 a_reader_machine_tallies) (fun _ => rfl) dX11_heap_52 hf (fun F6 H locs hf hP hD hS => ?_)
        refine lv_aload_n hx hb dX11_heap_55 rfl (lv_at hl 1 rfl) ?_
        refine z_get (ci := 11) (C := RX11) (T := TX11) (N := 13) (v := .ref (r_t 3)) hx hb hts inT_X11 hown hK hP 0 rfl rfl 3 (by decide) tf_X11_23 rfl dX11_heap_56 ?_
        refine z_get (ci := 0) (C := RX0) (T := TX0) (N := 5) (v := .ref (r_all 4)) hx hb hts inT_X0 hown hK hP 2 rfl rfl 4 (by decide) tf_X11_101 rfl dX11_heap_59 ?_
        refine lv_iconst (v := 0) hx hb dX11_heap_62 (by decide) ?_
        refine lv_dup2_11 hx hb dX11_heap_63 rfl rfl ?_
        refine z_iald hx hb hK hP 15 rfl dX11_heap_64 hf (fun y7 hf => ?_)
        refine lv_iconst (v := 1) hx hb dX11_heap_65 (by decide) ?_
        refine lv_iadd hx hb dX11_heap_66 ?_
        refine z_iast hx hb hK hP hD hS 15 rfl (fun z => w_X11_heap h_t r_t r_all r_all_machine r_all_machine_cache r_all_history (updR r_reader 2 (r_t 0)) r_reader_machine r_reader_machine_cache F6 F_all F_all_machine F_all_history u2.2.1 u2.2.2.1 kq cI a_tape a_all_machine_cache_media a_all_machine_cache_stores a_all_machine_cache_held a_all_machine_cache_asked a_all_machine_micros a_all_machine_before a_all_machine_after a_all_machine_waiting a_all_machine_tallies z u2.2.2.2.2.2.2 a_reader_machine_cache_stores a_reader_machine_cache_held a_reader_machine_cache_asked a_reader_machine_micros u2.2.2.2.1 u2.2.2.2.2.1 u2.2.2.2.2.2.1 a_reader_machine_tallies) (fun _ => rfl) dX11_heap_67 hf (fun a8 H locs hf hP hD hS => ?_)
        refine lv_iload_n hx hb dX11_heap_68 rfl (lv_at hl 0 rfl) ?_
        exact hret (0, u2.1, F6, F_all, F_all_machine, F_all_history, u2.2.1, u2.2.2.1, a_all_machine_cache_media, a_all_machine_cache_stores, a_all_machine_cache_held, a_all_machine_cache_asked, a_all_machine_micros, a_all_machine_before, a_all_machine_after, a_all_machine_waiting, a_all_machine_tallies, a8, u2.2.2.2.2.2.2, u2.2.2.2.1, u2.2.2.2.2.1, u2.2.2.2.2.2.1, true) () _ _ _ _ _ _ (Nat.le_of_ble_eq_true rfl) (Nat.le_of_ble_eq_true rfl) rfl hf hP hD hS dX11_heap_69
    · exact hth2 (2, 0, F_t, F_all, F_all_machine, F_all_history, F_reader, F_reader_machine, a_all_machine_cache_media, a_all_machine_cache_stores, a_all_machine_cache_held, a_all_machine_cache_asked, a_all_machine_micros, a_all_machine_before, a_all_machine_after, a_all_machine_waiting, a_all_machine_tallies, a_all_refused, a_reader_machine_cache_media, a_reader_machine_before, a_reader_machine_after, a_reader_machine_waiting, false) () _ _ _ _ 89 "the tape has not so many bytes" hl.1 (List.mem_of_getElem? (i := 0) rfl) rfl hf hP hD hS dX11_heap_12 dX11_heap_15 dX11_heap_16 dX11_heap_18 dX11_heap_21
abbrev w_X11_count (h_t : Nat) (r_t : Nat → Nat) (r_all : Nat → Nat) (r_all_machine : Nat → Nat) (r_all_machine_cache : Nat → Nat) (r_all_history : Nat → Nat) (F_t : Nat → Int32) (F_all : Nat → Int32) (F_all_machine : Nat → Int32) (F_all_history : Nat → Int32) (kq : Option Nat) (cI : ClassId) (a_all_machine_cache_held : Nat → Int32) (a_all_machine_tallies : Nat → Int32) (a_all_refused : Nat → Int32) : va_W := [(h_t, .inr (11, o_X11 r_t F_t kq)), ((r_t 3), .inr (0, o_X0 r_all F_all)), ((r_all 0), .inr (4, o_X4 r_all_machine F_all_machine)), ((r_all_machine 0), .inr (1, o_X1 r_all_machine_cache)), ((r_all_machine_cache 2), .inl (cI, 16, .inl a_all_machine_cache_held)), ((r_all_machine 11), .inl (cI, 8, .inl a_all_machine_tallies)), ((r_all 1), .inr (3, o_X3 r_all_history F_all_history)), ((r_all 4), .inl (cI, 3, .inl a_all_refused))]
abbrev rm_X11_count : Room := { frames := 6, cells := 1, slots := 6, locals := 82 }
def m_X11_count_j169 (F_t : Nat → Int32) (F_all : Nat → Int32) (F_all_machine : Nat → Int32) (F_all_history : Nat → Int32) (a_all_machine_cache_held : Nat → Int32) (a_all_machine_tallies : Nat → Int32) (a_all_refused : Nat → Int32) (p1 : Int32) : Option (Int32 × Int32) :=
  if p1 < 17 then (
  some (1, 0))
  else (
  if 20 ≤ p1 then (
  some (1, 0))
  else (
  rd a_all_refused 3 (p1 - 17) fun y2 =>
  some (0, y2)))
def m_X11_count (F_t : Nat → Int32) (F_all : Nat → Int32) (F_all_machine : Nat → Int32) (F_all_history : Nat → Int32) (a_all_machine_cache_held : Nat → Int32) (a_all_machine_tallies : Nat → Int32) (a_all_refused : Nat → Int32) (p1 : Int32) : Option (Int32 × Int32) :=
  if p1 = 0 then (
  some (0, (F_all_machine 8)))
  else (
  if p1 = 1 then (
  some (0, (F_all_machine 9)))
  else (
  if p1 = 2 then (
  some (0, (F_all_machine 10)))
  else (
  if p1 = 3 then (
  some (0, (F_all_machine 7)))
  else (
  if p1 = 4 then (
  bd (m_X4_microsLeft F_all_machine) fun u1 =>
  some (0, u1))
  else (
  if p1 = 5 then (
  if p1 < 5 then (
  m_X11_count_j169 F_t F_all F_all_machine F_all_history a_all_machine_cache_held a_all_machine_tallies a_all_refused p1)
  else (
  if 13 ≤ p1 then (
  m_X11_count_j169 F_t F_all F_all_machine F_all_history a_all_machine_cache_held a_all_machine_tallies a_all_refused p1)
  else (
  rd a_all_machine_tallies 8 (p1 - 5) fun y3 =>
  some (0, y3))))
  else (
  if p1 = 6 then (
  if p1 < 5 then (
  m_X11_count_j169 F_t F_all F_all_machine F_all_history a_all_machine_cache_held a_all_machine_tallies a_all_refused p1)
  else (
  if 13 ≤ p1 then (
  m_X11_count_j169 F_t F_all F_all_machine F_all_history a_all_machine_cache_held a_all_machine_tallies a_all_refused p1)
  else (
  rd a_all_machine_tallies 8 (p1 - 5) fun y4 =>
  some (0, y4))))
  else (
  if p1 = 7 then (
  if p1 < 5 then (
  m_X11_count_j169 F_t F_all F_all_machine F_all_history a_all_machine_cache_held a_all_machine_tallies a_all_refused p1)
  else (
  if 13 ≤ p1 then (
  m_X11_count_j169 F_t F_all F_all_machine F_all_history a_all_machine_cache_held a_all_machine_tallies a_all_refused p1)
  else (
  rd a_all_machine_tallies 8 (p1 - 5) fun y5 =>
  some (0, y5))))
  else (
  if p1 = 8 then (
  if p1 < 5 then (
  m_X11_count_j169 F_t F_all F_all_machine F_all_history a_all_machine_cache_held a_all_machine_tallies a_all_refused p1)
  else (
  if 13 ≤ p1 then (
  m_X11_count_j169 F_t F_all F_all_machine F_all_history a_all_machine_cache_held a_all_machine_tallies a_all_refused p1)
  else (
  rd a_all_machine_tallies 8 (p1 - 5) fun y6 =>
  some (0, y6))))
  else (
  if p1 = 9 then (
  if p1 < 5 then (
  m_X11_count_j169 F_t F_all F_all_machine F_all_history a_all_machine_cache_held a_all_machine_tallies a_all_refused p1)
  else (
  if 13 ≤ p1 then (
  m_X11_count_j169 F_t F_all F_all_machine F_all_history a_all_machine_cache_held a_all_machine_tallies a_all_refused p1)
  else (
  rd a_all_machine_tallies 8 (p1 - 5) fun y7 =>
  some (0, y7))))
  else (
  if p1 = 10 then (
  if p1 < 5 then (
  m_X11_count_j169 F_t F_all F_all_machine F_all_history a_all_machine_cache_held a_all_machine_tallies a_all_refused p1)
  else (
  if 13 ≤ p1 then (
  m_X11_count_j169 F_t F_all F_all_machine F_all_history a_all_machine_cache_held a_all_machine_tallies a_all_refused p1)
  else (
  rd a_all_machine_tallies 8 (p1 - 5) fun y8 =>
  some (0, y8))))
  else (
  if p1 = 11 then (
  if p1 < 5 then (
  m_X11_count_j169 F_t F_all F_all_machine F_all_history a_all_machine_cache_held a_all_machine_tallies a_all_refused p1)
  else (
  if 13 ≤ p1 then (
  m_X11_count_j169 F_t F_all F_all_machine F_all_history a_all_machine_cache_held a_all_machine_tallies a_all_refused p1)
  else (
  rd a_all_machine_tallies 8 (p1 - 5) fun y9 =>
  some (0, y9))))
  else (
  if p1 = 12 then (
  if p1 < 5 then (
  m_X11_count_j169 F_t F_all F_all_machine F_all_history a_all_machine_cache_held a_all_machine_tallies a_all_refused p1)
  else (
  if 13 ≤ p1 then (
  m_X11_count_j169 F_t F_all F_all_machine F_all_history a_all_machine_cache_held a_all_machine_tallies a_all_refused p1)
  else (
  rd a_all_machine_tallies 8 (p1 - 5) fun y10 =>
  some (0, y10))))
  else (
  if p1 = 13 then (
  bd (m_X1_pendingInAll a_all_machine_cache_held) fun u11 =>
  some (0, u11))
  else (
  if p1 = 14 then (
  some (0, (F_all_history 2)))
  else (
  if p1 = 15 then (
  some (0, (F_all 3)))
  else (
  if p1 = 16 then (
  some (0, (F_t 1)))
  else (
  if p1 < 5 then (
  m_X11_count_j169 F_t F_all F_all_machine F_all_history a_all_machine_cache_held a_all_machine_tallies a_all_refused p1)
  else (
  if 13 ≤ p1 then (
  m_X11_count_j169 F_t F_all F_all_machine F_all_history a_all_machine_cache_held a_all_machine_tallies a_all_refused p1)
  else (
  rd a_all_machine_tallies 8 (p1 - 5) fun y12 =>
  some (0, y12))))))))))))))))))))
set_option maxHeartbeats 4000000 in
set_option maxRecDepth 100000 in
theorem c_X11_count (l : Launch) (hlt : l.stackTraces = false) (D : va_G) (cI : ClassId) (h_t : Nat) (r_t : Nat → Nat) (r_all : Nat → Nat) (r_all_machine : Nat → Nat) (r_all_machine_cache : Nat → Nat) (r_all_history : Nat → Nat) (F_t : Nat → Int32) (F_all : Nat → Int32) (F_all_machine : Nat → Int32) (F_all_history : Nat → Int32) (kq : Option Nat) (a_all_machine_cache_held : Nat → Int32) (a_all_machine_tallies : Nat → Int32) (a_all_refused : Nat → Int32) (p1 : Int32) (Rr : Int32 × Int32) (hf : m_X11_count F_t F_all F_all_machine F_all_history a_all_machine_cache_held a_all_machine_tallies a_all_refused p1 = some Rr) : CTx l yX11_count (Cond.code yX11_count cX11_count 3 (some .int)) rm_X11_count D cI [.ref h_t, .int p1] (w_X11_count h_t r_t r_all r_all_machine r_all_machine_cache r_all_history F_t F_all F_all_machine F_all_history kq cI a_all_machine_cache_held a_all_machine_tallies a_all_refused) Rr.1 Rr.2 (fun (_ : Unit) => w_X11_count h_t r_t r_all r_all_machine r_all_machine_cache r_all_history F_t F_all F_all_machine F_all_history kq cI a_all_machine_cache_held a_all_machine_tallies a_all_refused) 1 6 := by
  refine z_begin_x (ρ := Int32 × Int32) (fun u (_ : Unit) => w_X11_count h_t r_t r_all r_all_machine r_all_machine_cache r_all_history F_t F_all F_all_machine F_all_history kq cI a_all_machine_cache_held a_all_machine_tallies a_all_refused) (fun u => u.1) (fun u => u.2) 1 6 hlt (by decide +kernel) rfl (Nat.le_of_ble_eq_true rfl) (Nat.le_of_ble_eq_true rfl) (Nat.le_of_ble_eq_true rfl) (Nat.le_of_ble_eq_true rfl) (Nat.le_of_ble_eq_true rfl) (Nat.le_of_ble_eq_true rfl) (Nat.le_of_ble_eq_true rfl) ?_
  intro p e s m args below meth c ls Q A hx hb hml hts hcx hown hK hX hA hP hD hS hl hret hth1 hth1W hth2 hth2W
  have hl : lv_has ls 3 [(0, .ref h_t), (1, .int p1)] := hl
  have hf := (m_X11_count.eq_1 _ _ _ _ _ _ _ _).symm.trans hf
  have L169 : ∀ (H : Heap) (locs : List Loc) (ls : Array Slot), m_X11_count_j169 F_t F_all F_all_machine F_all_history a_all_machine_cache_held a_all_machine_tallies a_all_refused p1 = some Rr → va_P D vwCl (w_X11_count h_t r_t r_all r_all_machine r_all_machine_cache r_all_history F_t F_all F_all_machine F_all_history kq cI a_all_machine_cache_held a_all_machine_tallies a_all_refused) H → va_D A (w_X11_count h_t r_t r_all r_all_machine r_all_machine_cache r_all_history F_t F_all F_all_machine F_all_history kq cI a_all_machine_cache_held a_all_machine_tallies a_all_refused) → va_S A s.heap H locs → lv_has ls 3 [(0, .ref h_t), (1, .int p1)] → W p l e rm_X11_count s m args below meth c H locs 0 0 Q (F0 m 169 ls []) := by
    intro  H locs ls hf hP hD hS hl
    have hf := (m_X11_count_j169.eq_1 _ _ _ _ _ _ _ _).symm.trans hf
    refine lv_iload_n hx hb dX11_count_169 rfl (lv_at hl 1 rfl) ?_
    refine lv_bipush (v := 17) hx hb dX11_count_170 (by decide) ?_
    refine z_icmp_lt (tgt := 194) hx hb dX11_count_172 (by decide) hf (fun hf => ?_) (fun hf => ?_)
    · exact hth1 (1, 0) () _ _ _ _ 157 "no such count" hl.1 (List.mem_of_getElem? (i := 1) rfl) rfl hf hP hD hS dX11_count_194 dX11_count_197 dX11_count_198 dX11_count_200 dX11_count_203
    · refine lv_iload_n hx hb dX11_count_175 rfl (lv_at hl 1 rfl) ?_
      refine lv_bipush (v := 20) hx hb dX11_count_176 (by decide) ?_
      refine z_icmp_ge (tgt := 194) hx hb dX11_count_178 (by decide) hf (fun hf => ?_) (fun hf => ?_)
      · exact hth1 (1, 0) () _ _ _ _ 157 "no such count" hl.1 (List.mem_of_getElem? (i := 1) rfl) rfl hf hP hD hS dX11_count_194 dX11_count_197 dX11_count_198 dX11_count_200 dX11_count_203
      · refine lv_aload_n hx hb dX11_count_181 rfl (lv_at hl 0 rfl) ?_
        refine z_get (ci := 11) (C := RX11) (T := TX11) (N := 13) (v := .ref (r_t 3)) hx hb hts inT_X11 hown hK hP 0 rfl rfl 3 (by decide) tf_X11_23 rfl dX11_count_182 ?_
        refine z_get (ci := 0) (C := RX0) (T := TX0) (N := 5) (v := .ref (r_all 4)) hx hb hts inT_X0 hown hK hP 1 rfl rfl 4 (by decide) tf_X11_101 rfl dX11_count_185 ?_
        refine lv_iload_n hx hb dX11_count_188 rfl (lv_at hl 1 rfl) ?_
        refine lv_bipush (v := 17) hx hb dX11_count_189 (by decide) ?_
        refine lv_isub hx hb dX11_count_191 ?_
        refine z_iald hx hb hK hP 7 rfl dX11_count_192 hf (fun y2 hf => ?_)
        exact hret (0, y2) () _ _ _ _ _ _ (Nat.le_of_ble_eq_true rfl) (Nat.le_of_ble_eq_true rfl) rfl hf hP hD hS dX11_count_193
  refine lv_aload_n hx hb dX11_count_0 rfl (lv_at hl 0 rfl) ?_
  refine z_get (ci := 11) (C := RX11) (T := TX11) (N := 13) (v := .ref (r_t 3)) hx hb hts inT_X11 hown hK hP 0 rfl rfl 3 (by decide) tf_X11_23 rfl dX11_count_1 ?_
  refine z_get (ci := 0) (C := RX0) (T := TX0) (N := 5) (v := .ref (r_all 0)) hx hb hts inT_X0 hown hK hP 1 rfl rfl 0 (by decide) tf_X11_112 rfl dX11_count_4 ?_
  refine lv_astore_n (lv' := [(2, .ref (r_all 0)), (0, .ref h_t), (1, .int p1)]) hx hb dX11_count_7 rfl hl (by decide) rfl (fun ls hl => ?_)
  refine lv_iload_n hx hb dX11_count_8 rfl (lv_at hl 2 rfl) ?_
  refine z_tabin (v := 0) (off := 83) (tgt := 92) hx hb dX11_count_9 (by decide) (by decide) (by decide) (by decide) hf (fun hf => ?_) (fun hn0 hf => ?_)
  · refine lv_aload_n hx hb dX11_count_92 rfl (lv_at hl 0 rfl) ?_
    refine z_get (ci := 4) (C := RX4) (T := TX4) (N := 12) (v := .int (F_all_machine 8)) hx hb hts inT_X4 hown hK hP 2 rfl rfl 8 (by decide) tf_X11_113 rfl dX11_count_93 ?_
    exact hret (0, (F_all_machine 8)) () _ _ _ _ _ _ (Nat.le_of_ble_eq_true rfl) (Nat.le_of_ble_eq_true rfl) rfl hf hP hD hS dX11_count_96
  refine z_tabin (v := 1) (off := 88) (tgt := 97) hx hb dX11_count_9 (by decide) (by decide) (by decide) (by decide) hf (fun hf => ?_) (fun hn1 hf => ?_)
  · refine lv_aload_n hx hb dX11_count_97 rfl (lv_at hl 0 rfl) ?_
    refine z_get (ci := 4) (C := RX4) (T := TX4) (N := 12) (v := .int (F_all_machine 9)) hx hb hts inT_X4 hown hK hP 2 rfl rfl 9 (by decide) tf_X11_118 rfl dX11_count_98 ?_
    exact hret (0, (F_all_machine 9)) () _ _ _ _ _ _ (Nat.le_of_ble_eq_true rfl) (Nat.le_of_ble_eq_true rfl) rfl hf hP hD hS dX11_count_101
  refine z_tabin (v := 2) (off := 93) (tgt := 102) hx hb dX11_count_9 (by decide) (by decide) (by decide) (by decide) hf (fun hf => ?_) (fun hn2 hf => ?_)
  · refine lv_aload_n hx hb dX11_count_102 rfl (lv_at hl 0 rfl) ?_
    refine z_get (ci := 4) (C := RX4) (T := TX4) (N := 12) (v := .int (F_all_machine 10)) hx hb hts inT_X4 hown hK hP 2 rfl rfl 10 (by decide) tf_X11_121 rfl dX11_count_103 ?_
    exact hret (0, (F_all_machine 10)) () _ _ _ _ _ _ (Nat.le_of_ble_eq_true rfl) (Nat.le_of_ble_eq_true rfl) rfl hf hP hD hS dX11_count_106
  refine z_tabin (v := 3) (off := 98) (tgt := 107) hx hb dX11_count_9 (by decide) (by decide) (by decide) (by decide) hf (fun hf => ?_) (fun hn3 hf => ?_)
  · refine lv_aload_n hx hb dX11_count_107 rfl (lv_at hl 0 rfl) ?_
    refine z_get (ci := 4) (C := RX4) (T := TX4) (N := 12) (v := .int (F_all_machine 7)) hx hb hts inT_X4 hown hK hP 2 rfl rfl 7 (by decide) tf_X11_124 rfl dX11_count_108 ?_
    exact hret (0, (F_all_machine 7)) () _ _ _ _ _ _ (Nat.le_of_ble_eq_true rfl) (Nat.le_of_ble_eq_true rfl) rfl hf hP hD hS dX11_count_111
  refine z_tabin (v := 4) (off := 103) (tgt := 112) hx hb dX11_count_9 (by decide) (by decide) (by decide) (by decide) hf (fun hf => ?_) (fun hn4 hf => ?_)
  · refine lv_aload_n hx hb dX11_count_112 rfl (lv_at hl 0 rfl) ?_
    obtain ⟨u1, hu1, hf⟩ := bd_some hf
    refine z_ci (ws1 := w_X11_count h_t r_t r_all r_all_machine r_all_machine_cache r_all_history F_t F_all F_all_machine F_all_history kq cI a_all_machine_cache_held a_all_machine_tallies a_all_refused) (wr := List.filterMap (fun i : Nat => (w_X11_count h_t r_t r_all r_all_machine r_all_machine_cache r_all_history F_t F_all F_all_machine F_all_history kq cI a_all_machine_cache_held a_all_machine_tallies a_all_refused)[i]?) [0, 1, 3, 4, 5, 6, 7]) (z_rV (rest := []) hx hb hml hown hcx hl.1 (c_X4_microsLeft l D cI (r_all 0) r_all_machine F_all_machine u1 hu1 _) tl_X11_127 ti_X4_microsLeft tz_X4_microsLeft tn_X4 tc_X4_microsLeft tm_X4_microsLeft rfl rfl ⟨Nat.le_of_ble_eq_true rfl, Nat.le_of_ble_eq_true rfl⟩ hK hX hS hA hP hD [2] rfl rfl 2 rfl rfl rfl rfl (Nat.le_of_ble_eq_true rfl) dX11_count_113 ⟨Nat.zero_le _, Nat.zero_le _⟩) hP hD hS hA [2] [0, 1, 3, 4, 5, 6, 7] [0, 1, 7, 2, 3, 4, 5, 6] rfl rfl rfl (by decide) rfl rfl (fun H locs hP hD hS => ?_)
    exact hret (0, u1) () _ _ _ _ _ _ (Nat.le_of_ble_eq_true rfl) (Nat.le_of_ble_eq_true rfl) rfl hf hP hD hS dX11_count_116
  refine z_tabin (v := 5) (off := 140) (tgt := 149) hx hb dX11_count_9 (by decide) (by decide) (by decide) (by decide) hf (fun hf => ?_) (fun hn5 hf => ?_)
  · refine lv_iload_n hx hb dX11_count_149 rfl (lv_at hl 2 rfl) ?_
    refine lv_iconst (v := 5) hx hb dX11_count_150 (by decide) ?_
    refine z_icmp_lt (tgt := 169) hx hb dX11_count_151 (by decide) hf (fun hf => ?_) (fun hf => ?_)
    · exact L169 _ _ _ hf hP hD hS (lv_sub hl [1, 2] rfl)
    · refine lv_iload_n hx hb dX11_count_154 rfl (lv_at hl 2 rfl) ?_
      refine lv_bipush (v := 13) hx hb dX11_count_155 (by decide) ?_
      refine z_icmp_ge (tgt := 169) hx hb dX11_count_157 (by decide) hf (fun hf => ?_) (fun hf => ?_)
      · exact L169 _ _ _ hf hP hD hS (lv_sub hl [1, 2] rfl)
      · refine lv_aload_n hx hb dX11_count_160 rfl (lv_at hl 0 rfl) ?_
        refine z_get (ci := 4) (C := RX4) (T := TX4) (N := 12) (v := .ref (r_all_machine 11)) hx hb hts inT_X4 hown hK hP 2 rfl rfl 11 (by decide) tf_X11_152 rfl dX11_count_161 ?_
        refine lv_iload_n hx hb dX11_count_164 rfl (lv_at hl 2 rfl) ?_
        refine lv_iconst (v := 5) hx hb dX11_count_165 (by decide) ?_
        refine lv_isub hx hb dX11_count_166 ?_
        refine z_iald hx hb hK hP 5 rfl dX11_count_167 hf (fun y3 hf => ?_)
        exact hret (0, y3) () _ _ _ _ _ _ (Nat.le_of_ble_eq_true rfl) (Nat.le_of_ble_eq_true rfl) rfl hf hP hD hS dX11_count_168
  refine z_tabin (v := 6) (off := 140) (tgt := 149) hx hb dX11_count_9 (by decide) (by decide) (by decide) (by decide) hf (fun hf => ?_) (fun hn6 hf => ?_)
  · refine lv_iload_n hx hb dX11_count_149 rfl (lv_at hl 2 rfl) ?_
    refine lv_iconst (v := 5) hx hb dX11_count_150 (by decide) ?_
    refine z_icmp_lt (tgt := 169) hx hb dX11_count_151 (by decide) hf (fun hf => ?_) (fun hf => ?_)
    · exact L169 _ _ _ hf hP hD hS (lv_sub hl [1, 2] rfl)
    · refine lv_iload_n hx hb dX11_count_154 rfl (lv_at hl 2 rfl) ?_
      refine lv_bipush (v := 13) hx hb dX11_count_155 (by decide) ?_
      refine z_icmp_ge (tgt := 169) hx hb dX11_count_157 (by decide) hf (fun hf => ?_) (fun hf => ?_)
      · exact L169 _ _ _ hf hP hD hS (lv_sub hl [1, 2] rfl)
      · refine lv_aload_n hx hb dX11_count_160 rfl (lv_at hl 0 rfl) ?_
        refine z_get (ci := 4) (C := RX4) (T := TX4) (N := 12) (v := .ref (r_all_machine 11)) hx hb hts inT_X4 hown hK hP 2 rfl rfl 11 (by decide) tf_X11_152 rfl dX11_count_161 ?_
        refine lv_iload_n hx hb dX11_count_164 rfl (lv_at hl 2 rfl) ?_
        refine lv_iconst (v := 5) hx hb dX11_count_165 (by decide) ?_
        refine lv_isub hx hb dX11_count_166 ?_
        refine z_iald hx hb hK hP 5 rfl dX11_count_167 hf (fun y4 hf => ?_)
        exact hret (0, y4) () _ _ _ _ _ _ (Nat.le_of_ble_eq_true rfl) (Nat.le_of_ble_eq_true rfl) rfl hf hP hD hS dX11_count_168
  refine z_tabin (v := 7) (off := 140) (tgt := 149) hx hb dX11_count_9 (by decide) (by decide) (by decide) (by decide) hf (fun hf => ?_) (fun hn7 hf => ?_)
  · refine lv_iload_n hx hb dX11_count_149 rfl (lv_at hl 2 rfl) ?_
    refine lv_iconst (v := 5) hx hb dX11_count_150 (by decide) ?_
    refine z_icmp_lt (tgt := 169) hx hb dX11_count_151 (by decide) hf (fun hf => ?_) (fun hf => ?_)
    · exact L169 _ _ _ hf hP hD hS (lv_sub hl [1, 2] rfl)
    · refine lv_iload_n hx hb dX11_count_154 rfl (lv_at hl 2 rfl) ?_
      refine lv_bipush (v := 13) hx hb dX11_count_155 (by decide) ?_
      refine z_icmp_ge (tgt := 169) hx hb dX11_count_157 (by decide) hf (fun hf => ?_) (fun hf => ?_)
      · exact L169 _ _ _ hf hP hD hS (lv_sub hl [1, 2] rfl)
      · refine lv_aload_n hx hb dX11_count_160 rfl (lv_at hl 0 rfl) ?_
        refine z_get (ci := 4) (C := RX4) (T := TX4) (N := 12) (v := .ref (r_all_machine 11)) hx hb hts inT_X4 hown hK hP 2 rfl rfl 11 (by decide) tf_X11_152 rfl dX11_count_161 ?_
        refine lv_iload_n hx hb dX11_count_164 rfl (lv_at hl 2 rfl) ?_
        refine lv_iconst (v := 5) hx hb dX11_count_165 (by decide) ?_
        refine lv_isub hx hb dX11_count_166 ?_
        refine z_iald hx hb hK hP 5 rfl dX11_count_167 hf (fun y5 hf => ?_)
        exact hret (0, y5) () _ _ _ _ _ _ (Nat.le_of_ble_eq_true rfl) (Nat.le_of_ble_eq_true rfl) rfl hf hP hD hS dX11_count_168
  refine z_tabin (v := 8) (off := 140) (tgt := 149) hx hb dX11_count_9 (by decide) (by decide) (by decide) (by decide) hf (fun hf => ?_) (fun hn8 hf => ?_)
  · refine lv_iload_n hx hb dX11_count_149 rfl (lv_at hl 2 rfl) ?_
    refine lv_iconst (v := 5) hx hb dX11_count_150 (by decide) ?_
    refine z_icmp_lt (tgt := 169) hx hb dX11_count_151 (by decide) hf (fun hf => ?_) (fun hf => ?_)
    · exact L169 _ _ _ hf hP hD hS (lv_sub hl [1, 2] rfl)
    · refine lv_iload_n hx hb dX11_count_154 rfl (lv_at hl 2 rfl) ?_
      refine lv_bipush (v := 13) hx hb dX11_count_155 (by decide) ?_
      refine z_icmp_ge (tgt := 169) hx hb dX11_count_157 (by decide) hf (fun hf => ?_) (fun hf => ?_)
      · exact L169 _ _ _ hf hP hD hS (lv_sub hl [1, 2] rfl)
      · refine lv_aload_n hx hb dX11_count_160 rfl (lv_at hl 0 rfl) ?_
        refine z_get (ci := 4) (C := RX4) (T := TX4) (N := 12) (v := .ref (r_all_machine 11)) hx hb hts inT_X4 hown hK hP 2 rfl rfl 11 (by decide) tf_X11_152 rfl dX11_count_161 ?_
        refine lv_iload_n hx hb dX11_count_164 rfl (lv_at hl 2 rfl) ?_
        refine lv_iconst (v := 5) hx hb dX11_count_165 (by decide) ?_
        refine lv_isub hx hb dX11_count_166 ?_
        refine z_iald hx hb hK hP 5 rfl dX11_count_167 hf (fun y6 hf => ?_)
        exact hret (0, y6) () _ _ _ _ _ _ (Nat.le_of_ble_eq_true rfl) (Nat.le_of_ble_eq_true rfl) rfl hf hP hD hS dX11_count_168
  refine z_tabin (v := 9) (off := 140) (tgt := 149) hx hb dX11_count_9 (by decide) (by decide) (by decide) (by decide) hf (fun hf => ?_) (fun hn9 hf => ?_)
  · refine lv_iload_n hx hb dX11_count_149 rfl (lv_at hl 2 rfl) ?_
    refine lv_iconst (v := 5) hx hb dX11_count_150 (by decide) ?_
    refine z_icmp_lt (tgt := 169) hx hb dX11_count_151 (by decide) hf (fun hf => ?_) (fun hf => ?_)
    · exact L169 _ _ _ hf hP hD hS (lv_sub hl [1, 2] rfl)
    · refine lv_iload_n hx hb dX11_count_154 rfl (lv_at hl 2 rfl) ?_
      refine lv_bipush (v := 13) hx hb dX11_count_155 (by decide) ?_
      refine z_icmp_ge (tgt := 169) hx hb dX11_count_157 (by decide) hf (fun hf => ?_) (fun hf => ?_)
      · exact L169 _ _ _ hf hP hD hS (lv_sub hl [1, 2] rfl)
      · refine lv_aload_n hx hb dX11_count_160 rfl (lv_at hl 0 rfl) ?_
        refine z_get (ci := 4) (C := RX4) (T := TX4) (N := 12) (v := .ref (r_all_machine 11)) hx hb hts inT_X4 hown hK hP 2 rfl rfl 11 (by decide) tf_X11_152 rfl dX11_count_161 ?_
        refine lv_iload_n hx hb dX11_count_164 rfl (lv_at hl 2 rfl) ?_
        refine lv_iconst (v := 5) hx hb dX11_count_165 (by decide) ?_
        refine lv_isub hx hb dX11_count_166 ?_
        refine z_iald hx hb hK hP 5 rfl dX11_count_167 hf (fun y7 hf => ?_)
        exact hret (0, y7) () _ _ _ _ _ _ (Nat.le_of_ble_eq_true rfl) (Nat.le_of_ble_eq_true rfl) rfl hf hP hD hS dX11_count_168
  refine z_tabin (v := 10) (off := 140) (tgt := 149) hx hb dX11_count_9 (by decide) (by decide) (by decide) (by decide) hf (fun hf => ?_) (fun hn10 hf => ?_)
  · refine lv_iload_n hx hb dX11_count_149 rfl (lv_at hl 2 rfl) ?_
    refine lv_iconst (v := 5) hx hb dX11_count_150 (by decide) ?_
    refine z_icmp_lt (tgt := 169) hx hb dX11_count_151 (by decide) hf (fun hf => ?_) (fun hf => ?_)
    · exact L169 _ _ _ hf hP hD hS (lv_sub hl [1, 2] rfl)
    · refine lv_iload_n hx hb dX11_count_154 rfl (lv_at hl 2 rfl) ?_
      refine lv_bipush (v := 13) hx hb dX11_count_155 (by decide) ?_
      refine z_icmp_ge (tgt := 169) hx hb dX11_count_157 (by decide) hf (fun hf => ?_) (fun hf => ?_)
      · exact L169 _ _ _ hf hP hD hS (lv_sub hl [1, 2] rfl)
      · refine lv_aload_n hx hb dX11_count_160 rfl (lv_at hl 0 rfl) ?_
        refine z_get (ci := 4) (C := RX4) (T := TX4) (N := 12) (v := .ref (r_all_machine 11)) hx hb hts inT_X4 hown hK hP 2 rfl rfl 11 (by decide) tf_X11_152 rfl dX11_count_161 ?_
        refine lv_iload_n hx hb dX11_count_164 rfl (lv_at hl 2 rfl) ?_
        refine lv_iconst (v := 5) hx hb dX11_count_165 (by decide) ?_
        refine lv_isub hx hb dX11_count_166 ?_
        refine z_iald hx hb hK hP 5 rfl dX11_count_167 hf (fun y8 hf => ?_)
        exact hret (0, y8) () _ _ _ _ _ _ (Nat.le_of_ble_eq_true rfl) (Nat.le_of_ble_eq_true rfl) rfl hf hP hD hS dX11_count_168
  refine z_tabin (v := 11) (off := 140) (tgt := 149) hx hb dX11_count_9 (by decide) (by decide) (by decide) (by decide) hf (fun hf => ?_) (fun hn11 hf => ?_)
  · refine lv_iload_n hx hb dX11_count_149 rfl (lv_at hl 2 rfl) ?_
    refine lv_iconst (v := 5) hx hb dX11_count_150 (by decide) ?_
    refine z_icmp_lt (tgt := 169) hx hb dX11_count_151 (by decide) hf (fun hf => ?_) (fun hf => ?_)
    · exact L169 _ _ _ hf hP hD hS (lv_sub hl [1, 2] rfl)
    · refine lv_iload_n hx hb dX11_count_154 rfl (lv_at hl 2 rfl) ?_
      refine lv_bipush (v := 13) hx hb dX11_count_155 (by decide) ?_
      refine z_icmp_ge (tgt := 169) hx hb dX11_count_157 (by decide) hf (fun hf => ?_) (fun hf => ?_)
      · exact L169 _ _ _ hf hP hD hS (lv_sub hl [1, 2] rfl)
      · refine lv_aload_n hx hb dX11_count_160 rfl (lv_at hl 0 rfl) ?_
        refine z_get (ci := 4) (C := RX4) (T := TX4) (N := 12) (v := .ref (r_all_machine 11)) hx hb hts inT_X4 hown hK hP 2 rfl rfl 11 (by decide) tf_X11_152 rfl dX11_count_161 ?_
        refine lv_iload_n hx hb dX11_count_164 rfl (lv_at hl 2 rfl) ?_
        refine lv_iconst (v := 5) hx hb dX11_count_165 (by decide) ?_
        refine lv_isub hx hb dX11_count_166 ?_
        refine z_iald hx hb hK hP 5 rfl dX11_count_167 hf (fun y9 hf => ?_)
        exact hret (0, y9) () _ _ _ _ _ _ (Nat.le_of_ble_eq_true rfl) (Nat.le_of_ble_eq_true rfl) rfl hf hP hD hS dX11_count_168
  refine z_tabin (v := 12) (off := 140) (tgt := 149) hx hb dX11_count_9 (by decide) (by decide) (by decide) (by decide) hf (fun hf => ?_) (fun hn12 hf => ?_)
  · refine lv_iload_n hx hb dX11_count_149 rfl (lv_at hl 2 rfl) ?_
    refine lv_iconst (v := 5) hx hb dX11_count_150 (by decide) ?_
    refine z_icmp_lt (tgt := 169) hx hb dX11_count_151 (by decide) hf (fun hf => ?_) (fun hf => ?_)
    · exact L169 _ _ _ hf hP hD hS (lv_sub hl [1, 2] rfl)
    · refine lv_iload_n hx hb dX11_count_154 rfl (lv_at hl 2 rfl) ?_
      refine lv_bipush (v := 13) hx hb dX11_count_155 (by decide) ?_
      refine z_icmp_ge (tgt := 169) hx hb dX11_count_157 (by decide) hf (fun hf => ?_) (fun hf => ?_)
      · exact L169 _ _ _ hf hP hD hS (lv_sub hl [1, 2] rfl)
      · refine lv_aload_n hx hb dX11_count_160 rfl (lv_at hl 0 rfl) ?_
        refine z_get (ci := 4) (C := RX4) (T := TX4) (N := 12) (v := .ref (r_all_machine 11)) hx hb hts inT_X4 hown hK hP 2 rfl rfl 11 (by decide) tf_X11_152 rfl dX11_count_161 ?_
        refine lv_iload_n hx hb dX11_count_164 rfl (lv_at hl 2 rfl) ?_
        refine lv_iconst (v := 5) hx hb dX11_count_165 (by decide) ?_
        refine lv_isub hx hb dX11_count_166 ?_
        refine z_iald hx hb hK hP 5 rfl dX11_count_167 hf (fun y10 hf => ?_)
        exact hret (0, y10) () _ _ _ _ _ _ (Nat.le_of_ble_eq_true rfl) (Nat.le_of_ble_eq_true rfl) rfl hf hP hD hS dX11_count_168
  refine z_tabin (v := 13) (off := 108) (tgt := 117) hx hb dX11_count_9 (by decide) (by decide) (by decide) (by decide) hf (fun hf => ?_) (fun hn13 hf => ?_)
  · refine lv_aload_n hx hb dX11_count_117 rfl (lv_at hl 0 rfl) ?_
    refine z_get (ci := 4) (C := RX4) (T := TX4) (N := 12) (v := .ref (r_all_machine 0)) hx hb hts inT_X4 hown hK hP 2 rfl rfl 0 (by decide) tf_X11_131 rfl dX11_count_118 ?_
    obtain ⟨u11, hu11, hf⟩ := bd_some hf
    refine z_ci (ws1 := w_X11_count h_t r_t r_all r_all_machine r_all_machine_cache r_all_history F_t F_all F_all_machine F_all_history kq cI a_all_machine_cache_held a_all_machine_tallies a_all_refused) (wr := List.filterMap (fun i : Nat => (w_X11_count h_t r_t r_all r_all_machine r_all_machine_cache r_all_history F_t F_all F_all_machine F_all_history kq cI a_all_machine_cache_held a_all_machine_tallies a_all_refused)[i]?) [0, 1, 2, 5, 6, 7]) (z_rV (rest := []) hx hb hml hown hcx hl.1 (c_X1_pendingInAll l D cI (r_all_machine 0) r_all_machine_cache a_all_machine_cache_held u11 hu11 _) tl_X11_135 ti_X1_pendingInAll tz_X1_pendingInAll tn_X1 tc_X1_pendingInAll tm_X1_pendingInAll rfl rfl ⟨Nat.le_of_ble_eq_true rfl, Nat.le_of_ble_eq_true rfl⟩ hK hX hS hA hP hD [3, 4] rfl rfl 3 rfl rfl rfl rfl (Nat.le_of_ble_eq_true rfl) dX11_count_121 ⟨Nat.zero_le _, Nat.zero_le _⟩) hP hD hS hA [3, 4] [0, 1, 2, 5, 6, 7] [0, 1, 2, 6, 7, 3, 4, 5] rfl rfl rfl (by decide) rfl rfl (fun H locs hP hD hS => ?_)
    exact hret (0, u11) () _ _ _ _ _ _ (Nat.le_of_ble_eq_true rfl) (Nat.le_of_ble_eq_true rfl) rfl hf hP hD hS dX11_count_124
  refine z_tabin (v := 14) (off := 116) (tgt := 125) hx hb dX11_count_9 (by decide) (by decide) (by decide) (by decide) hf (fun hf => ?_) (fun hn14 hf => ?_)
  · refine lv_aload_n hx hb dX11_count_125 rfl (lv_at hl 1 rfl) ?_
    refine z_get (ci := 11) (C := RX11) (T := TX11) (N := 13) (v := .ref (r_t 3)) hx hb hts inT_X11 hown hK hP 0 rfl rfl 3 (by decide) tf_X11_23 rfl dX11_count_126 ?_
    refine z_get (ci := 0) (C := RX0) (T := TX0) (N := 5) (v := .ref (r_all 1)) hx hb hts inT_X0 hown hK hP 1 rfl rfl 1 (by decide) tf_X11_140 rfl dX11_count_129 ?_
    refine z_get (ci := 3) (C := RX3) (T := TX3) (N := 3) (v := .int (F_all_history 2)) hx hb hts inT_X3 hown hK hP 6 rfl rfl 2 (by decide) tf_X11_144 rfl dX11_count_132 ?_
    exact hret (0, (F_all_history 2)) () _ _ _ _ _ _ (Nat.le_of_ble_eq_true rfl) (Nat.le_of_ble_eq_true rfl) rfl hf hP hD hS dX11_count_135
  refine z_tabin (v := 15) (off := 127) (tgt := 136) hx hb dX11_count_9 (by decide) (by decide) (by decide) (by decide) hf (fun hf => ?_) (fun hn15 hf => ?_)
  · refine lv_aload_n hx hb dX11_count_136 rfl (lv_at hl 1 rfl) ?_
    refine z_get (ci := 11) (C := RX11) (T := TX11) (N := 13) (v := .ref (r_t 3)) hx hb hts inT_X11 hown hK hP 0 rfl rfl 3 (by decide) tf_X11_23 rfl dX11_count_137 ?_
    refine z_get (ci := 0) (C := RX0) (T := TX0) (N := 5) (v := .int (F_all 3)) hx hb hts inT_X0 hown hK hP 1 rfl rfl 3 (by decide) tf_X11_149 rfl dX11_count_140 ?_
    exact hret (0, (F_all 3)) () _ _ _ _ _ _ (Nat.le_of_ble_eq_true rfl) (Nat.le_of_ble_eq_true rfl) rfl hf hP hD hS dX11_count_143
  refine z_tabin (v := 16) (off := 135) (tgt := 144) hx hb dX11_count_9 (by decide) (by decide) (by decide) (by decide) hf (fun hf => ?_) (fun hn16 hf => ?_)
  · refine lv_aload_n hx hb dX11_count_144 rfl (lv_at hl 1 rfl) ?_
    refine z_get (ci := 11) (C := RX11) (T := TX11) (N := 13) (v := .int (F_t 1)) hx hb hts inT_X11 hown hK hP 0 rfl rfl 1 (by decide) tf_X11_13 rfl dX11_count_145 ?_
    exact hret (0, (F_t 1)) () _ _ _ _ _ _ (Nat.le_of_ble_eq_true rfl) (Nat.le_of_ble_eq_true rfl) rfl hf hP hD hS dX11_count_148
  refine z_tabout (tgt := 149) hx hb dX11_count_9 (fun i h1 h2 => by rcases (show i = 0 ∨ i = 1 ∨ i = 2 ∨ i = 3 ∨ i = 4 ∨ i = 5 ∨ i = 6 ∨ i = 7 ∨ i = 8 ∨ i = 9 ∨ i = 10 ∨ i = 11 ∨ i = 12 ∨ i = 13 ∨ i = 14 ∨ i = 15 ∨ i = 16 by omega) with rfl | rfl | rfl | rfl | rfl | rfl | rfl | rfl | rfl | rfl | rfl | rfl | rfl | rfl | rfl | rfl | rfl <;> first | exact hn0 | exact hn1 | exact hn2 | exact hn3 | exact hn4 | exact hn5 | exact hn6 | exact hn7 | exact hn8 | exact hn9 | exact hn10 | exact hn11 | exact hn12 | exact hn13 | exact hn14 | exact hn15 | exact hn16) (by decide) ?_
  refine lv_iload_n hx hb dX11_count_149 rfl (lv_at hl 2 rfl) ?_
  refine lv_iconst (v := 5) hx hb dX11_count_150 (by decide) ?_
  refine z_icmp_lt (tgt := 169) hx hb dX11_count_151 (by decide) hf (fun hf => ?_) (fun hf => ?_)
  · exact L169 _ _ _ hf hP hD hS (lv_sub hl [1, 2] rfl)
  · refine lv_iload_n hx hb dX11_count_154 rfl (lv_at hl 2 rfl) ?_
    refine lv_bipush (v := 13) hx hb dX11_count_155 (by decide) ?_
    refine z_icmp_ge (tgt := 169) hx hb dX11_count_157 (by decide) hf (fun hf => ?_) (fun hf => ?_)
    · exact L169 _ _ _ hf hP hD hS (lv_sub hl [1, 2] rfl)
    · refine lv_aload_n hx hb dX11_count_160 rfl (lv_at hl 0 rfl) ?_
      refine z_get (ci := 4) (C := RX4) (T := TX4) (N := 12) (v := .ref (r_all_machine 11)) hx hb hts inT_X4 hown hK hP 2 rfl rfl 11 (by decide) tf_X11_152 rfl dX11_count_161 ?_
      refine lv_iload_n hx hb dX11_count_164 rfl (lv_at hl 2 rfl) ?_
      refine lv_iconst (v := 5) hx hb dX11_count_165 (by decide) ?_
      refine lv_isub hx hb dX11_count_166 ?_
      refine z_iald hx hb hK hP 5 rfl dX11_count_167 hf (fun y12 hf => ?_)
      exact hret (0, y12) () _ _ _ _ _ _ (Nat.le_of_ble_eq_true rfl) (Nat.le_of_ble_eq_true rfl) rfl hf hP hD hS dX11_count_168
abbrev w_X11_word (h_t : Nat) (r_t : Nat → Nat) (r_all : Nat → Nat) (r_all_machine : Nat → Nat) (r_all_machine_cache : Nat → Nat) (F_t : Nat → Int32) (F_all : Nat → Int32) (F_all_machine : Nat → Int32) (kq : Option Nat) (cI : ClassId) (a_all_machine_cache_media : Nat → Int32) (a_all_machine_cache_stores : Nat → Int32) (a_all_machine_cache_held : Nat → Int32) : va_W := [(h_t, .inr (11, o_X11 r_t F_t kq)), ((r_t 3), .inr (0, o_X0 r_all F_all)), ((r_all 0), .inr (4, o_X4 r_all_machine F_all_machine)), ((r_all_machine 0), .inr (1, o_X1 r_all_machine_cache)), ((r_all_machine_cache 0), .inl (cI, 64, .inl a_all_machine_cache_media)), ((r_all_machine_cache 1), .inl (cI, 96, .inl a_all_machine_cache_stores)), ((r_all_machine_cache 2), .inl (cI, 16, .inl a_all_machine_cache_held))]
abbrev rm_X11_word : Room := { frames := 6, cells := 1, slots := 6, locals := 82 }
def m_X11_word (a_all_machine_cache_media : Nat → Int32) (a_all_machine_cache_stores : Nat → Int32) (a_all_machine_cache_held : Nat → Int32) (p1 : Int32) (p2 : Int32) : Option (Int32 × Int32) :=
  bd (m_X11_isWord p1) fun u1 =>
  if u1 = 0 then (
  some (1, 0))
  else (
  if p2 = 0 then (
  bd (m_X1_wordNow a_all_machine_cache_media a_all_machine_cache_stores a_all_machine_cache_held p1) fun u2 =>
  some (0, u2))
  else (
  rd a_all_machine_cache_media 64 p1 fun y3 =>
  some (0, y3)))
set_option maxHeartbeats 4000000 in
set_option maxRecDepth 100000 in
theorem c_X11_word (l : Launch) (hlt : l.stackTraces = false) (D : va_G) (cI : ClassId) (h_t : Nat) (r_t : Nat → Nat) (r_all : Nat → Nat) (r_all_machine : Nat → Nat) (r_all_machine_cache : Nat → Nat) (F_t : Nat → Int32) (F_all : Nat → Int32) (F_all_machine : Nat → Int32) (kq : Option Nat) (a_all_machine_cache_media : Nat → Int32) (a_all_machine_cache_stores : Nat → Int32) (a_all_machine_cache_held : Nat → Int32) (p1 : Int32) (p2 : Int32) (Rr : Int32 × Int32) (hf : m_X11_word a_all_machine_cache_media a_all_machine_cache_stores a_all_machine_cache_held p1 p2 = some Rr) : CTx l yX11_word (Cond.code yX11_word cX11_word 4 (some .int)) rm_X11_word D cI [.ref h_t, .int p1, .int p2] (w_X11_word h_t r_t r_all r_all_machine r_all_machine_cache F_t F_all F_all_machine kq cI a_all_machine_cache_media a_all_machine_cache_stores a_all_machine_cache_held) Rr.1 Rr.2 (fun (_ : Unit) => w_X11_word h_t r_t r_all r_all_machine r_all_machine_cache F_t F_all F_all_machine kq cI a_all_machine_cache_media a_all_machine_cache_stores a_all_machine_cache_held) 1 6 := by
  refine z_begin_x (ρ := Int32 × Int32) (fun u (_ : Unit) => w_X11_word h_t r_t r_all r_all_machine r_all_machine_cache F_t F_all F_all_machine kq cI a_all_machine_cache_media a_all_machine_cache_stores a_all_machine_cache_held) (fun u => u.1) (fun u => u.2) 1 6 hlt (by decide +kernel) rfl (Nat.le_of_ble_eq_true rfl) (Nat.le_of_ble_eq_true rfl) (Nat.le_of_ble_eq_true rfl) (Nat.le_of_ble_eq_true rfl) (Nat.le_of_ble_eq_true rfl) (Nat.le_of_ble_eq_true rfl) (Nat.le_of_ble_eq_true rfl) ?_
  intro p e s m args below meth c ls Q A hx hb hml hts hcx hown hK hX hA hP hD hS hl hret hth1 hth1W hth2 hth2W
  have hl : lv_has ls 4 [(0, .ref h_t), (1, .int p1), (2, .int p2)] := hl
  have hf := (m_X11_word.eq_1 _ _ _ _ _).symm.trans hf
  refine lv_iload_n hx hb dX11_word_0 rfl (lv_at hl 1 rfl) ?_
  obtain ⟨u1, hu1, hf⟩ := bd_some hf
  refine z_ci (ws1 := w_X11_word h_t r_t r_all r_all_machine r_all_machine_cache F_t F_all F_all_machine kq cI a_all_machine_cache_media a_all_machine_cache_stores a_all_machine_cache_held) (wr := List.filterMap (fun i : Nat => (w_X11_word h_t r_t r_all r_all_machine r_all_machine_cache F_t F_all F_all_machine kq cI a_all_machine_cache_media a_all_machine_cache_stores a_all_machine_cache_held)[i]?) [0, 1, 2, 3, 4, 5, 6]) (z_rS (rest := []) hx hb hml hown hcx hl.1 (c_X11_isWord l D cI p1 u1 hu1 _) tl_X11_160 ts_X11_isWord tn_X11 tc_X11_isWord tm_X11_isWord rfl rfl ⟨Nat.le_of_ble_eq_true rfl, Nat.le_of_ble_eq_true rfl⟩ hK hX hS hA hP hD [] rfl rfl rfl rfl (Nat.le_of_ble_eq_true rfl) dX11_word_1 ⟨Nat.zero_le _, Nat.zero_le _⟩) hP hD hS hA [] [0, 1, 2, 3, 4, 5, 6] [0, 1, 2, 3, 4, 5, 6] rfl rfl rfl (by decide) rfl rfl (fun H locs hP hD hS => ?_)
  refine z_if_ne (tgt := 17) hx hb dX11_word_4 (by decide) hf (fun hf => ?_) (fun hf => ?_)
  · refine lv_aload_n hx hb dX11_word_17 rfl (lv_at hl 0 rfl) ?_
    refine z_get (ci := 11) (C := RX11) (T := TX11) (N := 13) (v := .ref (r_t 3)) hx hb hts inT_X11 hown hK hP 0 rfl rfl 3 (by decide) tf_X11_23 rfl dX11_word_18 ?_
    refine z_get (ci := 0) (C := RX0) (T := TX0) (N := 5) (v := .ref (r_all 0)) hx hb hts inT_X0 hown hK hP 1 rfl rfl 0 (by decide) tf_X11_112 rfl dX11_word_21 ?_
    refine z_get (ci := 4) (C := RX4) (T := TX4) (N := 12) (v := .ref (r_all_machine 0)) hx hb hts inT_X4 hown hK hP 2 rfl rfl 0 (by decide) tf_X11_131 rfl dX11_word_24 ?_
    refine lv_astore_n (lv' := [(3, .ref (r_all_machine 0)), (0, .ref h_t), (1, .int p1), (2, .int p2)]) hx hb dX11_word_27 rfl hl (by decide) rfl (fun ls hl => ?_)
    refine lv_iload_n hx hb dX11_word_28 rfl (lv_at hl 3 rfl) ?_
    refine z_if_eq (tgt := 41) hx hb dX11_word_29 (by decide) hf (fun hf => ?_) (fun hf => ?_)
    · refine lv_aload_n hx hb dX11_word_41 rfl (lv_at hl 0 rfl) ?_
      refine lv_iload_n hx hb dX11_word_42 rfl (lv_at hl 2 rfl) ?_
      obtain ⟨u2, hu2, hf⟩ := bd_some hf
      refine z_ci (ws1 := w_X11_word h_t r_t r_all r_all_machine r_all_machine_cache F_t F_all F_all_machine kq cI a_all_machine_cache_media a_all_machine_cache_stores a_all_machine_cache_held) (wr := List.filterMap (fun i : Nat => (w_X11_word h_t r_t r_all r_all_machine r_all_machine_cache F_t F_all F_all_machine kq cI a_all_machine_cache_media a_all_machine_cache_stores a_all_machine_cache_held)[i]?) [0, 1, 2]) (z_rV (rest := []) hx hb hml hown hcx hl.1 (c_X1_wordNow l D cI (r_all_machine 0) r_all_machine_cache a_all_machine_cache_media a_all_machine_cache_stores a_all_machine_cache_held p1 u2 hu2 _) tl_X11_169 ti_X1_wordNow tz_X1_wordNow tn_X1 tc_X1_wordNow tm_X1_wordNow rfl rfl ⟨Nat.le_of_ble_eq_true rfl, Nat.le_of_ble_eq_true rfl⟩ hK hX hS hA hP hD [3, 4, 5, 6] rfl rfl 3 rfl rfl rfl rfl (Nat.le_of_ble_eq_true rfl) dX11_word_43 ⟨Nat.zero_le _, Nat.zero_le _⟩) hP hD hS hA [3, 4, 5, 6] [0, 1, 2] [0, 1, 2, 3, 4, 5, 6] rfl rfl rfl (by decide) rfl rfl (fun H locs hP hD hS => ?_)
      exact hret (0, u2) () _ _ _ _ _ _ (Nat.le_of_ble_eq_true rfl) (Nat.le_of_ble_eq_true rfl) rfl hf hP hD hS dX11_word_46
    · refine lv_aload_n hx hb dX11_word_32 rfl (lv_at hl 0 rfl) ?_
      refine z_get (ci := 1) (C := RX1) (T := TX1) (N := 4) (v := .ref (r_all_machine_cache 0)) hx hb hts inT_X1 hown hK hP 3 rfl rfl 0 (by decide) tf_X11_166 rfl dX11_word_33 ?_
      refine lv_iload_n hx hb dX11_word_36 rfl (lv_at hl 2 rfl) ?_
      refine z_iald hx hb hK hP 4 rfl dX11_word_37 hf (fun y3 hf => ?_)
      refine lv_goto (tgt := 46) hx hb dX11_word_38 (by decide) ?_
      exact hret (0, y3) () _ _ _ _ _ _ (Nat.le_of_ble_eq_true rfl) (Nat.le_of_ble_eq_true rfl) rfl hf hP hD hS dX11_word_46
  · exact hth1 (1, 0) () _ _ _ _ 164 "no such word" hl.1 (List.mem_of_getElem? (i := 2) rfl) rfl hf hP hD hS dX11_word_7 dX11_word_10 dX11_word_11 dX11_word_13 dX11_word_16
abbrev w_X11_line (h_t : Nat) (r_t : Nat → Nat) (r_all : Nat → Nat) (r_all_machine : Nat → Nat) (r_all_machine_cache : Nat → Nat) (F_t : Nat → Int32) (F_all : Nat → Int32) (F_all_machine : Nat → Int32) (kq : Option Nat) (cI : ClassId) (a_all_machine_cache_stores : Nat → Int32) (a_all_machine_cache_held : Nat → Int32) (a_all_machine_cache_asked : Nat → Int32) : va_W := [(h_t, .inr (11, o_X11 r_t F_t kq)), ((r_t 3), .inr (0, o_X0 r_all F_all)), ((r_all 0), .inr (4, o_X4 r_all_machine F_all_machine)), ((r_all_machine 0), .inr (1, o_X1 r_all_machine_cache)), ((r_all_machine_cache 1), .inl (cI, 96, .inl a_all_machine_cache_stores)), ((r_all_machine_cache 2), .inl (cI, 16, .inl a_all_machine_cache_held)), ((r_all_machine_cache 3), .inl (cI, 16, .inl a_all_machine_cache_asked))]
abbrev rm_X11_line : Room := { frames := 6, cells := 1, slots := 6, locals := 82 }
def m_X11_line (a_all_machine_cache_stores : Nat → Int32) (a_all_machine_cache_held : Nat → Int32) (a_all_machine_cache_asked : Nat → Int32) (p1 : Int32) (p2 : Int32) : Option (Int32 × Int32) :=
  bd (m_X11_isLine p1) fun u1 =>
  if u1 = 0 then (
  some (1, 0))
  else (
  if p2 = (-1) then (
  rd a_all_machine_cache_held 16 p1 fun y5 =>
  some (0, y5))
  else (
  if p2 = (-2) then (
  rd a_all_machine_cache_asked 16 p1 fun y4 =>
  some (0, y4))
  else (
  if p2 < 0 then (
  some (1, 0))
  else (
  rd a_all_machine_cache_held 16 p1 fun y2 =>
  if p2 < y2 then (
  rd a_all_machine_cache_stores 96 ((p1 * 6) + p2) fun y3 =>
  some (0, y3))
  else (
  some (1, 0))))))
set_option maxHeartbeats 4000000 in
set_option maxRecDepth 100000 in
theorem c_X11_line (l : Launch) (hlt : l.stackTraces = false) (D : va_G) (cI : ClassId) (h_t : Nat) (r_t : Nat → Nat) (r_all : Nat → Nat) (r_all_machine : Nat → Nat) (r_all_machine_cache : Nat → Nat) (F_t : Nat → Int32) (F_all : Nat → Int32) (F_all_machine : Nat → Int32) (kq : Option Nat) (a_all_machine_cache_stores : Nat → Int32) (a_all_machine_cache_held : Nat → Int32) (a_all_machine_cache_asked : Nat → Int32) (p1 : Int32) (p2 : Int32) (Rr : Int32 × Int32) (hf : m_X11_line a_all_machine_cache_stores a_all_machine_cache_held a_all_machine_cache_asked p1 p2 = some Rr) : CTx l yX11_line (Cond.code yX11_line cX11_line 4 (some .int)) rm_X11_line D cI [.ref h_t, .int p1, .int p2] (w_X11_line h_t r_t r_all r_all_machine r_all_machine_cache F_t F_all F_all_machine kq cI a_all_machine_cache_stores a_all_machine_cache_held a_all_machine_cache_asked) Rr.1 Rr.2 (fun (_ : Unit) => w_X11_line h_t r_t r_all r_all_machine r_all_machine_cache F_t F_all F_all_machine kq cI a_all_machine_cache_stores a_all_machine_cache_held a_all_machine_cache_asked) 1 6 := by
  refine z_begin_x (ρ := Int32 × Int32) (fun u (_ : Unit) => w_X11_line h_t r_t r_all r_all_machine r_all_machine_cache F_t F_all F_all_machine kq cI a_all_machine_cache_stores a_all_machine_cache_held a_all_machine_cache_asked) (fun u => u.1) (fun u => u.2) 1 6 hlt (by decide +kernel) rfl (Nat.le_of_ble_eq_true rfl) (Nat.le_of_ble_eq_true rfl) (Nat.le_of_ble_eq_true rfl) (Nat.le_of_ble_eq_true rfl) (Nat.le_of_ble_eq_true rfl) (Nat.le_of_ble_eq_true rfl) (Nat.le_of_ble_eq_true rfl) ?_
  intro p e s m args below meth c ls Q A hx hb hml hts hcx hown hK hX hA hP hD hS hl hret hth1 hth1W hth2 hth2W
  have hl : lv_has ls 4 [(0, .ref h_t), (1, .int p1), (2, .int p2)] := hl
  have hf := (m_X11_line.eq_1 _ _ _ _ _).symm.trans hf
  refine lv_iload_n hx hb dX11_line_0 rfl (lv_at hl 1 rfl) ?_
  obtain ⟨u1, hu1, hf⟩ := bd_some hf
  refine z_ci (ws1 := w_X11_line h_t r_t r_all r_all_machine r_all_machine_cache F_t F_all F_all_machine kq cI a_all_machine_cache_stores a_all_machine_cache_held a_all_machine_cache_asked) (wr := List.filterMap (fun i : Nat => (w_X11_line h_t r_t r_all r_all_machine r_all_machine_cache F_t F_all F_all_machine kq cI a_all_machine_cache_stores a_all_machine_cache_held a_all_machine_cache_asked)[i]?) [0, 1, 2, 3, 4, 5, 6]) (z_rS (rest := []) hx hb hml hown hcx hl.1 (c_X11_isLine l D cI p1 u1 hu1 _) tl_X11_173 ts_X11_isLine tn_X11 tc_X11_isLine tm_X11_isLine rfl rfl ⟨Nat.le_of_ble_eq_true rfl, Nat.le_of_ble_eq_true rfl⟩ hK hX hS hA hP hD [] rfl rfl rfl rfl (Nat.le_of_ble_eq_true rfl) dX11_line_1 ⟨Nat.zero_le _, Nat.zero_le _⟩) hP hD hS hA [] [0, 1, 2, 3, 4, 5, 6] [0, 1, 2, 3, 4, 5, 6] rfl rfl rfl (by decide) rfl rfl (fun H locs hP hD hS => ?_)
  refine z_if_ne (tgt := 17) hx hb dX11_line_4 (by decide) hf (fun hf => ?_) (fun hf => ?_)
  · refine lv_aload_n hx hb dX11_line_17 rfl (lv_at hl 0 rfl) ?_
    refine z_get (ci := 11) (C := RX11) (T := TX11) (N := 13) (v := .ref (r_t 3)) hx hb hts inT_X11 hown hK hP 0 rfl rfl 3 (by decide) tf_X11_23 rfl dX11_line_18 ?_
    refine z_get (ci := 0) (C := RX0) (T := TX0) (N := 5) (v := .ref (r_all 0)) hx hb hts inT_X0 hown hK hP 1 rfl rfl 0 (by decide) tf_X11_112 rfl dX11_line_21 ?_
    refine z_get (ci := 4) (C := RX4) (T := TX4) (N := 12) (v := .ref (r_all_machine 0)) hx hb hts inT_X4 hown hK hP 2 rfl rfl 0 (by decide) tf_X11_131 rfl dX11_line_24 ?_
    refine lv_astore_n (lv' := [(3, .ref (r_all_machine 0)), (0, .ref h_t), (1, .int p1), (2, .int p2)]) hx hb dX11_line_27 rfl hl (by decide) rfl (fun ls hl => ?_)
    refine lv_iload_n hx hb dX11_line_28 rfl (lv_at hl 3 rfl) ?_
    refine lv_iconst (v := (-1)) hx hb dX11_line_29 (by decide) ?_
    refine z_icmp_ne (tgt := 40) hx hb dX11_line_30 (by decide) hf (fun hf => ?_) (fun hf => ?_)
    · refine lv_iload_n hx hb dX11_line_40 rfl (lv_at hl 3 rfl) ?_
      refine lv_bipush (v := (-2)) hx hb dX11_line_41 (by decide) ?_
      refine z_icmp_ne (tgt := 53) hx hb dX11_line_43 (by decide) hf (fun hf => ?_) (fun hf => ?_)
      · refine lv_iload_n hx hb dX11_line_53 rfl (lv_at hl 3 rfl) ?_
        refine z_if_lt (tgt := 67) hx hb dX11_line_54 (by decide) hf (fun hf => ?_) (fun hf => ?_)
        · exact hth1 (1, 0) () _ _ _ _ 184 "no such store" hl.1 (List.mem_of_getElem? (i := 4) rfl) rfl hf hP hD hS dX11_line_67 dX11_line_70 dX11_line_71 dX11_line_73 dX11_line_76
        · refine lv_iload_n hx hb dX11_line_57 rfl (lv_at hl 3 rfl) ?_
          refine lv_aload_n hx hb dX11_line_58 rfl (lv_at hl 0 rfl) ?_
          refine z_get (ci := 1) (C := RX1) (T := TX1) (N := 4) (v := .ref (r_all_machine_cache 2)) hx hb hts inT_X1 hown hK hP 3 rfl rfl 2 (by decide) tf_X11_178 rfl dX11_line_59 ?_
          refine lv_iload_n hx hb dX11_line_62 rfl (lv_at hl 2 rfl) ?_
          refine z_iald hx hb hK hP 5 rfl dX11_line_63 hf (fun y2 hf => ?_)
          refine z_icmp_lt (tgt := 77) hx hb dX11_line_64 (by decide) hf (fun hf => ?_) (fun hf => ?_)
          · refine lv_aload_n hx hb dX11_line_77 rfl (lv_at hl 0 rfl) ?_
            refine z_get (ci := 1) (C := RX1) (T := TX1) (N := 4) (v := .ref (r_all_machine_cache 1)) hx hb hts inT_X1 hown hK hP 3 rfl rfl 1 (by decide) tf_X11_186 rfl dX11_line_78 ?_
            refine lv_iload_n hx hb dX11_line_81 rfl (lv_at hl 2 rfl) ?_
            refine lv_bipush (v := 6) hx hb dX11_line_82 (by decide) ?_
            refine lv_imul hx hb dX11_line_84 ?_
            refine lv_iload_n hx hb dX11_line_85 rfl (lv_at hl 3 rfl) ?_
            refine lv_iadd hx hb dX11_line_86 ?_
            refine z_iald hx hb hK hP 4 rfl dX11_line_87 hf (fun y3 hf => ?_)
            exact hret (0, y3) () _ _ _ _ _ _ (Nat.le_of_ble_eq_true rfl) (Nat.le_of_ble_eq_true rfl) rfl hf hP hD hS dX11_line_88
          · exact hth1 (1, 0) () _ _ _ _ 184 "no such store" hl.1 (List.mem_of_getElem? (i := 4) rfl) rfl hf hP hD hS dX11_line_67 dX11_line_70 dX11_line_71 dX11_line_73 dX11_line_76
      · refine lv_aload_n hx hb dX11_line_46 rfl (lv_at hl 0 rfl) ?_
        refine z_get (ci := 1) (C := RX1) (T := TX1) (N := 4) (v := .ref (r_all_machine_cache 3)) hx hb hts inT_X1 hown hK hP 3 rfl rfl 3 (by decide) tf_X11_181 rfl dX11_line_47 ?_
        refine lv_iload_n hx hb dX11_line_50 rfl (lv_at hl 2 rfl) ?_
        refine z_iald hx hb hK hP 6 rfl dX11_line_51 hf (fun y4 hf => ?_)
        exact hret (0, y4) () _ _ _ _ _ _ (Nat.le_of_ble_eq_true rfl) (Nat.le_of_ble_eq_true rfl) rfl hf hP hD hS dX11_line_52
    · refine lv_aload_n hx hb dX11_line_33 rfl (lv_at hl 0 rfl) ?_
      refine z_get (ci := 1) (C := RX1) (T := TX1) (N := 4) (v := .ref (r_all_machine_cache 2)) hx hb hts inT_X1 hown hK hP 3 rfl rfl 2 (by decide) tf_X11_178 rfl dX11_line_34 ?_
      refine lv_iload_n hx hb dX11_line_37 rfl (lv_at hl 2 rfl) ?_
      refine z_iald hx hb hK hP 5 rfl dX11_line_38 hf (fun y5 hf => ?_)
      exact hret (0, y5) () _ _ _ _ _ _ (Nat.le_of_ble_eq_true rfl) (Nat.le_of_ble_eq_true rfl) rfl hf hP hD hS dX11_line_39
  · exact hth1 (1, 0) () _ _ _ _ 176 "no such line" hl.1 (List.mem_of_getElem? (i := 3) rfl) rfl hf hP hD hS dX11_line_7 dX11_line_10 dX11_line_11 dX11_line_13 dX11_line_16
abbrev w_X11_micro (h_t : Nat) (r_t : Nat → Nat) (r_all : Nat → Nat) (r_all_machine : Nat → Nat) (F_t : Nat → Int32) (F_all : Nat → Int32) (F_all_machine : Nat → Int32) (kq : Option Nat) (cI : ClassId) (a_all_machine_micros : Nat → Int32) : va_W := [(h_t, .inr (11, o_X11 r_t F_t kq)), ((r_t 3), .inr (0, o_X0 r_all F_all)), ((r_all 0), .inr (4, o_X4 r_all_machine F_all_machine)), ((r_all_machine 1), .inl (cI, 80, .inl a_all_machine_micros))]
abbrev rm_X11_micro : Room := { frames := 6, cells := 1, slots := 6, locals := 82 }
def m_X11_micro_j86 (F_all_machine : Nat → Int32) (a_all_machine_micros : Nat → Int32) (p1 : Int32) (p2 : Int32) (x4 : Int32) : Option (Int32 × Int32) :=
  nm ((x4 - x4 / 10000 * 10000) / 100) fun v4 =>
  if p2 = 1 then (
  some (0, v4))
  else (
  some (0, (x4 - x4 / 100 * 100)))
def m_X11_micro (F_all_machine : Nat → Int32) (a_all_machine_micros : Nat → Int32) (p1 : Int32) (p2 : Int32) : Option (Int32 × Int32) :=
  if p1 < 0 then (
  some (1, 0))
  else (
  bd (m_X4_microsLeft F_all_machine) fun u1 =>
  if u1 ≤ p1 then (
  some (1, 0))
  else (
  if p2 < 0 then (
  some (1, 0))
  else (
  if p2 ≤ 2 then (
  rd a_all_machine_micros 80 ((F_all_machine 2) + p1) fun y2 =>
  nm (y2 / 10000) fun v3 =>
  if p2 = 0 then (
  some (0, v3))
  else (
  if v3 = 2 then (
  some (0, (-1)))
  else (
  if v3 = 1 then (
  if p2 = 2 then (
  some (0, (-1)))
  else (
  m_X11_micro_j86 F_all_machine a_all_machine_micros p1 p2 y2))
  else (
  m_X11_micro_j86 F_all_machine a_all_machine_micros p1 p2 y2))))
  else (
  some (1, 0)))))
set_option maxHeartbeats 4000000 in
set_option maxRecDepth 100000 in
theorem c_X11_micro (l : Launch) (hlt : l.stackTraces = false) (D : va_G) (cI : ClassId) (h_t : Nat) (r_t : Nat → Nat) (r_all : Nat → Nat) (r_all_machine : Nat → Nat) (F_t : Nat → Int32) (F_all : Nat → Int32) (F_all_machine : Nat → Int32) (kq : Option Nat) (a_all_machine_micros : Nat → Int32) (p1 : Int32) (p2 : Int32) (Rr : Int32 × Int32) (hf : m_X11_micro F_all_machine a_all_machine_micros p1 p2 = some Rr) : CTx l yX11_micro (Cond.code yX11_micro cX11_micro 7 (some .int)) rm_X11_micro D cI [.ref h_t, .int p1, .int p2] (w_X11_micro h_t r_t r_all r_all_machine F_t F_all F_all_machine kq cI a_all_machine_micros) Rr.1 Rr.2 (fun (_ : Unit) => w_X11_micro h_t r_t r_all r_all_machine F_t F_all F_all_machine kq cI a_all_machine_micros) 1 6 := by
  refine z_begin_x (ρ := Int32 × Int32) (fun u (_ : Unit) => w_X11_micro h_t r_t r_all r_all_machine F_t F_all F_all_machine kq cI a_all_machine_micros) (fun u => u.1) (fun u => u.2) 1 6 hlt (by decide +kernel) rfl (Nat.le_of_ble_eq_true rfl) (Nat.le_of_ble_eq_true rfl) (Nat.le_of_ble_eq_true rfl) (Nat.le_of_ble_eq_true rfl) (Nat.le_of_ble_eq_true rfl) (Nat.le_of_ble_eq_true rfl) (Nat.le_of_ble_eq_true rfl) ?_
  intro p e s m args below meth c ls Q A hx hb hml hts hcx hown hK hX hA hP hD hS hl hret hth1 hth1W hth2 hth2W
  have hl : lv_has ls 7 [(0, .ref h_t), (1, .int p1), (2, .int p2)] := hl
  have hf := (m_X11_micro.eq_1 _ _ _ _).symm.trans hf
  have L86 : ∀ (x4 : Int32) (H : Heap) (locs : List Loc) (ls : Array Slot), m_X11_micro_j86 F_all_machine a_all_machine_micros p1 p2 x4 = some Rr → va_P D vwCl (w_X11_micro h_t r_t r_all r_all_machine F_t F_all F_all_machine kq cI a_all_machine_micros) H → va_D A (w_X11_micro h_t r_t r_all r_all_machine F_t F_all F_all_machine kq cI a_all_machine_micros) → va_S A s.heap H locs → lv_has ls 7 [(2, .int p2), (4, .int x4)] → W p l e rm_X11_micro s m args below meth c H locs 0 0 Q (F0 m 86 ls []) := by
    intro x4 H locs ls hf hP hD hS hl
    have hf := (m_X11_micro_j86.eq_1 _ _ _ _ _).symm.trans hf
    refine lv_iload hx hb dX11_micro_86 (lv_at hl 1 rfl) ?_
    refine lv_sipush (v := 10000) hx hb dX11_micro_88 (by decide) ?_
    refine lv_irem hx hb dX11_micro_91 (by decide) ?_
    refine lv_bipush (v := 100) hx hb dX11_micro_92 (by decide) ?_
    refine lv_idiv hx hb dX11_micro_94 (by decide) ?_
    refine z_istore (fun z => [(6, .int z), (2, .int p2), (4, .int x4)]) hx hb dX11_micro_95 hl (by decide) (fun _ => rfl) hf (fun v4 ls hf hl => ?_)
    refine lv_iload_n hx hb dX11_micro_97 rfl (lv_at hl 1 rfl) ?_
    refine lv_iconst (v := 1) hx hb dX11_micro_98 (by decide) ?_
    refine z_icmp_ne (tgt := 107) hx hb dX11_micro_99 (by decide) hf (fun hf => ?_) (fun hf => ?_)
    · refine lv_iload hx hb dX11_micro_107 (lv_at hl 2 rfl) ?_
      refine lv_bipush (v := 100) hx hb dX11_micro_109 (by decide) ?_
      refine lv_irem hx hb dX11_micro_111 (by decide) ?_
      exact hret (0, (x4 - x4 / 100 * 100)) () _ _ _ _ _ _ (Nat.le_of_ble_eq_true rfl) (Nat.le_of_ble_eq_true rfl) rfl hf hP hD hS dX11_micro_112
    · refine lv_iload hx hb dX11_micro_102 (lv_at hl 0 rfl) ?_
      refine lv_goto (tgt := 112) hx hb dX11_micro_104 (by decide) ?_
      exact hret (0, v4) () _ _ _ _ _ _ (Nat.le_of_ble_eq_true rfl) (Nat.le_of_ble_eq_true rfl) rfl hf hP hD hS dX11_micro_112
  refine lv_aload_n hx hb dX11_micro_0 rfl (lv_at hl 0 rfl) ?_
  refine z_get (ci := 11) (C := RX11) (T := TX11) (N := 13) (v := .ref (r_t 3)) hx hb hts inT_X11 hown hK hP 0 rfl rfl 3 (by decide) tf_X11_23 rfl dX11_micro_1 ?_
  refine z_get (ci := 0) (C := RX0) (T := TX0) (N := 5) (v := .ref (r_all 0)) hx hb hts inT_X0 hown hK hP 1 rfl rfl 0 (by decide) tf_X11_112 rfl dX11_micro_4 ?_
  refine lv_astore_n (lv' := [(3, .ref (r_all 0)), (0, .ref h_t), (1, .int p1), (2, .int p2)]) hx hb dX11_micro_7 rfl hl (by decide) rfl (fun ls hl => ?_)
  refine lv_iload_n hx hb dX11_micro_8 rfl (lv_at hl 2 rfl) ?_
  refine z_if_lt (tgt := 29) hx hb dX11_micro_9 (by decide) hf (fun hf => ?_) (fun hf => ?_)
  · exact hth1 (1, 0) () _ _ _ _ 189 "no such micro, or nothing such of it" hl.1 (List.mem_of_getElem? (i := 5) rfl) rfl hf hP hD hS dX11_micro_29 dX11_micro_32 dX11_micro_33 dX11_micro_35 dX11_micro_38
  · refine lv_iload_n hx hb dX11_micro_12 rfl (lv_at hl 2 rfl) ?_
    refine lv_aload_n hx hb dX11_micro_13 rfl (lv_at hl 0 rfl) ?_
    obtain ⟨u1, hu1, hf⟩ := bd_some hf
    refine z_ci (ws1 := w_X11_micro h_t r_t r_all r_all_machine F_t F_all F_all_machine kq cI a_all_machine_micros) (wr := List.filterMap (fun i : Nat => (w_X11_micro h_t r_t r_all r_all_machine F_t F_all F_all_machine kq cI a_all_machine_micros)[i]?) [0, 1, 3]) (z_rV (rest := [.int p1]) hx hb hml hown hcx hl.1 (c_X4_microsLeft l D cI (r_all 0) r_all_machine F_all_machine u1 hu1 _) tl_X11_127 ti_X4_microsLeft tz_X4_microsLeft tn_X4 tc_X4_microsLeft tm_X4_microsLeft rfl rfl ⟨Nat.le_of_ble_eq_true rfl, Nat.le_of_ble_eq_true rfl⟩ hK hX hS hA hP hD [2] rfl rfl 2 rfl rfl rfl rfl (Nat.le_of_ble_eq_true rfl) dX11_micro_14 ⟨Nat.zero_le _, Nat.zero_le _⟩) hP hD hS hA [2] [0, 1, 3] [0, 1, 3, 2] rfl rfl rfl (by decide) rfl rfl (fun H locs hP hD hS => ?_)
    refine z_icmp_ge (tgt := 29) hx hb dX11_micro_17 (by decide) hf (fun hf => ?_) (fun hf => ?_)
    · exact hth1 (1, 0) () _ _ _ _ 189 "no such micro, or nothing such of it" hl.1 (List.mem_of_getElem? (i := 5) rfl) rfl hf hP hD hS dX11_micro_29 dX11_micro_32 dX11_micro_33 dX11_micro_35 dX11_micro_38
    · refine lv_iload_n hx hb dX11_micro_20 rfl (lv_at hl 3 rfl) ?_
      refine z_if_lt (tgt := 29) hx hb dX11_micro_21 (by decide) hf (fun hf => ?_) (fun hf => ?_)
      · exact hth1 (1, 0) () _ _ _ _ 189 "no such micro, or nothing such of it" hl.1 (List.mem_of_getElem? (i := 5) rfl) rfl hf hP hD hS dX11_micro_29 dX11_micro_32 dX11_micro_33 dX11_micro_35 dX11_micro_38
      · refine lv_iload_n hx hb dX11_micro_24 rfl (lv_at hl 3 rfl) ?_
        refine lv_iconst (v := 2) hx hb dX11_micro_25 (by decide) ?_
        refine z_icmp_le (tgt := 39) hx hb dX11_micro_26 (by decide) hf (fun hf => ?_) (fun hf => ?_)
        · refine lv_aload_n hx hb dX11_micro_39 rfl (lv_at hl 0 rfl) ?_
          refine z_get (ci := 4) (C := RX4) (T := TX4) (N := 12) (v := .ref (r_all_machine 1)) hx hb hts inT_X4 hown hK hP 2 rfl rfl 1 (by decide) tf_X11_191 rfl dX11_micro_40 ?_
          refine lv_aload_n hx hb dX11_micro_43 rfl (lv_at hl 0 rfl) ?_
          refine z_get (ci := 4) (C := RX4) (T := TX4) (N := 12) (v := .int (F_all_machine 2)) hx hb hts inT_X4 hown hK hP 2 rfl rfl 2 (by decide) tf_X11_194 rfl dX11_micro_44 ?_
          refine lv_iload_n hx hb dX11_micro_47 rfl (lv_at hl 2 rfl) ?_
          refine lv_iadd hx hb dX11_micro_48 ?_
          refine z_iald hx hb hK hP 3 rfl dX11_micro_49 hf (fun y2 hf => ?_)
          refine lv_istore (lv' := [(4, .int y2), (3, .ref (r_all 0)), (0, .ref h_t), (1, .int p1), (2, .int p2)]) hx hb dX11_micro_50 hl (by decide) rfl (fun ls hl => ?_)
          refine lv_iload hx hb dX11_micro_52 (lv_at hl 0 rfl) ?_
          refine lv_sipush (v := 10000) hx hb dX11_micro_54 (by decide) ?_
          refine lv_idiv hx hb dX11_micro_57 (by decide) ?_
          refine z_istore (fun z => [(5, .int z), (4, .int y2), (3, .ref (r_all 0)), (0, .ref h_t), (1, .int p1), (2, .int p2)]) hx hb dX11_micro_58 hl (by decide) (fun _ => rfl) hf (fun v3 ls hf hl => ?_)
          refine lv_iload_n hx hb dX11_micro_60 rfl (lv_at hl 5 rfl) ?_
          refine z_if_ne (tgt := 67) hx hb dX11_micro_61 (by decide) hf (fun hf => ?_) (fun hf => ?_)
          · refine lv_iload hx hb dX11_micro_67 (lv_at hl 0 rfl) ?_
            refine lv_iconst (v := 2) hx hb dX11_micro_69 (by decide) ?_
            refine z_icmp_eq (tgt := 84) hx hb dX11_micro_70 (by decide) hf (fun hf => ?_) (fun hf => ?_)
            · refine lv_iconst (v := (-1)) hx hb dX11_micro_84 (by decide) ?_
              exact hret (0, (-1)) () _ _ _ _ _ _ (Nat.le_of_ble_eq_true rfl) (Nat.le_of_ble_eq_true rfl) rfl hf hP hD hS dX11_micro_85
            · refine lv_iload hx hb dX11_micro_73 (lv_at hl 0 rfl) ?_
              refine lv_iconst (v := 1) hx hb dX11_micro_75 (by decide) ?_
              refine z_icmp_ne (tgt := 86) hx hb dX11_micro_76 (by decide) hf (fun hf => ?_) (fun hf => ?_)
              · exact L86 y2 _ _ _ hf hP hD hS (lv_sub hl [5, 1] rfl)
              · refine lv_iload_n hx hb dX11_micro_79 rfl (lv_at hl 5 rfl) ?_
                refine lv_iconst (v := 2) hx hb dX11_micro_80 (by decide) ?_
                refine z_icmp_ne (tgt := 86) hx hb dX11_micro_81 (by decide) hf (fun hf => ?_) (fun hf => ?_)
                · exact L86 y2 _ _ _ hf hP hD hS (lv_sub hl [5, 1] rfl)
                · refine lv_iconst (v := (-1)) hx hb dX11_micro_84 (by decide) ?_
                  exact hret (0, (-1)) () _ _ _ _ _ _ (Nat.le_of_ble_eq_true rfl) (Nat.le_of_ble_eq_true rfl) rfl hf hP hD hS dX11_micro_85
          · refine lv_iload hx hb dX11_micro_64 (lv_at hl 0 rfl) ?_
            exact hret (0, v3) () _ _ _ _ _ _ (Nat.le_of_ble_eq_true rfl) (Nat.le_of_ble_eq_true rfl) rfl hf hP hD hS dX11_micro_66
        · exact hth1 (1, 0) () _ _ _ _ 189 "no such micro, or nothing such of it" hl.1 (List.mem_of_getElem? (i := 5) rfl) rfl hf hP hD hS dX11_micro_29 dX11_micro_32 dX11_micro_33 dX11_micro_35 dX11_micro_38
abbrev w_X11_shape (h_t : Nat) (r_t : Nat → Nat) (r_all : Nat → Nat) (r_all_machine : Nat → Nat) (r_all_machine_cache : Nat → Nat) (r_planner : Nat → Nat) (r_walk : Nat → Nat) (r_surveyed : Nat → Nat) (F_t : Nat → Int32) (F_all : Nat → Int32) (F_all_machine : Nat → Int32) (F_planner : Nat → Int32) (F_surveyed : Nat → Int32) (kq : Option Nat) (cI : ClassId) (a_all_machine_cache_media : Nat → Int32) (a_all_machine_cache_stores : Nat → Int32) (a_all_machine_cache_held : Nat → Int32) (a_planner_words : Nat → Int32) (a_walk_row : Nat → Int32) (a_walk_picture : Nat → Int32) (a_walk_settled : Nat → Int32) : va_W := [(h_t, .inr (11, o_X11 r_t F_t kq)), ((r_t 3), .inr (0, o_X0 r_all F_all)), ((r_all 0), .inr (4, o_X4 r_all_machine F_all_machine)), ((r_all_machine 0), .inr (1, o_X1 r_all_machine_cache)), ((r_all_machine_cache 0), .inl (cI, 64, .inl a_all_machine_cache_media)), ((r_all_machine_cache 1), .inl (cI, 96, .inl a_all_machine_cache_stores)), ((r_all_machine_cache 2), .inl (cI, 16, .inl a_all_machine_cache_held)), ((r_t 6), .inr (5, o_X5 r_planner F_planner)), ((r_planner 0), .inl (cI, 64, .inl a_planner_words)), ((r_t 7), .inr (9, o_X9 r_walk)), ((r_walk 0), .inl (cI, 16, .inl a_walk_row)), ((r_walk 1), .inl (cI, 64, .inl a_walk_picture)), ((r_walk 2), .inl (cI, 64, .inl a_walk_settled)), ((r_t 8), .inr (7, o_X7 r_surveyed F_surveyed))]
abbrev rm_X11_shape : Room := { frames := 6, cells := 1, slots := 6, locals := 82 }
def m_X11_shape_j122 (F_all_machine : Nat → Int32) (a_all_machine_cache_media : Nat → Int32) (a_all_machine_cache_stores : Nat → Int32) (a_all_machine_cache_held : Nat → Int32) (p1 : Int32) (p2 : Int32) (F_surveyed : Nat → Int32) (a_planner_words : Nat → Int32) (a_walk_row : Nat → Int32) (a_walk_picture : Nat → Int32) (a_walk_settled : Nat → Int32) : Option (Int32 × Int32 × (Nat → Int32) × (Nat → Int32) × (Nat → Int32) × (Nat → Int32) × (Nat → Int32)) :=
  bd (m_X7_answer F_surveyed p2) fun u4 =>
  some (0, u4, F_surveyed, a_planner_words, a_walk_row, a_walk_picture, a_walk_settled)
def m_X11_shape (F_all_machine : Nat → Int32) (F_surveyed : Nat → Int32) (a_all_machine_cache_media : Nat → Int32) (a_all_machine_cache_stores : Nat → Int32) (a_all_machine_cache_held : Nat → Int32) (a_planner_words : Nat → Int32) (a_walk_row : Nat → Int32) (a_walk_picture : Nat → Int32) (a_walk_settled : Nat → Int32) (p1 : Int32) (p2 : Int32) : Option (Int32 × Int32 × (Nat → Int32) × (Nat → Int32) × (Nat → Int32) × (Nat → Int32) × (Nat → Int32)) :=
  if p1 < 0 then (
  some (1, 0, F_surveyed, a_planner_words, a_walk_row, a_walk_picture, a_walk_settled))
  else (
  if 2 < p1 then (
  some (1, 0, F_surveyed, a_planner_words, a_walk_row, a_walk_picture, a_walk_settled))
  else (
  if p2 < 0 then (
  some (1, 0, F_surveyed, a_planner_words, a_walk_row, a_walk_picture, a_walk_settled))
  else (
  if p2 ≤ 4 then (
  if p1 = 0 then (
  bd (m_X1_fillWords a_all_machine_cache_media a_all_machine_cache_stores a_all_machine_cache_held a_planner_words 64) fun u6 =>
  bd (m_X7_survey F_surveyed u6 64) fun u7 =>
  m_X11_shape_j122 F_all_machine a_all_machine_cache_media a_all_machine_cache_stores a_all_machine_cache_held p1 p2 u7 u6 a_walk_row a_walk_picture a_walk_settled)
  else (
  bd (m_X9_start a_walk_row a_walk_picture a_all_machine_cache_media) fun u1 =>
  bd (m_X9_recoverPicture u1.2 a_walk_settled (F_all_machine 9)) fun u2 =>
  if p1 = 1 then (
  bd (m_X7_survey F_surveyed u1.2 64) fun u5 =>
  m_X11_shape_j122 F_all_machine a_all_machine_cache_media a_all_machine_cache_stores a_all_machine_cache_held p1 p2 u5 a_planner_words u1.1 u1.2 u2)
  else (
  bd (m_X7_survey F_surveyed u2 64) fun u3 =>
  m_X11_shape_j122 F_all_machine a_all_machine_cache_media a_all_machine_cache_stores a_all_machine_cache_held p1 p2 u3 a_planner_words u1.1 u1.2 u2)))
  else (
  some (1, 0, F_surveyed, a_planner_words, a_walk_row, a_walk_picture, a_walk_settled)))))
set_option maxHeartbeats 4000000 in
set_option maxRecDepth 100000 in
theorem c_X11_shape (l : Launch) (hlt : l.stackTraces = false) (D : va_G) (cI : ClassId) (h_t : Nat) (r_t : Nat → Nat) (r_all : Nat → Nat) (r_all_machine : Nat → Nat) (r_all_machine_cache : Nat → Nat) (r_planner : Nat → Nat) (r_walk : Nat → Nat) (r_surveyed : Nat → Nat) (F_t : Nat → Int32) (F_all : Nat → Int32) (F_all_machine : Nat → Int32) (F_planner : Nat → Int32) (F_surveyed : Nat → Int32) (kq : Option Nat) (a_all_machine_cache_media : Nat → Int32) (a_all_machine_cache_stores : Nat → Int32) (a_all_machine_cache_held : Nat → Int32) (a_planner_words : Nat → Int32) (a_walk_row : Nat → Int32) (a_walk_picture : Nat → Int32) (a_walk_settled : Nat → Int32) (p1 : Int32) (p2 : Int32) (Rr : Int32 × Int32 × (Nat → Int32) × (Nat → Int32) × (Nat → Int32) × (Nat → Int32) × (Nat → Int32)) (hf : m_X11_shape F_all_machine F_surveyed a_all_machine_cache_media a_all_machine_cache_stores a_all_machine_cache_held a_planner_words a_walk_row a_walk_picture a_walk_settled p1 p2 = some Rr) : CTx l yX11_shape (Cond.code yX11_shape cX11_shape 4 (some .int)) rm_X11_shape D cI [.ref h_t, .int p1, .int p2] (w_X11_shape h_t r_t r_all r_all_machine r_all_machine_cache r_planner r_walk r_surveyed F_t F_all F_all_machine F_planner F_surveyed kq cI a_all_machine_cache_media a_all_machine_cache_stores a_all_machine_cache_held a_planner_words a_walk_row a_walk_picture a_walk_settled) Rr.1 Rr.2.1 (fun (_ : Unit) => w_X11_shape h_t r_t r_all r_all_machine r_all_machine_cache r_planner r_walk r_surveyed F_t F_all F_all_machine F_planner Rr.2.2.1 kq cI a_all_machine_cache_media a_all_machine_cache_stores a_all_machine_cache_held Rr.2.2.2.1 Rr.2.2.2.2.1 Rr.2.2.2.2.2.1 Rr.2.2.2.2.2.2) 1 6 := by
  refine z_begin_x (ρ := Int32 × Int32 × (Nat → Int32) × (Nat → Int32) × (Nat → Int32) × (Nat → Int32) × (Nat → Int32)) (fun u (_ : Unit) => w_X11_shape h_t r_t r_all r_all_machine r_all_machine_cache r_planner r_walk r_surveyed F_t F_all F_all_machine F_planner u.2.2.1 kq cI a_all_machine_cache_media a_all_machine_cache_stores a_all_machine_cache_held u.2.2.2.1 u.2.2.2.2.1 u.2.2.2.2.2.1 u.2.2.2.2.2.2) (fun u => u.1) (fun u => u.2.1) 1 6 hlt (by decide +kernel) rfl (Nat.le_of_ble_eq_true rfl) (Nat.le_of_ble_eq_true rfl) (Nat.le_of_ble_eq_true rfl) (Nat.le_of_ble_eq_true rfl) (Nat.le_of_ble_eq_true rfl) (Nat.le_of_ble_eq_true rfl) (Nat.le_of_ble_eq_true rfl) ?_
  intro p e s m args below meth c ls Q A hx hb hml hts hcx hown hK hX hA hP hD hS hl hret hth1 hth1W hth2 hth2W
  have hl : lv_has ls 4 [(0, .ref h_t), (1, .int p1), (2, .int p2)] := hl
  have hf := (m_X11_shape.eq_1 _ _ _ _ _ _ _ _ _ _ _).symm.trans hf
  have L122 : ∀ (F_surveyed : Nat → Int32) (a_planner_words : Nat → Int32) (a_walk_row : Nat → Int32) (a_walk_picture : Nat → Int32) (a_walk_settled : Nat → Int32) (H : Heap) (locs : List Loc) (ls : Array Slot), m_X11_shape_j122 F_all_machine a_all_machine_cache_media a_all_machine_cache_stores a_all_machine_cache_held p1 p2 F_surveyed a_planner_words a_walk_row a_walk_picture a_walk_settled = some Rr → va_P D vwCl (w_X11_shape h_t r_t r_all r_all_machine r_all_machine_cache r_planner r_walk r_surveyed F_t F_all F_all_machine F_planner F_surveyed kq cI a_all_machine_cache_media a_all_machine_cache_stores a_all_machine_cache_held a_planner_words a_walk_row a_walk_picture a_walk_settled) H → va_D A (w_X11_shape h_t r_t r_all r_all_machine r_all_machine_cache r_planner r_walk r_surveyed F_t F_all F_all_machine F_planner F_surveyed kq cI a_all_machine_cache_media a_all_machine_cache_stores a_all_machine_cache_held a_planner_words a_walk_row a_walk_picture a_walk_settled) → va_S A s.heap H locs → lv_has ls 4 [(0, .ref h_t), (2, .int p2)] → W p l e rm_X11_shape s m args below meth c H locs 0 0 Q (F0 m 122 ls []) := by
    intro F_surveyed a_planner_words a_walk_row a_walk_picture a_walk_settled H locs ls hf hP hD hS hl
    have hf := (m_X11_shape_j122.eq_1 _ _ _ _ _ _ _ _ _ _ _).symm.trans hf
    refine lv_aload_n hx hb dX11_shape_122 rfl (lv_at hl 0 rfl) ?_
    refine z_get (ci := 11) (C := RX11) (T := TX11) (N := 13) (v := .ref (r_t 8)) hx hb hts inT_X11 hown hK hP 0 rfl rfl 8 (by decide) tf_X11_51 rfl dX11_shape_123 ?_
    refine lv_iload_n hx hb dX11_shape_126 rfl (lv_at hl 1 rfl) ?_
    obtain ⟨u4, hu4, hf⟩ := bd_some hf
    refine z_ci (ws1 := w_X11_shape h_t r_t r_all r_all_machine r_all_machine_cache r_planner r_walk r_surveyed F_t F_all F_all_machine F_planner F_surveyed kq cI a_all_machine_cache_media a_all_machine_cache_stores a_all_machine_cache_held a_planner_words a_walk_row a_walk_picture a_walk_settled) (wr := List.filterMap (fun i : Nat => (w_X11_shape h_t r_t r_all r_all_machine r_all_machine_cache r_planner r_walk r_surveyed F_t F_all F_all_machine F_planner F_surveyed kq cI a_all_machine_cache_media a_all_machine_cache_stores a_all_machine_cache_held a_planner_words a_walk_row a_walk_picture a_walk_settled)[i]?) [0, 1, 2, 3, 4, 5, 6, 7, 8, 9, 10, 11, 12]) (z_rV (rest := []) hx hb hml hown hcx hl.1 (c_X7_answer l D cI (r_t 8) r_surveyed F_surveyed p2 u4 hu4 _) tl_X11_225 ti_X7_answer tz_X7_answer tn_X7 tc_X7_answer tm_X7_answer rfl rfl ⟨Nat.le_of_ble_eq_true rfl, Nat.le_of_ble_eq_true rfl⟩ hK hX hS hA hP hD [13] rfl rfl 13 rfl rfl rfl rfl (Nat.le_of_ble_eq_true rfl) dX11_shape_127 ⟨Nat.zero_le _, Nat.zero_le _⟩) hP hD hS hA [13] [0, 1, 2, 3, 4, 5, 6, 7, 8, 9, 10, 11, 12] [0, 1, 2, 3, 4, 5, 6, 7, 8, 9, 10, 11, 12, 13] rfl rfl rfl (by decide) rfl rfl (fun H locs hP hD hS => ?_)
    exact hret (0, u4, F_surveyed, a_planner_words, a_walk_row, a_walk_picture, a_walk_settled) () _ _ _ _ _ _ (Nat.le_of_ble_eq_true rfl) (Nat.le_of_ble_eq_true rfl) rfl hf hP hD hS dX11_shape_130
  refine lv_iload_n hx hb dX11_shape_0 rfl (lv_at hl 1 rfl) ?_
  refine z_if_lt (tgt := 18) hx hb dX11_shape_1 (by decide) hf (fun hf => ?_) (fun hf => ?_)
  · exact hth1 (1, 0, F_surveyed, a_planner_words, a_walk_row, a_walk_picture, a_walk_settled) () _ _ _ _ 201 "no such shape" hl.1 (List.mem_of_getElem? (i := 6) rfl) rfl hf hP hD hS dX11_shape_18 dX11_shape_21 dX11_shape_22 dX11_shape_24 dX11_shape_27
  · refine lv_iload_n hx hb dX11_shape_4 rfl (lv_at hl 1 rfl) ?_
    refine lv_iconst (v := 2) hx hb dX11_shape_5 (by decide) ?_
    refine z_icmp_gt (tgt := 18) hx hb dX11_shape_6 (by decide) hf (fun hf => ?_) (fun hf => ?_)
    · exact hth1 (1, 0, F_surveyed, a_planner_words, a_walk_row, a_walk_picture, a_walk_settled) () _ _ _ _ 201 "no such shape" hl.1 (List.mem_of_getElem? (i := 6) rfl) rfl hf hP hD hS dX11_shape_18 dX11_shape_21 dX11_shape_22 dX11_shape_24 dX11_shape_27
    · refine lv_iload_n hx hb dX11_shape_9 rfl (lv_at hl 2 rfl) ?_
      refine z_if_lt (tgt := 18) hx hb dX11_shape_10 (by decide) hf (fun hf => ?_) (fun hf => ?_)
      · exact hth1 (1, 0, F_surveyed, a_planner_words, a_walk_row, a_walk_picture, a_walk_settled) () _ _ _ _ 201 "no such shape" hl.1 (List.mem_of_getElem? (i := 6) rfl) rfl hf hP hD hS dX11_shape_18 dX11_shape_21 dX11_shape_22 dX11_shape_24 dX11_shape_27
      · refine lv_iload_n hx hb dX11_shape_13 rfl (lv_at hl 2 rfl) ?_
        refine lv_iconst (v := 4) hx hb dX11_shape_14 (by decide) ?_
        refine z_icmp_le (tgt := 28) hx hb dX11_shape_15 (by decide) hf (fun hf => ?_) (fun hf => ?_)
        · refine lv_aload_n hx hb dX11_shape_28 rfl (lv_at hl 0 rfl) ?_
          refine z_get (ci := 11) (C := RX11) (T := TX11) (N := 13) (v := .ref (r_t 3)) hx hb hts inT_X11 hown hK hP 0 rfl rfl 3 (by decide) tf_X11_23 rfl dX11_shape_29 ?_
          refine z_get (ci := 0) (C := RX0) (T := TX0) (N := 5) (v := .ref (r_all 0)) hx hb hts inT_X0 hown hK hP 1 rfl rfl 0 (by decide) tf_X11_112 rfl dX11_shape_32 ?_
          refine lv_astore_n (lv' := [(3, .ref (r_all 0)), (0, .ref h_t), (1, .int p1), (2, .int p2)]) hx hb dX11_shape_35 rfl hl (by decide) rfl (fun ls hl => ?_)
          refine lv_iload_n hx hb dX11_shape_36 rfl (lv_at hl 2 rfl) ?_
          refine z_if_ne (tgt := 71) hx hb dX11_shape_37 (by decide) hf (fun hf => ?_) (fun hf => ?_)
          · refine lv_aload_n hx hb dX11_shape_71 rfl (lv_at hl 1 rfl) ?_
            refine z_get (ci := 11) (C := RX11) (T := TX11) (N := 13) (v := .ref (r_t 7)) hx hb hts inT_X11 hown hK hP 0 rfl rfl 7 (by decide) tf_X11_44 rfl dX11_shape_72 ?_
            refine lv_aload_n hx hb dX11_shape_75 rfl (lv_at hl 0 rfl) ?_
            refine z_get (ci := 4) (C := RX4) (T := TX4) (N := 12) (v := .ref (r_all_machine 0)) hx hb hts inT_X4 hown hK hP 2 rfl rfl 0 (by decide) tf_X11_131 rfl dX11_shape_76 ?_
            obtain ⟨u1, hu1, hf⟩ := bd_some hf
            refine z_cv (ws1 := w_X11_shape h_t r_t r_all r_all_machine r_all_machine_cache r_planner r_walk r_surveyed F_t F_all F_all_machine F_planner F_surveyed kq cI a_all_machine_cache_media a_all_machine_cache_stores a_all_machine_cache_held a_planner_words u1.1 u1.2 a_walk_settled) (wr := List.filterMap (fun i : Nat => (w_X11_shape h_t r_t r_all r_all_machine r_all_machine_cache r_planner r_walk r_surveyed F_t F_all F_all_machine F_planner F_surveyed kq cI a_all_machine_cache_media a_all_machine_cache_stores a_all_machine_cache_held a_planner_words a_walk_row a_walk_picture a_walk_settled)[i]?) [0, 1, 2, 5, 6, 7, 8, 12, 13]) (z_rV (rest := []) hx hb hml hown hcx hl.1 (c_X9_start l D cI (r_t 7) (r_all_machine 0) r_walk r_all_machine_cache a_walk_row a_walk_picture a_all_machine_cache_media u1 hu1 _) tl_X11_213 ti_X9_start tz_X9_start tn_X9 tc_X9_start tm_X9_start rfl rfl ⟨Nat.le_of_ble_eq_true rfl, Nat.le_of_ble_eq_true rfl⟩ hK hX hS hA hP hD [9, 10, 11, 3, 4] rfl rfl 9 rfl rfl rfl rfl (Nat.le_of_ble_eq_true rfl) dX11_shape_79 ⟨Nat.zero_le _, Nat.zero_le _⟩) hP hD hS hA [9, 10, 11, 3, 4] [0, 1, 2, 5, 6, 7, 8, 12, 13] [0, 1, 2, 12, 13, 3, 4, 5, 6, 9, 10, 11, 7, 8] rfl rfl rfl (by decide) rfl rfl (fun H locs hP hD hS => ?_)
            refine lv_aload_n hx hb dX11_shape_82 rfl (lv_at hl 1 rfl) ?_
            refine z_get (ci := 11) (C := RX11) (T := TX11) (N := 13) (v := .ref (r_t 7)) hx hb hts inT_X11 hown hK hP 0 rfl rfl 7 (by decide) tf_X11_44 rfl dX11_shape_83 ?_
            refine lv_aload_n hx hb dX11_shape_86 rfl (lv_at hl 0 rfl) ?_
            refine z_get (ci := 4) (C := RX4) (T := TX4) (N := 12) (v := .int (F_all_machine 9)) hx hb hts inT_X4 hown hK hP 2 rfl rfl 9 (by decide) tf_X11_118 rfl dX11_shape_87 ?_
            obtain ⟨u2, hu2, hf⟩ := bd_some hf
            refine z_cv (ws1 := w_X11_shape h_t r_t r_all r_all_machine r_all_machine_cache r_planner r_walk r_surveyed F_t F_all F_all_machine F_planner F_surveyed kq cI a_all_machine_cache_media a_all_machine_cache_stores a_all_machine_cache_held a_planner_words u1.1 u1.2 u2) (wr := List.filterMap (fun i : Nat => (w_X11_shape h_t r_t r_all r_all_machine r_all_machine_cache r_planner r_walk r_surveyed F_t F_all F_all_machine F_planner F_surveyed kq cI a_all_machine_cache_media a_all_machine_cache_stores a_all_machine_cache_held a_planner_words u1.1 u1.2 a_walk_settled)[i]?) [0, 1, 2, 3, 4, 5, 6, 7, 8, 10, 13]) (z_rV (rest := []) hx hb hml hown hcx hl.1 (c_X9_recoverPicture l D cI (r_t 7) r_walk u1.2 a_walk_settled (F_all_machine 9) u2 hu2 _) tl_X11_216 ti_X9_recoverPicture tz_X9_recoverPicture tn_X9 tc_X9_recoverPicture tm_X9_recoverPicture rfl rfl ⟨Nat.le_of_ble_eq_true rfl, Nat.le_of_ble_eq_true rfl⟩ hK hX hS hA hP hD [9, 11, 12] rfl rfl 9 rfl rfl rfl rfl (Nat.le_of_ble_eq_true rfl) dX11_shape_90 ⟨Nat.zero_le _, Nat.zero_le _⟩) hP hD hS hA [9, 11, 12] [0, 1, 2, 3, 4, 5, 6, 7, 8, 10, 13] [0, 1, 2, 3, 4, 5, 6, 7, 8, 11, 9, 12, 13, 10] rfl rfl rfl (by decide) rfl rfl (fun H locs hP hD hS => ?_)
            refine lv_aload_n hx hb dX11_shape_93 rfl (lv_at hl 1 rfl) ?_
            refine z_get (ci := 11) (C := RX11) (T := TX11) (N := 13) (v := .ref (r_t 8)) hx hb hts inT_X11 hown hK hP 0 rfl rfl 8 (by decide) tf_X11_51 rfl dX11_shape_94 ?_
            refine lv_iload_n hx hb dX11_shape_97 rfl (lv_at hl 2 rfl) ?_
            refine lv_iconst (v := 1) hx hb dX11_shape_98 (by decide) ?_
            refine z_icmp_ne (tgt := 112) hx hb dX11_shape_99 (by decide) hf (fun hf => ?_) (fun hf => ?_)
            · refine lv_aload_n hx hb dX11_shape_112 rfl (lv_at hl 1 rfl) ?_
              refine z_get (ci := 11) (C := RX11) (T := TX11) (N := 13) (v := .ref (r_t 7)) hx hb hts inT_X11 hown hK hP 0 rfl rfl 7 (by decide) tf_X11_44 rfl dX11_shape_113 ?_
              refine z_get (ci := 9) (C := RX9) (T := TX9) (N := 3) (v := .ref (r_walk 2)) hx hb hts inT_X9 hown hK hP 9 rfl rfl 2 (by decide) tf_X11_222 rfl dX11_shape_116 ?_
              obtain ⟨u3, hu3, hf⟩ := bd_some hf
              refine z_cv (ws1 := w_X11_shape h_t r_t r_all r_all_machine r_all_machine_cache r_planner r_walk r_surveyed F_t F_all F_all_machine F_planner u3 kq cI a_all_machine_cache_media a_all_machine_cache_stores a_all_machine_cache_held a_planner_words u1.1 u1.2 u2) (wr := List.filterMap (fun i : Nat => (w_X11_shape h_t r_t r_all r_all_machine r_all_machine_cache r_planner r_walk r_surveyed F_t F_all F_all_machine F_planner F_surveyed kq cI a_all_machine_cache_media a_all_machine_cache_stores a_all_machine_cache_held a_planner_words u1.1 u1.2 u2)[i]?) [0, 1, 2, 3, 4, 5, 6, 7, 8, 9, 10, 11]) (z_rV (rest := []) hx hb hml hown hcx hl.1 (c_X7_survey l D cI (r_t 8) (r_walk 2) r_surveyed F_surveyed 64 u2 u3 hu3 _) tl_X11_210 ti_X7_survey tz_X7_survey tn_X7 tc_X7_survey tm_X7_survey rfl rfl ⟨Nat.le_of_ble_eq_true rfl, Nat.le_of_ble_eq_true rfl⟩ hK hX hS hA hP hD [13, 12] rfl rfl 13 rfl rfl rfl rfl (Nat.le_of_ble_eq_true rfl) dX11_shape_119 ⟨Nat.zero_le _, Nat.zero_le _⟩) hP hD hS hA [13, 12] [0, 1, 2, 3, 4, 5, 6, 7, 8, 9, 10, 11] [0, 1, 2, 3, 4, 5, 6, 7, 8, 9, 10, 11, 13, 12] rfl rfl rfl (by decide) rfl rfl (fun H locs hP hD hS => ?_)
              exact L122 u3 a_planner_words u1.1 u1.2 u2 _ _ _ hf hP hD hS (lv_sub hl [1, 3] rfl)
            · refine lv_aload_n hx hb dX11_shape_102 rfl (lv_at hl 1 rfl) ?_
              refine z_get (ci := 11) (C := RX11) (T := TX11) (N := 13) (v := .ref (r_t 7)) hx hb hts inT_X11 hown hK hP 0 rfl rfl 7 (by decide) tf_X11_44 rfl dX11_shape_103 ?_
              refine z_get (ci := 9) (C := RX9) (T := TX9) (N := 3) (v := .ref (r_walk 1)) hx hb hts inT_X9 hown hK hP 9 rfl rfl 1 (by decide) tf_X11_219 rfl dX11_shape_106 ?_
              refine lv_goto (tgt := 119) hx hb dX11_shape_109 (by decide) ?_
              obtain ⟨u5, hu5, hf⟩ := bd_some hf
              refine z_cv (ws1 := w_X11_shape h_t r_t r_all r_all_machine r_all_machine_cache r_planner r_walk r_surveyed F_t F_all F_all_machine F_planner u5 kq cI a_all_machine_cache_media a_all_machine_cache_stores a_all_machine_cache_held a_planner_words u1.1 u1.2 u2) (wr := List.filterMap (fun i : Nat => (w_X11_shape h_t r_t r_all r_all_machine r_all_machine_cache r_planner r_walk r_surveyed F_t F_all F_all_machine F_planner F_surveyed kq cI a_all_machine_cache_media a_all_machine_cache_stores a_all_machine_cache_held a_planner_words u1.1 u1.2 u2)[i]?) [0, 1, 2, 3, 4, 5, 6, 7, 8, 9, 10, 12]) (z_rV (rest := []) hx hb hml hown hcx hl.1 (c_X7_survey l D cI (r_t 8) (r_walk 1) r_surveyed F_surveyed 64 u1.2 u5 hu5 _) tl_X11_210 ti_X7_survey tz_X7_survey tn_X7 tc_X7_survey tm_X7_survey rfl rfl ⟨Nat.le_of_ble_eq_true rfl, Nat.le_of_ble_eq_true rfl⟩ hK hX hS hA hP hD [13, 11] rfl rfl 13 rfl rfl rfl rfl (Nat.le_of_ble_eq_true rfl) dX11_shape_119 ⟨Nat.zero_le _, Nat.zero_le _⟩) hP hD hS hA [13, 11] [0, 1, 2, 3, 4, 5, 6, 7, 8, 9, 10, 12] [0, 1, 2, 3, 4, 5, 6, 7, 8, 9, 10, 13, 11, 12] rfl rfl rfl (by decide) rfl rfl (fun H locs hP hD hS => ?_)
              exact L122 u5 a_planner_words u1.1 u1.2 u2 _ _ _ hf hP hD hS (lv_sub hl [1, 3] rfl)
          · refine lv_aload_n hx hb dX11_shape_40 rfl (lv_at hl 0 rfl) ?_
            refine z_get (ci := 4) (C := RX4) (T := TX4) (N := 12) (v := .ref (r_all_machine 0)) hx hb hts inT_X4 hown hK hP 2 rfl rfl 0 (by decide) tf_X11_131 rfl dX11_shape_41 ?_
            refine lv_aload_n hx hb dX11_shape_44 rfl (lv_at hl 1 rfl) ?_
            refine z_get (ci := 11) (C := RX11) (T := TX11) (N := 13) (v := .ref (r_t 6)) hx hb hts inT_X11 hown hK hP 0 rfl rfl 6 (by decide) tf_X11_37 rfl dX11_shape_45 ?_
            refine z_get (ci := 5) (C := RX5) (T := TX5) (N := 7) (v := .ref (r_planner 0)) hx hb hts inT_X5 hown hK hP 7 rfl rfl 0 (by decide) tf_X11_203 rfl dX11_shape_48 ?_
            obtain ⟨u6, hu6, hf⟩ := bd_some hf
            refine z_cv (ws1 := w_X11_shape h_t r_t r_all r_all_machine r_all_machine_cache r_planner r_walk r_surveyed F_t F_all F_all_machine F_planner F_surveyed kq cI a_all_machine_cache_media a_all_machine_cache_stores a_all_machine_cache_held u6 a_walk_row a_walk_picture a_walk_settled) (wr := List.filterMap (fun i : Nat => (w_X11_shape h_t r_t r_all r_all_machine r_all_machine_cache r_planner r_walk r_surveyed F_t F_all F_all_machine F_planner F_surveyed kq cI a_all_machine_cache_media a_all_machine_cache_stores a_all_machine_cache_held a_planner_words a_walk_row a_walk_picture a_walk_settled)[i]?) [0, 1, 2, 7, 9, 10, 11, 12, 13]) (z_rV (rest := []) hx hb hml hown hcx hl.1 (c_X1_fillWords l D cI (r_all_machine 0) (r_planner 0) r_all_machine_cache 64 a_all_machine_cache_media a_all_machine_cache_stores a_all_machine_cache_held a_planner_words u6 hu6 _) tl_X11_206 ti_X1_fillWords tz_X1_fillWords tn_X1 tc_X1_fillWords tm_X1_fillWords rfl rfl ⟨Nat.le_of_ble_eq_true rfl, Nat.le_of_ble_eq_true rfl⟩ hK hX hS hA hP hD [3, 4, 5, 6, 8] rfl rfl 3 rfl rfl rfl rfl (Nat.le_of_ble_eq_true rfl) dX11_shape_51 ⟨Nat.zero_le _, Nat.zero_le _⟩) hP hD hS hA [3, 4, 5, 6, 8] [0, 1, 2, 7, 9, 10, 11, 12, 13] [0, 1, 2, 9, 10, 11, 12, 3, 13, 4, 5, 6, 7, 8] rfl rfl rfl (by decide) rfl rfl (fun H locs hP hD hS => ?_)
            refine lv_aload_n hx hb dX11_shape_54 rfl (lv_at hl 1 rfl) ?_
            refine z_get (ci := 11) (C := RX11) (T := TX11) (N := 13) (v := .ref (r_t 8)) hx hb hts inT_X11 hown hK hP 0 rfl rfl 8 (by decide) tf_X11_51 rfl dX11_shape_55 ?_
            refine lv_aload_n hx hb dX11_shape_58 rfl (lv_at hl 1 rfl) ?_
            refine z_get (ci := 11) (C := RX11) (T := TX11) (N := 13) (v := .ref (r_t 6)) hx hb hts inT_X11 hown hK hP 0 rfl rfl 6 (by decide) tf_X11_37 rfl dX11_shape_59 ?_
            refine z_get (ci := 5) (C := RX5) (T := TX5) (N := 7) (v := .ref (r_planner 0)) hx hb hts inT_X5 hown hK hP 7 rfl rfl 0 (by decide) tf_X11_203 rfl dX11_shape_62 ?_
            obtain ⟨u7, hu7, hf⟩ := bd_some hf
            refine z_cv (ws1 := w_X11_shape h_t r_t r_all r_all_machine r_all_machine_cache r_planner r_walk r_surveyed F_t F_all F_all_machine F_planner u7 kq cI a_all_machine_cache_media a_all_machine_cache_stores a_all_machine_cache_held u6 a_walk_row a_walk_picture a_walk_settled) (wr := List.filterMap (fun i : Nat => (w_X11_shape h_t r_t r_all r_all_machine r_all_machine_cache r_planner r_walk r_surveyed F_t F_all F_all_machine F_planner F_surveyed kq cI a_all_machine_cache_media a_all_machine_cache_stores a_all_machine_cache_held u6 a_walk_row a_walk_picture a_walk_settled)[i]?) [0, 1, 2, 3, 4, 5, 6, 7, 9, 10, 11, 12]) (z_rV (rest := []) hx hb hml hown hcx hl.1 (c_X7_survey l D cI (r_t 8) (r_planner 0) r_surveyed F_surveyed 64 u6 u7 hu7 _) tl_X11_210 ti_X7_survey tz_X7_survey tn_X7 tc_X7_survey tm_X7_survey rfl rfl ⟨Nat.le_of_ble_eq_true rfl, Nat.le_of_ble_eq_true rfl⟩ hK hX hS hA hP hD [13, 8] rfl rfl 13 rfl rfl rfl rfl (Nat.le_of_ble_eq_true rfl) dX11_shape_65 ⟨Nat.zero_le _, Nat.zero_le _⟩) hP hD hS hA [13, 8] [0, 1, 2, 3, 4, 5, 6, 7, 9, 10, 11, 12] [0, 1, 2, 3, 4, 5, 6, 7, 13, 8, 9, 10, 11, 12] rfl rfl rfl (by decide) rfl rfl (fun H locs hP hD hS => ?_)
            refine lv_goto (tgt := 122) hx hb dX11_shape_68 (by decide) ?_
            exact L122 u7 u6 a_walk_row a_walk_picture a_walk_settled _ _ _ hf hP hD hS (lv_sub hl [1, 3] rfl)
        · exact hth1 (1, 0, F_surveyed, a_planner_words, a_walk_row, a_walk_picture, a_walk_settled) () _ _ _ _ 201 "no such shape" hl.1 (List.mem_of_getElem? (i := 6) rfl) rfl hf hP hD hS dX11_shape_18 dX11_shape_21 dX11_shape_22 dX11_shape_24 dX11_shape_27
abbrev s_X11_evict (D : va_G) (h_t : Nat) (r_t : Nat → Nat) (r_all : Nat → Nat) (r_all_machine : Nat → Nat) (r_all_machine_cache : Nat → Nat) (r_all_history : Nat → Nat) (F_t : Nat → Int32) (F_all : Nat → Int32) (F_all_machine : Nat → Int32) (F_all_history : Nat → Int32) (kq : Option Nat) (cI : ClassId) (a_all_machine_cache_media : Nat → Int32) (a_all_machine_cache_stores : Nat → Int32) (a_all_machine_cache_held : Nat → Int32) (a_all_machine_cache_asked : Nat → Int32) (a_all_machine_micros : Nat → Int32) (a_all_machine_before : Nat → Int32) (a_all_machine_after : Nat → Int32) (a_all_machine_waiting : Nat → Int32) (a_all_machine_tallies : Nat → Int32) (a_all_refused : Nat → Int32) (ad : Nat → MAd) (hs : Nat → Option MSt) : va_W := [(h_t, .inr (11, o_X11 r_t F_t kq)), ((r_t 3), .inr (0, o_X0 r_all F_all)), ((r_all 0), .inr (4, o_X4 r_all_machine F_all_machine)), ((r_all_machine 0), .inr (1, o_X1 r_all_machine_cache)), ((r_all_machine_cache 0), .inl (cI, 64, .inl a_all_machine_cache_media)), ((r_all_machine_cache 1), .inl (cI, 96, .inl a_all_machine_cache_stores)), ((r_all_machine_cache 2), .inl (cI, 16, .inl a_all_machine_cache_held)), ((r_all_machine_cache 3), .inl (cI, 16, .inl a_all_machine_cache_asked)), ((r_all_machine 1), .inl (cI, 80, .inl a_all_machine_micros)), ((r_all_machine 4), .inl (cI, 44, .inl a_all_machine_before)), ((r_all_machine 5), .inl (cI, 44, .inl a_all_machine_after)), ((r_all_machine 6), .inl (cI, 48, .inl a_all_machine_waiting)), ((r_all_machine 11), .inl (cI, 8, .inl a_all_machine_tallies)), ((r_all 1), .inr (3, o_X3 r_all_history F_all_history)), ((r_all_history 0), .inl (D.1 100, 40, .inr (.inr (.inr (.inr (hsf ad hs)))))), ((r_all 4), .inl (cI, 3, .inl a_all_refused))]
abbrev w_X11_evict (D : va_G) (h_t : Nat) (r_t : Nat → Nat) (r_all : Nat → Nat) (r_all_machine : Nat → Nat) (r_all_machine_cache : Nat → Nat) (r_all_history : Nat → Nat) (F_t : Nat → Int32) (F_all : Nat → Int32) (F_all_machine : Nat → Int32) (F_all_history : Nat → Int32) (kq : Option Nat) (cI : ClassId) (a_all_machine_cache_media : Nat → Int32) (a_all_machine_cache_stores : Nat → Int32) (a_all_machine_cache_held : Nat → Int32) (a_all_machine_cache_asked : Nat → Int32) (a_all_machine_micros : Nat → Int32) (a_all_machine_before : Nat → Int32) (a_all_machine_after : Nat → Int32) (a_all_machine_waiting : Nat → Int32) (a_all_machine_tallies : Nat → Int32) (a_all_refused : Nat → Int32) (ad : Nat → MAd) (hs : Nat → Option MSt) : va_W := s_X11_evict D h_t r_t r_all r_all_machine r_all_machine_cache r_all_history F_t F_all F_all_machine F_all_history kq cI a_all_machine_cache_media a_all_machine_cache_stores a_all_machine_cache_held a_all_machine_cache_asked a_all_machine_micros a_all_machine_before a_all_machine_after a_all_machine_waiting a_all_machine_tallies a_all_refused ad hs ++ hw cI ad hs
abbrev rm_X11_evict : Room := { frames := 6, cells := 11, slots := 432, locals := 122 }
def m_X11_evict_j43 (F_all_machine : Nat → Int32) (a_all_machine_micros : Nat → Int32) (a_all_machine_before : Nat → Int32) (a_all_machine_after : Nat → Int32) (a_all_machine_waiting : Nat → Int32) (a_all_machine_tallies : Nat → Int32) (p1 : Int32) (p2 : Int32) (F_all_history : Nat → Int32) (a_all_machine_cache_media : Nat → Int32) (a_all_machine_cache_stores : Nat → Int32) (a_all_machine_cache_held : Nat → Int32) (a_all_machine_cache_asked : Nat → Int32) (a_all_refused : Nat → Int32) (hs : Nat → Option MSt) : Option (Int32 × Int32 × (Nat → Int32) × (Nat → Int32) × (Nat → Int32) × (Nat → Int32) × (Nat → Int32) × (Nat → Int32) × (Nat → Option MSt)) :=
  bd (m_X11_refuseAct a_all_refused) fun u2 =>
  some (0, u2.1, F_all_history, a_all_machine_cache_media, a_all_machine_cache_stores, a_all_machine_cache_held, a_all_machine_cache_asked, u2.2, hs)
def m_X11_evict (F_all_machine : Nat → Int32) (F_all_history : Nat → Int32) (a_all_machine_cache_media : Nat → Int32) (a_all_machine_cache_stores : Nat → Int32) (a_all_machine_cache_held : Nat → Int32) (a_all_machine_cache_asked : Nat → Int32) (a_all_machine_micros : Nat → Int32) (a_all_machine_before : Nat → Int32) (a_all_machine_after : Nat → Int32) (a_all_machine_waiting : Nat → Int32) (a_all_machine_tallies : Nat → Int32) (a_all_refused : Nat → Int32) (hs : Nat → Option MSt) (p1 : Int32) (p2 : Int32) : Option (Int32 × Int32 × (Nat → Int32) × (Nat → Int32) × (Nat → Int32) × (Nat → Int32) × (Nat → Int32) × (Nat → Int32) × (Nat → Option MSt)) :=
  bd (m_X11_isLine p1) fun u1 =>
  if u1 = 0 then (
  some (1, 0, F_all_history, a_all_machine_cache_media, a_all_machine_cache_stores, a_all_machine_cache_held, a_all_machine_cache_asked, a_all_refused, hs))
  else (
  if p2 < 1 then (
  m_X11_evict_j43 F_all_machine a_all_machine_micros a_all_machine_before a_all_machine_after a_all_machine_waiting a_all_machine_tallies p1 p2 F_all_history a_all_machine_cache_media a_all_machine_cache_stores a_all_machine_cache_held a_all_machine_cache_asked a_all_refused hs)
  else (
  rd a_all_machine_cache_held 16 p1 fun y3 =>
  if p2 ≤ y3 then (
  bd (m_keep F_all_history hs (F_all_machine, a_all_machine_cache_media, a_all_machine_cache_stores, a_all_machine_cache_held, a_all_machine_cache_asked, a_all_machine_micros, a_all_machine_before, a_all_machine_after, a_all_machine_waiting, a_all_machine_tallies)) fun u4 =>
  bd (m_X1_reach a_all_machine_cache_media a_all_machine_cache_stores a_all_machine_cache_held a_all_machine_cache_asked p1 p2) fun u5 =>
  rd u5.2.2.1 16 p1 fun y6 =>
  some (0, y6, u4.1, u5.1, u5.2.1, u5.2.2.1, u5.2.2.2, a_all_refused, u4.2))
  else (
  m_X11_evict_j43 F_all_machine a_all_machine_micros a_all_machine_before a_all_machine_after a_all_machine_waiting a_all_machine_tallies p1 p2 F_all_history a_all_machine_cache_media a_all_machine_cache_stores a_all_machine_cache_held a_all_machine_cache_asked a_all_refused hs)))
set_option maxHeartbeats 4000000 in
set_option maxRecDepth 100000 in
theorem c_X11_evict (l : Launch) (hlt : l.stackTraces = false) (D : va_G) (cI : ClassId) (h_t : Nat) (r_t : Nat → Nat) (r_all : Nat → Nat) (r_all_machine : Nat → Nat) (r_all_machine_cache : Nat → Nat) (r_all_history : Nat → Nat) (F_t : Nat → Int32) (F_all : Nat → Int32) (F_all_machine : Nat → Int32) (F_all_history : Nat → Int32) (kq : Option Nat) (a_all_machine_cache_media : Nat → Int32) (a_all_machine_cache_stores : Nat → Int32) (a_all_machine_cache_held : Nat → Int32) (a_all_machine_cache_asked : Nat → Int32) (a_all_machine_micros : Nat → Int32) (a_all_machine_before : Nat → Int32) (a_all_machine_after : Nat → Int32) (a_all_machine_waiting : Nat → Int32) (a_all_machine_tallies : Nat → Int32) (a_all_refused : Nat → Int32) (ad : Nat → MAd) (hs : Nat → Option MSt) (p1 : Int32) (p2 : Int32) (Rr : Int32 × Int32 × (Nat → Int32) × (Nat → Int32) × (Nat → Int32) × (Nat → Int32) × (Nat → Int32) × (Nat → Int32) × (Nat → Option MSt)) (hf : m_X11_evict F_all_machine F_all_history a_all_machine_cache_media a_all_machine_cache_stores a_all_machine_cache_held a_all_machine_cache_asked a_all_machine_micros a_all_machine_before a_all_machine_after a_all_machine_waiting a_all_machine_tallies a_all_refused hs p1 p2 = some Rr) : CTx l yX11_evict (Cond.code yX11_evict cX11_evict 4 (some .int)) rm_X11_evict D cI [.ref h_t, .int p1, .int p2] (w_X11_evict D h_t r_t r_all r_all_machine r_all_machine_cache r_all_history F_t F_all F_all_machine F_all_history kq cI a_all_machine_cache_media a_all_machine_cache_stores a_all_machine_cache_held a_all_machine_cache_asked a_all_machine_micros a_all_machine_before a_all_machine_after a_all_machine_waiting a_all_machine_tallies a_all_refused ad hs) Rr.1 Rr.2.1 (fun (ad : Nat → MAd) => w_X11_evict D h_t r_t r_all r_all_machine r_all_machine_cache r_all_history F_t F_all F_all_machine Rr.2.2.1 kq cI Rr.2.2.2.1 Rr.2.2.2.2.1 Rr.2.2.2.2.2.1 Rr.2.2.2.2.2.2.1 a_all_machine_micros a_all_machine_before a_all_machine_after a_all_machine_waiting a_all_machine_tallies Rr.2.2.2.2.2.2.2.1 ad Rr.2.2.2.2.2.2.2.2) 11 432 := by
  refine z_begin_x (ρ := Int32 × Int32 × (Nat → Int32) × (Nat → Int32) × (Nat → Int32) × (Nat → Int32) × (Nat → Int32) × (Nat → Int32) × (Nat → Option MSt)) (fun u (ad : Nat → MAd) => w_X11_evict D h_t r_t r_all r_all_machine r_all_machine_cache r_all_history F_t F_all F_all_machine u.2.2.1 kq cI u.2.2.2.1 u.2.2.2.2.1 u.2.2.2.2.2.1 u.2.2.2.2.2.2.1 a_all_machine_micros a_all_machine_before a_all_machine_after a_all_machine_waiting a_all_machine_tallies u.2.2.2.2.2.2.2.1 ad u.2.2.2.2.2.2.2.2) (fun u => u.1) (fun u => u.2.1) 11 432 hlt (by decide +kernel) rfl (Nat.le_of_ble_eq_true rfl) (Nat.le_of_ble_eq_true rfl) (Nat.le_of_ble_eq_true rfl) (Nat.le_of_ble_eq_true rfl) (Nat.le_of_ble_eq_true rfl) (Nat.le_of_ble_eq_true rfl) (Nat.le_of_ble_eq_true rfl) ?_
  intro p e s m args below meth c ls Q A hx hb hml hts hcx hown hK hX hA hP hD hS hl hret hth1 hth1W hth2 hth2W
  have hl : lv_has ls 4 [(0, .ref h_t), (1, .int p1), (2, .int p2)] := hl
  have hf := (m_X11_evict.eq_1 _ _ _ _ _ _ _ _ _ _ _ _ _ _ _).symm.trans hf
  have L43 : ∀ (F_all_history : Nat → Int32) (a_all_machine_cache_media : Nat → Int32) (a_all_machine_cache_stores : Nat → Int32) (a_all_machine_cache_held : Nat → Int32) (a_all_machine_cache_asked : Nat → Int32) (a_all_refused : Nat → Int32) (hs : Nat → Option MSt) (ad : Nat → MAd) (H : Heap) (locs : List Loc) (ls : Array Slot), m_X11_evict_j43 F_all_machine a_all_machine_micros a_all_machine_before a_all_machine_after a_all_machine_waiting a_all_machine_tallies p1 p2 F_all_history a_all_machine_cache_media a_all_machine_cache_stores a_all_machine_cache_held a_all_machine_cache_asked a_all_refused hs = some Rr → va_P D vwCl (w_X11_evict D h_t r_t r_all r_all_machine r_all_machine_cache r_all_history F_t F_all F_all_machine F_all_history kq cI a_all_machine_cache_media a_all_machine_cache_stores a_all_machine_cache_held a_all_machine_cache_asked a_all_machine_micros a_all_machine_before a_all_machine_after a_all_machine_waiting a_all_machine_tallies a_all_refused ad hs) H → va_D A (w_X11_evict D h_t r_t r_all r_all_machine r_all_machine_cache r_all_history F_t F_all F_all_machine F_all_history kq cI a_all_machine_cache_media a_all_machine_cache_stores a_all_machine_cache_held a_all_machine_cache_asked a_all_machine_micros a_all_machine_before a_all_machine_after a_all_machine_waiting a_all_machine_tallies a_all_refused ad hs) → va_S A s.heap H locs → lv_has ls 4 [(0, .ref h_t)] → W p l e rm_X11_evict s m args below meth c H locs 0 0 Q (F0 m 43 ls []) := by
    intro F_all_history a_all_machine_cache_media a_all_machine_cache_stores a_all_machine_cache_held a_all_machine_cache_asked a_all_refused hs ad H locs ls hf hP hD hS hl
    have hf := (m_X11_evict_j43.eq_1 _ _ _ _ _ _ _ _ _ _ _ _ _ _ _).symm.trans hf
    refine lv_aload_n hx hb dX11_evict_43 rfl (lv_at hl 0 rfl) ?_
    obtain ⟨u2, hu2, hf⟩ := bd_some hf
    refine z_ciF (ws1 := w_X11_evict D h_t r_t r_all r_all_machine r_all_machine_cache r_all_history F_t F_all F_all_machine F_all_history kq cI a_all_machine_cache_media a_all_machine_cache_stores a_all_machine_cache_held a_all_machine_cache_asked a_all_machine_micros a_all_machine_before a_all_machine_after a_all_machine_waiting a_all_machine_tallies u2.2 ad hs) (fr := List.filterMap (fun i : Nat => (s_X11_evict D h_t r_t r_all r_all_machine r_all_machine_cache r_all_history F_t F_all F_all_machine F_all_history kq cI a_all_machine_cache_media a_all_machine_cache_stores a_all_machine_cache_held a_all_machine_cache_asked a_all_machine_micros a_all_machine_before a_all_machine_after a_all_machine_waiting a_all_machine_tallies a_all_refused ad hs)[i]?) [2, 3, 4, 5, 6, 7, 8, 9, 10, 11, 12, 13, 14] ++ hw cI ad hs) (z_rV (rest := []) hx hb hml hown hcx hl.1 (c_X11_refuseAct l D cI h_t r_t r_all F_t F_all kq a_all_refused u2 hu2 _) tl_X11_232 ti_X11_refuseAct tz_X11_refuseAct tn_X11 tc_X11_refuseAct tm_X11_refuseAct rfl rfl ⟨Nat.le_of_ble_eq_true rfl, Nat.le_of_ble_eq_true rfl⟩ hK hX hS hA hP hD [0, 1, 15] rfl rfl 0 rfl rfl rfl rfl (Nat.le_of_ble_eq_true rfl) dX11_evict_44 ⟨Nat.le_of_ble_eq_true rfl, Nat.le_of_ble_eq_true rfl⟩) hP hD hS hA (perm_idxT [0, 1, 15, 2, 3, 4, 5, 6, 7, 8, 9, 10, 11, 12, 13, 14] 16 rfl (by decide) rfl) (perm_idxT [0, 1, 15, 2, 3, 4, 5, 6, 7, 8, 9, 10, 11, 12, 13, 14] 16 rfl (by decide) rfl) (fun H locs hP hD hS => ?_)
    exact hret (0, u2.1, F_all_history, a_all_machine_cache_media, a_all_machine_cache_stores, a_all_machine_cache_held, a_all_machine_cache_asked, u2.2, hs) ad _ _ _ _ _ _ (Nat.le_of_ble_eq_true rfl) (Nat.le_of_ble_eq_true rfl) rfl hf hP hD hS dX11_evict_47
  refine lv_iload_n hx hb dX11_evict_0 rfl (lv_at hl 1 rfl) ?_
  obtain ⟨u1, hu1, hf⟩ := bd_some hf
  refine z_ciF (ws1 := w_X11_evict D h_t r_t r_all r_all_machine r_all_machine_cache r_all_history F_t F_all F_all_machine F_all_history kq cI a_all_machine_cache_media a_all_machine_cache_stores a_all_machine_cache_held a_all_machine_cache_asked a_all_machine_micros a_all_machine_before a_all_machine_after a_all_machine_waiting a_all_machine_tallies a_all_refused ad hs) (fr := List.filterMap (fun i : Nat => (s_X11_evict D h_t r_t r_all r_all_machine r_all_machine_cache r_all_history F_t F_all F_all_machine F_all_history kq cI a_all_machine_cache_media a_all_machine_cache_stores a_all_machine_cache_held a_all_machine_cache_asked a_all_machine_micros a_all_machine_before a_all_machine_after a_all_machine_waiting a_all_machine_tallies a_all_refused ad hs)[i]?) [0, 1, 2, 3, 4, 5, 6, 7, 8, 9, 10, 11, 12, 13, 14, 15] ++ hw cI ad hs) (z_rS (rest := []) hx hb hml hown hcx hl.1 (c_X11_isLine l D cI p1 u1 hu1 _) tl_X11_173 ts_X11_isLine tn_X11 tc_X11_isLine tm_X11_isLine rfl rfl ⟨Nat.le_of_ble_eq_true rfl, Nat.le_of_ble_eq_true rfl⟩ hK hX hS hA hP hD [] rfl rfl rfl rfl (Nat.le_of_ble_eq_true rfl) dX11_evict_1 ⟨Nat.le_of_ble_eq_true rfl, Nat.le_of_ble_eq_true rfl⟩) hP hD hS hA (perm_idxT [0, 1, 2, 3, 4, 5, 6, 7, 8, 9, 10, 11, 12, 13, 14, 15] 16 rfl (by decide) rfl) (perm_idxT [0, 1, 2, 3, 4, 5, 6, 7, 8, 9, 10, 11, 12, 13, 14, 15] 16 rfl (by decide) rfl) (fun H locs hP hD hS => ?_)
  refine z_if_ne (tgt := 17) hx hb dX11_evict_4 (by decide) hf (fun hf => ?_) (fun hf => ?_)
  · refine lv_aload_n hx hb dX11_evict_17 rfl (lv_at hl 0 rfl) ?_
    refine z_get (ci := 11) (C := RX11) (T := TX11) (N := 13) (v := .ref (r_t 3)) hx hb hts inT_X11 hown hK hP 0 rfl rfl 3 (by decide) tf_X11_23 rfl dX11_evict_18 ?_
    refine z_get (ci := 0) (C := RX0) (T := TX0) (N := 5) (v := .ref (r_all 0)) hx hb hts inT_X0 hown hK hP 1 rfl rfl 0 (by decide) tf_X11_112 rfl dX11_evict_21 ?_
    refine lv_astore_n (lv' := [(3, .ref (r_all 0)), (0, .ref h_t), (1, .int p1), (2, .int p2)]) hx hb dX11_evict_24 rfl hl (by decide) rfl (fun ls hl => ?_)
    refine lv_iload_n hx hb dX11_evict_25 rfl (lv_at hl 3 rfl) ?_
    refine lv_iconst (v := 1) hx hb dX11_evict_26 (by decide) ?_
    refine z_icmp_lt (tgt := 43) hx hb dX11_evict_27 (by decide) hf (fun hf => ?_) (fun hf => ?_)
    · exact L43 F_all_history a_all_machine_cache_media a_all_machine_cache_stores a_all_machine_cache_held a_all_machine_cache_asked a_all_refused hs _ _ _ _ hf hP hD hS (lv_sub hl [1] rfl)
    · refine lv_iload_n hx hb dX11_evict_30 rfl (lv_at hl 3 rfl) ?_
      refine lv_aload_n hx hb dX11_evict_31 rfl (lv_at hl 0 rfl) ?_
      refine z_get (ci := 4) (C := RX4) (T := TX4) (N := 12) (v := .ref (r_all_machine 0)) hx hb hts inT_X4 hown hK hP 2 rfl rfl 0 (by decide) tf_X11_131 rfl dX11_evict_32 ?_
      refine z_get (ci := 1) (C := RX1) (T := TX1) (N := 4) (v := .ref (r_all_machine_cache 2)) hx hb hts inT_X1 hown hK hP 3 rfl rfl 2 (by decide) tf_X11_178 rfl dX11_evict_35 ?_
      refine lv_iload_n hx hb dX11_evict_38 rfl (lv_at hl 2 rfl) ?_
      refine z_iald hx hb hK hP 6 rfl dX11_evict_39 hf (fun y3 hf => ?_)
      refine z_icmp_le (tgt := 48) hx hb dX11_evict_40 (by decide) hf (fun hf => ?_) (fun hf => ?_)
      · refine lv_aload_n hx hb dX11_evict_48 rfl (lv_at hl 1 rfl) ?_
        refine z_get (ci := 11) (C := RX11) (T := TX11) (N := 13) (v := .ref (r_t 3)) hx hb hts inT_X11 hown hK hP 0 rfl rfl 3 (by decide) tf_X11_23 rfl dX11_evict_49 ?_
        refine z_get (ci := 0) (C := RX0) (T := TX0) (N := 5) (v := .ref (r_all 1)) hx hb hts inT_X0 hown hK hP 1 rfl rfl 1 (by decide) tf_X11_140 rfl dX11_evict_52 ?_
        refine lv_aload_n hx hb dX11_evict_55 rfl (lv_at hl 0 rfl) ?_
        obtain ⟨u4, hu4, hf⟩ := bd_some hf
        refine z_cnF (ws1 := fun ad => w_X11_evict D h_t r_t r_all r_all_machine r_all_machine_cache r_all_history F_t F_all F_all_machine u4.1 kq cI a_all_machine_cache_media a_all_machine_cache_stores a_all_machine_cache_held a_all_machine_cache_asked a_all_machine_micros a_all_machine_before a_all_machine_after a_all_machine_waiting a_all_machine_tallies a_all_refused ad u4.2) (fr := List.filterMap (fun i : Nat => (s_X11_evict D h_t r_t r_all r_all_machine r_all_machine_cache r_all_history F_t F_all F_all_machine F_all_history kq cI a_all_machine_cache_media a_all_machine_cache_stores a_all_machine_cache_held a_all_machine_cache_asked a_all_machine_micros a_all_machine_before a_all_machine_after a_all_machine_waiting a_all_machine_tallies a_all_refused ad hs)[i]?) [0, 1, 15]) (z_rVF (rest := []) (fr := List.filterMap (fun i : Nat => (s_X11_evict D h_t r_t r_all r_all_machine r_all_machine_cache r_all_history F_t F_all F_all_machine F_all_history kq cI a_all_machine_cache_media a_all_machine_cache_stores a_all_machine_cache_held a_all_machine_cache_asked a_all_machine_micros a_all_machine_before a_all_machine_after a_all_machine_waiting a_all_machine_tallies a_all_refused ad hs)[i]?) [0, 1, 15]) hx hb hml hown hcx hl.1 (c_keep l D cI (r_all 1) r_all_history ((r_all 0), r_all_machine, r_all_machine_cache) (F_all_machine, a_all_machine_cache_media, a_all_machine_cache_stores, a_all_machine_cache_held, a_all_machine_cache_asked, a_all_machine_micros, a_all_machine_before, a_all_machine_after, a_all_machine_waiting, a_all_machine_tallies) F_all_history ad hs u4 hu4 _) tl_X11_235 ti_X3_keep tz_X3_keep tn_X3 tc_X3_keep tm_X3_keep rfl rfl ⟨Nat.le_of_ble_eq_true rfl, Nat.le_of_ble_eq_true rfl⟩ hK hX hS hA hP hD (perm_idxK [13, 14, 2, 3, 4, 5, 6, 7, 8, 9, 10, 11, 12, 0, 1, 15] 16 rfl (by decide) rfl) (List.mem_cons_self) rfl rfl rfl (Nat.le_of_ble_eq_true rfl) dX11_evict_56 ⟨Nat.le_of_ble_eq_true rfl, Nat.le_of_ble_eq_true rfl⟩) hP hD hS hA (perm_idxK [13, 14, 2, 3, 4, 5, 6, 7, 8, 9, 10, 11, 12, 0, 1, 15] 16 rfl (by decide) rfl) (fun _ => perm_idxK [13, 14, 2, 3, 4, 5, 6, 7, 8, 9, 10, 11, 12, 0, 1, 15] 16 rfl (by decide) rfl) (fun ad H locs hP hD hS => ?_)
        refine lv_aload_n hx hb dX11_evict_59 rfl (lv_at hl 0 rfl) ?_
        refine z_get (ci := 4) (C := RX4) (T := TX4) (N := 12) (v := .ref (r_all_machine 0)) hx hb hts inT_X4 hown hK hP 2 rfl rfl 0 (by decide) tf_X11_131 rfl dX11_evict_60 ?_
        refine lv_iload_n hx hb dX11_evict_63 rfl (lv_at hl 2 rfl) ?_
        refine lv_iload_n hx hb dX11_evict_64 rfl (lv_at hl 3 rfl) ?_
        obtain ⟨u5, hu5, hf⟩ := bd_some hf
        refine z_cvF (ws1 := w_X11_evict D h_t r_t r_all r_all_machine r_all_machine_cache r_all_history F_t F_all F_all_machine u4.1 kq cI u5.1 u5.2.1 u5.2.2.1 u5.2.2.2 a_all_machine_micros a_all_machine_before a_all_machine_after a_all_machine_waiting a_all_machine_tallies a_all_refused ad u4.2) (fr := List.filterMap (fun i : Nat => (s_X11_evict D h_t r_t r_all r_all_machine r_all_machine_cache r_all_history F_t F_all F_all_machine u4.1 kq cI a_all_machine_cache_media a_all_machine_cache_stores a_all_machine_cache_held a_all_machine_cache_asked a_all_machine_micros a_all_machine_before a_all_machine_after a_all_machine_waiting a_all_machine_tallies a_all_refused ad u4.2)[i]?) [0, 1, 2, 8, 9, 10, 11, 12, 13, 14, 15] ++ hw cI ad u4.2) (z_rV (rest := []) hx hb hml hown hcx hl.1 (c_X1_reach l D cI (r_all_machine 0) r_all_machine_cache a_all_machine_cache_media a_all_machine_cache_stores a_all_machine_cache_held a_all_machine_cache_asked p1 p2 u5 hu5 _) tl_X11_241 ti_X1_reach tz_X1_reach tn_X1 tc_X1_reach tm_X1_reach rfl rfl ⟨Nat.le_of_ble_eq_true rfl, Nat.le_of_ble_eq_true rfl⟩ hK hX hS hA hP hD [3, 4, 5, 6, 7] rfl rfl 3 rfl rfl rfl rfl (Nat.le_of_ble_eq_true rfl) dX11_evict_65 ⟨Nat.le_of_ble_eq_true rfl, Nat.le_of_ble_eq_true rfl⟩) hP hD hS hA (perm_idxT [3, 4, 5, 6, 7, 0, 1, 2, 8, 9, 10, 11, 12, 13, 14, 15] 16 rfl (by decide) rfl) (perm_idxT [3, 4, 5, 6, 7, 0, 1, 2, 8, 9, 10, 11, 12, 13, 14, 15] 16 rfl (by decide) rfl) (fun H locs hP hD hS => ?_)
        refine lv_aload_n hx hb dX11_evict_68 rfl (lv_at hl 0 rfl) ?_
        refine z_get (ci := 4) (C := RX4) (T := TX4) (N := 12) (v := .ref (r_all_machine 0)) hx hb hts inT_X4 hown hK hP 2 rfl rfl 0 (by decide) tf_X11_131 rfl dX11_evict_69 ?_
        refine z_get (ci := 1) (C := RX1) (T := TX1) (N := 4) (v := .ref (r_all_machine_cache 2)) hx hb hts inT_X1 hown hK hP 3 rfl rfl 2 (by decide) tf_X11_178 rfl dX11_evict_72 ?_
        refine lv_iload_n hx hb dX11_evict_75 rfl (lv_at hl 2 rfl) ?_
        refine z_iald hx hb hK hP 6 rfl dX11_evict_76 hf (fun y6 hf => ?_)
        exact hret (0, y6, u4.1, u5.1, u5.2.1, u5.2.2.1, u5.2.2.2, a_all_refused, u4.2) ad _ _ _ _ _ _ (Nat.le_of_ble_eq_true rfl) (Nat.le_of_ble_eq_true rfl) rfl hf hP hD hS dX11_evict_77
      · exact L43 F_all_history a_all_machine_cache_media a_all_machine_cache_stores a_all_machine_cache_held a_all_machine_cache_asked a_all_refused hs _ _ _ _ hf hP hD hS (lv_sub hl [1] rfl)
  · exact hth1 (1, 0, F_all_history, a_all_machine_cache_media, a_all_machine_cache_stores, a_all_machine_cache_held, a_all_machine_cache_asked, a_all_refused, hs) ad _ _ _ _ 176 "no such line" hl.1 (List.mem_of_getElem? (i := 3) rfl) rfl hf hP hD hS dX11_evict_7 dX11_evict_10 dX11_evict_11 dX11_evict_13 dX11_evict_16
abbrev s_X11_later (D : va_G) (h_t : Nat) (r_t : Nat → Nat) (r_all : Nat → Nat) (r_all_machine : Nat → Nat) (r_all_machine_cache : Nat → Nat) (r_all_history : Nat → Nat) (F_t : Nat → Int32) (F_all : Nat → Int32) (F_all_machine : Nat → Int32) (F_all_history : Nat → Int32) (kq : Option Nat) (cI : ClassId) (a_all_machine_cache_media : Nat → Int32) (a_all_machine_cache_stores : Nat → Int32) (a_all_machine_cache_held : Nat → Int32) (a_all_machine_cache_asked : Nat → Int32) (a_all_machine_micros : Nat → Int32) (a_all_machine_before : Nat → Int32) (a_all_machine_after : Nat → Int32) (a_all_machine_waiting : Nat → Int32) (a_all_machine_tallies : Nat → Int32) (a_all_refused : Nat → Int32) (ad : Nat → MAd) (hs : Nat → Option MSt) : va_W := [(h_t, .inr (11, o_X11 r_t F_t kq)), ((r_t 3), .inr (0, o_X0 r_all F_all)), ((r_all 0), .inr (4, o_X4 r_all_machine F_all_machine)), ((r_all_machine 0), .inr (1, o_X1 r_all_machine_cache)), ((r_all_machine_cache 0), .inl (cI, 64, .inl a_all_machine_cache_media)), ((r_all_machine_cache 1), .inl (cI, 96, .inl a_all_machine_cache_stores)), ((r_all_machine_cache 2), .inl (cI, 16, .inl a_all_machine_cache_held)), ((r_all_machine_cache 3), .inl (cI, 16, .inl a_all_machine_cache_asked)), ((r_all_machine 1), .inl (cI, 80, .inl a_all_machine_micros)), ((r_all_machine 4), .inl (cI, 44, .inl a_all_machine_before)), ((r_all_machine 5), .inl (cI, 44, .inl a_all_machine_after)), ((r_all_machine 6), .inl (cI, 48, .inl a_all_machine_waiting)), ((r_all_machine 11), .inl (cI, 8, .inl a_all_machine_tallies)), ((r_all 1), .inr (3, o_X3 r_all_history F_all_history)), ((r_all_history 0), .inl (D.1 100, 40, .inr (.inr (.inr (.inr (hsf ad hs)))))), ((r_all 4), .inl (cI, 3, .inl a_all_refused))]
abbrev w_X11_later (D : va_G) (h_t : Nat) (r_t : Nat → Nat) (r_all : Nat → Nat) (r_all_machine : Nat → Nat) (r_all_machine_cache : Nat → Nat) (r_all_history : Nat → Nat) (F_t : Nat → Int32) (F_all : Nat → Int32) (F_all_machine : Nat → Int32) (F_all_history : Nat → Int32) (kq : Option Nat) (cI : ClassId) (a_all_machine_cache_media : Nat → Int32) (a_all_machine_cache_stores : Nat → Int32) (a_all_machine_cache_held : Nat → Int32) (a_all_machine_cache_asked : Nat → Int32) (a_all_machine_micros : Nat → Int32) (a_all_machine_before : Nat → Int32) (a_all_machine_after : Nat → Int32) (a_all_machine_waiting : Nat → Int32) (a_all_machine_tallies : Nat → Int32) (a_all_refused : Nat → Int32) (ad : Nat → MAd) (hs : Nat → Option MSt) : va_W := s_X11_later D h_t r_t r_all r_all_machine r_all_machine_cache r_all_history F_t F_all F_all_machine F_all_history kq cI a_all_machine_cache_media a_all_machine_cache_stores a_all_machine_cache_held a_all_machine_cache_asked a_all_machine_micros a_all_machine_before a_all_machine_after a_all_machine_waiting a_all_machine_tallies a_all_refused ad hs ++ hw cI ad hs
abbrev rm_X11_later : Room := { frames := 6, cells := 11, slots := 432, locals := 122 }
def m_X11_later_j48 (a_all_machine_cache_media : Nat → Int32) (a_all_machine_cache_stores : Nat → Int32) (a_all_machine_cache_held : Nat → Int32) (a_all_machine_cache_asked : Nat → Int32) (a_all_machine_micros : Nat → Int32) (a_all_machine_before : Nat → Int32) (a_all_machine_after : Nat → Int32) (a_all_machine_tallies : Nat → Int32) (p1 : Int32) (p2 : Int32) (p3 : Int32) (F_all_machine : Nat → Int32) (F_all_history : Nat → Int32) (a_all_machine_waiting : Nat → Int32) (a_all_refused : Nat → Int32) (hs : Nat → Option MSt) : Option (Int32 × Int32 × (Nat → Int32) × (Nat → Int32) × (Nat → Int32) × (Nat → Int32) × (Nat → Option MSt)) :=
  bd (m_X11_refuseAct a_all_refused) fun u1 =>
  some (0, u1.1, F_all_machine, F_all_history, a_all_machine_waiting, u1.2, hs)
def m_X11_later (F_all_machine : Nat → Int32) (F_all_history : Nat → Int32) (a_all_machine_cache_media : Nat → Int32) (a_all_machine_cache_stores : Nat → Int32) (a_all_machine_cache_held : Nat → Int32) (a_all_machine_cache_asked : Nat → Int32) (a_all_machine_micros : Nat → Int32) (a_all_machine_before : Nat → Int32) (a_all_machine_after : Nat → Int32) (a_all_machine_waiting : Nat → Int32) (a_all_machine_tallies : Nat → Int32) (a_all_refused : Nat → Int32) (hs : Nat → Option MSt) (p1 : Int32) (p2 : Int32) (p3 : Int32) : Option (Int32 × Int32 × (Nat → Int32) × (Nat → Int32) × (Nat → Int32) × (Nat → Int32) × (Nat → Option MSt)) :=
  if p1 < 0 then (
  some (1, 0, F_all_machine, F_all_history, a_all_machine_waiting, a_all_refused, hs))
  else (
  if p1 < 5 then (
  if 12 ≤ (F_all_machine 7) then (
  m_X11_later_j48 a_all_machine_cache_media a_all_machine_cache_stores a_all_machine_cache_held a_all_machine_cache_asked a_all_machine_micros a_all_machine_before a_all_machine_after a_all_machine_tallies p1 p2 p3 F_all_machine F_all_history a_all_machine_waiting a_all_refused hs)
  else (
  bd (m_X11_isAsTold p1 p2 p3) fun u2 =>
  if u2 = 0 then (
  m_X11_later_j48 a_all_machine_cache_media a_all_machine_cache_stores a_all_machine_cache_held a_all_machine_cache_asked a_all_machine_micros a_all_machine_before a_all_machine_after a_all_machine_tallies p1 p2 p3 F_all_machine F_all_history a_all_machine_waiting a_all_refused hs)
  else (
  bd (m_keep F_all_history hs (F_all_machine, a_all_machine_cache_media, a_all_machine_cache_stores, a_all_machine_cache_held, a_all_machine_cache_asked, a_all_machine_micros, a_all_machine_before, a_all_machine_after, a_all_machine_waiting, a_all_machine_tallies)) fun u3 =>
  bd (m_X11_packOp p1 p2 p3) fun u4 =>
  bd (m_X4_addWaiting F_all_machine a_all_machine_waiting u4) fun u5 =>
  some (0, (u5.1 7), u5.1, u3.1, u5.2, a_all_refused, u3.2))))
  else (
  some (1, 0, F_all_machine, F_all_history, a_all_machine_waiting, a_all_refused, hs)))
set_option maxHeartbeats 4000000 in
set_option maxRecDepth 100000 in
theorem c_X11_later (l : Launch) (hlt : l.stackTraces = false) (D : va_G) (cI : ClassId) (h_t : Nat) (r_t : Nat → Nat) (r_all : Nat → Nat) (r_all_machine : Nat → Nat) (r_all_machine_cache : Nat → Nat) (r_all_history : Nat → Nat) (F_t : Nat → Int32) (F_all : Nat → Int32) (F_all_machine : Nat → Int32) (F_all_history : Nat → Int32) (kq : Option Nat) (a_all_machine_cache_media : Nat → Int32) (a_all_machine_cache_stores : Nat → Int32) (a_all_machine_cache_held : Nat → Int32) (a_all_machine_cache_asked : Nat → Int32) (a_all_machine_micros : Nat → Int32) (a_all_machine_before : Nat → Int32) (a_all_machine_after : Nat → Int32) (a_all_machine_waiting : Nat → Int32) (a_all_machine_tallies : Nat → Int32) (a_all_refused : Nat → Int32) (ad : Nat → MAd) (hs : Nat → Option MSt) (p1 : Int32) (p2 : Int32) (p3 : Int32) (Rr : Int32 × Int32 × (Nat → Int32) × (Nat → Int32) × (Nat → Int32) × (Nat → Int32) × (Nat → Option MSt)) (hf : m_X11_later F_all_machine F_all_history a_all_machine_cache_media a_all_machine_cache_stores a_all_machine_cache_held a_all_machine_cache_asked a_all_machine_micros a_all_machine_before a_all_machine_after a_all_machine_waiting a_all_machine_tallies a_all_refused hs p1 p2 p3 = some Rr) : CTx l yX11_later (Cond.code yX11_later cX11_later 5 (some .int)) rm_X11_later D cI [.ref h_t, .int p1, .int p2, .int p3] (w_X11_later D h_t r_t r_all r_all_machine r_all_machine_cache r_all_history F_t F_all F_all_machine F_all_history kq cI a_all_machine_cache_media a_all_machine_cache_stores a_all_machine_cache_held a_all_machine_cache_asked a_all_machine_micros a_all_machine_before a_all_machine_after a_all_machine_waiting a_all_machine_tallies a_all_refused ad hs) Rr.1 Rr.2.1 (fun (ad : Nat → MAd) => w_X11_later D h_t r_t r_all r_all_machine r_all_machine_cache r_all_history F_t F_all Rr.2.2.1 Rr.2.2.2.1 kq cI a_all_machine_cache_media a_all_machine_cache_stores a_all_machine_cache_held a_all_machine_cache_asked a_all_machine_micros a_all_machine_before a_all_machine_after Rr.2.2.2.2.1 a_all_machine_tallies Rr.2.2.2.2.2.1 ad Rr.2.2.2.2.2.2) 11 432 := by
  refine z_begin_x (ρ := Int32 × Int32 × (Nat → Int32) × (Nat → Int32) × (Nat → Int32) × (Nat → Int32) × (Nat → Option MSt)) (fun u (ad : Nat → MAd) => w_X11_later D h_t r_t r_all r_all_machine r_all_machine_cache r_all_history F_t F_all u.2.2.1 u.2.2.2.1 kq cI a_all_machine_cache_media a_all_machine_cache_stores a_all_machine_cache_held a_all_machine_cache_asked a_all_machine_micros a_all_machine_before a_all_machine_after u.2.2.2.2.1 a_all_machine_tallies u.2.2.2.2.2.1 ad u.2.2.2.2.2.2) (fun u => u.1) (fun u => u.2.1) 11 432 hlt (by decide +kernel) rfl (Nat.le_of_ble_eq_true rfl) (Nat.le_of_ble_eq_true rfl) (Nat.le_of_ble_eq_true rfl) (Nat.le_of_ble_eq_true rfl) (Nat.le_of_ble_eq_true rfl) (Nat.le_of_ble_eq_true rfl) (Nat.le_of_ble_eq_true rfl) ?_
  intro p e s m args below meth c ls Q A hx hb hml hts hcx hown hK hX hA hP hD hS hl hret hth1 hth1W hth2 hth2W
  have hl : lv_has ls 5 [(0, .ref h_t), (1, .int p1), (2, .int p2), (3, .int p3)] := hl
  have hf := (m_X11_later.eq_1 _ _ _ _ _ _ _ _ _ _ _ _ _ _ _ _).symm.trans hf
  have L48 : ∀ (F_all_machine : Nat → Int32) (F_all_history : Nat → Int32) (a_all_machine_waiting : Nat → Int32) (a_all_refused : Nat → Int32) (hs : Nat → Option MSt) (ad : Nat → MAd) (H : Heap) (locs : List Loc) (ls : Array Slot), m_X11_later_j48 a_all_machine_cache_media a_all_machine_cache_stores a_all_machine_cache_held a_all_machine_cache_asked a_all_machine_micros a_all_machine_before a_all_machine_after a_all_machine_tallies p1 p2 p3 F_all_machine F_all_history a_all_machine_waiting a_all_refused hs = some Rr → va_P D vwCl (w_X11_later D h_t r_t r_all r_all_machine r_all_machine_cache r_all_history F_t F_all F_all_machine F_all_history kq cI a_all_machine_cache_media a_all_machine_cache_stores a_all_machine_cache_held a_all_machine_cache_asked a_all_machine_micros a_all_machine_before a_all_machine_after a_all_machine_waiting a_all_machine_tallies a_all_refused ad hs) H → va_D A (w_X11_later D h_t r_t r_all r_all_machine r_all_machine_cache r_all_history F_t F_all F_all_machine F_all_history kq cI a_all_machine_cache_media a_all_machine_cache_stores a_all_machine_cache_held a_all_machine_cache_asked a_all_machine_micros a_all_machine_before a_all_machine_after a_all_machine_waiting a_all_machine_tallies a_all_refused ad hs) → va_S A s.heap H locs → lv_has ls 5 [(0, .ref h_t)] → W p l e rm_X11_later s m args below meth c H locs 0 0 Q (F0 m 48 ls []) := by
    intro F_all_machine F_all_history a_all_machine_waiting a_all_refused hs ad H locs ls hf hP hD hS hl
    have hf := (m_X11_later_j48.eq_1 _ _ _ _ _ _ _ _ _ _ _ _ _ _ _ _).symm.trans hf
    refine lv_aload_n hx hb dX11_later_48 rfl (lv_at hl 0 rfl) ?_
    obtain ⟨u1, hu1, hf⟩ := bd_some hf
    refine z_ciF (ws1 := w_X11_later D h_t r_t r_all r_all_machine r_all_machine_cache r_all_history F_t F_all F_all_machine F_all_history kq cI a_all_machine_cache_media a_all_machine_cache_stores a_all_machine_cache_held a_all_machine_cache_asked a_all_machine_micros a_all_machine_before a_all_machine_after a_all_machine_waiting a_all_machine_tallies u1.2 ad hs) (fr := List.filterMap (fun i : Nat => (s_X11_later D h_t r_t r_all r_all_machine r_all_machine_cache r_all_history F_t F_all F_all_machine F_all_history kq cI a_all_machine_cache_media a_all_machine_cache_stores a_all_machine_cache_held a_all_machine_cache_asked a_all_machine_micros a_all_machine_before a_all_machine_after a_all_machine_waiting a_all_machine_tallies a_all_refused ad hs)[i]?) [2, 3, 4, 5, 6, 7, 8, 9, 10, 11, 12, 13, 14] ++ hw cI ad hs) (z_rV (rest := []) hx hb hml hown hcx hl.1 (c_X11_refuseAct l D cI h_t r_t r_all F_t F_all kq a_all_refused u1 hu1 _) tl_X11_232 ti_X11_refuseAct tz_X11_refuseAct tn_X11 tc_X11_refuseAct tm_X11_refuseAct rfl rfl ⟨Nat.le_of_ble_eq_true rfl, Nat.le_of_ble_eq_true rfl⟩ hK hX hS hA hP hD [0, 1, 15] rfl rfl 0 rfl rfl rfl rfl (Nat.le_of_ble_eq_true rfl) dX11_later_49 ⟨Nat.le_of_ble_eq_true rfl, Nat.le_of_ble_eq_true rfl⟩) hP hD hS hA (perm_idxT [0, 1, 15, 2, 3, 4, 5, 6, 7, 8, 9, 10, 11, 12, 13, 14] 16 rfl (by decide) rfl) (perm_idxT [0, 1, 15, 2, 3, 4, 5, 6, 7, 8, 9, 10, 11, 12, 13, 14] 16 rfl (by decide) rfl) (fun H locs hP hD hS => ?_)
    exact hret (0, u1.1, F_all_machine, F_all_history, a_all_machine_waiting, u1.2, hs) ad _ _ _ _ _ _ (Nat.le_of_ble_eq_true rfl) (Nat.le_of_ble_eq_true rfl) rfl hf hP hD hS dX11_later_52
  refine lv_iload_n hx hb dX11_later_0 rfl (lv_at hl 1 rfl) ?_
  refine z_if_lt (tgt := 9) hx hb dX11_later_1 (by decide) hf (fun hf => ?_) (fun hf => ?_)
  · exact hth1W (1, 0, F_all_machine, F_all_history, a_all_machine_waiting, a_all_refused, hs) ad _ _ _ _ 264 "no such op" hl.1 (List.mem_of_getElem? (i := 7) rfl) rfl hf hP hD hS dX11_later_9 dX11_later_12 dX11_later_13 dX11_later_16 dX11_later_19
  · refine lv_iload_n hx hb dX11_later_4 rfl (lv_at hl 1 rfl) ?_
    refine lv_iconst (v := 5) hx hb dX11_later_5 (by decide) ?_
    refine z_icmp_lt (tgt := 20) hx hb dX11_later_6 (by decide) hf (fun hf => ?_) (fun hf => ?_)
    · refine lv_aload_n hx hb dX11_later_20 rfl (lv_at hl 0 rfl) ?_
      refine z_get (ci := 11) (C := RX11) (T := TX11) (N := 13) (v := .ref (r_t 3)) hx hb hts inT_X11 hown hK hP 0 rfl rfl 3 (by decide) tf_X11_23 rfl dX11_later_21 ?_
      refine z_get (ci := 0) (C := RX0) (T := TX0) (N := 5) (v := .ref (r_all 0)) hx hb hts inT_X0 hown hK hP 1 rfl rfl 0 (by decide) tf_X11_112 rfl dX11_later_24 ?_
      refine lv_astore (lv' := [(4, .ref (r_all 0)), (0, .ref h_t), (1, .int p1), (2, .int p2), (3, .int p3)]) hx hb dX11_later_27 hl (by decide) rfl (fun ls hl => ?_)
      refine lv_aload hx hb dX11_later_29 (lv_at hl 0 rfl) ?_
      refine z_get (ci := 4) (C := RX4) (T := TX4) (N := 12) (v := .int (F_all_machine 7)) hx hb hts inT_X4 hown hK hP 2 rfl rfl 7 (by decide) tf_X11_124 rfl dX11_later_31 ?_
      refine lv_bipush (v := 12) hx hb dX11_later_34 (by decide) ?_
      refine z_icmp_ge (tgt := 48) hx hb dX11_later_36 (by decide) hf (fun hf => ?_) (fun hf => ?_)
      · exact L48 F_all_machine F_all_history a_all_machine_waiting a_all_refused hs _ _ _ _ hf hP hD hS (lv_sub hl [1] rfl)
      · refine lv_iload_n hx hb dX11_later_39 rfl (lv_at hl 2 rfl) ?_
        refine lv_iload_n hx hb dX11_later_40 rfl (lv_at hl 3 rfl) ?_
        refine lv_iload_n hx hb dX11_later_41 rfl (lv_at hl 4 rfl) ?_
        obtain ⟨u2, hu2, hf⟩ := bd_some hf
        refine z_ciF (ws1 := w_X11_later D h_t r_t r_all r_all_machine r_all_machine_cache r_all_history F_t F_all F_all_machine F_all_history kq cI a_all_machine_cache_media a_all_machine_cache_stores a_all_machine_cache_held a_all_machine_cache_asked a_all_machine_micros a_all_machine_before a_all_machine_after a_all_machine_waiting a_all_machine_tallies a_all_refused ad hs) (fr := List.filterMap (fun i : Nat => (s_X11_later D h_t r_t r_all r_all_machine r_all_machine_cache r_all_history F_t F_all F_all_machine F_all_history kq cI a_all_machine_cache_media a_all_machine_cache_stores a_all_machine_cache_held a_all_machine_cache_asked a_all_machine_micros a_all_machine_before a_all_machine_after a_all_machine_waiting a_all_machine_tallies a_all_refused ad hs)[i]?) [0, 1, 2, 3, 4, 5, 6, 7, 8, 9, 10, 11, 12, 13, 14, 15] ++ hw cI ad hs) (z_rS (rest := []) hx hb hml hown hcx hl.1 (c_X11_isAsTold l D cI p1 p2 p3 u2 hu2 _) tl_X11_266 ts_X11_isAsTold tn_X11 tc_X11_isAsTold tm_X11_isAsTold rfl rfl ⟨Nat.le_of_ble_eq_true rfl, Nat.le_of_ble_eq_true rfl⟩ hK hX hS hA hP hD [] rfl rfl rfl rfl (Nat.le_of_ble_eq_true rfl) dX11_later_42 ⟨Nat.le_of_ble_eq_true rfl, Nat.le_of_ble_eq_true rfl⟩) hP hD hS hA (perm_idxT [0, 1, 2, 3, 4, 5, 6, 7, 8, 9, 10, 11, 12, 13, 14, 15] 16 rfl (by decide) rfl) (perm_idxT [0, 1, 2, 3, 4, 5, 6, 7, 8, 9, 10, 11, 12, 13, 14, 15] 16 rfl (by decide) rfl) (fun H locs hP hD hS => ?_)
        refine z_if_ne (tgt := 53) hx hb dX11_later_45 (by decide) hf (fun hf => ?_) (fun hf => ?_)
        · refine lv_aload_n hx hb dX11_later_53 rfl (lv_at hl 1 rfl) ?_
          refine z_get (ci := 11) (C := RX11) (T := TX11) (N := 13) (v := .ref (r_t 3)) hx hb hts inT_X11 hown hK hP 0 rfl rfl 3 (by decide) tf_X11_23 rfl dX11_later_54 ?_
          refine z_get (ci := 0) (C := RX0) (T := TX0) (N := 5) (v := .ref (r_all 1)) hx hb hts inT_X0 hown hK hP 1 rfl rfl 1 (by decide) tf_X11_140 rfl dX11_later_57 ?_
          refine lv_aload hx hb dX11_later_60 (lv_at hl 0 rfl) ?_
          obtain ⟨u3, hu3, hf⟩ := bd_some hf
          refine z_cnF (ws1 := fun ad => w_X11_later D h_t r_t r_all r_all_machine r_all_machine_cache r_all_history F_t F_all F_all_machine u3.1 kq cI a_all_machine_cache_media a_all_machine_cache_stores a_all_machine_cache_held a_all_machine_cache_asked a_all_machine_micros a_all_machine_before a_all_machine_after a_all_machine_waiting a_all_machine_tallies a_all_refused ad u3.2) (fr := List.filterMap (fun i : Nat => (s_X11_later D h_t r_t r_all r_all_machine r_all_machine_cache r_all_history F_t F_all F_all_machine F_all_history kq cI a_all_machine_cache_media a_all_machine_cache_stores a_all_machine_cache_held a_all_machine_cache_asked a_all_machine_micros a_all_machine_before a_all_machine_after a_all_machine_waiting a_all_machine_tallies a_all_refused ad hs)[i]?) [0, 1, 15]) (z_rVF (rest := []) (fr := List.filterMap (fun i : Nat => (s_X11_later D h_t r_t r_all r_all_machine r_all_machine_cache r_all_history F_t F_all F_all_machine F_all_history kq cI a_all_machine_cache_media a_all_machine_cache_stores a_all_machine_cache_held a_all_machine_cache_asked a_all_machine_micros a_all_machine_before a_all_machine_after a_all_machine_waiting a_all_machine_tallies a_all_refused ad hs)[i]?) [0, 1, 15]) hx hb hml hown hcx hl.1 (c_keep l D cI (r_all 1) r_all_history ((r_all 0), r_all_machine, r_all_machine_cache) (F_all_machine, a_all_machine_cache_media, a_all_machine_cache_stores, a_all_machine_cache_held, a_all_machine_cache_asked, a_all_machine_micros, a_all_machine_before, a_all_machine_after, a_all_machine_waiting, a_all_machine_tallies) F_all_history ad hs u3 hu3 _) tl_X11_235 ti_X3_keep tz_X3_keep tn_X3 tc_X3_keep tm_X3_keep rfl rfl ⟨Nat.le_of_ble_eq_true rfl, Nat.le_of_ble_eq_true rfl⟩ hK hX hS hA hP hD (perm_idxK [13, 14, 2, 3, 4, 5, 6, 7, 8, 9, 10, 11, 12, 0, 1, 15] 16 rfl (by decide) rfl) (List.mem_cons_self) rfl rfl rfl (Nat.le_of_ble_eq_true rfl) dX11_later_62 ⟨Nat.le_of_ble_eq_true rfl, Nat.le_of_ble_eq_true rfl⟩) hP hD hS hA (perm_idxK [13, 14, 2, 3, 4, 5, 6, 7, 8, 9, 10, 11, 12, 0, 1, 15] 16 rfl (by decide) rfl) (fun _ => perm_idxK [13, 14, 2, 3, 4, 5, 6, 7, 8, 9, 10, 11, 12, 0, 1, 15] 16 rfl (by decide) rfl) (fun ad H locs hP hD hS => ?_)
          refine lv_aload hx hb dX11_later_65 (lv_at hl 0 rfl) ?_
          refine lv_iload_n hx hb dX11_later_67 rfl (lv_at hl 2 rfl) ?_
          refine lv_iload_n hx hb dX11_later_68 rfl (lv_at hl 3 rfl) ?_
          refine lv_iload_n hx hb dX11_later_69 rfl (lv_at hl 4 rfl) ?_
          obtain ⟨u4, hu4, hf⟩ := bd_some hf
          refine z_ciF (ws1 := w_X11_later D h_t r_t r_all r_all_machine r_all_machine_cache r_all_history F_t F_all F_all_machine u3.1 kq cI a_all_machine_cache_media a_all_machine_cache_stores a_all_machine_cache_held a_all_machine_cache_asked a_all_machine_micros a_all_machine_before a_all_machine_after a_all_machine_waiting a_all_machine_tallies a_all_refused ad u3.2) (fr := List.filterMap (fun i : Nat => (s_X11_later D h_t r_t r_all r_all_machine r_all_machine_cache r_all_history F_t F_all F_all_machine u3.1 kq cI a_all_machine_cache_media a_all_machine_cache_stores a_all_machine_cache_held a_all_machine_cache_asked a_all_machine_micros a_all_machine_before a_all_machine_after a_all_machine_waiting a_all_machine_tallies a_all_refused ad u3.2)[i]?) [0, 1, 2, 3, 4, 5, 6, 7, 8, 9, 10, 11, 12, 13, 14, 15] ++ hw cI ad u3.2) (z_rS (rest := [.ref (r_all 0)]) hx hb hml hown hcx hl.1 (c_X11_packOp l D cI p1 p2 p3 u4 hu4 _) tl_X11_270 ts_X11_packOp tn_X11 tc_X11_packOp tm_X11_packOp rfl rfl ⟨Nat.le_of_ble_eq_true rfl, Nat.le_of_ble_eq_true rfl⟩ hK hX hS hA hP hD [] rfl rfl rfl rfl (Nat.le_of_ble_eq_true rfl) dX11_later_70 ⟨Nat.le_of_ble_eq_true rfl, Nat.le_of_ble_eq_true rfl⟩) hP hD hS hA (perm_idxT [0, 1, 2, 3, 4, 5, 6, 7, 8, 9, 10, 11, 12, 13, 14, 15] 16 rfl (by decide) rfl) (perm_idxT [0, 1, 2, 3, 4, 5, 6, 7, 8, 9, 10, 11, 12, 13, 14, 15] 16 rfl (by decide) rfl) (fun H locs hP hD hS => ?_)
          obtain ⟨u5, hu5, hf⟩ := bd_some hf
          refine z_cvF (ws1 := w_X11_later D h_t r_t r_all r_all_machine r_all_machine_cache r_all_history F_t F_all u5.1 u3.1 kq cI a_all_machine_cache_media a_all_machine_cache_stores a_all_machine_cache_held a_all_machine_cache_asked a_all_machine_micros a_all_machine_before a_all_machine_after u5.2 a_all_machine_tallies a_all_refused ad u3.2) (fr := List.filterMap (fun i : Nat => (s_X11_later D h_t r_t r_all r_all_machine r_all_machine_cache r_all_history F_t F_all F_all_machine u3.1 kq cI a_all_machine_cache_media a_all_machine_cache_stores a_all_machine_cache_held a_all_machine_cache_asked a_all_machine_micros a_all_machine_before a_all_machine_after a_all_machine_waiting a_all_machine_tallies a_all_refused ad u3.2)[i]?) [0, 1, 3, 4, 5, 6, 7, 8, 9, 10, 12, 13, 14, 15] ++ hw cI ad u3.2) (z_rV (rest := []) hx hb hml hown hcx hl.1 (c_X4_addWaiting l D cI (r_all 0) r_all_machine F_all_machine a_all_machine_waiting u4 u5 hu5 _) tl_X11_274 ti_X4_addWaiting tz_X4_addWaiting tn_X4 tc_X4_addWaiting tm_X4_addWaiting rfl rfl ⟨Nat.le_of_ble_eq_true rfl, Nat.le_of_ble_eq_true rfl⟩ hK hX hS hA hP hD [2, 11] rfl rfl 2 rfl rfl rfl rfl (Nat.le_of_ble_eq_true rfl) dX11_later_73 ⟨Nat.le_of_ble_eq_true rfl, Nat.le_of_ble_eq_true rfl⟩) hP hD hS hA (perm_idxT [2, 11, 0, 1, 3, 4, 5, 6, 7, 8, 9, 10, 12, 13, 14, 15] 16 rfl (by decide) rfl) (perm_idxT [2, 11, 0, 1, 3, 4, 5, 6, 7, 8, 9, 10, 12, 13, 14, 15] 16 rfl (by decide) rfl) (fun H locs hP hD hS => ?_)
          refine lv_aload hx hb dX11_later_76 (lv_at hl 0 rfl) ?_
          refine z_get (ci := 4) (C := RX4) (T := TX4) (N := 12) (v := .int (u5.1 7)) hx hb hts inT_X4 hown hK hP 2 rfl rfl 7 (by decide) tf_X11_124 rfl dX11_later_78 ?_
          exact hret (0, (u5.1 7), u5.1, u3.1, u5.2, a_all_refused, u3.2) ad _ _ _ _ _ _ (Nat.le_of_ble_eq_true rfl) (Nat.le_of_ble_eq_true rfl) rfl hf hP hD hS dX11_later_81
        · exact L48 F_all_machine F_all_history a_all_machine_waiting a_all_refused hs _ _ _ _ hf hP hD hS (lv_sub hl [1] rfl)
    · exact hth1W (1, 0, F_all_machine, F_all_history, a_all_machine_waiting, a_all_refused, hs) ad _ _ _ _ 264 "no such op" hl.1 (List.mem_of_getElem? (i := 7) rfl) rfl hf hP hD hS dX11_later_9 dX11_later_12 dX11_later_13 dX11_later_16 dX11_later_19
