abbrev rmL_heap : Room := { frames := 11, cells := 1, slots := 6, locals := 241 }
def pL_heap (C : CS) (o : Nat → Int64) (p1 : Int32) : Option (Int32 × (Nat → Int64) × CS) := hH1 2 (pX_heap C p1) o
set_option maxHeartbeats 4000000 in
set_option maxRecDepth 100000 in
theorem h_heap (l : Launch) (hlt : l.stackTraces = false) (D : va_G) (cI : ClassId) (A : CAd) (ho : Nat) (V : CV) (C : CS) (o : Nat → Int64) (p1 : Int32) (R : Int32 × (Nat → Int64) × CS) (hf : pL_heap C o p1 = some R) (sz : Nat) : Met l yL_heap (Cond.codeWith yL_heap cL_heap 4 (some .int) hL_heap :: TB) rmL_heap (Pz D cI [.ref A.1, .int p1, .ref ho] (ow D cI A ho V o C) sz) (Rin D (ow D cI A ho V o C) R.1 (fun V => ow D cI A ho V R.2.1 R.2.2) sz) 1 6 (va_A (ow D cI A ho V o C) sz) := by
  refine z_begin_h (own := RL) (fun V => ow D cI A ho V R.2.1 R.2.2) R.1 1 6 (by decide +kernel) rfl (Nat.le_of_ble_eq_true rfl) ?_ sz
  intro p e s m args below meth c ls Q A9 hx hb hml htab hts hcx hown hK hX hA hP hD hS hl hret
  have hl : lv_has ls 4 [(0, .ref A.1), (1, .int p1), (2, .ref ho)] := hl
  obtain ⟨u, hu, hf⟩ := bd_some hf
  refine lv_aload_n hx hb dL_heap_0 rfl (lv_at hl 2 rfl) ?_
  refine lv_iconst (v := 0) hx hb dL_heap_1 (by decide) ?_
  refine lv_aload_n hx hb dL_heap_2 rfl (lv_at hl 0 rfl) ?_
  refine lv_iload_n hx hb dL_heap_3 rfl (lv_at hl 1 rfl) ?_
  refine z_xc (ws1 := fun V => ow D cI A ho V o u.2.2) (fr := [(ho, .inl (D.1 101, 1, .inr (.inl o)))]) (z_xV (rest := [.int 0, .ref ho]) (fr := [(ho, .inl (D.1 101, 1, .inr (.inl o)))]) (ws := ow D cI A ho V o C) (ci := 11) (b := A.1) hx hb hml hown hcx hl.1 (k_heap l hlt D cI A V C p1 u hu _) tl_L_7 ti_X11_heap tz_X11_heap tn_X11 tc_X11_heap tm_X11_heap rfl rfl ⟨Nat.le_of_ble_eq_true rfl, Nat.le_of_ble_eq_true rfl⟩ hK hX hS hA hP hD (List.perm_append_singleton _ _).symm cw_root rfl rfl rfl (Nat.le_of_ble_eq_true rfl) dL_heap_4 ⟨Nat.le_of_ble_eq_true rfl, Nat.le_of_ble_eq_true rfl⟩) hP hD hS hA (List.perm_append_singleton _ _).symm (fun _ => (List.perm_append_singleton _ _).symm) (fun V1 ce q9 H locs hx0 hP hD hS hce hcv hcl => ?_) (fun V1 H locs hx0 hP hD hS => ?_)
  · have hf := (if_neg hx0).symm.trans hf
    by_cases hxK : u.1 = 2
    · obtain rfl := Option.some.inj ((if_pos hxK).symm.trans hf)
      refine zx_catch (own := RL) (name := nIAE) (E := nIAE) (ce := ce) hown [] (exL (0, 9, 12, 13)) [] (htab.trans rfl) (fun z hz => absurd hz List.not_mem_nil) rfl (by decide) (hts _ tq_L_13) (zx_cIAE hK) hce hcv (by rw [hxK] at hcl; exact hcl) ?_
      refine lv_astore_n (lv' := [(3, .ref q9), (0, .ref A.1), (1, .int p1), (2, .ref ho)]) hx hb dL_heap_12 rfl hl (by decide) rfl (fun ls hl => ?_)
      refine lv_iconst (v := 1) hx hb dL_heap_13 (by decide) ?_
      exact hret V1 _ _ _ _ _ _ (Nat.le_of_ble_eq_true rfl) (Nat.le_of_ble_eq_true rfl) hP hD hS dL_heap_14
    · cases ((if_neg hxK).symm.trans hf)
  · obtain rfl := Option.some.inj ((if_pos hx0).symm.trans hf)
    refine lv_i2l hx hb dL_heap_7 rfl ?_
    refine va_last (a := ho) hx hb hK.1 hP hD hS 0 2 rfl rfl (i := 0) vp_in01 dL_heap_8 (fun H locs hP hD hS => ?_)
    refine lv_goto (tgt := 15) hx hb dL_heap_9 (by decide) ?_
    refine lv_iconst (v := 0) hx hb dL_heap_15 (by decide) ?_
    exact hret V1 _ _ _ _ _ _ (Nat.le_of_ble_eq_true rfl) (Nat.le_of_ble_eq_true rfl) hP hD hS dL_heap_16
abbrev rmL_count : Room := { frames := 7, cells := 1, slots := 6, locals := 104 }
def pL_count (C : CS) (o : Nat → Int64) (p1 : Int32) : Option (Int32 × (Nat → Int64) × CS) := hH1 1 (pX_count C p1) o
set_option maxHeartbeats 4000000 in
set_option maxRecDepth 100000 in
theorem h_count (l : Launch) (hlt : l.stackTraces = false) (D : va_G) (cI : ClassId) (A : CAd) (ho : Nat) (V : CV) (C : CS) (o : Nat → Int64) (p1 : Int32) (R : Int32 × (Nat → Int64) × CS) (hf : pL_count C o p1 = some R) (sz : Nat) : Met l yL_count (Cond.codeWith yL_count cL_count 4 (some .int) hL_count :: TB) rmL_count (Pz D cI [.ref A.1, .int p1, .ref ho] (ow D cI A ho V o C) sz) (Rin D (ow D cI A ho V o C) R.1 (fun V => ow D cI A ho V R.2.1 R.2.2) sz) 1 6 (va_A (ow D cI A ho V o C) sz) := by
  refine z_begin_h (own := RL) (fun V => ow D cI A ho V R.2.1 R.2.2) R.1 1 6 (by decide +kernel) rfl (Nat.le_of_ble_eq_true rfl) ?_ sz
  intro p e s m args below meth c ls Q A9 hx hb hml htab hts hcx hown hK hX hA hP hD hS hl hret
  have hl : lv_has ls 4 [(0, .ref A.1), (1, .int p1), (2, .ref ho)] := hl
  obtain ⟨u, hu, hf⟩ := bd_some hf
  refine lv_aload_n hx hb dL_count_0 rfl (lv_at hl 2 rfl) ?_
  refine lv_iconst (v := 0) hx hb dL_count_1 (by decide) ?_
  refine lv_aload_n hx hb dL_count_2 rfl (lv_at hl 0 rfl) ?_
  refine lv_iload_n hx hb dL_count_3 rfl (lv_at hl 1 rfl) ?_
  refine z_xc (ws1 := fun V => ow D cI A ho V o u.2.2) (fr := [(ho, .inl (D.1 101, 1, .inr (.inl o)))]) (z_xV (rest := [.int 0, .ref ho]) (fr := [(ho, .inl (D.1 101, 1, .inr (.inl o)))]) (ws := ow D cI A ho V o C) (ci := 11) (b := A.1) hx hb hml hown hcx hl.1 (k_count l hlt D cI A V C p1 u hu _) tl_L_15 ti_X11_count tz_X11_count tn_X11 tc_X11_count tm_X11_count rfl rfl ⟨Nat.le_of_ble_eq_true rfl, Nat.le_of_ble_eq_true rfl⟩ hK hX hS hA hP hD (List.perm_append_singleton _ _).symm cw_root rfl rfl rfl (Nat.le_of_ble_eq_true rfl) dL_count_4 ⟨Nat.le_of_ble_eq_true rfl, Nat.le_of_ble_eq_true rfl⟩) hP hD hS hA (List.perm_append_singleton _ _).symm (fun _ => (List.perm_append_singleton _ _).symm) (fun V1 ce q9 H locs hx0 hP hD hS hce hcv hcl => ?_) (fun V1 H locs hx0 hP hD hS => ?_)
  · have hf := (if_neg hx0).symm.trans hf
    by_cases hxK : u.1 = 1
    · obtain rfl := Option.some.inj ((if_pos hxK).symm.trans hf)
      refine zx_catch (own := RL) (name := nNSE) (E := nNSE) (ce := ce) hown [] (exL (0, 9, 12, 18)) [] (htab.trans rfl) (fun z hz => absurd hz List.not_mem_nil) rfl (by decide) (hts _ tq_L_18) (zx_cNSE hK) hce hcv (by rw [hxK] at hcl; exact hcl) ?_
      refine lv_astore_n (lv' := [(3, .ref q9), (0, .ref A.1), (1, .int p1), (2, .ref ho)]) hx hb dL_count_12 rfl hl (by decide) rfl (fun ls hl => ?_)
      refine lv_iconst (v := 1) hx hb dL_count_13 (by decide) ?_
      exact hret V1 _ _ _ _ _ _ (Nat.le_of_ble_eq_true rfl) (Nat.le_of_ble_eq_true rfl) hP hD hS dL_count_14
    · cases ((if_neg hxK).symm.trans hf)
  · obtain rfl := Option.some.inj ((if_pos hx0).symm.trans hf)
    refine lv_i2l hx hb dL_count_7 rfl ?_
    refine va_last (a := ho) hx hb hK.1 hP hD hS 0 2 rfl rfl (i := 0) vp_in01 dL_count_8 (fun H locs hP hD hS => ?_)
    refine lv_goto (tgt := 15) hx hb dL_count_9 (by decide) ?_
    refine lv_iconst (v := 0) hx hb dL_count_15 (by decide) ?_
    exact hret V1 _ _ _ _ _ _ (Nat.le_of_ble_eq_true rfl) (Nat.le_of_ble_eq_true rfl) hP hD hS dL_count_16
abbrev rmL_word : Room := { frames := 7, cells := 1, slots := 6, locals := 105 }
def pL_word (C : CS) (o : Nat → Int64) (p1 : Int32) (p2 : Int32) : Option (Int32 × (Nat → Int64) × CS) := hH1 1 (pX_word C p1 p2) o
set_option maxHeartbeats 4000000 in
set_option maxRecDepth 100000 in
theorem h_word (l : Launch) (hlt : l.stackTraces = false) (D : va_G) (cI : ClassId) (A : CAd) (ho : Nat) (V : CV) (C : CS) (o : Nat → Int64) (p1 : Int32) (p2 : Int32) (R : Int32 × (Nat → Int64) × CS) (hf : pL_word C o p1 p2 = some R) (sz : Nat) : Met l yL_word (Cond.codeWith yL_word cL_word 5 (some .int) hL_word :: TB) rmL_word (Pz D cI [.ref A.1, .int p1, .int p2, .ref ho] (ow D cI A ho V o C) sz) (Rin D (ow D cI A ho V o C) R.1 (fun V => ow D cI A ho V R.2.1 R.2.2) sz) 1 6 (va_A (ow D cI A ho V o C) sz) := by
  refine z_begin_h (own := RL) (fun V => ow D cI A ho V R.2.1 R.2.2) R.1 1 6 (by decide +kernel) rfl (Nat.le_of_ble_eq_true rfl) ?_ sz
  intro p e s m args below meth c ls Q A9 hx hb hml htab hts hcx hown hK hX hA hP hD hS hl hret
  have hl : lv_has ls 5 [(0, .ref A.1), (1, .int p1), (2, .int p2), (3, .ref ho)] := hl
  obtain ⟨u, hu, hf⟩ := bd_some hf
  refine lv_aload_n hx hb dL_word_0 rfl (lv_at hl 3 rfl) ?_
  refine lv_iconst (v := 0) hx hb dL_word_1 (by decide) ?_
  refine lv_aload_n hx hb dL_word_2 rfl (lv_at hl 0 rfl) ?_
  refine lv_iload_n hx hb dL_word_3 rfl (lv_at hl 1 rfl) ?_
  refine lv_iload_n hx hb dL_word_4 rfl (lv_at hl 2 rfl) ?_
  refine z_xc (ws1 := fun V => ow D cI A ho V o u.2.2) (fr := [(ho, .inl (D.1 101, 1, .inr (.inl o)))]) (z_xV (rest := [.int 0, .ref ho]) (fr := [(ho, .inl (D.1 101, 1, .inr (.inl o)))]) (ws := ow D cI A ho V o C) (ci := 11) (b := A.1) hx hb hml hown hcx hl.1 (k_word l hlt D cI A V C p1 p2 u hu _) tl_L_20 ti_X11_word tz_X11_word tn_X11 tc_X11_word tm_X11_word rfl rfl ⟨Nat.le_of_ble_eq_true rfl, Nat.le_of_ble_eq_true rfl⟩ hK hX hS hA hP hD (List.perm_append_singleton _ _).symm cw_root rfl rfl rfl (Nat.le_of_ble_eq_true rfl) dL_word_5 ⟨Nat.le_of_ble_eq_true rfl, Nat.le_of_ble_eq_true rfl⟩) hP hD hS hA (List.perm_append_singleton _ _).symm (fun _ => (List.perm_append_singleton _ _).symm) (fun V1 ce q9 H locs hx0 hP hD hS hce hcv hcl => ?_) (fun V1 H locs hx0 hP hD hS => ?_)
  · have hf := (if_neg hx0).symm.trans hf
    by_cases hxK : u.1 = 1
    · obtain rfl := Option.some.inj ((if_pos hxK).symm.trans hf)
      refine zx_catch (own := RL) (name := nNSE) (E := nNSE) (ce := ce) hown [] (exL (0, 10, 13, 18)) [] (htab.trans rfl) (fun z hz => absurd hz List.not_mem_nil) rfl (by decide) (hts _ tq_L_18) (zx_cNSE hK) hce hcv (by rw [hxK] at hcl; exact hcl) ?_
      refine lv_astore (lv' := [(4, .ref q9), (0, .ref A.1), (1, .int p1), (2, .int p2), (3, .ref ho)]) hx hb dL_word_13 hl (by decide) rfl (fun ls hl => ?_)
      refine lv_iconst (v := 1) hx hb dL_word_15 (by decide) ?_
      exact hret V1 _ _ _ _ _ _ (Nat.le_of_ble_eq_true rfl) (Nat.le_of_ble_eq_true rfl) hP hD hS dL_word_16
    · cases ((if_neg hxK).symm.trans hf)
  · obtain rfl := Option.some.inj ((if_pos hx0).symm.trans hf)
    refine lv_i2l hx hb dL_word_8 rfl ?_
    refine va_last (a := ho) hx hb hK.1 hP hD hS 0 2 rfl rfl (i := 0) vp_in01 dL_word_9 (fun H locs hP hD hS => ?_)
    refine lv_goto (tgt := 17) hx hb dL_word_10 (by decide) ?_
    refine lv_iconst (v := 0) hx hb dL_word_17 (by decide) ?_
    exact hret V1 _ _ _ _ _ _ (Nat.le_of_ble_eq_true rfl) (Nat.le_of_ble_eq_true rfl) hP hD hS dL_word_18
abbrev rmL_line : Room := { frames := 7, cells := 1, slots := 6, locals := 105 }
def pL_line (C : CS) (o : Nat → Int64) (p1 : Int32) (p2 : Int32) : Option (Int32 × (Nat → Int64) × CS) := hH1 1 (pX_line C p1 p2) o
set_option maxHeartbeats 4000000 in
set_option maxRecDepth 100000 in
theorem h_line (l : Launch) (hlt : l.stackTraces = false) (D : va_G) (cI : ClassId) (A : CAd) (ho : Nat) (V : CV) (C : CS) (o : Nat → Int64) (p1 : Int32) (p2 : Int32) (R : Int32 × (Nat → Int64) × CS) (hf : pL_line C o p1 p2 = some R) (sz : Nat) : Met l yL_line (Cond.codeWith yL_line cL_line 5 (some .int) hL_line :: TB) rmL_line (Pz D cI [.ref A.1, .int p1, .int p2, .ref ho] (ow D cI A ho V o C) sz) (Rin D (ow D cI A ho V o C) R.1 (fun V => ow D cI A ho V R.2.1 R.2.2) sz) 1 6 (va_A (ow D cI A ho V o C) sz) := by
  refine z_begin_h (own := RL) (fun V => ow D cI A ho V R.2.1 R.2.2) R.1 1 6 (by decide +kernel) rfl (Nat.le_of_ble_eq_true rfl) ?_ sz
  intro p e s m args below meth c ls Q A9 hx hb hml htab hts hcx hown hK hX hA hP hD hS hl hret
  have hl : lv_has ls 5 [(0, .ref A.1), (1, .int p1), (2, .int p2), (3, .ref ho)] := hl
  obtain ⟨u, hu, hf⟩ := bd_some hf
  refine lv_aload_n hx hb dL_line_0 rfl (lv_at hl 3 rfl) ?_
  refine lv_iconst (v := 0) hx hb dL_line_1 (by decide) ?_
  refine lv_aload_n hx hb dL_line_2 rfl (lv_at hl 0 rfl) ?_
  refine lv_iload_n hx hb dL_line_3 rfl (lv_at hl 1 rfl) ?_
  refine lv_iload_n hx hb dL_line_4 rfl (lv_at hl 2 rfl) ?_
  refine z_xc (ws1 := fun V => ow D cI A ho V o u.2.2) (fr := [(ho, .inl (D.1 101, 1, .inr (.inl o)))]) (z_xV (rest := [.int 0, .ref ho]) (fr := [(ho, .inl (D.1 101, 1, .inr (.inl o)))]) (ws := ow D cI A ho V o C) (ci := 11) (b := A.1) hx hb hml hown hcx hl.1 (k_line l hlt D cI A V C p1 p2 u hu _) tl_L_24 ti_X11_line tz_X11_line tn_X11 tc_X11_line tm_X11_line rfl rfl ⟨Nat.le_of_ble_eq_true rfl, Nat.le_of_ble_eq_true rfl⟩ hK hX hS hA hP hD (List.perm_append_singleton _ _).symm cw_root rfl rfl rfl (Nat.le_of_ble_eq_true rfl) dL_line_5 ⟨Nat.le_of_ble_eq_true rfl, Nat.le_of_ble_eq_true rfl⟩) hP hD hS hA (List.perm_append_singleton _ _).symm (fun _ => (List.perm_append_singleton _ _).symm) (fun V1 ce q9 H locs hx0 hP hD hS hce hcv hcl => ?_) (fun V1 H locs hx0 hP hD hS => ?_)
  · have hf := (if_neg hx0).symm.trans hf
    by_cases hxK : u.1 = 1
    · obtain rfl := Option.some.inj ((if_pos hxK).symm.trans hf)
      refine zx_catch (own := RL) (name := nNSE) (E := nNSE) (ce := ce) hown [] (exL (0, 10, 13, 18)) [] (htab.trans rfl) (fun z hz => absurd hz List.not_mem_nil) rfl (by decide) (hts _ tq_L_18) (zx_cNSE hK) hce hcv (by rw [hxK] at hcl; exact hcl) ?_
      refine lv_astore (lv' := [(4, .ref q9), (0, .ref A.1), (1, .int p1), (2, .int p2), (3, .ref ho)]) hx hb dL_line_13 hl (by decide) rfl (fun ls hl => ?_)
      refine lv_iconst (v := 1) hx hb dL_line_15 (by decide) ?_
      exact hret V1 _ _ _ _ _ _ (Nat.le_of_ble_eq_true rfl) (Nat.le_of_ble_eq_true rfl) hP hD hS dL_line_16
    · cases ((if_neg hxK).symm.trans hf)
  · obtain rfl := Option.some.inj ((if_pos hx0).symm.trans hf)
    refine lv_i2l hx hb dL_line_8 rfl ?_
    refine va_last (a := ho) hx hb hK.1 hP hD hS 0 2 rfl rfl (i := 0) vp_in01 dL_line_9 (fun H locs hP hD hS => ?_)
    refine lv_goto (tgt := 17) hx hb dL_line_10 (by decide) ?_
    refine lv_iconst (v := 0) hx hb dL_line_17 (by decide) ?_
    exact hret V1 _ _ _ _ _ _ (Nat.le_of_ble_eq_true rfl) (Nat.le_of_ble_eq_true rfl) hP hD hS dL_line_18
abbrev rmL_micro : Room := { frames := 7, cells := 1, slots := 6, locals := 108 }
def pL_micro (C : CS) (o : Nat → Int64) (p1 : Int32) (p2 : Int32) : Option (Int32 × (Nat → Int64) × CS) := hH1 1 (pX_micro C p1 p2) o
set_option maxHeartbeats 4000000 in
set_option maxRecDepth 100000 in
theorem h_micro (l : Launch) (hlt : l.stackTraces = false) (D : va_G) (cI : ClassId) (A : CAd) (ho : Nat) (V : CV) (C : CS) (o : Nat → Int64) (p1 : Int32) (p2 : Int32) (R : Int32 × (Nat → Int64) × CS) (hf : pL_micro C o p1 p2 = some R) (sz : Nat) : Met l yL_micro (Cond.codeWith yL_micro cL_micro 5 (some .int) hL_micro :: TB) rmL_micro (Pz D cI [.ref A.1, .int p1, .int p2, .ref ho] (ow D cI A ho V o C) sz) (Rin D (ow D cI A ho V o C) R.1 (fun V => ow D cI A ho V R.2.1 R.2.2) sz) 1 6 (va_A (ow D cI A ho V o C) sz) := by
  refine z_begin_h (own := RL) (fun V => ow D cI A ho V R.2.1 R.2.2) R.1 1 6 (by decide +kernel) rfl (Nat.le_of_ble_eq_true rfl) ?_ sz
  intro p e s m args below meth c ls Q A9 hx hb hml htab hts hcx hown hK hX hA hP hD hS hl hret
  have hl : lv_has ls 5 [(0, .ref A.1), (1, .int p1), (2, .int p2), (3, .ref ho)] := hl
  obtain ⟨u, hu, hf⟩ := bd_some hf
  refine lv_aload_n hx hb dL_micro_0 rfl (lv_at hl 3 rfl) ?_
  refine lv_iconst (v := 0) hx hb dL_micro_1 (by decide) ?_
  refine lv_aload_n hx hb dL_micro_2 rfl (lv_at hl 0 rfl) ?_
  refine lv_iload_n hx hb dL_micro_3 rfl (lv_at hl 1 rfl) ?_
  refine lv_iload_n hx hb dL_micro_4 rfl (lv_at hl 2 rfl) ?_
  refine z_xc (ws1 := fun V => ow D cI A ho V o u.2.2) (fr := [(ho, .inl (D.1 101, 1, .inr (.inl o)))]) (z_xV (rest := [.int 0, .ref ho]) (fr := [(ho, .inl (D.1 101, 1, .inr (.inl o)))]) (ws := ow D cI A ho V o C) (ci := 11) (b := A.1) hx hb hml hown hcx hl.1 (k_micro l hlt D cI A V C p1 p2 u hu _) tl_L_28 ti_X11_micro tz_X11_micro tn_X11 tc_X11_micro tm_X11_micro rfl rfl ⟨Nat.le_of_ble_eq_true rfl, Nat.le_of_ble_eq_true rfl⟩ hK hX hS hA hP hD (List.perm_append_singleton _ _).symm cw_root rfl rfl rfl (Nat.le_of_ble_eq_true rfl) dL_micro_5 ⟨Nat.le_of_ble_eq_true rfl, Nat.le_of_ble_eq_true rfl⟩) hP hD hS hA (List.perm_append_singleton _ _).symm (fun _ => (List.perm_append_singleton _ _).symm) (fun V1 ce q9 H locs hx0 hP hD hS hce hcv hcl => ?_) (fun V1 H locs hx0 hP hD hS => ?_)
  · have hf := (if_neg hx0).symm.trans hf
    by_cases hxK : u.1 = 1
    · obtain rfl := Option.some.inj ((if_pos hxK).symm.trans hf)
      refine zx_catch (own := RL) (name := nNSE) (E := nNSE) (ce := ce) hown [] (exL (0, 10, 13, 18)) [] (htab.trans rfl) (fun z hz => absurd hz List.not_mem_nil) rfl (by decide) (hts _ tq_L_18) (zx_cNSE hK) hce hcv (by rw [hxK] at hcl; exact hcl) ?_
      refine lv_astore (lv' := [(4, .ref q9), (0, .ref A.1), (1, .int p1), (2, .int p2), (3, .ref ho)]) hx hb dL_micro_13 hl (by decide) rfl (fun ls hl => ?_)
      refine lv_iconst (v := 1) hx hb dL_micro_15 (by decide) ?_
      exact hret V1 _ _ _ _ _ _ (Nat.le_of_ble_eq_true rfl) (Nat.le_of_ble_eq_true rfl) hP hD hS dL_micro_16
    · cases ((if_neg hxK).symm.trans hf)
  · obtain rfl := Option.some.inj ((if_pos hx0).symm.trans hf)
    refine lv_i2l hx hb dL_micro_8 rfl ?_
    refine va_last (a := ho) hx hb hK.1 hP hD hS 0 2 rfl rfl (i := 0) vp_in01 dL_micro_9 (fun H locs hP hD hS => ?_)
    refine lv_goto (tgt := 17) hx hb dL_micro_10 (by decide) ?_
    refine lv_iconst (v := 0) hx hb dL_micro_17 (by decide) ?_
    exact hret V1 _ _ _ _ _ _ (Nat.le_of_ble_eq_true rfl) (Nat.le_of_ble_eq_true rfl) hP hD hS dL_micro_18
abbrev rmL_shape : Room := { frames := 7, cells := 1, slots := 6, locals := 105 }
def pL_shape (C : CS) (o : Nat → Int64) (p1 : Int32) (p2 : Int32) : Option (Int32 × (Nat → Int64) × CS) := hH1 1 (pX_shape C p1 p2) o
set_option maxHeartbeats 4000000 in
set_option maxRecDepth 100000 in
theorem h_shape (l : Launch) (hlt : l.stackTraces = false) (D : va_G) (cI : ClassId) (A : CAd) (ho : Nat) (V : CV) (C : CS) (o : Nat → Int64) (p1 : Int32) (p2 : Int32) (R : Int32 × (Nat → Int64) × CS) (hf : pL_shape C o p1 p2 = some R) (sz : Nat) : Met l yL_shape (Cond.codeWith yL_shape cL_shape 5 (some .int) hL_shape :: TB) rmL_shape (Pz D cI [.ref A.1, .int p1, .int p2, .ref ho] (ow D cI A ho V o C) sz) (Rin D (ow D cI A ho V o C) R.1 (fun V => ow D cI A ho V R.2.1 R.2.2) sz) 1 6 (va_A (ow D cI A ho V o C) sz) := by
  refine z_begin_h (own := RL) (fun V => ow D cI A ho V R.2.1 R.2.2) R.1 1 6 (by decide +kernel) rfl (Nat.le_of_ble_eq_true rfl) ?_ sz
  intro p e s m args below meth c ls Q A9 hx hb hml htab hts hcx hown hK hX hA hP hD hS hl hret
  have hl : lv_has ls 5 [(0, .ref A.1), (1, .int p1), (2, .int p2), (3, .ref ho)] := hl
  obtain ⟨u, hu, hf⟩ := bd_some hf
  refine lv_aload_n hx hb dL_shape_0 rfl (lv_at hl 3 rfl) ?_
  refine lv_iconst (v := 0) hx hb dL_shape_1 (by decide) ?_
  refine lv_aload_n hx hb dL_shape_2 rfl (lv_at hl 0 rfl) ?_
  refine lv_iload_n hx hb dL_shape_3 rfl (lv_at hl 1 rfl) ?_
  refine lv_iload_n hx hb dL_shape_4 rfl (lv_at hl 2 rfl) ?_
  refine z_xc (ws1 := fun V => ow D cI A ho V o u.2.2) (fr := [(ho, .inl (D.1 101, 1, .inr (.inl o)))]) (z_xV (rest := [.int 0, .ref ho]) (fr := [(ho, .inl (D.1 101, 1, .inr (.inl o)))]) (ws := ow D cI A ho V o C) (ci := 11) (b := A.1) hx hb hml hown hcx hl.1 (k_shape l hlt D cI A V C p1 p2 u hu _) tl_L_31 ti_X11_shape tz_X11_shape tn_X11 tc_X11_shape tm_X11_shape rfl rfl ⟨Nat.le_of_ble_eq_true rfl, Nat.le_of_ble_eq_true rfl⟩ hK hX hS hA hP hD (List.perm_append_singleton _ _).symm cw_root rfl rfl rfl (Nat.le_of_ble_eq_true rfl) dL_shape_5 ⟨Nat.le_of_ble_eq_true rfl, Nat.le_of_ble_eq_true rfl⟩) hP hD hS hA (List.perm_append_singleton _ _).symm (fun _ => (List.perm_append_singleton _ _).symm) (fun V1 ce q9 H locs hx0 hP hD hS hce hcv hcl => ?_) (fun V1 H locs hx0 hP hD hS => ?_)
  · have hf := (if_neg hx0).symm.trans hf
    by_cases hxK : u.1 = 1
    · obtain rfl := Option.some.inj ((if_pos hxK).symm.trans hf)
      refine zx_catch (own := RL) (name := nNSE) (E := nNSE) (ce := ce) hown [] (exL (0, 10, 13, 18)) [] (htab.trans rfl) (fun z hz => absurd hz List.not_mem_nil) rfl (by decide) (hts _ tq_L_18) (zx_cNSE hK) hce hcv (by rw [hxK] at hcl; exact hcl) ?_
      refine lv_astore (lv' := [(4, .ref q9), (0, .ref A.1), (1, .int p1), (2, .int p2), (3, .ref ho)]) hx hb dL_shape_13 hl (by decide) rfl (fun ls hl => ?_)
      refine lv_iconst (v := 1) hx hb dL_shape_15 (by decide) ?_
      exact hret V1 _ _ _ _ _ _ (Nat.le_of_ble_eq_true rfl) (Nat.le_of_ble_eq_true rfl) hP hD hS dL_shape_16
    · cases ((if_neg hxK).symm.trans hf)
  · obtain rfl := Option.some.inj ((if_pos hx0).symm.trans hf)
    refine lv_i2l hx hb dL_shape_8 rfl ?_
    refine va_last (a := ho) hx hb hK.1 hP hD hS 0 2 rfl rfl (i := 0) vp_in01 dL_shape_9 (fun H locs hP hD hS => ?_)
    refine lv_goto (tgt := 17) hx hb dL_shape_10 (by decide) ?_
    refine lv_iconst (v := 0) hx hb dL_shape_17 (by decide) ?_
    exact hret V1 _ _ _ _ _ _ (Nat.le_of_ble_eq_true rfl) (Nat.le_of_ble_eq_true rfl) hP hD hS dL_shape_18
abbrev rmL_evict : Room := { frames := 7, cells := 11, slots := 432, locals := 145 }
def pL_evict (C : CS) (o : Nat → Int64) (p1 : Int32) (p2 : Int32) : Option (Int32 × (Nat → Int64) × CS) := hH1 1 (pX_evict C p1 p2) o
set_option maxHeartbeats 4000000 in
set_option maxRecDepth 100000 in
theorem h_evict (l : Launch) (hlt : l.stackTraces = false) (D : va_G) (cI : ClassId) (A : CAd) (ho : Nat) (V : CV) (C : CS) (o : Nat → Int64) (p1 : Int32) (p2 : Int32) (R : Int32 × (Nat → Int64) × CS) (hf : pL_evict C o p1 p2 = some R) (sz : Nat) : Met l yL_evict (Cond.codeWith yL_evict cL_evict 5 (some .int) hL_evict :: TB) rmL_evict (Pz D cI [.ref A.1, .int p1, .int p2, .ref ho] (ow D cI A ho V o C) sz) (Rin D (ow D cI A ho V o C) R.1 (fun V => ow D cI A ho V R.2.1 R.2.2) sz) 11 432 (va_A (ow D cI A ho V o C) sz) := by
  refine z_begin_h (own := RL) (fun V => ow D cI A ho V R.2.1 R.2.2) R.1 11 432 (by decide +kernel) rfl (Nat.le_of_ble_eq_true rfl) ?_ sz
  intro p e s m args below meth c ls Q A9 hx hb hml htab hts hcx hown hK hX hA hP hD hS hl hret
  have hl : lv_has ls 5 [(0, .ref A.1), (1, .int p1), (2, .int p2), (3, .ref ho)] := hl
  obtain ⟨u, hu, hf⟩ := bd_some hf
  refine lv_aload_n hx hb dL_evict_0 rfl (lv_at hl 3 rfl) ?_
  refine lv_iconst (v := 0) hx hb dL_evict_1 (by decide) ?_
  refine lv_aload_n hx hb dL_evict_2 rfl (lv_at hl 0 rfl) ?_
  refine lv_iload_n hx hb dL_evict_3 rfl (lv_at hl 1 rfl) ?_
  refine lv_iload_n hx hb dL_evict_4 rfl (lv_at hl 2 rfl) ?_
  refine z_xc (ws1 := fun V => ow D cI A ho V o u.2.2) (fr := [(ho, .inl (D.1 101, 1, .inr (.inl o)))]) (z_xV (rest := [.int 0, .ref ho]) (fr := [(ho, .inl (D.1 101, 1, .inr (.inl o)))]) (ws := ow D cI A ho V o C) (ci := 11) (b := A.1) hx hb hml hown hcx hl.1 (k_evict l hlt D cI A V C p1 p2 u hu _) tl_L_34 ti_X11_evict tz_X11_evict tn_X11 tc_X11_evict tm_X11_evict rfl rfl ⟨Nat.le_of_ble_eq_true rfl, Nat.le_of_ble_eq_true rfl⟩ hK hX hS hA hP hD (List.perm_append_singleton _ _).symm cw_root rfl rfl rfl (Nat.le_of_ble_eq_true rfl) dL_evict_5 ⟨Nat.le_of_ble_eq_true rfl, Nat.le_of_ble_eq_true rfl⟩) hP hD hS hA (List.perm_append_singleton _ _).symm (fun _ => (List.perm_append_singleton _ _).symm) (fun V1 ce q9 H locs hx0 hP hD hS hce hcv hcl => ?_) (fun V1 H locs hx0 hP hD hS => ?_)
  · have hf := (if_neg hx0).symm.trans hf
    by_cases hxK : u.1 = 1
    · obtain rfl := Option.some.inj ((if_pos hxK).symm.trans hf)
      refine zx_catch (own := RL) (name := nNSE) (E := nNSE) (ce := ce) hown [] (exL (0, 10, 13, 18)) [] (htab.trans rfl) (fun z hz => absurd hz List.not_mem_nil) rfl (by decide) (hts _ tq_L_18) (zx_cNSE hK) hce hcv (by rw [hxK] at hcl; exact hcl) ?_
      refine lv_astore (lv' := [(4, .ref q9), (0, .ref A.1), (1, .int p1), (2, .int p2), (3, .ref ho)]) hx hb dL_evict_13 hl (by decide) rfl (fun ls hl => ?_)
      refine lv_iconst (v := 1) hx hb dL_evict_15 (by decide) ?_
      exact hret V1 _ _ _ _ _ _ (Nat.le_of_ble_eq_true rfl) (Nat.le_of_ble_eq_true rfl) hP hD hS dL_evict_16
    · cases ((if_neg hxK).symm.trans hf)
  · obtain rfl := Option.some.inj ((if_pos hx0).symm.trans hf)
    refine lv_i2l hx hb dL_evict_8 rfl ?_
    refine va_last (a := ho) hx hb hK.1 hP hD hS 0 2 rfl rfl (i := 0) vp_in01 dL_evict_9 (fun H locs hP hD hS => ?_)
    refine lv_goto (tgt := 17) hx hb dL_evict_10 (by decide) ?_
    refine lv_iconst (v := 0) hx hb dL_evict_17 (by decide) ?_
    exact hret V1 _ _ _ _ _ _ (Nat.le_of_ble_eq_true rfl) (Nat.le_of_ble_eq_true rfl) hP hD hS dL_evict_18
abbrev rmL_later : Room := { frames := 7, cells := 11, slots := 432, locals := 146 }
def pL_later (C : CS) (o : Nat → Int64) (p1 : Int32) (p2 : Int32) (p3 : Int32) : Option (Int32 × (Nat → Int64) × CS) := hH1 1 (pX_later C p1 p2 p3) o
set_option maxHeartbeats 4000000 in
set_option maxRecDepth 100000 in
theorem h_later (l : Launch) (hlt : l.stackTraces = false) (D : va_G) (cI : ClassId) (A : CAd) (ho : Nat) (V : CV) (C : CS) (o : Nat → Int64) (p1 : Int32) (p2 : Int32) (p3 : Int32) (R : Int32 × (Nat → Int64) × CS) (hf : pL_later C o p1 p2 p3 = some R) (sz : Nat) : Met l yL_later (Cond.codeWith yL_later cL_later 6 (some .int) hL_later :: TB) rmL_later (Pz D cI [.ref A.1, .int p1, .int p2, .int p3, .ref ho] (ow D cI A ho V o C) sz) (Rin D (ow D cI A ho V o C) R.1 (fun V => ow D cI A ho V R.2.1 R.2.2) sz) 11 432 (va_A (ow D cI A ho V o C) sz) := by
  refine z_begin_h (own := RL) (fun V => ow D cI A ho V R.2.1 R.2.2) R.1 11 432 (by decide +kernel) rfl (Nat.le_of_ble_eq_true rfl) ?_ sz
  intro p e s m args below meth c ls Q A9 hx hb hml htab hts hcx hown hK hX hA hP hD hS hl hret
  have hl : lv_has ls 6 [(0, .ref A.1), (1, .int p1), (2, .int p2), (3, .int p3), (4, .ref ho)] := hl
  obtain ⟨u, hu, hf⟩ := bd_some hf
  refine lv_aload hx hb dL_later_0 (lv_at hl 4 rfl) ?_
  refine lv_iconst (v := 0) hx hb dL_later_2 (by decide) ?_
  refine lv_aload_n hx hb dL_later_3 rfl (lv_at hl 0 rfl) ?_
  refine lv_iload_n hx hb dL_later_4 rfl (lv_at hl 1 rfl) ?_
  refine lv_iload_n hx hb dL_later_5 rfl (lv_at hl 2 rfl) ?_
  refine lv_iload_n hx hb dL_later_6 rfl (lv_at hl 3 rfl) ?_
  refine z_xc (ws1 := fun V => ow D cI A ho V o u.2.2) (fr := [(ho, .inl (D.1 101, 1, .inr (.inl o)))]) (z_xV (rest := [.int 0, .ref ho]) (fr := [(ho, .inl (D.1 101, 1, .inr (.inl o)))]) (ws := ow D cI A ho V o C) (ci := 11) (b := A.1) hx hb hml hown hcx hl.1 (k_later l hlt D cI A V C p1 p2 p3 u hu _) tl_L_37 ti_X11_later tz_X11_later tn_X11 tc_X11_later tm_X11_later rfl rfl ⟨Nat.le_of_ble_eq_true rfl, Nat.le_of_ble_eq_true rfl⟩ hK hX hS hA hP hD (List.perm_append_singleton _ _).symm cw_root rfl rfl rfl (Nat.le_of_ble_eq_true rfl) dL_later_7 ⟨Nat.le_of_ble_eq_true rfl, Nat.le_of_ble_eq_true rfl⟩) hP hD hS hA (List.perm_append_singleton _ _).symm (fun _ => (List.perm_append_singleton _ _).symm) (fun V1 ce q9 H locs hx0 hP hD hS hce hcv hcl => ?_) (fun V1 H locs hx0 hP hD hS => ?_)
  · have hf := (if_neg hx0).symm.trans hf
    by_cases hxK : u.1 = 1
    · obtain rfl := Option.some.inj ((if_pos hxK).symm.trans hf)
      refine zx_catch (own := RL) (name := nNSE) (E := nNSE) (ce := ce) hown [] (exL (0, 12, 15, 18)) [] (htab.trans rfl) (fun z hz => absurd hz List.not_mem_nil) rfl (by decide) (hts _ tq_L_18) (zx_cNSE hK) hce hcv (by rw [hxK] at hcl; exact hcl) ?_
      refine lv_astore (lv' := [(5, .ref q9), (0, .ref A.1), (1, .int p1), (2, .int p2), (3, .int p3), (4, .ref ho)]) hx hb dL_later_15 hl (by decide) rfl (fun ls hl => ?_)
      refine lv_iconst (v := 1) hx hb dL_later_17 (by decide) ?_
      exact hret V1 _ _ _ _ _ _ (Nat.le_of_ble_eq_true rfl) (Nat.le_of_ble_eq_true rfl) hP hD hS dL_later_18
    · cases ((if_neg hxK).symm.trans hf)
  · obtain rfl := Option.some.inj ((if_pos hx0).symm.trans hf)
    refine lv_i2l hx hb dL_later_10 rfl ?_
    refine va_last (a := ho) hx hb hK.1 hP hD hS 0 2 rfl rfl (i := 0) vp_in01 dL_later_11 (fun H locs hP hD hS => ?_)
    refine lv_goto (tgt := 19) hx hb dL_later_12 (by decide) ?_
    refine lv_iconst (v := 0) hx hb dL_later_19 (by decide) ?_
    exact hret V1 _ _ _ _ _ _ (Nat.le_of_ble_eq_true rfl) (Nat.le_of_ble_eq_true rfl) hP hD hS dL_later_20
abbrev rmL_site : Room := { frames := 7, cells := 11, slots := 432, locals := 143 }
def pL_site (C : CS) (o : Nat → Int64) (p1 : Int32) : Option (Int32 × (Nat → Int64) × CS) := hH1 1 (pX_site C p1) o
set_option maxHeartbeats 4000000 in
set_option maxRecDepth 100000 in
theorem h_site (l : Launch) (hlt : l.stackTraces = false) (D : va_G) (cI : ClassId) (A : CAd) (ho : Nat) (V : CV) (C : CS) (o : Nat → Int64) (p1 : Int32) (R : Int32 × (Nat → Int64) × CS) (hf : pL_site C o p1 = some R) (sz : Nat) : Met l yL_site (Cond.codeWith yL_site cL_site 4 (some .int) hL_site :: TB) rmL_site (Pz D cI [.ref A.1, .int p1, .ref ho] (ow D cI A ho V o C) sz) (Rin D (ow D cI A ho V o C) R.1 (fun V => ow D cI A ho V R.2.1 R.2.2) sz) 11 432 (va_A (ow D cI A ho V o C) sz) := by
  refine z_begin_h (own := RL) (fun V => ow D cI A ho V R.2.1 R.2.2) R.1 11 432 (by decide +kernel) rfl (Nat.le_of_ble_eq_true rfl) ?_ sz
  intro p e s m args below meth c ls Q A9 hx hb hml htab hts hcx hown hK hX hA hP hD hS hl hret
  have hl : lv_has ls 4 [(0, .ref A.1), (1, .int p1), (2, .ref ho)] := hl
  obtain ⟨u, hu, hf⟩ := bd_some hf
  refine lv_aload_n hx hb dL_site_0 rfl (lv_at hl 2 rfl) ?_
  refine lv_iconst (v := 0) hx hb dL_site_1 (by decide) ?_
  refine lv_aload_n hx hb dL_site_2 rfl (lv_at hl 0 rfl) ?_
  refine lv_iload_n hx hb dL_site_3 rfl (lv_at hl 1 rfl) ?_
  refine z_xc (ws1 := fun V => ow D cI A ho V o u.2.2) (fr := [(ho, .inl (D.1 101, 1, .inr (.inl o)))]) (z_xV (rest := [.int 0, .ref ho]) (fr := [(ho, .inl (D.1 101, 1, .inr (.inl o)))]) (ws := ow D cI A ho V o C) (ci := 11) (b := A.1) hx hb hml hown hcx hl.1 (k_site l hlt D cI A V C p1 u hu _) tl_L_41 ti_X11_site tz_X11_site tn_X11 tc_X11_site tm_X11_site rfl rfl ⟨Nat.le_of_ble_eq_true rfl, Nat.le_of_ble_eq_true rfl⟩ hK hX hS hA hP hD (List.perm_append_singleton _ _).symm cw_root rfl rfl rfl (Nat.le_of_ble_eq_true rfl) dL_site_4 ⟨Nat.le_of_ble_eq_true rfl, Nat.le_of_ble_eq_true rfl⟩) hP hD hS hA (List.perm_append_singleton _ _).symm (fun _ => (List.perm_append_singleton _ _).symm) (fun V1 ce q9 H locs hx0 hP hD hS hce hcv hcl => ?_) (fun V1 H locs hx0 hP hD hS => ?_)
  · have hf := (if_neg hx0).symm.trans hf
    by_cases hxK : u.1 = 1
    · obtain rfl := Option.some.inj ((if_pos hxK).symm.trans hf)
      refine zx_catch (own := RL) (name := nNSE) (E := nNSE) (ce := ce) hown [] (exL (0, 9, 12, 18)) [] (htab.trans rfl) (fun z hz => absurd hz List.not_mem_nil) rfl (by decide) (hts _ tq_L_18) (zx_cNSE hK) hce hcv (by rw [hxK] at hcl; exact hcl) ?_
      refine lv_astore_n (lv' := [(3, .ref q9), (0, .ref A.1), (1, .int p1), (2, .ref ho)]) hx hb dL_site_12 rfl hl (by decide) rfl (fun ls hl => ?_)
      refine lv_iconst (v := 1) hx hb dL_site_13 (by decide) ?_
      exact hret V1 _ _ _ _ _ _ (Nat.le_of_ble_eq_true rfl) (Nat.le_of_ble_eq_true rfl) hP hD hS dL_site_14
    · cases ((if_neg hxK).symm.trans hf)
  · obtain rfl := Option.some.inj ((if_pos hx0).symm.trans hf)
    refine lv_i2l hx hb dL_site_7 rfl ?_
    refine va_last (a := ho) hx hb hK.1 hP hD hS 0 2 rfl rfl (i := 0) vp_in01 dL_site_8 (fun H locs hP hD hS => ?_)
    refine lv_goto (tgt := 15) hx hb dL_site_9 (by decide) ?_
    refine lv_iconst (v := 0) hx hb dL_site_15 (by decide) ?_
    exact hret V1 _ _ _ _ _ _ (Nat.le_of_ble_eq_true rfl) (Nat.le_of_ble_eq_true rfl) hP hD hS dL_site_16
abbrev rmL_recovered : Room := { frames := 7, cells := 1, slots := 6, locals := 108 }
def pL_recovered (C : CS) (o : Nat → Int64) (p1 : Int32) (p2 : Int32) : Option (Int32 × (Nat → Int64) × CS) := hH2 (pX_recovered C p1 p2) o
set_option maxHeartbeats 4000000 in
set_option maxRecDepth 100000 in
theorem h_recovered (l : Launch) (hlt : l.stackTraces = false) (D : va_G) (cI : ClassId) (A : CAd) (ho : Nat) (V : CV) (C : CS) (o : Nat → Int64) (p1 : Int32) (p2 : Int32) (R : Int32 × (Nat → Int64) × CS) (hf : pL_recovered C o p1 p2 = some R) (sz : Nat) : Met l yL_recovered (Cond.codeWith yL_recovered cL_recovered 5 (some .int) hL_recovered :: TB) rmL_recovered (Pz D cI [.ref A.1, .int p1, .int p2, .ref ho] (ow D cI A ho V o C) sz) (Rin D (ow D cI A ho V o C) R.1 (fun V => ow D cI A ho V R.2.1 R.2.2) sz) 1 6 (va_A (ow D cI A ho V o C) sz) := by
  refine z_begin_h (own := RL) (fun V => ow D cI A ho V R.2.1 R.2.2) R.1 1 6 (by decide +kernel) rfl (Nat.le_of_ble_eq_true rfl) ?_ sz
  intro p e s m args below meth c ls Q A9 hx hb hml htab hts hcx hown hK hX hA hP hD hS hl hret
  have hl : lv_has ls 5 [(0, .ref A.1), (1, .int p1), (2, .int p2), (3, .ref ho)] := hl
  obtain ⟨u, hu, hf⟩ := bd_some hf
  refine lv_aload_n hx hb dL_recovered_0 rfl (lv_at hl 3 rfl) ?_
  refine lv_iconst (v := 0) hx hb dL_recovered_1 (by decide) ?_
  refine lv_aload_n hx hb dL_recovered_2 rfl (lv_at hl 0 rfl) ?_
  refine lv_iload_n hx hb dL_recovered_3 rfl (lv_at hl 1 rfl) ?_
  refine lv_iload_n hx hb dL_recovered_4 rfl (lv_at hl 2 rfl) ?_
  refine z_xc (ws1 := fun V => ow D cI A ho V o u.2.2) (fr := [(ho, .inl (D.1 101, 1, .inr (.inl o)))]) (z_xV (rest := [.int 0, .ref ho]) (fr := [(ho, .inl (D.1 101, 1, .inr (.inl o)))]) (ws := ow D cI A ho V o C) (ci := 11) (b := A.1) hx hb hml hown hcx hl.1 (k_recovered l hlt D cI A V C p1 p2 u hu _) tl_L_44 ti_X11_recovered tz_X11_recovered tn_X11 tc_X11_recovered tm_X11_recovered rfl rfl ⟨Nat.le_of_ble_eq_true rfl, Nat.le_of_ble_eq_true rfl⟩ hK hX hS hA hP hD (List.perm_append_singleton _ _).symm cw_root rfl rfl rfl (Nat.le_of_ble_eq_true rfl) dL_recovered_5 ⟨Nat.le_of_ble_eq_true rfl, Nat.le_of_ble_eq_true rfl⟩) hP hD hS hA (List.perm_append_singleton _ _).symm (fun _ => (List.perm_append_singleton _ _).symm) (fun V1 ce q9 H locs hx0 hP hD hS hce hcv hcl => ?_) (fun V1 H locs hx0 hP hD hS => ?_)
  · have hf := (if_neg hx0).symm.trans hf
    by_cases hxK : u.1 = 1
    · obtain rfl := Option.some.inj ((if_pos hxK).symm.trans hf)
      refine zx_catch (own := RL) (name := nNSE) (E := nNSE) (ce := ce) hown [] (exL (0, 10, 13, 18)) [exL (0, 10, 17, 13)] (htab.trans rfl) (fun z hz => absurd hz List.not_mem_nil) rfl (by decide) (hts _ tq_L_18) (zx_cNSE hK) hce hcv (by rw [hxK] at hcl; exact hcl) ?_
      refine lv_astore (lv' := [(4, .ref q9), (0, .ref A.1), (1, .int p1), (2, .int p2), (3, .ref ho)]) hx hb dL_recovered_13 hl (by decide) rfl (fun ls hl => ?_)
      refine lv_iconst (v := 1) hx hb dL_recovered_15 (by decide) ?_
      exact hret V1 _ _ _ _ _ _ (Nat.le_of_ble_eq_true rfl) (Nat.le_of_ble_eq_true rfl) hP hD hS dL_recovered_16
    · have hf := (if_neg hxK).symm.trans hf
      by_cases hxK : u.1 = 2
      · obtain rfl := Option.some.inj ((if_pos hxK).symm.trans hf)
        refine zx_catch (own := RL) (name := nIAE) (E := nIAE) (ce := ce) hown [exL (0, 10, 13, 18)] (exL (0, 10, 17, 13)) [] (htab.trans rfl) (fun z hz => by
            obtain rfl := List.mem_singleton.mp hz
            exact Or.inr ⟨by decide, nNSE, hts _ tq_L_18, hK.2.2.2.2⟩) rfl (by decide) (hts _ tq_L_13) (zx_cIAE hK) hce hcv (by rw [hxK] at hcl; exact hcl) ?_
        refine lv_astore (lv' := [(4, .ref q9), (0, .ref A.1), (1, .int p1), (2, .int p2), (3, .ref ho)]) hx hb dL_recovered_17 hl (by decide) rfl (fun ls hl => ?_)
        refine lv_iconst (v := 2) hx hb dL_recovered_19 (by decide) ?_
        exact hret V1 _ _ _ _ _ _ (Nat.le_of_ble_eq_true rfl) (Nat.le_of_ble_eq_true rfl) hP hD hS dL_recovered_20
      · cases ((if_neg hxK).symm.trans hf)
  · obtain rfl := Option.some.inj ((if_pos hx0).symm.trans hf)
    refine lv_i2l hx hb dL_recovered_8 rfl ?_
    refine va_last (a := ho) hx hb hK.1 hP hD hS 0 2 rfl rfl (i := 0) vp_in01 dL_recovered_9 (fun H locs hP hD hS => ?_)
    refine lv_goto (tgt := 21) hx hb dL_recovered_10 (by decide) ?_
    refine lv_iconst (v := 0) hx hb dL_recovered_21 (by decide) ?_
    exact hret V1 _ _ _ _ _ _ (Nat.le_of_ble_eq_true rfl) (Nat.le_of_ble_eq_true rfl) hP hD hS dL_recovered_22
abbrev rmL_fate : Room := { frames := 7, cells := 1, slots := 6, locals := 113 }
def pL_fate (C : CS) (o : Nat → Int64) (p1 : Int32) : Option (Int32 × (Nat → Int64) × CS) := hH1 2 (pX_fate C p1) o
set_option maxHeartbeats 4000000 in
set_option maxRecDepth 100000 in
theorem h_fate (l : Launch) (hlt : l.stackTraces = false) (D : va_G) (cI : ClassId) (A : CAd) (ho : Nat) (V : CV) (C : CS) (o : Nat → Int64) (p1 : Int32) (R : Int32 × (Nat → Int64) × CS) (hf : pL_fate C o p1 = some R) (sz : Nat) : Met l yL_fate (Cond.codeWith yL_fate cL_fate 4 (some .int) hL_fate :: TB) rmL_fate (Pz D cI [.ref A.1, .int p1, .ref ho] (ow D cI A ho V o C) sz) (Rin D (ow D cI A ho V o C) R.1 (fun V => ow D cI A ho V R.2.1 R.2.2) sz) 1 6 (va_A (ow D cI A ho V o C) sz) := by
  refine z_begin_h (own := RL) (fun V => ow D cI A ho V R.2.1 R.2.2) R.1 1 6 (by decide +kernel) rfl (Nat.le_of_ble_eq_true rfl) ?_ sz
  intro p e s m args below meth c ls Q A9 hx hb hml htab hts hcx hown hK hX hA hP hD hS hl hret
  have hl : lv_has ls 4 [(0, .ref A.1), (1, .int p1), (2, .ref ho)] := hl
  obtain ⟨u, hu, hf⟩ := bd_some hf
  refine lv_aload_n hx hb dL_fate_0 rfl (lv_at hl 2 rfl) ?_
  refine lv_iconst (v := 0) hx hb dL_fate_1 (by decide) ?_
  refine lv_aload_n hx hb dL_fate_2 rfl (lv_at hl 0 rfl) ?_
  refine lv_iload_n hx hb dL_fate_3 rfl (lv_at hl 1 rfl) ?_
  refine z_xc (ws1 := fun V => ow D cI A ho V o u.2.2) (fr := [(ho, .inl (D.1 101, 1, .inr (.inl o)))]) (z_xV (rest := [.int 0, .ref ho]) (fr := [(ho, .inl (D.1 101, 1, .inr (.inl o)))]) (ws := ow D cI A ho V o C) (ci := 11) (b := A.1) hx hb hml hown hcx hl.1 (k_fate l hlt D cI A V C p1 u hu _) tl_L_47 ti_X11_fate tz_X11_fate tn_X11 tc_X11_fate tm_X11_fate rfl rfl ⟨Nat.le_of_ble_eq_true rfl, Nat.le_of_ble_eq_true rfl⟩ hK hX hS hA hP hD (List.perm_append_singleton _ _).symm cw_root rfl rfl rfl (Nat.le_of_ble_eq_true rfl) dL_fate_4 ⟨Nat.le_of_ble_eq_true rfl, Nat.le_of_ble_eq_true rfl⟩) hP hD hS hA (List.perm_append_singleton _ _).symm (fun _ => (List.perm_append_singleton _ _).symm) (fun V1 ce q9 H locs hx0 hP hD hS hce hcv hcl => ?_) (fun V1 H locs hx0 hP hD hS => ?_)
  · have hf := (if_neg hx0).symm.trans hf
    by_cases hxK : u.1 = 2
    · obtain rfl := Option.some.inj ((if_pos hxK).symm.trans hf)
      refine zx_catch (own := RL) (name := nIAE) (E := nIAE) (ce := ce) hown [] (exL (0, 9, 12, 13)) [] (htab.trans rfl) (fun z hz => absurd hz List.not_mem_nil) rfl (by decide) (hts _ tq_L_13) (zx_cIAE hK) hce hcv (by rw [hxK] at hcl; exact hcl) ?_
      refine lv_astore_n (lv' := [(3, .ref q9), (0, .ref A.1), (1, .int p1), (2, .ref ho)]) hx hb dL_fate_12 rfl hl (by decide) rfl (fun ls hl => ?_)
      refine lv_iconst (v := 1) hx hb dL_fate_13 (by decide) ?_
      exact hret V1 _ _ _ _ _ _ (Nat.le_of_ble_eq_true rfl) (Nat.le_of_ble_eq_true rfl) hP hD hS dL_fate_14
    · cases ((if_neg hxK).symm.trans hf)
  · obtain rfl := Option.some.inj ((if_pos hx0).symm.trans hf)
    refine lv_i2l hx hb dL_fate_7 rfl ?_
    refine va_last (a := ho) hx hb hK.1 hP hD hS 0 2 rfl rfl (i := 0) vp_in01 dL_fate_8 (fun H locs hP hD hS => ?_)
    refine lv_goto (tgt := 15) hx hb dL_fate_9 (by decide) ?_
    refine lv_iconst (v := 0) hx hb dL_fate_15 (by decide) ?_
    exact hret V1 _ _ _ _ _ _ (Nat.le_of_ble_eq_true rfl) (Nat.le_of_ble_eq_true rfl) hP hD hS dL_fate_16
abbrev rmL_check : Room := { frames := 8, cells := 1, slots := 6, locals := 186 }
def pL_check (C : CS) (o : Nat → Int64) (p1 : Int32) : Option (Int32 × (Nat → Int64) × CS) := hH1 1 (pX_check C p1) o
set_option maxHeartbeats 4000000 in
set_option maxRecDepth 100000 in
theorem h_check (l : Launch) (hlt : l.stackTraces = false) (D : va_G) (cI : ClassId) (A : CAd) (ho : Nat) (V : CV) (C : CS) (o : Nat → Int64) (p1 : Int32) (R : Int32 × (Nat → Int64) × CS) (hf : pL_check C o p1 = some R) (sz : Nat) : Met l yL_check (Cond.codeWith yL_check cL_check 4 (some .int) hL_check :: TB) rmL_check (Pz D cI [.ref A.1, .int p1, .ref ho] (ow D cI A ho V o C) sz) (Rin D (ow D cI A ho V o C) R.1 (fun V => ow D cI A ho V R.2.1 R.2.2) sz) 1 6 (va_A (ow D cI A ho V o C) sz) := by
  refine z_begin_h (own := RL) (fun V => ow D cI A ho V R.2.1 R.2.2) R.1 1 6 (by decide +kernel) rfl (Nat.le_of_ble_eq_true rfl) ?_ sz
  intro p e s m args below meth c ls Q A9 hx hb hml htab hts hcx hown hK hX hA hP hD hS hl hret
  have hl : lv_has ls 4 [(0, .ref A.1), (1, .int p1), (2, .ref ho)] := hl
  obtain ⟨u, hu, hf⟩ := bd_some hf
  refine lv_aload_n hx hb dL_check_0 rfl (lv_at hl 2 rfl) ?_
  refine lv_iconst (v := 0) hx hb dL_check_1 (by decide) ?_
  refine lv_aload_n hx hb dL_check_2 rfl (lv_at hl 0 rfl) ?_
  refine lv_iload_n hx hb dL_check_3 rfl (lv_at hl 1 rfl) ?_
  refine z_xc (ws1 := fun V => ow D cI A ho V o u.2.2) (fr := [(ho, .inl (D.1 101, 1, .inr (.inl o)))]) (z_xV (rest := [.int 0, .ref ho]) (fr := [(ho, .inl (D.1 101, 1, .inr (.inl o)))]) (ws := ow D cI A ho V o C) (ci := 11) (b := A.1) hx hb hml hown hcx hl.1 (k_check l hlt D cI A V C p1 u hu _) tl_L_50 ti_X11_check tz_X11_check tn_X11 tc_X11_check tm_X11_check rfl rfl ⟨Nat.le_of_ble_eq_true rfl, Nat.le_of_ble_eq_true rfl⟩ hK hX hS hA hP hD (List.perm_append_singleton _ _).symm cw_root rfl rfl rfl (Nat.le_of_ble_eq_true rfl) dL_check_4 ⟨Nat.le_of_ble_eq_true rfl, Nat.le_of_ble_eq_true rfl⟩) hP hD hS hA (List.perm_append_singleton _ _).symm (fun _ => (List.perm_append_singleton _ _).symm) (fun V1 ce q9 H locs hx0 hP hD hS hce hcv hcl => ?_) (fun V1 H locs hx0 hP hD hS => ?_)
  · have hf := (if_neg hx0).symm.trans hf
    by_cases hxK : u.1 = 1
    · obtain rfl := Option.some.inj ((if_pos hxK).symm.trans hf)
      refine zx_catch (own := RL) (name := nNSE) (E := nNSE) (ce := ce) hown [] (exL (0, 9, 12, 18)) [] (htab.trans rfl) (fun z hz => absurd hz List.not_mem_nil) rfl (by decide) (hts _ tq_L_18) (zx_cNSE hK) hce hcv (by rw [hxK] at hcl; exact hcl) ?_
      refine lv_astore_n (lv' := [(3, .ref q9), (0, .ref A.1), (1, .int p1), (2, .ref ho)]) hx hb dL_check_12 rfl hl (by decide) rfl (fun ls hl => ?_)
      refine lv_iconst (v := 1) hx hb dL_check_13 (by decide) ?_
      exact hret V1 _ _ _ _ _ _ (Nat.le_of_ble_eq_true rfl) (Nat.le_of_ble_eq_true rfl) hP hD hS dL_check_14
    · cases ((if_neg hxK).symm.trans hf)
  · obtain rfl := Option.some.inj ((if_pos hx0).symm.trans hf)
    refine lv_i2l hx hb dL_check_7 rfl ?_
    refine va_last (a := ho) hx hb hK.1 hP hD hS 0 2 rfl rfl (i := 0) vp_in01 dL_check_8 (fun H locs hP hD hS => ?_)
    refine lv_goto (tgt := 15) hx hb dL_check_9 (by decide) ?_
    refine lv_iconst (v := 0) hx hb dL_check_15 (by decide) ?_
    exact hret V1 _ _ _ _ _ _ (Nat.le_of_ble_eq_true rfl) (Nat.le_of_ble_eq_true rfl) hP hD hS dL_check_16
abbrev rmL_least : Room := { frames := 8, cells := 1, slots := 6, locals := 190 }
def pL_least (C : CS) (o : Nat → Int64) (p1 : Int32) : Option (Int32 × (Nat → Int64) × CS) := hH1 1 (pX_least C p1) o
set_option maxHeartbeats 4000000 in
set_option maxRecDepth 100000 in
theorem h_least (l : Launch) (hlt : l.stackTraces = false) (D : va_G) (cI : ClassId) (A : CAd) (ho : Nat) (V : CV) (C : CS) (o : Nat → Int64) (p1 : Int32) (R : Int32 × (Nat → Int64) × CS) (hf : pL_least C o p1 = some R) (sz : Nat) : Met l yL_least (Cond.codeWith yL_least cL_least 4 (some .int) hL_least :: TB) rmL_least (Pz D cI [.ref A.1, .int p1, .ref ho] (ow D cI A ho V o C) sz) (Rin D (ow D cI A ho V o C) R.1 (fun V => ow D cI A ho V R.2.1 R.2.2) sz) 1 6 (va_A (ow D cI A ho V o C) sz) := by
  refine z_begin_h (own := RL) (fun V => ow D cI A ho V R.2.1 R.2.2) R.1 1 6 (by decide +kernel) rfl (Nat.le_of_ble_eq_true rfl) ?_ sz
  intro p e s m args below meth c ls Q A9 hx hb hml htab hts hcx hown hK hX hA hP hD hS hl hret
  have hl : lv_has ls 4 [(0, .ref A.1), (1, .int p1), (2, .ref ho)] := hl
  obtain ⟨u, hu, hf⟩ := bd_some hf
  refine lv_aload_n hx hb dL_least_0 rfl (lv_at hl 2 rfl) ?_
  refine lv_iconst (v := 0) hx hb dL_least_1 (by decide) ?_
  refine lv_aload_n hx hb dL_least_2 rfl (lv_at hl 0 rfl) ?_
  refine lv_iload_n hx hb dL_least_3 rfl (lv_at hl 1 rfl) ?_
  refine z_xc (ws1 := fun V => ow D cI A ho V o u.2.2) (fr := [(ho, .inl (D.1 101, 1, .inr (.inl o)))]) (z_xV (rest := [.int 0, .ref ho]) (fr := [(ho, .inl (D.1 101, 1, .inr (.inl o)))]) (ws := ow D cI A ho V o C) (ci := 11) (b := A.1) hx hb hml hown hcx hl.1 (k_least l hlt D cI A V C p1 u hu _) tl_L_53 ti_X11_least tz_X11_least tn_X11 tc_X11_least tm_X11_least rfl rfl ⟨Nat.le_of_ble_eq_true rfl, Nat.le_of_ble_eq_true rfl⟩ hK hX hS hA hP hD (List.perm_append_singleton _ _).symm cw_root rfl rfl rfl (Nat.le_of_ble_eq_true rfl) dL_least_4 ⟨Nat.le_of_ble_eq_true rfl, Nat.le_of_ble_eq_true rfl⟩) hP hD hS hA (List.perm_append_singleton _ _).symm (fun _ => (List.perm_append_singleton _ _).symm) (fun V1 ce q9 H locs hx0 hP hD hS hce hcv hcl => ?_) (fun V1 H locs hx0 hP hD hS => ?_)
  · have hf := (if_neg hx0).symm.trans hf
    by_cases hxK : u.1 = 1
    · obtain rfl := Option.some.inj ((if_pos hxK).symm.trans hf)
      refine zx_catch (own := RL) (name := nNSE) (E := nNSE) (ce := ce) hown [] (exL (0, 9, 12, 18)) [] (htab.trans rfl) (fun z hz => absurd hz List.not_mem_nil) rfl (by decide) (hts _ tq_L_18) (zx_cNSE hK) hce hcv (by rw [hxK] at hcl; exact hcl) ?_
      refine lv_astore_n (lv' := [(3, .ref q9), (0, .ref A.1), (1, .int p1), (2, .ref ho)]) hx hb dL_least_12 rfl hl (by decide) rfl (fun ls hl => ?_)
      refine lv_iconst (v := 1) hx hb dL_least_13 (by decide) ?_
      exact hret V1 _ _ _ _ _ _ (Nat.le_of_ble_eq_true rfl) (Nat.le_of_ble_eq_true rfl) hP hD hS dL_least_14
    · cases ((if_neg hxK).symm.trans hf)
  · obtain rfl := Option.some.inj ((if_pos hx0).symm.trans hf)
    refine lv_i2l hx hb dL_least_7 rfl ?_
    refine va_last (a := ho) hx hb hK.1 hP hD hS 0 2 rfl rfl (i := 0) vp_in01 dL_least_8 (fun H locs hP hD hS => ?_)
    refine lv_goto (tgt := 15) hx hb dL_least_9 (by decide) ?_
    refine lv_iconst (v := 0) hx hb dL_least_15 (by decide) ?_
    exact hret V1 _ _ _ _ _ _ (Nat.le_of_ble_eq_true rfl) (Nat.le_of_ble_eq_true rfl) hP hD hS dL_least_16
abbrev rmL_chance : Room := { frames := 7, cells := 1, slots := 6, locals := 118 }
def pL_chance (C : CS) (o : Nat → Int64) (p1 : Int32) : Option (Int32 × (Nat → Int64) × CS) := hH1 1 (pX_chance C p1) o
set_option maxHeartbeats 4000000 in
set_option maxRecDepth 100000 in
theorem h_chance (l : Launch) (hlt : l.stackTraces = false) (D : va_G) (cI : ClassId) (A : CAd) (ho : Nat) (V : CV) (C : CS) (o : Nat → Int64) (p1 : Int32) (R : Int32 × (Nat → Int64) × CS) (hf : pL_chance C o p1 = some R) (sz : Nat) : Met l yL_chance (Cond.codeWith yL_chance cL_chance 4 (some .int) hL_chance :: TB) rmL_chance (Pz D cI [.ref A.1, .int p1, .ref ho] (ow D cI A ho V o C) sz) (Rin D (ow D cI A ho V o C) R.1 (fun V => ow D cI A ho V R.2.1 R.2.2) sz) 1 6 (va_A (ow D cI A ho V o C) sz) := by
  refine z_begin_h (own := RL) (fun V => ow D cI A ho V R.2.1 R.2.2) R.1 1 6 (by decide +kernel) rfl (Nat.le_of_ble_eq_true rfl) ?_ sz
  intro p e s m args below meth c ls Q A9 hx hb hml htab hts hcx hown hK hX hA hP hD hS hl hret
  have hl : lv_has ls 4 [(0, .ref A.1), (1, .int p1), (2, .ref ho)] := hl
  obtain ⟨u, hu, hf⟩ := bd_some hf
  refine lv_aload_n hx hb dL_chance_0 rfl (lv_at hl 2 rfl) ?_
  refine lv_iconst (v := 0) hx hb dL_chance_1 (by decide) ?_
  refine lv_aload_n hx hb dL_chance_2 rfl (lv_at hl 0 rfl) ?_
  refine lv_iload_n hx hb dL_chance_3 rfl (lv_at hl 1 rfl) ?_
  refine z_xc (ws1 := fun V => ow D cI A ho V o u.2.2) (fr := [(ho, .inl (D.1 101, 1, .inr (.inl o)))]) (z_xV (rest := [.int 0, .ref ho]) (fr := [(ho, .inl (D.1 101, 1, .inr (.inl o)))]) (ws := ow D cI A ho V o C) (ci := 11) (b := A.1) hx hb hml hown hcx hl.1 (k_chance l hlt D cI A V C p1 u hu _) tl_L_56 ti_X11_chance tz_X11_chance tn_X11 tc_X11_chance tm_X11_chance rfl rfl ⟨Nat.le_of_ble_eq_true rfl, Nat.le_of_ble_eq_true rfl⟩ hK hX hS hA hP hD (List.perm_append_singleton _ _).symm cw_root rfl rfl rfl (Nat.le_of_ble_eq_true rfl) dL_chance_4 ⟨Nat.le_of_ble_eq_true rfl, Nat.le_of_ble_eq_true rfl⟩) hP hD hS hA (List.perm_append_singleton _ _).symm (fun _ => (List.perm_append_singleton _ _).symm) (fun V1 ce q9 H locs hx0 hP hD hS hce hcv hcl => ?_) (fun V1 H locs hx0 hP hD hS => ?_)
  · have hf := (if_neg hx0).symm.trans hf
    by_cases hxK : u.1 = 1
    · obtain rfl := Option.some.inj ((if_pos hxK).symm.trans hf)
      refine zx_catch (own := RL) (name := nNSE) (E := nNSE) (ce := ce) hown [] (exL (0, 9, 12, 18)) [] (htab.trans rfl) (fun z hz => absurd hz List.not_mem_nil) rfl (by decide) (hts _ tq_L_18) (zx_cNSE hK) hce hcv (by rw [hxK] at hcl; exact hcl) ?_
      refine lv_astore_n (lv' := [(3, .ref q9), (0, .ref A.1), (1, .int p1), (2, .ref ho)]) hx hb dL_chance_12 rfl hl (by decide) rfl (fun ls hl => ?_)
      refine lv_iconst (v := 1) hx hb dL_chance_13 (by decide) ?_
      exact hret V1 _ _ _ _ _ _ (Nat.le_of_ble_eq_true rfl) (Nat.le_of_ble_eq_true rfl) hP hD hS dL_chance_14
    · cases ((if_neg hxK).symm.trans hf)
  · obtain rfl := Option.some.inj ((if_pos hx0).symm.trans hf)
    refine lv_i2l hx hb dL_chance_7 rfl ?_
    refine va_last (a := ho) hx hb hK.1 hP hD hS 0 2 rfl rfl (i := 0) vp_in01 dL_chance_8 (fun H locs hP hD hS => ?_)
    refine lv_goto (tgt := 15) hx hb dL_chance_9 (by decide) ?_
    refine lv_iconst (v := 0) hx hb dL_chance_15 (by decide) ?_
    exact hret V1 _ _ _ _ _ _ (Nat.le_of_ble_eq_true rfl) (Nat.le_of_ble_eq_true rfl) hP hD hS dL_chance_16
abbrev rmL_explained : Room := { frames := 7, cells := 1, slots := 6, locals := 105 }
def pL_explained (C : CS) (o : Nat → Int64) (p1 : Int32) : Option (Int32 × (Nat → Int64) × CS) := hH1 1 (pX_explained C p1) o
set_option maxHeartbeats 4000000 in
set_option maxRecDepth 100000 in
theorem h_explained (l : Launch) (hlt : l.stackTraces = false) (D : va_G) (cI : ClassId) (A : CAd) (ho : Nat) (V : CV) (C : CS) (o : Nat → Int64) (p1 : Int32) (R : Int32 × (Nat → Int64) × CS) (hf : pL_explained C o p1 = some R) (sz : Nat) : Met l yL_explained (Cond.codeWith yL_explained cL_explained 4 (some .int) hL_explained :: TB) rmL_explained (Pz D cI [.ref A.1, .int p1, .ref ho] (ow D cI A ho V o C) sz) (Rin D (ow D cI A ho V o C) R.1 (fun V => ow D cI A ho V R.2.1 R.2.2) sz) 1 6 (va_A (ow D cI A ho V o C) sz) := by
  refine z_begin_h (own := RL) (fun V => ow D cI A ho V R.2.1 R.2.2) R.1 1 6 (by decide +kernel) rfl (Nat.le_of_ble_eq_true rfl) ?_ sz
  intro p e s m args below meth c ls Q A9 hx hb hml htab hts hcx hown hK hX hA hP hD hS hl hret
  have hl : lv_has ls 4 [(0, .ref A.1), (1, .int p1), (2, .ref ho)] := hl
  obtain ⟨u, hu, hf⟩ := bd_some hf
  refine lv_aload_n hx hb dL_explained_0 rfl (lv_at hl 2 rfl) ?_
  refine lv_iconst (v := 0) hx hb dL_explained_1 (by decide) ?_
  refine lv_aload_n hx hb dL_explained_2 rfl (lv_at hl 0 rfl) ?_
  refine lv_iload_n hx hb dL_explained_3 rfl (lv_at hl 1 rfl) ?_
  refine z_xc (ws1 := fun V => ow D cI A ho V o u.2.2) (fr := [(ho, .inl (D.1 101, 1, .inr (.inl o)))]) (z_xV (rest := [.int 0, .ref ho]) (fr := [(ho, .inl (D.1 101, 1, .inr (.inl o)))]) (ws := ow D cI A ho V o C) (ci := 11) (b := A.1) hx hb hml hown hcx hl.1 (k_explained l hlt D cI A V C p1 u hu _) tl_L_59 ti_X11_explained tz_X11_explained tn_X11 tc_X11_explained tm_X11_explained rfl rfl ⟨Nat.le_of_ble_eq_true rfl, Nat.le_of_ble_eq_true rfl⟩ hK hX hS hA hP hD (List.perm_append_singleton _ _).symm cw_root rfl rfl rfl (Nat.le_of_ble_eq_true rfl) dL_explained_4 ⟨Nat.le_of_ble_eq_true rfl, Nat.le_of_ble_eq_true rfl⟩) hP hD hS hA (List.perm_append_singleton _ _).symm (fun _ => (List.perm_append_singleton _ _).symm) (fun V1 ce q9 H locs hx0 hP hD hS hce hcv hcl => ?_) (fun V1 H locs hx0 hP hD hS => ?_)
  · have hf := (if_neg hx0).symm.trans hf
    by_cases hxK : u.1 = 1
    · obtain rfl := Option.some.inj ((if_pos hxK).symm.trans hf)
      refine zx_catch (own := RL) (name := nNSE) (E := nNSE) (ce := ce) hown [] (exL (0, 9, 12, 18)) [] (htab.trans rfl) (fun z hz => absurd hz List.not_mem_nil) rfl (by decide) (hts _ tq_L_18) (zx_cNSE hK) hce hcv (by rw [hxK] at hcl; exact hcl) ?_
      refine lv_astore_n (lv' := [(3, .ref q9), (0, .ref A.1), (1, .int p1), (2, .ref ho)]) hx hb dL_explained_12 rfl hl (by decide) rfl (fun ls hl => ?_)
      refine lv_iconst (v := 1) hx hb dL_explained_13 (by decide) ?_
      exact hret V1 _ _ _ _ _ _ (Nat.le_of_ble_eq_true rfl) (Nat.le_of_ble_eq_true rfl) hP hD hS dL_explained_14
    · cases ((if_neg hxK).symm.trans hf)
  · obtain rfl := Option.some.inj ((if_pos hx0).symm.trans hf)
    refine lv_i2l hx hb dL_explained_7 rfl ?_
    refine va_last (a := ho) hx hb hK.1 hP hD hS 0 2 rfl rfl (i := 0) vp_in01 dL_explained_8 (fun H locs hP hD hS => ?_)
    refine lv_goto (tgt := 15) hx hb dL_explained_9 (by decide) ?_
    refine lv_iconst (v := 0) hx hb dL_explained_15 (by decide) ?_
    exact hret V1 _ _ _ _ _ _ (Nat.le_of_ble_eq_true rfl) (Nat.le_of_ble_eq_true rfl) hP hD hS dL_explained_16
abbrev rmL_look : Room := { frames := 7, cells := 1, slots := 6, locals := 108 }
def pL_look (C : CS) (o : Nat → Int64) (p1 : Int32) : Option (Int32 × (Nat → Int64) × CS) := hH1 1 (pX_look C p1) o
set_option maxHeartbeats 4000000 in
set_option maxRecDepth 100000 in
theorem h_look (l : Launch) (hlt : l.stackTraces = false) (D : va_G) (cI : ClassId) (A : CAd) (ho : Nat) (V : CV) (C : CS) (o : Nat → Int64) (p1 : Int32) (R : Int32 × (Nat → Int64) × CS) (hf : pL_look C o p1 = some R) (sz : Nat) : Met l yL_look (Cond.codeWith yL_look cL_look 4 (some .int) hL_look :: TB) rmL_look (Pz D cI [.ref A.1, .int p1, .ref ho] (ow D cI A ho V o C) sz) (Rin D (ow D cI A ho V o C) R.1 (fun V => ow D cI A ho V R.2.1 R.2.2) sz) 1 6 (va_A (ow D cI A ho V o C) sz) := by
  refine z_begin_h (own := RL) (fun V => ow D cI A ho V R.2.1 R.2.2) R.1 1 6 (by decide +kernel) rfl (Nat.le_of_ble_eq_true rfl) ?_ sz
  intro p e s m args below meth c ls Q A9 hx hb hml htab hts hcx hown hK hX hA hP hD hS hl hret
  have hl : lv_has ls 4 [(0, .ref A.1), (1, .int p1), (2, .ref ho)] := hl
  obtain ⟨u, hu, hf⟩ := bd_some hf
  refine lv_aload_n hx hb dL_look_0 rfl (lv_at hl 2 rfl) ?_
  refine lv_iconst (v := 0) hx hb dL_look_1 (by decide) ?_
  refine lv_aload_n hx hb dL_look_2 rfl (lv_at hl 0 rfl) ?_
  refine lv_iload_n hx hb dL_look_3 rfl (lv_at hl 1 rfl) ?_
  refine z_xc (ws1 := fun V => ow D cI A ho V o u.2.2) (fr := [(ho, .inl (D.1 101, 1, .inr (.inl o)))]) (z_xV (rest := [.int 0, .ref ho]) (fr := [(ho, .inl (D.1 101, 1, .inr (.inl o)))]) (ws := ow D cI A ho V o C) (ci := 11) (b := A.1) hx hb hml hown hcx hl.1 (k_look l hlt D cI A V C p1 u hu _) tl_L_62 ti_X11_look tz_X11_look tn_X11 tc_X11_look tm_X11_look rfl rfl ⟨Nat.le_of_ble_eq_true rfl, Nat.le_of_ble_eq_true rfl⟩ hK hX hS hA hP hD (List.perm_append_singleton _ _).symm cw_root rfl rfl rfl (Nat.le_of_ble_eq_true rfl) dL_look_4 ⟨Nat.le_of_ble_eq_true rfl, Nat.le_of_ble_eq_true rfl⟩) hP hD hS hA (List.perm_append_singleton _ _).symm (fun _ => (List.perm_append_singleton _ _).symm) (fun V1 ce q9 H locs hx0 hP hD hS hce hcv hcl => ?_) (fun V1 H locs hx0 hP hD hS => ?_)
  · have hf := (if_neg hx0).symm.trans hf
    by_cases hxK : u.1 = 1
    · obtain rfl := Option.some.inj ((if_pos hxK).symm.trans hf)
      refine zx_catch (own := RL) (name := nNSE) (E := nNSE) (ce := ce) hown [] (exL (0, 9, 12, 18)) [] (htab.trans rfl) (fun z hz => absurd hz List.not_mem_nil) rfl (by decide) (hts _ tq_L_18) (zx_cNSE hK) hce hcv (by rw [hxK] at hcl; exact hcl) ?_
      refine lv_astore_n (lv' := [(3, .ref q9), (0, .ref A.1), (1, .int p1), (2, .ref ho)]) hx hb dL_look_12 rfl hl (by decide) rfl (fun ls hl => ?_)
      refine lv_iconst (v := 1) hx hb dL_look_13 (by decide) ?_
      exact hret V1 _ _ _ _ _ _ (Nat.le_of_ble_eq_true rfl) (Nat.le_of_ble_eq_true rfl) hP hD hS dL_look_14
    · cases ((if_neg hxK).symm.trans hf)
  · obtain rfl := Option.some.inj ((if_pos hx0).symm.trans hf)
    refine lv_i2l hx hb dL_look_7 rfl ?_
    refine va_last (a := ho) hx hb hK.1 hP hD hS 0 2 rfl rfl (i := 0) vp_in01 dL_look_8 (fun H locs hP hD hS => ?_)
    refine lv_goto (tgt := 15) hx hb dL_look_9 (by decide) ?_
    refine lv_iconst (v := 0) hx hb dL_look_15 (by decide) ?_
    exact hret V1 _ _ _ _ _ _ (Nat.le_of_ble_eq_true rfl) (Nat.le_of_ble_eq_true rfl) hP hD hS dL_look_16
abbrev rmL_years : Room := { frames := 8, cells := 1, slots := 6, locals := 184 }
def pL_years (C : CS) (o : Nat → Int64) (p1 : Int32) (p2 : Int32) (p3 : Int32) : Option (Int32 × (Nat → Int64) × CS) := hH2 (pX_years C p1 p2 p3) o
set_option maxHeartbeats 4000000 in
set_option maxRecDepth 100000 in
theorem h_years (l : Launch) (hlt : l.stackTraces = false) (D : va_G) (cI : ClassId) (A : CAd) (ho : Nat) (V : CV) (C : CS) (o : Nat → Int64) (p1 : Int32) (p2 : Int32) (p3 : Int32) (R : Int32 × (Nat → Int64) × CS) (hf : pL_years C o p1 p2 p3 = some R) (sz : Nat) : Met l yL_years (Cond.codeWith yL_years cL_years 6 (some .int) hL_years :: TB) rmL_years (Pz D cI [.ref A.1, .int p1, .int p2, .int p3, .ref ho] (ow D cI A ho V o C) sz) (Rin D (ow D cI A ho V o C) R.1 (fun V => ow D cI A ho V R.2.1 R.2.2) sz) 1 6 (va_A (ow D cI A ho V o C) sz) := by
  refine z_begin_h (own := RL) (fun V => ow D cI A ho V R.2.1 R.2.2) R.1 1 6 (by decide +kernel) rfl (Nat.le_of_ble_eq_true rfl) ?_ sz
  intro p e s m args below meth c ls Q A9 hx hb hml htab hts hcx hown hK hX hA hP hD hS hl hret
  have hl : lv_has ls 6 [(0, .ref A.1), (1, .int p1), (2, .int p2), (3, .int p3), (4, .ref ho)] := hl
  obtain ⟨u, hu, hf⟩ := bd_some hf
  refine lv_aload hx hb dL_years_0 (lv_at hl 4 rfl) ?_
  refine lv_iconst (v := 0) hx hb dL_years_2 (by decide) ?_
  refine lv_aload_n hx hb dL_years_3 rfl (lv_at hl 0 rfl) ?_
  refine lv_iload_n hx hb dL_years_4 rfl (lv_at hl 1 rfl) ?_
  refine lv_iload_n hx hb dL_years_5 rfl (lv_at hl 2 rfl) ?_
  refine lv_iload_n hx hb dL_years_6 rfl (lv_at hl 3 rfl) ?_
  refine z_xc (ws1 := fun V => ow D cI A ho V o u.2.2) (fr := [(ho, .inl (D.1 101, 1, .inr (.inl o)))]) (z_xV (rest := [.int 0, .ref ho]) (fr := [(ho, .inl (D.1 101, 1, .inr (.inl o)))]) (ws := ow D cI A ho V o C) (ci := 11) (b := A.1) hx hb hml hown hcx hl.1 (k_years l hlt D cI A V C p1 p2 p3 u hu _) tl_L_65 ti_X11_years tz_X11_years tn_X11 tc_X11_years tm_X11_years rfl rfl ⟨Nat.le_of_ble_eq_true rfl, Nat.le_of_ble_eq_true rfl⟩ hK hX hS hA hP hD (List.perm_append_singleton _ _).symm cw_root rfl rfl rfl (Nat.le_of_ble_eq_true rfl) dL_years_7 ⟨Nat.le_of_ble_eq_true rfl, Nat.le_of_ble_eq_true rfl⟩) hP hD hS hA (List.perm_append_singleton _ _).symm (fun _ => (List.perm_append_singleton _ _).symm) (fun V1 ce q9 H locs hx0 hP hD hS hce hcv hcl => ?_) (fun V1 H locs hx0 hP hD hS => ?_)
  · have hf := (if_neg hx0).symm.trans hf
    by_cases hxK : u.1 = 1
    · obtain rfl := Option.some.inj ((if_pos hxK).symm.trans hf)
      refine zx_catch (own := RL) (name := nNSE) (E := nNSE) (ce := ce) hown [] (exL (0, 12, 15, 18)) [exL (0, 12, 19, 13)] (htab.trans rfl) (fun z hz => absurd hz List.not_mem_nil) rfl (by decide) (hts _ tq_L_18) (zx_cNSE hK) hce hcv (by rw [hxK] at hcl; exact hcl) ?_
      refine lv_astore (lv' := [(5, .ref q9), (0, .ref A.1), (1, .int p1), (2, .int p2), (3, .int p3), (4, .ref ho)]) hx hb dL_years_15 hl (by decide) rfl (fun ls hl => ?_)
      refine lv_iconst (v := 1) hx hb dL_years_17 (by decide) ?_
      exact hret V1 _ _ _ _ _ _ (Nat.le_of_ble_eq_true rfl) (Nat.le_of_ble_eq_true rfl) hP hD hS dL_years_18
    · have hf := (if_neg hxK).symm.trans hf
      by_cases hxK : u.1 = 2
      · obtain rfl := Option.some.inj ((if_pos hxK).symm.trans hf)
        refine zx_catch (own := RL) (name := nIAE) (E := nIAE) (ce := ce) hown [exL (0, 12, 15, 18)] (exL (0, 12, 19, 13)) [] (htab.trans rfl) (fun z hz => by
            obtain rfl := List.mem_singleton.mp hz
            exact Or.inr ⟨by decide, nNSE, hts _ tq_L_18, hK.2.2.2.2⟩) rfl (by decide) (hts _ tq_L_13) (zx_cIAE hK) hce hcv (by rw [hxK] at hcl; exact hcl) ?_
        refine lv_astore (lv' := [(5, .ref q9), (0, .ref A.1), (1, .int p1), (2, .int p2), (3, .int p3), (4, .ref ho)]) hx hb dL_years_19 hl (by decide) rfl (fun ls hl => ?_)
        refine lv_iconst (v := 2) hx hb dL_years_21 (by decide) ?_
        exact hret V1 _ _ _ _ _ _ (Nat.le_of_ble_eq_true rfl) (Nat.le_of_ble_eq_true rfl) hP hD hS dL_years_22
      · cases ((if_neg hxK).symm.trans hf)
  · obtain rfl := Option.some.inj ((if_pos hx0).symm.trans hf)
    refine lv_i2l hx hb dL_years_10 rfl ?_
    refine va_last (a := ho) hx hb hK.1 hP hD hS 0 2 rfl rfl (i := 0) vp_in01 dL_years_11 (fun H locs hP hD hS => ?_)
    refine lv_goto (tgt := 23) hx hb dL_years_12 (by decide) ?_
    refine lv_iconst (v := 0) hx hb dL_years_23 (by decide) ?_
    exact hret V1 _ _ _ _ _ _ (Nat.le_of_ble_eq_true rfl) (Nat.le_of_ble_eq_true rfl) hP hD hS dL_years_24
