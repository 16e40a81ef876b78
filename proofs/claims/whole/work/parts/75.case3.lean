def sL_undo (S : LwS) (a1 : Int32) (a2 : Int32) (a3 : Int32) (a4 : Int32) (a5 : Int32) : Option LwS := bd (pX_undo S.1) fun u => bd (pM_undo S.2.1) fun v => if u.1 = v.1 then some (u.2, v.2, S.2.2.1, S.2.2.2.1 + 0, S.2.2.2.2 + 0) else none
set_option maxHeartbeats 4000000 in
set_option maxRecDepth 100000 in
theorem lc_undo {p : Program} {l : Launch} {e : Env} {R : Room} {s : State} {m : MethodId} {args : Array Value} {below : List Frame} {meth : Method} {c : Code} {Q : State → Prop} {D : va_G} {cI : ClassId} {cx : Cond} {b L : Nat} {xs : Nat → Int32} (hC : LawCtx p l R s m args c D cI cx b L xs) (A : CAd) (B : Nat × (Nat → Nat)) (ho : Nat) (V : CV) (S S9 : LwS) (i : Int32) (hin : ∀ j : Int32, j ∈ ([1, 2, 3, 4, 5] : List Int32) → vp_in (i + j) L) (hf : sL_undo S (xs (i + 1).toNatClampNeg) (xs (i + 2).toNatClampNeg) (xs (i + 3).toNatClampNeg) (xs (i + 4).toNatClampNeg) (xs (i + 5).toNatClampNeg) = some S9) (hr : S9.2.2.2.1 ≤ R.cells ∧ S9.2.2.2.2 ≤ R.slots) {H : Heap} {locs : List Loc} {ls : Array Slot} (hP : va_P D vwCl (lwW D cI A B ho V S) H) (hD : va_D (lA s) (lwW D cI A B ho V S)) (hS : va_S (lA s) s.heap H locs) (hl : lv_has ls 7 [(0, .ref b), (1, .ref A.1), (2, .ref B.1), (3, .ref ho), (4, .int i)])
    (cont : ∀ (V : CV) (H : Heap) (locs : List Loc) (ls : Array Slot), va_P D vwCl (lwW D cI A B ho V S9) H → va_D (lA s) (lwW D cI A B ho V S9) → va_S (lA s) s.heap H locs → lv_has ls 7 [(0, .ref b), (1, .ref A.1), (2, .ref B.1), (3, .ref ho), (4, .int i)] → W p l e R s m args below meth c H locs S9.2.2.2.1 S9.2.2.2.2 Q (F0 m 1521 ls [])) : W p l e R s m args below meth c H locs S.2.2.2.1 S.2.2.2.2 Q (F0 m 939 ls []) := by
  obtain ⟨hx, hb, hml, hts, hcx, hown, hK, hX, hXs, hbl, hlt, hfr, hlo⟩ := hC
  have hbA : ¬ lA s b := Nat.not_le.mpr hbl
  have hA : ∀ q : Nat, s.heap.size ≤ q → lA s q := fun q h => h
  obtain ⟨u, hu, hf⟩ := bd_some hf
  obtain ⟨v, hv, hf⟩ := bd_some hf
  by_cases h1 : u.1 = v.1
  case neg => cases ((if_neg h1).symm.trans hf)
  obtain rfl := Option.some.inj ((if_pos h1).symm.trans hf)
  refine lv_aload_n hx hb dLaw_939 rfl (lv_at hl 1 rfl) ?_
  refine z_cinF (ws1 := fun V => lwW D cI A B ho V (u.2, S.2.1, S.2.2.1, S.2.2.2)) (fr := (ho, .inl (D.1 101, 1, .inr (.inl S.2.2.1))) :: rfw cI B S.2.1) (z_rVF (rest := []) (fr := (ho, .inl (D.1 101, 1, .inr (.inl S.2.2.1))) :: rfw cI B S.2.1) (ws := lwW D cI A B ho V (S.1, S.2.1, S.2.2.1, S.2.2.2)) (ci := 11) (b := A.1) (As := []) hx hb hml hown hcx hl.1 (k_undo l D cI A V S.1 u hu _) tl_L_135 ti_X11_undo tz_X11_undo tn_X11 tc_X11_undo tm_X11_undo rfl rfl ⟨Nat.le_trans (Nat.le_of_ble_eq_true rfl) hfr, Nat.le_trans (Nat.le_of_ble_eq_true rfl) hlo⟩ hK hX hS hA hP hD pq_c cw_root rfl rfl rfl (Nat.le_of_ble_eq_true rfl) dLaw_940 ⟨hr.1, hr.2⟩) hP hD hS hA pq_c (fun _ => pq_c) (fun V H locs hP hD hS => ?_)
  refine lv_aload_n hx hb dLaw_943 rfl (lv_at hl 2 rfl) ?_
  refine z_ciF (ws1 := lwW D cI A B ho V (u.2, v.2, S.2.2.1, S.2.2.2)) (fr := (ho, .inl (D.1 101, 1, .inr (.inl S.2.2.1))) :: cw D cI A V u.2) (z_rVF (rest := [.int u.1]) (fr := (ho, .inl (D.1 101, 1, .inr (.inl S.2.2.1))) :: cw D cI A V u.2) (ws := lwW D cI A B ho V (u.2, S.2.1, S.2.2.1, S.2.2.2)) (ci := 12) (b := B.1) (As := []) hx hb hml hown hcx hl.1 (kM_undo l D cI B S.2.1 v hv _) tl_L_138 ti_X12_undo tz_X12_undo tn_X12 tc_X12_undo tm_X12_undo rfl rfl ⟨Nat.le_trans (Nat.le_of_ble_eq_true rfl) hfr, Nat.le_trans (Nat.le_of_ble_eq_true rfl) hlo⟩ hK hX hS hA hP hD pq_m ml_root rfl rfl rfl (Nat.le_of_ble_eq_true rfl) dLaw_944 ⟨hr.1, hr.2⟩) hP hD hS hA pq_m pq_m (fun H locs hP hD hS => ?_)
  refine lv_icmp_eq (tgt := 1521) hx hb dLaw_947 (by decide) (fun _ => ?_) (fun h9 => absurd h1 h9)
  exact cont V _ _ _ hP hD hS (lv_sub hl [0, 1, 2, 3, 4] rfl)
def sL_recovered (S : LwS) (a1 : Int32) (a2 : Int32) (a3 : Int32) (a4 : Int32) (a5 : Int32) : Option LwS := bd (pL_recovered S.1 S.2.2.1 a1 a2) fun u => bd (pM_recovered S.2.1 a1 a2) fun v => bd (pM_thrown v.2) fun t => if t.1 = u.1 then (if u.1 = 0 then (if lg_cmp (u.2.1 0) v.1.toInt64 = 0 then some (u.2.2, t.2, u.2.1, S.2.2.2.1 + 1, S.2.2.2.2 + 6) else none) else some (u.2.2, t.2, u.2.1, S.2.2.2.1 + 1, S.2.2.2.2 + 6)) else none
set_option maxHeartbeats 4000000 in
set_option maxRecDepth 100000 in
theorem lc_recovered {p : Program} {l : Launch} {e : Env} {R : Room} {s : State} {m : MethodId} {args : Array Value} {below : List Frame} {meth : Method} {c : Code} {Q : State → Prop} {D : va_G} {cI : ClassId} {cx : Cond} {b L : Nat} {xs : Nat → Int32} (hC : LawCtx p l R s m args c D cI cx b L xs) (A : CAd) (B : Nat × (Nat → Nat)) (ho : Nat) (V : CV) (S S9 : LwS) (i : Int32) (hin : ∀ j : Int32, j ∈ ([1, 2, 3, 4, 5] : List Int32) → vp_in (i + j) L) (hf : sL_recovered S (xs (i + 1).toNatClampNeg) (xs (i + 2).toNatClampNeg) (xs (i + 3).toNatClampNeg) (xs (i + 4).toNatClampNeg) (xs (i + 5).toNatClampNeg) = some S9) (hr : S9.2.2.2.1 ≤ R.cells ∧ S9.2.2.2.2 ≤ R.slots) {H : Heap} {locs : List Loc} {ls : Array Slot} (hP : va_P D vwCl (lwW D cI A B ho V S) H) (hD : va_D (lA s) (lwW D cI A B ho V S)) (hS : va_S (lA s) s.heap H locs) (hl : lv_has ls 7 [(0, .ref b), (1, .ref A.1), (2, .ref B.1), (3, .ref ho), (4, .int i)])
    (cont : ∀ (V : CV) (H : Heap) (locs : List Loc) (ls : Array Slot), va_P D vwCl (lwW D cI A B ho V S9) H → va_D (lA s) (lwW D cI A B ho V S9) → va_S (lA s) s.heap H locs → lv_has ls 7 [(0, .ref b), (1, .ref A.1), (2, .ref B.1), (3, .ref ho), (4, .int i)] → W p l e R s m args below meth c H locs S9.2.2.2.1 S9.2.2.2.2 Q (F0 m 1521 ls [])) : W p l e R s m args below meth c H locs S.2.2.2.1 S.2.2.2.2 Q (F0 m 952 ls []) := by
  obtain ⟨hx, hb, hml, hts, hcx, hown, hK, hX, hXs, hbl, hlt, hfr, hlo⟩ := hC
  have hbA : ¬ lA s b := Nat.not_le.mpr hbl
  have hA : ∀ q : Nat, s.heap.size ≤ q → lA s q := fun q h => h
  obtain ⟨u, hu, hf⟩ := bd_some hf
  obtain ⟨v, hv, hf⟩ := bd_some hf
  obtain ⟨t, ht, hf⟩ := bd_some hf
  by_cases h1 : t.1 = u.1
  case neg => cases ((if_neg h1).symm.trans hf)
  have hf := (if_pos h1).symm.trans hf
  by_cases h2 : u.1 = 0
  · have hf := (if_pos h2).symm.trans hf
    by_cases h3 : lg_cmp (u.2.1 0) v.1.toInt64 = 0
    case neg => cases ((if_neg h3).symm.trans hf)
    obtain rfl := Option.some.inj ((if_pos h3).symm.trans hf)
    refine lv_aload_n hx hb dLaw_952 rfl (lv_at hl 1 rfl) ?_
    refine lv_aload_n hx hb dLaw_953 rfl (lv_at hl 0 rfl) ?_
    refine lv_iload hx hb dLaw_954 (lv_at hl 4 rfl) ?_
    refine lv_iconst (v := 1) hx hb dLaw_956 (by decide) ?_
    refine lv_iadd hx hb dLaw_957 ?_
    refine va_sld (A := lA s) hx hb hXs hbl hbA hS (hin 1 (by decide)) dLaw_958 ?_
    refine lv_aload_n hx hb dLaw_959 rfl (lv_at hl 0 rfl) ?_
    refine lv_iload hx hb dLaw_960 (lv_at hl 4 rfl) ?_
    refine lv_iconst (v := 2) hx hb dLaw_962 (by decide) ?_
    refine lv_iadd hx hb dLaw_963 ?_
    refine va_sld (A := lA s) hx hb hXs hbl hbA hS (hin 2 (by decide)) dLaw_964 ?_
    refine lv_aload_n hx hb dLaw_965 rfl (lv_at hl 3 rfl) ?_
    refine z_cinF (ws1 := fun V => lwW D cI A B ho V (u.2.2, S.2.1, u.2.1, S.2.2.2)) (fr := rfw cI B S.2.1) (z_rSW (rest := []) (fr := rfw cI B S.2.1) (ws := lwW D cI A B ho V (S.1, S.2.1, S.2.2.1, S.2.2.2)) (As := [.ref A.1, .int (xs (i + 1).toNatClampNeg), .int (xs (i + 2).toNatClampNeg), .ref ho]) hx hb hml hown hcx hl.1 (h_recovered l hlt D cI A ho V S.1 S.2.2.1 (xs (i + 1).toNatClampNeg) (xs (i + 2).toNatClampNeg) u hu _) tl_L_139 ts_L_recovered tn_L tc_L_recovered tm_L_recovered rfl rfl ⟨Nat.le_trans (Nat.le_of_ble_eq_true rfl) hfr, Nat.le_trans (Nat.le_of_ble_eq_true rfl) hlo⟩ hK hX hS hA hP hD pq_h rfl rfl (Nat.le_of_ble_eq_true rfl) dLaw_966 ⟨hr.1, hr.2⟩) hP hD hS hA pq_h (fun _ => pq_h) (fun V H locs hP hD hS => ?_)
    refine lv_istore (lv' := [(5, .int u.1), (0, .ref b), (1, .ref A.1), (2, .ref B.1), (3, .ref ho), (4, .int i)]) hx hb dLaw_969 hl (by decide) rfl (fun ls hl => ?_)
    refine lv_aload_n hx hb dLaw_971 rfl (lv_at hl 3 rfl) ?_
    refine lv_aload_n hx hb dLaw_972 rfl (lv_at hl 1 rfl) ?_
    refine lv_iload hx hb dLaw_973 (lv_at hl 5 rfl) ?_
    refine lv_iconst (v := 1) hx hb dLaw_975 (by decide) ?_
    refine lv_iadd hx hb dLaw_976 ?_
    refine va_sld (A := lA s) hx hb hXs hbl hbA hS (hin 1 (by decide)) dLaw_977 ?_
    refine lv_aload_n hx hb dLaw_978 rfl (lv_at hl 1 rfl) ?_
    refine lv_iload hx hb dLaw_979 (lv_at hl 5 rfl) ?_
    refine lv_iconst (v := 2) hx hb dLaw_981 (by decide) ?_
    refine lv_iadd hx hb dLaw_982 ?_
    refine va_sld (A := lA s) hx hb hXs hbl hbA hS (hin 2 (by decide)) dLaw_983 ?_
    refine z_ciF (ws1 := lwW D cI A B ho V (u.2.2, v.2, u.2.1, S.2.2.2)) (fr := (ho, .inl (D.1 101, 1, .inr (.inl u.2.1))) :: cw D cI A V u.2.2) (z_rVF (rest := []) (fr := (ho, .inl (D.1 101, 1, .inr (.inl u.2.1))) :: cw D cI A V u.2.2) (ws := lwW D cI A B ho V (u.2.2, S.2.1, u.2.1, S.2.2.2)) (ci := 12) (b := B.1) (As := [.int (xs (i + 1).toNatClampNeg), .int (xs (i + 2).toNatClampNeg)]) hx hb hml hown hcx hl.1 (kM_recovered l D cI B S.2.1 (xs (i + 1).toNatClampNeg) (xs (i + 2).toNatClampNeg) v hv _) tl_L_141 ti_X12_recovered tz_X12_recovered tn_X12 tc_X12_recovered tm_X12_recovered rfl rfl ⟨Nat.le_trans (Nat.le_of_ble_eq_true rfl) hfr, Nat.le_trans (Nat.le_of_ble_eq_true rfl) hlo⟩ hK hX hS hA hP hD pq_m ml_root rfl rfl rfl (Nat.le_of_ble_eq_true rfl) dLaw_984 ⟨hr.1, hr.2⟩) hP hD hS hA pq_m pq_m (fun H locs hP hD hS => ?_)
    refine lv_istore (lv' := [(6, .int v.1), (5, .int u.1), (0, .ref b), (1, .ref A.1), (2, .ref B.1), (3, .ref ho), (4, .int i)]) hx hb dLaw_987 hl (by decide) rfl (fun ls hl => ?_)
    refine lv_aload_n hx hb dLaw_989 rfl (lv_at hl 4 rfl) ?_
    refine z_ciF (ws1 := lwW D cI A B ho V (u.2.2, t.2, u.2.1, S.2.2.2)) (fr := (ho, .inl (D.1 101, 1, .inr (.inl u.2.1))) :: cw D cI A V u.2.2) (z_rVF (rest := []) (fr := (ho, .inl (D.1 101, 1, .inr (.inl u.2.1))) :: cw D cI A V u.2.2) (ws := lwW D cI A B ho V (u.2.2, v.2, u.2.1, S.2.2.2)) (ci := 12) (b := B.1) (As := []) hx hb hml hown hcx hl.1 (kM_thrown l D cI B v.2 t ht _) tl_L_83 ti_X12_thrown tz_X12_thrown tn_X12 tc_X12_thrown tm_X12_thrown rfl rfl ⟨Nat.le_trans (Nat.le_of_ble_eq_true rfl) hfr, Nat.le_trans (Nat.le_of_ble_eq_true rfl) hlo⟩ hK hX hS hA hP hD pq_m ml_root rfl rfl rfl (Nat.le_of_ble_eq_true rfl) dLaw_990 ⟨hr.1, hr.2⟩) hP hD hS hA pq_m pq_m (fun H locs hP hD hS => ?_)
    refine lv_iload hx hb dLaw_993 (lv_at hl 1 rfl) ?_
    refine lv_icmp_eq (tgt := 1000) hx hb dLaw_995 (by decide) (fun _ => ?_) (fun h9 => absurd h1 h9)
    refine lv_iload hx hb dLaw_1000 (lv_at hl 1 rfl) ?_
    refine lv_if_ne (tgt := 1017) hx hb dLaw_1002 (by decide) (fun h9 => absurd h2 h9) (fun _ => ?_)
    refine lv_aload_n hx hb dLaw_1005 rfl (lv_at hl 5 rfl) ?_
    refine lv_iconst (v := 0) hx hb dLaw_1006 (by decide) ?_
    refine va_lald (a := ho) hx hb hK.1 hP 0 2 rfl rfl (i := 0) vp_in01 dLaw_1007 ?_
    refine lv_iload hx hb dLaw_1008 (lv_at hl 0 rfl) ?_
    refine lv_i2l hx hb dLaw_1010 rfl ?_
    refine W.lcmp hx hb dLaw_1011 ?_
    refine lv_if_eq (tgt := 1017) hx hb dLaw_1012 (by decide) (fun _ => ?_) (fun h9 => absurd h3 h9)
    refine lv_goto (tgt := 1521) hx hb dLaw_1017 (by decide) ?_
    exact cont V _ _ _ hP hD hS (lv_sub hl [2, 3, 4, 5, 6] rfl)
  · obtain rfl := Option.some.inj ((if_neg h2).symm.trans hf)
    refine lv_aload_n hx hb dLaw_952 rfl (lv_at hl 1 rfl) ?_
    refine lv_aload_n hx hb dLaw_953 rfl (lv_at hl 0 rfl) ?_
    refine lv_iload hx hb dLaw_954 (lv_at hl 4 rfl) ?_
    refine lv_iconst (v := 1) hx hb dLaw_956 (by decide) ?_
    refine lv_iadd hx hb dLaw_957 ?_
    refine va_sld (A := lA s) hx hb hXs hbl hbA hS (hin 1 (by decide)) dLaw_958 ?_
    refine lv_aload_n hx hb dLaw_959 rfl (lv_at hl 0 rfl) ?_
    refine lv_iload hx hb dLaw_960 (lv_at hl 4 rfl) ?_
    refine lv_iconst (v := 2) hx hb dLaw_962 (by decide) ?_
    refine lv_iadd hx hb dLaw_963 ?_
    refine va_sld (A := lA s) hx hb hXs hbl hbA hS (hin 2 (by decide)) dLaw_964 ?_
    refine lv_aload_n hx hb dLaw_965 rfl (lv_at hl 3 rfl) ?_
    refine z_cinF (ws1 := fun V => lwW D cI A B ho V (u.2.2, S.2.1, u.2.1, S.2.2.2)) (fr := rfw cI B S.2.1) (z_rSW (rest := []) (fr := rfw cI B S.2.1) (ws := lwW D cI A B ho V (S.1, S.2.1, S.2.2.1, S.2.2.2)) (As := [.ref A.1, .int (xs (i + 1).toNatClampNeg), .int (xs (i + 2).toNatClampNeg), .ref ho]) hx hb hml hown hcx hl.1 (h_recovered l hlt D cI A ho V S.1 S.2.2.1 (xs (i + 1).toNatClampNeg) (xs (i + 2).toNatClampNeg) u hu _) tl_L_139 ts_L_recovered tn_L tc_L_recovered tm_L_recovered rfl rfl ⟨Nat.le_trans (Nat.le_of_ble_eq_true rfl) hfr, Nat.le_trans (Nat.le_of_ble_eq_true rfl) hlo⟩ hK hX hS hA hP hD pq_h rfl rfl (Nat.le_of_ble_eq_true rfl) dLaw_966 ⟨hr.1, hr.2⟩) hP hD hS hA pq_h (fun _ => pq_h) (fun V H locs hP hD hS => ?_)
    refine lv_istore (lv' := [(5, .int u.1), (0, .ref b), (1, .ref A.1), (2, .ref B.1), (3, .ref ho), (4, .int i)]) hx hb dLaw_969 hl (by decide) rfl (fun ls hl => ?_)
    refine lv_aload_n hx hb dLaw_971 rfl (lv_at hl 3 rfl) ?_
    refine lv_aload_n hx hb dLaw_972 rfl (lv_at hl 1 rfl) ?_
    refine lv_iload hx hb dLaw_973 (lv_at hl 5 rfl) ?_
    refine lv_iconst (v := 1) hx hb dLaw_975 (by decide) ?_
    refine lv_iadd hx hb dLaw_976 ?_
    refine va_sld (A := lA s) hx hb hXs hbl hbA hS (hin 1 (by decide)) dLaw_977 ?_
    refine lv_aload_n hx hb dLaw_978 rfl (lv_at hl 1 rfl) ?_
    refine lv_iload hx hb dLaw_979 (lv_at hl 5 rfl) ?_
    refine lv_iconst (v := 2) hx hb dLaw_981 (by decide) ?_
    refine lv_iadd hx hb dLaw_982 ?_
    refine va_sld (A := lA s) hx hb hXs hbl hbA hS (hin 2 (by decide)) dLaw_983 ?_
    refine z_ciF (ws1 := lwW D cI A B ho V (u.2.2, v.2, u.2.1, S.2.2.2)) (fr := (ho, .inl (D.1 101, 1, .inr (.inl u.2.1))) :: cw D cI A V u.2.2) (z_rVF (rest := []) (fr := (ho, .inl (D.1 101, 1, .inr (.inl u.2.1))) :: cw D cI A V u.2.2) (ws := lwW D cI A B ho V (u.2.2, S.2.1, u.2.1, S.2.2.2)) (ci := 12) (b := B.1) (As := [.int (xs (i + 1).toNatClampNeg), .int (xs (i + 2).toNatClampNeg)]) hx hb hml hown hcx hl.1 (kM_recovered l D cI B S.2.1 (xs (i + 1).toNatClampNeg) (xs (i + 2).toNatClampNeg) v hv _) tl_L_141 ti_X12_recovered tz_X12_recovered tn_X12 tc_X12_recovered tm_X12_recovered rfl rfl ⟨Nat.le_trans (Nat.le_of_ble_eq_true rfl) hfr, Nat.le_trans (Nat.le_of_ble_eq_true rfl) hlo⟩ hK hX hS hA hP hD pq_m ml_root rfl rfl rfl (Nat.le_of_ble_eq_true rfl) dLaw_984 ⟨hr.1, hr.2⟩) hP hD hS hA pq_m pq_m (fun H locs hP hD hS => ?_)
    refine lv_istore (lv' := [(6, .int v.1), (5, .int u.1), (0, .ref b), (1, .ref A.1), (2, .ref B.1), (3, .ref ho), (4, .int i)]) hx hb dLaw_987 hl (by decide) rfl (fun ls hl => ?_)
    refine lv_aload_n hx hb dLaw_989 rfl (lv_at hl 4 rfl) ?_
    refine z_ciF (ws1 := lwW D cI A B ho V (u.2.2, t.2, u.2.1, S.2.2.2)) (fr := (ho, .inl (D.1 101, 1, .inr (.inl u.2.1))) :: cw D cI A V u.2.2) (z_rVF (rest := []) (fr := (ho, .inl (D.1 101, 1, .inr (.inl u.2.1))) :: cw D cI A V u.2.2) (ws := lwW D cI A B ho V (u.2.2, v.2, u.2.1, S.2.2.2)) (ci := 12) (b := B.1) (As := []) hx hb hml hown hcx hl.1 (kM_thrown l D cI B v.2 t ht _) tl_L_83 ti_X12_thrown tz_X12_thrown tn_X12 tc_X12_thrown tm_X12_thrown rfl rfl ⟨Nat.le_trans (Nat.le_of_ble_eq_true rfl) hfr, Nat.le_trans (Nat.le_of_ble_eq_true rfl) hlo⟩ hK hX hS hA hP hD pq_m ml_root rfl rfl rfl (Nat.le_of_ble_eq_true rfl) dLaw_990 ⟨hr.1, hr.2⟩) hP hD hS hA pq_m pq_m (fun H locs hP hD hS => ?_)
    refine lv_iload hx hb dLaw_993 (lv_at hl 1 rfl) ?_
    refine lv_icmp_eq (tgt := 1000) hx hb dLaw_995 (by decide) (fun _ => ?_) (fun h9 => absurd h1 h9)
    refine lv_iload hx hb dLaw_1000 (lv_at hl 1 rfl) ?_
    refine lv_if_ne (tgt := 1017) hx hb dLaw_1002 (by decide) (fun _ => ?_) (fun h9 => absurd h9 h2)
    refine lv_goto (tgt := 1521) hx hb dLaw_1017 (by decide) ?_
    exact cont V _ _ _ hP hD hS (lv_sub hl [2, 3, 4, 5, 6] rfl)
def sL_fate (S : LwS) (a1 : Int32) (a2 : Int32) (a3 : Int32) (a4 : Int32) (a5 : Int32) : Option LwS := bd (pL_fate S.1 S.2.2.1 a1) fun u => bd (pM_fate S.2.1 a1) fun v => bd (pM_thrown v.2) fun t => if t.1 = u.1 then (if u.1 = 0 then (if lg_cmp (u.2.1 0) v.1.toInt64 = 0 then some (u.2.2, t.2, u.2.1, S.2.2.2.1 + 1, S.2.2.2.2 + 6) else none) else some (u.2.2, t.2, u.2.1, S.2.2.2.1 + 1, S.2.2.2.2 + 6)) else none
set_option maxHeartbeats 4000000 in
set_option maxRecDepth 100000 in
theorem lc_fate {p : Program} {l : Launch} {e : Env} {R : Room} {s : State} {m : MethodId} {args : Array Value} {below : List Frame} {meth : Method} {c : Code} {Q : State → Prop} {D : va_G} {cI : ClassId} {cx : Cond} {b L : Nat} {xs : Nat → Int32} (hC : LawCtx p l R s m args c D cI cx b L xs) (A : CAd) (B : Nat × (Nat → Nat)) (ho : Nat) (V : CV) (S S9 : LwS) (i : Int32) (hin : ∀ j : Int32, j ∈ ([1, 2, 3, 4, 5] : List Int32) → vp_in (i + j) L) (hf : sL_fate S (xs (i + 1).toNatClampNeg) (xs (i + 2).toNatClampNeg) (xs (i + 3).toNatClampNeg) (xs (i + 4).toNatClampNeg) (xs (i + 5).toNatClampNeg) = some S9) (hr : S9.2.2.2.1 ≤ R.cells ∧ S9.2.2.2.2 ≤ R.slots) {H : Heap} {locs : List Loc} {ls : Array Slot} (hP : va_P D vwCl (lwW D cI A B ho V S) H) (hD : va_D (lA s) (lwW D cI A B ho V S)) (hS : va_S (lA s) s.heap H locs) (hl : lv_has ls 7 [(0, .ref b), (1, .ref A.1), (2, .ref B.1), (3, .ref ho), (4, .int i)])
    (cont : ∀ (V : CV) (H : Heap) (locs : List Loc) (ls : Array Slot), va_P D vwCl (lwW D cI A B ho V S9) H → va_D (lA s) (lwW D cI A B ho V S9) → va_S (lA s) s.heap H locs → lv_has ls 7 [(0, .ref b), (1, .ref A.1), (2, .ref B.1), (3, .ref ho), (4, .int i)] → W p l e R s m args below meth c H locs S9.2.2.2.1 S9.2.2.2.2 Q (F0 m 1521 ls [])) : W p l e R s m args below meth c H locs S.2.2.2.1 S.2.2.2.2 Q (F0 m 1020 ls []) := by
  obtain ⟨hx, hb, hml, hts, hcx, hown, hK, hX, hXs, hbl, hlt, hfr, hlo⟩ := hC
  have hbA : ¬ lA s b := Nat.not_le.mpr hbl
  have hA : ∀ q : Nat, s.heap.size ≤ q → lA s q := fun q h => h
  obtain ⟨u, hu, hf⟩ := bd_some hf
  obtain ⟨v, hv, hf⟩ := bd_some hf
  obtain ⟨t, ht, hf⟩ := bd_some hf
  by_cases h1 : t.1 = u.1
  case neg => cases ((if_neg h1).symm.trans hf)
  have hf := (if_pos h1).symm.trans hf
  by_cases h2 : u.1 = 0
  · have hf := (if_pos h2).symm.trans hf
    by_cases h3 : lg_cmp (u.2.1 0) v.1.toInt64 = 0
    case neg => cases ((if_neg h3).symm.trans hf)
    obtain rfl := Option.some.inj ((if_pos h3).symm.trans hf)
    refine lv_aload_n hx hb dLaw_1020 rfl (lv_at hl 1 rfl) ?_
    refine lv_aload_n hx hb dLaw_1021 rfl (lv_at hl 0 rfl) ?_
    refine lv_iload hx hb dLaw_1022 (lv_at hl 4 rfl) ?_
    refine lv_iconst (v := 1) hx hb dLaw_1024 (by decide) ?_
    refine lv_iadd hx hb dLaw_1025 ?_
    refine va_sld (A := lA s) hx hb hXs hbl hbA hS (hin 1 (by decide)) dLaw_1026 ?_
    refine lv_aload_n hx hb dLaw_1027 rfl (lv_at hl 3 rfl) ?_
    refine z_cinF (ws1 := fun V => lwW D cI A B ho V (u.2.2, S.2.1, u.2.1, S.2.2.2)) (fr := rfw cI B S.2.1) (z_rSW (rest := []) (fr := rfw cI B S.2.1) (ws := lwW D cI A B ho V (S.1, S.2.1, S.2.2.1, S.2.2.2)) (As := [.ref A.1, .int (xs (i + 1).toNatClampNeg), .ref ho]) hx hb hml hown hcx hl.1 (h_fate l hlt D cI A ho V S.1 S.2.2.1 (xs (i + 1).toNatClampNeg) u hu _) tl_L_142 ts_L_fate tn_L tc_L_fate tm_L_fate rfl rfl ⟨Nat.le_trans (Nat.le_of_ble_eq_true rfl) hfr, Nat.le_trans (Nat.le_of_ble_eq_true rfl) hlo⟩ hK hX hS hA hP hD pq_h rfl rfl (Nat.le_of_ble_eq_true rfl) dLaw_1028 ⟨hr.1, hr.2⟩) hP hD hS hA pq_h (fun _ => pq_h) (fun V H locs hP hD hS => ?_)
    refine lv_istore (lv' := [(5, .int u.1), (0, .ref b), (1, .ref A.1), (2, .ref B.1), (3, .ref ho), (4, .int i)]) hx hb dLaw_1031 hl (by decide) rfl (fun ls hl => ?_)
    refine lv_aload_n hx hb dLaw_1033 rfl (lv_at hl 3 rfl) ?_
    refine lv_aload_n hx hb dLaw_1034 rfl (lv_at hl 1 rfl) ?_
    refine lv_iload hx hb dLaw_1035 (lv_at hl 5 rfl) ?_
    refine lv_iconst (v := 1) hx hb dLaw_1037 (by decide) ?_
    refine lv_iadd hx hb dLaw_1038 ?_
    refine va_sld (A := lA s) hx hb hXs hbl hbA hS (hin 1 (by decide)) dLaw_1039 ?_
    refine z_ciF (ws1 := lwW D cI A B ho V (u.2.2, v.2, u.2.1, S.2.2.2)) (fr := (ho, .inl (D.1 101, 1, .inr (.inl u.2.1))) :: cw D cI A V u.2.2) (z_rVF (rest := []) (fr := (ho, .inl (D.1 101, 1, .inr (.inl u.2.1))) :: cw D cI A V u.2.2) (ws := lwW D cI A B ho V (u.2.2, S.2.1, u.2.1, S.2.2.2)) (ci := 12) (b := B.1) (As := [.int (xs (i + 1).toNatClampNeg)]) hx hb hml hown hcx hl.1 (kM_fate l D cI B S.2.1 (xs (i + 1).toNatClampNeg) v hv _) tl_L_144 ti_X12_fate tz_X12_fate tn_X12 tc_X12_fate tm_X12_fate rfl rfl ⟨Nat.le_trans (Nat.le_of_ble_eq_true rfl) hfr, Nat.le_trans (Nat.le_of_ble_eq_true rfl) hlo⟩ hK hX hS hA hP hD pq_m ml_root rfl rfl rfl (Nat.le_of_ble_eq_true rfl) dLaw_1040 ⟨hr.1, hr.2⟩) hP hD hS hA pq_m pq_m (fun H locs hP hD hS => ?_)
    refine lv_istore (lv' := [(6, .int v.1), (5, .int u.1), (0, .ref b), (1, .ref A.1), (2, .ref B.1), (3, .ref ho), (4, .int i)]) hx hb dLaw_1043 hl (by decide) rfl (fun ls hl => ?_)
    refine lv_aload_n hx hb dLaw_1045 rfl (lv_at hl 4 rfl) ?_
    refine z_ciF (ws1 := lwW D cI A B ho V (u.2.2, t.2, u.2.1, S.2.2.2)) (fr := (ho, .inl (D.1 101, 1, .inr (.inl u.2.1))) :: cw D cI A V u.2.2) (z_rVF (rest := []) (fr := (ho, .inl (D.1 101, 1, .inr (.inl u.2.1))) :: cw D cI A V u.2.2) (ws := lwW D cI A B ho V (u.2.2, v.2, u.2.1, S.2.2.2)) (ci := 12) (b := B.1) (As := []) hx hb hml hown hcx hl.1 (kM_thrown l D cI B v.2 t ht _) tl_L_83 ti_X12_thrown tz_X12_thrown tn_X12 tc_X12_thrown tm_X12_thrown rfl rfl ⟨Nat.le_trans (Nat.le_of_ble_eq_true rfl) hfr, Nat.le_trans (Nat.le_of_ble_eq_true rfl) hlo⟩ hK hX hS hA hP hD pq_m ml_root rfl rfl rfl (Nat.le_of_ble_eq_true rfl) dLaw_1046 ⟨hr.1, hr.2⟩) hP hD hS hA pq_m pq_m (fun H locs hP hD hS => ?_)
    refine lv_iload hx hb dLaw_1049 (lv_at hl 1 rfl) ?_
    refine lv_icmp_eq (tgt := 1056) hx hb dLaw_1051 (by decide) (fun _ => ?_) (fun h9 => absurd h1 h9)
    refine lv_iload hx hb dLaw_1056 (lv_at hl 1 rfl) ?_
    refine lv_if_ne (tgt := 1073) hx hb dLaw_1058 (by decide) (fun h9 => absurd h2 h9) (fun _ => ?_)
    refine lv_aload_n hx hb dLaw_1061 rfl (lv_at hl 5 rfl) ?_
    refine lv_iconst (v := 0) hx hb dLaw_1062 (by decide) ?_
    refine va_lald (a := ho) hx hb hK.1 hP 0 2 rfl rfl (i := 0) vp_in01 dLaw_1063 ?_
    refine lv_iload hx hb dLaw_1064 (lv_at hl 0 rfl) ?_
    refine lv_i2l hx hb dLaw_1066 rfl ?_
    refine W.lcmp hx hb dLaw_1067 ?_
    refine lv_if_eq (tgt := 1073) hx hb dLaw_1068 (by decide) (fun _ => ?_) (fun h9 => absurd h3 h9)
    refine lv_goto (tgt := 1521) hx hb dLaw_1073 (by decide) ?_
    exact cont V _ _ _ hP hD hS (lv_sub hl [2, 3, 4, 5, 6] rfl)
  · obtain rfl := Option.some.inj ((if_neg h2).symm.trans hf)
    refine lv_aload_n hx hb dLaw_1020 rfl (lv_at hl 1 rfl) ?_
    refine lv_aload_n hx hb dLaw_1021 rfl (lv_at hl 0 rfl) ?_
    refine lv_iload hx hb dLaw_1022 (lv_at hl 4 rfl) ?_
    refine lv_iconst (v := 1) hx hb dLaw_1024 (by decide) ?_
    refine lv_iadd hx hb dLaw_1025 ?_
    refine va_sld (A := lA s) hx hb hXs hbl hbA hS (hin 1 (by decide)) dLaw_1026 ?_
    refine lv_aload_n hx hb dLaw_1027 rfl (lv_at hl 3 rfl) ?_
    refine z_cinF (ws1 := fun V => lwW D cI A B ho V (u.2.2, S.2.1, u.2.1, S.2.2.2)) (fr := rfw cI B S.2.1) (z_rSW (rest := []) (fr := rfw cI B S.2.1) (ws := lwW D cI A B ho V (S.1, S.2.1, S.2.2.1, S.2.2.2)) (As := [.ref A.1, .int (xs (i + 1).toNatClampNeg), .ref ho]) hx hb hml hown hcx hl.1 (h_fate l hlt D cI A ho V S.1 S.2.2.1 (xs (i + 1).toNatClampNeg) u hu _) tl_L_142 ts_L_fate tn_L tc_L_fate tm_L_fate rfl rfl ⟨Nat.le_trans (Nat.le_of_ble_eq_true rfl) hfr, Nat.le_trans (Nat.le_of_ble_eq_true rfl) hlo⟩ hK hX hS hA hP hD pq_h rfl rfl (Nat.le_of_ble_eq_true rfl) dLaw_1028 ⟨hr.1, hr.2⟩) hP hD hS hA pq_h (fun _ => pq_h) (fun V H locs hP hD hS => ?_)
    refine lv_istore (lv' := [(5, .int u.1), (0, .ref b), (1, .ref A.1), (2, .ref B.1), (3, .ref ho), (4, .int i)]) hx hb dLaw_1031 hl (by decide) rfl (fun ls hl => ?_)
    refine lv_aload_n hx hb dLaw_1033 rfl (lv_at hl 3 rfl) ?_
    refine lv_aload_n hx hb dLaw_1034 rfl (lv_at hl 1 rfl) ?_
    refine lv_iload hx hb dLaw_1035 (lv_at hl 5 rfl) ?_
    refine lv_iconst (v := 1) hx hb dLaw_1037 (by decide) ?_
    refine lv_iadd hx hb dLaw_1038 ?_
    refine va_sld (A := lA s) hx hb hXs hbl hbA hS (hin 1 (by decide)) dLaw_1039 ?_
    refine z_ciF (ws1 := lwW D cI A B ho V (u.2.2, v.2, u.2.1, S.2.2.2)) (fr := (ho, .inl (D.1 101, 1, .inr (.inl u.2.1))) :: cw D cI A V u.2.2) (z_rVF (rest := []) (fr := (ho, .inl (D.1 101, 1, .inr (.inl u.2.1))) :: cw D cI A V u.2.2) (ws := lwW D cI A B ho V (u.2.2, S.2.1, u.2.1, S.2.2.2)) (ci := 12) (b := B.1) (As := [.int (xs (i + 1).toNatClampNeg)]) hx hb hml hown hcx hl.1 (kM_fate l D cI B S.2.1 (xs (i + 1).toNatClampNeg) v hv _) tl_L_144 ti_X12_fate tz_X12_fate tn_X12 tc_X12_fate tm_X12_fate rfl rfl ⟨Nat.le_trans (Nat.le_of_ble_eq_true rfl) hfr, Nat.le_trans (Nat.le_of_ble_eq_true rfl) hlo⟩ hK hX hS hA hP hD pq_m ml_root rfl rfl rfl (Nat.le_of_ble_eq_true rfl) dLaw_1040 ⟨hr.1, hr.2⟩) hP hD hS hA pq_m pq_m (fun H locs hP hD hS => ?_)
    refine lv_istore (lv' := [(6, .int v.1), (5, .int u.1), (0, .ref b), (1, .ref A.1), (2, .ref B.1), (3, .ref ho), (4, .int i)]) hx hb dLaw_1043 hl (by decide) rfl (fun ls hl => ?_)
    refine lv_aload_n hx hb dLaw_1045 rfl (lv_at hl 4 rfl) ?_
    refine z_ciF (ws1 := lwW D cI A B ho V (u.2.2, t.2, u.2.1, S.2.2.2)) (fr := (ho, .inl (D.1 101, 1, .inr (.inl u.2.1))) :: cw D cI A V u.2.2) (z_rVF (rest := []) (fr := (ho, .inl (D.1 101, 1, .inr (.inl u.2.1))) :: cw D cI A V u.2.2) (ws := lwW D cI A B ho V (u.2.2, v.2, u.2.1, S.2.2.2)) (ci := 12) (b := B.1) (As := []) hx hb hml hown hcx hl.1 (kM_thrown l D cI B v.2 t ht _) tl_L_83 ti_X12_thrown tz_X12_thrown tn_X12 tc_X12_thrown tm_X12_thrown rfl rfl ⟨Nat.le_trans (Nat.le_of_ble_eq_true rfl) hfr, Nat.le_trans (Nat.le_of_ble_eq_true rfl) hlo⟩ hK hX hS hA hP hD pq_m ml_root rfl rfl rfl (Nat.le_of_ble_eq_true rfl) dLaw_1046 ⟨hr.1, hr.2⟩) hP hD hS hA pq_m pq_m (fun H locs hP hD hS => ?_)
    refine lv_iload hx hb dLaw_1049 (lv_at hl 1 rfl) ?_
    refine lv_icmp_eq (tgt := 1056) hx hb dLaw_1051 (by decide) (fun _ => ?_) (fun h9 => absurd h1 h9)
    refine lv_iload hx hb dLaw_1056 (lv_at hl 1 rfl) ?_
    refine lv_if_ne (tgt := 1073) hx hb dLaw_1058 (by decide) (fun _ => ?_) (fun h9 => absurd h9 h2)
    refine lv_goto (tgt := 1521) hx hb dLaw_1073 (by decide) ?_
    exact cont V _ _ _ hP hD hS (lv_sub hl [2, 3, 4, 5, 6] rfl)
def sL_check (S : LwS) (a1 : Int32) (a2 : Int32) (a3 : Int32) (a4 : Int32) (a5 : Int32) : Option LwS := bd (pL_check S.1 S.2.2.1 a1) fun u => bd (pM_check S.2.1 a1) fun v => bd (pM_thrown v.2) fun t => if t.1 = u.1 then (if u.1 = 0 then (if lg_cmp (u.2.1 0) v.1.toInt64 = 0 then some (u.2.2, t.2, u.2.1, S.2.2.2.1 + 1, S.2.2.2.2 + 6) else none) else some (u.2.2, t.2, u.2.1, S.2.2.2.1 + 1, S.2.2.2.2 + 6)) else none
set_option maxHeartbeats 4000000 in
set_option maxRecDepth 100000 in
theorem lc_check {p : Program} {l : Launch} {e : Env} {R : Room} {s : State} {m : MethodId} {args : Array Value} {below : List Frame} {meth : Method} {c : Code} {Q : State → Prop} {D : va_G} {cI : ClassId} {cx : Cond} {b L : Nat} {xs : Nat → Int32} (hC : LawCtx p l R s m args c D cI cx b L xs) (A : CAd) (B : Nat × (Nat → Nat)) (ho : Nat) (V : CV) (S S9 : LwS) (i : Int32) (hin : ∀ j : Int32, j ∈ ([1, 2, 3, 4, 5] : List Int32) → vp_in (i + j) L) (hf : sL_check S (xs (i + 1).toNatClampNeg) (xs (i + 2).toNatClampNeg) (xs (i + 3).toNatClampNeg) (xs (i + 4).toNatClampNeg) (xs (i + 5).toNatClampNeg) = some S9) (hr : S9.2.2.2.1 ≤ R.cells ∧ S9.2.2.2.2 ≤ R.slots) {H : Heap} {locs : List Loc} {ls : Array Slot} (hP : va_P D vwCl (lwW D cI A B ho V S) H) (hD : va_D (lA s) (lwW D cI A B ho V S)) (hS : va_S (lA s) s.heap H locs) (hl : lv_has ls 7 [(0, .ref b), (1, .ref A.1), (2, .ref B.1), (3, .ref ho), (4, .int i)])
    (cont : ∀ (V : CV) (H : Heap) (locs : List Loc) (ls : Array Slot), va_P D vwCl (lwW D cI A B ho V S9) H → va_D (lA s) (lwW D cI A B ho V S9) → va_S (lA s) s.heap H locs → lv_has ls 7 [(0, .ref b), (1, .ref A.1), (2, .ref B.1), (3, .ref ho), (4, .int i)] → W p l e R s m args below meth c H locs S9.2.2.2.1 S9.2.2.2.2 Q (F0 m 1521 ls [])) : W p l e R s m args below meth c H locs S.2.2.2.1 S.2.2.2.2 Q (F0 m 1076 ls []) := by
  obtain ⟨hx, hb, hml, hts, hcx, hown, hK, hX, hXs, hbl, hlt, hfr, hlo⟩ := hC
  have hbA : ¬ lA s b := Nat.not_le.mpr hbl
  have hA : ∀ q : Nat, s.heap.size ≤ q → lA s q := fun q h => h
  obtain ⟨u, hu, hf⟩ := bd_some hf
  obtain ⟨v, hv, hf⟩ := bd_some hf
  obtain ⟨t, ht, hf⟩ := bd_some hf
  by_cases h1 : t.1 = u.1
  case neg => cases ((if_neg h1).symm.trans hf)
  have hf := (if_pos h1).symm.trans hf
  by_cases h2 : u.1 = 0
  · have hf := (if_pos h2).symm.trans hf
    by_cases h3 : lg_cmp (u.2.1 0) v.1.toInt64 = 0
    case neg => cases ((if_neg h3).symm.trans hf)
    obtain rfl := Option.some.inj ((if_pos h3).symm.trans hf)
    refine lv_aload_n hx hb dLaw_1076 rfl (lv_at hl 1 rfl) ?_
    refine lv_aload_n hx hb dLaw_1077 rfl (lv_at hl 0 rfl) ?_
    refine lv_iload hx hb dLaw_1078 (lv_at hl 4 rfl) ?_
    refine lv_iconst (v := 1) hx hb dLaw_1080 (by decide) ?_
    refine lv_iadd hx hb dLaw_1081 ?_
    refine va_sld (A := lA s) hx hb hXs hbl hbA hS (hin 1 (by decide)) dLaw_1082 ?_
    refine lv_aload_n hx hb dLaw_1083 rfl (lv_at hl 3 rfl) ?_
    refine z_cinF (ws1 := fun V => lwW D cI A B ho V (u.2.2, S.2.1, u.2.1, S.2.2.2)) (fr := rfw cI B S.2.1) (z_rSW (rest := []) (fr := rfw cI B S.2.1) (ws := lwW D cI A B ho V (S.1, S.2.1, S.2.2.1, S.2.2.2)) (As := [.ref A.1, .int (xs (i + 1).toNatClampNeg), .ref ho]) hx hb hml hown hcx hl.1 (h_check l hlt D cI A ho V S.1 S.2.2.1 (xs (i + 1).toNatClampNeg) u hu _) tl_L_145 ts_L_check tn_L tc_L_check tm_L_check rfl rfl ⟨Nat.le_trans (Nat.le_of_ble_eq_true rfl) hfr, Nat.le_trans (Nat.le_of_ble_eq_true rfl) hlo⟩ hK hX hS hA hP hD pq_h rfl rfl (Nat.le_of_ble_eq_true rfl) dLaw_1084 ⟨hr.1, hr.2⟩) hP hD hS hA pq_h (fun _ => pq_h) (fun V H locs hP hD hS => ?_)
    refine lv_istore (lv' := [(5, .int u.1), (0, .ref b), (1, .ref A.1), (2, .ref B.1), (3, .ref ho), (4, .int i)]) hx hb dLaw_1087 hl (by decide) rfl (fun ls hl => ?_)
    refine lv_aload_n hx hb dLaw_1089 rfl (lv_at hl 3 rfl) ?_
    refine lv_aload_n hx hb dLaw_1090 rfl (lv_at hl 1 rfl) ?_
    refine lv_iload hx hb dLaw_1091 (lv_at hl 5 rfl) ?_
    refine lv_iconst (v := 1) hx hb dLaw_1093 (by decide) ?_
    refine lv_iadd hx hb dLaw_1094 ?_
    refine va_sld (A := lA s) hx hb hXs hbl hbA hS (hin 1 (by decide)) dLaw_1095 ?_
    refine z_ciF (ws1 := lwW D cI A B ho V (u.2.2, v.2, u.2.1, S.2.2.2)) (fr := (ho, .inl (D.1 101, 1, .inr (.inl u.2.1))) :: cw D cI A V u.2.2) (z_rVF (rest := []) (fr := (ho, .inl (D.1 101, 1, .inr (.inl u.2.1))) :: cw D cI A V u.2.2) (ws := lwW D cI A B ho V (u.2.2, S.2.1, u.2.1, S.2.2.2)) (ci := 12) (b := B.1) (As := [.int (xs (i + 1).toNatClampNeg)]) hx hb hml hown hcx hl.1 (kM_check l D cI B S.2.1 (xs (i + 1).toNatClampNeg) v hv _) tl_L_147 ti_X12_check tz_X12_check tn_X12 tc_X12_check tm_X12_check rfl rfl ⟨Nat.le_trans (Nat.le_of_ble_eq_true rfl) hfr, Nat.le_trans (Nat.le_of_ble_eq_true rfl) hlo⟩ hK hX hS hA hP hD pq_m ml_root rfl rfl rfl (Nat.le_of_ble_eq_true rfl) dLaw_1096 ⟨hr.1, hr.2⟩) hP hD hS hA pq_m pq_m (fun H locs hP hD hS => ?_)
    refine lv_istore (lv' := [(6, .int v.1), (5, .int u.1), (0, .ref b), (1, .ref A.1), (2, .ref B.1), (3, .ref ho), (4, .int i)]) hx hb dLaw_1099 hl (by decide) rfl (fun ls hl => ?_)
    refine lv_aload_n hx hb dLaw_1101 rfl (lv_at hl 4 rfl) ?_
    refine z_ciF (ws1 := lwW D cI A B ho V (u.2.2, t.2, u.2.1, S.2.2.2)) (fr := (ho, .inl (D.1 101, 1, .inr (.inl u.2.1))) :: cw D cI A V u.2.2) (z_rVF (rest := []) (fr := (ho, .inl (D.1 101, 1, .inr (.inl u.2.1))) :: cw D cI A V u.2.2) (ws := lwW D cI A B ho V (u.2.2, v.2, u.2.1, S.2.2.2)) (ci := 12) (b := B.1) (As := []) hx hb hml hown hcx hl.1 (kM_thrown l D cI B v.2 t ht _) tl_L_83 ti_X12_thrown tz_X12_thrown tn_X12 tc_X12_thrown tm_X12_thrown rfl rfl ⟨Nat.le_trans (Nat.le_of_ble_eq_true rfl) hfr, Nat.le_trans (Nat.le_of_ble_eq_true rfl) hlo⟩ hK hX hS hA hP hD pq_m ml_root rfl rfl rfl (Nat.le_of_ble_eq_true rfl) dLaw_1102 ⟨hr.1, hr.2⟩) hP hD hS hA pq_m pq_m (fun H locs hP hD hS => ?_)
    refine lv_iload hx hb dLaw_1105 (lv_at hl 1 rfl) ?_
    refine lv_icmp_eq (tgt := 1112) hx hb dLaw_1107 (by decide) (fun _ => ?_) (fun h9 => absurd h1 h9)
    refine lv_iload hx hb dLaw_1112 (lv_at hl 1 rfl) ?_
    refine lv_if_ne (tgt := 1129) hx hb dLaw_1114 (by decide) (fun h9 => absurd h2 h9) (fun _ => ?_)
    refine lv_aload_n hx hb dLaw_1117 rfl (lv_at hl 5 rfl) ?_
    refine lv_iconst (v := 0) hx hb dLaw_1118 (by decide) ?_
    refine va_lald (a := ho) hx hb hK.1 hP 0 2 rfl rfl (i := 0) vp_in01 dLaw_1119 ?_
    refine lv_iload hx hb dLaw_1120 (lv_at hl 0 rfl) ?_
    refine lv_i2l hx hb dLaw_1122 rfl ?_
    refine W.lcmp hx hb dLaw_1123 ?_
    refine lv_if_eq (tgt := 1129) hx hb dLaw_1124 (by decide) (fun _ => ?_) (fun h9 => absurd h3 h9)
    refine lv_goto (tgt := 1521) hx hb dLaw_1129 (by decide) ?_
    exact cont V _ _ _ hP hD hS (lv_sub hl [2, 3, 4, 5, 6] rfl)
  · obtain rfl := Option.some.inj ((if_neg h2).symm.trans hf)
    refine lv_aload_n hx hb dLaw_1076 rfl (lv_at hl 1 rfl) ?_
    refine lv_aload_n hx hb dLaw_1077 rfl (lv_at hl 0 rfl) ?_
    refine lv_iload hx hb dLaw_1078 (lv_at hl 4 rfl) ?_
    refine lv_iconst (v := 1) hx hb dLaw_1080 (by decide) ?_
    refine lv_iadd hx hb dLaw_1081 ?_
    refine va_sld (A := lA s) hx hb hXs hbl hbA hS (hin 1 (by decide)) dLaw_1082 ?_
    refine lv_aload_n hx hb dLaw_1083 rfl (lv_at hl 3 rfl) ?_
    refine z_cinF (ws1 := fun V => lwW D cI A B ho V (u.2.2, S.2.1, u.2.1, S.2.2.2)) (fr := rfw cI B S.2.1) (z_rSW (rest := []) (fr := rfw cI B S.2.1) (ws := lwW D cI A B ho V (S.1, S.2.1, S.2.2.1, S.2.2.2)) (As := [.ref A.1, .int (xs (i + 1).toNatClampNeg), .ref ho]) hx hb hml hown hcx hl.1 (h_check l hlt D cI A ho V S.1 S.2.2.1 (xs (i + 1).toNatClampNeg) u hu _) tl_L_145 ts_L_check tn_L tc_L_check tm_L_check rfl rfl ⟨Nat.le_trans (Nat.le_of_ble_eq_true rfl) hfr, Nat.le_trans (Nat.le_of_ble_eq_true rfl) hlo⟩ hK hX hS hA hP hD pq_h rfl rfl (Nat.le_of_ble_eq_true rfl) dLaw_1084 ⟨hr.1, hr.2⟩) hP hD hS hA pq_h (fun _ => pq_h) (fun V H locs hP hD hS => ?_)
    refine lv_istore (lv' := [(5, .int u.1), (0, .ref b), (1, .ref A.1), (2, .ref B.1), (3, .ref ho), (4, .int i)]) hx hb dLaw_1087 hl (by decide) rfl (fun ls hl => ?_)
    refine lv_aload_n hx hb dLaw_1089 rfl (lv_at hl 3 rfl) ?_
    refine lv_aload_n hx hb dLaw_1090 rfl (lv_at hl 1 rfl) ?_
    refine lv_iload hx hb dLaw_1091 (lv_at hl 5 rfl) ?_
    refine lv_iconst (v := 1) hx hb dLaw_1093 (by decide) ?_
    refine lv_iadd hx hb dLaw_1094 ?_
    refine va_sld (A := lA s) hx hb hXs hbl hbA hS (hin 1 (by decide)) dLaw_1095 ?_
    refine z_ciF (ws1 := lwW D cI A B ho V (u.2.2, v.2, u.2.1, S.2.2.2)) (fr := (ho, .inl (D.1 101, 1, .inr (.inl u.2.1))) :: cw D cI A V u.2.2) (z_rVF (rest := []) (fr := (ho, .inl (D.1 101, 1, .inr (.inl u.2.1))) :: cw D cI A V u.2.2) (ws := lwW D cI A B ho V (u.2.2, S.2.1, u.2.1, S.2.2.2)) (ci := 12) (b := B.1) (As := [.int (xs (i + 1).toNatClampNeg)]) hx hb hml hown hcx hl.1 (kM_check l D cI B S.2.1 (xs (i + 1).toNatClampNeg) v hv _) tl_L_147 ti_X12_check tz_X12_check tn_X12 tc_X12_check tm_X12_check rfl rfl ⟨Nat.le_trans (Nat.le_of_ble_eq_true rfl) hfr, Nat.le_trans (Nat.le_of_ble_eq_true rfl) hlo⟩ hK hX hS hA hP hD pq_m ml_root rfl rfl rfl (Nat.le_of_ble_eq_true rfl) dLaw_1096 ⟨hr.1, hr.2⟩) hP hD hS hA pq_m pq_m (fun H locs hP hD hS => ?_)
    refine lv_istore (lv' := [(6, .int v.1), (5, .int u.1), (0, .ref b), (1, .ref A.1), (2, .ref B.1), (3, .ref ho), (4, .int i)]) hx hb dLaw_1099 hl (by decide) rfl (fun ls hl => ?_)
    refine lv_aload_n hx hb dLaw_1101 rfl (lv_at hl 4 rfl) ?_
    refine z_ciF (ws1 := lwW D cI A B ho V (u.2.2, t.2, u.2.1, S.2.2.2)) (fr := (ho, .inl (D.1 101, 1, .inr (.inl u.2.1))) :: cw D cI A V u.2.2) (z_rVF (rest := []) (fr := (ho, .inl (D.1 101, 1, .inr (.inl u.2.1))) :: cw D cI A V u.2.2) (ws := lwW D cI A B ho V (u.2.2, v.2, u.2.1, S.2.2.2)) (ci := 12) (b := B.1) (As := []) hx hb hml hown hcx hl.1 (kM_thrown l D cI B v.2 t ht _) tl_L_83 ti_X12_thrown tz_X12_thrown tn_X12 tc_X12_thrown tm_X12_thrown rfl rfl ⟨Nat.le_trans (Nat.le_of_ble_eq_true rfl) hfr, Nat.le_trans (Nat.le_of_ble_eq_true rfl) hlo⟩ hK hX hS hA hP hD pq_m ml_root rfl rfl rfl (Nat.le_of_ble_eq_true rfl) dLaw_1102 ⟨hr.1, hr.2⟩) hP hD hS hA pq_m pq_m (fun H locs hP hD hS => ?_)
    refine lv_iload hx hb dLaw_1105 (lv_at hl 1 rfl) ?_
    refine lv_icmp_eq (tgt := 1112) hx hb dLaw_1107 (by decide) (fun _ => ?_) (fun h9 => absurd h1 h9)
    refine lv_iload hx hb dLaw_1112 (lv_at hl 1 rfl) ?_
    refine lv_if_ne (tgt := 1129) hx hb dLaw_1114 (by decide) (fun _ => ?_) (fun h9 => absurd h9 h2)
    refine lv_goto (tgt := 1521) hx hb dLaw_1129 (by decide) ?_
    exact cont V _ _ _ hP hD hS (lv_sub hl [2, 3, 4, 5, 6] rfl)
def sL_needless (S : LwS) (a1 : Int32) (a2 : Int32) (a3 : Int32) (a4 : Int32) (a5 : Int32) : Option LwS := bd (pX_needless S.1) fun u => bd (pM_needless S.2.1) fun v => if u.1 = v.1 then some (u.2, v.2, S.2.2.1, S.2.2.2.1 + 0, S.2.2.2.2 + 0) else none
set_option maxHeartbeats 4000000 in
set_option maxRecDepth 100000 in
theorem lc_needless {p : Program} {l : Launch} {e : Env} {R : Room} {s : State} {m : MethodId} {args : Array Value} {below : List Frame} {meth : Method} {c : Code} {Q : State → Prop} {D : va_G} {cI : ClassId} {cx : Cond} {b L : Nat} {xs : Nat → Int32} (hC : LawCtx p l R s m args c D cI cx b L xs) (A : CAd) (B : Nat × (Nat → Nat)) (ho : Nat) (V : CV) (S S9 : LwS) (i : Int32) (hin : ∀ j : Int32, j ∈ ([1, 2, 3, 4, 5] : List Int32) → vp_in (i + j) L) (hf : sL_needless S (xs (i + 1).toNatClampNeg) (xs (i + 2).toNatClampNeg) (xs (i + 3).toNatClampNeg) (xs (i + 4).toNatClampNeg) (xs (i + 5).toNatClampNeg) = some S9) (hr : S9.2.2.2.1 ≤ R.cells ∧ S9.2.2.2.2 ≤ R.slots) {H : Heap} {locs : List Loc} {ls : Array Slot} (hP : va_P D vwCl (lwW D cI A B ho V S) H) (hD : va_D (lA s) (lwW D cI A B ho V S)) (hS : va_S (lA s) s.heap H locs) (hl : lv_has ls 7 [(0, .ref b), (1, .ref A.1), (2, .ref B.1), (3, .ref ho), (4, .int i)])
    (cont : ∀ (V : CV) (H : Heap) (locs : List Loc) (ls : Array Slot), va_P D vwCl (lwW D cI A B ho V S9) H → va_D (lA s) (lwW D cI A B ho V S9) → va_S (lA s) s.heap H locs → lv_has ls 7 [(0, .ref b), (1, .ref A.1), (2, .ref B.1), (3, .ref ho), (4, .int i)] → W p l e R s m args below meth c H locs S9.2.2.2.1 S9.2.2.2.2 Q (F0 m 1521 ls [])) : W p l e R s m args below meth c H locs S.2.2.2.1 S.2.2.2.2 Q (F0 m 1132 ls []) := by
  obtain ⟨hx, hb, hml, hts, hcx, hown, hK, hX, hXs, hbl, hlt, hfr, hlo⟩ := hC
  have hbA : ¬ lA s b := Nat.not_le.mpr hbl
  have hA : ∀ q : Nat, s.heap.size ≤ q → lA s q := fun q h => h
  obtain ⟨u, hu, hf⟩ := bd_some hf
  obtain ⟨v, hv, hf⟩ := bd_some hf
  by_cases h1 : u.1 = v.1
  case neg => cases ((if_neg h1).symm.trans hf)
  obtain rfl := Option.some.inj ((if_pos h1).symm.trans hf)
  refine lv_aload_n hx hb dLaw_1132 rfl (lv_at hl 1 rfl) ?_
  refine z_cinF (ws1 := fun V => lwW D cI A B ho V (u.2, S.2.1, S.2.2.1, S.2.2.2)) (fr := (ho, .inl (D.1 101, 1, .inr (.inl S.2.2.1))) :: rfw cI B S.2.1) (z_rVF (rest := []) (fr := (ho, .inl (D.1 101, 1, .inr (.inl S.2.2.1))) :: rfw cI B S.2.1) (ws := lwW D cI A B ho V (S.1, S.2.1, S.2.2.1, S.2.2.2)) (ci := 11) (b := A.1) (As := []) hx hb hml hown hcx hl.1 (k_needless l D cI A V S.1 u hu _) tl_L_148 ti_X11_needless tz_X11_needless tn_X11 tc_X11_needless tm_X11_needless rfl rfl ⟨Nat.le_trans (Nat.le_of_ble_eq_true rfl) hfr, Nat.le_trans (Nat.le_of_ble_eq_true rfl) hlo⟩ hK hX hS hA hP hD pq_c cw_root rfl rfl rfl (Nat.le_of_ble_eq_true rfl) dLaw_1133 ⟨hr.1, hr.2⟩) hP hD hS hA pq_c (fun _ => pq_c) (fun V H locs hP hD hS => ?_)
  refine lv_aload_n hx hb dLaw_1136 rfl (lv_at hl 2 rfl) ?_
  refine z_ciF (ws1 := lwW D cI A B ho V (u.2, v.2, S.2.2.1, S.2.2.2)) (fr := (ho, .inl (D.1 101, 1, .inr (.inl S.2.2.1))) :: cw D cI A V u.2) (z_rVF (rest := [.int u.1]) (fr := (ho, .inl (D.1 101, 1, .inr (.inl S.2.2.1))) :: cw D cI A V u.2) (ws := lwW D cI A B ho V (u.2, S.2.1, S.2.2.1, S.2.2.2)) (ci := 12) (b := B.1) (As := []) hx hb hml hown hcx hl.1 (kM_needless l D cI B S.2.1 v hv _) tl_L_151 ti_X12_needless tz_X12_needless tn_X12 tc_X12_needless tm_X12_needless rfl rfl ⟨Nat.le_trans (Nat.le_of_ble_eq_true rfl) hfr, Nat.le_trans (Nat.le_of_ble_eq_true rfl) hlo⟩ hK hX hS hA hP hD pq_m ml_root rfl rfl rfl (Nat.le_of_ble_eq_true rfl) dLaw_1137 ⟨hr.1, hr.2⟩) hP hD hS hA pq_m pq_m (fun H locs hP hD hS => ?_)
  refine lv_icmp_eq (tgt := 1521) hx hb dLaw_1140 (by decide) (fun _ => ?_) (fun h9 => absurd h1 h9)
  exact cont V _ _ _ hP hD hS (lv_sub hl [0, 1, 2, 3, 4] rfl)
def sL_least (S : LwS) (a1 : Int32) (a2 : Int32) (a3 : Int32) (a4 : Int32) (a5 : Int32) : Option LwS := bd (pL_least S.1 S.2.2.1 a1) fun u => bd (pM_least S.2.1 a1) fun v => bd (pM_thrown v.2) fun t => if t.1 = u.1 then (if u.1 = 0 then (if lg_cmp (u.2.1 0) v.1.toInt64 = 0 then some (u.2.2, t.2, u.2.1, S.2.2.2.1 + 1, S.2.2.2.2 + 6) else none) else some (u.2.2, t.2, u.2.1, S.2.2.2.1 + 1, S.2.2.2.2 + 6)) else none
set_option maxHeartbeats 4000000 in
set_option maxRecDepth 100000 in
theorem lc_least {p : Program} {l : Launch} {e : Env} {R : Room} {s : State} {m : MethodId} {args : Array Value} {below : List Frame} {meth : Method} {c : Code} {Q : State → Prop} {D : va_G} {cI : ClassId} {cx : Cond} {b L : Nat} {xs : Nat → Int32} (hC : LawCtx p l R s m args c D cI cx b L xs) (A : CAd) (B : Nat × (Nat → Nat)) (ho : Nat) (V : CV) (S S9 : LwS) (i : Int32) (hin : ∀ j : Int32, j ∈ ([1, 2, 3, 4, 5] : List Int32) → vp_in (i + j) L) (hf : sL_least S (xs (i + 1).toNatClampNeg) (xs (i + 2).toNatClampNeg) (xs (i + 3).toNatClampNeg) (xs (i + 4).toNatClampNeg) (xs (i + 5).toNatClampNeg) = some S9) (hr : S9.2.2.2.1 ≤ R.cells ∧ S9.2.2.2.2 ≤ R.slots) {H : Heap} {locs : List Loc} {ls : Array Slot} (hP : va_P D vwCl (lwW D cI A B ho V S) H) (hD : va_D (lA s) (lwW D cI A B ho V S)) (hS : va_S (lA s) s.heap H locs) (hl : lv_has ls 7 [(0, .ref b), (1, .ref A.1), (2, .ref B.1), (3, .ref ho), (4, .int i)])
    (cont : ∀ (V : CV) (H : Heap) (locs : List Loc) (ls : Array Slot), va_P D vwCl (lwW D cI A B ho V S9) H → va_D (lA s) (lwW D cI A B ho V S9) → va_S (lA s) s.heap H locs → lv_has ls 7 [(0, .ref b), (1, .ref A.1), (2, .ref B.1), (3, .ref ho), (4, .int i)] → W p l e R s m args below meth c H locs S9.2.2.2.1 S9.2.2.2.2 Q (F0 m 1521 ls [])) : W p l e R s m args below meth c H locs S.2.2.2.1 S.2.2.2.2 Q (F0 m 1145 ls []) := by
  obtain ⟨hx, hb, hml, hts, hcx, hown, hK, hX, hXs, hbl, hlt, hfr, hlo⟩ := hC
  have hbA : ¬ lA s b := Nat.not_le.mpr hbl
  have hA : ∀ q : Nat, s.heap.size ≤ q → lA s q := fun q h => h
  obtain ⟨u, hu, hf⟩ := bd_some hf
  obtain ⟨v, hv, hf⟩ := bd_some hf
  obtain ⟨t, ht, hf⟩ := bd_some hf
  by_cases h1 : t.1 = u.1
  case neg => cases ((if_neg h1).symm.trans hf)
  have hf := (if_pos h1).symm.trans hf
  by_cases h2 : u.1 = 0
  · have hf := (if_pos h2).symm.trans hf
    by_cases h3 : lg_cmp (u.2.1 0) v.1.toInt64 = 0
    case neg => cases ((if_neg h3).symm.trans hf)
    obtain rfl := Option.some.inj ((if_pos h3).symm.trans hf)
    refine lv_aload_n hx hb dLaw_1145 rfl (lv_at hl 1 rfl) ?_
    refine lv_aload_n hx hb dLaw_1146 rfl (lv_at hl 0 rfl) ?_
    refine lv_iload hx hb dLaw_1147 (lv_at hl 4 rfl) ?_
    refine lv_iconst (v := 1) hx hb dLaw_1149 (by decide) ?_
    refine lv_iadd hx hb dLaw_1150 ?_
    refine va_sld (A := lA s) hx hb hXs hbl hbA hS (hin 1 (by decide)) dLaw_1151 ?_
    refine lv_aload_n hx hb dLaw_1152 rfl (lv_at hl 3 rfl) ?_
    refine z_cinF (ws1 := fun V => lwW D cI A B ho V (u.2.2, S.2.1, u.2.1, S.2.2.2)) (fr := rfw cI B S.2.1) (z_rSW (rest := []) (fr := rfw cI B S.2.1) (ws := lwW D cI A B ho V (S.1, S.2.1, S.2.2.1, S.2.2.2)) (As := [.ref A.1, .int (xs (i + 1).toNatClampNeg), .ref ho]) hx hb hml hown hcx hl.1 (h_least l hlt D cI A ho V S.1 S.2.2.1 (xs (i + 1).toNatClampNeg) u hu _) tl_L_152 ts_L_least tn_L tc_L_least tm_L_least rfl rfl ⟨Nat.le_trans (Nat.le_of_ble_eq_true rfl) hfr, Nat.le_trans (Nat.le_of_ble_eq_true rfl) hlo⟩ hK hX hS hA hP hD pq_h rfl rfl (Nat.le_of_ble_eq_true rfl) dLaw_1153 ⟨hr.1, hr.2⟩) hP hD hS hA pq_h (fun _ => pq_h) (fun V H locs hP hD hS => ?_)
    refine lv_istore (lv' := [(5, .int u.1), (0, .ref b), (1, .ref A.1), (2, .ref B.1), (3, .ref ho), (4, .int i)]) hx hb dLaw_1156 hl (by decide) rfl (fun ls hl => ?_)
    refine lv_aload_n hx hb dLaw_1158 rfl (lv_at hl 3 rfl) ?_
    refine lv_aload_n hx hb dLaw_1159 rfl (lv_at hl 1 rfl) ?_
    refine lv_iload hx hb dLaw_1160 (lv_at hl 5 rfl) ?_
    refine lv_iconst (v := 1) hx hb dLaw_1162 (by decide) ?_
    refine lv_iadd hx hb dLaw_1163 ?_
    refine va_sld (A := lA s) hx hb hXs hbl hbA hS (hin 1 (by decide)) dLaw_1164 ?_
    refine z_ciF (ws1 := lwW D cI A B ho V (u.2.2, v.2, u.2.1, S.2.2.2)) (fr := (ho, .inl (D.1 101, 1, .inr (.inl u.2.1))) :: cw D cI A V u.2.2) (z_rVF (rest := []) (fr := (ho, .inl (D.1 101, 1, .inr (.inl u.2.1))) :: cw D cI A V u.2.2) (ws := lwW D cI A B ho V (u.2.2, S.2.1, u.2.1, S.2.2.2)) (ci := 12) (b := B.1) (As := [.int (xs (i + 1).toNatClampNeg)]) hx hb hml hown hcx hl.1 (kM_least l D cI B S.2.1 (xs (i + 1).toNatClampNeg) v hv _) tl_L_154 ti_X12_least tz_X12_least tn_X12 tc_X12_least tm_X12_least rfl rfl ⟨Nat.le_trans (Nat.le_of_ble_eq_true rfl) hfr, Nat.le_trans (Nat.le_of_ble_eq_true rfl) hlo⟩ hK hX hS hA hP hD pq_m ml_root rfl rfl rfl (Nat.le_of_ble_eq_true rfl) dLaw_1165 ⟨hr.1, hr.2⟩) hP hD hS hA pq_m pq_m (fun H locs hP hD hS => ?_)
    refine lv_istore (lv' := [(6, .int v.1), (5, .int u.1), (0, .ref b), (1, .ref A.1), (2, .ref B.1), (3, .ref ho), (4, .int i)]) hx hb dLaw_1168 hl (by decide) rfl (fun ls hl => ?_)
    refine lv_aload_n hx hb dLaw_1170 rfl (lv_at hl 4 rfl) ?_
    refine z_ciF (ws1 := lwW D cI A B ho V (u.2.2, t.2, u.2.1, S.2.2.2)) (fr := (ho, .inl (D.1 101, 1, .inr (.inl u.2.1))) :: cw D cI A V u.2.2) (z_rVF (rest := []) (fr := (ho, .inl (D.1 101, 1, .inr (.inl u.2.1))) :: cw D cI A V u.2.2) (ws := lwW D cI A B ho V (u.2.2, v.2, u.2.1, S.2.2.2)) (ci := 12) (b := B.1) (As := []) hx hb hml hown hcx hl.1 (kM_thrown l D cI B v.2 t ht _) tl_L_83 ti_X12_thrown tz_X12_thrown tn_X12 tc_X12_thrown tm_X12_thrown rfl rfl ⟨Nat.le_trans (Nat.le_of_ble_eq_true rfl) hfr, Nat.le_trans (Nat.le_of_ble_eq_true rfl) hlo⟩ hK hX hS hA hP hD pq_m ml_root rfl rfl rfl (Nat.le_of_ble_eq_true rfl) dLaw_1171 ⟨hr.1, hr.2⟩) hP hD hS hA pq_m pq_m (fun H locs hP hD hS => ?_)
    refine lv_iload hx hb dLaw_1174 (lv_at hl 1 rfl) ?_
    refine lv_icmp_eq (tgt := 1181) hx hb dLaw_1176 (by decide) (fun _ => ?_) (fun h9 => absurd h1 h9)
    refine lv_iload hx hb dLaw_1181 (lv_at hl 1 rfl) ?_
    refine lv_if_ne (tgt := 1198) hx hb dLaw_1183 (by decide) (fun h9 => absurd h2 h9) (fun _ => ?_)
    refine lv_aload_n hx hb dLaw_1186 rfl (lv_at hl 5 rfl) ?_
    refine lv_iconst (v := 0) hx hb dLaw_1187 (by decide) ?_
    refine va_lald (a := ho) hx hb hK.1 hP 0 2 rfl rfl (i := 0) vp_in01 dLaw_1188 ?_
    refine lv_iload hx hb dLaw_1189 (lv_at hl 0 rfl) ?_
    refine lv_i2l hx hb dLaw_1191 rfl ?_
    refine W.lcmp hx hb dLaw_1192 ?_
    refine lv_if_eq (tgt := 1198) hx hb dLaw_1193 (by decide) (fun _ => ?_) (fun h9 => absurd h3 h9)
    refine lv_goto (tgt := 1521) hx hb dLaw_1198 (by decide) ?_
    exact cont V _ _ _ hP hD hS (lv_sub hl [2, 3, 4, 5, 6] rfl)
  · obtain rfl := Option.some.inj ((if_neg h2).symm.trans hf)
    refine lv_aload_n hx hb dLaw_1145 rfl (lv_at hl 1 rfl) ?_
    refine lv_aload_n hx hb dLaw_1146 rfl (lv_at hl 0 rfl) ?_
    refine lv_iload hx hb dLaw_1147 (lv_at hl 4 rfl) ?_
    refine lv_iconst (v := 1) hx hb dLaw_1149 (by decide) ?_
    refine lv_iadd hx hb dLaw_1150 ?_
    refine va_sld (A := lA s) hx hb hXs hbl hbA hS (hin 1 (by decide)) dLaw_1151 ?_
    refine lv_aload_n hx hb dLaw_1152 rfl (lv_at hl 3 rfl) ?_
    refine z_cinF (ws1 := fun V => lwW D cI A B ho V (u.2.2, S.2.1, u.2.1, S.2.2.2)) (fr := rfw cI B S.2.1) (z_rSW (rest := []) (fr := rfw cI B S.2.1) (ws := lwW D cI A B ho V (S.1, S.2.1, S.2.2.1, S.2.2.2)) (As := [.ref A.1, .int (xs (i + 1).toNatClampNeg), .ref ho]) hx hb hml hown hcx hl.1 (h_least l hlt D cI A ho V S.1 S.2.2.1 (xs (i + 1).toNatClampNeg) u hu _) tl_L_152 ts_L_least tn_L tc_L_least tm_L_least rfl rfl ⟨Nat.le_trans (Nat.le_of_ble_eq_true rfl) hfr, Nat.le_trans (Nat.le_of_ble_eq_true rfl) hlo⟩ hK hX hS hA hP hD pq_h rfl rfl (Nat.le_of_ble_eq_true rfl) dLaw_1153 ⟨hr.1, hr.2⟩) hP hD hS hA pq_h (fun _ => pq_h) (fun V H locs hP hD hS => ?_)
    refine lv_istore (lv' := [(5, .int u.1), (0, .ref b), (1, .ref A.1), (2, .ref B.1), (3, .ref ho), (4, .int i)]) hx hb dLaw_1156 hl (by decide) rfl (fun ls hl => ?_)
    refine lv_aload_n hx hb dLaw_1158 rfl (lv_at hl 3 rfl) ?_
    refine lv_aload_n hx hb dLaw_1159 rfl (lv_at hl 1 rfl) ?_
    refine lv_iload hx hb dLaw_1160 (lv_at hl 5 rfl) ?_
    refine lv_iconst (v := 1) hx hb dLaw_1162 (by decide) ?_
    refine lv_iadd hx hb dLaw_1163 ?_
    refine va_sld (A := lA s) hx hb hXs hbl hbA hS (hin 1 (by decide)) dLaw_1164 ?_
    refine z_ciF (ws1 := lwW D cI A B ho V (u.2.2, v.2, u.2.1, S.2.2.2)) (fr := (ho, .inl (D.1 101, 1, .inr (.inl u.2.1))) :: cw D cI A V u.2.2) (z_rVF (rest := []) (fr := (ho, .inl (D.1 101, 1, .inr (.inl u.2.1))) :: cw D cI A V u.2.2) (ws := lwW D cI A B ho V (u.2.2, S.2.1, u.2.1, S.2.2.2)) (ci := 12) (b := B.1) (As := [.int (xs (i + 1).toNatClampNeg)]) hx hb hml hown hcx hl.1 (kM_least l D cI B S.2.1 (xs (i + 1).toNatClampNeg) v hv _) tl_L_154 ti_X12_least tz_X12_least tn_X12 tc_X12_least tm_X12_least rfl rfl ⟨Nat.le_trans (Nat.le_of_ble_eq_true rfl) hfr, Nat.le_trans (Nat.le_of_ble_eq_true rfl) hlo⟩ hK hX hS hA hP hD pq_m ml_root rfl rfl rfl (Nat.le_of_ble_eq_true rfl) dLaw_1165 ⟨hr.1, hr.2⟩) hP hD hS hA pq_m pq_m (fun H locs hP hD hS => ?_)
    refine lv_istore (lv' := [(6, .int v.1), (5, .int u.1), (0, .ref b), (1, .ref A.1), (2, .ref B.1), (3, .ref ho), (4, .int i)]) hx hb dLaw_1168 hl (by decide) rfl (fun ls hl => ?_)
    refine lv_aload_n hx hb dLaw_1170 rfl (lv_at hl 4 rfl) ?_
    refine z_ciF (ws1 := lwW D cI A B ho V (u.2.2, t.2, u.2.1, S.2.2.2)) (fr := (ho, .inl (D.1 101, 1, .inr (.inl u.2.1))) :: cw D cI A V u.2.2) (z_rVF (rest := []) (fr := (ho, .inl (D.1 101, 1, .inr (.inl u.2.1))) :: cw D cI A V u.2.2) (ws := lwW D cI A B ho V (u.2.2, v.2, u.2.1, S.2.2.2)) (ci := 12) (b := B.1) (As := []) hx hb hml hown hcx hl.1 (kM_thrown l D cI B v.2 t ht _) tl_L_83 ti_X12_thrown tz_X12_thrown tn_X12 tc_X12_thrown tm_X12_thrown rfl rfl ⟨Nat.le_trans (Nat.le_of_ble_eq_true rfl) hfr, Nat.le_trans (Nat.le_of_ble_eq_true rfl) hlo⟩ hK hX hS hA hP hD pq_m ml_root rfl rfl rfl (Nat.le_of_ble_eq_true rfl) dLaw_1171 ⟨hr.1, hr.2⟩) hP hD hS hA pq_m pq_m (fun H locs hP hD hS => ?_)
    refine lv_iload hx hb dLaw_1174 (lv_at hl 1 rfl) ?_
    refine lv_icmp_eq (tgt := 1181) hx hb dLaw_1176 (by decide) (fun _ => ?_) (fun h9 => absurd h1 h9)
    refine lv_iload hx hb dLaw_1181 (lv_at hl 1 rfl) ?_
    refine lv_if_ne (tgt := 1198) hx hb dLaw_1183 (by decide) (fun _ => ?_) (fun h9 => absurd h9 h2)
    refine lv_goto (tgt := 1521) hx hb dLaw_1198 (by decide) ?_
    exact cont V _ _ _ hP hD hS (lv_sub hl [2, 3, 4, 5, 6] rfl)
def sL_chance (S : LwS) (a1 : Int32) (a2 : Int32) (a3 : Int32) (a4 : Int32) (a5 : Int32) : Option LwS := bd (pL_chance S.1 S.2.2.1 a1) fun u => bd (pM_chance S.2.1 a1) fun v => bd (pM_thrown v.2) fun t => if t.1 = u.1 then (if u.1 = 0 then (if lg_cmp (u.2.1 0) v.1.toInt64 = 0 then some (u.2.2, t.2, u.2.1, S.2.2.2.1 + 1, S.2.2.2.2 + 6) else none) else some (u.2.2, t.2, u.2.1, S.2.2.2.1 + 1, S.2.2.2.2 + 6)) else none
set_option maxHeartbeats 4000000 in
set_option maxRecDepth 100000 in
theorem lc_chance {p : Program} {l : Launch} {e : Env} {R : Room} {s : State} {m : MethodId} {args : Array Value} {below : List Frame} {meth : Method} {c : Code} {Q : State → Prop} {D : va_G} {cI : ClassId} {cx : Cond} {b L : Nat} {xs : Nat → Int32} (hC : LawCtx p l R s m args c D cI cx b L xs) (A : CAd) (B : Nat × (Nat → Nat)) (ho : Nat) (V : CV) (S S9 : LwS) (i : Int32) (hin : ∀ j : Int32, j ∈ ([1, 2, 3, 4, 5] : List Int32) → vp_in (i + j) L) (hf : sL_chance S (xs (i + 1).toNatClampNeg) (xs (i + 2).toNatClampNeg) (xs (i + 3).toNatClampNeg) (xs (i + 4).toNatClampNeg) (xs (i + 5).toNatClampNeg) = some S9) (hr : S9.2.2.2.1 ≤ R.cells ∧ S9.2.2.2.2 ≤ R.slots) {H : Heap} {locs : List Loc} {ls : Array Slot} (hP : va_P D vwCl (lwW D cI A B ho V S) H) (hD : va_D (lA s) (lwW D cI A B ho V S)) (hS : va_S (lA s) s.heap H locs) (hl : lv_has ls 7 [(0, .ref b), (1, .ref A.1), (2, .ref B.1), (3, .ref ho), (4, .int i)])
    (cont : ∀ (V : CV) (H : Heap) (locs : List Loc) (ls : Array Slot), va_P D vwCl (lwW D cI A B ho V S9) H → va_D (lA s) (lwW D cI A B ho V S9) → va_S (lA s) s.heap H locs → lv_has ls 7 [(0, .ref b), (1, .ref A.1), (2, .ref B.1), (3, .ref ho), (4, .int i)] → W p l e R s m args below meth c H locs S9.2.2.2.1 S9.2.2.2.2 Q (F0 m 1521 ls [])) : W p l e R s m args below meth c H locs S.2.2.2.1 S.2.2.2.2 Q (F0 m 1201 ls []) := by
  obtain ⟨hx, hb, hml, hts, hcx, hown, hK, hX, hXs, hbl, hlt, hfr, hlo⟩ := hC
  have hbA : ¬ lA s b := Nat.not_le.mpr hbl
  have hA : ∀ q : Nat, s.heap.size ≤ q → lA s q := fun q h => h
  obtain ⟨u, hu, hf⟩ := bd_some hf
  obtain ⟨v, hv, hf⟩ := bd_some hf
  obtain ⟨t, ht, hf⟩ := bd_some hf
  by_cases h1 : t.1 = u.1
  case neg => cases ((if_neg h1).symm.trans hf)
  have hf := (if_pos h1).symm.trans hf
  by_cases h2 : u.1 = 0
  · have hf := (if_pos h2).symm.trans hf
    by_cases h3 : lg_cmp (u.2.1 0) v.1.toInt64 = 0
    case neg => cases ((if_neg h3).symm.trans hf)
    obtain rfl := Option.some.inj ((if_pos h3).symm.trans hf)
    refine lv_aload_n hx hb dLaw_1201 rfl (lv_at hl 1 rfl) ?_
    refine lv_aload_n hx hb dLaw_1202 rfl (lv_at hl 0 rfl) ?_
    refine lv_iload hx hb dLaw_1203 (lv_at hl 4 rfl) ?_
    refine lv_iconst (v := 1) hx hb dLaw_1205 (by decide) ?_
    refine lv_iadd hx hb dLaw_1206 ?_
    refine va_sld (A := lA s) hx hb hXs hbl hbA hS (hin 1 (by decide)) dLaw_1207 ?_
    refine lv_aload_n hx hb dLaw_1208 rfl (lv_at hl 3 rfl) ?_
    refine z_cinF (ws1 := fun V => lwW D cI A B ho V (u.2.2, S.2.1, u.2.1, S.2.2.2)) (fr := rfw cI B S.2.1) (z_rSW (rest := []) (fr := rfw cI B S.2.1) (ws := lwW D cI A B ho V (S.1, S.2.1, S.2.2.1, S.2.2.2)) (As := [.ref A.1, .int (xs (i + 1).toNatClampNeg), .ref ho]) hx hb hml hown hcx hl.1 (h_chance l hlt D cI A ho V S.1 S.2.2.1 (xs (i + 1).toNatClampNeg) u hu _) tl_L_155 ts_L_chance tn_L tc_L_chance tm_L_chance rfl rfl ⟨Nat.le_trans (Nat.le_of_ble_eq_true rfl) hfr, Nat.le_trans (Nat.le_of_ble_eq_true rfl) hlo⟩ hK hX hS hA hP hD pq_h rfl rfl (Nat.le_of_ble_eq_true rfl) dLaw_1209 ⟨hr.1, hr.2⟩) hP hD hS hA pq_h (fun _ => pq_h) (fun V H locs hP hD hS => ?_)
    refine lv_istore (lv' := [(5, .int u.1), (0, .ref b), (1, .ref A.1), (2, .ref B.1), (3, .ref ho), (4, .int i)]) hx hb dLaw_1212 hl (by decide) rfl (fun ls hl => ?_)
    refine lv_aload_n hx hb dLaw_1214 rfl (lv_at hl 3 rfl) ?_
    refine lv_aload_n hx hb dLaw_1215 rfl (lv_at hl 1 rfl) ?_
    refine lv_iload hx hb dLaw_1216 (lv_at hl 5 rfl) ?_
    refine lv_iconst (v := 1) hx hb dLaw_1218 (by decide) ?_
    refine lv_iadd hx hb dLaw_1219 ?_
    refine va_sld (A := lA s) hx hb hXs hbl hbA hS (hin 1 (by decide)) dLaw_1220 ?_
    refine z_ciF (ws1 := lwW D cI A B ho V (u.2.2, v.2, u.2.1, S.2.2.2)) (fr := (ho, .inl (D.1 101, 1, .inr (.inl u.2.1))) :: cw D cI A V u.2.2) (z_rVF (rest := []) (fr := (ho, .inl (D.1 101, 1, .inr (.inl u.2.1))) :: cw D cI A V u.2.2) (ws := lwW D cI A B ho V (u.2.2, S.2.1, u.2.1, S.2.2.2)) (ci := 12) (b := B.1) (As := [.int (xs (i + 1).toNatClampNeg)]) hx hb hml hown hcx hl.1 (kM_chance l D cI B S.2.1 (xs (i + 1).toNatClampNeg) v hv _) tl_L_157 ti_X12_chance tz_X12_chance tn_X12 tc_X12_chance tm_X12_chance rfl rfl ⟨Nat.le_trans (Nat.le_of_ble_eq_true rfl) hfr, Nat.le_trans (Nat.le_of_ble_eq_true rfl) hlo⟩ hK hX hS hA hP hD pq_m ml_root rfl rfl rfl (Nat.le_of_ble_eq_true rfl) dLaw_1221 ⟨hr.1, hr.2⟩) hP hD hS hA pq_m pq_m (fun H locs hP hD hS => ?_)
    refine lv_istore (lv' := [(6, .int v.1), (5, .int u.1), (0, .ref b), (1, .ref A.1), (2, .ref B.1), (3, .ref ho), (4, .int i)]) hx hb dLaw_1224 hl (by decide) rfl (fun ls hl => ?_)
    refine lv_aload_n hx hb dLaw_1226 rfl (lv_at hl 4 rfl) ?_
    refine z_ciF (ws1 := lwW D cI A B ho V (u.2.2, t.2, u.2.1, S.2.2.2)) (fr := (ho, .inl (D.1 101, 1, .inr (.inl u.2.1))) :: cw D cI A V u.2.2) (z_rVF (rest := []) (fr := (ho, .inl (D.1 101, 1, .inr (.inl u.2.1))) :: cw D cI A V u.2.2) (ws := lwW D cI A B ho V (u.2.2, v.2, u.2.1, S.2.2.2)) (ci := 12) (b := B.1) (As := []) hx hb hml hown hcx hl.1 (kM_thrown l D cI B v.2 t ht _) tl_L_83 ti_X12_thrown tz_X12_thrown tn_X12 tc_X12_thrown tm_X12_thrown rfl rfl ⟨Nat.le_trans (Nat.le_of_ble_eq_true rfl) hfr, Nat.le_trans (Nat.le_of_ble_eq_true rfl) hlo⟩ hK hX hS hA hP hD pq_m ml_root rfl rfl rfl (Nat.le_of_ble_eq_true rfl) dLaw_1227 ⟨hr.1, hr.2⟩) hP hD hS hA pq_m pq_m (fun H locs hP hD hS => ?_)
    refine lv_iload hx hb dLaw_1230 (lv_at hl 1 rfl) ?_
    refine lv_icmp_eq (tgt := 1237) hx hb dLaw_1232 (by decide) (fun _ => ?_) (fun h9 => absurd h1 h9)
    refine lv_iload hx hb dLaw_1237 (lv_at hl 1 rfl) ?_
    refine lv_if_ne (tgt := 1254) hx hb dLaw_1239 (by decide) (fun h9 => absurd h2 h9) (fun _ => ?_)
    refine lv_aload_n hx hb dLaw_1242 rfl (lv_at hl 5 rfl) ?_
    refine lv_iconst (v := 0) hx hb dLaw_1243 (by decide) ?_
    refine va_lald (a := ho) hx hb hK.1 hP 0 2 rfl rfl (i := 0) vp_in01 dLaw_1244 ?_
    refine lv_iload hx hb dLaw_1245 (lv_at hl 0 rfl) ?_
    refine lv_i2l hx hb dLaw_1247 rfl ?_
    refine W.lcmp hx hb dLaw_1248 ?_
    refine lv_if_eq (tgt := 1254) hx hb dLaw_1249 (by decide) (fun _ => ?_) (fun h9 => absurd h3 h9)
    refine lv_goto (tgt := 1521) hx hb dLaw_1254 (by decide) ?_
    exact cont V _ _ _ hP hD hS (lv_sub hl [2, 3, 4, 5, 6] rfl)
  · obtain rfl := Option.some.inj ((if_neg h2).symm.trans hf)
    refine lv_aload_n hx hb dLaw_1201 rfl (lv_at hl 1 rfl) ?_
    refine lv_aload_n hx hb dLaw_1202 rfl (lv_at hl 0 rfl) ?_
    refine lv_iload hx hb dLaw_1203 (lv_at hl 4 rfl) ?_
    refine lv_iconst (v := 1) hx hb dLaw_1205 (by decide) ?_
    refine lv_iadd hx hb dLaw_1206 ?_
    refine va_sld (A := lA s) hx hb hXs hbl hbA hS (hin 1 (by decide)) dLaw_1207 ?_
    refine lv_aload_n hx hb dLaw_1208 rfl (lv_at hl 3 rfl) ?_
    refine z_cinF (ws1 := fun V => lwW D cI A B ho V (u.2.2, S.2.1, u.2.1, S.2.2.2)) (fr := rfw cI B S.2.1) (z_rSW (rest := []) (fr := rfw cI B S.2.1) (ws := lwW D cI A B ho V (S.1, S.2.1, S.2.2.1, S.2.2.2)) (As := [.ref A.1, .int (xs (i + 1).toNatClampNeg), .ref ho]) hx hb hml hown hcx hl.1 (h_chance l hlt D cI A ho V S.1 S.2.2.1 (xs (i + 1).toNatClampNeg) u hu _) tl_L_155 ts_L_chance tn_L tc_L_chance tm_L_chance rfl rfl ⟨Nat.le_trans (Nat.le_of_ble_eq_true rfl) hfr, Nat.le_trans (Nat.le_of_ble_eq_true rfl) hlo⟩ hK hX hS hA hP hD pq_h rfl rfl (Nat.le_of_ble_eq_true rfl) dLaw_1209 ⟨hr.1, hr.2⟩) hP hD hS hA pq_h (fun _ => pq_h) (fun V H locs hP hD hS => ?_)
    refine lv_istore (lv' := [(5, .int u.1), (0, .ref b), (1, .ref A.1), (2, .ref B.1), (3, .ref ho), (4, .int i)]) hx hb dLaw_1212 hl (by decide) rfl (fun ls hl => ?_)
    refine lv_aload_n hx hb dLaw_1214 rfl (lv_at hl 3 rfl) ?_
    refine lv_aload_n hx hb dLaw_1215 rfl (lv_at hl 1 rfl) ?_
    refine lv_iload hx hb dLaw_1216 (lv_at hl 5 rfl) ?_
    refine lv_iconst (v := 1) hx hb dLaw_1218 (by decide) ?_
    refine lv_iadd hx hb dLaw_1219 ?_
    refine va_sld (A := lA s) hx hb hXs hbl hbA hS (hin 1 (by decide)) dLaw_1220 ?_
    refine z_ciF (ws1 := lwW D cI A B ho V (u.2.2, v.2, u.2.1, S.2.2.2)) (fr := (ho, .inl (D.1 101, 1, .inr (.inl u.2.1))) :: cw D cI A V u.2.2) (z_rVF (rest := []) (fr := (ho, .inl (D.1 101, 1, .inr (.inl u.2.1))) :: cw D cI A V u.2.2) (ws := lwW D cI A B ho V (u.2.2, S.2.1, u.2.1, S.2.2.2)) (ci := 12) (b := B.1) (As := [.int (xs (i + 1).toNatClampNeg)]) hx hb hml hown hcx hl.1 (kM_chance l D cI B S.2.1 (xs (i + 1).toNatClampNeg) v hv _) tl_L_157 ti_X12_chance tz_X12_chance tn_X12 tc_X12_chance tm_X12_chance rfl rfl ⟨Nat.le_trans (Nat.le_of_ble_eq_true rfl) hfr, Nat.le_trans (Nat.le_of_ble_eq_true rfl) hlo⟩ hK hX hS hA hP hD pq_m ml_root rfl rfl rfl (Nat.le_of_ble_eq_true rfl) dLaw_1221 ⟨hr.1, hr.2⟩) hP hD hS hA pq_m pq_m (fun H locs hP hD hS => ?_)
    refine lv_istore (lv' := [(6, .int v.1), (5, .int u.1), (0, .ref b), (1, .ref A.1), (2, .ref B.1), (3, .ref ho), (4, .int i)]) hx hb dLaw_1224 hl (by decide) rfl (fun ls hl => ?_)
    refine lv_aload_n hx hb dLaw_1226 rfl (lv_at hl 4 rfl) ?_
    refine z_ciF (ws1 := lwW D cI A B ho V (u.2.2, t.2, u.2.1, S.2.2.2)) (fr := (ho, .inl (D.1 101, 1, .inr (.inl u.2.1))) :: cw D cI A V u.2.2) (z_rVF (rest := []) (fr := (ho, .inl (D.1 101, 1, .inr (.inl u.2.1))) :: cw D cI A V u.2.2) (ws := lwW D cI A B ho V (u.2.2, v.2, u.2.1, S.2.2.2)) (ci := 12) (b := B.1) (As := []) hx hb hml hown hcx hl.1 (kM_thrown l D cI B v.2 t ht _) tl_L_83 ti_X12_thrown tz_X12_thrown tn_X12 tc_X12_thrown tm_X12_thrown rfl rfl ⟨Nat.le_trans (Nat.le_of_ble_eq_true rfl) hfr, Nat.le_trans (Nat.le_of_ble_eq_true rfl) hlo⟩ hK hX hS hA hP hD pq_m ml_root rfl rfl rfl (Nat.le_of_ble_eq_true rfl) dLaw_1227 ⟨hr.1, hr.2⟩) hP hD hS hA pq_m pq_m (fun H locs hP hD hS => ?_)
    refine lv_iload hx hb dLaw_1230 (lv_at hl 1 rfl) ?_
    refine lv_icmp_eq (tgt := 1237) hx hb dLaw_1232 (by decide) (fun _ => ?_) (fun h9 => absurd h1 h9)
    refine lv_iload hx hb dLaw_1237 (lv_at hl 1 rfl) ?_
    refine lv_if_ne (tgt := 1254) hx hb dLaw_1239 (by decide) (fun _ => ?_) (fun h9 => absurd h9 h2)
    refine lv_goto (tgt := 1521) hx hb dLaw_1254 (by decide) ?_
    exact cont V _ _ _ hP hD hS (lv_sub hl [2, 3, 4, 5, 6] rfl)
