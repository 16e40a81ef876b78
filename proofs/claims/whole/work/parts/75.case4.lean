def sL_see (S : LwS) (a1 : Int32) (a2 : Int32) (a3 : Int32) (a4 : Int32) (a5 : Int32) : Option LwS := bd (pX_see S.1 a1 a2) fun u => bd (pM_see S.2.1 a1 a2) fun v => if u.1 = v.1 then some (u.2, v.2, S.2.2.1, S.2.2.2.1 + 0, S.2.2.2.2 + 0) else none
set_option maxHeartbeats 4000000 in
set_option maxRecDepth 100000 in
theorem lc_see {p : Program} {l : Launch} {e : Env} {R : Room} {s : State} {m : MethodId} {args : Array Value} {below : List Frame} {meth : Method} {c : Code} {Q : State → Prop} {D : va_G} {cI : ClassId} {cx : Cond} {b L : Nat} {xs : Nat → Int32} (hC : LawCtx p l R s m args c D cI cx b L xs) (A : CAd) (B : Nat × (Nat → Nat)) (ho : Nat) (V : CV) (S S9 : LwS) (i : Int32) (hin : ∀ j : Int32, j ∈ ([1, 2, 3, 4, 5] : List Int32) → vp_in (i + j) L) (hf : sL_see S (xs (i + 1).toNatClampNeg) (xs (i + 2).toNatClampNeg) (xs (i + 3).toNatClampNeg) (xs (i + 4).toNatClampNeg) (xs (i + 5).toNatClampNeg) = some S9) (hr : S9.2.2.2.1 ≤ R.cells ∧ S9.2.2.2.2 ≤ R.slots) {H : Heap} {locs : List Loc} {ls : Array Slot} (hP : va_P D vwCl (lwW D cI A B ho V S) H) (hD : va_D (lA s) (lwW D cI A B ho V S)) (hS : va_S (lA s) s.heap H locs) (hl : lv_has ls 7 [(0, .ref b), (1, .ref A.1), (2, .ref B.1), (3, .ref ho), (4, .int i)])
    (cont : ∀ (V : CV) (H : Heap) (locs : List Loc) (ls : Array Slot), va_P D vwCl (lwW D cI A B ho V S9) H → va_D (lA s) (lwW D cI A B ho V S9) → va_S (lA s) s.heap H locs → lv_has ls 7 [(0, .ref b), (1, .ref A.1), (2, .ref B.1), (3, .ref ho), (4, .int i)] → W p l e R s m args below meth c H locs S9.2.2.2.1 S9.2.2.2.2 Q (F0 m 1521 ls [])) : W p l e R s m args below meth c H locs S.2.2.2.1 S.2.2.2.2 Q (F0 m 1257 ls []) := by
  obtain ⟨hx, hb, hml, hts, hcx, hown, hK, hX, hXs, hbl, hlt, hfr, hlo⟩ := hC
  have hbA : ¬ lA s b := Nat.not_le.mpr hbl
  have hA : ∀ q : Nat, s.heap.size ≤ q → lA s q := fun q h => h
  obtain ⟨u, hu, hf⟩ := bd_some hf
  obtain ⟨v, hv, hf⟩ := bd_some hf
  by_cases h1 : u.1 = v.1
  case neg => cases ((if_neg h1).symm.trans hf)
  obtain rfl := Option.some.inj ((if_pos h1).symm.trans hf)
  refine lv_aload_n hx hb dLaw_1257 rfl (lv_at hl 1 rfl) ?_
  refine lv_aload_n hx hb dLaw_1258 rfl (lv_at hl 0 rfl) ?_
  refine lv_iload hx hb dLaw_1259 (lv_at hl 4 rfl) ?_
  refine lv_iconst (v := 1) hx hb dLaw_1261 (by decide) ?_
  refine lv_iadd hx hb dLaw_1262 ?_
  refine va_sld (A := lA s) hx hb hXs hbl hbA hS (hin 1 (by decide)) dLaw_1263 ?_
  refine lv_aload_n hx hb dLaw_1264 rfl (lv_at hl 0 rfl) ?_
  refine lv_iload hx hb dLaw_1265 (lv_at hl 4 rfl) ?_
  refine lv_iconst (v := 2) hx hb dLaw_1267 (by decide) ?_
  refine lv_iadd hx hb dLaw_1268 ?_
  refine va_sld (A := lA s) hx hb hXs hbl hbA hS (hin 2 (by decide)) dLaw_1269 ?_
  refine z_cinF (ws1 := fun V => lwW D cI A B ho V (u.2, S.2.1, S.2.2.1, S.2.2.2)) (fr := (ho, .inl (D.1 101, 1, .inr (.inl S.2.2.1))) :: rfw cI B S.2.1) (z_rVF (rest := []) (fr := (ho, .inl (D.1 101, 1, .inr (.inl S.2.2.1))) :: rfw cI B S.2.1) (ws := lwW D cI A B ho V (S.1, S.2.1, S.2.2.1, S.2.2.2)) (ci := 11) (b := A.1) (As := [.int (xs (i + 1).toNatClampNeg), .int (xs (i + 2).toNatClampNeg)]) hx hb hml hown hcx hl.1 (k_see l D cI A V S.1 (xs (i + 1).toNatClampNeg) (xs (i + 2).toNatClampNeg) u hu _) tl_L_158 ti_X11_see tz_X11_see tn_X11 tc_X11_see tm_X11_see rfl rfl ⟨Nat.le_trans (Nat.le_of_ble_eq_true rfl) hfr, Nat.le_trans (Nat.le_of_ble_eq_true rfl) hlo⟩ hK hX hS hA hP hD pq_c cw_root rfl rfl rfl (Nat.le_of_ble_eq_true rfl) dLaw_1270 ⟨hr.1, hr.2⟩) hP hD hS hA pq_c (fun _ => pq_c) (fun V H locs hP hD hS => ?_)
  refine lv_aload_n hx hb dLaw_1273 rfl (lv_at hl 2 rfl) ?_
  refine lv_aload_n hx hb dLaw_1274 rfl (lv_at hl 0 rfl) ?_
  refine lv_iload hx hb dLaw_1275 (lv_at hl 4 rfl) ?_
  refine lv_iconst (v := 1) hx hb dLaw_1277 (by decide) ?_
  refine lv_iadd hx hb dLaw_1278 ?_
  refine va_sld (A := lA s) hx hb hXs hbl hbA hS (hin 1 (by decide)) dLaw_1279 ?_
  refine lv_aload_n hx hb dLaw_1280 rfl (lv_at hl 0 rfl) ?_
  refine lv_iload hx hb dLaw_1281 (lv_at hl 4 rfl) ?_
  refine lv_iconst (v := 2) hx hb dLaw_1283 (by decide) ?_
  refine lv_iadd hx hb dLaw_1284 ?_
  refine va_sld (A := lA s) hx hb hXs hbl hbA hS (hin 2 (by decide)) dLaw_1285 ?_
  refine z_ciF (ws1 := lwW D cI A B ho V (u.2, v.2, S.2.2.1, S.2.2.2)) (fr := (ho, .inl (D.1 101, 1, .inr (.inl S.2.2.1))) :: cw D cI A V u.2) (z_rVF (rest := [.int u.1]) (fr := (ho, .inl (D.1 101, 1, .inr (.inl S.2.2.1))) :: cw D cI A V u.2) (ws := lwW D cI A B ho V (u.2, S.2.1, S.2.2.1, S.2.2.2)) (ci := 12) (b := B.1) (As := [.int (xs (i + 1).toNatClampNeg), .int (xs (i + 2).toNatClampNeg)]) hx hb hml hown hcx hl.1 (kM_see l D cI B S.2.1 (xs (i + 1).toNatClampNeg) (xs (i + 2).toNatClampNeg) v hv _) tl_L_161 ti_X12_see tz_X12_see tn_X12 tc_X12_see tm_X12_see rfl rfl ⟨Nat.le_trans (Nat.le_of_ble_eq_true rfl) hfr, Nat.le_trans (Nat.le_of_ble_eq_true rfl) hlo⟩ hK hX hS hA hP hD pq_m ml_root rfl rfl rfl (Nat.le_of_ble_eq_true rfl) dLaw_1286 ⟨hr.1, hr.2⟩) hP hD hS hA pq_m pq_m (fun H locs hP hD hS => ?_)
  refine lv_icmp_eq (tgt := 1521) hx hb dLaw_1289 (by decide) (fun _ => ?_) (fun h9 => absurd h1 h9)
  exact cont V _ _ _ hP hD hS (lv_sub hl [0, 1, 2, 3, 4] rfl)
def sL_explained (S : LwS) (a1 : Int32) (a2 : Int32) (a3 : Int32) (a4 : Int32) (a5 : Int32) : Option LwS := bd (pL_explained S.1 S.2.2.1 a1) fun u => bd (pM_explained S.2.1 a1) fun v => bd (pM_thrown v.2) fun t => if t.1 = u.1 then (if u.1 = 0 then (if lg_cmp (u.2.1 0) v.1.toInt64 = 0 then some (u.2.2, t.2, u.2.1, S.2.2.2.1 + 1, S.2.2.2.2 + 6) else none) else some (u.2.2, t.2, u.2.1, S.2.2.2.1 + 1, S.2.2.2.2 + 6)) else none
set_option maxHeartbeats 4000000 in
set_option maxRecDepth 100000 in
theorem lc_explained {p : Program} {l : Launch} {e : Env} {R : Room} {s : State} {m : MethodId} {args : Array Value} {below : List Frame} {meth : Method} {c : Code} {Q : State → Prop} {D : va_G} {cI : ClassId} {cx : Cond} {b L : Nat} {xs : Nat → Int32} (hC : LawCtx p l R s m args c D cI cx b L xs) (A : CAd) (B : Nat × (Nat → Nat)) (ho : Nat) (V : CV) (S S9 : LwS) (i : Int32) (hin : ∀ j : Int32, j ∈ ([1, 2, 3, 4, 5] : List Int32) → vp_in (i + j) L) (hf : sL_explained S (xs (i + 1).toNatClampNeg) (xs (i + 2).toNatClampNeg) (xs (i + 3).toNatClampNeg) (xs (i + 4).toNatClampNeg) (xs (i + 5).toNatClampNeg) = some S9) (hr : S9.2.2.2.1 ≤ R.cells ∧ S9.2.2.2.2 ≤ R.slots) {H : Heap} {locs : List Loc} {ls : Array Slot} (hP : va_P D vwCl (lwW D cI A B ho V S) H) (hD : va_D (lA s) (lwW D cI A B ho V S)) (hS : va_S (lA s) s.heap H locs) (hl : lv_has ls 7 [(0, .ref b), (1, .ref A.1), (2, .ref B.1), (3, .ref ho), (4, .int i)])
    (cont : ∀ (V : CV) (H : Heap) (locs : List Loc) (ls : Array Slot), va_P D vwCl (lwW D cI A B ho V S9) H → va_D (lA s) (lwW D cI A B ho V S9) → va_S (lA s) s.heap H locs → lv_has ls 7 [(0, .ref b), (1, .ref A.1), (2, .ref B.1), (3, .ref ho), (4, .int i)] → W p l e R s m args below meth c H locs S9.2.2.2.1 S9.2.2.2.2 Q (F0 m 1521 ls [])) : W p l e R s m args below meth c H locs S.2.2.2.1 S.2.2.2.2 Q (F0 m 1294 ls []) := by
  obtain ⟨hx, hb, hml, hts, hcx, hown, hK, hX, hXs, hbl, hlt, hfr, hlo⟩ := hC
  have hbA : ¬ lA s b := Nat.not_le.mpr hbl
  have hA : ∀ q : Nat, s.heap.size ≤ q → lA s q := fun q h => h
  obtain ⟨u, hu, hf⟩ := bd_some hf
  obtain ⟨v, hv, hf⟩ := bd_some hf
  obtain ⟨t, ht, hf⟩ := bd_some hf
  by_cases h1 : t.1 = u.1
  case neg => cases ((if_neg h1).symm.trans hf)
  have hf := (if_pos h1).symm.trans hf
  by_cases h2 : u.1 = 0
  · have hf := (if_pos h2).symm.trans hf
    by_cases h3 : lg_cmp (u.2.1 0) v.1.toInt64 = 0
    case neg => cases ((if_neg h3).symm.trans hf)
    obtain rfl := Option.some.inj ((if_pos h3).symm.trans hf)
    refine lv_aload_n hx hb dLaw_1294 rfl (lv_at hl 1 rfl) ?_
    refine lv_aload_n hx hb dLaw_1295 rfl (lv_at hl 0 rfl) ?_
    refine lv_iload hx hb dLaw_1296 (lv_at hl 4 rfl) ?_
    refine lv_iconst (v := 1) hx hb dLaw_1298 (by decide) ?_
    refine lv_iadd hx hb dLaw_1299 ?_
    refine va_sld (A := lA s) hx hb hXs hbl hbA hS (hin 1 (by decide)) dLaw_1300 ?_
    refine lv_aload_n hx hb dLaw_1301 rfl (lv_at hl 3 rfl) ?_
    refine z_cinF (ws1 := fun V => lwW D cI A B ho V (u.2.2, S.2.1, u.2.1, S.2.2.2)) (fr := rfw cI B S.2.1) (z_rSW (rest := []) (fr := rfw cI B S.2.1) (ws := lwW D cI A B ho V (S.1, S.2.1, S.2.2.1, S.2.2.2)) (As := [.ref A.1, .int (xs (i + 1).toNatClampNeg), .ref ho]) hx hb hml hown hcx hl.1 (h_explained l hlt D cI A ho V S.1 S.2.2.1 (xs (i + 1).toNatClampNeg) u hu _) tl_L_162 ts_L_explained tn_L tc_L_explained tm_L_explained rfl rfl ⟨Nat.le_trans (Nat.le_of_ble_eq_true rfl) hfr, Nat.le_trans (Nat.le_of_ble_eq_true rfl) hlo⟩ hK hX hS hA hP hD pq_h rfl rfl (Nat.le_of_ble_eq_true rfl) dLaw_1302 ⟨hr.1, hr.2⟩) hP hD hS hA pq_h (fun _ => pq_h) (fun V H locs hP hD hS => ?_)
    refine lv_istore (lv' := [(5, .int u.1), (0, .ref b), (1, .ref A.1), (2, .ref B.1), (3, .ref ho), (4, .int i)]) hx hb dLaw_1305 hl (by decide) rfl (fun ls hl => ?_)
    refine lv_aload_n hx hb dLaw_1307 rfl (lv_at hl 3 rfl) ?_
    refine lv_aload_n hx hb dLaw_1308 rfl (lv_at hl 1 rfl) ?_
    refine lv_iload hx hb dLaw_1309 (lv_at hl 5 rfl) ?_
    refine lv_iconst (v := 1) hx hb dLaw_1311 (by decide) ?_
    refine lv_iadd hx hb dLaw_1312 ?_
    refine va_sld (A := lA s) hx hb hXs hbl hbA hS (hin 1 (by decide)) dLaw_1313 ?_
    refine z_ciF (ws1 := lwW D cI A B ho V (u.2.2, v.2, u.2.1, S.2.2.2)) (fr := (ho, .inl (D.1 101, 1, .inr (.inl u.2.1))) :: cw D cI A V u.2.2) (z_rVF (rest := []) (fr := (ho, .inl (D.1 101, 1, .inr (.inl u.2.1))) :: cw D cI A V u.2.2) (ws := lwW D cI A B ho V (u.2.2, S.2.1, u.2.1, S.2.2.2)) (ci := 12) (b := B.1) (As := [.int (xs (i + 1).toNatClampNeg)]) hx hb hml hown hcx hl.1 (kM_explained l D cI B S.2.1 (xs (i + 1).toNatClampNeg) v hv _) tl_L_164 ti_X12_explained tz_X12_explained tn_X12 tc_X12_explained tm_X12_explained rfl rfl ⟨Nat.le_trans (Nat.le_of_ble_eq_true rfl) hfr, Nat.le_trans (Nat.le_of_ble_eq_true rfl) hlo⟩ hK hX hS hA hP hD pq_m ml_root rfl rfl rfl (Nat.le_of_ble_eq_true rfl) dLaw_1314 ⟨hr.1, hr.2⟩) hP hD hS hA pq_m pq_m (fun H locs hP hD hS => ?_)
    refine lv_istore (lv' := [(6, .int v.1), (5, .int u.1), (0, .ref b), (1, .ref A.1), (2, .ref B.1), (3, .ref ho), (4, .int i)]) hx hb dLaw_1317 hl (by decide) rfl (fun ls hl => ?_)
    refine lv_aload_n hx hb dLaw_1319 rfl (lv_at hl 4 rfl) ?_
    refine z_ciF (ws1 := lwW D cI A B ho V (u.2.2, t.2, u.2.1, S.2.2.2)) (fr := (ho, .inl (D.1 101, 1, .inr (.inl u.2.1))) :: cw D cI A V u.2.2) (z_rVF (rest := []) (fr := (ho, .inl (D.1 101, 1, .inr (.inl u.2.1))) :: cw D cI A V u.2.2) (ws := lwW D cI A B ho V (u.2.2, v.2, u.2.1, S.2.2.2)) (ci := 12) (b := B.1) (As := []) hx hb hml hown hcx hl.1 (kM_thrown l D cI B v.2 t ht _) tl_L_83 ti_X12_thrown tz_X12_thrown tn_X12 tc_X12_thrown tm_X12_thrown rfl rfl ⟨Nat.le_trans (Nat.le_of_ble_eq_true rfl) hfr, Nat.le_trans (Nat.le_of_ble_eq_true rfl) hlo⟩ hK hX hS hA hP hD pq_m ml_root rfl rfl rfl (Nat.le_of_ble_eq_true rfl) dLaw_1320 ⟨hr.1, hr.2⟩) hP hD hS hA pq_m pq_m (fun H locs hP hD hS => ?_)
    refine lv_iload hx hb dLaw_1323 (lv_at hl 1 rfl) ?_
    refine lv_icmp_eq (tgt := 1330) hx hb dLaw_1325 (by decide) (fun _ => ?_) (fun h9 => absurd h1 h9)
    refine lv_iload hx hb dLaw_1330 (lv_at hl 1 rfl) ?_
    refine lv_if_ne (tgt := 1347) hx hb dLaw_1332 (by decide) (fun h9 => absurd h2 h9) (fun _ => ?_)
    refine lv_aload_n hx hb dLaw_1335 rfl (lv_at hl 5 rfl) ?_
    refine lv_iconst (v := 0) hx hb dLaw_1336 (by decide) ?_
    refine va_lald (a := ho) hx hb hK.1 hP 0 2 rfl rfl (i := 0) vp_in01 dLaw_1337 ?_
    refine lv_iload hx hb dLaw_1338 (lv_at hl 0 rfl) ?_
    refine lv_i2l hx hb dLaw_1340 rfl ?_
    refine W.lcmp hx hb dLaw_1341 ?_
    refine lv_if_eq (tgt := 1347) hx hb dLaw_1342 (by decide) (fun _ => ?_) (fun h9 => absurd h3 h9)
    refine lv_goto (tgt := 1521) hx hb dLaw_1347 (by decide) ?_
    exact cont V _ _ _ hP hD hS (lv_sub hl [2, 3, 4, 5, 6] rfl)
  · obtain rfl := Option.some.inj ((if_neg h2).symm.trans hf)
    refine lv_aload_n hx hb dLaw_1294 rfl (lv_at hl 1 rfl) ?_
    refine lv_aload_n hx hb dLaw_1295 rfl (lv_at hl 0 rfl) ?_
    refine lv_iload hx hb dLaw_1296 (lv_at hl 4 rfl) ?_
    refine lv_iconst (v := 1) hx hb dLaw_1298 (by decide) ?_
    refine lv_iadd hx hb dLaw_1299 ?_
    refine va_sld (A := lA s) hx hb hXs hbl hbA hS (hin 1 (by decide)) dLaw_1300 ?_
    refine lv_aload_n hx hb dLaw_1301 rfl (lv_at hl 3 rfl) ?_
    refine z_cinF (ws1 := fun V => lwW D cI A B ho V (u.2.2, S.2.1, u.2.1, S.2.2.2)) (fr := rfw cI B S.2.1) (z_rSW (rest := []) (fr := rfw cI B S.2.1) (ws := lwW D cI A B ho V (S.1, S.2.1, S.2.2.1, S.2.2.2)) (As := [.ref A.1, .int (xs (i + 1).toNatClampNeg), .ref ho]) hx hb hml hown hcx hl.1 (h_explained l hlt D cI A ho V S.1 S.2.2.1 (xs (i + 1).toNatClampNeg) u hu _) tl_L_162 ts_L_explained tn_L tc_L_explained tm_L_explained rfl rfl ⟨Nat.le_trans (Nat.le_of_ble_eq_true rfl) hfr, Nat.le_trans (Nat.le_of_ble_eq_true rfl) hlo⟩ hK hX hS hA hP hD pq_h rfl rfl (Nat.le_of_ble_eq_true rfl) dLaw_1302 ⟨hr.1, hr.2⟩) hP hD hS hA pq_h (fun _ => pq_h) (fun V H locs hP hD hS => ?_)
    refine lv_istore (lv' := [(5, .int u.1), (0, .ref b), (1, .ref A.1), (2, .ref B.1), (3, .ref ho), (4, .int i)]) hx hb dLaw_1305 hl (by decide) rfl (fun ls hl => ?_)
    refine lv_aload_n hx hb dLaw_1307 rfl (lv_at hl 3 rfl) ?_
    refine lv_aload_n hx hb dLaw_1308 rfl (lv_at hl 1 rfl) ?_
    refine lv_iload hx hb dLaw_1309 (lv_at hl 5 rfl) ?_
    refine lv_iconst (v := 1) hx hb dLaw_1311 (by decide) ?_
    refine lv_iadd hx hb dLaw_1312 ?_
    refine va_sld (A := lA s) hx hb hXs hbl hbA hS (hin 1 (by decide)) dLaw_1313 ?_
    refine z_ciF (ws1 := lwW D cI A B ho V (u.2.2, v.2, u.2.1, S.2.2.2)) (fr := (ho, .inl (D.1 101, 1, .inr (.inl u.2.1))) :: cw D cI A V u.2.2) (z_rVF (rest := []) (fr := (ho, .inl (D.1 101, 1, .inr (.inl u.2.1))) :: cw D cI A V u.2.2) (ws := lwW D cI A B ho V (u.2.2, S.2.1, u.2.1, S.2.2.2)) (ci := 12) (b := B.1) (As := [.int (xs (i + 1).toNatClampNeg)]) hx hb hml hown hcx hl.1 (kM_explained l D cI B S.2.1 (xs (i + 1).toNatClampNeg) v hv _) tl_L_164 ti_X12_explained tz_X12_explained tn_X12 tc_X12_explained tm_X12_explained rfl rfl ⟨Nat.le_trans (Nat.le_of_ble_eq_true rfl) hfr, Nat.le_trans (Nat.le_of_ble_eq_true rfl) hlo⟩ hK hX hS hA hP hD pq_m ml_root rfl rfl rfl (Nat.le_of_ble_eq_true rfl) dLaw_1314 ⟨hr.1, hr.2⟩) hP hD hS hA pq_m pq_m (fun H locs hP hD hS => ?_)
    refine lv_istore (lv' := [(6, .int v.1), (5, .int u.1), (0, .ref b), (1, .ref A.1), (2, .ref B.1), (3, .ref ho), (4, .int i)]) hx hb dLaw_1317 hl (by decide) rfl (fun ls hl => ?_)
    refine lv_aload_n hx hb dLaw_1319 rfl (lv_at hl 4 rfl) ?_
    refine z_ciF (ws1 := lwW D cI A B ho V (u.2.2, t.2, u.2.1, S.2.2.2)) (fr := (ho, .inl (D.1 101, 1, .inr (.inl u.2.1))) :: cw D cI A V u.2.2) (z_rVF (rest := []) (fr := (ho, .inl (D.1 101, 1, .inr (.inl u.2.1))) :: cw D cI A V u.2.2) (ws := lwW D cI A B ho V (u.2.2, v.2, u.2.1, S.2.2.2)) (ci := 12) (b := B.1) (As := []) hx hb hml hown hcx hl.1 (kM_thrown l D cI B v.2 t ht _) tl_L_83 ti_X12_thrown tz_X12_thrown tn_X12 tc_X12_thrown tm_X12_thrown rfl rfl ⟨Nat.le_trans (Nat.le_of_ble_eq_true rfl) hfr, Nat.le_trans (Nat.le_of_ble_eq_true rfl) hlo⟩ hK hX hS hA hP hD pq_m ml_root rfl rfl rfl (Nat.le_of_ble_eq_true rfl) dLaw_1320 ⟨hr.1, hr.2⟩) hP hD hS hA pq_m pq_m (fun H locs hP hD hS => ?_)
    refine lv_iload hx hb dLaw_1323 (lv_at hl 1 rfl) ?_
    refine lv_icmp_eq (tgt := 1330) hx hb dLaw_1325 (by decide) (fun _ => ?_) (fun h9 => absurd h1 h9)
    refine lv_iload hx hb dLaw_1330 (lv_at hl 1 rfl) ?_
    refine lv_if_ne (tgt := 1347) hx hb dLaw_1332 (by decide) (fun _ => ?_) (fun h9 => absurd h9 h2)
    refine lv_goto (tgt := 1521) hx hb dLaw_1347 (by decide) ?_
    exact cont V _ _ _ hP hD hS (lv_sub hl [2, 3, 4, 5, 6] rfl)
def sL_look (S : LwS) (a1 : Int32) (a2 : Int32) (a3 : Int32) (a4 : Int32) (a5 : Int32) : Option LwS := bd (pL_look S.1 S.2.2.1 a1) fun u => bd (pM_look S.2.1 a1) fun v => bd (pM_thrown v.2) fun t => if t.1 = u.1 then (if u.1 = 0 then (if lg_cmp (u.2.1 0) v.1.toInt64 = 0 then some (u.2.2, t.2, u.2.1, S.2.2.2.1 + 1, S.2.2.2.2 + 6) else none) else some (u.2.2, t.2, u.2.1, S.2.2.2.1 + 1, S.2.2.2.2 + 6)) else none
set_option maxHeartbeats 4000000 in
set_option maxRecDepth 100000 in
theorem lc_look {p : Program} {l : Launch} {e : Env} {R : Room} {s : State} {m : MethodId} {args : Array Value} {below : List Frame} {meth : Method} {c : Code} {Q : State → Prop} {D : va_G} {cI : ClassId} {cx : Cond} {b L : Nat} {xs : Nat → Int32} (hC : LawCtx p l R s m args c D cI cx b L xs) (A : CAd) (B : Nat × (Nat → Nat)) (ho : Nat) (V : CV) (S S9 : LwS) (i : Int32) (hin : ∀ j : Int32, j ∈ ([1, 2, 3, 4, 5] : List Int32) → vp_in (i + j) L) (hf : sL_look S (xs (i + 1).toNatClampNeg) (xs (i + 2).toNatClampNeg) (xs (i + 3).toNatClampNeg) (xs (i + 4).toNatClampNeg) (xs (i + 5).toNatClampNeg) = some S9) (hr : S9.2.2.2.1 ≤ R.cells ∧ S9.2.2.2.2 ≤ R.slots) {H : Heap} {locs : List Loc} {ls : Array Slot} (hP : va_P D vwCl (lwW D cI A B ho V S) H) (hD : va_D (lA s) (lwW D cI A B ho V S)) (hS : va_S (lA s) s.heap H locs) (hl : lv_has ls 7 [(0, .ref b), (1, .ref A.1), (2, .ref B.1), (3, .ref ho), (4, .int i)])
    (cont : ∀ (V : CV) (H : Heap) (locs : List Loc) (ls : Array Slot), va_P D vwCl (lwW D cI A B ho V S9) H → va_D (lA s) (lwW D cI A B ho V S9) → va_S (lA s) s.heap H locs → lv_has ls 7 [(0, .ref b), (1, .ref A.1), (2, .ref B.1), (3, .ref ho), (4, .int i)] → W p l e R s m args below meth c H locs S9.2.2.2.1 S9.2.2.2.2 Q (F0 m 1521 ls [])) : W p l e R s m args below meth c H locs S.2.2.2.1 S.2.2.2.2 Q (F0 m 1350 ls []) := by
  obtain ⟨hx, hb, hml, hts, hcx, hown, hK, hX, hXs, hbl, hlt, hfr, hlo⟩ := hC
  have hbA : ¬ lA s b := Nat.not_le.mpr hbl
  have hA : ∀ q : Nat, s.heap.size ≤ q → lA s q := fun q h => h
  obtain ⟨u, hu, hf⟩ := bd_some hf
  obtain ⟨v, hv, hf⟩ := bd_some hf
  obtain ⟨t, ht, hf⟩ := bd_some hf
  by_cases h1 : t.1 = u.1
  case neg => cases ((if_neg h1).symm.trans hf)
  have hf := (if_pos h1).symm.trans hf
  by_cases h2 : u.1 = 0
  · have hf := (if_pos h2).symm.trans hf
    by_cases h3 : lg_cmp (u.2.1 0) v.1.toInt64 = 0
    case neg => cases ((if_neg h3).symm.trans hf)
    obtain rfl := Option.some.inj ((if_pos h3).symm.trans hf)
    refine lv_aload_n hx hb dLaw_1350 rfl (lv_at hl 1 rfl) ?_
    refine lv_aload_n hx hb dLaw_1351 rfl (lv_at hl 0 rfl) ?_
    refine lv_iload hx hb dLaw_1352 (lv_at hl 4 rfl) ?_
    refine lv_iconst (v := 1) hx hb dLaw_1354 (by decide) ?_
    refine lv_iadd hx hb dLaw_1355 ?_
    refine va_sld (A := lA s) hx hb hXs hbl hbA hS (hin 1 (by decide)) dLaw_1356 ?_
    refine lv_aload_n hx hb dLaw_1357 rfl (lv_at hl 3 rfl) ?_
    refine z_cinF (ws1 := fun V => lwW D cI A B ho V (u.2.2, S.2.1, u.2.1, S.2.2.2)) (fr := rfw cI B S.2.1) (z_rSW (rest := []) (fr := rfw cI B S.2.1) (ws := lwW D cI A B ho V (S.1, S.2.1, S.2.2.1, S.2.2.2)) (As := [.ref A.1, .int (xs (i + 1).toNatClampNeg), .ref ho]) hx hb hml hown hcx hl.1 (h_look l hlt D cI A ho V S.1 S.2.2.1 (xs (i + 1).toNatClampNeg) u hu _) tl_L_165 ts_L_look tn_L tc_L_look tm_L_look rfl rfl ⟨Nat.le_trans (Nat.le_of_ble_eq_true rfl) hfr, Nat.le_trans (Nat.le_of_ble_eq_true rfl) hlo⟩ hK hX hS hA hP hD pq_h rfl rfl (Nat.le_of_ble_eq_true rfl) dLaw_1358 ⟨hr.1, hr.2⟩) hP hD hS hA pq_h (fun _ => pq_h) (fun V H locs hP hD hS => ?_)
    refine lv_istore (lv' := [(5, .int u.1), (0, .ref b), (1, .ref A.1), (2, .ref B.1), (3, .ref ho), (4, .int i)]) hx hb dLaw_1361 hl (by decide) rfl (fun ls hl => ?_)
    refine lv_aload_n hx hb dLaw_1363 rfl (lv_at hl 3 rfl) ?_
    refine lv_aload_n hx hb dLaw_1364 rfl (lv_at hl 1 rfl) ?_
    refine lv_iload hx hb dLaw_1365 (lv_at hl 5 rfl) ?_
    refine lv_iconst (v := 1) hx hb dLaw_1367 (by decide) ?_
    refine lv_iadd hx hb dLaw_1368 ?_
    refine va_sld (A := lA s) hx hb hXs hbl hbA hS (hin 1 (by decide)) dLaw_1369 ?_
    refine z_ciF (ws1 := lwW D cI A B ho V (u.2.2, v.2, u.2.1, S.2.2.2)) (fr := (ho, .inl (D.1 101, 1, .inr (.inl u.2.1))) :: cw D cI A V u.2.2) (z_rVF (rest := []) (fr := (ho, .inl (D.1 101, 1, .inr (.inl u.2.1))) :: cw D cI A V u.2.2) (ws := lwW D cI A B ho V (u.2.2, S.2.1, u.2.1, S.2.2.2)) (ci := 12) (b := B.1) (As := [.int (xs (i + 1).toNatClampNeg)]) hx hb hml hown hcx hl.1 (kM_look l D cI B S.2.1 (xs (i + 1).toNatClampNeg) v hv _) tl_L_167 ti_X12_look tz_X12_look tn_X12 tc_X12_look tm_X12_look rfl rfl ⟨Nat.le_trans (Nat.le_of_ble_eq_true rfl) hfr, Nat.le_trans (Nat.le_of_ble_eq_true rfl) hlo⟩ hK hX hS hA hP hD pq_m ml_root rfl rfl rfl (Nat.le_of_ble_eq_true rfl) dLaw_1370 ⟨hr.1, hr.2⟩) hP hD hS hA pq_m pq_m (fun H locs hP hD hS => ?_)
    refine lv_istore (lv' := [(6, .int v.1), (5, .int u.1), (0, .ref b), (1, .ref A.1), (2, .ref B.1), (3, .ref ho), (4, .int i)]) hx hb dLaw_1373 hl (by decide) rfl (fun ls hl => ?_)
    refine lv_aload_n hx hb dLaw_1375 rfl (lv_at hl 4 rfl) ?_
    refine z_ciF (ws1 := lwW D cI A B ho V (u.2.2, t.2, u.2.1, S.2.2.2)) (fr := (ho, .inl (D.1 101, 1, .inr (.inl u.2.1))) :: cw D cI A V u.2.2) (z_rVF (rest := []) (fr := (ho, .inl (D.1 101, 1, .inr (.inl u.2.1))) :: cw D cI A V u.2.2) (ws := lwW D cI A B ho V (u.2.2, v.2, u.2.1, S.2.2.2)) (ci := 12) (b := B.1) (As := []) hx hb hml hown hcx hl.1 (kM_thrown l D cI B v.2 t ht _) tl_L_83 ti_X12_thrown tz_X12_thrown tn_X12 tc_X12_thrown tm_X12_thrown rfl rfl ⟨Nat.le_trans (Nat.le_of_ble_eq_true rfl) hfr, Nat.le_trans (Nat.le_of_ble_eq_true rfl) hlo⟩ hK hX hS hA hP hD pq_m ml_root rfl rfl rfl (Nat.le_of_ble_eq_true rfl) dLaw_1376 ⟨hr.1, hr.2⟩) hP hD hS hA pq_m pq_m (fun H locs hP hD hS => ?_)
    refine lv_iload hx hb dLaw_1379 (lv_at hl 1 rfl) ?_
    refine lv_icmp_eq (tgt := 1386) hx hb dLaw_1381 (by decide) (fun _ => ?_) (fun h9 => absurd h1 h9)
    refine lv_iload hx hb dLaw_1386 (lv_at hl 1 rfl) ?_
    refine lv_if_ne (tgt := 1403) hx hb dLaw_1388 (by decide) (fun h9 => absurd h2 h9) (fun _ => ?_)
    refine lv_aload_n hx hb dLaw_1391 rfl (lv_at hl 5 rfl) ?_
    refine lv_iconst (v := 0) hx hb dLaw_1392 (by decide) ?_
    refine va_lald (a := ho) hx hb hK.1 hP 0 2 rfl rfl (i := 0) vp_in01 dLaw_1393 ?_
    refine lv_iload hx hb dLaw_1394 (lv_at hl 0 rfl) ?_
    refine lv_i2l hx hb dLaw_1396 rfl ?_
    refine W.lcmp hx hb dLaw_1397 ?_
    refine lv_if_eq (tgt := 1403) hx hb dLaw_1398 (by decide) (fun _ => ?_) (fun h9 => absurd h3 h9)
    refine lv_goto (tgt := 1521) hx hb dLaw_1403 (by decide) ?_
    exact cont V _ _ _ hP hD hS (lv_sub hl [2, 3, 4, 5, 6] rfl)
  · obtain rfl := Option.some.inj ((if_neg h2).symm.trans hf)
    refine lv_aload_n hx hb dLaw_1350 rfl (lv_at hl 1 rfl) ?_
    refine lv_aload_n hx hb dLaw_1351 rfl (lv_at hl 0 rfl) ?_
    refine lv_iload hx hb dLaw_1352 (lv_at hl 4 rfl) ?_
    refine lv_iconst (v := 1) hx hb dLaw_1354 (by decide) ?_
    refine lv_iadd hx hb dLaw_1355 ?_
    refine va_sld (A := lA s) hx hb hXs hbl hbA hS (hin 1 (by decide)) dLaw_1356 ?_
    refine lv_aload_n hx hb dLaw_1357 rfl (lv_at hl 3 rfl) ?_
    refine z_cinF (ws1 := fun V => lwW D cI A B ho V (u.2.2, S.2.1, u.2.1, S.2.2.2)) (fr := rfw cI B S.2.1) (z_rSW (rest := []) (fr := rfw cI B S.2.1) (ws := lwW D cI A B ho V (S.1, S.2.1, S.2.2.1, S.2.2.2)) (As := [.ref A.1, .int (xs (i + 1).toNatClampNeg), .ref ho]) hx hb hml hown hcx hl.1 (h_look l hlt D cI A ho V S.1 S.2.2.1 (xs (i + 1).toNatClampNeg) u hu _) tl_L_165 ts_L_look tn_L tc_L_look tm_L_look rfl rfl ⟨Nat.le_trans (Nat.le_of_ble_eq_true rfl) hfr, Nat.le_trans (Nat.le_of_ble_eq_true rfl) hlo⟩ hK hX hS hA hP hD pq_h rfl rfl (Nat.le_of_ble_eq_true rfl) dLaw_1358 ⟨hr.1, hr.2⟩) hP hD hS hA pq_h (fun _ => pq_h) (fun V H locs hP hD hS => ?_)
    refine lv_istore (lv' := [(5, .int u.1), (0, .ref b), (1, .ref A.1), (2, .ref B.1), (3, .ref ho), (4, .int i)]) hx hb dLaw_1361 hl (by decide) rfl (fun ls hl => ?_)
    refine lv_aload_n hx hb dLaw_1363 rfl (lv_at hl 3 rfl) ?_
    refine lv_aload_n hx hb dLaw_1364 rfl (lv_at hl 1 rfl) ?_
    refine lv_iload hx hb dLaw_1365 (lv_at hl 5 rfl) ?_
    refine lv_iconst (v := 1) hx hb dLaw_1367 (by decide) ?_
    refine lv_iadd hx hb dLaw_1368 ?_
    refine va_sld (A := lA s) hx hb hXs hbl hbA hS (hin 1 (by decide)) dLaw_1369 ?_
    refine z_ciF (ws1 := lwW D cI A B ho V (u.2.2, v.2, u.2.1, S.2.2.2)) (fr := (ho, .inl (D.1 101, 1, .inr (.inl u.2.1))) :: cw D cI A V u.2.2) (z_rVF (rest := []) (fr := (ho, .inl (D.1 101, 1, .inr (.inl u.2.1))) :: cw D cI A V u.2.2) (ws := lwW D cI A B ho V (u.2.2, S.2.1, u.2.1, S.2.2.2)) (ci := 12) (b := B.1) (As := [.int (xs (i + 1).toNatClampNeg)]) hx hb hml hown hcx hl.1 (kM_look l D cI B S.2.1 (xs (i + 1).toNatClampNeg) v hv _) tl_L_167 ti_X12_look tz_X12_look tn_X12 tc_X12_look tm_X12_look rfl rfl ⟨Nat.le_trans (Nat.le_of_ble_eq_true rfl) hfr, Nat.le_trans (Nat.le_of_ble_eq_true rfl) hlo⟩ hK hX hS hA hP hD pq_m ml_root rfl rfl rfl (Nat.le_of_ble_eq_true rfl) dLaw_1370 ⟨hr.1, hr.2⟩) hP hD hS hA pq_m pq_m (fun H locs hP hD hS => ?_)
    refine lv_istore (lv' := [(6, .int v.1), (5, .int u.1), (0, .ref b), (1, .ref A.1), (2, .ref B.1), (3, .ref ho), (4, .int i)]) hx hb dLaw_1373 hl (by decide) rfl (fun ls hl => ?_)
    refine lv_aload_n hx hb dLaw_1375 rfl (lv_at hl 4 rfl) ?_
    refine z_ciF (ws1 := lwW D cI A B ho V (u.2.2, t.2, u.2.1, S.2.2.2)) (fr := (ho, .inl (D.1 101, 1, .inr (.inl u.2.1))) :: cw D cI A V u.2.2) (z_rVF (rest := []) (fr := (ho, .inl (D.1 101, 1, .inr (.inl u.2.1))) :: cw D cI A V u.2.2) (ws := lwW D cI A B ho V (u.2.2, v.2, u.2.1, S.2.2.2)) (ci := 12) (b := B.1) (As := []) hx hb hml hown hcx hl.1 (kM_thrown l D cI B v.2 t ht _) tl_L_83 ti_X12_thrown tz_X12_thrown tn_X12 tc_X12_thrown tm_X12_thrown rfl rfl ⟨Nat.le_trans (Nat.le_of_ble_eq_true rfl) hfr, Nat.le_trans (Nat.le_of_ble_eq_true rfl) hlo⟩ hK hX hS hA hP hD pq_m ml_root rfl rfl rfl (Nat.le_of_ble_eq_true rfl) dLaw_1376 ⟨hr.1, hr.2⟩) hP hD hS hA pq_m pq_m (fun H locs hP hD hS => ?_)
    refine lv_iload hx hb dLaw_1379 (lv_at hl 1 rfl) ?_
    refine lv_icmp_eq (tgt := 1386) hx hb dLaw_1381 (by decide) (fun _ => ?_) (fun h9 => absurd h1 h9)
    refine lv_iload hx hb dLaw_1386 (lv_at hl 1 rfl) ?_
    refine lv_if_ne (tgt := 1403) hx hb dLaw_1388 (by decide) (fun _ => ?_) (fun h9 => absurd h9 h2)
    refine lv_goto (tgt := 1521) hx hb dLaw_1403 (by decide) ?_
    exact cont V _ _ _ hP hD hS (lv_sub hl [2, 3, 4, 5, 6] rfl)
def sL_forget (S : LwS) (a1 : Int32) (a2 : Int32) (a3 : Int32) (a4 : Int32) (a5 : Int32) : Option LwS := bd (pX_forget S.1) fun u => bd (pM_forget S.2.1) fun v => some (u, v, S.2.2.1, S.2.2.2.1 + 0, S.2.2.2.2 + 0)
set_option maxHeartbeats 4000000 in
set_option maxRecDepth 100000 in
theorem lc_forget {p : Program} {l : Launch} {e : Env} {R : Room} {s : State} {m : MethodId} {args : Array Value} {below : List Frame} {meth : Method} {c : Code} {Q : State → Prop} {D : va_G} {cI : ClassId} {cx : Cond} {b L : Nat} {xs : Nat → Int32} (hC : LawCtx p l R s m args c D cI cx b L xs) (A : CAd) (B : Nat × (Nat → Nat)) (ho : Nat) (V : CV) (S S9 : LwS) (i : Int32) (hin : ∀ j : Int32, j ∈ ([1, 2, 3, 4, 5] : List Int32) → vp_in (i + j) L) (hf : sL_forget S (xs (i + 1).toNatClampNeg) (xs (i + 2).toNatClampNeg) (xs (i + 3).toNatClampNeg) (xs (i + 4).toNatClampNeg) (xs (i + 5).toNatClampNeg) = some S9) (hr : S9.2.2.2.1 ≤ R.cells ∧ S9.2.2.2.2 ≤ R.slots) {H : Heap} {locs : List Loc} {ls : Array Slot} (hP : va_P D vwCl (lwW D cI A B ho V S) H) (hD : va_D (lA s) (lwW D cI A B ho V S)) (hS : va_S (lA s) s.heap H locs) (hl : lv_has ls 7 [(0, .ref b), (1, .ref A.1), (2, .ref B.1), (3, .ref ho), (4, .int i)])
    (cont : ∀ (V : CV) (H : Heap) (locs : List Loc) (ls : Array Slot), va_P D vwCl (lwW D cI A B ho V S9) H → va_D (lA s) (lwW D cI A B ho V S9) → va_S (lA s) s.heap H locs → lv_has ls 7 [(0, .ref b), (1, .ref A.1), (2, .ref B.1), (3, .ref ho), (4, .int i)] → W p l e R s m args below meth c H locs S9.2.2.2.1 S9.2.2.2.2 Q (F0 m 1521 ls [])) : W p l e R s m args below meth c H locs S.2.2.2.1 S.2.2.2.2 Q (F0 m 1406 ls []) := by
  obtain ⟨hx, hb, hml, hts, hcx, hown, hK, hX, hXs, hbl, hlt, hfr, hlo⟩ := hC
  have hbA : ¬ lA s b := Nat.not_le.mpr hbl
  have hA : ∀ q : Nat, s.heap.size ≤ q → lA s q := fun q h => h
  obtain ⟨u, hu, hf⟩ := bd_some hf
  obtain ⟨v, hv, hf⟩ := bd_some hf
  obtain rfl := Option.some.inj hf
  refine lv_aload_n hx hb dLaw_1406 rfl (lv_at hl 1 rfl) ?_
  refine z_cnF (ws1 := fun V => lwW D cI A B ho V (u, S.2.1, S.2.2.1, S.2.2.2)) (fr := (ho, .inl (D.1 101, 1, .inr (.inl S.2.2.1))) :: rfw cI B S.2.1) (z_rVF (rest := []) (fr := (ho, .inl (D.1 101, 1, .inr (.inl S.2.2.1))) :: rfw cI B S.2.1) (ws := lwW D cI A B ho V (S.1, S.2.1, S.2.2.1, S.2.2.2)) (ci := 11) (b := A.1) (As := []) hx hb hml hown hcx hl.1 (k_forget l D cI A V S.1 u hu _) tl_L_168 ti_X11_forget tz_X11_forget tn_X11 tc_X11_forget tm_X11_forget rfl rfl ⟨Nat.le_trans (Nat.le_of_ble_eq_true rfl) hfr, Nat.le_trans (Nat.le_of_ble_eq_true rfl) hlo⟩ hK hX hS hA hP hD pq_c cw_root rfl rfl rfl (Nat.le_of_ble_eq_true rfl) dLaw_1407 ⟨hr.1, hr.2⟩) hP hD hS hA pq_c (fun _ => pq_c) (fun V H locs hP hD hS => ?_)
  refine lv_aload_n hx hb dLaw_1410 rfl (lv_at hl 2 rfl) ?_
  refine z_cvF (ws1 := lwW D cI A B ho V (u, v, S.2.2.1, S.2.2.2)) (fr := (ho, .inl (D.1 101, 1, .inr (.inl S.2.2.1))) :: cw D cI A V u) (z_rVF (rest := []) (fr := (ho, .inl (D.1 101, 1, .inr (.inl S.2.2.1))) :: cw D cI A V u) (ws := lwW D cI A B ho V (u, S.2.1, S.2.2.1, S.2.2.2)) (ci := 12) (b := B.1) (As := []) hx hb hml hown hcx hl.1 (kM_forget l D cI B S.2.1 v hv _) tl_L_171 ti_X12_forget tz_X12_forget tn_X12 tc_X12_forget tm_X12_forget rfl rfl ⟨Nat.le_trans (Nat.le_of_ble_eq_true rfl) hfr, Nat.le_trans (Nat.le_of_ble_eq_true rfl) hlo⟩ hK hX hS hA hP hD pq_m ml_root rfl rfl rfl (Nat.le_of_ble_eq_true rfl) dLaw_1411 ⟨hr.1, hr.2⟩) hP hD hS hA pq_m pq_m (fun H locs hP hD hS => ?_)
  refine lv_goto (tgt := 1521) hx hb dLaw_1414 (by decide) ?_
  exact cont V _ _ _ hP hD hS (lv_sub hl [0, 1, 2, 3, 4] rfl)
def sL_years (S : LwS) (a1 : Int32) (a2 : Int32) (a3 : Int32) (a4 : Int32) (a5 : Int32) : Option LwS := bd (pL_years S.1 S.2.2.1 a1 a2 a3) fun u => bd (pM_years S.2.1 a1 a2 a3) fun v => bd (pM_thrown v.2) fun t => if t.1 = u.1 then (if u.1 = 0 then (if lg_cmp (u.2.1 0) v.1.toInt64 = 0 then some (u.2.2, t.2, u.2.1, S.2.2.2.1 + 1, S.2.2.2.2 + 6) else none) else some (u.2.2, t.2, u.2.1, S.2.2.2.1 + 1, S.2.2.2.2 + 6)) else none
set_option maxHeartbeats 4000000 in
set_option maxRecDepth 100000 in
theorem lc_years {p : Program} {l : Launch} {e : Env} {R : Room} {s : State} {m : MethodId} {args : Array Value} {below : List Frame} {meth : Method} {c : Code} {Q : State → Prop} {D : va_G} {cI : ClassId} {cx : Cond} {b L : Nat} {xs : Nat → Int32} (hC : LawCtx p l R s m args c D cI cx b L xs) (A : CAd) (B : Nat × (Nat → Nat)) (ho : Nat) (V : CV) (S S9 : LwS) (i : Int32) (hin : ∀ j : Int32, j ∈ ([1, 2, 3, 4, 5] : List Int32) → vp_in (i + j) L) (hf : sL_years S (xs (i + 1).toNatClampNeg) (xs (i + 2).toNatClampNeg) (xs (i + 3).toNatClampNeg) (xs (i + 4).toNatClampNeg) (xs (i + 5).toNatClampNeg) = some S9) (hr : S9.2.2.2.1 ≤ R.cells ∧ S9.2.2.2.2 ≤ R.slots) {H : Heap} {locs : List Loc} {ls : Array Slot} (hP : va_P D vwCl (lwW D cI A B ho V S) H) (hD : va_D (lA s) (lwW D cI A B ho V S)) (hS : va_S (lA s) s.heap H locs) (hl : lv_has ls 7 [(0, .ref b), (1, .ref A.1), (2, .ref B.1), (3, .ref ho), (4, .int i)])
    (cont : ∀ (V : CV) (H : Heap) (locs : List Loc) (ls : Array Slot), va_P D vwCl (lwW D cI A B ho V S9) H → va_D (lA s) (lwW D cI A B ho V S9) → va_S (lA s) s.heap H locs → lv_has ls 7 [(0, .ref b), (1, .ref A.1), (2, .ref B.1), (3, .ref ho), (4, .int i)] → W p l e R s m args below meth c H locs S9.2.2.2.1 S9.2.2.2.2 Q (F0 m 1521 ls [])) : W p l e R s m args below meth c H locs S.2.2.2.1 S.2.2.2.2 Q (F0 m 1417 ls []) := by
  obtain ⟨hx, hb, hml, hts, hcx, hown, hK, hX, hXs, hbl, hlt, hfr, hlo⟩ := hC
  have hbA : ¬ lA s b := Nat.not_le.mpr hbl
  have hA : ∀ q : Nat, s.heap.size ≤ q → lA s q := fun q h => h
  obtain ⟨u, hu, hf⟩ := bd_some hf
  obtain ⟨v, hv, hf⟩ := bd_some hf
  obtain ⟨t, ht, hf⟩ := bd_some hf
  by_cases h1 : t.1 = u.1
  case neg => cases ((if_neg h1).symm.trans hf)
  have hf := (if_pos h1).symm.trans hf
  by_cases h2 : u.1 = 0
  · have hf := (if_pos h2).symm.trans hf
    by_cases h3 : lg_cmp (u.2.1 0) v.1.toInt64 = 0
    case neg => cases ((if_neg h3).symm.trans hf)
    obtain rfl := Option.some.inj ((if_pos h3).symm.trans hf)
    refine lv_aload_n hx hb dLaw_1417 rfl (lv_at hl 1 rfl) ?_
    refine lv_aload_n hx hb dLaw_1418 rfl (lv_at hl 0 rfl) ?_
    refine lv_iload hx hb dLaw_1419 (lv_at hl 4 rfl) ?_
    refine lv_iconst (v := 1) hx hb dLaw_1421 (by decide) ?_
    refine lv_iadd hx hb dLaw_1422 ?_
    refine va_sld (A := lA s) hx hb hXs hbl hbA hS (hin 1 (by decide)) dLaw_1423 ?_
    refine lv_aload_n hx hb dLaw_1424 rfl (lv_at hl 0 rfl) ?_
    refine lv_iload hx hb dLaw_1425 (lv_at hl 4 rfl) ?_
    refine lv_iconst (v := 2) hx hb dLaw_1427 (by decide) ?_
    refine lv_iadd hx hb dLaw_1428 ?_
    refine va_sld (A := lA s) hx hb hXs hbl hbA hS (hin 2 (by decide)) dLaw_1429 ?_
    refine lv_aload_n hx hb dLaw_1430 rfl (lv_at hl 0 rfl) ?_
    refine lv_iload hx hb dLaw_1431 (lv_at hl 4 rfl) ?_
    refine lv_iconst (v := 3) hx hb dLaw_1433 (by decide) ?_
    refine lv_iadd hx hb dLaw_1434 ?_
    refine va_sld (A := lA s) hx hb hXs hbl hbA hS (hin 3 (by decide)) dLaw_1435 ?_
    refine lv_aload_n hx hb dLaw_1436 rfl (lv_at hl 3 rfl) ?_
    refine z_cinF (ws1 := fun V => lwW D cI A B ho V (u.2.2, S.2.1, u.2.1, S.2.2.2)) (fr := rfw cI B S.2.1) (z_rSW (rest := []) (fr := rfw cI B S.2.1) (ws := lwW D cI A B ho V (S.1, S.2.1, S.2.2.1, S.2.2.2)) (As := [.ref A.1, .int (xs (i + 1).toNatClampNeg), .int (xs (i + 2).toNatClampNeg), .int (xs (i + 3).toNatClampNeg), .ref ho]) hx hb hml hown hcx hl.1 (h_years l hlt D cI A ho V S.1 S.2.2.1 (xs (i + 1).toNatClampNeg) (xs (i + 2).toNatClampNeg) (xs (i + 3).toNatClampNeg) u hu _) tl_L_172 ts_L_years tn_L tc_L_years tm_L_years rfl rfl ⟨Nat.le_trans (Nat.le_of_ble_eq_true rfl) hfr, Nat.le_trans (Nat.le_of_ble_eq_true rfl) hlo⟩ hK hX hS hA hP hD pq_h rfl rfl (Nat.le_of_ble_eq_true rfl) dLaw_1437 ⟨hr.1, hr.2⟩) hP hD hS hA pq_h (fun _ => pq_h) (fun V H locs hP hD hS => ?_)
    refine lv_istore (lv' := [(5, .int u.1), (0, .ref b), (1, .ref A.1), (2, .ref B.1), (3, .ref ho), (4, .int i)]) hx hb dLaw_1440 hl (by decide) rfl (fun ls hl => ?_)
    refine lv_aload_n hx hb dLaw_1442 rfl (lv_at hl 3 rfl) ?_
    refine lv_aload_n hx hb dLaw_1443 rfl (lv_at hl 1 rfl) ?_
    refine lv_iload hx hb dLaw_1444 (lv_at hl 5 rfl) ?_
    refine lv_iconst (v := 1) hx hb dLaw_1446 (by decide) ?_
    refine lv_iadd hx hb dLaw_1447 ?_
    refine va_sld (A := lA s) hx hb hXs hbl hbA hS (hin 1 (by decide)) dLaw_1448 ?_
    refine lv_aload_n hx hb dLaw_1449 rfl (lv_at hl 1 rfl) ?_
    refine lv_iload hx hb dLaw_1450 (lv_at hl 5 rfl) ?_
    refine lv_iconst (v := 2) hx hb dLaw_1452 (by decide) ?_
    refine lv_iadd hx hb dLaw_1453 ?_
    refine va_sld (A := lA s) hx hb hXs hbl hbA hS (hin 2 (by decide)) dLaw_1454 ?_
    refine lv_aload_n hx hb dLaw_1455 rfl (lv_at hl 1 rfl) ?_
    refine lv_iload hx hb dLaw_1456 (lv_at hl 5 rfl) ?_
    refine lv_iconst (v := 3) hx hb dLaw_1458 (by decide) ?_
    refine lv_iadd hx hb dLaw_1459 ?_
    refine va_sld (A := lA s) hx hb hXs hbl hbA hS (hin 3 (by decide)) dLaw_1460 ?_
    refine z_ciF (ws1 := lwW D cI A B ho V (u.2.2, v.2, u.2.1, S.2.2.2)) (fr := (ho, .inl (D.1 101, 1, .inr (.inl u.2.1))) :: cw D cI A V u.2.2) (z_rVF (rest := []) (fr := (ho, .inl (D.1 101, 1, .inr (.inl u.2.1))) :: cw D cI A V u.2.2) (ws := lwW D cI A B ho V (u.2.2, S.2.1, u.2.1, S.2.2.2)) (ci := 12) (b := B.1) (As := [.int (xs (i + 1).toNatClampNeg), .int (xs (i + 2).toNatClampNeg), .int (xs (i + 3).toNatClampNeg)]) hx hb hml hown hcx hl.1 (kM_years l D cI B S.2.1 (xs (i + 1).toNatClampNeg) (xs (i + 2).toNatClampNeg) (xs (i + 3).toNatClampNeg) v hv _) tl_L_174 ti_X12_years tz_X12_years tn_X12 tc_X12_years tm_X12_years rfl rfl ⟨Nat.le_trans (Nat.le_of_ble_eq_true rfl) hfr, Nat.le_trans (Nat.le_of_ble_eq_true rfl) hlo⟩ hK hX hS hA hP hD pq_m ml_root rfl rfl rfl (Nat.le_of_ble_eq_true rfl) dLaw_1461 ⟨hr.1, hr.2⟩) hP hD hS hA pq_m pq_m (fun H locs hP hD hS => ?_)
    refine lv_istore (lv' := [(6, .int v.1), (5, .int u.1), (0, .ref b), (1, .ref A.1), (2, .ref B.1), (3, .ref ho), (4, .int i)]) hx hb dLaw_1464 hl (by decide) rfl (fun ls hl => ?_)
    refine lv_aload_n hx hb dLaw_1466 rfl (lv_at hl 4 rfl) ?_
    refine z_ciF (ws1 := lwW D cI A B ho V (u.2.2, t.2, u.2.1, S.2.2.2)) (fr := (ho, .inl (D.1 101, 1, .inr (.inl u.2.1))) :: cw D cI A V u.2.2) (z_rVF (rest := []) (fr := (ho, .inl (D.1 101, 1, .inr (.inl u.2.1))) :: cw D cI A V u.2.2) (ws := lwW D cI A B ho V (u.2.2, v.2, u.2.1, S.2.2.2)) (ci := 12) (b := B.1) (As := []) hx hb hml hown hcx hl.1 (kM_thrown l D cI B v.2 t ht _) tl_L_83 ti_X12_thrown tz_X12_thrown tn_X12 tc_X12_thrown tm_X12_thrown rfl rfl ⟨Nat.le_trans (Nat.le_of_ble_eq_true rfl) hfr, Nat.le_trans (Nat.le_of_ble_eq_true rfl) hlo⟩ hK hX hS hA hP hD pq_m ml_root rfl rfl rfl (Nat.le_of_ble_eq_true rfl) dLaw_1467 ⟨hr.1, hr.2⟩) hP hD hS hA pq_m pq_m (fun H locs hP hD hS => ?_)
    refine lv_iload hx hb dLaw_1470 (lv_at hl 1 rfl) ?_
    refine lv_icmp_eq (tgt := 1477) hx hb dLaw_1472 (by decide) (fun _ => ?_) (fun h9 => absurd h1 h9)
    refine lv_iload hx hb dLaw_1477 (lv_at hl 1 rfl) ?_
    refine lv_if_ne (tgt := 1494) hx hb dLaw_1479 (by decide) (fun h9 => absurd h2 h9) (fun _ => ?_)
    refine lv_aload_n hx hb dLaw_1482 rfl (lv_at hl 5 rfl) ?_
    refine lv_iconst (v := 0) hx hb dLaw_1483 (by decide) ?_
    refine va_lald (a := ho) hx hb hK.1 hP 0 2 rfl rfl (i := 0) vp_in01 dLaw_1484 ?_
    refine lv_iload hx hb dLaw_1485 (lv_at hl 0 rfl) ?_
    refine lv_i2l hx hb dLaw_1487 rfl ?_
    refine W.lcmp hx hb dLaw_1488 ?_
    refine lv_if_eq (tgt := 1494) hx hb dLaw_1489 (by decide) (fun _ => ?_) (fun h9 => absurd h3 h9)
    refine lv_goto (tgt := 1521) hx hb dLaw_1494 (by decide) ?_
    exact cont V _ _ _ hP hD hS (lv_sub hl [2, 3, 4, 5, 6] rfl)
  · obtain rfl := Option.some.inj ((if_neg h2).symm.trans hf)
    refine lv_aload_n hx hb dLaw_1417 rfl (lv_at hl 1 rfl) ?_
    refine lv_aload_n hx hb dLaw_1418 rfl (lv_at hl 0 rfl) ?_
    refine lv_iload hx hb dLaw_1419 (lv_at hl 4 rfl) ?_
    refine lv_iconst (v := 1) hx hb dLaw_1421 (by decide) ?_
    refine lv_iadd hx hb dLaw_1422 ?_
    refine va_sld (A := lA s) hx hb hXs hbl hbA hS (hin 1 (by decide)) dLaw_1423 ?_
    refine lv_aload_n hx hb dLaw_1424 rfl (lv_at hl 0 rfl) ?_
    refine lv_iload hx hb dLaw_1425 (lv_at hl 4 rfl) ?_
    refine lv_iconst (v := 2) hx hb dLaw_1427 (by decide) ?_
    refine lv_iadd hx hb dLaw_1428 ?_
    refine va_sld (A := lA s) hx hb hXs hbl hbA hS (hin 2 (by decide)) dLaw_1429 ?_
    refine lv_aload_n hx hb dLaw_1430 rfl (lv_at hl 0 rfl) ?_
    refine lv_iload hx hb dLaw_1431 (lv_at hl 4 rfl) ?_
    refine lv_iconst (v := 3) hx hb dLaw_1433 (by decide) ?_
    refine lv_iadd hx hb dLaw_1434 ?_
    refine va_sld (A := lA s) hx hb hXs hbl hbA hS (hin 3 (by decide)) dLaw_1435 ?_
    refine lv_aload_n hx hb dLaw_1436 rfl (lv_at hl 3 rfl) ?_
    refine z_cinF (ws1 := fun V => lwW D cI A B ho V (u.2.2, S.2.1, u.2.1, S.2.2.2)) (fr := rfw cI B S.2.1) (z_rSW (rest := []) (fr := rfw cI B S.2.1) (ws := lwW D cI A B ho V (S.1, S.2.1, S.2.2.1, S.2.2.2)) (As := [.ref A.1, .int (xs (i + 1).toNatClampNeg), .int (xs (i + 2).toNatClampNeg), .int (xs (i + 3).toNatClampNeg), .ref ho]) hx hb hml hown hcx hl.1 (h_years l hlt D cI A ho V S.1 S.2.2.1 (xs (i + 1).toNatClampNeg) (xs (i + 2).toNatClampNeg) (xs (i + 3).toNatClampNeg) u hu _) tl_L_172 ts_L_years tn_L tc_L_years tm_L_years rfl rfl ⟨Nat.le_trans (Nat.le_of_ble_eq_true rfl) hfr, Nat.le_trans (Nat.le_of_ble_eq_true rfl) hlo⟩ hK hX hS hA hP hD pq_h rfl rfl (Nat.le_of_ble_eq_true rfl) dLaw_1437 ⟨hr.1, hr.2⟩) hP hD hS hA pq_h (fun _ => pq_h) (fun V H locs hP hD hS => ?_)
    refine lv_istore (lv' := [(5, .int u.1), (0, .ref b), (1, .ref A.1), (2, .ref B.1), (3, .ref ho), (4, .int i)]) hx hb dLaw_1440 hl (by decide) rfl (fun ls hl => ?_)
    refine lv_aload_n hx hb dLaw_1442 rfl (lv_at hl 3 rfl) ?_
    refine lv_aload_n hx hb dLaw_1443 rfl (lv_at hl 1 rfl) ?_
    refine lv_iload hx hb dLaw_1444 (lv_at hl 5 rfl) ?_
    refine lv_iconst (v := 1) hx hb dLaw_1446 (by decide) ?_
    refine lv_iadd hx hb dLaw_1447 ?_
    refine va_sld (A := lA s) hx hb hXs hbl hbA hS (hin 1 (by decide)) dLaw_1448 ?_
    refine lv_aload_n hx hb dLaw_1449 rfl (lv_at hl 1 rfl) ?_
    refine lv_iload hx hb dLaw_1450 (lv_at hl 5 rfl) ?_
    refine lv_iconst (v := 2) hx hb dLaw_1452 (by decide) ?_
    refine lv_iadd hx hb dLaw_1453 ?_
    refine va_sld (A := lA s) hx hb hXs hbl hbA hS (hin 2 (by decide)) dLaw_1454 ?_
    refine lv_aload_n hx hb dLaw_1455 rfl (lv_at hl 1 rfl) ?_
    refine lv_iload hx hb dLaw_1456 (lv_at hl 5 rfl) ?_
    refine lv_iconst (v := 3) hx hb dLaw_1458 (by decide) ?_
    refine lv_iadd hx hb dLaw_1459 ?_
    refine va_sld (A := lA s) hx hb hXs hbl hbA hS (hin 3 (by decide)) dLaw_1460 ?_
    refine z_ciF (ws1 := lwW D cI A B ho V (u.2.2, v.2, u.2.1, S.2.2.2)) (fr := (ho, .inl (D.1 101, 1, .inr (.inl u.2.1))) :: cw D cI A V u.2.2) (z_rVF (rest := []) (fr := (ho, .inl (D.1 101, 1, .inr (.inl u.2.1))) :: cw D cI A V u.2.2) (ws := lwW D cI A B ho V (u.2.2, S.2.1, u.2.1, S.2.2.2)) (ci := 12) (b := B.1) (As := [.int (xs (i + 1).toNatClampNeg), .int (xs (i + 2).toNatClampNeg), .int (xs (i + 3).toNatClampNeg)]) hx hb hml hown hcx hl.1 (kM_years l D cI B S.2.1 (xs (i + 1).toNatClampNeg) (xs (i + 2).toNatClampNeg) (xs (i + 3).toNatClampNeg) v hv _) tl_L_174 ti_X12_years tz_X12_years tn_X12 tc_X12_years tm_X12_years rfl rfl ⟨Nat.le_trans (Nat.le_of_ble_eq_true rfl) hfr, Nat.le_trans (Nat.le_of_ble_eq_true rfl) hlo⟩ hK hX hS hA hP hD pq_m ml_root rfl rfl rfl (Nat.le_of_ble_eq_true rfl) dLaw_1461 ⟨hr.1, hr.2⟩) hP hD hS hA pq_m pq_m (fun H locs hP hD hS => ?_)
    refine lv_istore (lv' := [(6, .int v.1), (5, .int u.1), (0, .ref b), (1, .ref A.1), (2, .ref B.1), (3, .ref ho), (4, .int i)]) hx hb dLaw_1464 hl (by decide) rfl (fun ls hl => ?_)
    refine lv_aload_n hx hb dLaw_1466 rfl (lv_at hl 4 rfl) ?_
    refine z_ciF (ws1 := lwW D cI A B ho V (u.2.2, t.2, u.2.1, S.2.2.2)) (fr := (ho, .inl (D.1 101, 1, .inr (.inl u.2.1))) :: cw D cI A V u.2.2) (z_rVF (rest := []) (fr := (ho, .inl (D.1 101, 1, .inr (.inl u.2.1))) :: cw D cI A V u.2.2) (ws := lwW D cI A B ho V (u.2.2, v.2, u.2.1, S.2.2.2)) (ci := 12) (b := B.1) (As := []) hx hb hml hown hcx hl.1 (kM_thrown l D cI B v.2 t ht _) tl_L_83 ti_X12_thrown tz_X12_thrown tn_X12 tc_X12_thrown tm_X12_thrown rfl rfl ⟨Nat.le_trans (Nat.le_of_ble_eq_true rfl) hfr, Nat.le_trans (Nat.le_of_ble_eq_true rfl) hlo⟩ hK hX hS hA hP hD pq_m ml_root rfl rfl rfl (Nat.le_of_ble_eq_true rfl) dLaw_1467 ⟨hr.1, hr.2⟩) hP hD hS hA pq_m pq_m (fun H locs hP hD hS => ?_)
    refine lv_iload hx hb dLaw_1470 (lv_at hl 1 rfl) ?_
    refine lv_icmp_eq (tgt := 1477) hx hb dLaw_1472 (by decide) (fun _ => ?_) (fun h9 => absurd h1 h9)
    refine lv_iload hx hb dLaw_1477 (lv_at hl 1 rfl) ?_
    refine lv_if_ne (tgt := 1494) hx hb dLaw_1479 (by decide) (fun _ => ?_) (fun h9 => absurd h9 h2)
    refine lv_goto (tgt := 1521) hx hb dLaw_1494 (by decide) ?_
    exact cont V _ _ _ hP hD hS (lv_sub hl [2, 3, 4, 5, 6] rfl)
def sL_image (S : LwS) (a1 : Int32) (a2 : Int32) (a3 : Int32) (a4 : Int32) (a5 : Int32) : Option LwS := match S.1.2.2.1 with
  | none => bd (m_acopy initA (allOf S.1)) fun T => bd (pM_image S.2.1) fun v => some ((upC S.1.1 0 (upd (S.1.1 0) 5 1), S.1.2.1, some T, S.1.2.2.2), v, S.2.2.1, S.2.2.2.1 + (16 + 11 * cnt40 T.2.2.2.1), S.2.2.2.2 + (491 + 432 * cnt40 T.2.2.2.1))
  | some T0 => bd (m_acopy T0 (allOf S.1)) fun T => bd (pM_image S.2.1) fun v => some ((upC S.1.1 0 (upd (S.1.1 0) 5 1), S.1.2.1, some T, S.1.2.2.2), v, S.2.2.1, S.2.2.2.1 + (0 + 11 * (cnt40 T.2.2.2.1 - cnt40 T0.2.2.2.1)), S.2.2.2.2 + (0 + 432 * (cnt40 T.2.2.2.1 - cnt40 T0.2.2.2.1)))
set_option maxHeartbeats 4000000 in
set_option maxRecDepth 100000 in
theorem lc_image {p : Program} {l : Launch} {e : Env} {R : Room} {s : State} {m : MethodId} {args : Array Value} {below : List Frame} {meth : Method} {c : Code} {Q : State → Prop} {D : va_G} {cI : ClassId} {cx : Cond} {b L : Nat} {xs : Nat → Int32} (hC : LawCtx p l R s m args c D cI cx b L xs) (A : CAd) (B : Nat × (Nat → Nat)) (ho : Nat) (V : CV) (S S9 : LwS) (i : Int32) (hin : ∀ j : Int32, j ∈ ([1, 2, 3, 4, 5] : List Int32) → vp_in (i + j) L) (hf : sL_image S (xs (i + 1).toNatClampNeg) (xs (i + 2).toNatClampNeg) (xs (i + 3).toNatClampNeg) (xs (i + 4).toNatClampNeg) (xs (i + 5).toNatClampNeg) = some S9) (hr : S9.2.2.2.1 ≤ R.cells ∧ S9.2.2.2.2 ≤ R.slots) {H : Heap} {locs : List Loc} {ls : Array Slot} (hP : va_P D vwCl (lwW D cI A B ho V S) H) (hD : va_D (lA s) (lwW D cI A B ho V S)) (hS : va_S (lA s) s.heap H locs) (hl : lv_has ls 7 [(0, .ref b), (1, .ref A.1), (2, .ref B.1), (3, .ref ho), (4, .int i)])
    (cont : ∀ (V : CV) (H : Heap) (locs : List Loc) (ls : Array Slot), va_P D vwCl (lwW D cI A B ho V S9) H → va_D (lA s) (lwW D cI A B ho V S9) → va_S (lA s) s.heap H locs → lv_has ls 7 [(0, .ref b), (1, .ref A.1), (2, .ref B.1), (3, .ref ho), (4, .int i)] → W p l e R s m args below meth c H locs S9.2.2.2.1 S9.2.2.2.2 Q (F0 m 1521 ls [])) : W p l e R s m args below meth c H locs S.2.2.2.1 S.2.2.2.2 Q (F0 m 1497 ls []) := by
  obtain ⟨hx, hb, hml, hts, hcx, hown, hK, hX, hXs, hbl, hlt, hfr, hlo⟩ := hC
  have hbA : ¬ lA s b := Nat.not_le.mpr hbl
  have hA : ∀ q : Nat, s.heap.size ≤ q → lA s q := fun q h => h
  obtain ⟨⟨S1, S2, S3, S4⟩, SM, SO, SK, SN⟩ := S
  cases S3 with
  | none =>
    obtain ⟨T, hT, hf⟩ := bd_some hf
    obtain ⟨v, hv, hf⟩ := bd_some hf
    obtain rfl := Option.some.inj hf
    refine lv_aload_n hx hb dLaw_1497 rfl (lv_at hl 1 rfl) ?_
    refine z_cnF (ws1 := fun V => lwW D cI A B ho V ((upC S1 0 (upd (S1 0) 5 1), S2, some T, S4), SM, SO, (SK, SN))) (fr := (ho, .inl (D.1 101, 1, .inr (.inl SO))) :: rfw cI B SM) (z_rVF (rest := []) (fr := (ho, .inl (D.1 101, 1, .inr (.inl SO))) :: rfw cI B SM) (ws := lwW D cI A B ho V ((S1, S2, none, S4), SM, SO, (SK, SN))) (ci := 11) (b := A.1) (As := []) hx hb hml hown hcx hl.1 (k_imageN l D cI A V S1 S2 S4 T hT _) tl_L_175 ti_X11_image tz_X11_image tn_X11 tc_X11_image tm_X11_image rfl rfl ⟨Nat.le_trans (Nat.le_of_ble_eq_true rfl) hfr, Nat.le_trans (Nat.le_of_ble_eq_true rfl) hlo⟩ hK hX hS hA hP hD pq_c cw_root rfl rfl rfl (Nat.le_of_ble_eq_true rfl) dLaw_1498 ⟨hr.1, hr.2⟩) hP hD hS hA pq_c (fun _ => pq_c) (fun V H locs hP hD hS => ?_)
    refine lv_aload_n hx hb dLaw_1501 rfl (lv_at hl 2 rfl) ?_
    refine z_cvF (ws1 := lwW D cI A B ho V ((upC S1 0 (upd (S1 0) 5 1), S2, some T, S4), v, SO, (SK, SN))) (fr := (ho, .inl (D.1 101, 1, .inr (.inl SO))) :: cw D cI A V (upC S1 0 (upd (S1 0) 5 1), S2, some T, S4)) (z_rVF (rest := []) (fr := (ho, .inl (D.1 101, 1, .inr (.inl SO))) :: cw D cI A V (upC S1 0 (upd (S1 0) 5 1), S2, some T, S4)) (ws := lwW D cI A B ho V ((upC S1 0 (upd (S1 0) 5 1), S2, some T, S4), SM, SO, (SK, SN))) (ci := 12) (b := B.1) (As := []) hx hb hml hown hcx hl.1 (kM_image l D cI B SM v hv _) tl_L_178 ti_X12_image tz_X12_image tn_X12 tc_X12_image tm_X12_image rfl rfl ⟨Nat.le_trans (Nat.le_of_ble_eq_true rfl) hfr, Nat.le_trans (Nat.le_of_ble_eq_true rfl) hlo⟩ hK hX hS hA hP hD pq_m ml_root rfl rfl rfl (Nat.le_of_ble_eq_true rfl) dLaw_1502 ⟨hr.1, hr.2⟩) hP hD hS hA pq_m pq_m (fun H locs hP hD hS => ?_)
    refine lv_goto (tgt := 1521) hx hb dLaw_1505 (by decide) ?_
    exact cont V _ _ _ hP hD hS (lv_sub hl [0, 1, 2, 3, 4] rfl)
  | some T0 =>
    obtain ⟨T, hT, hf⟩ := bd_some hf
    obtain ⟨v, hv, hf⟩ := bd_some hf
    obtain rfl := Option.some.inj hf
    refine lv_aload_n hx hb dLaw_1497 rfl (lv_at hl 1 rfl) ?_
    refine z_cnF (ws1 := fun V => lwW D cI A B ho V ((upC S1 0 (upd (S1 0) 5 1), S2, some T, S4), SM, SO, (SK, SN))) (fr := (ho, .inl (D.1 101, 1, .inr (.inl SO))) :: rfw cI B SM) (z_rVF (rest := []) (fr := (ho, .inl (D.1 101, 1, .inr (.inl SO))) :: rfw cI B SM) (ws := lwW D cI A B ho V ((S1, S2, (some T0), S4), SM, SO, (SK, SN))) (ci := 11) (b := A.1) (As := []) hx hb hml hown hcx hl.1 (k_imageS l D cI A V S1 S2 T0 S4 T hT _) tl_L_175 ti_X11_image tz_X11_image tn_X11 tc_X11_image tm_X11_image rfl rfl ⟨Nat.le_trans (Nat.le_of_ble_eq_true rfl) hfr, Nat.le_trans (Nat.le_of_ble_eq_true rfl) hlo⟩ hK hX hS hA hP hD pq_c cw_root rfl rfl rfl (Nat.le_of_ble_eq_true rfl) dLaw_1498 ⟨hr.1, hr.2⟩) hP hD hS hA pq_c (fun _ => pq_c) (fun V H locs hP hD hS => ?_)
    refine lv_aload_n hx hb dLaw_1501 rfl (lv_at hl 2 rfl) ?_
    refine z_cvF (ws1 := lwW D cI A B ho V ((upC S1 0 (upd (S1 0) 5 1), S2, some T, S4), v, SO, (SK, SN))) (fr := (ho, .inl (D.1 101, 1, .inr (.inl SO))) :: cw D cI A V (upC S1 0 (upd (S1 0) 5 1), S2, some T, S4)) (z_rVF (rest := []) (fr := (ho, .inl (D.1 101, 1, .inr (.inl SO))) :: cw D cI A V (upC S1 0 (upd (S1 0) 5 1), S2, some T, S4)) (ws := lwW D cI A B ho V ((upC S1 0 (upd (S1 0) 5 1), S2, some T, S4), SM, SO, (SK, SN))) (ci := 12) (b := B.1) (As := []) hx hb hml hown hcx hl.1 (kM_image l D cI B SM v hv _) tl_L_178 ti_X12_image tz_X12_image tn_X12 tc_X12_image tm_X12_image rfl rfl ⟨Nat.le_trans (Nat.le_of_ble_eq_true rfl) hfr, Nat.le_trans (Nat.le_of_ble_eq_true rfl) hlo⟩ hK hX hS hA hP hD pq_m ml_root rfl rfl rfl (Nat.le_of_ble_eq_true rfl) dLaw_1502 ⟨hr.1, hr.2⟩) hP hD hS hA pq_m pq_m (fun H locs hP hD hS => ?_)
    refine lv_goto (tgt := 1521) hx hb dLaw_1505 (by decide) ?_
    exact cont V _ _ _ hP hD hS (lv_sub hl [0, 1, 2, 3, 4] rfl)
def sL_restore (S : LwS) (a1 : Int32) (a2 : Int32) (a3 : Int32) (a4 : Int32) (a5 : Int32) : Option LwS := if S.1.1 0 5 = 0 then (bd (pM_restore S.2.1) fun v => if (0 : Int32) = v.1 then some (S.1, v.2, S.2.2.1, S.2.2.2.1 + 0, S.2.2.2.2 + 0) else none) else match S.1.2.2.1 with
  | none => none
  | some T0 => bd (m_acopy (allOf S.1) T0) fun T => bd (pM_restore S.2.1) fun v => if (1 : Int32) = v.1 then some (setAll S.1 T, v.2, S.2.2.1, S.2.2.2.1 + (0 + 11 * (cnt40 T.2.2.2.1 - cnt40 (allOf S.1).2.2.2.1)), S.2.2.2.2 + (0 + 432 * (cnt40 T.2.2.2.1 - cnt40 (allOf S.1).2.2.2.1))) else none
set_option maxHeartbeats 4000000 in
set_option maxRecDepth 100000 in
theorem lc_restore {p : Program} {l : Launch} {e : Env} {R : Room} {s : State} {m : MethodId} {args : Array Value} {below : List Frame} {meth : Method} {c : Code} {Q : State → Prop} {D : va_G} {cI : ClassId} {cx : Cond} {b L : Nat} {xs : Nat → Int32} (hC : LawCtx p l R s m args c D cI cx b L xs) (A : CAd) (B : Nat × (Nat → Nat)) (ho : Nat) (V : CV) (S S9 : LwS) (i : Int32) (hin : ∀ j : Int32, j ∈ ([1, 2, 3, 4, 5] : List Int32) → vp_in (i + j) L) (hf : sL_restore S (xs (i + 1).toNatClampNeg) (xs (i + 2).toNatClampNeg) (xs (i + 3).toNatClampNeg) (xs (i + 4).toNatClampNeg) (xs (i + 5).toNatClampNeg) = some S9) (hr : S9.2.2.2.1 ≤ R.cells ∧ S9.2.2.2.2 ≤ R.slots) {H : Heap} {locs : List Loc} {ls : Array Slot} (hP : va_P D vwCl (lwW D cI A B ho V S) H) (hD : va_D (lA s) (lwW D cI A B ho V S)) (hS : va_S (lA s) s.heap H locs) (hl : lv_has ls 7 [(0, .ref b), (1, .ref A.1), (2, .ref B.1), (3, .ref ho), (4, .int i)])
    (cont : ∀ (V : CV) (H : Heap) (locs : List Loc) (ls : Array Slot), va_P D vwCl (lwW D cI A B ho V S9) H → va_D (lA s) (lwW D cI A B ho V S9) → va_S (lA s) s.heap H locs → lv_has ls 7 [(0, .ref b), (1, .ref A.1), (2, .ref B.1), (3, .ref ho), (4, .int i)] → W p l e R s m args below meth c H locs S9.2.2.2.1 S9.2.2.2.2 Q (F0 m 1521 ls [])) : W p l e R s m args below meth c H locs S.2.2.2.1 S.2.2.2.2 Q (F0 m 1508 ls []) := by
  obtain ⟨hx, hb, hml, hts, hcx, hown, hK, hX, hXs, hbl, hlt, hfr, hlo⟩ := hC
  have hbA : ¬ lA s b := Nat.not_le.mpr hbl
  have hA : ∀ q : Nat, s.heap.size ≤ q → lA s q := fun q h => h
  by_cases h0 : S.1.1 0 5 = 0
  · have hf := (if_pos h0).symm.trans hf
    obtain ⟨v, hv, hf⟩ := bd_some hf
    by_cases h1 : (0 : Int32) = v.1
    case neg => cases ((if_neg h1).symm.trans hf)
    obtain rfl := Option.some.inj ((if_pos h1).symm.trans hf)
    refine lv_aload_n hx hb dLaw_1508 rfl (lv_at hl 1 rfl) ?_
    refine z_cinF (ws1 := fun V => lwW D cI A B ho V (S.1, S.2.1, S.2.2.1, S.2.2.2)) (fr := (ho, .inl (D.1 101, 1, .inr (.inl S.2.2.1))) :: rfw cI B S.2.1) (z_rVF (rest := []) (fr := (ho, .inl (D.1 101, 1, .inr (.inl S.2.2.1))) :: rfw cI B S.2.1) (ws := lwW D cI A B ho V (S.1, S.2.1, S.2.2.1, S.2.2.2)) (ci := 11) (b := A.1) (As := []) hx hb hml hown hcx hl.1 (k_restoreN l D cI A V S.1 h0 _) tl_L_179 ti_X11_restore tz_X11_restore tn_X11 tc_X11_restore tm_X11_restore rfl rfl ⟨Nat.le_trans (Nat.le_of_ble_eq_true rfl) hfr, Nat.le_trans (Nat.le_of_ble_eq_true rfl) hlo⟩ hK hX hS hA hP hD pq_c cw_root rfl rfl rfl (Nat.le_of_ble_eq_true rfl) dLaw_1509 ⟨hr.1, hr.2⟩) hP hD hS hA pq_c (fun _ => pq_c) (fun V H locs hP hD hS => ?_)
    refine lv_aload_n hx hb dLaw_1512 rfl (lv_at hl 2 rfl) ?_
    refine z_ciF (ws1 := lwW D cI A B ho V (S.1, v.2, S.2.2.1, S.2.2.2)) (fr := (ho, .inl (D.1 101, 1, .inr (.inl S.2.2.1))) :: cw D cI A V S.1) (z_rVF (rest := [.int 0]) (fr := (ho, .inl (D.1 101, 1, .inr (.inl S.2.2.1))) :: cw D cI A V S.1) (ws := lwW D cI A B ho V (S.1, S.2.1, S.2.2.1, S.2.2.2)) (ci := 12) (b := B.1) (As := []) hx hb hml hown hcx hl.1 (kM_restore l D cI B S.2.1 v hv _) tl_L_183 ti_X12_restore tz_X12_restore tn_X12 tc_X12_restore tm_X12_restore rfl rfl ⟨Nat.le_trans (Nat.le_of_ble_eq_true rfl) hfr, Nat.le_trans (Nat.le_of_ble_eq_true rfl) hlo⟩ hK hX hS hA hP hD pq_m ml_root rfl rfl rfl (Nat.le_of_ble_eq_true rfl) dLaw_1513 ⟨hr.1, hr.2⟩) hP hD hS hA pq_m pq_m (fun H locs hP hD hS => ?_)
    refine lv_icmp_eq (tgt := 1521) hx hb dLaw_1516 (by decide) (fun _ => ?_) (fun h9 => absurd h1 h9)
    exact cont V _ _ _ hP hD hS (lv_sub hl [0, 1, 2, 3, 4] rfl)
  · have hf := (if_neg h0).symm.trans hf
    obtain ⟨⟨S1, S2, S3, S4⟩, SM, SO, SK, SN⟩ := S
    cases S3 with
    | none => cases hf
    | some T0 =>
      obtain ⟨T, hT, hf⟩ := bd_some hf
      obtain ⟨v, hv, hf⟩ := bd_some hf
      by_cases h1 : (1 : Int32) = v.1
      case neg => cases ((if_neg h1).symm.trans hf)
      obtain rfl := Option.some.inj ((if_pos h1).symm.trans hf)
      refine lv_aload_n hx hb dLaw_1508 rfl (lv_at hl 1 rfl) ?_
      refine z_cinF (ws1 := fun V => lwW D cI A B ho V ((setAll (S1, S2, (some T0), S4) T), SM, SO, (SK, SN))) (fr := (ho, .inl (D.1 101, 1, .inr (.inl SO))) :: rfw cI B SM) (z_rVF (rest := []) (fr := (ho, .inl (D.1 101, 1, .inr (.inl SO))) :: rfw cI B SM) (ws := lwW D cI A B ho V ((S1, S2, (some T0), S4), SM, SO, (SK, SN))) (ci := 11) (b := A.1) (As := []) hx hb hml hown hcx hl.1 (k_restoreS l D cI A V S1 S2 T0 S4 T h0 hT _) tl_L_179 ti_X11_restore tz_X11_restore tn_X11 tc_X11_restore tm_X11_restore rfl rfl ⟨Nat.le_trans (Nat.le_of_ble_eq_true rfl) hfr, Nat.le_trans (Nat.le_of_ble_eq_true rfl) hlo⟩ hK hX hS hA hP hD pq_c cw_root rfl rfl rfl (Nat.le_of_ble_eq_true rfl) dLaw_1509 ⟨hr.1, hr.2⟩) hP hD hS hA pq_c (fun _ => pq_c) (fun V H locs hP hD hS => ?_)
      refine lv_aload_n hx hb dLaw_1512 rfl (lv_at hl 2 rfl) ?_
      refine z_ciF (ws1 := lwW D cI A B ho V ((setAll (S1, S2, (some T0), S4) T), v.2, SO, (SK, SN))) (fr := (ho, .inl (D.1 101, 1, .inr (.inl SO))) :: cw D cI A V (setAll (S1, S2, (some T0), S4) T)) (z_rVF (rest := [.int 1]) (fr := (ho, .inl (D.1 101, 1, .inr (.inl SO))) :: cw D cI A V (setAll (S1, S2, (some T0), S4) T)) (ws := lwW D cI A B ho V ((setAll (S1, S2, (some T0), S4) T), SM, SO, (SK, SN))) (ci := 12) (b := B.1) (As := []) hx hb hml hown hcx hl.1 (kM_restore l D cI B SM v hv _) tl_L_183 ti_X12_restore tz_X12_restore tn_X12 tc_X12_restore tm_X12_restore rfl rfl ⟨Nat.le_trans (Nat.le_of_ble_eq_true rfl) hfr, Nat.le_trans (Nat.le_of_ble_eq_true rfl) hlo⟩ hK hX hS hA hP hD pq_m ml_root rfl rfl rfl (Nat.le_of_ble_eq_true rfl) dLaw_1513 ⟨hr.1, hr.2⟩) hP hD hS hA pq_m pq_m (fun H locs hP hD hS => ?_)
      refine lv_icmp_eq (tgt := 1521) hx hb dLaw_1516 (by decide) (fun _ => ?_) (fun h9 => absurd h1 h9)
      exact cont V _ _ _ hP hD hS (lv_sub hl [0, 1, 2, 3, 4] rfl)
