def sL_feed (S : LwS) (a1 : Int32) (a2 : Int32) (a3 : Int32) (a4 : Int32) (a5 : Int32) : Option LwS := bd (pX_feed S.1 a1 a2 a3 a4 a5) fun u => bd (pM_feed S.2.1 a1 a2 a3 a4 a5) fun v => if u.1 = v.1 then some (u.2, v.2, S.2.2.1, S.2.2.2.1 + 0, S.2.2.2.2 + 0) else none
set_option maxHeartbeats 4000000 in
set_option maxRecDepth 100000 in
theorem lc_feed {p : Program} {l : Launch} {e : Env} {R : Room} {s : State} {m : MethodId} {args : Array Value} {below : List Frame} {meth : Method} {c : Code} {Q : State → Prop} {D : va_G} {cI : ClassId} {cx : Cond} {b L : Nat} {xs : Nat → Int32} (hC : LawCtx p l R s m args c D cI cx b L xs) (A : CAd) (B : Nat × (Nat → Nat)) (ho : Nat) (V : CV) (S S9 : LwS) (i : Int32) (hin : ∀ j : Int32, j ∈ ([1, 2, 3, 4, 5] : List Int32) → vp_in (i + j) L) (hf : sL_feed S (xs (i + 1).toNatClampNeg) (xs (i + 2).toNatClampNeg) (xs (i + 3).toNatClampNeg) (xs (i + 4).toNatClampNeg) (xs (i + 5).toNatClampNeg) = some S9) (hr : S9.2.2.2.1 ≤ R.cells ∧ S9.2.2.2.2 ≤ R.slots) {H : Heap} {locs : List Loc} {ls : Array Slot} (hP : va_P D vwCl (lwW D cI A B ho V S) H) (hD : va_D (lA s) (lwW D cI A B ho V S)) (hS : va_S (lA s) s.heap H locs) (hl : lv_has ls 7 [(0, .ref b), (1, .ref A.1), (2, .ref B.1), (3, .ref ho), (4, .int i)])
    (cont : ∀ (V : CV) (H : Heap) (locs : List Loc) (ls : Array Slot), va_P D vwCl (lwW D cI A B ho V S9) H → va_D (lA s) (lwW D cI A B ho V S9) → va_S (lA s) s.heap H locs → lv_has ls 7 [(0, .ref b), (1, .ref A.1), (2, .ref B.1), (3, .ref ho), (4, .int i)] → W p l e R s m args below meth c H locs S9.2.2.2.1 S9.2.2.2.2 Q (F0 m 1521 ls [])) : W p l e R s m args below meth c H locs S.2.2.2.1 S.2.2.2.2 Q (F0 m 172 ls []) := by
  obtain ⟨hx, hb, hml, hts, hcx, hown, hK, hX, hXs, hbl, hlt, hfr, hlo⟩ := hC
  have hbA : ¬ lA s b := Nat.not_le.mpr hbl
  have hA : ∀ q : Nat, s.heap.size ≤ q → lA s q := fun q h => h
  obtain ⟨u, hu, hf⟩ := bd_some hf
  obtain ⟨v, hv, hf⟩ := bd_some hf
  by_cases h1 : u.1 = v.1
  case neg => cases ((if_neg h1).symm.trans hf)
  obtain rfl := Option.some.inj ((if_pos h1).symm.trans hf)
  refine lv_aload_n hx hb dLaw_172 rfl (lv_at hl 1 rfl) ?_
  refine lv_aload_n hx hb dLaw_173 rfl (lv_at hl 0 rfl) ?_
  refine lv_iload hx hb dLaw_174 (lv_at hl 4 rfl) ?_
  refine lv_iconst (v := 1) hx hb dLaw_176 (by decide) ?_
  refine lv_iadd hx hb dLaw_177 ?_
  refine va_sld (A := lA s) hx hb hXs hbl hbA hS (hin 1 (by decide)) dLaw_178 ?_
  refine lv_aload_n hx hb dLaw_179 rfl (lv_at hl 0 rfl) ?_
  refine lv_iload hx hb dLaw_180 (lv_at hl 4 rfl) ?_
  refine lv_iconst (v := 2) hx hb dLaw_182 (by decide) ?_
  refine lv_iadd hx hb dLaw_183 ?_
  refine va_sld (A := lA s) hx hb hXs hbl hbA hS (hin 2 (by decide)) dLaw_184 ?_
  refine lv_aload_n hx hb dLaw_185 rfl (lv_at hl 0 rfl) ?_
  refine lv_iload hx hb dLaw_186 (lv_at hl 4 rfl) ?_
  refine lv_iconst (v := 3) hx hb dLaw_188 (by decide) ?_
  refine lv_iadd hx hb dLaw_189 ?_
  refine va_sld (A := lA s) hx hb hXs hbl hbA hS (hin 3 (by decide)) dLaw_190 ?_
  refine lv_aload_n hx hb dLaw_191 rfl (lv_at hl 0 rfl) ?_
  refine lv_iload hx hb dLaw_192 (lv_at hl 4 rfl) ?_
  refine lv_iconst (v := 4) hx hb dLaw_194 (by decide) ?_
  refine lv_iadd hx hb dLaw_195 ?_
  refine va_sld (A := lA s) hx hb hXs hbl hbA hS (hin 4 (by decide)) dLaw_196 ?_
  refine lv_aload_n hx hb dLaw_197 rfl (lv_at hl 0 rfl) ?_
  refine lv_iload hx hb dLaw_198 (lv_at hl 4 rfl) ?_
  refine lv_iconst (v := 5) hx hb dLaw_200 (by decide) ?_
  refine lv_iadd hx hb dLaw_201 ?_
  refine va_sld (A := lA s) hx hb hXs hbl hbA hS (hin 5 (by decide)) dLaw_202 ?_
  refine z_cinF (ws1 := fun V => lwW D cI A B ho V (u.2, S.2.1, S.2.2.1, S.2.2.2)) (fr := (ho, .inl (D.1 101, 1, .inr (.inl S.2.2.1))) :: rfw cI B S.2.1) (z_rVF (rest := []) (fr := (ho, .inl (D.1 101, 1, .inr (.inl S.2.2.1))) :: rfw cI B S.2.1) (ws := lwW D cI A B ho V (S.1, S.2.1, S.2.2.1, S.2.2.2)) (ci := 11) (b := A.1) (As := [.int (xs (i + 1).toNatClampNeg), .int (xs (i + 2).toNatClampNeg), .int (xs (i + 3).toNatClampNeg), .int (xs (i + 4).toNatClampNeg), .int (xs (i + 5).toNatClampNeg)]) hx hb hml hown hcx hl.1 (k_feed l D cI A V S.1 (xs (i + 1).toNatClampNeg) (xs (i + 2).toNatClampNeg) (xs (i + 3).toNatClampNeg) (xs (i + 4).toNatClampNeg) (xs (i + 5).toNatClampNeg) u hu _) tl_L_72 ti_X11_feed tz_X11_feed tn_X11 tc_X11_feed tm_X11_feed rfl rfl ⟨Nat.le_trans (Nat.le_of_ble_eq_true rfl) hfr, Nat.le_trans (Nat.le_of_ble_eq_true rfl) hlo⟩ hK hX hS hA hP hD pq_c cw_root rfl rfl rfl (Nat.le_of_ble_eq_true rfl) dLaw_203 ⟨hr.1, hr.2⟩) hP hD hS hA pq_c (fun _ => pq_c) (fun V H locs hP hD hS => ?_)
  refine lv_aload_n hx hb dLaw_206 rfl (lv_at hl 2 rfl) ?_
  refine lv_aload_n hx hb dLaw_207 rfl (lv_at hl 0 rfl) ?_
  refine lv_iload hx hb dLaw_208 (lv_at hl 4 rfl) ?_
  refine lv_iconst (v := 1) hx hb dLaw_210 (by decide) ?_
  refine lv_iadd hx hb dLaw_211 ?_
  refine va_sld (A := lA s) hx hb hXs hbl hbA hS (hin 1 (by decide)) dLaw_212 ?_
  refine lv_aload_n hx hb dLaw_213 rfl (lv_at hl 0 rfl) ?_
  refine lv_iload hx hb dLaw_214 (lv_at hl 4 rfl) ?_
  refine lv_iconst (v := 2) hx hb dLaw_216 (by decide) ?_
  refine lv_iadd hx hb dLaw_217 ?_
  refine va_sld (A := lA s) hx hb hXs hbl hbA hS (hin 2 (by decide)) dLaw_218 ?_
  refine lv_aload_n hx hb dLaw_219 rfl (lv_at hl 0 rfl) ?_
  refine lv_iload hx hb dLaw_220 (lv_at hl 4 rfl) ?_
  refine lv_iconst (v := 3) hx hb dLaw_222 (by decide) ?_
  refine lv_iadd hx hb dLaw_223 ?_
  refine va_sld (A := lA s) hx hb hXs hbl hbA hS (hin 3 (by decide)) dLaw_224 ?_
  refine lv_aload_n hx hb dLaw_225 rfl (lv_at hl 0 rfl) ?_
  refine lv_iload hx hb dLaw_226 (lv_at hl 4 rfl) ?_
  refine lv_iconst (v := 4) hx hb dLaw_228 (by decide) ?_
  refine lv_iadd hx hb dLaw_229 ?_
  refine va_sld (A := lA s) hx hb hXs hbl hbA hS (hin 4 (by decide)) dLaw_230 ?_
  refine lv_aload_n hx hb dLaw_231 rfl (lv_at hl 0 rfl) ?_
  refine lv_iload hx hb dLaw_232 (lv_at hl 4 rfl) ?_
  refine lv_iconst (v := 5) hx hb dLaw_234 (by decide) ?_
  refine lv_iadd hx hb dLaw_235 ?_
  refine va_sld (A := lA s) hx hb hXs hbl hbA hS (hin 5 (by decide)) dLaw_236 ?_
  refine z_ciF (ws1 := lwW D cI A B ho V (u.2, v.2, S.2.2.1, S.2.2.2)) (fr := (ho, .inl (D.1 101, 1, .inr (.inl S.2.2.1))) :: cw D cI A V u.2) (z_rVF (rest := [.int u.1]) (fr := (ho, .inl (D.1 101, 1, .inr (.inl S.2.2.1))) :: cw D cI A V u.2) (ws := lwW D cI A B ho V (u.2, S.2.1, S.2.2.1, S.2.2.2)) (ci := 12) (b := B.1) (As := [.int (xs (i + 1).toNatClampNeg), .int (xs (i + 2).toNatClampNeg), .int (xs (i + 3).toNatClampNeg), .int (xs (i + 4).toNatClampNeg), .int (xs (i + 5).toNatClampNeg)]) hx hb hml hown hcx hl.1 (kM_feed l D cI B S.2.1 (xs (i + 1).toNatClampNeg) (xs (i + 2).toNatClampNeg) (xs (i + 3).toNatClampNeg) (xs (i + 4).toNatClampNeg) (xs (i + 5).toNatClampNeg) v hv _) tl_L_76 ti_X12_feed tz_X12_feed tn_X12 tc_X12_feed tm_X12_feed rfl rfl ⟨Nat.le_trans (Nat.le_of_ble_eq_true rfl) hfr, Nat.le_trans (Nat.le_of_ble_eq_true rfl) hlo⟩ hK hX hS hA hP hD pq_m ml_root rfl rfl rfl (Nat.le_of_ble_eq_true rfl) dLaw_237 ⟨hr.1, hr.2⟩) hP hD hS hA pq_m pq_m (fun H locs hP hD hS => ?_)
  refine lv_icmp_eq (tgt := 1521) hx hb dLaw_240 (by decide) (fun _ => ?_) (fun h9 => absurd h1 h9)
  exact cont V _ _ _ hP hD hS (lv_sub hl [0, 1, 2, 3, 4] rfl)
def sL_heap (S : LwS) (a1 : Int32) (a2 : Int32) (a3 : Int32) (a4 : Int32) (a5 : Int32) : Option LwS := bd (pL_heap S.1 S.2.2.1 a1) fun u => bd (pM_heap S.2.1 a1) fun v => bd (pM_thrown v.2) fun t => if t.1 = u.1 then (if u.1 = 0 then (if lg_cmp (u.2.1 0) v.1.toInt64 = 0 then some (u.2.2, t.2, u.2.1, S.2.2.2.1 + 1, S.2.2.2.2 + 6) else none) else some (u.2.2, t.2, u.2.1, S.2.2.2.1 + 1, S.2.2.2.2 + 6)) else none
set_option maxHeartbeats 4000000 in
set_option maxRecDepth 100000 in
theorem lc_heap {p : Program} {l : Launch} {e : Env} {R : Room} {s : State} {m : MethodId} {args : Array Value} {below : List Frame} {meth : Method} {c : Code} {Q : State → Prop} {D : va_G} {cI : ClassId} {cx : Cond} {b L : Nat} {xs : Nat → Int32} (hC : LawCtx p l R s m args c D cI cx b L xs) (A : CAd) (B : Nat × (Nat → Nat)) (ho : Nat) (V : CV) (S S9 : LwS) (i : Int32) (hin : ∀ j : Int32, j ∈ ([1, 2, 3, 4, 5] : List Int32) → vp_in (i + j) L) (hf : sL_heap S (xs (i + 1).toNatClampNeg) (xs (i + 2).toNatClampNeg) (xs (i + 3).toNatClampNeg) (xs (i + 4).toNatClampNeg) (xs (i + 5).toNatClampNeg) = some S9) (hr : S9.2.2.2.1 ≤ R.cells ∧ S9.2.2.2.2 ≤ R.slots) {H : Heap} {locs : List Loc} {ls : Array Slot} (hP : va_P D vwCl (lwW D cI A B ho V S) H) (hD : va_D (lA s) (lwW D cI A B ho V S)) (hS : va_S (lA s) s.heap H locs) (hl : lv_has ls 7 [(0, .ref b), (1, .ref A.1), (2, .ref B.1), (3, .ref ho), (4, .int i)])
    (cont : ∀ (V : CV) (H : Heap) (locs : List Loc) (ls : Array Slot), va_P D vwCl (lwW D cI A B ho V S9) H → va_D (lA s) (lwW D cI A B ho V S9) → va_S (lA s) s.heap H locs → lv_has ls 7 [(0, .ref b), (1, .ref A.1), (2, .ref B.1), (3, .ref ho), (4, .int i)] → W p l e R s m args below meth c H locs S9.2.2.2.1 S9.2.2.2.2 Q (F0 m 1521 ls [])) : W p l e R s m args below meth c H locs S.2.2.2.1 S.2.2.2.2 Q (F0 m 245 ls []) := by
  obtain ⟨hx, hb, hml, hts, hcx, hown, hK, hX, hXs, hbl, hlt, hfr, hlo⟩ := hC
  have hbA : ¬ lA s b := Nat.not_le.mpr hbl
  have hA : ∀ q : Nat, s.heap.size ≤ q → lA s q := fun q h => h
  obtain ⟨u, hu, hf⟩ := bd_some hf
  obtain ⟨v, hv, hf⟩ := bd_some hf
  obtain ⟨t, ht, hf⟩ := bd_some hf
  by_cases h1 : t.1 = u.1
  case neg => cases ((if_neg h1).symm.trans hf)
  have hf := (if_pos h1).symm.trans hf
  by_cases h2 : u.1 = 0
  · have hf := (if_pos h2).symm.trans hf
    by_cases h3 : lg_cmp (u.2.1 0) v.1.toInt64 = 0
    case neg => cases ((if_neg h3).symm.trans hf)
    obtain rfl := Option.some.inj ((if_pos h3).symm.trans hf)
    refine lv_aload_n hx hb dLaw_245 rfl (lv_at hl 1 rfl) ?_
    refine lv_aload_n hx hb dLaw_246 rfl (lv_at hl 0 rfl) ?_
    refine lv_iload hx hb dLaw_247 (lv_at hl 4 rfl) ?_
    refine lv_iconst (v := 1) hx hb dLaw_249 (by decide) ?_
    refine lv_iadd hx hb dLaw_250 ?_
    refine va_sld (A := lA s) hx hb hXs hbl hbA hS (hin 1 (by decide)) dLaw_251 ?_
    refine lv_aload_n hx hb dLaw_252 rfl (lv_at hl 3 rfl) ?_
    refine z_cinF (ws1 := fun V => lwW D cI A B ho V (u.2.2, S.2.1, u.2.1, S.2.2.2)) (fr := rfw cI B S.2.1) (z_rSW (rest := []) (fr := rfw cI B S.2.1) (ws := lwW D cI A B ho V (S.1, S.2.1, S.2.2.1, S.2.2.2)) (As := [.ref A.1, .int (xs (i + 1).toNatClampNeg), .ref ho]) hx hb hml hown hcx hl.1 (h_heap l hlt D cI A ho V S.1 S.2.2.1 (xs (i + 1).toNatClampNeg) u hu _) tl_L_77 ts_L_heap tn_L tc_L_heap tm_L_heap rfl rfl ⟨Nat.le_trans (Nat.le_of_ble_eq_true rfl) hfr, Nat.le_trans (Nat.le_of_ble_eq_true rfl) hlo⟩ hK hX hS hA hP hD pq_h rfl rfl (Nat.le_of_ble_eq_true rfl) dLaw_253 ⟨hr.1, hr.2⟩) hP hD hS hA pq_h (fun _ => pq_h) (fun V H locs hP hD hS => ?_)
    refine lv_istore (lv' := [(5, .int u.1), (0, .ref b), (1, .ref A.1), (2, .ref B.1), (3, .ref ho), (4, .int i)]) hx hb dLaw_256 hl (by decide) rfl (fun ls hl => ?_)
    refine lv_aload_n hx hb dLaw_258 rfl (lv_at hl 3 rfl) ?_
    refine lv_aload_n hx hb dLaw_259 rfl (lv_at hl 1 rfl) ?_
    refine lv_iload hx hb dLaw_260 (lv_at hl 5 rfl) ?_
    refine lv_iconst (v := 1) hx hb dLaw_262 (by decide) ?_
    refine lv_iadd hx hb dLaw_263 ?_
    refine va_sld (A := lA s) hx hb hXs hbl hbA hS (hin 1 (by decide)) dLaw_264 ?_
    refine z_ciF (ws1 := lwW D cI A B ho V (u.2.2, v.2, u.2.1, S.2.2.2)) (fr := (ho, .inl (D.1 101, 1, .inr (.inl u.2.1))) :: cw D cI A V u.2.2) (z_rVF (rest := []) (fr := (ho, .inl (D.1 101, 1, .inr (.inl u.2.1))) :: cw D cI A V u.2.2) (ws := lwW D cI A B ho V (u.2.2, S.2.1, u.2.1, S.2.2.2)) (ci := 12) (b := B.1) (As := [.int (xs (i + 1).toNatClampNeg)]) hx hb hml hown hcx hl.1 (kM_heap l D cI B S.2.1 (xs (i + 1).toNatClampNeg) v hv _) tl_L_82 ti_X12_heap tz_X12_heap tn_X12 tc_X12_heap tm_X12_heap rfl rfl ⟨Nat.le_trans (Nat.le_of_ble_eq_true rfl) hfr, Nat.le_trans (Nat.le_of_ble_eq_true rfl) hlo⟩ hK hX hS hA hP hD pq_m ml_root rfl rfl rfl (Nat.le_of_ble_eq_true rfl) dLaw_265 ⟨hr.1, hr.2⟩) hP hD hS hA pq_m pq_m (fun H locs hP hD hS => ?_)
    refine lv_istore (lv' := [(6, .int v.1), (5, .int u.1), (0, .ref b), (1, .ref A.1), (2, .ref B.1), (3, .ref ho), (4, .int i)]) hx hb dLaw_268 hl (by decide) rfl (fun ls hl => ?_)
    refine lv_aload_n hx hb dLaw_270 rfl (lv_at hl 4 rfl) ?_
    refine z_ciF (ws1 := lwW D cI A B ho V (u.2.2, t.2, u.2.1, S.2.2.2)) (fr := (ho, .inl (D.1 101, 1, .inr (.inl u.2.1))) :: cw D cI A V u.2.2) (z_rVF (rest := []) (fr := (ho, .inl (D.1 101, 1, .inr (.inl u.2.1))) :: cw D cI A V u.2.2) (ws := lwW D cI A B ho V (u.2.2, v.2, u.2.1, S.2.2.2)) (ci := 12) (b := B.1) (As := []) hx hb hml hown hcx hl.1 (kM_thrown l D cI B v.2 t ht _) tl_L_83 ti_X12_thrown tz_X12_thrown tn_X12 tc_X12_thrown tm_X12_thrown rfl rfl ⟨Nat.le_trans (Nat.le_of_ble_eq_true rfl) hfr, Nat.le_trans (Nat.le_of_ble_eq_true rfl) hlo⟩ hK hX hS hA hP hD pq_m ml_root rfl rfl rfl (Nat.le_of_ble_eq_true rfl) dLaw_271 ⟨hr.1, hr.2⟩) hP hD hS hA pq_m pq_m (fun H locs hP hD hS => ?_)
    refine lv_iload hx hb dLaw_274 (lv_at hl 1 rfl) ?_
    refine lv_icmp_eq (tgt := 281) hx hb dLaw_276 (by decide) (fun _ => ?_) (fun h9 => absurd h1 h9)
    refine lv_iload hx hb dLaw_281 (lv_at hl 1 rfl) ?_
    refine lv_if_ne (tgt := 298) hx hb dLaw_283 (by decide) (fun h9 => absurd h2 h9) (fun _ => ?_)
    refine lv_aload_n hx hb dLaw_286 rfl (lv_at hl 5 rfl) ?_
    refine lv_iconst (v := 0) hx hb dLaw_287 (by decide) ?_
    refine va_lald (a := ho) hx hb hK.1 hP 0 2 rfl rfl (i := 0) vp_in01 dLaw_288 ?_
    refine lv_iload hx hb dLaw_289 (lv_at hl 0 rfl) ?_
    refine lv_i2l hx hb dLaw_291 rfl ?_
    refine W.lcmp hx hb dLaw_292 ?_
    refine lv_if_eq (tgt := 298) hx hb dLaw_293 (by decide) (fun _ => ?_) (fun h9 => absurd h3 h9)
    refine lv_goto (tgt := 1521) hx hb dLaw_298 (by decide) ?_
    exact cont V _ _ _ hP hD hS (lv_sub hl [2, 3, 4, 5, 6] rfl)
  · obtain rfl := Option.some.inj ((if_neg h2).symm.trans hf)
    refine lv_aload_n hx hb dLaw_245 rfl (lv_at hl 1 rfl) ?_
    refine lv_aload_n hx hb dLaw_246 rfl (lv_at hl 0 rfl) ?_
    refine lv_iload hx hb dLaw_247 (lv_at hl 4 rfl) ?_
    refine lv_iconst (v := 1) hx hb dLaw_249 (by decide) ?_
    refine lv_iadd hx hb dLaw_250 ?_
    refine va_sld (A := lA s) hx hb hXs hbl hbA hS (hin 1 (by decide)) dLaw_251 ?_
    refine lv_aload_n hx hb dLaw_252 rfl (lv_at hl 3 rfl) ?_
    refine z_cinF (ws1 := fun V => lwW D cI A B ho V (u.2.2, S.2.1, u.2.1, S.2.2.2)) (fr := rfw cI B S.2.1) (z_rSW (rest := []) (fr := rfw cI B S.2.1) (ws := lwW D cI A B ho V (S.1, S.2.1, S.2.2.1, S.2.2.2)) (As := [.ref A.1, .int (xs (i + 1).toNatClampNeg), .ref ho]) hx hb hml hown hcx hl.1 (h_heap l hlt D cI A ho V S.1 S.2.2.1 (xs (i + 1).toNatClampNeg) u hu _) tl_L_77 ts_L_heap tn_L tc_L_heap tm_L_heap rfl rfl ⟨Nat.le_trans (Nat.le_of_ble_eq_true rfl) hfr, Nat.le_trans (Nat.le_of_ble_eq_true rfl) hlo⟩ hK hX hS hA hP hD pq_h rfl rfl (Nat.le_of_ble_eq_true rfl) dLaw_253 ⟨hr.1, hr.2⟩) hP hD hS hA pq_h (fun _ => pq_h) (fun V H locs hP hD hS => ?_)
    refine lv_istore (lv' := [(5, .int u.1), (0, .ref b), (1, .ref A.1), (2, .ref B.1), (3, .ref ho), (4, .int i)]) hx hb dLaw_256 hl (by decide) rfl (fun ls hl => ?_)
    refine lv_aload_n hx hb dLaw_258 rfl (lv_at hl 3 rfl) ?_
    refine lv_aload_n hx hb dLaw_259 rfl (lv_at hl 1 rfl) ?_
    refine lv_iload hx hb dLaw_260 (lv_at hl 5 rfl) ?_
    refine lv_iconst (v := 1) hx hb dLaw_262 (by decide) ?_
    refine lv_iadd hx hb dLaw_263 ?_
    refine va_sld (A := lA s) hx hb hXs hbl hbA hS (hin 1 (by decide)) dLaw_264 ?_
    refine z_ciF (ws1 := lwW D cI A B ho V (u.2.2, v.2, u.2.1, S.2.2.2)) (fr := (ho, .inl (D.1 101, 1, .inr (.inl u.2.1))) :: cw D cI A V u.2.2) (z_rVF (rest := []) (fr := (ho, .inl (D.1 101, 1, .inr (.inl u.2.1))) :: cw D cI A V u.2.2) (ws := lwW D cI A B ho V (u.2.2, S.2.1, u.2.1, S.2.2.2)) (ci := 12) (b := B.1) (As := [.int (xs (i + 1).toNatClampNeg)]) hx hb hml hown hcx hl.1 (kM_heap l D cI B S.2.1 (xs (i + 1).toNatClampNeg) v hv _) tl_L_82 ti_X12_heap tz_X12_heap tn_X12 tc_X12_heap tm_X12_heap rfl rfl ⟨Nat.le_trans (Nat.le_of_ble_eq_true rfl) hfr, Nat.le_trans (Nat.le_of_ble_eq_true rfl) hlo⟩ hK hX hS hA hP hD pq_m ml_root rfl rfl rfl (Nat.le_of_ble_eq_true rfl) dLaw_265 ⟨hr.1, hr.2⟩) hP hD hS hA pq_m pq_m (fun H locs hP hD hS => ?_)
    refine lv_istore (lv' := [(6, .int v.1), (5, .int u.1), (0, .ref b), (1, .ref A.1), (2, .ref B.1), (3, .ref ho), (4, .int i)]) hx hb dLaw_268 hl (by decide) rfl (fun ls hl => ?_)
    refine lv_aload_n hx hb dLaw_270 rfl (lv_at hl 4 rfl) ?_
    refine z_ciF (ws1 := lwW D cI A B ho V (u.2.2, t.2, u.2.1, S.2.2.2)) (fr := (ho, .inl (D.1 101, 1, .inr (.inl u.2.1))) :: cw D cI A V u.2.2) (z_rVF (rest := []) (fr := (ho, .inl (D.1 101, 1, .inr (.inl u.2.1))) :: cw D cI A V u.2.2) (ws := lwW D cI A B ho V (u.2.2, v.2, u.2.1, S.2.2.2)) (ci := 12) (b := B.1) (As := []) hx hb hml hown hcx hl.1 (kM_thrown l D cI B v.2 t ht _) tl_L_83 ti_X12_thrown tz_X12_thrown tn_X12 tc_X12_thrown tm_X12_thrown rfl rfl ⟨Nat.le_trans (Nat.le_of_ble_eq_true rfl) hfr, Nat.le_trans (Nat.le_of_ble_eq_true rfl) hlo⟩ hK hX hS hA hP hD pq_m ml_root rfl rfl rfl (Nat.le_of_ble_eq_true rfl) dLaw_271 ⟨hr.1, hr.2⟩) hP hD hS hA pq_m pq_m (fun H locs hP hD hS => ?_)
    refine lv_iload hx hb dLaw_274 (lv_at hl 1 rfl) ?_
    refine lv_icmp_eq (tgt := 281) hx hb dLaw_276 (by decide) (fun _ => ?_) (fun h9 => absurd h1 h9)
    refine lv_iload hx hb dLaw_281 (lv_at hl 1 rfl) ?_
    refine lv_if_ne (tgt := 298) hx hb dLaw_283 (by decide) (fun _ => ?_) (fun h9 => absurd h9 h2)
    refine lv_goto (tgt := 1521) hx hb dLaw_298 (by decide) ?_
    exact cont V _ _ _ hP hD hS (lv_sub hl [2, 3, 4, 5, 6] rfl)
def sL_fault (S : LwS) (a1 : Int32) (a2 : Int32) (a3 : Int32) (a4 : Int32) (a5 : Int32) : Option LwS := bd (pX_fault S.1) fun u => bd (pM_fault S.2.1) fun v => if u.1 = v.1 then some (u.2, v.2, S.2.2.1, S.2.2.2.1 + 0, S.2.2.2.2 + 0) else none
set_option maxHeartbeats 4000000 in
set_option maxRecDepth 100000 in
theorem lc_fault {p : Program} {l : Launch} {e : Env} {R : Room} {s : State} {m : MethodId} {args : Array Value} {below : List Frame} {meth : Method} {c : Code} {Q : State → Prop} {D : va_G} {cI : ClassId} {cx : Cond} {b L : Nat} {xs : Nat → Int32} (hC : LawCtx p l R s m args c D cI cx b L xs) (A : CAd) (B : Nat × (Nat → Nat)) (ho : Nat) (V : CV) (S S9 : LwS) (i : Int32) (hin : ∀ j : Int32, j ∈ ([1, 2, 3, 4, 5] : List Int32) → vp_in (i + j) L) (hf : sL_fault S (xs (i + 1).toNatClampNeg) (xs (i + 2).toNatClampNeg) (xs (i + 3).toNatClampNeg) (xs (i + 4).toNatClampNeg) (xs (i + 5).toNatClampNeg) = some S9) (hr : S9.2.2.2.1 ≤ R.cells ∧ S9.2.2.2.2 ≤ R.slots) {H : Heap} {locs : List Loc} {ls : Array Slot} (hP : va_P D vwCl (lwW D cI A B ho V S) H) (hD : va_D (lA s) (lwW D cI A B ho V S)) (hS : va_S (lA s) s.heap H locs) (hl : lv_has ls 7 [(0, .ref b), (1, .ref A.1), (2, .ref B.1), (3, .ref ho), (4, .int i)])
    (cont : ∀ (V : CV) (H : Heap) (locs : List Loc) (ls : Array Slot), va_P D vwCl (lwW D cI A B ho V S9) H → va_D (lA s) (lwW D cI A B ho V S9) → va_S (lA s) s.heap H locs → lv_has ls 7 [(0, .ref b), (1, .ref A.1), (2, .ref B.1), (3, .ref ho), (4, .int i)] → W p l e R s m args below meth c H locs S9.2.2.2.1 S9.2.2.2.2 Q (F0 m 1521 ls [])) : W p l e R s m args below meth c H locs S.2.2.2.1 S.2.2.2.2 Q (F0 m 301 ls []) := by
  obtain ⟨hx, hb, hml, hts, hcx, hown, hK, hX, hXs, hbl, hlt, hfr, hlo⟩ := hC
  have hbA : ¬ lA s b := Nat.not_le.mpr hbl
  have hA : ∀ q : Nat, s.heap.size ≤ q → lA s q := fun q h => h
  obtain ⟨u, hu, hf⟩ := bd_some hf
  obtain ⟨v, hv, hf⟩ := bd_some hf
  by_cases h1 : u.1 = v.1
  case neg => cases ((if_neg h1).symm.trans hf)
  obtain rfl := Option.some.inj ((if_pos h1).symm.trans hf)
  refine lv_aload_n hx hb dLaw_301 rfl (lv_at hl 1 rfl) ?_
  refine z_cinF (ws1 := fun V => lwW D cI A B ho V (u.2, S.2.1, S.2.2.1, S.2.2.2)) (fr := (ho, .inl (D.1 101, 1, .inr (.inl S.2.2.1))) :: rfw cI B S.2.1) (z_rVF (rest := []) (fr := (ho, .inl (D.1 101, 1, .inr (.inl S.2.2.1))) :: rfw cI B S.2.1) (ws := lwW D cI A B ho V (S.1, S.2.1, S.2.2.1, S.2.2.2)) (ci := 11) (b := A.1) (As := []) hx hb hml hown hcx hl.1 (k_fault l D cI A V S.1 u hu _) tl_L_87 ti_X11_fault tz_X11_fault tn_X11 tc_X11_fault tm_X11_fault rfl rfl ⟨Nat.le_trans (Nat.le_of_ble_eq_true rfl) hfr, Nat.le_trans (Nat.le_of_ble_eq_true rfl) hlo⟩ hK hX hS hA hP hD pq_c cw_root rfl rfl rfl (Nat.le_of_ble_eq_true rfl) dLaw_302 ⟨hr.1, hr.2⟩) hP hD hS hA pq_c (fun _ => pq_c) (fun V H locs hP hD hS => ?_)
  refine lv_aload_n hx hb dLaw_305 rfl (lv_at hl 2 rfl) ?_
  refine z_ciF (ws1 := lwW D cI A B ho V (u.2, v.2, S.2.2.1, S.2.2.2)) (fr := (ho, .inl (D.1 101, 1, .inr (.inl S.2.2.1))) :: cw D cI A V u.2) (z_rVF (rest := [.int u.1]) (fr := (ho, .inl (D.1 101, 1, .inr (.inl S.2.2.1))) :: cw D cI A V u.2) (ws := lwW D cI A B ho V (u.2, S.2.1, S.2.2.1, S.2.2.2)) (ci := 12) (b := B.1) (As := []) hx hb hml hown hcx hl.1 (kM_fault l D cI B S.2.1 v hv _) tl_L_90 ti_X12_fault tz_X12_fault tn_X12 tc_X12_fault tm_X12_fault rfl rfl ⟨Nat.le_trans (Nat.le_of_ble_eq_true rfl) hfr, Nat.le_trans (Nat.le_of_ble_eq_true rfl) hlo⟩ hK hX hS hA hP hD pq_m ml_root rfl rfl rfl (Nat.le_of_ble_eq_true rfl) dLaw_306 ⟨hr.1, hr.2⟩) hP hD hS hA pq_m pq_m (fun H locs hP hD hS => ?_)
  refine lv_icmp_eq (tgt := 1521) hx hb dLaw_309 (by decide) (fun _ => ?_) (fun h9 => absurd h1 h9)
  exact cont V _ _ _ hP hD hS (lv_sub hl [0, 1, 2, 3, 4] rfl)
def sL_count (S : LwS) (a1 : Int32) (a2 : Int32) (a3 : Int32) (a4 : Int32) (a5 : Int32) : Option LwS := bd (pL_count S.1 S.2.2.1 a1) fun u => bd (pM_count S.2.1 a1) fun v => bd (pM_thrown v.2) fun t => if t.1 = u.1 then (if u.1 = 0 then (if lg_cmp (u.2.1 0) v.1.toInt64 = 0 then some (u.2.2, t.2, u.2.1, S.2.2.2.1 + 1, S.2.2.2.2 + 6) else none) else some (u.2.2, t.2, u.2.1, S.2.2.2.1 + 1, S.2.2.2.2 + 6)) else none
set_option maxHeartbeats 4000000 in
set_option maxRecDepth 100000 in
theorem lc_count {p : Program} {l : Launch} {e : Env} {R : Room} {s : State} {m : MethodId} {args : Array Value} {below : List Frame} {meth : Method} {c : Code} {Q : State → Prop} {D : va_G} {cI : ClassId} {cx : Cond} {b L : Nat} {xs : Nat → Int32} (hC : LawCtx p l R s m args c D cI cx b L xs) (A : CAd) (B : Nat × (Nat → Nat)) (ho : Nat) (V : CV) (S S9 : LwS) (i : Int32) (hin : ∀ j : Int32, j ∈ ([1, 2, 3, 4, 5] : List Int32) → vp_in (i + j) L) (hf : sL_count S (xs (i + 1).toNatClampNeg) (xs (i + 2).toNatClampNeg) (xs (i + 3).toNatClampNeg) (xs (i + 4).toNatClampNeg) (xs (i + 5).toNatClampNeg) = some S9) (hr : S9.2.2.2.1 ≤ R.cells ∧ S9.2.2.2.2 ≤ R.slots) {H : Heap} {locs : List Loc} {ls : Array Slot} (hP : va_P D vwCl (lwW D cI A B ho V S) H) (hD : va_D (lA s) (lwW D cI A B ho V S)) (hS : va_S (lA s) s.heap H locs) (hl : lv_has ls 7 [(0, .ref b), (1, .ref A.1), (2, .ref B.1), (3, .ref ho), (4, .int i)])
    (cont : ∀ (V : CV) (H : Heap) (locs : List Loc) (ls : Array Slot), va_P D vwCl (lwW D cI A B ho V S9) H → va_D (lA s) (lwW D cI A B ho V S9) → va_S (lA s) s.heap H locs → lv_has ls 7 [(0, .ref b), (1, .ref A.1), (2, .ref B.1), (3, .ref ho), (4, .int i)] → W p l e R s m args below meth c H locs S9.2.2.2.1 S9.2.2.2.2 Q (F0 m 1521 ls [])) : W p l e R s m args below meth c H locs S.2.2.2.1 S.2.2.2.2 Q (F0 m 314 ls []) := by
  obtain ⟨hx, hb, hml, hts, hcx, hown, hK, hX, hXs, hbl, hlt, hfr, hlo⟩ := hC
  have hbA : ¬ lA s b := Nat.not_le.mpr hbl
  have hA : ∀ q : Nat, s.heap.size ≤ q → lA s q := fun q h => h
  obtain ⟨u, hu, hf⟩ := bd_some hf
  obtain ⟨v, hv, hf⟩ := bd_some hf
  obtain ⟨t, ht, hf⟩ := bd_some hf
  by_cases h1 : t.1 = u.1
  case neg => cases ((if_neg h1).symm.trans hf)
  have hf := (if_pos h1).symm.trans hf
  by_cases h2 : u.1 = 0
  · have hf := (if_pos h2).symm.trans hf
    by_cases h3 : lg_cmp (u.2.1 0) v.1.toInt64 = 0
    case neg => cases ((if_neg h3).symm.trans hf)
    obtain rfl := Option.some.inj ((if_pos h3).symm.trans hf)
    refine lv_aload_n hx hb dLaw_314 rfl (lv_at hl 1 rfl) ?_
    refine lv_aload_n hx hb dLaw_315 rfl (lv_at hl 0 rfl) ?_
    refine lv_iload hx hb dLaw_316 (lv_at hl 4 rfl) ?_
    refine lv_iconst (v := 1) hx hb dLaw_318 (by decide) ?_
    refine lv_iadd hx hb dLaw_319 ?_
    refine va_sld (A := lA s) hx hb hXs hbl hbA hS (hin 1 (by decide)) dLaw_320 ?_
    refine lv_aload_n hx hb dLaw_321 rfl (lv_at hl 3 rfl) ?_
    refine z_cinF (ws1 := fun V => lwW D cI A B ho V (u.2.2, S.2.1, u.2.1, S.2.2.2)) (fr := rfw cI B S.2.1) (z_rSW (rest := []) (fr := rfw cI B S.2.1) (ws := lwW D cI A B ho V (S.1, S.2.1, S.2.2.1, S.2.2.2)) (As := [.ref A.1, .int (xs (i + 1).toNatClampNeg), .ref ho]) hx hb hml hown hcx hl.1 (h_count l hlt D cI A ho V S.1 S.2.2.1 (xs (i + 1).toNatClampNeg) u hu _) tl_L_91 ts_L_count tn_L tc_L_count tm_L_count rfl rfl ⟨Nat.le_trans (Nat.le_of_ble_eq_true rfl) hfr, Nat.le_trans (Nat.le_of_ble_eq_true rfl) hlo⟩ hK hX hS hA hP hD pq_h rfl rfl (Nat.le_of_ble_eq_true rfl) dLaw_322 ⟨hr.1, hr.2⟩) hP hD hS hA pq_h (fun _ => pq_h) (fun V H locs hP hD hS => ?_)
    refine lv_istore (lv' := [(5, .int u.1), (0, .ref b), (1, .ref A.1), (2, .ref B.1), (3, .ref ho), (4, .int i)]) hx hb dLaw_325 hl (by decide) rfl (fun ls hl => ?_)
    refine lv_aload_n hx hb dLaw_327 rfl (lv_at hl 3 rfl) ?_
    refine lv_aload_n hx hb dLaw_328 rfl (lv_at hl 1 rfl) ?_
    refine lv_iload hx hb dLaw_329 (lv_at hl 5 rfl) ?_
    refine lv_iconst (v := 1) hx hb dLaw_331 (by decide) ?_
    refine lv_iadd hx hb dLaw_332 ?_
    refine va_sld (A := lA s) hx hb hXs hbl hbA hS (hin 1 (by decide)) dLaw_333 ?_
    refine z_ciF (ws1 := lwW D cI A B ho V (u.2.2, v.2, u.2.1, S.2.2.2)) (fr := (ho, .inl (D.1 101, 1, .inr (.inl u.2.1))) :: cw D cI A V u.2.2) (z_rVF (rest := []) (fr := (ho, .inl (D.1 101, 1, .inr (.inl u.2.1))) :: cw D cI A V u.2.2) (ws := lwW D cI A B ho V (u.2.2, S.2.1, u.2.1, S.2.2.2)) (ci := 12) (b := B.1) (As := [.int (xs (i + 1).toNatClampNeg)]) hx hb hml hown hcx hl.1 (kM_count l D cI B S.2.1 (xs (i + 1).toNatClampNeg) v hv _) tl_L_93 ti_X12_count tz_X12_count tn_X12 tc_X12_count tm_X12_count rfl rfl ⟨Nat.le_trans (Nat.le_of_ble_eq_true rfl) hfr, Nat.le_trans (Nat.le_of_ble_eq_true rfl) hlo⟩ hK hX hS hA hP hD pq_m ml_root rfl rfl rfl (Nat.le_of_ble_eq_true rfl) dLaw_334 ⟨hr.1, hr.2⟩) hP hD hS hA pq_m pq_m (fun H locs hP hD hS => ?_)
    refine lv_istore (lv' := [(6, .int v.1), (5, .int u.1), (0, .ref b), (1, .ref A.1), (2, .ref B.1), (3, .ref ho), (4, .int i)]) hx hb dLaw_337 hl (by decide) rfl (fun ls hl => ?_)
    refine lv_aload_n hx hb dLaw_339 rfl (lv_at hl 4 rfl) ?_
    refine z_ciF (ws1 := lwW D cI A B ho V (u.2.2, t.2, u.2.1, S.2.2.2)) (fr := (ho, .inl (D.1 101, 1, .inr (.inl u.2.1))) :: cw D cI A V u.2.2) (z_rVF (rest := []) (fr := (ho, .inl (D.1 101, 1, .inr (.inl u.2.1))) :: cw D cI A V u.2.2) (ws := lwW D cI A B ho V (u.2.2, v.2, u.2.1, S.2.2.2)) (ci := 12) (b := B.1) (As := []) hx hb hml hown hcx hl.1 (kM_thrown l D cI B v.2 t ht _) tl_L_83 ti_X12_thrown tz_X12_thrown tn_X12 tc_X12_thrown tm_X12_thrown rfl rfl ⟨Nat.le_trans (Nat.le_of_ble_eq_true rfl) hfr, Nat.le_trans (Nat.le_of_ble_eq_true rfl) hlo⟩ hK hX hS hA hP hD pq_m ml_root rfl rfl rfl (Nat.le_of_ble_eq_true rfl) dLaw_340 ⟨hr.1, hr.2⟩) hP hD hS hA pq_m pq_m (fun H locs hP hD hS => ?_)
    refine lv_iload hx hb dLaw_343 (lv_at hl 1 rfl) ?_
    refine lv_icmp_eq (tgt := 350) hx hb dLaw_345 (by decide) (fun _ => ?_) (fun h9 => absurd h1 h9)
    refine lv_iload hx hb dLaw_350 (lv_at hl 1 rfl) ?_
    refine lv_if_ne (tgt := 367) hx hb dLaw_352 (by decide) (fun h9 => absurd h2 h9) (fun _ => ?_)
    refine lv_aload_n hx hb dLaw_355 rfl (lv_at hl 5 rfl) ?_
    refine lv_iconst (v := 0) hx hb dLaw_356 (by decide) ?_
    refine va_lald (a := ho) hx hb hK.1 hP 0 2 rfl rfl (i := 0) vp_in01 dLaw_357 ?_
    refine lv_iload hx hb dLaw_358 (lv_at hl 0 rfl) ?_
    refine lv_i2l hx hb dLaw_360 rfl ?_
    refine W.lcmp hx hb dLaw_361 ?_
    refine lv_if_eq (tgt := 367) hx hb dLaw_362 (by decide) (fun _ => ?_) (fun h9 => absurd h3 h9)
    refine lv_goto (tgt := 1521) hx hb dLaw_367 (by decide) ?_
    exact cont V _ _ _ hP hD hS (lv_sub hl [2, 3, 4, 5, 6] rfl)
  · obtain rfl := Option.some.inj ((if_neg h2).symm.trans hf)
    refine lv_aload_n hx hb dLaw_314 rfl (lv_at hl 1 rfl) ?_
    refine lv_aload_n hx hb dLaw_315 rfl (lv_at hl 0 rfl) ?_
    refine lv_iload hx hb dLaw_316 (lv_at hl 4 rfl) ?_
    refine lv_iconst (v := 1) hx hb dLaw_318 (by decide) ?_
    refine lv_iadd hx hb dLaw_319 ?_
    refine va_sld (A := lA s) hx hb hXs hbl hbA hS (hin 1 (by decide)) dLaw_320 ?_
    refine lv_aload_n hx hb dLaw_321 rfl (lv_at hl 3 rfl) ?_
    refine z_cinF (ws1 := fun V => lwW D cI A B ho V (u.2.2, S.2.1, u.2.1, S.2.2.2)) (fr := rfw cI B S.2.1) (z_rSW (rest := []) (fr := rfw cI B S.2.1) (ws := lwW D cI A B ho V (S.1, S.2.1, S.2.2.1, S.2.2.2)) (As := [.ref A.1, .int (xs (i + 1).toNatClampNeg), .ref ho]) hx hb hml hown hcx hl.1 (h_count l hlt D cI A ho V S.1 S.2.2.1 (xs (i + 1).toNatClampNeg) u hu _) tl_L_91 ts_L_count tn_L tc_L_count tm_L_count rfl rfl ⟨Nat.le_trans (Nat.le_of_ble_eq_true rfl) hfr, Nat.le_trans (Nat.le_of_ble_eq_true rfl) hlo⟩ hK hX hS hA hP hD pq_h rfl rfl (Nat.le_of_ble_eq_true rfl) dLaw_322 ⟨hr.1, hr.2⟩) hP hD hS hA pq_h (fun _ => pq_h) (fun V H locs hP hD hS => ?_)
    refine lv_istore (lv' := [(5, .int u.1), (0, .ref b), (1, .ref A.1), (2, .ref B.1), (3, .ref ho), (4, .int i)]) hx hb dLaw_325 hl (by decide) rfl (fun ls hl => ?_)
    refine lv_aload_n hx hb dLaw_327 rfl (lv_at hl 3 rfl) ?_
    refine lv_aload_n hx hb dLaw_328 rfl (lv_at hl 1 rfl) ?_
    refine lv_iload hx hb dLaw_329 (lv_at hl 5 rfl) ?_
    refine lv_iconst (v := 1) hx hb dLaw_331 (by decide) ?_
    refine lv_iadd hx hb dLaw_332 ?_
    refine va_sld (A := lA s) hx hb hXs hbl hbA hS (hin 1 (by decide)) dLaw_333 ?_
    refine z_ciF (ws1 := lwW D cI A B ho V (u.2.2, v.2, u.2.1, S.2.2.2)) (fr := (ho, .inl (D.1 101, 1, .inr (.inl u.2.1))) :: cw D cI A V u.2.2) (z_rVF (rest := []) (fr := (ho, .inl (D.1 101, 1, .inr (.inl u.2.1))) :: cw D cI A V u.2.2) (ws := lwW D cI A B ho V (u.2.2, S.2.1, u.2.1, S.2.2.2)) (ci := 12) (b := B.1) (As := [.int (xs (i + 1).toNatClampNeg)]) hx hb hml hown hcx hl.1 (kM_count l D cI B S.2.1 (xs (i + 1).toNatClampNeg) v hv _) tl_L_93 ti_X12_count tz_X12_count tn_X12 tc_X12_count tm_X12_count rfl rfl ⟨Nat.le_trans (Nat.le_of_ble_eq_true rfl) hfr, Nat.le_trans (Nat.le_of_ble_eq_true rfl) hlo⟩ hK hX hS hA hP hD pq_m ml_root rfl rfl rfl (Nat.le_of_ble_eq_true rfl) dLaw_334 ⟨hr.1, hr.2⟩) hP hD hS hA pq_m pq_m (fun H locs hP hD hS => ?_)
    refine lv_istore (lv' := [(6, .int v.1), (5, .int u.1), (0, .ref b), (1, .ref A.1), (2, .ref B.1), (3, .ref ho), (4, .int i)]) hx hb dLaw_337 hl (by decide) rfl (fun ls hl => ?_)
    refine lv_aload_n hx hb dLaw_339 rfl (lv_at hl 4 rfl) ?_
    refine z_ciF (ws1 := lwW D cI A B ho V (u.2.2, t.2, u.2.1, S.2.2.2)) (fr := (ho, .inl (D.1 101, 1, .inr (.inl u.2.1))) :: cw D cI A V u.2.2) (z_rVF (rest := []) (fr := (ho, .inl (D.1 101, 1, .inr (.inl u.2.1))) :: cw D cI A V u.2.2) (ws := lwW D cI A B ho V (u.2.2, v.2, u.2.1, S.2.2.2)) (ci := 12) (b := B.1) (As := []) hx hb hml hown hcx hl.1 (kM_thrown l D cI B v.2 t ht _) tl_L_83 ti_X12_thrown tz_X12_thrown tn_X12 tc_X12_thrown tm_X12_thrown rfl rfl ⟨Nat.le_trans (Nat.le_of_ble_eq_true rfl) hfr, Nat.le_trans (Nat.le_of_ble_eq_true rfl) hlo⟩ hK hX hS hA hP hD pq_m ml_root rfl rfl rfl (Nat.le_of_ble_eq_true rfl) dLaw_340 ⟨hr.1, hr.2⟩) hP hD hS hA pq_m pq_m (fun H locs hP hD hS => ?_)
    refine lv_iload hx hb dLaw_343 (lv_at hl 1 rfl) ?_
    refine lv_icmp_eq (tgt := 350) hx hb dLaw_345 (by decide) (fun _ => ?_) (fun h9 => absurd h1 h9)
    refine lv_iload hx hb dLaw_350 (lv_at hl 1 rfl) ?_
    refine lv_if_ne (tgt := 367) hx hb dLaw_352 (by decide) (fun _ => ?_) (fun h9 => absurd h9 h2)
    refine lv_goto (tgt := 1521) hx hb dLaw_367 (by decide) ?_
    exact cont V _ _ _ hP hD hS (lv_sub hl [2, 3, 4, 5, 6] rfl)
def sL_word (S : LwS) (a1 : Int32) (a2 : Int32) (a3 : Int32) (a4 : Int32) (a5 : Int32) : Option LwS := bd (pL_word S.1 S.2.2.1 a1 (if a2 = 0 then 0 else 1)) fun u => bd (pM_word S.2.1 a1 (if a2 = 0 then 0 else 1)) fun v => bd (pM_thrown v.2) fun t => if t.1 = u.1 then (if u.1 = 0 then (if lg_cmp (u.2.1 0) v.1.toInt64 = 0 then some (u.2.2, t.2, u.2.1, S.2.2.2.1 + 1, S.2.2.2.2 + 6) else none) else some (u.2.2, t.2, u.2.1, S.2.2.2.1 + 1, S.2.2.2.2 + 6)) else none
set_option maxHeartbeats 4000000 in
set_option maxRecDepth 100000 in
theorem lc_word {p : Program} {l : Launch} {e : Env} {R : Room} {s : State} {m : MethodId} {args : Array Value} {below : List Frame} {meth : Method} {c : Code} {Q : State → Prop} {D : va_G} {cI : ClassId} {cx : Cond} {b L : Nat} {xs : Nat → Int32} (hC : LawCtx p l R s m args c D cI cx b L xs) (A : CAd) (B : Nat × (Nat → Nat)) (ho : Nat) (V : CV) (S S9 : LwS) (i : Int32) (hin : ∀ j : Int32, j ∈ ([1, 2, 3, 4, 5] : List Int32) → vp_in (i + j) L) (hf : sL_word S (xs (i + 1).toNatClampNeg) (xs (i + 2).toNatClampNeg) (xs (i + 3).toNatClampNeg) (xs (i + 4).toNatClampNeg) (xs (i + 5).toNatClampNeg) = some S9) (hr : S9.2.2.2.1 ≤ R.cells ∧ S9.2.2.2.2 ≤ R.slots) {H : Heap} {locs : List Loc} {ls : Array Slot} (hP : va_P D vwCl (lwW D cI A B ho V S) H) (hD : va_D (lA s) (lwW D cI A B ho V S)) (hS : va_S (lA s) s.heap H locs) (hl : lv_has ls 7 [(0, .ref b), (1, .ref A.1), (2, .ref B.1), (3, .ref ho), (4, .int i)])
    (cont : ∀ (V : CV) (H : Heap) (locs : List Loc) (ls : Array Slot), va_P D vwCl (lwW D cI A B ho V S9) H → va_D (lA s) (lwW D cI A B ho V S9) → va_S (lA s) s.heap H locs → lv_has ls 7 [(0, .ref b), (1, .ref A.1), (2, .ref B.1), (3, .ref ho), (4, .int i)] → W p l e R s m args below meth c H locs S9.2.2.2.1 S9.2.2.2.2 Q (F0 m 1521 ls [])) : W p l e R s m args below meth c H locs S.2.2.2.1 S.2.2.2.2 Q (F0 m 370 ls []) := by
  obtain ⟨hx, hb, hml, hts, hcx, hown, hK, hX, hXs, hbl, hlt, hfr, hlo⟩ := hC
  have hbA : ¬ lA s b := Nat.not_le.mpr hbl
  have hA : ∀ q : Nat, s.heap.size ≤ q → lA s q := fun q h => h
  obtain ⟨u, hu, hf⟩ := bd_some hf
  obtain ⟨v, hv, hf⟩ := bd_some hf
  obtain ⟨t, ht, hf⟩ := bd_some hf
  by_cases h1 : t.1 = u.1
  case neg => cases ((if_neg h1).symm.trans hf)
  have hf := (if_pos h1).symm.trans hf
  by_cases hb0 : (xs (i + 2).toNatClampNeg) = 0
  · rw [if_pos hb0] at hu hv
    by_cases h2 : u.1 = 0
    · have hf := (if_pos h2).symm.trans hf
      by_cases h3 : lg_cmp (u.2.1 0) v.1.toInt64 = 0
      case neg => cases ((if_neg h3).symm.trans hf)
      obtain rfl := Option.some.inj ((if_pos h3).symm.trans hf)
      refine lv_aload_n hx hb dLaw_370 rfl (lv_at hl 1 rfl) ?_
      refine lv_aload_n hx hb dLaw_371 rfl (lv_at hl 0 rfl) ?_
      refine lv_iload hx hb dLaw_372 (lv_at hl 4 rfl) ?_
      refine lv_iconst (v := 1) hx hb dLaw_374 (by decide) ?_
      refine lv_iadd hx hb dLaw_375 ?_
      refine va_sld (A := lA s) hx hb hXs hbl hbA hS (hin 1 (by decide)) dLaw_376 ?_
      refine lv_aload_n hx hb dLaw_377 rfl (lv_at hl 0 rfl) ?_
      refine lv_iload hx hb dLaw_378 (lv_at hl 4 rfl) ?_
      refine lv_iconst (v := 2) hx hb dLaw_380 (by decide) ?_
      refine lv_iadd hx hb dLaw_381 ?_
      refine va_sld (A := lA s) hx hb hXs hbl hbA hS (hin 2 (by decide)) dLaw_382 ?_
      refine lv_if_eq (tgt := 390) hx hb dLaw_383 (by decide) (fun _ => ?_) (fun h9 => absurd hb0 h9)
      refine lv_iconst (v := 0) hx hb dLaw_390 (by decide) ?_
      refine lv_aload_n hx hb dLaw_391 rfl (lv_at hl 3 rfl) ?_
      refine z_cinF (ws1 := fun V => lwW D cI A B ho V (u.2.2, S.2.1, u.2.1, S.2.2.2)) (fr := rfw cI B S.2.1) (z_rSW (rest := []) (fr := rfw cI B S.2.1) (ws := lwW D cI A B ho V (S.1, S.2.1, S.2.2.1, S.2.2.2)) (As := [.ref A.1, .int (xs (i + 1).toNatClampNeg), .int 0, .ref ho]) hx hb hml hown hcx hl.1 (h_word l hlt D cI A ho V S.1 S.2.2.1 (xs (i + 1).toNatClampNeg) 0 u hu _) tl_L_94 ts_L_word tn_L tc_L_word tm_L_word rfl rfl ⟨Nat.le_trans (Nat.le_of_ble_eq_true rfl) hfr, Nat.le_trans (Nat.le_of_ble_eq_true rfl) hlo⟩ hK hX hS hA hP hD pq_h rfl rfl (Nat.le_of_ble_eq_true rfl) dLaw_392 ⟨hr.1, hr.2⟩) hP hD hS hA pq_h (fun _ => pq_h) (fun V H locs hP hD hS => ?_)
      refine lv_istore (lv' := [(5, .int u.1), (0, .ref b), (1, .ref A.1), (2, .ref B.1), (3, .ref ho), (4, .int i)]) hx hb dLaw_395 hl (by decide) rfl (fun ls hl => ?_)
      refine lv_aload_n hx hb dLaw_397 rfl (lv_at hl 3 rfl) ?_
      refine lv_aload_n hx hb dLaw_398 rfl (lv_at hl 1 rfl) ?_
      refine lv_iload hx hb dLaw_399 (lv_at hl 5 rfl) ?_
      refine lv_iconst (v := 1) hx hb dLaw_401 (by decide) ?_
      refine lv_iadd hx hb dLaw_402 ?_
      refine va_sld (A := lA s) hx hb hXs hbl hbA hS (hin 1 (by decide)) dLaw_403 ?_
      refine lv_aload_n hx hb dLaw_404 rfl (lv_at hl 1 rfl) ?_
      refine lv_iload hx hb dLaw_405 (lv_at hl 5 rfl) ?_
      refine lv_iconst (v := 2) hx hb dLaw_407 (by decide) ?_
      refine lv_iadd hx hb dLaw_408 ?_
      refine va_sld (A := lA s) hx hb hXs hbl hbA hS (hin 2 (by decide)) dLaw_409 ?_
      refine lv_if_eq (tgt := 417) hx hb dLaw_410 (by decide) (fun _ => ?_) (fun h9 => absurd hb0 h9)
      refine lv_iconst (v := 0) hx hb dLaw_417 (by decide) ?_
      refine z_ciF (ws1 := lwW D cI A B ho V (u.2.2, v.2, u.2.1, S.2.2.2)) (fr := (ho, .inl (D.1 101, 1, .inr (.inl u.2.1))) :: cw D cI A V u.2.2) (z_rVF (rest := []) (fr := (ho, .inl (D.1 101, 1, .inr (.inl u.2.1))) :: cw D cI A V u.2.2) (ws := lwW D cI A B ho V (u.2.2, S.2.1, u.2.1, S.2.2.2)) (ci := 12) (b := B.1) (As := [.int (xs (i + 1).toNatClampNeg), .int 0]) hx hb hml hown hcx hl.1 (kM_word l D cI B S.2.1 (xs (i + 1).toNatClampNeg) 0 v hv _) tl_L_97 ti_X12_word tz_X12_word tn_X12 tc_X12_word tm_X12_word rfl rfl ⟨Nat.le_trans (Nat.le_of_ble_eq_true rfl) hfr, Nat.le_trans (Nat.le_of_ble_eq_true rfl) hlo⟩ hK hX hS hA hP hD pq_m ml_root rfl rfl rfl (Nat.le_of_ble_eq_true rfl) dLaw_418 ⟨hr.1, hr.2⟩) hP hD hS hA pq_m pq_m (fun H locs hP hD hS => ?_)
      refine lv_istore (lv' := [(6, .int v.1), (5, .int u.1), (0, .ref b), (1, .ref A.1), (2, .ref B.1), (3, .ref ho), (4, .int i)]) hx hb dLaw_421 hl (by decide) rfl (fun ls hl => ?_)
      refine lv_aload_n hx hb dLaw_423 rfl (lv_at hl 4 rfl) ?_
      refine z_ciF (ws1 := lwW D cI A B ho V (u.2.2, t.2, u.2.1, S.2.2.2)) (fr := (ho, .inl (D.1 101, 1, .inr (.inl u.2.1))) :: cw D cI A V u.2.2) (z_rVF (rest := []) (fr := (ho, .inl (D.1 101, 1, .inr (.inl u.2.1))) :: cw D cI A V u.2.2) (ws := lwW D cI A B ho V (u.2.2, v.2, u.2.1, S.2.2.2)) (ci := 12) (b := B.1) (As := []) hx hb hml hown hcx hl.1 (kM_thrown l D cI B v.2 t ht _) tl_L_83 ti_X12_thrown tz_X12_thrown tn_X12 tc_X12_thrown tm_X12_thrown rfl rfl ⟨Nat.le_trans (Nat.le_of_ble_eq_true rfl) hfr, Nat.le_trans (Nat.le_of_ble_eq_true rfl) hlo⟩ hK hX hS hA hP hD pq_m ml_root rfl rfl rfl (Nat.le_of_ble_eq_true rfl) dLaw_424 ⟨hr.1, hr.2⟩) hP hD hS hA pq_m pq_m (fun H locs hP hD hS => ?_)
      refine lv_iload hx hb dLaw_427 (lv_at hl 1 rfl) ?_
      refine lv_icmp_eq (tgt := 434) hx hb dLaw_429 (by decide) (fun _ => ?_) (fun h9 => absurd h1 h9)
      refine lv_iload hx hb dLaw_434 (lv_at hl 1 rfl) ?_
      refine lv_if_ne (tgt := 451) hx hb dLaw_436 (by decide) (fun h9 => absurd h2 h9) (fun _ => ?_)
      refine lv_aload_n hx hb dLaw_439 rfl (lv_at hl 5 rfl) ?_
      refine lv_iconst (v := 0) hx hb dLaw_440 (by decide) ?_
      refine va_lald (a := ho) hx hb hK.1 hP 0 2 rfl rfl (i := 0) vp_in01 dLaw_441 ?_
      refine lv_iload hx hb dLaw_442 (lv_at hl 0 rfl) ?_
      refine lv_i2l hx hb dLaw_444 rfl ?_
      refine W.lcmp hx hb dLaw_445 ?_
      refine lv_if_eq (tgt := 451) hx hb dLaw_446 (by decide) (fun _ => ?_) (fun h9 => absurd h3 h9)
      refine lv_goto (tgt := 1521) hx hb dLaw_451 (by decide) ?_
      exact cont V _ _ _ hP hD hS (lv_sub hl [2, 3, 4, 5, 6] rfl)
    · obtain rfl := Option.some.inj ((if_neg h2).symm.trans hf)
      refine lv_aload_n hx hb dLaw_370 rfl (lv_at hl 1 rfl) ?_
      refine lv_aload_n hx hb dLaw_371 rfl (lv_at hl 0 rfl) ?_
      refine lv_iload hx hb dLaw_372 (lv_at hl 4 rfl) ?_
      refine lv_iconst (v := 1) hx hb dLaw_374 (by decide) ?_
      refine lv_iadd hx hb dLaw_375 ?_
      refine va_sld (A := lA s) hx hb hXs hbl hbA hS (hin 1 (by decide)) dLaw_376 ?_
      refine lv_aload_n hx hb dLaw_377 rfl (lv_at hl 0 rfl) ?_
      refine lv_iload hx hb dLaw_378 (lv_at hl 4 rfl) ?_
      refine lv_iconst (v := 2) hx hb dLaw_380 (by decide) ?_
      refine lv_iadd hx hb dLaw_381 ?_
      refine va_sld (A := lA s) hx hb hXs hbl hbA hS (hin 2 (by decide)) dLaw_382 ?_
      refine lv_if_eq (tgt := 390) hx hb dLaw_383 (by decide) (fun _ => ?_) (fun h9 => absurd hb0 h9)
      refine lv_iconst (v := 0) hx hb dLaw_390 (by decide) ?_
      refine lv_aload_n hx hb dLaw_391 rfl (lv_at hl 3 rfl) ?_
      refine z_cinF (ws1 := fun V => lwW D cI A B ho V (u.2.2, S.2.1, u.2.1, S.2.2.2)) (fr := rfw cI B S.2.1) (z_rSW (rest := []) (fr := rfw cI B S.2.1) (ws := lwW D cI A B ho V (S.1, S.2.1, S.2.2.1, S.2.2.2)) (As := [.ref A.1, .int (xs (i + 1).toNatClampNeg), .int 0, .ref ho]) hx hb hml hown hcx hl.1 (h_word l hlt D cI A ho V S.1 S.2.2.1 (xs (i + 1).toNatClampNeg) 0 u hu _) tl_L_94 ts_L_word tn_L tc_L_word tm_L_word rfl rfl ⟨Nat.le_trans (Nat.le_of_ble_eq_true rfl) hfr, Nat.le_trans (Nat.le_of_ble_eq_true rfl) hlo⟩ hK hX hS hA hP hD pq_h rfl rfl (Nat.le_of_ble_eq_true rfl) dLaw_392 ⟨hr.1, hr.2⟩) hP hD hS hA pq_h (fun _ => pq_h) (fun V H locs hP hD hS => ?_)
      refine lv_istore (lv' := [(5, .int u.1), (0, .ref b), (1, .ref A.1), (2, .ref B.1), (3, .ref ho), (4, .int i)]) hx hb dLaw_395 hl (by decide) rfl (fun ls hl => ?_)
      refine lv_aload_n hx hb dLaw_397 rfl (lv_at hl 3 rfl) ?_
      refine lv_aload_n hx hb dLaw_398 rfl (lv_at hl 1 rfl) ?_
      refine lv_iload hx hb dLaw_399 (lv_at hl 5 rfl) ?_
      refine lv_iconst (v := 1) hx hb dLaw_401 (by decide) ?_
      refine lv_iadd hx hb dLaw_402 ?_
      refine va_sld (A := lA s) hx hb hXs hbl hbA hS (hin 1 (by decide)) dLaw_403 ?_
      refine lv_aload_n hx hb dLaw_404 rfl (lv_at hl 1 rfl) ?_
      refine lv_iload hx hb dLaw_405 (lv_at hl 5 rfl) ?_
      refine lv_iconst (v := 2) hx hb dLaw_407 (by decide) ?_
      refine lv_iadd hx hb dLaw_408 ?_
      refine va_sld (A := lA s) hx hb hXs hbl hbA hS (hin 2 (by decide)) dLaw_409 ?_
      refine lv_if_eq (tgt := 417) hx hb dLaw_410 (by decide) (fun _ => ?_) (fun h9 => absurd hb0 h9)
      refine lv_iconst (v := 0) hx hb dLaw_417 (by decide) ?_
      refine z_ciF (ws1 := lwW D cI A B ho V (u.2.2, v.2, u.2.1, S.2.2.2)) (fr := (ho, .inl (D.1 101, 1, .inr (.inl u.2.1))) :: cw D cI A V u.2.2) (z_rVF (rest := []) (fr := (ho, .inl (D.1 101, 1, .inr (.inl u.2.1))) :: cw D cI A V u.2.2) (ws := lwW D cI A B ho V (u.2.2, S.2.1, u.2.1, S.2.2.2)) (ci := 12) (b := B.1) (As := [.int (xs (i + 1).toNatClampNeg), .int 0]) hx hb hml hown hcx hl.1 (kM_word l D cI B S.2.1 (xs (i + 1).toNatClampNeg) 0 v hv _) tl_L_97 ti_X12_word tz_X12_word tn_X12 tc_X12_word tm_X12_word rfl rfl ⟨Nat.le_trans (Nat.le_of_ble_eq_true rfl) hfr, Nat.le_trans (Nat.le_of_ble_eq_true rfl) hlo⟩ hK hX hS hA hP hD pq_m ml_root rfl rfl rfl (Nat.le_of_ble_eq_true rfl) dLaw_418 ⟨hr.1, hr.2⟩) hP hD hS hA pq_m pq_m (fun H locs hP hD hS => ?_)
      refine lv_istore (lv' := [(6, .int v.1), (5, .int u.1), (0, .ref b), (1, .ref A.1), (2, .ref B.1), (3, .ref ho), (4, .int i)]) hx hb dLaw_421 hl (by decide) rfl (fun ls hl => ?_)
      refine lv_aload_n hx hb dLaw_423 rfl (lv_at hl 4 rfl) ?_
      refine z_ciF (ws1 := lwW D cI A B ho V (u.2.2, t.2, u.2.1, S.2.2.2)) (fr := (ho, .inl (D.1 101, 1, .inr (.inl u.2.1))) :: cw D cI A V u.2.2) (z_rVF (rest := []) (fr := (ho, .inl (D.1 101, 1, .inr (.inl u.2.1))) :: cw D cI A V u.2.2) (ws := lwW D cI A B ho V (u.2.2, v.2, u.2.1, S.2.2.2)) (ci := 12) (b := B.1) (As := []) hx hb hml hown hcx hl.1 (kM_thrown l D cI B v.2 t ht _) tl_L_83 ti_X12_thrown tz_X12_thrown tn_X12 tc_X12_thrown tm_X12_thrown rfl rfl ⟨Nat.le_trans (Nat.le_of_ble_eq_true rfl) hfr, Nat.le_trans (Nat.le_of_ble_eq_true rfl) hlo⟩ hK hX hS hA hP hD pq_m ml_root rfl rfl rfl (Nat.le_of_ble_eq_true rfl) dLaw_424 ⟨hr.1, hr.2⟩) hP hD hS hA pq_m pq_m (fun H locs hP hD hS => ?_)
      refine lv_iload hx hb dLaw_427 (lv_at hl 1 rfl) ?_
      refine lv_icmp_eq (tgt := 434) hx hb dLaw_429 (by decide) (fun _ => ?_) (fun h9 => absurd h1 h9)
      refine lv_iload hx hb dLaw_434 (lv_at hl 1 rfl) ?_
      refine lv_if_ne (tgt := 451) hx hb dLaw_436 (by decide) (fun _ => ?_) (fun h9 => absurd h9 h2)
      refine lv_goto (tgt := 1521) hx hb dLaw_451 (by decide) ?_
      exact cont V _ _ _ hP hD hS (lv_sub hl [2, 3, 4, 5, 6] rfl)
  · rw [if_neg hb0] at hu hv
    by_cases h2 : u.1 = 0
    · have hf := (if_pos h2).symm.trans hf
      by_cases h3 : lg_cmp (u.2.1 0) v.1.toInt64 = 0
      case neg => cases ((if_neg h3).symm.trans hf)
      obtain rfl := Option.some.inj ((if_pos h3).symm.trans hf)
      refine lv_aload_n hx hb dLaw_370 rfl (lv_at hl 1 rfl) ?_
      refine lv_aload_n hx hb dLaw_371 rfl (lv_at hl 0 rfl) ?_
      refine lv_iload hx hb dLaw_372 (lv_at hl 4 rfl) ?_
      refine lv_iconst (v := 1) hx hb dLaw_374 (by decide) ?_
      refine lv_iadd hx hb dLaw_375 ?_
      refine va_sld (A := lA s) hx hb hXs hbl hbA hS (hin 1 (by decide)) dLaw_376 ?_
      refine lv_aload_n hx hb dLaw_377 rfl (lv_at hl 0 rfl) ?_
      refine lv_iload hx hb dLaw_378 (lv_at hl 4 rfl) ?_
      refine lv_iconst (v := 2) hx hb dLaw_380 (by decide) ?_
      refine lv_iadd hx hb dLaw_381 ?_
      refine va_sld (A := lA s) hx hb hXs hbl hbA hS (hin 2 (by decide)) dLaw_382 ?_
      refine lv_if_eq (tgt := 390) hx hb dLaw_383 (by decide) (fun h9 => absurd h9 hb0) (fun _ => ?_)
      refine lv_iconst (v := 1) hx hb dLaw_386 (by decide) ?_
      refine lv_goto (tgt := 391) hx hb dLaw_387 (by decide) ?_
      refine lv_aload_n hx hb dLaw_391 rfl (lv_at hl 3 rfl) ?_
      refine z_cinF (ws1 := fun V => lwW D cI A B ho V (u.2.2, S.2.1, u.2.1, S.2.2.2)) (fr := rfw cI B S.2.1) (z_rSW (rest := []) (fr := rfw cI B S.2.1) (ws := lwW D cI A B ho V (S.1, S.2.1, S.2.2.1, S.2.2.2)) (As := [.ref A.1, .int (xs (i + 1).toNatClampNeg), .int 1, .ref ho]) hx hb hml hown hcx hl.1 (h_word l hlt D cI A ho V S.1 S.2.2.1 (xs (i + 1).toNatClampNeg) 1 u hu _) tl_L_94 ts_L_word tn_L tc_L_word tm_L_word rfl rfl ⟨Nat.le_trans (Nat.le_of_ble_eq_true rfl) hfr, Nat.le_trans (Nat.le_of_ble_eq_true rfl) hlo⟩ hK hX hS hA hP hD pq_h rfl rfl (Nat.le_of_ble_eq_true rfl) dLaw_392 ⟨hr.1, hr.2⟩) hP hD hS hA pq_h (fun _ => pq_h) (fun V H locs hP hD hS => ?_)
      refine lv_istore (lv' := [(5, .int u.1), (0, .ref b), (1, .ref A.1), (2, .ref B.1), (3, .ref ho), (4, .int i)]) hx hb dLaw_395 hl (by decide) rfl (fun ls hl => ?_)
      refine lv_aload_n hx hb dLaw_397 rfl (lv_at hl 3 rfl) ?_
      refine lv_aload_n hx hb dLaw_398 rfl (lv_at hl 1 rfl) ?_
      refine lv_iload hx hb dLaw_399 (lv_at hl 5 rfl) ?_
      refine lv_iconst (v := 1) hx hb dLaw_401 (by decide) ?_
      refine lv_iadd hx hb dLaw_402 ?_
      refine va_sld (A := lA s) hx hb hXs hbl hbA hS (hin 1 (by decide)) dLaw_403 ?_
      refine lv_aload_n hx hb dLaw_404 rfl (lv_at hl 1 rfl) ?_
      refine lv_iload hx hb dLaw_405 (lv_at hl 5 rfl) ?_
      refine lv_iconst (v := 2) hx hb dLaw_407 (by decide) ?_
      refine lv_iadd hx hb dLaw_408 ?_
      refine va_sld (A := lA s) hx hb hXs hbl hbA hS (hin 2 (by decide)) dLaw_409 ?_
      refine lv_if_eq (tgt := 417) hx hb dLaw_410 (by decide) (fun h9 => absurd h9 hb0) (fun _ => ?_)
      refine lv_iconst (v := 1) hx hb dLaw_413 (by decide) ?_
      refine lv_goto (tgt := 418) hx hb dLaw_414 (by decide) ?_
      refine z_ciF (ws1 := lwW D cI A B ho V (u.2.2, v.2, u.2.1, S.2.2.2)) (fr := (ho, .inl (D.1 101, 1, .inr (.inl u.2.1))) :: cw D cI A V u.2.2) (z_rVF (rest := []) (fr := (ho, .inl (D.1 101, 1, .inr (.inl u.2.1))) :: cw D cI A V u.2.2) (ws := lwW D cI A B ho V (u.2.2, S.2.1, u.2.1, S.2.2.2)) (ci := 12) (b := B.1) (As := [.int (xs (i + 1).toNatClampNeg), .int 1]) hx hb hml hown hcx hl.1 (kM_word l D cI B S.2.1 (xs (i + 1).toNatClampNeg) 1 v hv _) tl_L_97 ti_X12_word tz_X12_word tn_X12 tc_X12_word tm_X12_word rfl rfl ⟨Nat.le_trans (Nat.le_of_ble_eq_true rfl) hfr, Nat.le_trans (Nat.le_of_ble_eq_true rfl) hlo⟩ hK hX hS hA hP hD pq_m ml_root rfl rfl rfl (Nat.le_of_ble_eq_true rfl) dLaw_418 ⟨hr.1, hr.2⟩) hP hD hS hA pq_m pq_m (fun H locs hP hD hS => ?_)
      refine lv_istore (lv' := [(6, .int v.1), (5, .int u.1), (0, .ref b), (1, .ref A.1), (2, .ref B.1), (3, .ref ho), (4, .int i)]) hx hb dLaw_421 hl (by decide) rfl (fun ls hl => ?_)
      refine lv_aload_n hx hb dLaw_423 rfl (lv_at hl 4 rfl) ?_
      refine z_ciF (ws1 := lwW D cI A B ho V (u.2.2, t.2, u.2.1, S.2.2.2)) (fr := (ho, .inl (D.1 101, 1, .inr (.inl u.2.1))) :: cw D cI A V u.2.2) (z_rVF (rest := []) (fr := (ho, .inl (D.1 101, 1, .inr (.inl u.2.1))) :: cw D cI A V u.2.2) (ws := lwW D cI A B ho V (u.2.2, v.2, u.2.1, S.2.2.2)) (ci := 12) (b := B.1) (As := []) hx hb hml hown hcx hl.1 (kM_thrown l D cI B v.2 t ht _) tl_L_83 ti_X12_thrown tz_X12_thrown tn_X12 tc_X12_thrown tm_X12_thrown rfl rfl ⟨Nat.le_trans (Nat.le_of_ble_eq_true rfl) hfr, Nat.le_trans (Nat.le_of_ble_eq_true rfl) hlo⟩ hK hX hS hA hP hD pq_m ml_root rfl rfl rfl (Nat.le_of_ble_eq_true rfl) dLaw_424 ⟨hr.1, hr.2⟩) hP hD hS hA pq_m pq_m (fun H locs hP hD hS => ?_)
      refine lv_iload hx hb dLaw_427 (lv_at hl 1 rfl) ?_
      refine lv_icmp_eq (tgt := 434) hx hb dLaw_429 (by decide) (fun _ => ?_) (fun h9 => absurd h1 h9)
      refine lv_iload hx hb dLaw_434 (lv_at hl 1 rfl) ?_
      refine lv_if_ne (tgt := 451) hx hb dLaw_436 (by decide) (fun h9 => absurd h2 h9) (fun _ => ?_)
      refine lv_aload_n hx hb dLaw_439 rfl (lv_at hl 5 rfl) ?_
      refine lv_iconst (v := 0) hx hb dLaw_440 (by decide) ?_
      refine va_lald (a := ho) hx hb hK.1 hP 0 2 rfl rfl (i := 0) vp_in01 dLaw_441 ?_
      refine lv_iload hx hb dLaw_442 (lv_at hl 0 rfl) ?_
      refine lv_i2l hx hb dLaw_444 rfl ?_
      refine W.lcmp hx hb dLaw_445 ?_
      refine lv_if_eq (tgt := 451) hx hb dLaw_446 (by decide) (fun _ => ?_) (fun h9 => absurd h3 h9)
      refine lv_goto (tgt := 1521) hx hb dLaw_451 (by decide) ?_
      exact cont V _ _ _ hP hD hS (lv_sub hl [2, 3, 4, 5, 6] rfl)
    · obtain rfl := Option.some.inj ((if_neg h2).symm.trans hf)
      refine lv_aload_n hx hb dLaw_370 rfl (lv_at hl 1 rfl) ?_
      refine lv_aload_n hx hb dLaw_371 rfl (lv_at hl 0 rfl) ?_
      refine lv_iload hx hb dLaw_372 (lv_at hl 4 rfl) ?_
      refine lv_iconst (v := 1) hx hb dLaw_374 (by decide) ?_
      refine lv_iadd hx hb dLaw_375 ?_
      refine va_sld (A := lA s) hx hb hXs hbl hbA hS (hin 1 (by decide)) dLaw_376 ?_
      refine lv_aload_n hx hb dLaw_377 rfl (lv_at hl 0 rfl) ?_
      refine lv_iload hx hb dLaw_378 (lv_at hl 4 rfl) ?_
      refine lv_iconst (v := 2) hx hb dLaw_380 (by decide) ?_
      refine lv_iadd hx hb dLaw_381 ?_
      refine va_sld (A := lA s) hx hb hXs hbl hbA hS (hin 2 (by decide)) dLaw_382 ?_
      refine lv_if_eq (tgt := 390) hx hb dLaw_383 (by decide) (fun h9 => absurd h9 hb0) (fun _ => ?_)
      refine lv_iconst (v := 1) hx hb dLaw_386 (by decide) ?_
      refine lv_goto (tgt := 391) hx hb dLaw_387 (by decide) ?_
      refine lv_aload_n hx hb dLaw_391 rfl (lv_at hl 3 rfl) ?_
      refine z_cinF (ws1 := fun V => lwW D cI A B ho V (u.2.2, S.2.1, u.2.1, S.2.2.2)) (fr := rfw cI B S.2.1) (z_rSW (rest := []) (fr := rfw cI B S.2.1) (ws := lwW D cI A B ho V (S.1, S.2.1, S.2.2.1, S.2.2.2)) (As := [.ref A.1, .int (xs (i + 1).toNatClampNeg), .int 1, .ref ho]) hx hb hml hown hcx hl.1 (h_word l hlt D cI A ho V S.1 S.2.2.1 (xs (i + 1).toNatClampNeg) 1 u hu _) tl_L_94 ts_L_word tn_L tc_L_word tm_L_word rfl rfl ⟨Nat.le_trans (Nat.le_of_ble_eq_true rfl) hfr, Nat.le_trans (Nat.le_of_ble_eq_true rfl) hlo⟩ hK hX hS hA hP hD pq_h rfl rfl (Nat.le_of_ble_eq_true rfl) dLaw_392 ⟨hr.1, hr.2⟩) hP hD hS hA pq_h (fun _ => pq_h) (fun V H locs hP hD hS => ?_)
      refine lv_istore (lv' := [(5, .int u.1), (0, .ref b), (1, .ref A.1), (2, .ref B.1), (3, .ref ho), (4, .int i)]) hx hb dLaw_395 hl (by decide) rfl (fun ls hl => ?_)
      refine lv_aload_n hx hb dLaw_397 rfl (lv_at hl 3 rfl) ?_
      refine lv_aload_n hx hb dLaw_398 rfl (lv_at hl 1 rfl) ?_
      refine lv_iload hx hb dLaw_399 (lv_at hl 5 rfl) ?_
      refine lv_iconst (v := 1) hx hb dLaw_401 (by decide) ?_
      refine lv_iadd hx hb dLaw_402 ?_
      refine va_sld (A := lA s) hx hb hXs hbl hbA hS (hin 1 (by decide)) dLaw_403 ?_
      refine lv_aload_n hx hb dLaw_404 rfl (lv_at hl 1 rfl) ?_
      refine lv_iload hx hb dLaw_405 (lv_at hl 5 rfl) ?_
      refine lv_iconst (v := 2) hx hb dLaw_407 (by decide) ?_
      refine lv_iadd hx hb dLaw_408 ?_
      refine va_sld (A := lA s) hx hb hXs hbl hbA hS (hin 2 (by decide)) dLaw_409 ?_
      refine lv_if_eq (tgt := 417) hx hb dLaw_410 (by decide) (fun h9 => absurd h9 hb0) (fun _ => ?_)
      refine lv_iconst (v := 1) hx hb dLaw_413 (by decide) ?_
      refine lv_goto (tgt := 418) hx hb dLaw_414 (by decide) ?_
      refine z_ciF (ws1 := lwW D cI A B ho V (u.2.2, v.2, u.2.1, S.2.2.2)) (fr := (ho, .inl (D.1 101, 1, .inr (.inl u.2.1))) :: cw D cI A V u.2.2) (z_rVF (rest := []) (fr := (ho, .inl (D.1 101, 1, .inr (.inl u.2.1))) :: cw D cI A V u.2.2) (ws := lwW D cI A B ho V (u.2.2, S.2.1, u.2.1, S.2.2.2)) (ci := 12) (b := B.1) (As := [.int (xs (i + 1).toNatClampNeg), .int 1]) hx hb hml hown hcx hl.1 (kM_word l D cI B S.2.1 (xs (i + 1).toNatClampNeg) 1 v hv _) tl_L_97 ti_X12_word tz_X12_word tn_X12 tc_X12_word tm_X12_word rfl rfl ⟨Nat.le_trans (Nat.le_of_ble_eq_true rfl) hfr, Nat.le_trans (Nat.le_of_ble_eq_true rfl) hlo⟩ hK hX hS hA hP hD pq_m ml_root rfl rfl rfl (Nat.le_of_ble_eq_true rfl) dLaw_418 ⟨hr.1, hr.2⟩) hP hD hS hA pq_m pq_m (fun H locs hP hD hS => ?_)
      refine lv_istore (lv' := [(6, .int v.1), (5, .int u.1), (0, .ref b), (1, .ref A.1), (2, .ref B.1), (3, .ref ho), (4, .int i)]) hx hb dLaw_421 hl (by decide) rfl (fun ls hl => ?_)
      refine lv_aload_n hx hb dLaw_423 rfl (lv_at hl 4 rfl) ?_
      refine z_ciF (ws1 := lwW D cI A B ho V (u.2.2, t.2, u.2.1, S.2.2.2)) (fr := (ho, .inl (D.1 101, 1, .inr (.inl u.2.1))) :: cw D cI A V u.2.2) (z_rVF (rest := []) (fr := (ho, .inl (D.1 101, 1, .inr (.inl u.2.1))) :: cw D cI A V u.2.2) (ws := lwW D cI A B ho V (u.2.2, v.2, u.2.1, S.2.2.2)) (ci := 12) (b := B.1) (As := []) hx hb hml hown hcx hl.1 (kM_thrown l D cI B v.2 t ht _) tl_L_83 ti_X12_thrown tz_X12_thrown tn_X12 tc_X12_thrown tm_X12_thrown rfl rfl ⟨Nat.le_trans (Nat.le_of_ble_eq_true rfl) hfr, Nat.le_trans (Nat.le_of_ble_eq_true rfl) hlo⟩ hK hX hS hA hP hD pq_m ml_root rfl rfl rfl (Nat.le_of_ble_eq_true rfl) dLaw_424 ⟨hr.1, hr.2⟩) hP hD hS hA pq_m pq_m (fun H locs hP hD hS => ?_)
      refine lv_iload hx hb dLaw_427 (lv_at hl 1 rfl) ?_
      refine lv_icmp_eq (tgt := 434) hx hb dLaw_429 (by decide) (fun _ => ?_) (fun h9 => absurd h1 h9)
      refine lv_iload hx hb dLaw_434 (lv_at hl 1 rfl) ?_
      refine lv_if_ne (tgt := 451) hx hb dLaw_436 (by decide) (fun _ => ?_) (fun h9 => absurd h9 h2)
      refine lv_goto (tgt := 1521) hx hb dLaw_451 (by decide) ?_
      exact cont V _ _ _ hP hD hS (lv_sub hl [2, 3, 4, 5, 6] rfl)
def sL_line (S : LwS) (a1 : Int32) (a2 : Int32) (a3 : Int32) (a4 : Int32) (a5 : Int32) : Option LwS := bd (pL_line S.1 S.2.2.1 a1 a2) fun u => bd (pM_line S.2.1 a1 a2) fun v => bd (pM_thrown v.2) fun t => if t.1 = u.1 then (if u.1 = 0 then (if lg_cmp (u.2.1 0) v.1.toInt64 = 0 then some (u.2.2, t.2, u.2.1, S.2.2.2.1 + 1, S.2.2.2.2 + 6) else none) else some (u.2.2, t.2, u.2.1, S.2.2.2.1 + 1, S.2.2.2.2 + 6)) else none
set_option maxHeartbeats 4000000 in
set_option maxRecDepth 100000 in
theorem lc_line {p : Program} {l : Launch} {e : Env} {R : Room} {s : State} {m : MethodId} {args : Array Value} {below : List Frame} {meth : Method} {c : Code} {Q : State → Prop} {D : va_G} {cI : ClassId} {cx : Cond} {b L : Nat} {xs : Nat → Int32} (hC : LawCtx p l R s m args c D cI cx b L xs) (A : CAd) (B : Nat × (Nat → Nat)) (ho : Nat) (V : CV) (S S9 : LwS) (i : Int32) (hin : ∀ j : Int32, j ∈ ([1, 2, 3, 4, 5] : List Int32) → vp_in (i + j) L) (hf : sL_line S (xs (i + 1).toNatClampNeg) (xs (i + 2).toNatClampNeg) (xs (i + 3).toNatClampNeg) (xs (i + 4).toNatClampNeg) (xs (i + 5).toNatClampNeg) = some S9) (hr : S9.2.2.2.1 ≤ R.cells ∧ S9.2.2.2.2 ≤ R.slots) {H : Heap} {locs : List Loc} {ls : Array Slot} (hP : va_P D vwCl (lwW D cI A B ho V S) H) (hD : va_D (lA s) (lwW D cI A B ho V S)) (hS : va_S (lA s) s.heap H locs) (hl : lv_has ls 7 [(0, .ref b), (1, .ref A.1), (2, .ref B.1), (3, .ref ho), (4, .int i)])
    (cont : ∀ (V : CV) (H : Heap) (locs : List Loc) (ls : Array Slot), va_P D vwCl (lwW D cI A B ho V S9) H → va_D (lA s) (lwW D cI A B ho V S9) → va_S (lA s) s.heap H locs → lv_has ls 7 [(0, .ref b), (1, .ref A.1), (2, .ref B.1), (3, .ref ho), (4, .int i)] → W p l e R s m args below meth c H locs S9.2.2.2.1 S9.2.2.2.2 Q (F0 m 1521 ls [])) : W p l e R s m args below meth c H locs S.2.2.2.1 S.2.2.2.2 Q (F0 m 454 ls []) := by
  obtain ⟨hx, hb, hml, hts, hcx, hown, hK, hX, hXs, hbl, hlt, hfr, hlo⟩ := hC
  have hbA : ¬ lA s b := Nat.not_le.mpr hbl
  have hA : ∀ q : Nat, s.heap.size ≤ q → lA s q := fun q h => h
  obtain ⟨u, hu, hf⟩ := bd_some hf
  obtain ⟨v, hv, hf⟩ := bd_some hf
  obtain ⟨t, ht, hf⟩ := bd_some hf
  by_cases h1 : t.1 = u.1
  case neg => cases ((if_neg h1).symm.trans hf)
  have hf := (if_pos h1).symm.trans hf
  by_cases h2 : u.1 = 0
  · have hf := (if_pos h2).symm.trans hf
    by_cases h3 : lg_cmp (u.2.1 0) v.1.toInt64 = 0
    case neg => cases ((if_neg h3).symm.trans hf)
    obtain rfl := Option.some.inj ((if_pos h3).symm.trans hf)
    refine lv_aload_n hx hb dLaw_454 rfl (lv_at hl 1 rfl) ?_
    refine lv_aload_n hx hb dLaw_455 rfl (lv_at hl 0 rfl) ?_
    refine lv_iload hx hb dLaw_456 (lv_at hl 4 rfl) ?_
    refine lv_iconst (v := 1) hx hb dLaw_458 (by decide) ?_
    refine lv_iadd hx hb dLaw_459 ?_
    refine va_sld (A := lA s) hx hb hXs hbl hbA hS (hin 1 (by decide)) dLaw_460 ?_
    refine lv_aload_n hx hb dLaw_461 rfl (lv_at hl 0 rfl) ?_
    refine lv_iload hx hb dLaw_462 (lv_at hl 4 rfl) ?_
    refine lv_iconst (v := 2) hx hb dLaw_464 (by decide) ?_
    refine lv_iadd hx hb dLaw_465 ?_
    refine va_sld (A := lA s) hx hb hXs hbl hbA hS (hin 2 (by decide)) dLaw_466 ?_
    refine lv_aload_n hx hb dLaw_467 rfl (lv_at hl 3 rfl) ?_
    refine z_cinF (ws1 := fun V => lwW D cI A B ho V (u.2.2, S.2.1, u.2.1, S.2.2.2)) (fr := rfw cI B S.2.1) (z_rSW (rest := []) (fr := rfw cI B S.2.1) (ws := lwW D cI A B ho V (S.1, S.2.1, S.2.2.1, S.2.2.2)) (As := [.ref A.1, .int (xs (i + 1).toNatClampNeg), .int (xs (i + 2).toNatClampNeg), .ref ho]) hx hb hml hown hcx hl.1 (h_line l hlt D cI A ho V S.1 S.2.2.1 (xs (i + 1).toNatClampNeg) (xs (i + 2).toNatClampNeg) u hu _) tl_L_98 ts_L_line tn_L tc_L_line tm_L_line rfl rfl ⟨Nat.le_trans (Nat.le_of_ble_eq_true rfl) hfr, Nat.le_trans (Nat.le_of_ble_eq_true rfl) hlo⟩ hK hX hS hA hP hD pq_h rfl rfl (Nat.le_of_ble_eq_true rfl) dLaw_468 ⟨hr.1, hr.2⟩) hP hD hS hA pq_h (fun _ => pq_h) (fun V H locs hP hD hS => ?_)
    refine lv_istore (lv' := [(5, .int u.1), (0, .ref b), (1, .ref A.1), (2, .ref B.1), (3, .ref ho), (4, .int i)]) hx hb dLaw_471 hl (by decide) rfl (fun ls hl => ?_)
    refine lv_aload_n hx hb dLaw_473 rfl (lv_at hl 3 rfl) ?_
    refine lv_aload_n hx hb dLaw_474 rfl (lv_at hl 1 rfl) ?_
    refine lv_iload hx hb dLaw_475 (lv_at hl 5 rfl) ?_
    refine lv_iconst (v := 1) hx hb dLaw_477 (by decide) ?_
    refine lv_iadd hx hb dLaw_478 ?_
    refine va_sld (A := lA s) hx hb hXs hbl hbA hS (hin 1 (by decide)) dLaw_479 ?_
    refine lv_aload_n hx hb dLaw_480 rfl (lv_at hl 1 rfl) ?_
    refine lv_iload hx hb dLaw_481 (lv_at hl 5 rfl) ?_
    refine lv_iconst (v := 2) hx hb dLaw_483 (by decide) ?_
    refine lv_iadd hx hb dLaw_484 ?_
    refine va_sld (A := lA s) hx hb hXs hbl hbA hS (hin 2 (by decide)) dLaw_485 ?_
    refine z_ciF (ws1 := lwW D cI A B ho V (u.2.2, v.2, u.2.1, S.2.2.2)) (fr := (ho, .inl (D.1 101, 1, .inr (.inl u.2.1))) :: cw D cI A V u.2.2) (z_rVF (rest := []) (fr := (ho, .inl (D.1 101, 1, .inr (.inl u.2.1))) :: cw D cI A V u.2.2) (ws := lwW D cI A B ho V (u.2.2, S.2.1, u.2.1, S.2.2.2)) (ci := 12) (b := B.1) (As := [.int (xs (i + 1).toNatClampNeg), .int (xs (i + 2).toNatClampNeg)]) hx hb hml hown hcx hl.1 (kM_line l D cI B S.2.1 (xs (i + 1).toNatClampNeg) (xs (i + 2).toNatClampNeg) v hv _) tl_L_101 ti_X12_line tz_X12_line tn_X12 tc_X12_line tm_X12_line rfl rfl ⟨Nat.le_trans (Nat.le_of_ble_eq_true rfl) hfr, Nat.le_trans (Nat.le_of_ble_eq_true rfl) hlo⟩ hK hX hS hA hP hD pq_m ml_root rfl rfl rfl (Nat.le_of_ble_eq_true rfl) dLaw_486 ⟨hr.1, hr.2⟩) hP hD hS hA pq_m pq_m (fun H locs hP hD hS => ?_)
    refine lv_istore (lv' := [(6, .int v.1), (5, .int u.1), (0, .ref b), (1, .ref A.1), (2, .ref B.1), (3, .ref ho), (4, .int i)]) hx hb dLaw_489 hl (by decide) rfl (fun ls hl => ?_)
    refine lv_aload_n hx hb dLaw_491 rfl (lv_at hl 4 rfl) ?_
    refine z_ciF (ws1 := lwW D cI A B ho V (u.2.2, t.2, u.2.1, S.2.2.2)) (fr := (ho, .inl (D.1 101, 1, .inr (.inl u.2.1))) :: cw D cI A V u.2.2) (z_rVF (rest := []) (fr := (ho, .inl (D.1 101, 1, .inr (.inl u.2.1))) :: cw D cI A V u.2.2) (ws := lwW D cI A B ho V (u.2.2, v.2, u.2.1, S.2.2.2)) (ci := 12) (b := B.1) (As := []) hx hb hml hown hcx hl.1 (kM_thrown l D cI B v.2 t ht _) tl_L_83 ti_X12_thrown tz_X12_thrown tn_X12 tc_X12_thrown tm_X12_thrown rfl rfl ⟨Nat.le_trans (Nat.le_of_ble_eq_true rfl) hfr, Nat.le_trans (Nat.le_of_ble_eq_true rfl) hlo⟩ hK hX hS hA hP hD pq_m ml_root rfl rfl rfl (Nat.le_of_ble_eq_true rfl) dLaw_492 ⟨hr.1, hr.2⟩) hP hD hS hA pq_m pq_m (fun H locs hP hD hS => ?_)
    refine lv_iload hx hb dLaw_495 (lv_at hl 1 rfl) ?_
    refine lv_icmp_eq (tgt := 502) hx hb dLaw_497 (by decide) (fun _ => ?_) (fun h9 => absurd h1 h9)
    refine lv_iload hx hb dLaw_502 (lv_at hl 1 rfl) ?_
    refine lv_if_ne (tgt := 519) hx hb dLaw_504 (by decide) (fun h9 => absurd h2 h9) (fun _ => ?_)
    refine lv_aload_n hx hb dLaw_507 rfl (lv_at hl 5 rfl) ?_
    refine lv_iconst (v := 0) hx hb dLaw_508 (by decide) ?_
    refine va_lald (a := ho) hx hb hK.1 hP 0 2 rfl rfl (i := 0) vp_in01 dLaw_509 ?_
    refine lv_iload hx hb dLaw_510 (lv_at hl 0 rfl) ?_
    refine lv_i2l hx hb dLaw_512 rfl ?_
    refine W.lcmp hx hb dLaw_513 ?_
    refine lv_if_eq (tgt := 519) hx hb dLaw_514 (by decide) (fun _ => ?_) (fun h9 => absurd h3 h9)
    refine lv_goto (tgt := 1521) hx hb dLaw_519 (by decide) ?_
    exact cont V _ _ _ hP hD hS (lv_sub hl [2, 3, 4, 5, 6] rfl)
  · obtain rfl := Option.some.inj ((if_neg h2).symm.trans hf)
    refine lv_aload_n hx hb dLaw_454 rfl (lv_at hl 1 rfl) ?_
    refine lv_aload_n hx hb dLaw_455 rfl (lv_at hl 0 rfl) ?_
    refine lv_iload hx hb dLaw_456 (lv_at hl 4 rfl) ?_
    refine lv_iconst (v := 1) hx hb dLaw_458 (by decide) ?_
    refine lv_iadd hx hb dLaw_459 ?_
    refine va_sld (A := lA s) hx hb hXs hbl hbA hS (hin 1 (by decide)) dLaw_460 ?_
    refine lv_aload_n hx hb dLaw_461 rfl (lv_at hl 0 rfl) ?_
    refine lv_iload hx hb dLaw_462 (lv_at hl 4 rfl) ?_
    refine lv_iconst (v := 2) hx hb dLaw_464 (by decide) ?_
    refine lv_iadd hx hb dLaw_465 ?_
    refine va_sld (A := lA s) hx hb hXs hbl hbA hS (hin 2 (by decide)) dLaw_466 ?_
    refine lv_aload_n hx hb dLaw_467 rfl (lv_at hl 3 rfl) ?_
    refine z_cinF (ws1 := fun V => lwW D cI A B ho V (u.2.2, S.2.1, u.2.1, S.2.2.2)) (fr := rfw cI B S.2.1) (z_rSW (rest := []) (fr := rfw cI B S.2.1) (ws := lwW D cI A B ho V (S.1, S.2.1, S.2.2.1, S.2.2.2)) (As := [.ref A.1, .int (xs (i + 1).toNatClampNeg), .int (xs (i + 2).toNatClampNeg), .ref ho]) hx hb hml hown hcx hl.1 (h_line l hlt D cI A ho V S.1 S.2.2.1 (xs (i + 1).toNatClampNeg) (xs (i + 2).toNatClampNeg) u hu _) tl_L_98 ts_L_line tn_L tc_L_line tm_L_line rfl rfl ⟨Nat.le_trans (Nat.le_of_ble_eq_true rfl) hfr, Nat.le_trans (Nat.le_of_ble_eq_true rfl) hlo⟩ hK hX hS hA hP hD pq_h rfl rfl (Nat.le_of_ble_eq_true rfl) dLaw_468 ⟨hr.1, hr.2⟩) hP hD hS hA pq_h (fun _ => pq_h) (fun V H locs hP hD hS => ?_)
    refine lv_istore (lv' := [(5, .int u.1), (0, .ref b), (1, .ref A.1), (2, .ref B.1), (3, .ref ho), (4, .int i)]) hx hb dLaw_471 hl (by decide) rfl (fun ls hl => ?_)
    refine lv_aload_n hx hb dLaw_473 rfl (lv_at hl 3 rfl) ?_
    refine lv_aload_n hx hb dLaw_474 rfl (lv_at hl 1 rfl) ?_
    refine lv_iload hx hb dLaw_475 (lv_at hl 5 rfl) ?_
    refine lv_iconst (v := 1) hx hb dLaw_477 (by decide) ?_
    refine lv_iadd hx hb dLaw_478 ?_
    refine va_sld (A := lA s) hx hb hXs hbl hbA hS (hin 1 (by decide)) dLaw_479 ?_
    refine lv_aload_n hx hb dLaw_480 rfl (lv_at hl 1 rfl) ?_
    refine lv_iload hx hb dLaw_481 (lv_at hl 5 rfl) ?_
    refine lv_iconst (v := 2) hx hb dLaw_483 (by decide) ?_
    refine lv_iadd hx hb dLaw_484 ?_
    refine va_sld (A := lA s) hx hb hXs hbl hbA hS (hin 2 (by decide)) dLaw_485 ?_
    refine z_ciF (ws1 := lwW D cI A B ho V (u.2.2, v.2, u.2.1, S.2.2.2)) (fr := (ho, .inl (D.1 101, 1, .inr (.inl u.2.1))) :: cw D cI A V u.2.2) (z_rVF (rest := []) (fr := (ho, .inl (D.1 101, 1, .inr (.inl u.2.1))) :: cw D cI A V u.2.2) (ws := lwW D cI A B ho V (u.2.2, S.2.1, u.2.1, S.2.2.2)) (ci := 12) (b := B.1) (As := [.int (xs (i + 1).toNatClampNeg), .int (xs (i + 2).toNatClampNeg)]) hx hb hml hown hcx hl.1 (kM_line l D cI B S.2.1 (xs (i + 1).toNatClampNeg) (xs (i + 2).toNatClampNeg) v hv _) tl_L_101 ti_X12_line tz_X12_line tn_X12 tc_X12_line tm_X12_line rfl rfl ⟨Nat.le_trans (Nat.le_of_ble_eq_true rfl) hfr, Nat.le_trans (Nat.le_of_ble_eq_true rfl) hlo⟩ hK hX hS hA hP hD pq_m ml_root rfl rfl rfl (Nat.le_of_ble_eq_true rfl) dLaw_486 ⟨hr.1, hr.2⟩) hP hD hS hA pq_m pq_m (fun H locs hP hD hS => ?_)
    refine lv_istore (lv' := [(6, .int v.1), (5, .int u.1), (0, .ref b), (1, .ref A.1), (2, .ref B.1), (3, .ref ho), (4, .int i)]) hx hb dLaw_489 hl (by decide) rfl (fun ls hl => ?_)
    refine lv_aload_n hx hb dLaw_491 rfl (lv_at hl 4 rfl) ?_
    refine z_ciF (ws1 := lwW D cI A B ho V (u.2.2, t.2, u.2.1, S.2.2.2)) (fr := (ho, .inl (D.1 101, 1, .inr (.inl u.2.1))) :: cw D cI A V u.2.2) (z_rVF (rest := []) (fr := (ho, .inl (D.1 101, 1, .inr (.inl u.2.1))) :: cw D cI A V u.2.2) (ws := lwW D cI A B ho V (u.2.2, v.2, u.2.1, S.2.2.2)) (ci := 12) (b := B.1) (As := []) hx hb hml hown hcx hl.1 (kM_thrown l D cI B v.2 t ht _) tl_L_83 ti_X12_thrown tz_X12_thrown tn_X12 tc_X12_thrown tm_X12_thrown rfl rfl ⟨Nat.le_trans (Nat.le_of_ble_eq_true rfl) hfr, Nat.le_trans (Nat.le_of_ble_eq_true rfl) hlo⟩ hK hX hS hA hP hD pq_m ml_root rfl rfl rfl (Nat.le_of_ble_eq_true rfl) dLaw_492 ⟨hr.1, hr.2⟩) hP hD hS hA pq_m pq_m (fun H locs hP hD hS => ?_)
    refine lv_iload hx hb dLaw_495 (lv_at hl 1 rfl) ?_
    refine lv_icmp_eq (tgt := 502) hx hb dLaw_497 (by decide) (fun _ => ?_) (fun h9 => absurd h1 h9)
    refine lv_iload hx hb dLaw_502 (lv_at hl 1 rfl) ?_
    refine lv_if_ne (tgt := 519) hx hb dLaw_504 (by decide) (fun _ => ?_) (fun h9 => absurd h9 h2)
    refine lv_goto (tgt := 1521) hx hb dLaw_519 (by decide) ?_
    exact cont V _ _ _ hP hD hS (lv_sub hl [2, 3, 4, 5, 6] rfl)
def sL_micro (S : LwS) (a1 : Int32) (a2 : Int32) (a3 : Int32) (a4 : Int32) (a5 : Int32) : Option LwS := bd (pL_micro S.1 S.2.2.1 a1 a2) fun u => bd (pM_micro S.2.1 a1 a2) fun v => bd (pM_thrown v.2) fun t => if t.1 = u.1 then (if u.1 = 0 then (if lg_cmp (u.2.1 0) v.1.toInt64 = 0 then some (u.2.2, t.2, u.2.1, S.2.2.2.1 + 1, S.2.2.2.2 + 6) else none) else some (u.2.2, t.2, u.2.1, S.2.2.2.1 + 1, S.2.2.2.2 + 6)) else none
set_option maxHeartbeats 4000000 in
set_option maxRecDepth 100000 in
theorem lc_micro {p : Program} {l : Launch} {e : Env} {R : Room} {s : State} {m : MethodId} {args : Array Value} {below : List Frame} {meth : Method} {c : Code} {Q : State → Prop} {D : va_G} {cI : ClassId} {cx : Cond} {b L : Nat} {xs : Nat → Int32} (hC : LawCtx p l R s m args c D cI cx b L xs) (A : CAd) (B : Nat × (Nat → Nat)) (ho : Nat) (V : CV) (S S9 : LwS) (i : Int32) (hin : ∀ j : Int32, j ∈ ([1, 2, 3, 4, 5] : List Int32) → vp_in (i + j) L) (hf : sL_micro S (xs (i + 1).toNatClampNeg) (xs (i + 2).toNatClampNeg) (xs (i + 3).toNatClampNeg) (xs (i + 4).toNatClampNeg) (xs (i + 5).toNatClampNeg) = some S9) (hr : S9.2.2.2.1 ≤ R.cells ∧ S9.2.2.2.2 ≤ R.slots) {H : Heap} {locs : List Loc} {ls : Array Slot} (hP : va_P D vwCl (lwW D cI A B ho V S) H) (hD : va_D (lA s) (lwW D cI A B ho V S)) (hS : va_S (lA s) s.heap H locs) (hl : lv_has ls 7 [(0, .ref b), (1, .ref A.1), (2, .ref B.1), (3, .ref ho), (4, .int i)])
    (cont : ∀ (V : CV) (H : Heap) (locs : List Loc) (ls : Array Slot), va_P D vwCl (lwW D cI A B ho V S9) H → va_D (lA s) (lwW D cI A B ho V S9) → va_S (lA s) s.heap H locs → lv_has ls 7 [(0, .ref b), (1, .ref A.1), (2, .ref B.1), (3, .ref ho), (4, .int i)] → W p l e R s m args below meth c H locs S9.2.2.2.1 S9.2.2.2.2 Q (F0 m 1521 ls [])) : W p l e R s m args below meth c H locs S.2.2.2.1 S.2.2.2.2 Q (F0 m 522 ls []) := by
  obtain ⟨hx, hb, hml, hts, hcx, hown, hK, hX, hXs, hbl, hlt, hfr, hlo⟩ := hC
  have hbA : ¬ lA s b := Nat.not_le.mpr hbl
  have hA : ∀ q : Nat, s.heap.size ≤ q → lA s q := fun q h => h
  obtain ⟨u, hu, hf⟩ := bd_some hf
  obtain ⟨v, hv, hf⟩ := bd_some hf
  obtain ⟨t, ht, hf⟩ := bd_some hf
  by_cases h1 : t.1 = u.1
  case neg => cases ((if_neg h1).symm.trans hf)
  have hf := (if_pos h1).symm.trans hf
  by_cases h2 : u.1 = 0
  · have hf := (if_pos h2).symm.trans hf
    by_cases h3 : lg_cmp (u.2.1 0) v.1.toInt64 = 0
    case neg => cases ((if_neg h3).symm.trans hf)
    obtain rfl := Option.some.inj ((if_pos h3).symm.trans hf)
    refine lv_aload_n hx hb dLaw_522 rfl (lv_at hl 1 rfl) ?_
    refine lv_aload_n hx hb dLaw_523 rfl (lv_at hl 0 rfl) ?_
    refine lv_iload hx hb dLaw_524 (lv_at hl 4 rfl) ?_
    refine lv_iconst (v := 1) hx hb dLaw_526 (by decide) ?_
    refine lv_iadd hx hb dLaw_527 ?_
    refine va_sld (A := lA s) hx hb hXs hbl hbA hS (hin 1 (by decide)) dLaw_528 ?_
    refine lv_aload_n hx hb dLaw_529 rfl (lv_at hl 0 rfl) ?_
    refine lv_iload hx hb dLaw_530 (lv_at hl 4 rfl) ?_
    refine lv_iconst (v := 2) hx hb dLaw_532 (by decide) ?_
    refine lv_iadd hx hb dLaw_533 ?_
    refine va_sld (A := lA s) hx hb hXs hbl hbA hS (hin 2 (by decide)) dLaw_534 ?_
    refine lv_aload_n hx hb dLaw_535 rfl (lv_at hl 3 rfl) ?_
    refine z_cinF (ws1 := fun V => lwW D cI A B ho V (u.2.2, S.2.1, u.2.1, S.2.2.2)) (fr := rfw cI B S.2.1) (z_rSW (rest := []) (fr := rfw cI B S.2.1) (ws := lwW D cI A B ho V (S.1, S.2.1, S.2.2.1, S.2.2.2)) (As := [.ref A.1, .int (xs (i + 1).toNatClampNeg), .int (xs (i + 2).toNatClampNeg), .ref ho]) hx hb hml hown hcx hl.1 (h_micro l hlt D cI A ho V S.1 S.2.2.1 (xs (i + 1).toNatClampNeg) (xs (i + 2).toNatClampNeg) u hu _) tl_L_102 ts_L_micro tn_L tc_L_micro tm_L_micro rfl rfl ⟨Nat.le_trans (Nat.le_of_ble_eq_true rfl) hfr, Nat.le_trans (Nat.le_of_ble_eq_true rfl) hlo⟩ hK hX hS hA hP hD pq_h rfl rfl (Nat.le_of_ble_eq_true rfl) dLaw_536 ⟨hr.1, hr.2⟩) hP hD hS hA pq_h (fun _ => pq_h) (fun V H locs hP hD hS => ?_)
    refine lv_istore (lv' := [(5, .int u.1), (0, .ref b), (1, .ref A.1), (2, .ref B.1), (3, .ref ho), (4, .int i)]) hx hb dLaw_539 hl (by decide) rfl (fun ls hl => ?_)
    refine lv_aload_n hx hb dLaw_541 rfl (lv_at hl 3 rfl) ?_
    refine lv_aload_n hx hb dLaw_542 rfl (lv_at hl 1 rfl) ?_
    refine lv_iload hx hb dLaw_543 (lv_at hl 5 rfl) ?_
    refine lv_iconst (v := 1) hx hb dLaw_545 (by decide) ?_
    refine lv_iadd hx hb dLaw_546 ?_
    refine va_sld (A := lA s) hx hb hXs hbl hbA hS (hin 1 (by decide)) dLaw_547 ?_
    refine lv_aload_n hx hb dLaw_548 rfl (lv_at hl 1 rfl) ?_
    refine lv_iload hx hb dLaw_549 (lv_at hl 5 rfl) ?_
    refine lv_iconst (v := 2) hx hb dLaw_551 (by decide) ?_
    refine lv_iadd hx hb dLaw_552 ?_
    refine va_sld (A := lA s) hx hb hXs hbl hbA hS (hin 2 (by decide)) dLaw_553 ?_
    refine z_ciF (ws1 := lwW D cI A B ho V (u.2.2, v.2, u.2.1, S.2.2.2)) (fr := (ho, .inl (D.1 101, 1, .inr (.inl u.2.1))) :: cw D cI A V u.2.2) (z_rVF (rest := []) (fr := (ho, .inl (D.1 101, 1, .inr (.inl u.2.1))) :: cw D cI A V u.2.2) (ws := lwW D cI A B ho V (u.2.2, S.2.1, u.2.1, S.2.2.2)) (ci := 12) (b := B.1) (As := [.int (xs (i + 1).toNatClampNeg), .int (xs (i + 2).toNatClampNeg)]) hx hb hml hown hcx hl.1 (kM_micro l D cI B S.2.1 (xs (i + 1).toNatClampNeg) (xs (i + 2).toNatClampNeg) v hv _) tl_L_104 ti_X12_micro tz_X12_micro tn_X12 tc_X12_micro tm_X12_micro rfl rfl ⟨Nat.le_trans (Nat.le_of_ble_eq_true rfl) hfr, Nat.le_trans (Nat.le_of_ble_eq_true rfl) hlo⟩ hK hX hS hA hP hD pq_m ml_root rfl rfl rfl (Nat.le_of_ble_eq_true rfl) dLaw_554 ⟨hr.1, hr.2⟩) hP hD hS hA pq_m pq_m (fun H locs hP hD hS => ?_)
    refine lv_istore (lv' := [(6, .int v.1), (5, .int u.1), (0, .ref b), (1, .ref A.1), (2, .ref B.1), (3, .ref ho), (4, .int i)]) hx hb dLaw_557 hl (by decide) rfl (fun ls hl => ?_)
    refine lv_aload_n hx hb dLaw_559 rfl (lv_at hl 4 rfl) ?_
    refine z_ciF (ws1 := lwW D cI A B ho V (u.2.2, t.2, u.2.1, S.2.2.2)) (fr := (ho, .inl (D.1 101, 1, .inr (.inl u.2.1))) :: cw D cI A V u.2.2) (z_rVF (rest := []) (fr := (ho, .inl (D.1 101, 1, .inr (.inl u.2.1))) :: cw D cI A V u.2.2) (ws := lwW D cI A B ho V (u.2.2, v.2, u.2.1, S.2.2.2)) (ci := 12) (b := B.1) (As := []) hx hb hml hown hcx hl.1 (kM_thrown l D cI B v.2 t ht _) tl_L_83 ti_X12_thrown tz_X12_thrown tn_X12 tc_X12_thrown tm_X12_thrown rfl rfl ⟨Nat.le_trans (Nat.le_of_ble_eq_true rfl) hfr, Nat.le_trans (Nat.le_of_ble_eq_true rfl) hlo⟩ hK hX hS hA hP hD pq_m ml_root rfl rfl rfl (Nat.le_of_ble_eq_true rfl) dLaw_560 ⟨hr.1, hr.2⟩) hP hD hS hA pq_m pq_m (fun H locs hP hD hS => ?_)
    refine lv_iload hx hb dLaw_563 (lv_at hl 1 rfl) ?_
    refine lv_icmp_eq (tgt := 570) hx hb dLaw_565 (by decide) (fun _ => ?_) (fun h9 => absurd h1 h9)
    refine lv_iload hx hb dLaw_570 (lv_at hl 1 rfl) ?_
    refine lv_if_ne (tgt := 587) hx hb dLaw_572 (by decide) (fun h9 => absurd h2 h9) (fun _ => ?_)
    refine lv_aload_n hx hb dLaw_575 rfl (lv_at hl 5 rfl) ?_
    refine lv_iconst (v := 0) hx hb dLaw_576 (by decide) ?_
    refine va_lald (a := ho) hx hb hK.1 hP 0 2 rfl rfl (i := 0) vp_in01 dLaw_577 ?_
    refine lv_iload hx hb dLaw_578 (lv_at hl 0 rfl) ?_
    refine lv_i2l hx hb dLaw_580 rfl ?_
    refine W.lcmp hx hb dLaw_581 ?_
    refine lv_if_eq (tgt := 587) hx hb dLaw_582 (by decide) (fun _ => ?_) (fun h9 => absurd h3 h9)
    refine lv_goto (tgt := 1521) hx hb dLaw_587 (by decide) ?_
    exact cont V _ _ _ hP hD hS (lv_sub hl [2, 3, 4, 5, 6] rfl)
  · obtain rfl := Option.some.inj ((if_neg h2).symm.trans hf)
    refine lv_aload_n hx hb dLaw_522 rfl (lv_at hl 1 rfl) ?_
    refine lv_aload_n hx hb dLaw_523 rfl (lv_at hl 0 rfl) ?_
    refine lv_iload hx hb dLaw_524 (lv_at hl 4 rfl) ?_
    refine lv_iconst (v := 1) hx hb dLaw_526 (by decide) ?_
    refine lv_iadd hx hb dLaw_527 ?_
    refine va_sld (A := lA s) hx hb hXs hbl hbA hS (hin 1 (by decide)) dLaw_528 ?_
    refine lv_aload_n hx hb dLaw_529 rfl (lv_at hl 0 rfl) ?_
    refine lv_iload hx hb dLaw_530 (lv_at hl 4 rfl) ?_
    refine lv_iconst (v := 2) hx hb dLaw_532 (by decide) ?_
    refine lv_iadd hx hb dLaw_533 ?_
    refine va_sld (A := lA s) hx hb hXs hbl hbA hS (hin 2 (by decide)) dLaw_534 ?_
    refine lv_aload_n hx hb dLaw_535 rfl (lv_at hl 3 rfl) ?_
    refine z_cinF (ws1 := fun V => lwW D cI A B ho V (u.2.2, S.2.1, u.2.1, S.2.2.2)) (fr := rfw cI B S.2.1) (z_rSW (rest := []) (fr := rfw cI B S.2.1) (ws := lwW D cI A B ho V (S.1, S.2.1, S.2.2.1, S.2.2.2)) (As := [.ref A.1, .int (xs (i + 1).toNatClampNeg), .int (xs (i + 2).toNatClampNeg), .ref ho]) hx hb hml hown hcx hl.1 (h_micro l hlt D cI A ho V S.1 S.2.2.1 (xs (i + 1).toNatClampNeg) (xs (i + 2).toNatClampNeg) u hu _) tl_L_102 ts_L_micro tn_L tc_L_micro tm_L_micro rfl rfl ⟨Nat.le_trans (Nat.le_of_ble_eq_true rfl) hfr, Nat.le_trans (Nat.le_of_ble_eq_true rfl) hlo⟩ hK hX hS hA hP hD pq_h rfl rfl (Nat.le_of_ble_eq_true rfl) dLaw_536 ⟨hr.1, hr.2⟩) hP hD hS hA pq_h (fun _ => pq_h) (fun V H locs hP hD hS => ?_)
    refine lv_istore (lv' := [(5, .int u.1), (0, .ref b), (1, .ref A.1), (2, .ref B.1), (3, .ref ho), (4, .int i)]) hx hb dLaw_539 hl (by decide) rfl (fun ls hl => ?_)
    refine lv_aload_n hx hb dLaw_541 rfl (lv_at hl 3 rfl) ?_
    refine lv_aload_n hx hb dLaw_542 rfl (lv_at hl 1 rfl) ?_
    refine lv_iload hx hb dLaw_543 (lv_at hl 5 rfl) ?_
    refine lv_iconst (v := 1) hx hb dLaw_545 (by decide) ?_
    refine lv_iadd hx hb dLaw_546 ?_
    refine va_sld (A := lA s) hx hb hXs hbl hbA hS (hin 1 (by decide)) dLaw_547 ?_
    refine lv_aload_n hx hb dLaw_548 rfl (lv_at hl 1 rfl) ?_
    refine lv_iload hx hb dLaw_549 (lv_at hl 5 rfl) ?_
    refine lv_iconst (v := 2) hx hb dLaw_551 (by decide) ?_
    refine lv_iadd hx hb dLaw_552 ?_
    refine va_sld (A := lA s) hx hb hXs hbl hbA hS (hin 2 (by decide)) dLaw_553 ?_
    refine z_ciF (ws1 := lwW D cI A B ho V (u.2.2, v.2, u.2.1, S.2.2.2)) (fr := (ho, .inl (D.1 101, 1, .inr (.inl u.2.1))) :: cw D cI A V u.2.2) (z_rVF (rest := []) (fr := (ho, .inl (D.1 101, 1, .inr (.inl u.2.1))) :: cw D cI A V u.2.2) (ws := lwW D cI A B ho V (u.2.2, S.2.1, u.2.1, S.2.2.2)) (ci := 12) (b := B.1) (As := [.int (xs (i + 1).toNatClampNeg), .int (xs (i + 2).toNatClampNeg)]) hx hb hml hown hcx hl.1 (kM_micro l D cI B S.2.1 (xs (i + 1).toNatClampNeg) (xs (i + 2).toNatClampNeg) v hv _) tl_L_104 ti_X12_micro tz_X12_micro tn_X12 tc_X12_micro tm_X12_micro rfl rfl ⟨Nat.le_trans (Nat.le_of_ble_eq_true rfl) hfr, Nat.le_trans (Nat.le_of_ble_eq_true rfl) hlo⟩ hK hX hS hA hP hD pq_m ml_root rfl rfl rfl (Nat.le_of_ble_eq_true rfl) dLaw_554 ⟨hr.1, hr.2⟩) hP hD hS hA pq_m pq_m (fun H locs hP hD hS => ?_)
    refine lv_istore (lv' := [(6, .int v.1), (5, .int u.1), (0, .ref b), (1, .ref A.1), (2, .ref B.1), (3, .ref ho), (4, .int i)]) hx hb dLaw_557 hl (by decide) rfl (fun ls hl => ?_)
    refine lv_aload_n hx hb dLaw_559 rfl (lv_at hl 4 rfl) ?_
    refine z_ciF (ws1 := lwW D cI A B ho V (u.2.2, t.2, u.2.1, S.2.2.2)) (fr := (ho, .inl (D.1 101, 1, .inr (.inl u.2.1))) :: cw D cI A V u.2.2) (z_rVF (rest := []) (fr := (ho, .inl (D.1 101, 1, .inr (.inl u.2.1))) :: cw D cI A V u.2.2) (ws := lwW D cI A B ho V (u.2.2, v.2, u.2.1, S.2.2.2)) (ci := 12) (b := B.1) (As := []) hx hb hml hown hcx hl.1 (kM_thrown l D cI B v.2 t ht _) tl_L_83 ti_X12_thrown tz_X12_thrown tn_X12 tc_X12_thrown tm_X12_thrown rfl rfl ⟨Nat.le_trans (Nat.le_of_ble_eq_true rfl) hfr, Nat.le_trans (Nat.le_of_ble_eq_true rfl) hlo⟩ hK hX hS hA hP hD pq_m ml_root rfl rfl rfl (Nat.le_of_ble_eq_true rfl) dLaw_560 ⟨hr.1, hr.2⟩) hP hD hS hA pq_m pq_m (fun H locs hP hD hS => ?_)
    refine lv_iload hx hb dLaw_563 (lv_at hl 1 rfl) ?_
    refine lv_icmp_eq (tgt := 570) hx hb dLaw_565 (by decide) (fun _ => ?_) (fun h9 => absurd h1 h9)
    refine lv_iload hx hb dLaw_570 (lv_at hl 1 rfl) ?_
    refine lv_if_ne (tgt := 587) hx hb dLaw_572 (by decide) (fun _ => ?_) (fun h9 => absurd h9 h2)
    refine lv_goto (tgt := 1521) hx hb dLaw_587 (by decide) ?_
    exact cont V _ _ _ hP hD hS (lv_sub hl [2, 3, 4, 5, 6] rfl)
def sL_orders (S : LwS) (a1 : Int32) (a2 : Int32) (a3 : Int32) (a4 : Int32) (a5 : Int32) : Option LwS := bd (pX_orders S.1) fun u => bd (pM_orders S.2.1) fun v => if lg_cmp u.1 v.1 = 0 then some (u.2, v.2, S.2.2.1, S.2.2.2.1 + 0, S.2.2.2.2 + 0) else none
set_option maxHeartbeats 4000000 in
set_option maxRecDepth 100000 in
theorem lc_orders {p : Program} {l : Launch} {e : Env} {R : Room} {s : State} {m : MethodId} {args : Array Value} {below : List Frame} {meth : Method} {c : Code} {Q : State → Prop} {D : va_G} {cI : ClassId} {cx : Cond} {b L : Nat} {xs : Nat → Int32} (hC : LawCtx p l R s m args c D cI cx b L xs) (A : CAd) (B : Nat × (Nat → Nat)) (ho : Nat) (V : CV) (S S9 : LwS) (i : Int32) (hin : ∀ j : Int32, j ∈ ([1, 2, 3, 4, 5] : List Int32) → vp_in (i + j) L) (hf : sL_orders S (xs (i + 1).toNatClampNeg) (xs (i + 2).toNatClampNeg) (xs (i + 3).toNatClampNeg) (xs (i + 4).toNatClampNeg) (xs (i + 5).toNatClampNeg) = some S9) (hr : S9.2.2.2.1 ≤ R.cells ∧ S9.2.2.2.2 ≤ R.slots) {H : Heap} {locs : List Loc} {ls : Array Slot} (hP : va_P D vwCl (lwW D cI A B ho V S) H) (hD : va_D (lA s) (lwW D cI A B ho V S)) (hS : va_S (lA s) s.heap H locs) (hl : lv_has ls 7 [(0, .ref b), (1, .ref A.1), (2, .ref B.1), (3, .ref ho), (4, .int i)])
    (cont : ∀ (V : CV) (H : Heap) (locs : List Loc) (ls : Array Slot), va_P D vwCl (lwW D cI A B ho V S9) H → va_D (lA s) (lwW D cI A B ho V S9) → va_S (lA s) s.heap H locs → lv_has ls 7 [(0, .ref b), (1, .ref A.1), (2, .ref B.1), (3, .ref ho), (4, .int i)] → W p l e R s m args below meth c H locs S9.2.2.2.1 S9.2.2.2.2 Q (F0 m 1521 ls [])) : W p l e R s m args below meth c H locs S.2.2.2.1 S.2.2.2.2 Q (F0 m 590 ls []) := by
  obtain ⟨hx, hb, hml, hts, hcx, hown, hK, hX, hXs, hbl, hlt, hfr, hlo⟩ := hC
  have hbA : ¬ lA s b := Nat.not_le.mpr hbl
  have hA : ∀ q : Nat, s.heap.size ≤ q → lA s q := fun q h => h
  obtain ⟨u, hu, hf⟩ := bd_some hf
  obtain ⟨v, hv, hf⟩ := bd_some hf
  by_cases h1 : lg_cmp u.1 v.1 = 0
  case neg => cases ((if_neg h1).symm.trans hf)
  obtain rfl := Option.some.inj ((if_pos h1).symm.trans hf)
  refine lv_aload_n hx hb dLaw_590 rfl (lv_at hl 1 rfl) ?_
  refine z_clnF (ws1 := fun V => lwW D cI A B ho V (u.2, S.2.1, S.2.2.1, S.2.2.2)) (fr := (ho, .inl (D.1 101, 1, .inr (.inl S.2.2.1))) :: rfw cI B S.2.1) (z_rVF (rest := []) (fr := (ho, .inl (D.1 101, 1, .inr (.inl S.2.2.1))) :: rfw cI B S.2.1) (ws := lwW D cI A B ho V (S.1, S.2.1, S.2.2.1, S.2.2.2)) (ci := 11) (b := A.1) (As := []) hx hb hml hown hcx hl.1 (k_orders l D cI A V S.1 u hu _) tl_L_105 ti_X11_orders tz_X11_orders tn_X11 tc_X11_orders tm_X11_orders rfl rfl ⟨Nat.le_trans (Nat.le_of_ble_eq_true rfl) hfr, Nat.le_trans (Nat.le_of_ble_eq_true rfl) hlo⟩ hK hX hS hA hP hD pq_c cw_root rfl rfl rfl (Nat.le_of_ble_eq_true rfl) dLaw_591 ⟨hr.1, hr.2⟩) hP hD hS hA pq_c (fun _ => pq_c) (fun V H locs hP hD hS => ?_)
  refine lv_aload_n hx hb dLaw_594 rfl (lv_at hl 2 rfl) ?_
  refine z_clF (ws1 := lwW D cI A B ho V (u.2, v.2, S.2.2.1, S.2.2.2)) (fr := (ho, .inl (D.1 101, 1, .inr (.inl S.2.2.1))) :: cw D cI A V u.2) (z_rVF (rest := [.long u.1]) (fr := (ho, .inl (D.1 101, 1, .inr (.inl S.2.2.1))) :: cw D cI A V u.2) (ws := lwW D cI A B ho V (u.2, S.2.1, S.2.2.1, S.2.2.2)) (ci := 12) (b := B.1) (As := []) hx hb hml hown hcx hl.1 (kM_orders l D cI B S.2.1 v hv _) tl_L_109 ti_X12_orders tz_X12_orders tn_X12 tc_X12_orders tm_X12_orders rfl rfl ⟨Nat.le_trans (Nat.le_of_ble_eq_true rfl) hfr, Nat.le_trans (Nat.le_of_ble_eq_true rfl) hlo⟩ hK hX hS hA hP hD pq_m ml_root rfl rfl rfl (Nat.le_of_ble_eq_true rfl) dLaw_595 ⟨hr.1, hr.2⟩) hP hD hS hA pq_m pq_m (fun H locs hP hD hS => ?_)
  refine W.lcmp hx hb dLaw_598 ?_
  refine lv_if_eq (tgt := 1521) hx hb dLaw_599 (by decide) (fun _ => ?_) (fun h9 => absurd h1 h9)
  exact cont V _ _ _ hP hD hS (lv_sub hl [0, 1, 2, 3, 4] rfl)
