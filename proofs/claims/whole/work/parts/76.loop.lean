def stepL (S : LwS) (op a1 a2 a3 a4 a5 : Int32) : Option LwS :=
  if op = 0 then sL_feed S a1 a2 a3 a4 a5 else
  if op = 1 then sL_heap S a1 a2 a3 a4 a5 else
  if op = 2 then sL_fault S a1 a2 a3 a4 a5 else
  if op = 3 then sL_count S a1 a2 a3 a4 a5 else
  if op = 4 then sL_word S a1 a2 a3 a4 a5 else
  if op = 5 then sL_line S a1 a2 a3 a4 a5 else
  if op = 6 then sL_micro S a1 a2 a3 a4 a5 else
  if op = 7 then sL_orders S a1 a2 a3 a4 a5 else
  if op = 8 then sL_shape S a1 a2 a3 a4 a5 else
  if op = 9 then sL_steps S a1 a2 a3 a4 a5 else
  if op = 10 then sL_evict S a1 a2 a3 a4 a5 else
  if op = 11 then sL_crash S a1 a2 a3 a4 a5 else
  if op = 12 then sL_recover S a1 a2 a3 a4 a5 else
  if op = 13 then sL_later S a1 a2 a3 a4 a5 else
  if op = 14 then sL_site S a1 a2 a3 a4 a5 else
  if op = 15 then sL_undo S a1 a2 a3 a4 a5 else
  if op = 16 then sL_recovered S a1 a2 a3 a4 a5 else
  if op = 17 then sL_fate S a1 a2 a3 a4 a5 else
  if op = 18 then sL_check S a1 a2 a3 a4 a5 else
  if op = 19 then sL_needless S a1 a2 a3 a4 a5 else
  if op = 20 then sL_least S a1 a2 a3 a4 a5 else
  if op = 21 then sL_chance S a1 a2 a3 a4 a5 else
  if op = 22 then sL_see S a1 a2 a3 a4 a5 else
  if op = 23 then sL_explained S a1 a2 a3 a4 a5 else
  if op = 24 then sL_look S a1 a2 a3 a4 a5 else
  if op = 25 then sL_forget S a1 a2 a3 a4 a5 else
  if op = 26 then sL_years S a1 a2 a3 a4 a5 else
  if op = 27 then sL_image S a1 a2 a3 a4 a5 else
  if op = 28 then sL_restore S a1 a2 a3 a4 a5 else
  some S
set_option maxHeartbeats 4000000 in
set_option maxRecDepth 100000 in
theorem law_step {p : Program} {l : Launch} {e : Env} {R : Room} {s : State} {m : MethodId} {args : Array Value} {below : List Frame} {meth : Method} {c : Code} {Q : State → Prop} {D : va_G} {cI : ClassId} {cx : Cond} {b L : Nat} {xs : Nat → Int32} (hC : LawCtx p l R s m args c D cI cx b L xs) (A : CAd) (B : Nat × (Nat → Nat)) (ho : Nat) (V : CV) (S S9 : LwS) (i : Int32) (hin0 : vp_in i L) (hin : ∀ j : Int32, j ∈ ([1, 2, 3, 4, 5] : List Int32) → vp_in (i + j) L) (hf : stepL S (xs i.toNatClampNeg &&& 31) (xs (i + 1).toNatClampNeg) (xs (i + 2).toNatClampNeg) (xs (i + 3).toNatClampNeg) (xs (i + 4).toNatClampNeg) (xs (i + 5).toNatClampNeg) = some S9) (hr : S9.2.2.2.1 ≤ R.cells ∧ S9.2.2.2.2 ≤ R.slots) {H : Heap} {locs : List Loc} {ls : Array Slot} (hP : va_P D vwCl (lwW D cI A B ho V S) H) (hD : va_D (lA s) (lwW D cI A B ho V S)) (hS : va_S (lA s) s.heap H locs) (hl : lv_has ls 7 [(0, .ref b), (1, .ref A.1), (2, .ref B.1), (3, .ref ho), (4, .int i)])
    (cont : ∀ (V : CV) (H : Heap) (locs : List Loc) (ls : Array Slot), va_P D vwCl (lwW D cI A B ho V S9) H → va_D (lA s) (lwW D cI A B ho V S9) → va_S (lA s) s.heap H locs → lv_has ls 7 [(0, .ref b), (1, .ref A.1), (2, .ref B.1), (3, .ref ho), (4, .int i)] → W p l e R s m args below meth c H locs S9.2.2.2.1 S9.2.2.2.2 Q (F0 m 1521 ls [])) : W p l e R s m args below meth c H locs S.2.2.2.1 S.2.2.2.2 Q (F0 m 33 ls []) := by
  obtain ⟨hx, hb, hml, hts, hcx, hown, hK, hX, hXs, hbl, hlt, hfr, hlo⟩ := id hC
  have hbA : ¬ lA s b := Nat.not_le.mpr hbl
  refine lv_aload_n hx hb dLaw_33 rfl (lv_at hl 0 rfl) ?_
  refine lv_iload hx hb dLaw_34 (lv_at hl 4 rfl) ?_
  refine va_sld (A := lA s) hx hb hXs hbl hbA hS hin0 dLaw_36 ?_
  refine lv_bipush (v := 31) hx hb dLaw_37 (by decide) ?_
  refine lv_iand hx hb dLaw_39 ?_
  have hf := (stepL.eq_1 _ _ _ _ _ _ _).symm.trans hf
  refine z_tabin (v := 0) (off := 132) (tgt := 172) hx hb dLaw_40 (by decide) (by decide) (by decide) (by decide) hf (fun hf => lc_feed hC A B ho V S S9 i hin hf hr hP hD hS hl cont) (fun hn0 hf => ?_)
  refine z_tabin (v := 1) (off := 205) (tgt := 245) hx hb dLaw_40 (by decide) (by decide) (by decide) (by decide) hf (fun hf => lc_heap hC A B ho V S S9 i hin hf hr hP hD hS hl cont) (fun hn1 hf => ?_)
  refine z_tabin (v := 2) (off := 261) (tgt := 301) hx hb dLaw_40 (by decide) (by decide) (by decide) (by decide) hf (fun hf => lc_fault hC A B ho V S S9 i hin hf hr hP hD hS hl cont) (fun hn2 hf => ?_)
  refine z_tabin (v := 3) (off := 274) (tgt := 314) hx hb dLaw_40 (by decide) (by decide) (by decide) (by decide) hf (fun hf => lc_count hC A B ho V S S9 i hin hf hr hP hD hS hl cont) (fun hn3 hf => ?_)
  refine z_tabin (v := 4) (off := 330) (tgt := 370) hx hb dLaw_40 (by decide) (by decide) (by decide) (by decide) hf (fun hf => lc_word hC A B ho V S S9 i hin hf hr hP hD hS hl cont) (fun hn4 hf => ?_)
  refine z_tabin (v := 5) (off := 414) (tgt := 454) hx hb dLaw_40 (by decide) (by decide) (by decide) (by decide) hf (fun hf => lc_line hC A B ho V S S9 i hin hf hr hP hD hS hl cont) (fun hn5 hf => ?_)
  refine z_tabin (v := 6) (off := 482) (tgt := 522) hx hb dLaw_40 (by decide) (by decide) (by decide) (by decide) hf (fun hf => lc_micro hC A B ho V S S9 i hin hf hr hP hD hS hl cont) (fun hn6 hf => ?_)
  refine z_tabin (v := 7) (off := 550) (tgt := 590) hx hb dLaw_40 (by decide) (by decide) (by decide) (by decide) hf (fun hf => lc_orders hC A B ho V S S9 i hin hf hr hP hD hS hl cont) (fun hn7 hf => ?_)
  refine z_tabin (v := 8) (off := 564) (tgt := 604) hx hb dLaw_40 (by decide) (by decide) (by decide) (by decide) hf (fun hf => lc_shape hC A B ho V S S9 i hin hf hr hP hD hS hl cont) (fun hn8 hf => ?_)
  refine z_tabin (v := 9) (off := 632) (tgt := 672) hx hb dLaw_40 (by decide) (by decide) (by decide) (by decide) hf (fun hf => lc_steps hC A B ho V S S9 i hin hf hr hP hD hS hl cont) (fun hn9 hf => ?_)
  refine z_tabin (v := 10) (off := 657) (tgt := 697) hx hb dLaw_40 (by decide) (by decide) (by decide) (by decide) hf (fun hf => lc_evict hC A B ho V S S9 i hin hf hr hP hD hS hl cont) (fun hn10 hf => ?_)
  refine z_tabin (v := 11) (off := 725) (tgt := 765) hx hb dLaw_40 (by decide) (by decide) (by decide) (by decide) hf (fun hf => lc_crash hC A B ho V S S9 i hin hf hr hP hD hS hl cont) (fun hn11 hf => ?_)
  refine z_tabin (v := 12) (off := 750) (tgt := 790) hx hb dLaw_40 (by decide) (by decide) (by decide) (by decide) hf (fun hf => lc_recover hC A B ho V S S9 i hin hf hr hP hD hS hl cont) (fun hn12 hf => ?_)
  refine z_tabin (v := 13) (off := 763) (tgt := 803) hx hb dLaw_40 (by decide) (by decide) (by decide) (by decide) hf (fun hf => lc_later hC A B ho V S S9 i hin hf hr hP hD hS hl cont) (fun hn13 hf => ?_)
  refine z_tabin (v := 14) (off := 843) (tgt := 883) hx hb dLaw_40 (by decide) (by decide) (by decide) (by decide) hf (fun hf => lc_site hC A B ho V S S9 i hin hf hr hP hD hS hl cont) (fun hn14 hf => ?_)
  refine z_tabin (v := 15) (off := 899) (tgt := 939) hx hb dLaw_40 (by decide) (by decide) (by decide) (by decide) hf (fun hf => lc_undo hC A B ho V S S9 i hin hf hr hP hD hS hl cont) (fun hn15 hf => ?_)
  refine z_tabin (v := 16) (off := 912) (tgt := 952) hx hb dLaw_40 (by decide) (by decide) (by decide) (by decide) hf (fun hf => lc_recovered hC A B ho V S S9 i hin hf hr hP hD hS hl cont) (fun hn16 hf => ?_)
  refine z_tabin (v := 17) (off := 980) (tgt := 1020) hx hb dLaw_40 (by decide) (by decide) (by decide) (by decide) hf (fun hf => lc_fate hC A B ho V S S9 i hin hf hr hP hD hS hl cont) (fun hn17 hf => ?_)
  refine z_tabin (v := 18) (off := 1036) (tgt := 1076) hx hb dLaw_40 (by decide) (by decide) (by decide) (by decide) hf (fun hf => lc_check hC A B ho V S S9 i hin hf hr hP hD hS hl cont) (fun hn18 hf => ?_)
  refine z_tabin (v := 19) (off := 1092) (tgt := 1132) hx hb dLaw_40 (by decide) (by decide) (by decide) (by decide) hf (fun hf => lc_needless hC A B ho V S S9 i hin hf hr hP hD hS hl cont) (fun hn19 hf => ?_)
  refine z_tabin (v := 20) (off := 1105) (tgt := 1145) hx hb dLaw_40 (by decide) (by decide) (by decide) (by decide) hf (fun hf => lc_least hC A B ho V S S9 i hin hf hr hP hD hS hl cont) (fun hn20 hf => ?_)
  refine z_tabin (v := 21) (off := 1161) (tgt := 1201) hx hb dLaw_40 (by decide) (by decide) (by decide) (by decide) hf (fun hf => lc_chance hC A B ho V S S9 i hin hf hr hP hD hS hl cont) (fun hn21 hf => ?_)
  refine z_tabin (v := 22) (off := 1217) (tgt := 1257) hx hb dLaw_40 (by decide) (by decide) (by decide) (by decide) hf (fun hf => lc_see hC A B ho V S S9 i hin hf hr hP hD hS hl cont) (fun hn22 hf => ?_)
  refine z_tabin (v := 23) (off := 1254) (tgt := 1294) hx hb dLaw_40 (by decide) (by decide) (by decide) (by decide) hf (fun hf => lc_explained hC A B ho V S S9 i hin hf hr hP hD hS hl cont) (fun hn23 hf => ?_)
  refine z_tabin (v := 24) (off := 1310) (tgt := 1350) hx hb dLaw_40 (by decide) (by decide) (by decide) (by decide) hf (fun hf => lc_look hC A B ho V S S9 i hin hf hr hP hD hS hl cont) (fun hn24 hf => ?_)
  refine z_tabin (v := 25) (off := 1366) (tgt := 1406) hx hb dLaw_40 (by decide) (by decide) (by decide) (by decide) hf (fun hf => lc_forget hC A B ho V S S9 i hin hf hr hP hD hS hl cont) (fun hn25 hf => ?_)
  refine z_tabin (v := 26) (off := 1377) (tgt := 1417) hx hb dLaw_40 (by decide) (by decide) (by decide) (by decide) hf (fun hf => lc_years hC A B ho V S S9 i hin hf hr hP hD hS hl cont) (fun hn26 hf => ?_)
  refine z_tabin (v := 27) (off := 1457) (tgt := 1497) hx hb dLaw_40 (by decide) (by decide) (by decide) (by decide) hf (fun hf => lc_image hC A B ho V S S9 i hin hf hr hP hD hS hl cont) (fun hn27 hf => ?_)
  refine z_tabin (v := 28) (off := 1468) (tgt := 1508) hx hb dLaw_40 (by decide) (by decide) (by decide) (by decide) hf (fun hf => lc_restore hC A B ho V S S9 i hin hf hr hP hD hS hl cont) (fun hn28 hf => ?_)
  obtain rfl := Option.some.inj hf
  refine z_tabout (tgt := 1521) hx hb dLaw_40 (fun i h1 h2 => by rcases (show i = 0 ∨ i = 1 ∨ i = 2 ∨ i = 3 ∨ i = 4 ∨ i = 5 ∨ i = 6 ∨ i = 7 ∨ i = 8 ∨ i = 9 ∨ i = 10 ∨ i = 11 ∨ i = 12 ∨ i = 13 ∨ i = 14 ∨ i = 15 ∨ i = 16 ∨ i = 17 ∨ i = 18 ∨ i = 19 ∨ i = 20 ∨ i = 21 ∨ i = 22 ∨ i = 23 ∨ i = 24 ∨ i = 25 ∨ i = 26 ∨ i = 27 ∨ i = 28 by omega) with rfl | rfl | rfl | rfl | rfl | rfl | rfl | rfl | rfl | rfl | rfl | rfl | rfl | rfl | rfl | rfl | rfl | rfl | rfl | rfl | rfl | rfl | rfl | rfl | rfl | rfl | rfl | rfl | rfl <;> first | exact hn0 | exact hn1 | exact hn2 | exact hn3 | exact hn4 | exact hn5 | exact hn6 | exact hn7 | exact hn8 | exact hn9 | exact hn10 | exact hn11 | exact hn12 | exact hn13 | exact hn14 | exact hn15 | exact hn16 | exact hn17 | exact hn18 | exact hn19 | exact hn20 | exact hn21 | exact hn22 | exact hn23 | exact hn24 | exact hn25 | exact hn26 | exact hn27 | exact hn28) (by decide) ?_
  exact cont V _ _ _ hP hD hS hl
def runL (xs : Nat → Int32) : Nat → Int32 → LwS → Option LwS
  | 0, _, S => some S
  | k + 1, i, S => bd (stepL S (xs i.toNatClampNeg &&& 31) (xs (i + 1).toNatClampNeg) (xs (i + 2).toNatClampNeg) (xs (i + 3).toNatClampNeg) (xs (i + 4).toNatClampNeg) (xs (i + 5).toNatClampNeg)) fun T => if T.2.2.2.1 ≤ room_1.cells ∧ T.2.2.2.2 ≤ room_1.slots then runL xs k (i + 6) T else none
set_option maxHeartbeats 4000000 in
theorem law_loop {p : Program} {l : Launch} {e : Env} {s : State} {m : MethodId} {args : Array Value} {below : List Frame} {meth : Method} {c : Code} {Q : State → Prop} {D : va_G} {cI : ClassId} {cx : Cond} {b L : Nat} {xs : Nat → Int32} (hC : LawCtx p l room_1 s m args c D cI cx b L xs) (hL : L ≤ 3072) (A : CAd) (B : Nat × (Nat → Nat)) (ho : Nat) (S9 : LwS)
    (fin : ∀ (S : LwS) (H : Heap) (locs : List Loc) (ls : Array Slot), va_S (lA s) s.heap H locs → S.2.2.2.1 ≤ room_1.cells → S.2.2.2.2 ≤ room_1.slots → W p l e room_1 s m args below meth c H locs S.2.2.2.1 S.2.2.2.2 Q (F0 m 1527 ls [])) :
    ∀ (k j : Nat), j + k = L / 6 → ∀ (V : CV) (S : LwS) (H : Heap) (locs : List Loc) (ls : Array Slot), runL xs k (nI (6 * j)) S = some S9 → S.2.2.2.1 ≤ room_1.cells → S.2.2.2.2 ≤ room_1.slots → va_P D vwCl (lwW D cI A B ho V S) H → va_D (lA s) (lwW D cI A B ho V S) → va_S (lA s) s.heap H locs → lv_has ls 7 [(0, .ref b), (1, .ref A.1), (2, .ref B.1), (3, .ref ho), (4, .int (nI (6 * j)))] →
      W p l e room_1 s m args below meth c H locs S.2.2.2.1 S.2.2.2.2 Q (F0 m 23 ls []) := by
  obtain ⟨hx, hb, hml, hts, hcx, hown, hK, hX, hXs, hbl, hlt, hfr, hlo⟩ := id hC
  have hbA : ¬ lA s b := Nat.not_le.mpr hbl
  have e1 : (Int32.ofNat L - 6).toInt = (L : Int) - 6 := pk_sub_toInt (a := L) (b := 6) (by omega) (by decide)
  intro k
  induction k with
  | zero =>
    intro j hj V S H locs ls hf hc1 hs1 hP hD hS hl
    have e2 : (nI (6 * j)).toInt = ((6 * j : Nat) : Int) := nI_toInt (by omega)
    refine lv_iload hx hb dLaw_23 (lv_at hl 4 rfl) ?_
    refine lv_aload_n hx hb dLaw_25 rfl (lv_at hl 0 rfl) ?_
    refine va_slen (A := lA s) hx hb hXs hbl hbA hS dLaw_26 ?_
    refine lv_bipush (v := 6) hx hb dLaw_27 (by decide) ?_
    refine lv_isub hx hb dLaw_29 ?_
    refine lv_icmp_gt (tgt := 1527) hx hb dLaw_30 (by decide) (fun _ => fin S _ _ _ hS hc1 hs1) (fun h9 => absurd (Int32.lt_iff_toInt_lt.mpr (by rw [e1, e2]; omega)) h9)
  | succ k ih =>
    intro j hj V S H locs ls hf hc1 hs1 hP hD hS hl
    have e2 : (nI (6 * j)).toInt = ((6 * j : Nat) : Int) := nI_toInt (by omega)
    rw [runL] at hf
    obtain ⟨T, hT, hf⟩ := bd_some hf
    by_cases hr : T.2.2.2.1 ≤ room_1.cells ∧ T.2.2.2.2 ≤ room_1.slots
    case neg => cases ((if_neg hr).symm.trans hf)
    have hf := (if_pos hr).symm.trans hf
    refine lv_iload hx hb dLaw_23 (lv_at hl 4 rfl) ?_
    refine lv_aload_n hx hb dLaw_25 rfl (lv_at hl 0 rfl) ?_
    refine va_slen (A := lA s) hx hb hXs hbl hbA hS dLaw_26 ?_
    refine lv_bipush (v := 6) hx hb dLaw_27 (by decide) ?_
    refine lv_isub hx hb dLaw_29 ?_
    refine lv_icmp_gt (tgt := 1527) hx hb dLaw_30 (by decide) (fun h9 => absurd (Int32.lt_iff_toInt_lt.mp h9) (by rw [e1, e2]; omega)) (fun _ => ?_)
    refine law_step hC A B ho V S T (nI (6 * j)) (vp_in_nI (by omega) (by omega)) (fun q hq => ?_) hT hr hP hD hS hl (fun V H locs ls hP hD hS hl => ?_)
    · simp only [List.mem_cons, List.not_mem_nil, or_false] at hq
      rcases hq with rfl | rfl | rfl | rfl | rfl
      · show vp_in (nI (6 * j) + nI 1) L; rw [nI_add]; exact vp_in_nI (by omega) (by omega)
      · show vp_in (nI (6 * j) + nI 2) L; rw [nI_add]; exact vp_in_nI (by omega) (by omega)
      · show vp_in (nI (6 * j) + nI 3) L; rw [nI_add]; exact vp_in_nI (by omega) (by omega)
      · show vp_in (nI (6 * j) + nI 4) L; rw [nI_add]; exact vp_in_nI (by omega) (by omega)
      · show vp_in (nI (6 * j) + nI 5) L; rw [nI_add]; exact vp_in_nI (by omega) (by omega)
    · have e3 : nI (6 * j) + 6 = nI (6 * (j + 1)) := nI_add (6 * j) 6
      rw [e3] at hf
      refine lv_iinc (k := 4) (v := nI (6 * (j + 1))) (lv' := [(4, .int (nI (6 * (j + 1)))), (0, .ref b), (1, .ref A.1), (2, .ref B.1), (3, .ref ho)]) hx hb dLaw_1521 hl rfl e3 (by decide) rfl (fun ls hl => ?_)
      refine lv_goto (tgt := 23) hx hb dLaw_1524 (by decide) ?_
      exact ih (j + 1) (by omega) V T H locs ls hf hr.1 hr.2 hP hD hS (lv_sub hl [1, 2, 3, 4, 0] rfl)
