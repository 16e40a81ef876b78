def sL_shape (S : LwS) (a1 : Int32) (a2 : Int32) (a3 : Int32) (a4 : Int32) (a5 : Int32) : Option LwS := bd (pL_shape S.1 S.2.2.1 a1 a2) fun u => bd (pM_shape S.2.1 a1 a2) fun v => bd (pM_thrown v.2) fun t => if t.1 = u.1 then (if u.1 = 0 then (if lg_cmp (u.2.1 0) v.1.toInt64 = 0 then some (u.2.2, t.2, u.2.1, S.2.2.2.1 + 1, S.2.2.2.2 + 6) else none) else some (u.2.2, t.2, u.2.1, S.2.2.2.1 + 1, S.2.2.2.2 + 6)) else none
set_option maxHeartbeats 4000000 in
set_option maxRecDepth 100000 in
theorem lc_shape {p : Program} {l : Launch} {e : Env} {R : Room} {s : State} {m : MethodId} {args : Array Value} {below : List Frame} {meth : Method} {c : Code} {Q : State → Prop} {D : va_G} {cI : ClassId} {cx : Cond} {b L : Nat} {xs : Nat → Int32} (hC : LawCtx p l R s m args c D cI cx b L xs) (A : CAd) (B : Nat × (Nat → Nat)) (ho : Nat) (V : CV) (S S9 : LwS) (i : Int32) (hin : ∀ j : Int32, j ∈ ([1, 2, 3, 4, 5] : List Int32) → vp_in (i + j) L) (hf : sL_shape S (xs (i + 1).toNatClampNeg) (xs (i + 2).toNatClampNeg) (xs (i + 3).toNatClampNeg) (xs (i + 4).toNatClampNeg) (xs (i + 5).toNatClampNeg) = some S9) (hr : S9.2.2.2.1 ≤ R.cells ∧ S9.2.2.2.2 ≤ R.slots) {H : Heap} {locs : List Loc} {ls : Array Slot} (hP : va_P D vwCl (lwW D cI A B ho V S) H) (hD : va_D (lA s) (lwW D cI A B ho V S)) (hS : va_S (lA s) s.heap H locs) (hl : lv_has ls 7 [(0, .ref b), (1, .ref A.1), (2, .ref B.1), (3, .ref ho), (4, .int i)])
    (cont : ∀ (V : CV) (H : Heap) (locs : List Loc) (ls : Array Slot), va_P D vwCl (lwW D cI A B ho V S9) H → va_D (lA s) (lwW D cI A B ho V S9) → va_S (lA s) s.heap H locs → lv_has ls 7 [(0, .ref b), (1, .ref A.1), (2, .ref B.1), (3, .ref ho), (4, .int i)] → W p l e R s m args below meth c H locs S9.2.2.2.1 S9.2.2.2.2 Q (F0 m 1521 ls [])) : W p l e R s m args below meth c H locs S.2.2.2.1 S.2.2.2.2 Q (F0 m 604 ls []) := by
  obtain ⟨hx, hb, hml, hts, hcx, hown, hK, hX, hXs, hbl, hlt, hfr, hlo⟩ := hC
  have hbA : ¬ lA s b := Nat.not_le.mpr hbl
  have hA : ∀ q : Nat, s.heap.size ≤ q → lA s q := fun q h => h
  obtain ⟨u, hu, hf⟩ := bd_some hf
  obtain ⟨v, hv, hf⟩ := bd_some hf
  obtain ⟨t, ht, hf⟩ := bd_some hf
  by_cases h1 : t.1 = u.1
  case neg => cases ((if_neg h1).symm.trans hf)
  have hf := (if_pos h1).symm.trans hf
  by_cases h2 : u.1 = 0
  · have hf := (if_pos h2).symm.trans hf
    by_cases h3 : lg_cmp (u.2.1 0) v.1.toInt64 = 0
    case neg => cases ((if_neg h3).symm.trans hf)
    obtain rfl := Option.some.inj ((if_pos h3).symm.trans hf)
    refine lv_aload_n hx hb dLaw_604 rfl (lv_at hl 1 rfl) ?_
    refine lv_aload_n hx hb dLaw_605 rfl (lv_at hl 0 rfl) ?_
    refine lv_iload hx hb dLaw_606 (lv_at hl 4 rfl) ?_
    refine lv_iconst (v := 1) hx hb dLaw_608 (by decide) ?_
    refine lv_iadd hx hb dLaw_609 ?_
    refine va_sld (A := lA s) hx hb hXs hbl hbA hS (hin 1 (by decide)) dLaw_610 ?_
    refine lv_aload_n hx hb dLaw_611 rfl (lv_at hl 0 rfl) ?_
    refine lv_iload hx hb dLaw_612 (lv_at hl 4 rfl) ?_
    refine lv_iconst (v := 2) hx hb dLaw_614 (by decide) ?_
    refine lv_iadd hx hb dLaw_615 ?_
    refine va_sld (A := lA s) hx hb hXs hbl hbA hS (hin 2 (by decide)) dLaw_616 ?_
    refine lv_aload_n hx hb dLaw_617 rfl (lv_at hl 3 rfl) ?_
    refine z_cinF (ws1 := fun V => lwW D cI A B ho V (u.2.2, S.2.1, u.2.1, S.2.2.2)) (fr := rfw cI B S.2.1) (z_rSW (rest := []) (fr := rfw cI B S.2.1) (ws := lwW D cI A B ho V (S.1, S.2.1, S.2.2.1, S.2.2.2)) (As := [.ref A.1, .int (xs (i + 1).toNatClampNeg), .int (xs (i + 2).toNatClampNeg), .ref ho]) hx hb hml hown hcx hl.1 (h_shape l hlt D cI A ho V S.1 S.2.2.1 (xs (i + 1).toNatClampNeg) (xs (i + 2).toNatClampNeg) u hu _) tl_L_110 ts_L_shape tn_L tc_L_shape tm_L_shape rfl rfl ⟨Nat.le_trans (Nat.le_of_ble_eq_true rfl) hfr, Nat.le_trans (Nat.le_of_ble_eq_true rfl) hlo⟩ hK hX hS hA hP hD pq_h rfl rfl (Nat.le_of_ble_eq_true rfl) dLaw_618 ⟨hr.1, hr.2⟩) hP hD hS hA pq_h (fun _ => pq_h) (fun V H locs hP hD hS => ?_)
    refine lv_istore (lv' := [(5, .int u.1), (0, .ref b), (1, .ref A.1), (2, .ref B.1), (3, .ref ho), (4, .int i)]) hx hb dLaw_621 hl (by decide) rfl (fun ls hl => ?_)
    refine lv_aload_n hx hb dLaw_623 rfl (lv_at hl 3 rfl) ?_
    refine lv_aload_n hx hb dLaw_624 rfl (lv_at hl 1 rfl) ?_
    refine lv_iload hx hb dLaw_625 (lv_at hl 5 rfl) ?_
    refine lv_iconst (v := 1) hx hb dLaw_627 (by decide) ?_
    refine lv_iadd hx hb dLaw_628 ?_
    refine va_sld (A := lA s) hx hb hXs hbl hbA hS (hin 1 (by decide)) dLaw_629 ?_
    refine lv_aload_n hx hb dLaw_630 rfl (lv_at hl 1 rfl) ?_
    refine lv_iload hx hb dLaw_631 (lv_at hl 5 rfl) ?_
    refine lv_iconst (v := 2) hx hb dLaw_633 (by decide) ?_
    refine lv_iadd hx hb dLaw_634 ?_
    refine va_sld (A := lA s) hx hb hXs hbl hbA hS (hin 2 (by decide)) dLaw_635 ?_
    refine z_ciF (ws1 := lwW D cI A B ho V (u.2.2, v.2, u.2.1, S.2.2.2)) (fr := (ho, .inl (D.1 101, 1, .inr (.inl u.2.1))) :: cw D cI A V u.2.2) (z_rVF (rest := []) (fr := (ho, .inl (D.1 101, 1, .inr (.inl u.2.1))) :: cw D cI A V u.2.2) (ws := lwW D cI A B ho V (u.2.2, S.2.1, u.2.1, S.2.2.2)) (ci := 12) (b := B.1) (As := [.int (xs (i + 1).toNatClampNeg), .int (xs (i + 2).toNatClampNeg)]) hx hb hml hown hcx hl.1 (kM_shape l D cI B S.2.1 (xs (i + 1).toNatClampNeg) (xs (i + 2).toNatClampNeg) v hv _) tl_L_112 ti_X12_shape tz_X12_shape tn_X12 tc_X12_shape tm_X12_shape rfl rfl ⟨Nat.le_trans (Nat.le_of_ble_eq_true rfl) hfr, Nat.le_trans (Nat.le_of_ble_eq_true rfl) hlo⟩ hK hX hS hA hP hD pq_m ml_root rfl rfl rfl (Nat.le_of_ble_eq_true rfl) dLaw_636 ⟨hr.1, hr.2⟩) hP hD hS hA pq_m pq_m (fun H locs hP hD hS => ?_)
    refine lv_istore (lv' := [(6, .int v.1), (5, .int u.1), (0, .ref b), (1, .ref A.1), (2, .ref B.1), (3, .ref ho), (4, .int i)]) hx hb dLaw_639 hl (by decide) rfl (fun ls hl => ?_)
    refine lv_aload_n hx hb dLaw_641 rfl (lv_at hl 4 rfl) ?_
    refine z_ciF (ws1 := lwW D cI A B ho V (u.2.2, t.2, u.2.1, S.2.2.2)) (fr := (ho, .inl (D.1 101, 1, .inr (.inl u.2.1))) :: cw D cI A V u.2.2) (z_rVF (rest := []) (fr := (ho, .inl (D.1 101, 1, .inr (.inl u.2.1))) :: cw D cI A V u.2.2) (ws := lwW D cI A B ho V (u.2.2, v.2, u.2.1, S.2.2.2)) (ci := 12) (b := B.1) (As := []) hx hb hml hown hcx hl.1 (kM_thrown l D cI B v.2 t ht _) tl_L_83 ti_X12_thrown tz_X12_thrown tn_X12 tc_X12_thrown tm_X12_thrown rfl rfl ⟨Nat.le_trans (Nat.le_of_ble_eq_true rfl) hfr, Nat.le_trans (Nat.le_of_ble_eq_true rfl) hlo⟩ hK hX hS hA hP hD pq_m ml_root rfl rfl rfl (Nat.le_of_ble_eq_true rfl) dLaw_642 ⟨hr.1, hr.2⟩) hP hD hS hA pq_m pq_m (fun H locs hP hD hS => ?_)
    refine lv_iload hx hb dLaw_645 (lv_at hl 1 rfl) ?_
    refine lv_icmp_eq (tgt := 652) hx hb dLaw_647 (by decide) (fun _ => ?_) (fun h9 => absurd h1 h9)
    refine lv_iload hx hb dLaw_652 (lv_at hl 1 rfl) ?_
    refine lv_if_ne (tgt := 669) hx hb dLaw_654 (by decide) (fun h9 => absurd h2 h9) (fun _ => ?_)
    refine lv_aload_n hx hb dLaw_657 rfl (lv_at hl 5 rfl) ?_
    refine lv_iconst (v := 0) hx hb dLaw_658 (by decide) ?_
    refine va_lald (a := ho) hx hb hK.1 hP 0 2 rfl rfl (i := 0) vp_in01 dLaw_659 ?_
    refine lv_iload hx hb dLaw_660 (lv_at hl 0 rfl) ?_
    refine lv_i2l hx hb dLaw_662 rfl ?_
    refine W.lcmp hx hb dLaw_663 ?_
    refine lv_if_eq (tgt := 669) hx hb dLaw_664 (by decide) (fun _ => ?_) (fun h9 => absurd h3 h9)
    refine lv_goto (tgt := 1521) hx hb dLaw_669 (by decide) ?_
    exact cont V _ _ _ hP hD hS (lv_sub hl [2, 3, 4, 5, 6] rfl)
  · obtain rfl := Option.some.inj ((if_neg h2).symm.trans hf)
    refine lv_aload_n hx hb dLaw_604 rfl (lv_at hl 1 rfl) ?_
    refine lv_aload_n hx hb dLaw_605 rfl (lv_at hl 0 rfl) ?_
    refine lv_iload hx hb dLaw_606 (lv_at hl 4 rfl) ?_
    refine lv_iconst (v := 1) hx hb dLaw_608 (by decide) ?_
    refine lv_iadd hx hb dLaw_609 ?_
    refine va_sld (A := lA s) hx hb hXs hbl hbA hS (hin 1 (by decide)) dLaw_610 ?_
    refine lv_aload_n hx hb dLaw_611 rfl (lv_at hl 0 rfl) ?_
    refine lv_iload hx hb dLaw_612 (lv_at hl 4 rfl) ?_
    refine lv_iconst (v := 2) hx hb dLaw_614 (by decide) ?_
    refine lv_iadd hx hb dLaw_615 ?_
    refine va_sld (A := lA s) hx hb hXs hbl hbA hS (hin 2 (by decide)) dLaw_616 ?_
    refine lv_aload_n hx hb dLaw_617 rfl (lv_at hl 3 rfl) ?_
    refine z_cinF (ws1 := fun V => lwW D cI A B ho V (u.2.2, S.2.1, u.2.1, S.2.2.2)) (fr := rfw cI B S.2.1) (z_rSW (rest := []) (fr := rfw cI B S.2.1) (ws := lwW D cI A B ho V (S.1, S.2.1, S.2.2.1, S.2.2.2)) (As := [.ref A.1, .int (xs (i + 1).toNatClampNeg), .int (xs (i + 2).toNatClampNeg), .ref ho]) hx hb hml hown hcx hl.1 (h_shape l hlt D cI A ho V S.1 S.2.2.1 (xs (i + 1).toNatClampNeg) (xs (i + 2).toNatClampNeg) u hu _) tl_L_110 ts_L_shape tn_L tc_L_shape tm_L_shape rfl rfl ⟨Nat.le_trans (Nat.le_of_ble_eq_true rfl) hfr, Nat.le_trans (Nat.le_of_ble_eq_true rfl) hlo⟩ hK hX hS hA hP hD pq_h rfl rfl (Nat.le_of_ble_eq_true rfl) dLaw_618 ⟨hr.1, hr.2⟩) hP hD hS hA pq_h (fun _ => pq_h) (fun V H locs hP hD hS => ?_)
    refine lv_istore (lv' := [(5, .int u.1), (0, .ref b), (1, .ref A.1), (2, .ref B.1), (3, .ref ho), (4, .int i)]) hx hb dLaw_621 hl (by decide) rfl (fun ls hl => ?_)
    refine lv_aload_n hx hb dLaw_623 rfl (lv_at hl 3 rfl) ?_
    refine lv_aload_n hx hb dLaw_624 rfl (lv_at hl 1 rfl) ?_
    refine lv_iload hx hb dLaw_625 (lv_at hl 5 rfl) ?_
    refine lv_iconst (v := 1) hx hb dLaw_627 (by decide) ?_
    refine lv_iadd hx hb dLaw_628 ?_
    refine va_sld (A := lA s) hx hb hXs hbl hbA hS (hin 1 (by decide)) dLaw_629 ?_
    refine lv_aload_n hx hb dLaw_630 rfl (lv_at hl 1 rfl) ?_
    refine lv_iload hx hb dLaw_631 (lv_at hl 5 rfl) ?_
    refine lv_iconst (v := 2) hx hb dLaw_633 (by decide) ?_
    refine lv_iadd hx hb dLaw_634 ?_
    refine va_sld (A := lA s) hx hb hXs hbl hbA hS (hin 2 (by decide)) dLaw_635 ?_
    refine z_ciF (ws1 := lwW D cI A B ho V (u.2.2, v.2, u.2.1, S.2.2.2)) (fr := (ho, .inl (D.1 101, 1, .inr (.inl u.2.1))) :: cw D cI A V u.2.2) (z_rVF (rest := []) (fr := (ho, .inl (D.1 101, 1, .inr (.inl u.2.1))) :: cw D cI A V u.2.2) (ws := lwW D cI A B ho V (u.2.2, S.2.1, u.2.1, S.2.2.2)) (ci := 12) (b := B.1) (As := [.int (xs (i + 1).toNatClampNeg), .int (xs (i + 2).toNatClampNeg)]) hx hb hml hown hcx hl.1 (kM_shape l D cI B S.2.1 (xs (i + 1).toNatClampNeg) (xs (i + 2).toNatClampNeg) v hv _) tl_L_112 ti_X12_shape tz_X12_shape tn_X12 tc_X12_shape tm_X12_shape rfl rfl ⟨Nat.le_trans (Nat.le_of_ble_eq_true rfl) hfr, Nat.le_trans (Nat.le_of_ble_eq_true rfl) hlo⟩ hK hX hS hA hP hD pq_m ml_root rfl rfl rfl (Nat.le_of_ble_eq_true rfl) dLaw_636 ⟨hr.1, hr.2⟩) hP hD hS hA pq_m pq_m (fun H locs hP hD hS => ?_)
    refine lv_istore (lv' := [(6, .int v.1), (5, .int u.1), (0, .ref b), (1, .ref A.1), (2, .ref B.1), (3, .ref ho), (4, .int i)]) hx hb dLaw_639 hl (by decide) rfl (fun ls hl => ?_)
    refine lv_aload_n hx hb dLaw_641 rfl (lv_at hl 4 rfl) ?_
    refine z_ciF (ws1 := lwW D cI A B ho V (u.2.2, t.2, u.2.1, S.2.2.2)) (fr := (ho, .inl (D.1 101, 1, .inr (.inl u.2.1))) :: cw D cI A V u.2.2) (z_rVF (rest := []) (fr := (ho, .inl (D.1 101, 1, .inr (.inl u.2.1))) :: cw D cI A V u.2.2) (ws := lwW D cI A B ho V (u.2.2, v.2, u.2.1, S.2.2.2)) (ci := 12) (b := B.1) (As := []) hx hb hml hown hcx hl.1 (kM_thrown l D cI B v.2 t ht _) tl_L_83 ti_X12_thrown tz_X12_thrown tn_X12 tc_X12_thrown tm_X12_thrown rfl rfl ⟨Nat.le_trans (Nat.le_of_ble_eq_true rfl) hfr, Nat.le_trans (Nat.le_of_ble_eq_true rfl) hlo⟩ hK hX hS hA hP hD pq_m ml_root rfl rfl rfl (Nat.le_of_ble_eq_true rfl) dLaw_642 ⟨hr.1, hr.2⟩) hP hD hS hA pq_m pq_m (fun H locs hP hD hS => ?_)
    refine lv_iload hx hb dLaw_645 (lv_at hl 1 rfl) ?_
    refine lv_icmp_eq (tgt := 652) hx hb dLaw_647 (by decide) (fun _ => ?_) (fun h9 => absurd h1 h9)
    refine lv_iload hx hb dLaw_652 (lv_at hl 1 rfl) ?_
    refine lv_if_ne (tgt := 669) hx hb dLaw_654 (by decide) (fun _ => ?_) (fun h9 => absurd h9 h2)
    refine lv_goto (tgt := 1521) hx hb dLaw_669 (by decide) ?_
    exact cont V _ _ _ hP hD hS (lv_sub hl [2, 3, 4, 5, 6] rfl)
def sL_steps (S : LwS) (a1 : Int32) (a2 : Int32) (a3 : Int32) (a4 : Int32) (a5 : Int32) : Option LwS := bd (pX_steps S.1 a1) fun u => bd (pM_steps S.2.1 a1) fun v => if u.1 = v.1 then some (u.2, v.2, S.2.2.1, S.2.2.2.1 + 11, S.2.2.2.2 + 432) else none
set_option maxHeartbeats 4000000 in
set_option maxRecDepth 100000 in
theorem lc_steps {p : Program} {l : Launch} {e : Env} {R : Room} {s : State} {m : MethodId} {args : Array Value} {below : List Frame} {meth : Method} {c : Code} {Q : State → Prop} {D : va_G} {cI : ClassId} {cx : Cond} {b L : Nat} {xs : Nat → Int32} (hC : LawCtx p l R s m args c D cI cx b L xs) (A : CAd) (B : Nat × (Nat → Nat)) (ho : Nat) (V : CV) (S S9 : LwS) (i : Int32) (hin : ∀ j : Int32, j ∈ ([1, 2, 3, 4, 5] : List Int32) → vp_in (i + j) L) (hf : sL_steps S (xs (i + 1).toNatClampNeg) (xs (i + 2).toNatClampNeg) (xs (i + 3).toNatClampNeg) (xs (i + 4).toNatClampNeg) (xs (i + 5).toNatClampNeg) = some S9) (hr : S9.2.2.2.1 ≤ R.cells ∧ S9.2.2.2.2 ≤ R.slots) {H : Heap} {locs : List Loc} {ls : Array Slot} (hP : va_P D vwCl (lwW D cI A B ho V S) H) (hD : va_D (lA s) (lwW D cI A B ho V S)) (hS : va_S (lA s) s.heap H locs) (hl : lv_has ls 7 [(0, .ref b), (1, .ref A.1), (2, .ref B.1), (3, .ref ho), (4, .int i)])
    (cont : ∀ (V : CV) (H : Heap) (locs : List Loc) (ls : Array Slot), va_P D vwCl (lwW D cI A B ho V S9) H → va_D (lA s) (lwW D cI A B ho V S9) → va_S (lA s) s.heap H locs → lv_has ls 7 [(0, .ref b), (1, .ref A.1), (2, .ref B.1), (3, .ref ho), (4, .int i)] → W p l e R s m args below meth c H locs S9.2.2.2.1 S9.2.2.2.2 Q (F0 m 1521 ls [])) : W p l e R s m args below meth c H locs S.2.2.2.1 S.2.2.2.2 Q (F0 m 672 ls []) := by
  obtain ⟨hx, hb, hml, hts, hcx, hown, hK, hX, hXs, hbl, hlt, hfr, hlo⟩ := hC
  have hbA : ¬ lA s b := Nat.not_le.mpr hbl
  have hA : ∀ q : Nat, s.heap.size ≤ q → lA s q := fun q h => h
  obtain ⟨u, hu, hf⟩ := bd_some hf
  obtain ⟨v, hv, hf⟩ := bd_some hf
  by_cases h1 : u.1 = v.1
  case neg => cases ((if_neg h1).symm.trans hf)
  obtain rfl := Option.some.inj ((if_pos h1).symm.trans hf)
  refine lv_aload_n hx hb dLaw_672 rfl (lv_at hl 1 rfl) ?_
  refine lv_aload_n hx hb dLaw_673 rfl (lv_at hl 0 rfl) ?_
  refine lv_iload hx hb dLaw_674 (lv_at hl 4 rfl) ?_
  refine lv_iconst (v := 1) hx hb dLaw_676 (by decide) ?_
  refine lv_iadd hx hb dLaw_677 ?_
  refine va_sld (A := lA s) hx hb hXs hbl hbA hS (hin 1 (by decide)) dLaw_678 ?_
  refine z_cinF (ws1 := fun V => lwW D cI A B ho V (u.2, S.2.1, S.2.2.1, S.2.2.2)) (fr := (ho, .inl (D.1 101, 1, .inr (.inl S.2.2.1))) :: rfw cI B S.2.1) (z_rVF (rest := []) (fr := (ho, .inl (D.1 101, 1, .inr (.inl S.2.2.1))) :: rfw cI B S.2.1) (ws := lwW D cI A B ho V (S.1, S.2.1, S.2.2.1, S.2.2.2)) (ci := 11) (b := A.1) (As := [.int (xs (i + 1).toNatClampNeg)]) hx hb hml hown hcx hl.1 (k_steps l D cI A V S.1 (xs (i + 1).toNatClampNeg) u hu _) tl_L_113 ti_X11_steps tz_X11_steps tn_X11 tc_X11_steps tm_X11_steps rfl rfl ⟨Nat.le_trans (Nat.le_of_ble_eq_true rfl) hfr, Nat.le_trans (Nat.le_of_ble_eq_true rfl) hlo⟩ hK hX hS hA hP hD pq_c cw_root rfl rfl rfl (Nat.le_of_ble_eq_true rfl) dLaw_679 ⟨hr.1, hr.2⟩) hP hD hS hA pq_c (fun _ => pq_c) (fun V H locs hP hD hS => ?_)
  refine lv_aload_n hx hb dLaw_682 rfl (lv_at hl 2 rfl) ?_
  refine lv_aload_n hx hb dLaw_683 rfl (lv_at hl 0 rfl) ?_
  refine lv_iload hx hb dLaw_684 (lv_at hl 4 rfl) ?_
  refine lv_iconst (v := 1) hx hb dLaw_686 (by decide) ?_
  refine lv_iadd hx hb dLaw_687 ?_
  refine va_sld (A := lA s) hx hb hXs hbl hbA hS (hin 1 (by decide)) dLaw_688 ?_
  refine z_ciF (ws1 := lwW D cI A B ho V (u.2, v.2, S.2.2.1, S.2.2.2)) (fr := (ho, .inl (D.1 101, 1, .inr (.inl S.2.2.1))) :: cw D cI A V u.2) (z_rVF (rest := [.int u.1]) (fr := (ho, .inl (D.1 101, 1, .inr (.inl S.2.2.1))) :: cw D cI A V u.2) (ws := lwW D cI A B ho V (u.2, S.2.1, S.2.2.1, S.2.2.2)) (ci := 12) (b := B.1) (As := [.int (xs (i + 1).toNatClampNeg)]) hx hb hml hown hcx hl.1 (kM_steps l D cI B S.2.1 (xs (i + 1).toNatClampNeg) v hv _) tl_L_116 ti_X12_steps tz_X12_steps tn_X12 tc_X12_steps tm_X12_steps rfl rfl ⟨Nat.le_trans (Nat.le_of_ble_eq_true rfl) hfr, Nat.le_trans (Nat.le_of_ble_eq_true rfl) hlo⟩ hK hX hS hA hP hD pq_m ml_root rfl rfl rfl (Nat.le_of_ble_eq_true rfl) dLaw_689 ⟨hr.1, hr.2⟩) hP hD hS hA pq_m pq_m (fun H locs hP hD hS => ?_)
  refine lv_icmp_eq (tgt := 1521) hx hb dLaw_692 (by decide) (fun _ => ?_) (fun h9 => absurd h1 h9)
  exact cont V _ _ _ hP hD hS (lv_sub hl [0, 1, 2, 3, 4] rfl)
def sL_evict (S : LwS) (a1 : Int32) (a2 : Int32) (a3 : Int32) (a4 : Int32) (a5 : Int32) : Option LwS := bd (pL_evict S.1 S.2.2.1 a1 a2) fun u => bd (pM_evict S.2.1 a1 a2) fun v => bd (pM_thrown v.2) fun t => if t.1 = u.1 then (if u.1 = 0 then (if lg_cmp (u.2.1 0) v.1.toInt64 = 0 then some (u.2.2, t.2, u.2.1, S.2.2.2.1 + 11, S.2.2.2.2 + 432) else none) else some (u.2.2, t.2, u.2.1, S.2.2.2.1 + 11, S.2.2.2.2 + 432)) else none
set_option maxHeartbeats 4000000 in
set_option maxRecDepth 100000 in
theorem lc_evict {p : Program} {l : Launch} {e : Env} {R : Room} {s : State} {m : MethodId} {args : Array Value} {below : List Frame} {meth : Method} {c : Code} {Q : State → Prop} {D : va_G} {cI : ClassId} {cx : Cond} {b L : Nat} {xs : Nat → Int32} (hC : LawCtx p l R s m args c D cI cx b L xs) (A : CAd) (B : Nat × (Nat → Nat)) (ho : Nat) (V : CV) (S S9 : LwS) (i : Int32) (hin : ∀ j : Int32, j ∈ ([1, 2, 3, 4, 5] : List Int32) → vp_in (i + j) L) (hf : sL_evict S (xs (i + 1).toNatClampNeg) (xs (i + 2).toNatClampNeg) (xs (i + 3).toNatClampNeg) (xs (i + 4).toNatClampNeg) (xs (i + 5).toNatClampNeg) = some S9) (hr : S9.2.2.2.1 ≤ R.cells ∧ S9.2.2.2.2 ≤ R.slots) {H : Heap} {locs : List Loc} {ls : Array Slot} (hP : va_P D vwCl (lwW D cI A B ho V S) H) (hD : va_D (lA s) (lwW D cI A B ho V S)) (hS : va_S (lA s) s.heap H locs) (hl : lv_has ls 7 [(0, .ref b), (1, .ref A.1), (2, .ref B.1), (3, .ref ho), (4, .int i)])
    (cont : ∀ (V : CV) (H : Heap) (locs : List Loc) (ls : Array Slot), va_P D vwCl (lwW D cI A B ho V S9) H → va_D (lA s) (lwW D cI A B ho V S9) → va_S (lA s) s.heap H locs → lv_has ls 7 [(0, .ref b), (1, .ref A.1), (2, .ref B.1), (3, .ref ho), (4, .int i)] → W p l e R s m args below meth c H locs S9.2.2.2.1 S9.2.2.2.2 Q (F0 m 1521 ls [])) : W p l e R s m args below meth c H locs S.2.2.2.1 S.2.2.2.2 Q (F0 m 697 ls []) := by
  obtain ⟨hx, hb, hml, hts, hcx, hown, hK, hX, hXs, hbl, hlt, hfr, hlo⟩ := hC
  have hbA : ¬ lA s b := Nat.not_le.mpr hbl
  have hA : ∀ q : Nat, s.heap.size ≤ q → lA s q := fun q h => h
  obtain ⟨u, hu, hf⟩ := bd_some hf
  obtain ⟨v, hv, hf⟩ := bd_some hf
  obtain ⟨t, ht, hf⟩ := bd_some hf
  by_cases h1 : t.1 = u.1
  case neg => cases ((if_neg h1).symm.trans hf)
  have hf := (if_pos h1).symm.trans hf
  by_cases h2 : u.1 = 0
  · have hf := (if_pos h2).symm.trans hf
    by_cases h3 : lg_cmp (u.2.1 0) v.1.toInt64 = 0
    case neg => cases ((if_neg h3).symm.trans hf)
    obtain rfl := Option.some.inj ((if_pos h3).symm.trans hf)
    refine lv_aload_n hx hb dLaw_697 rfl (lv_at hl 1 rfl) ?_
    refine lv_aload_n hx hb dLaw_698 rfl (lv_at hl 0 rfl) ?_
    refine lv_iload hx hb dLaw_699 (lv_at hl 4 rfl) ?_
    refine lv_iconst (v := 1) hx hb dLaw_701 (by decide) ?_
    refine lv_iadd hx hb dLaw_702 ?_
    refine va_sld (A := lA s) hx hb hXs hbl hbA hS (hin 1 (by decide)) dLaw_703 ?_
    refine lv_aload_n hx hb dLaw_704 rfl (lv_at hl 0 rfl) ?_
    refine lv_iload hx hb dLaw_705 (lv_at hl 4 rfl) ?_
    refine lv_iconst (v := 2) hx hb dLaw_707 (by decide) ?_
    refine lv_iadd hx hb dLaw_708 ?_
    refine va_sld (A := lA s) hx hb hXs hbl hbA hS (hin 2 (by decide)) dLaw_709 ?_
    refine lv_aload_n hx hb dLaw_710 rfl (lv_at hl 3 rfl) ?_
    refine z_cinF (ws1 := fun V => lwW D cI A B ho V (u.2.2, S.2.1, u.2.1, S.2.2.2)) (fr := rfw cI B S.2.1) (z_rSW (rest := []) (fr := rfw cI B S.2.1) (ws := lwW D cI A B ho V (S.1, S.2.1, S.2.2.1, S.2.2.2)) (As := [.ref A.1, .int (xs (i + 1).toNatClampNeg), .int (xs (i + 2).toNatClampNeg), .ref ho]) hx hb hml hown hcx hl.1 (h_evict l hlt D cI A ho V S.1 S.2.2.1 (xs (i + 1).toNatClampNeg) (xs (i + 2).toNatClampNeg) u hu _) tl_L_117 ts_L_evict tn_L tc_L_evict tm_L_evict rfl rfl ⟨Nat.le_trans (Nat.le_of_ble_eq_true rfl) hfr, Nat.le_trans (Nat.le_of_ble_eq_true rfl) hlo⟩ hK hX hS hA hP hD pq_h rfl rfl (Nat.le_of_ble_eq_true rfl) dLaw_711 ⟨hr.1, hr.2⟩) hP hD hS hA pq_h (fun _ => pq_h) (fun V H locs hP hD hS => ?_)
    refine lv_istore (lv' := [(5, .int u.1), (0, .ref b), (1, .ref A.1), (2, .ref B.1), (3, .ref ho), (4, .int i)]) hx hb dLaw_714 hl (by decide) rfl (fun ls hl => ?_)
    refine lv_aload_n hx hb dLaw_716 rfl (lv_at hl 3 rfl) ?_
    refine lv_aload_n hx hb dLaw_717 rfl (lv_at hl 1 rfl) ?_
    refine lv_iload hx hb dLaw_718 (lv_at hl 5 rfl) ?_
    refine lv_iconst (v := 1) hx hb dLaw_720 (by decide) ?_
    refine lv_iadd hx hb dLaw_721 ?_
    refine va_sld (A := lA s) hx hb hXs hbl hbA hS (hin 1 (by decide)) dLaw_722 ?_
    refine lv_aload_n hx hb dLaw_723 rfl (lv_at hl 1 rfl) ?_
    refine lv_iload hx hb dLaw_724 (lv_at hl 5 rfl) ?_
    refine lv_iconst (v := 2) hx hb dLaw_726 (by decide) ?_
    refine lv_iadd hx hb dLaw_727 ?_
    refine va_sld (A := lA s) hx hb hXs hbl hbA hS (hin 2 (by decide)) dLaw_728 ?_
    refine z_ciF (ws1 := lwW D cI A B ho V (u.2.2, v.2, u.2.1, S.2.2.2)) (fr := (ho, .inl (D.1 101, 1, .inr (.inl u.2.1))) :: cw D cI A V u.2.2) (z_rVF (rest := []) (fr := (ho, .inl (D.1 101, 1, .inr (.inl u.2.1))) :: cw D cI A V u.2.2) (ws := lwW D cI A B ho V (u.2.2, S.2.1, u.2.1, S.2.2.2)) (ci := 12) (b := B.1) (As := [.int (xs (i + 1).toNatClampNeg), .int (xs (i + 2).toNatClampNeg)]) hx hb hml hown hcx hl.1 (kM_evict l D cI B S.2.1 (xs (i + 1).toNatClampNeg) (xs (i + 2).toNatClampNeg) v hv _) tl_L_119 ti_X12_evict tz_X12_evict tn_X12 tc_X12_evict tm_X12_evict rfl rfl ⟨Nat.le_trans (Nat.le_of_ble_eq_true rfl) hfr, Nat.le_trans (Nat.le_of_ble_eq_true rfl) hlo⟩ hK hX hS hA hP hD pq_m ml_root rfl rfl rfl (Nat.le_of_ble_eq_true rfl) dLaw_729 ⟨hr.1, hr.2⟩) hP hD hS hA pq_m pq_m (fun H locs hP hD hS => ?_)
    refine lv_istore (lv' := [(6, .int v.1), (5, .int u.1), (0, .ref b), (1, .ref A.1), (2, .ref B.1), (3, .ref ho), (4, .int i)]) hx hb dLaw_732 hl (by decide) rfl (fun ls hl => ?_)
    refine lv_aload_n hx hb dLaw_734 rfl (lv_at hl 4 rfl) ?_
    refine z_ciF (ws1 := lwW D cI A B ho V (u.2.2, t.2, u.2.1, S.2.2.2)) (fr := (ho, .inl (D.1 101, 1, .inr (.inl u.2.1))) :: cw D cI A V u.2.2) (z_rVF (rest := []) (fr := (ho, .inl (D.1 101, 1, .inr (.inl u.2.1))) :: cw D cI A V u.2.2) (ws := lwW D cI A B ho V (u.2.2, v.2, u.2.1, S.2.2.2)) (ci := 12) (b := B.1) (As := []) hx hb hml hown hcx hl.1 (kM_thrown l D cI B v.2 t ht _) tl_L_83 ti_X12_thrown tz_X12_thrown tn_X12 tc_X12_thrown tm_X12_thrown rfl rfl ⟨Nat.le_trans (Nat.le_of_ble_eq_true rfl) hfr, Nat.le_trans (Nat.le_of_ble_eq_true rfl) hlo⟩ hK hX hS hA hP hD pq_m ml_root rfl rfl rfl (Nat.le_of_ble_eq_true rfl) dLaw_735 ⟨hr.1, hr.2⟩) hP hD hS hA pq_m pq_m (fun H locs hP hD hS => ?_)
    refine lv_iload hx hb dLaw_738 (lv_at hl 1 rfl) ?_
    refine lv_icmp_eq (tgt := 745) hx hb dLaw_740 (by decide) (fun _ => ?_) (fun h9 => absurd h1 h9)
    refine lv_iload hx hb dLaw_745 (lv_at hl 1 rfl) ?_
    refine lv_if_ne (tgt := 762) hx hb dLaw_747 (by decide) (fun h9 => absurd h2 h9) (fun _ => ?_)
    refine lv_aload_n hx hb dLaw_750 rfl (lv_at hl 5 rfl) ?_
    refine lv_iconst (v := 0) hx hb dLaw_751 (by decide) ?_
    refine va_lald (a := ho) hx hb hK.1 hP 0 2 rfl rfl (i := 0) vp_in01 dLaw_752 ?_
    refine lv_iload hx hb dLaw_753 (lv_at hl 0 rfl) ?_
    refine lv_i2l hx hb dLaw_755 rfl ?_
    refine W.lcmp hx hb dLaw_756 ?_
    refine lv_if_eq (tgt := 762) hx hb dLaw_757 (by decide) (fun _ => ?_) (fun h9 => absurd h3 h9)
    refine lv_goto (tgt := 1521) hx hb dLaw_762 (by decide) ?_
    exact cont V _ _ _ hP hD hS (lv_sub hl [2, 3, 4, 5, 6] rfl)
  · obtain rfl := Option.some.inj ((if_neg h2).symm.trans hf)
    refine lv_aload_n hx hb dLaw_697 rfl (lv_at hl 1 rfl) ?_
    refine lv_aload_n hx hb dLaw_698 rfl (lv_at hl 0 rfl) ?_
    refine lv_iload hx hb dLaw_699 (lv_at hl 4 rfl) ?_
    refine lv_iconst (v := 1) hx hb dLaw_701 (by decide) ?_
    refine lv_iadd hx hb dLaw_702 ?_
    refine va_sld (A := lA s) hx hb hXs hbl hbA hS (hin 1 (by decide)) dLaw_703 ?_
    refine lv_aload_n hx hb dLaw_704 rfl (lv_at hl 0 rfl) ?_
    refine lv_iload hx hb dLaw_705 (lv_at hl 4 rfl) ?_
    refine lv_iconst (v := 2) hx hb dLaw_707 (by decide) ?_
    refine lv_iadd hx hb dLaw_708 ?_
    refine va_sld (A := lA s) hx hb hXs hbl hbA hS (hin 2 (by decide)) dLaw_709 ?_
    refine lv_aload_n hx hb dLaw_710 rfl (lv_at hl 3 rfl) ?_
    refine z_cinF (ws1 := fun V => lwW D cI A B ho V (u.2.2, S.2.1, u.2.1, S.2.2.2)) (fr := rfw cI B S.2.1) (z_rSW (rest := []) (fr := rfw cI B S.2.1) (ws := lwW D cI A B ho V (S.1, S.2.1, S.2.2.1, S.2.2.2)) (As := [.ref A.1, .int (xs (i + 1).toNatClampNeg), .int (xs (i + 2).toNatClampNeg), .ref ho]) hx hb hml hown hcx hl.1 (h_evict l hlt D cI A ho V S.1 S.2.2.1 (xs (i + 1).toNatClampNeg) (xs (i + 2).toNatClampNeg) u hu _) tl_L_117 ts_L_evict tn_L tc_L_evict tm_L_evict rfl rfl ⟨Nat.le_trans (Nat.le_of_ble_eq_true rfl) hfr, Nat.le_trans (Nat.le_of_ble_eq_true rfl) hlo⟩ hK hX hS hA hP hD pq_h rfl rfl (Nat.le_of_ble_eq_true rfl) dLaw_711 ⟨hr.1, hr.2⟩) hP hD hS hA pq_h (fun _ => pq_h) (fun V H locs hP hD hS => ?_)
    refine lv_istore (lv' := [(5, .int u.1), (0, .ref b), (1, .ref A.1), (2, .ref B.1), (3, .ref ho), (4, .int i)]) hx hb dLaw_714 hl (by decide) rfl (fun ls hl => ?_)
    refine lv_aload_n hx hb dLaw_716 rfl (lv_at hl 3 rfl) ?_
    refine lv_aload_n hx hb dLaw_717 rfl (lv_at hl 1 rfl) ?_
    refine lv_iload hx hb dLaw_718 (lv_at hl 5 rfl) ?_
    refine lv_iconst (v := 1) hx hb dLaw_720 (by decide) ?_
    refine lv_iadd hx hb dLaw_721 ?_
    refine va_sld (A := lA s) hx hb hXs hbl hbA hS (hin 1 (by decide)) dLaw_722 ?_
    refine lv_aload_n hx hb dLaw_723 rfl (lv_at hl 1 rfl) ?_
    refine lv_iload hx hb dLaw_724 (lv_at hl 5 rfl) ?_
    refine lv_iconst (v := 2) hx hb dLaw_726 (by decide) ?_
    refine lv_iadd hx hb dLaw_727 ?_
    refine va_sld (A := lA s) hx hb hXs hbl hbA hS (hin 2 (by decide)) dLaw_728 ?_
    refine z_ciF (ws1 := lwW D cI A B ho V (u.2.2, v.2, u.2.1, S.2.2.2)) (fr := (ho, .inl (D.1 101, 1, .inr (.inl u.2.1))) :: cw D cI A V u.2.2) (z_rVF (rest := []) (fr := (ho, .inl (D.1 101, 1, .inr (.inl u.2.1))) :: cw D cI A V u.2.2) (ws := lwW D cI A B ho V (u.2.2, S.2.1, u.2.1, S.2.2.2)) (ci := 12) (b := B.1) (As := [.int (xs (i + 1).toNatClampNeg), .int (xs (i + 2).toNatClampNeg)]) hx hb hml hown hcx hl.1 (kM_evict l D cI B S.2.1 (xs (i + 1).toNatClampNeg) (xs (i + 2).toNatClampNeg) v hv _) tl_L_119 ti_X12_evict tz_X12_evict tn_X12 tc_X12_evict tm_X12_evict rfl rfl ⟨Nat.le_trans (Nat.le_of_ble_eq_true rfl) hfr, Nat.le_trans (Nat.le_of_ble_eq_true rfl) hlo⟩ hK hX hS hA hP hD pq_m ml_root rfl rfl rfl (Nat.le_of_ble_eq_true rfl) dLaw_729 ⟨hr.1, hr.2⟩) hP hD hS hA pq_m pq_m (fun H locs hP hD hS => ?_)
    refine lv_istore (lv' := [(6, .int v.1), (5, .int u.1), (0, .ref b), (1, .ref A.1), (2, .ref B.1), (3, .ref ho), (4, .int i)]) hx hb dLaw_732 hl (by decide) rfl (fun ls hl => ?_)
    refine lv_aload_n hx hb dLaw_734 rfl (lv_at hl 4 rfl) ?_
    refine z_ciF (ws1 := lwW D cI A B ho V (u.2.2, t.2, u.2.1, S.2.2.2)) (fr := (ho, .inl (D.1 101, 1, .inr (.inl u.2.1))) :: cw D cI A V u.2.2) (z_rVF (rest := []) (fr := (ho, .inl (D.1 101, 1, .inr (.inl u.2.1))) :: cw D cI A V u.2.2) (ws := lwW D cI A B ho V (u.2.2, v.2, u.2.1, S.2.2.2)) (ci := 12) (b := B.1) (As := []) hx hb hml hown hcx hl.1 (kM_thrown l D cI B v.2 t ht _) tl_L_83 ti_X12_thrown tz_X12_thrown tn_X12 tc_X12_thrown tm_X12_thrown rfl rfl ⟨Nat.le_trans (Nat.le_of_ble_eq_true rfl) hfr, Nat.le_trans (Nat.le_of_ble_eq_true rfl) hlo⟩ hK hX hS hA hP hD pq_m ml_root rfl rfl rfl (Nat.le_of_ble_eq_true rfl) dLaw_735 ⟨hr.1, hr.2⟩) hP hD hS hA pq_m pq_m (fun H locs hP hD hS => ?_)
    refine lv_iload hx hb dLaw_738 (lv_at hl 1 rfl) ?_
    refine lv_icmp_eq (tgt := 745) hx hb dLaw_740 (by decide) (fun _ => ?_) (fun h9 => absurd h1 h9)
    refine lv_iload hx hb dLaw_745 (lv_at hl 1 rfl) ?_
    refine lv_if_ne (tgt := 762) hx hb dLaw_747 (by decide) (fun _ => ?_) (fun h9 => absurd h9 h2)
    refine lv_goto (tgt := 1521) hx hb dLaw_762 (by decide) ?_
    exact cont V _ _ _ hP hD hS (lv_sub hl [2, 3, 4, 5, 6] rfl)
def sL_crash (S : LwS) (a1 : Int32) (a2 : Int32) (a3 : Int32) (a4 : Int32) (a5 : Int32) : Option LwS := bd (pX_crash S.1 a1) fun u => bd (pM_crash S.2.1 a1) fun v => if u.1 = v.1 then some (u.2, v.2, S.2.2.1, S.2.2.2.1 + 11, S.2.2.2.2 + 432) else none
set_option maxHeartbeats 4000000 in
set_option maxRecDepth 100000 in
theorem lc_crash {p : Program} {l : Launch} {e : Env} {R : Room} {s : State} {m : MethodId} {args : Array Value} {below : List Frame} {meth : Method} {c : Code} {Q : State → Prop} {D : va_G} {cI : ClassId} {cx : Cond} {b L : Nat} {xs : Nat → Int32} (hC : LawCtx p l R s m args c D cI cx b L xs) (A : CAd) (B : Nat × (Nat → Nat)) (ho : Nat) (V : CV) (S S9 : LwS) (i : Int32) (hin : ∀ j : Int32, j ∈ ([1, 2, 3, 4, 5] : List Int32) → vp_in (i + j) L) (hf : sL_crash S (xs (i + 1).toNatClampNeg) (xs (i + 2).toNatClampNeg) (xs (i + 3).toNatClampNeg) (xs (i + 4).toNatClampNeg) (xs (i + 5).toNatClampNeg) = some S9) (hr : S9.2.2.2.1 ≤ R.cells ∧ S9.2.2.2.2 ≤ R.slots) {H : Heap} {locs : List Loc} {ls : Array Slot} (hP : va_P D vwCl (lwW D cI A B ho V S) H) (hD : va_D (lA s) (lwW D cI A B ho V S)) (hS : va_S (lA s) s.heap H locs) (hl : lv_has ls 7 [(0, .ref b), (1, .ref A.1), (2, .ref B.1), (3, .ref ho), (4, .int i)])
    (cont : ∀ (V : CV) (H : Heap) (locs : List Loc) (ls : Array Slot), va_P D vwCl (lwW D cI A B ho V S9) H → va_D (lA s) (lwW D cI A B ho V S9) → va_S (lA s) s.heap H locs → lv_has ls 7 [(0, .ref b), (1, .ref A.1), (2, .ref B.1), (3, .ref ho), (4, .int i)] → W p l e R s m args below meth c H locs S9.2.2.2.1 S9.2.2.2.2 Q (F0 m 1521 ls [])) : W p l e R s m args below meth c H locs S.2.2.2.1 S.2.2.2.2 Q (F0 m 765 ls []) := by
  obtain ⟨hx, hb, hml, hts, hcx, hown, hK, hX, hXs, hbl, hlt, hfr, hlo⟩ := hC
  have hbA : ¬ lA s b := Nat.not_le.mpr hbl
  have hA : ∀ q : Nat, s.heap.size ≤ q → lA s q := fun q h => h
  obtain ⟨u, hu, hf⟩ := bd_some hf
  obtain ⟨v, hv, hf⟩ := bd_some hf
  by_cases h1 : u.1 = v.1
  case neg => cases ((if_neg h1).symm.trans hf)
  obtain rfl := Option.some.inj ((if_pos h1).symm.trans hf)
  refine lv_aload_n hx hb dLaw_765 rfl (lv_at hl 1 rfl) ?_
  refine lv_aload_n hx hb dLaw_766 rfl (lv_at hl 0 rfl) ?_
  refine lv_iload hx hb dLaw_767 (lv_at hl 4 rfl) ?_
  refine lv_iconst (v := 1) hx hb dLaw_769 (by decide) ?_
  refine lv_iadd hx hb dLaw_770 ?_
  refine va_sld (A := lA s) hx hb hXs hbl hbA hS (hin 1 (by decide)) dLaw_771 ?_
  refine z_cinF (ws1 := fun V => lwW D cI A B ho V (u.2, S.2.1, S.2.2.1, S.2.2.2)) (fr := (ho, .inl (D.1 101, 1, .inr (.inl S.2.2.1))) :: rfw cI B S.2.1) (z_rVF (rest := []) (fr := (ho, .inl (D.1 101, 1, .inr (.inl S.2.2.1))) :: rfw cI B S.2.1) (ws := lwW D cI A B ho V (S.1, S.2.1, S.2.2.1, S.2.2.2)) (ci := 11) (b := A.1) (As := [.int (xs (i + 1).toNatClampNeg)]) hx hb hml hown hcx hl.1 (k_crash l D cI A V S.1 (xs (i + 1).toNatClampNeg) u hu _) tl_L_120 ti_X11_crash tz_X11_crash tn_X11 tc_X11_crash tm_X11_crash rfl rfl ⟨Nat.le_trans (Nat.le_of_ble_eq_true rfl) hfr, Nat.le_trans (Nat.le_of_ble_eq_true rfl) hlo⟩ hK hX hS hA hP hD pq_c cw_root rfl rfl rfl (Nat.le_of_ble_eq_true rfl) dLaw_772 ⟨hr.1, hr.2⟩) hP hD hS hA pq_c (fun _ => pq_c) (fun V H locs hP hD hS => ?_)
  refine lv_aload_n hx hb dLaw_775 rfl (lv_at hl 2 rfl) ?_
  refine lv_aload_n hx hb dLaw_776 rfl (lv_at hl 0 rfl) ?_
  refine lv_iload hx hb dLaw_777 (lv_at hl 4 rfl) ?_
  refine lv_iconst (v := 1) hx hb dLaw_779 (by decide) ?_
  refine lv_iadd hx hb dLaw_780 ?_
  refine va_sld (A := lA s) hx hb hXs hbl hbA hS (hin 1 (by decide)) dLaw_781 ?_
  refine z_ciF (ws1 := lwW D cI A B ho V (u.2, v.2, S.2.2.1, S.2.2.2)) (fr := (ho, .inl (D.1 101, 1, .inr (.inl S.2.2.1))) :: cw D cI A V u.2) (z_rVF (rest := [.int u.1]) (fr := (ho, .inl (D.1 101, 1, .inr (.inl S.2.2.1))) :: cw D cI A V u.2) (ws := lwW D cI A B ho V (u.2, S.2.1, S.2.2.1, S.2.2.2)) (ci := 12) (b := B.1) (As := [.int (xs (i + 1).toNatClampNeg)]) hx hb hml hown hcx hl.1 (kM_crash l D cI B S.2.1 (xs (i + 1).toNatClampNeg) v hv _) tl_L_123 ti_X12_crash tz_X12_crash tn_X12 tc_X12_crash tm_X12_crash rfl rfl ⟨Nat.le_trans (Nat.le_of_ble_eq_true rfl) hfr, Nat.le_trans (Nat.le_of_ble_eq_true rfl) hlo⟩ hK hX hS hA hP hD pq_m ml_root rfl rfl rfl (Nat.le_of_ble_eq_true rfl) dLaw_782 ⟨hr.1, hr.2⟩) hP hD hS hA pq_m pq_m (fun H locs hP hD hS => ?_)
  refine lv_icmp_eq (tgt := 1521) hx hb dLaw_785 (by decide) (fun _ => ?_) (fun h9 => absurd h1 h9)
  exact cont V _ _ _ hP hD hS (lv_sub hl [0, 1, 2, 3, 4] rfl)
def sL_recover (S : LwS) (a1 : Int32) (a2 : Int32) (a3 : Int32) (a4 : Int32) (a5 : Int32) : Option LwS := bd (pX_recover S.1) fun u => bd (pM_recover S.2.1) fun v => if u.1 = v.1 then some (u.2, v.2, S.2.2.1, S.2.2.2.1 + 11, S.2.2.2.2 + 432) else none
set_option maxHeartbeats 4000000 in
set_option maxRecDepth 100000 in
theorem lc_recover {p : Program} {l : Launch} {e : Env} {R : Room} {s : State} {m : MethodId} {args : Array Value} {below : List Frame} {meth : Method} {c : Code} {Q : State → Prop} {D : va_G} {cI : ClassId} {cx : Cond} {b L : Nat} {xs : Nat → Int32} (hC : LawCtx p l R s m args c D cI cx b L xs) (A : CAd) (B : Nat × (Nat → Nat)) (ho : Nat) (V : CV) (S S9 : LwS) (i : Int32) (hin : ∀ j : Int32, j ∈ ([1, 2, 3, 4, 5] : List Int32) → vp_in (i + j) L) (hf : sL_recover S (xs (i + 1).toNatClampNeg) (xs (i + 2).toNatClampNeg) (xs (i + 3).toNatClampNeg) (xs (i + 4).toNatClampNeg) (xs (i + 5).toNatClampNeg) = some S9) (hr : S9.2.2.2.1 ≤ R.cells ∧ S9.2.2.2.2 ≤ R.slots) {H : Heap} {locs : List Loc} {ls : Array Slot} (hP : va_P D vwCl (lwW D cI A B ho V S) H) (hD : va_D (lA s) (lwW D cI A B ho V S)) (hS : va_S (lA s) s.heap H locs) (hl : lv_has ls 7 [(0, .ref b), (1, .ref A.1), (2, .ref B.1), (3, .ref ho), (4, .int i)])
    (cont : ∀ (V : CV) (H : Heap) (locs : List Loc) (ls : Array Slot), va_P D vwCl (lwW D cI A B ho V S9) H → va_D (lA s) (lwW D cI A B ho V S9) → va_S (lA s) s.heap H locs → lv_has ls 7 [(0, .ref b), (1, .ref A.1), (2, .ref B.1), (3, .ref ho), (4, .int i)] → W p l e R s m args below meth c H locs S9.2.2.2.1 S9.2.2.2.2 Q (F0 m 1521 ls [])) : W p l e R s m args below meth c H locs S.2.2.2.1 S.2.2.2.2 Q (F0 m 790 ls []) := by
  obtain ⟨hx, hb, hml, hts, hcx, hown, hK, hX, hXs, hbl, hlt, hfr, hlo⟩ := hC
  have hbA : ¬ lA s b := Nat.not_le.mpr hbl
  have hA : ∀ q : Nat, s.heap.size ≤ q → lA s q := fun q h => h
  obtain ⟨u, hu, hf⟩ := bd_some hf
  obtain ⟨v, hv, hf⟩ := bd_some hf
  by_cases h1 : u.1 = v.1
  case neg => cases ((if_neg h1).symm.trans hf)
  obtain rfl := Option.some.inj ((if_pos h1).symm.trans hf)
  refine lv_aload_n hx hb dLaw_790 rfl (lv_at hl 1 rfl) ?_
  refine z_cinF (ws1 := fun V => lwW D cI A B ho V (u.2, S.2.1, S.2.2.1, S.2.2.2)) (fr := (ho, .inl (D.1 101, 1, .inr (.inl S.2.2.1))) :: rfw cI B S.2.1) (z_rVF (rest := []) (fr := (ho, .inl (D.1 101, 1, .inr (.inl S.2.2.1))) :: rfw cI B S.2.1) (ws := lwW D cI A B ho V (S.1, S.2.1, S.2.2.1, S.2.2.2)) (ci := 11) (b := A.1) (As := []) hx hb hml hown hcx hl.1 (k_recover l D cI A V S.1 u hu _) tl_L_124 ti_X11_recover tz_X11_recover tn_X11 tc_X11_recover tm_X11_recover rfl rfl ⟨Nat.le_trans (Nat.le_of_ble_eq_true rfl) hfr, Nat.le_trans (Nat.le_of_ble_eq_true rfl) hlo⟩ hK hX hS hA hP hD pq_c cw_root rfl rfl rfl (Nat.le_of_ble_eq_true rfl) dLaw_791 ⟨hr.1, hr.2⟩) hP hD hS hA pq_c (fun _ => pq_c) (fun V H locs hP hD hS => ?_)
  refine lv_aload_n hx hb dLaw_794 rfl (lv_at hl 2 rfl) ?_
  refine z_ciF (ws1 := lwW D cI A B ho V (u.2, v.2, S.2.2.1, S.2.2.2)) (fr := (ho, .inl (D.1 101, 1, .inr (.inl S.2.2.1))) :: cw D cI A V u.2) (z_rVF (rest := [.int u.1]) (fr := (ho, .inl (D.1 101, 1, .inr (.inl S.2.2.1))) :: cw D cI A V u.2) (ws := lwW D cI A B ho V (u.2, S.2.1, S.2.2.1, S.2.2.2)) (ci := 12) (b := B.1) (As := []) hx hb hml hown hcx hl.1 (kM_recover l D cI B S.2.1 v hv _) tl_L_127 ti_X12_recover tz_X12_recover tn_X12 tc_X12_recover tm_X12_recover rfl rfl ⟨Nat.le_trans (Nat.le_of_ble_eq_true rfl) hfr, Nat.le_trans (Nat.le_of_ble_eq_true rfl) hlo⟩ hK hX hS hA hP hD pq_m ml_root rfl rfl rfl (Nat.le_of_ble_eq_true rfl) dLaw_795 ⟨hr.1, hr.2⟩) hP hD hS hA pq_m pq_m (fun H locs hP hD hS => ?_)
  refine lv_icmp_eq (tgt := 1521) hx hb dLaw_798 (by decide) (fun _ => ?_) (fun h9 => absurd h1 h9)
  exact cont V _ _ _ hP hD hS (lv_sub hl [0, 1, 2, 3, 4] rfl)
def sL_later (S : LwS) (a1 : Int32) (a2 : Int32) (a3 : Int32) (a4 : Int32) (a5 : Int32) : Option LwS := bd (pL_later S.1 S.2.2.1 a1 a2 a3) fun u => bd (pM_later S.2.1 a1 a2 a3) fun v => bd (pM_thrown v.2) fun t => if t.1 = u.1 then (if u.1 = 0 then (if lg_cmp (u.2.1 0) v.1.toInt64 = 0 then some (u.2.2, t.2, u.2.1, S.2.2.2.1 + 11, S.2.2.2.2 + 432) else none) else some (u.2.2, t.2, u.2.1, S.2.2.2.1 + 11, S.2.2.2.2 + 432)) else none
set_option maxHeartbeats 4000000 in
set_option maxRecDepth 100000 in
theorem lc_later {p : Program} {l : Launch} {e : Env} {R : Room} {s : State} {m : MethodId} {args : Array Value} {below : List Frame} {meth : Method} {c : Code} {Q : State → Prop} {D : va_G} {cI : ClassId} {cx : Cond} {b L : Nat} {xs : Nat → Int32} (hC : LawCtx p l R s m args c D cI cx b L xs) (A : CAd) (B : Nat × (Nat → Nat)) (ho : Nat) (V : CV) (S S9 : LwS) (i : Int32) (hin : ∀ j : Int32, j ∈ ([1, 2, 3, 4, 5] : List Int32) → vp_in (i + j) L) (hf : sL_later S (xs (i + 1).toNatClampNeg) (xs (i + 2).toNatClampNeg) (xs (i + 3).toNatClampNeg) (xs (i + 4).toNatClampNeg) (xs (i + 5).toNatClampNeg) = some S9) (hr : S9.2.2.2.1 ≤ R.cells ∧ S9.2.2.2.2 ≤ R.slots) {H : Heap} {locs : List Loc} {ls : Array Slot} (hP : va_P D vwCl (lwW D cI A B ho V S) H) (hD : va_D (lA s) (lwW D cI A B ho V S)) (hS : va_S (lA s) s.heap H locs) (hl : lv_has ls 7 [(0, .ref b), (1, .ref A.1), (2, .ref B.1), (3, .ref ho), (4, .int i)])
    (cont : ∀ (V : CV) (H : Heap) (locs : List Loc) (ls : Array Slot), va_P D vwCl (lwW D cI A B ho V S9) H → va_D (lA s) (lwW D cI A B ho V S9) → va_S (lA s) s.heap H locs → lv_has ls 7 [(0, .ref b), (1, .ref A.1), (2, .ref B.1), (3, .ref ho), (4, .int i)] → W p l e R s m args below meth c H locs S9.2.2.2.1 S9.2.2.2.2 Q (F0 m 1521 ls [])) : W p l e R s m args below meth c H locs S.2.2.2.1 S.2.2.2.2 Q (F0 m 803 ls []) := by
  obtain ⟨hx, hb, hml, hts, hcx, hown, hK, hX, hXs, hbl, hlt, hfr, hlo⟩ := hC
  have hbA : ¬ lA s b := Nat.not_le.mpr hbl
  have hA : ∀ q : Nat, s.heap.size ≤ q → lA s q := fun q h => h
  obtain ⟨u, hu, hf⟩ := bd_some hf
  obtain ⟨v, hv, hf⟩ := bd_some hf
  obtain ⟨t, ht, hf⟩ := bd_some hf
  by_cases h1 : t.1 = u.1
  case neg => cases ((if_neg h1).symm.trans hf)
  have hf := (if_pos h1).symm.trans hf
  by_cases h2 : u.1 = 0
  · have hf := (if_pos h2).symm.trans hf
    by_cases h3 : lg_cmp (u.2.1 0) v.1.toInt64 = 0
    case neg => cases ((if_neg h3).symm.trans hf)
    obtain rfl := Option.some.inj ((if_pos h3).symm.trans hf)
    refine lv_aload_n hx hb dLaw_803 rfl (lv_at hl 1 rfl) ?_
    refine lv_aload_n hx hb dLaw_804 rfl (lv_at hl 0 rfl) ?_
    refine lv_iload hx hb dLaw_805 (lv_at hl 4 rfl) ?_
    refine lv_iconst (v := 1) hx hb dLaw_807 (by decide) ?_
    refine lv_iadd hx hb dLaw_808 ?_
    refine va_sld (A := lA s) hx hb hXs hbl hbA hS (hin 1 (by decide)) dLaw_809 ?_
    refine lv_aload_n hx hb dLaw_810 rfl (lv_at hl 0 rfl) ?_
    refine lv_iload hx hb dLaw_811 (lv_at hl 4 rfl) ?_
    refine lv_iconst (v := 2) hx hb dLaw_813 (by decide) ?_
    refine lv_iadd hx hb dLaw_814 ?_
    refine va_sld (A := lA s) hx hb hXs hbl hbA hS (hin 2 (by decide)) dLaw_815 ?_
    refine lv_aload_n hx hb dLaw_816 rfl (lv_at hl 0 rfl) ?_
    refine lv_iload hx hb dLaw_817 (lv_at hl 4 rfl) ?_
    refine lv_iconst (v := 3) hx hb dLaw_819 (by decide) ?_
    refine lv_iadd hx hb dLaw_820 ?_
    refine va_sld (A := lA s) hx hb hXs hbl hbA hS (hin 3 (by decide)) dLaw_821 ?_
    refine lv_aload_n hx hb dLaw_822 rfl (lv_at hl 3 rfl) ?_
    refine z_cinF (ws1 := fun V => lwW D cI A B ho V (u.2.2, S.2.1, u.2.1, S.2.2.2)) (fr := rfw cI B S.2.1) (z_rSW (rest := []) (fr := rfw cI B S.2.1) (ws := lwW D cI A B ho V (S.1, S.2.1, S.2.2.1, S.2.2.2)) (As := [.ref A.1, .int (xs (i + 1).toNatClampNeg), .int (xs (i + 2).toNatClampNeg), .int (xs (i + 3).toNatClampNeg), .ref ho]) hx hb hml hown hcx hl.1 (h_later l hlt D cI A ho V S.1 S.2.2.1 (xs (i + 1).toNatClampNeg) (xs (i + 2).toNatClampNeg) (xs (i + 3).toNatClampNeg) u hu _) tl_L_128 ts_L_later tn_L tc_L_later tm_L_later rfl rfl ⟨Nat.le_trans (Nat.le_of_ble_eq_true rfl) hfr, Nat.le_trans (Nat.le_of_ble_eq_true rfl) hlo⟩ hK hX hS hA hP hD pq_h rfl rfl (Nat.le_of_ble_eq_true rfl) dLaw_823 ⟨hr.1, hr.2⟩) hP hD hS hA pq_h (fun _ => pq_h) (fun V H locs hP hD hS => ?_)
    refine lv_istore (lv' := [(5, .int u.1), (0, .ref b), (1, .ref A.1), (2, .ref B.1), (3, .ref ho), (4, .int i)]) hx hb dLaw_826 hl (by decide) rfl (fun ls hl => ?_)
    refine lv_aload_n hx hb dLaw_828 rfl (lv_at hl 3 rfl) ?_
    refine lv_aload_n hx hb dLaw_829 rfl (lv_at hl 1 rfl) ?_
    refine lv_iload hx hb dLaw_830 (lv_at hl 5 rfl) ?_
    refine lv_iconst (v := 1) hx hb dLaw_832 (by decide) ?_
    refine lv_iadd hx hb dLaw_833 ?_
    refine va_sld (A := lA s) hx hb hXs hbl hbA hS (hin 1 (by decide)) dLaw_834 ?_
    refine lv_aload_n hx hb dLaw_835 rfl (lv_at hl 1 rfl) ?_
    refine lv_iload hx hb dLaw_836 (lv_at hl 5 rfl) ?_
    refine lv_iconst (v := 2) hx hb dLaw_838 (by decide) ?_
    refine lv_iadd hx hb dLaw_839 ?_
    refine va_sld (A := lA s) hx hb hXs hbl hbA hS (hin 2 (by decide)) dLaw_840 ?_
    refine lv_aload_n hx hb dLaw_841 rfl (lv_at hl 1 rfl) ?_
    refine lv_iload hx hb dLaw_842 (lv_at hl 5 rfl) ?_
    refine lv_iconst (v := 3) hx hb dLaw_844 (by decide) ?_
    refine lv_iadd hx hb dLaw_845 ?_
    refine va_sld (A := lA s) hx hb hXs hbl hbA hS (hin 3 (by decide)) dLaw_846 ?_
    refine z_ciF (ws1 := lwW D cI A B ho V (u.2.2, v.2, u.2.1, S.2.2.2)) (fr := (ho, .inl (D.1 101, 1, .inr (.inl u.2.1))) :: cw D cI A V u.2.2) (z_rVF (rest := []) (fr := (ho, .inl (D.1 101, 1, .inr (.inl u.2.1))) :: cw D cI A V u.2.2) (ws := lwW D cI A B ho V (u.2.2, S.2.1, u.2.1, S.2.2.2)) (ci := 12) (b := B.1) (As := [.int (xs (i + 1).toNatClampNeg), .int (xs (i + 2).toNatClampNeg), .int (xs (i + 3).toNatClampNeg)]) hx hb hml hown hcx hl.1 (kM_later l D cI B S.2.1 (xs (i + 1).toNatClampNeg) (xs (i + 2).toNatClampNeg) (xs (i + 3).toNatClampNeg) v hv _) tl_L_131 ti_X12_later tz_X12_later tn_X12 tc_X12_later tm_X12_later rfl rfl ⟨Nat.le_trans (Nat.le_of_ble_eq_true rfl) hfr, Nat.le_trans (Nat.le_of_ble_eq_true rfl) hlo⟩ hK hX hS hA hP hD pq_m ml_root rfl rfl rfl (Nat.le_of_ble_eq_true rfl) dLaw_847 ⟨hr.1, hr.2⟩) hP hD hS hA pq_m pq_m (fun H locs hP hD hS => ?_)
    refine lv_istore (lv' := [(6, .int v.1), (5, .int u.1), (0, .ref b), (1, .ref A.1), (2, .ref B.1), (3, .ref ho), (4, .int i)]) hx hb dLaw_850 hl (by decide) rfl (fun ls hl => ?_)
    refine lv_aload_n hx hb dLaw_852 rfl (lv_at hl 4 rfl) ?_
    refine z_ciF (ws1 := lwW D cI A B ho V (u.2.2, t.2, u.2.1, S.2.2.2)) (fr := (ho, .inl (D.1 101, 1, .inr (.inl u.2.1))) :: cw D cI A V u.2.2) (z_rVF (rest := []) (fr := (ho, .inl (D.1 101, 1, .inr (.inl u.2.1))) :: cw D cI A V u.2.2) (ws := lwW D cI A B ho V (u.2.2, v.2, u.2.1, S.2.2.2)) (ci := 12) (b := B.1) (As := []) hx hb hml hown hcx hl.1 (kM_thrown l D cI B v.2 t ht _) tl_L_83 ti_X12_thrown tz_X12_thrown tn_X12 tc_X12_thrown tm_X12_thrown rfl rfl ⟨Nat.le_trans (Nat.le_of_ble_eq_true rfl) hfr, Nat.le_trans (Nat.le_of_ble_eq_true rfl) hlo⟩ hK hX hS hA hP hD pq_m ml_root rfl rfl rfl (Nat.le_of_ble_eq_true rfl) dLaw_853 ⟨hr.1, hr.2⟩) hP hD hS hA pq_m pq_m (fun H locs hP hD hS => ?_)
    refine lv_iload hx hb dLaw_856 (lv_at hl 1 rfl) ?_
    refine lv_icmp_eq (tgt := 863) hx hb dLaw_858 (by decide) (fun _ => ?_) (fun h9 => absurd h1 h9)
    refine lv_iload hx hb dLaw_863 (lv_at hl 1 rfl) ?_
    refine lv_if_ne (tgt := 880) hx hb dLaw_865 (by decide) (fun h9 => absurd h2 h9) (fun _ => ?_)
    refine lv_aload_n hx hb dLaw_868 rfl (lv_at hl 5 rfl) ?_
    refine lv_iconst (v := 0) hx hb dLaw_869 (by decide) ?_
    refine va_lald (a := ho) hx hb hK.1 hP 0 2 rfl rfl (i := 0) vp_in01 dLaw_870 ?_
    refine lv_iload hx hb dLaw_871 (lv_at hl 0 rfl) ?_
    refine lv_i2l hx hb dLaw_873 rfl ?_
    refine W.lcmp hx hb dLaw_874 ?_
    refine lv_if_eq (tgt := 880) hx hb dLaw_875 (by decide) (fun _ => ?_) (fun h9 => absurd h3 h9)
    refine lv_goto (tgt := 1521) hx hb dLaw_880 (by decide) ?_
    exact cont V _ _ _ hP hD hS (lv_sub hl [2, 3, 4, 5, 6] rfl)
  · obtain rfl := Option.some.inj ((if_neg h2).symm.trans hf)
    refine lv_aload_n hx hb dLaw_803 rfl (lv_at hl 1 rfl) ?_
    refine lv_aload_n hx hb dLaw_804 rfl (lv_at hl 0 rfl) ?_
    refine lv_iload hx hb dLaw_805 (lv_at hl 4 rfl) ?_
    refine lv_iconst (v := 1) hx hb dLaw_807 (by decide) ?_
    refine lv_iadd hx hb dLaw_808 ?_
    refine va_sld (A := lA s) hx hb hXs hbl hbA hS (hin 1 (by decide)) dLaw_809 ?_
    refine lv_aload_n hx hb dLaw_810 rfl (lv_at hl 0 rfl) ?_
    refine lv_iload hx hb dLaw_811 (lv_at hl 4 rfl) ?_
    refine lv_iconst (v := 2) hx hb dLaw_813 (by decide) ?_
    refine lv_iadd hx hb dLaw_814 ?_
    refine va_sld (A := lA s) hx hb hXs hbl hbA hS (hin 2 (by decide)) dLaw_815 ?_
    refine lv_aload_n hx hb dLaw_816 rfl (lv_at hl 0 rfl) ?_
    refine lv_iload hx hb dLaw_817 (lv_at hl 4 rfl) ?_
    refine lv_iconst (v := 3) hx hb dLaw_819 (by decide) ?_
    refine lv_iadd hx hb dLaw_820 ?_
    refine va_sld (A := lA s) hx hb hXs hbl hbA hS (hin 3 (by decide)) dLaw_821 ?_
    refine lv_aload_n hx hb dLaw_822 rfl (lv_at hl 3 rfl) ?_
    refine z_cinF (ws1 := fun V => lwW D cI A B ho V (u.2.2, S.2.1, u.2.1, S.2.2.2)) (fr := rfw cI B S.2.1) (z_rSW (rest := []) (fr := rfw cI B S.2.1) (ws := lwW D cI A B ho V (S.1, S.2.1, S.2.2.1, S.2.2.2)) (As := [.ref A.1, .int (xs (i + 1).toNatClampNeg), .int (xs (i + 2).toNatClampNeg), .int (xs (i + 3).toNatClampNeg), .ref ho]) hx hb hml hown hcx hl.1 (h_later l hlt D cI A ho V S.1 S.2.2.1 (xs (i + 1).toNatClampNeg) (xs (i + 2).toNatClampNeg) (xs (i + 3).toNatClampNeg) u hu _) tl_L_128 ts_L_later tn_L tc_L_later tm_L_later rfl rfl ⟨Nat.le_trans (Nat.le_of_ble_eq_true rfl) hfr, Nat.le_trans (Nat.le_of_ble_eq_true rfl) hlo⟩ hK hX hS hA hP hD pq_h rfl rfl (Nat.le_of_ble_eq_true rfl) dLaw_823 ⟨hr.1, hr.2⟩) hP hD hS hA pq_h (fun _ => pq_h) (fun V H locs hP hD hS => ?_)
    refine lv_istore (lv' := [(5, .int u.1), (0, .ref b), (1, .ref A.1), (2, .ref B.1), (3, .ref ho), (4, .int i)]) hx hb dLaw_826 hl (by decide) rfl (fun ls hl => ?_)
    refine lv_aload_n hx hb dLaw_828 rfl (lv_at hl 3 rfl) ?_
    refine lv_aload_n hx hb dLaw_829 rfl (lv_at hl 1 rfl) ?_
    refine lv_iload hx hb dLaw_830 (lv_at hl 5 rfl) ?_
    refine lv_iconst (v := 1) hx hb dLaw_832 (by decide) ?_
    refine lv_iadd hx hb dLaw_833 ?_
    refine va_sld (A := lA s) hx hb hXs hbl hbA hS (hin 1 (by decide)) dLaw_834 ?_
    refine lv_aload_n hx hb dLaw_835 rfl (lv_at hl 1 rfl) ?_
    refine lv_iload hx hb dLaw_836 (lv_at hl 5 rfl) ?_
    refine lv_iconst (v := 2) hx hb dLaw_838 (by decide) ?_
    refine lv_iadd hx hb dLaw_839 ?_
    refine va_sld (A := lA s) hx hb hXs hbl hbA hS (hin 2 (by decide)) dLaw_840 ?_
    refine lv_aload_n hx hb dLaw_841 rfl (lv_at hl 1 rfl) ?_
    refine lv_iload hx hb dLaw_842 (lv_at hl 5 rfl) ?_
    refine lv_iconst (v := 3) hx hb dLaw_844 (by decide) ?_
    refine lv_iadd hx hb dLaw_845 ?_
    refine va_sld (A := lA s) hx hb hXs hbl hbA hS (hin 3 (by decide)) dLaw_846 ?_
    refine z_ciF (ws1 := lwW D cI A B ho V (u.2.2, v.2, u.2.1, S.2.2.2)) (fr := (ho, .inl (D.1 101, 1, .inr (.inl u.2.1))) :: cw D cI A V u.2.2) (z_rVF (rest := []) (fr := (ho, .inl (D.1 101, 1, .inr (.inl u.2.1))) :: cw D cI A V u.2.2) (ws := lwW D cI A B ho V (u.2.2, S.2.1, u.2.1, S.2.2.2)) (ci := 12) (b := B.1) (As := [.int (xs (i + 1).toNatClampNeg), .int (xs (i + 2).toNatClampNeg), .int (xs (i + 3).toNatClampNeg)]) hx hb hml hown hcx hl.1 (kM_later l D cI B S.2.1 (xs (i + 1).toNatClampNeg) (xs (i + 2).toNatClampNeg) (xs (i + 3).toNatClampNeg) v hv _) tl_L_131 ti_X12_later tz_X12_later tn_X12 tc_X12_later tm_X12_later rfl rfl ⟨Nat.le_trans (Nat.le_of_ble_eq_true rfl) hfr, Nat.le_trans (Nat.le_of_ble_eq_true rfl) hlo⟩ hK hX hS hA hP hD pq_m ml_root rfl rfl rfl (Nat.le_of_ble_eq_true rfl) dLaw_847 ⟨hr.1, hr.2⟩) hP hD hS hA pq_m pq_m (fun H locs hP hD hS => ?_)
    refine lv_istore (lv' := [(6, .int v.1), (5, .int u.1), (0, .ref b), (1, .ref A.1), (2, .ref B.1), (3, .ref ho), (4, .int i)]) hx hb dLaw_850 hl (by decide) rfl (fun ls hl => ?_)
    refine lv_aload_n hx hb dLaw_852 rfl (lv_at hl 4 rfl) ?_
    refine z_ciF (ws1 := lwW D cI A B ho V (u.2.2, t.2, u.2.1, S.2.2.2)) (fr := (ho, .inl (D.1 101, 1, .inr (.inl u.2.1))) :: cw D cI A V u.2.2) (z_rVF (rest := []) (fr := (ho, .inl (D.1 101, 1, .inr (.inl u.2.1))) :: cw D cI A V u.2.2) (ws := lwW D cI A B ho V (u.2.2, v.2, u.2.1, S.2.2.2)) (ci := 12) (b := B.1) (As := []) hx hb hml hown hcx hl.1 (kM_thrown l D cI B v.2 t ht _) tl_L_83 ti_X12_thrown tz_X12_thrown tn_X12 tc_X12_thrown tm_X12_thrown rfl rfl ⟨Nat.le_trans (Nat.le_of_ble_eq_true rfl) hfr, Nat.le_trans (Nat.le_of_ble_eq_true rfl) hlo⟩ hK hX hS hA hP hD pq_m ml_root rfl rfl rfl (Nat.le_of_ble_eq_true rfl) dLaw_853 ⟨hr.1, hr.2⟩) hP hD hS hA pq_m pq_m (fun H locs hP hD hS => ?_)
    refine lv_iload hx hb dLaw_856 (lv_at hl 1 rfl) ?_
    refine lv_icmp_eq (tgt := 863) hx hb dLaw_858 (by decide) (fun _ => ?_) (fun h9 => absurd h1 h9)
    refine lv_iload hx hb dLaw_863 (lv_at hl 1 rfl) ?_
    refine lv_if_ne (tgt := 880) hx hb dLaw_865 (by decide) (fun _ => ?_) (fun h9 => absurd h9 h2)
    refine lv_goto (tgt := 1521) hx hb dLaw_880 (by decide) ?_
    exact cont V _ _ _ hP hD hS (lv_sub hl [2, 3, 4, 5, 6] rfl)
def sL_site (S : LwS) (a1 : Int32) (a2 : Int32) (a3 : Int32) (a4 : Int32) (a5 : Int32) : Option LwS := bd (pL_site S.1 S.2.2.1 a1) fun u => bd (pM_site S.2.1 a1) fun v => bd (pM_thrown v.2) fun t => if t.1 = u.1 then (if u.1 = 0 then (if lg_cmp (u.2.1 0) v.1.toInt64 = 0 then some (u.2.2, t.2, u.2.1, S.2.2.2.1 + 11, S.2.2.2.2 + 432) else none) else some (u.2.2, t.2, u.2.1, S.2.2.2.1 + 11, S.2.2.2.2 + 432)) else none
set_option maxHeartbeats 4000000 in
set_option maxRecDepth 100000 in
theorem lc_site {p : Program} {l : Launch} {e : Env} {R : Room} {s : State} {m : MethodId} {args : Array Value} {below : List Frame} {meth : Method} {c : Code} {Q : State → Prop} {D : va_G} {cI : ClassId} {cx : Cond} {b L : Nat} {xs : Nat → Int32} (hC : LawCtx p l R s m args c D cI cx b L xs) (A : CAd) (B : Nat × (Nat → Nat)) (ho : Nat) (V : CV) (S S9 : LwS) (i : Int32) (hin : ∀ j : Int32, j ∈ ([1, 2, 3, 4, 5] : List Int32) → vp_in (i + j) L) (hf : sL_site S (xs (i + 1).toNatClampNeg) (xs (i + 2).toNatClampNeg) (xs (i + 3).toNatClampNeg) (xs (i + 4).toNatClampNeg) (xs (i + 5).toNatClampNeg) = some S9) (hr : S9.2.2.2.1 ≤ R.cells ∧ S9.2.2.2.2 ≤ R.slots) {H : Heap} {locs : List Loc} {ls : Array Slot} (hP : va_P D vwCl (lwW D cI A B ho V S) H) (hD : va_D (lA s) (lwW D cI A B ho V S)) (hS : va_S (lA s) s.heap H locs) (hl : lv_has ls 7 [(0, .ref b), (1, .ref A.1), (2, .ref B.1), (3, .ref ho), (4, .int i)])
    (cont : ∀ (V : CV) (H : Heap) (locs : List Loc) (ls : Array Slot), va_P D vwCl (lwW D cI A B ho V S9) H → va_D (lA s) (lwW D cI A B ho V S9) → va_S (lA s) s.heap H locs → lv_has ls 7 [(0, .ref b), (1, .ref A.1), (2, .ref B.1), (3, .ref ho), (4, .int i)] → W p l e R s m args below meth c H locs S9.2.2.2.1 S9.2.2.2.2 Q (F0 m 1521 ls [])) : W p l e R s m args below meth c H locs S.2.2.2.1 S.2.2.2.2 Q (F0 m 883 ls []) := by
  obtain ⟨hx, hb, hml, hts, hcx, hown, hK, hX, hXs, hbl, hlt, hfr, hlo⟩ := hC
  have hbA : ¬ lA s b := Nat.not_le.mpr hbl
  have hA : ∀ q : Nat, s.heap.size ≤ q → lA s q := fun q h => h
  obtain ⟨u, hu, hf⟩ := bd_some hf
  obtain ⟨v, hv, hf⟩ := bd_some hf
  obtain ⟨t, ht, hf⟩ := bd_some hf
  by_cases h1 : t.1 = u.1
  case neg => cases ((if_neg h1).symm.trans hf)
  have hf := (if_pos h1).symm.trans hf
  by_cases h2 : u.1 = 0
  · have hf := (if_pos h2).symm.trans hf
    by_cases h3 : lg_cmp (u.2.1 0) v.1.toInt64 = 0
    case neg => cases ((if_neg h3).symm.trans hf)
    obtain rfl := Option.some.inj ((if_pos h3).symm.trans hf)
    refine lv_aload_n hx hb dLaw_883 rfl (lv_at hl 1 rfl) ?_
    refine lv_aload_n hx hb dLaw_884 rfl (lv_at hl 0 rfl) ?_
    refine lv_iload hx hb dLaw_885 (lv_at hl 4 rfl) ?_
    refine lv_iconst (v := 1) hx hb dLaw_887 (by decide) ?_
    refine lv_iadd hx hb dLaw_888 ?_
    refine va_sld (A := lA s) hx hb hXs hbl hbA hS (hin 1 (by decide)) dLaw_889 ?_
    refine lv_aload_n hx hb dLaw_890 rfl (lv_at hl 3 rfl) ?_
    refine z_cinF (ws1 := fun V => lwW D cI A B ho V (u.2.2, S.2.1, u.2.1, S.2.2.2)) (fr := rfw cI B S.2.1) (z_rSW (rest := []) (fr := rfw cI B S.2.1) (ws := lwW D cI A B ho V (S.1, S.2.1, S.2.2.1, S.2.2.2)) (As := [.ref A.1, .int (xs (i + 1).toNatClampNeg), .ref ho]) hx hb hml hown hcx hl.1 (h_site l hlt D cI A ho V S.1 S.2.2.1 (xs (i + 1).toNatClampNeg) u hu _) tl_L_132 ts_L_site tn_L tc_L_site tm_L_site rfl rfl ⟨Nat.le_trans (Nat.le_of_ble_eq_true rfl) hfr, Nat.le_trans (Nat.le_of_ble_eq_true rfl) hlo⟩ hK hX hS hA hP hD pq_h rfl rfl (Nat.le_of_ble_eq_true rfl) dLaw_891 ⟨hr.1, hr.2⟩) hP hD hS hA pq_h (fun _ => pq_h) (fun V H locs hP hD hS => ?_)
    refine lv_istore (lv' := [(5, .int u.1), (0, .ref b), (1, .ref A.1), (2, .ref B.1), (3, .ref ho), (4, .int i)]) hx hb dLaw_894 hl (by decide) rfl (fun ls hl => ?_)
    refine lv_aload_n hx hb dLaw_896 rfl (lv_at hl 3 rfl) ?_
    refine lv_aload_n hx hb dLaw_897 rfl (lv_at hl 1 rfl) ?_
    refine lv_iload hx hb dLaw_898 (lv_at hl 5 rfl) ?_
    refine lv_iconst (v := 1) hx hb dLaw_900 (by decide) ?_
    refine lv_iadd hx hb dLaw_901 ?_
    refine va_sld (A := lA s) hx hb hXs hbl hbA hS (hin 1 (by decide)) dLaw_902 ?_
    refine z_ciF (ws1 := lwW D cI A B ho V (u.2.2, v.2, u.2.1, S.2.2.2)) (fr := (ho, .inl (D.1 101, 1, .inr (.inl u.2.1))) :: cw D cI A V u.2.2) (z_rVF (rest := []) (fr := (ho, .inl (D.1 101, 1, .inr (.inl u.2.1))) :: cw D cI A V u.2.2) (ws := lwW D cI A B ho V (u.2.2, S.2.1, u.2.1, S.2.2.2)) (ci := 12) (b := B.1) (As := [.int (xs (i + 1).toNatClampNeg)]) hx hb hml hown hcx hl.1 (kM_site l D cI B S.2.1 (xs (i + 1).toNatClampNeg) v hv _) tl_L_134 ti_X12_site tz_X12_site tn_X12 tc_X12_site tm_X12_site rfl rfl ⟨Nat.le_trans (Nat.le_of_ble_eq_true rfl) hfr, Nat.le_trans (Nat.le_of_ble_eq_true rfl) hlo⟩ hK hX hS hA hP hD pq_m ml_root rfl rfl rfl (Nat.le_of_ble_eq_true rfl) dLaw_903 ⟨hr.1, hr.2⟩) hP hD hS hA pq_m pq_m (fun H locs hP hD hS => ?_)
    refine lv_istore (lv' := [(6, .int v.1), (5, .int u.1), (0, .ref b), (1, .ref A.1), (2, .ref B.1), (3, .ref ho), (4, .int i)]) hx hb dLaw_906 hl (by decide) rfl (fun ls hl => ?_)
    refine lv_aload_n hx hb dLaw_908 rfl (lv_at hl 4 rfl) ?_
    refine z_ciF (ws1 := lwW D cI A B ho V (u.2.2, t.2, u.2.1, S.2.2.2)) (fr := (ho, .inl (D.1 101, 1, .inr (.inl u.2.1))) :: cw D cI A V u.2.2) (z_rVF (rest := []) (fr := (ho, .inl (D.1 101, 1, .inr (.inl u.2.1))) :: cw D cI A V u.2.2) (ws := lwW D cI A B ho V (u.2.2, v.2, u.2.1, S.2.2.2)) (ci := 12) (b := B.1) (As := []) hx hb hml hown hcx hl.1 (kM_thrown l D cI B v.2 t ht _) tl_L_83 ti_X12_thrown tz_X12_thrown tn_X12 tc_X12_thrown tm_X12_thrown rfl rfl ⟨Nat.le_trans (Nat.le_of_ble_eq_true rfl) hfr, Nat.le_trans (Nat.le_of_ble_eq_true rfl) hlo⟩ hK hX hS hA hP hD pq_m ml_root rfl rfl rfl (Nat.le_of_ble_eq_true rfl) dLaw_909 ⟨hr.1, hr.2⟩) hP hD hS hA pq_m pq_m (fun H locs hP hD hS => ?_)
    refine lv_iload hx hb dLaw_912 (lv_at hl 1 rfl) ?_
    refine lv_icmp_eq (tgt := 919) hx hb dLaw_914 (by decide) (fun _ => ?_) (fun h9 => absurd h1 h9)
    refine lv_iload hx hb dLaw_919 (lv_at hl 1 rfl) ?_
    refine lv_if_ne (tgt := 936) hx hb dLaw_921 (by decide) (fun h9 => absurd h2 h9) (fun _ => ?_)
    refine lv_aload_n hx hb dLaw_924 rfl (lv_at hl 5 rfl) ?_
    refine lv_iconst (v := 0) hx hb dLaw_925 (by decide) ?_
    refine va_lald (a := ho) hx hb hK.1 hP 0 2 rfl rfl (i := 0) vp_in01 dLaw_926 ?_
    refine lv_iload hx hb dLaw_927 (lv_at hl 0 rfl) ?_
    refine lv_i2l hx hb dLaw_929 rfl ?_
    refine W.lcmp hx hb dLaw_930 ?_
    refine lv_if_eq (tgt := 936) hx hb dLaw_931 (by decide) (fun _ => ?_) (fun h9 => absurd h3 h9)
    refine lv_goto (tgt := 1521) hx hb dLaw_936 (by decide) ?_
    exact cont V _ _ _ hP hD hS (lv_sub hl [2, 3, 4, 5, 6] rfl)
  · obtain rfl := Option.some.inj ((if_neg h2).symm.trans hf)
    refine lv_aload_n hx hb dLaw_883 rfl (lv_at hl 1 rfl) ?_
    refine lv_aload_n hx hb dLaw_884 rfl (lv_at hl 0 rfl) ?_
    refine lv_iload hx hb dLaw_885 (lv_at hl 4 rfl) ?_
    refine lv_iconst (v := 1) hx hb dLaw_887 (by decide) ?_
    refine lv_iadd hx hb dLaw_888 ?_
    refine va_sld (A := lA s) hx hb hXs hbl hbA hS (hin 1 (by decide)) dLaw_889 ?_
    refine lv_aload_n hx hb dLaw_890 rfl (lv_at hl 3 rfl) ?_
    refine z_cinF (ws1 := fun V => lwW D cI A B ho V (u.2.2, S.2.1, u.2.1, S.2.2.2)) (fr := rfw cI B S.2.1) (z_rSW (rest := []) (fr := rfw cI B S.2.1) (ws := lwW D cI A B ho V (S.1, S.2.1, S.2.2.1, S.2.2.2)) (As := [.ref A.1, .int (xs (i + 1).toNatClampNeg), .ref ho]) hx hb hml hown hcx hl.1 (h_site l hlt D cI A ho V S.1 S.2.2.1 (xs (i + 1).toNatClampNeg) u hu _) tl_L_132 ts_L_site tn_L tc_L_site tm_L_site rfl rfl ⟨Nat.le_trans (Nat.le_of_ble_eq_true rfl) hfr, Nat.le_trans (Nat.le_of_ble_eq_true rfl) hlo⟩ hK hX hS hA hP hD pq_h rfl rfl (Nat.le_of_ble_eq_true rfl) dLaw_891 ⟨hr.1, hr.2⟩) hP hD hS hA pq_h (fun _ => pq_h) (fun V H locs hP hD hS => ?_)
    refine lv_istore (lv' := [(5, .int u.1), (0, .ref b), (1, .ref A.1), (2, .ref B.1), (3, .ref ho), (4, .int i)]) hx hb dLaw_894 hl (by decide) rfl (fun ls hl => ?_)
    refine lv_aload_n hx hb dLaw_896 rfl (lv_at hl 3 rfl) ?_
    refine lv_aload_n hx hb dLaw_897 rfl (lv_at hl 1 rfl) ?_
    refine lv_iload hx hb dLaw_898 (lv_at hl 5 rfl) ?_
    refine lv_iconst (v := 1) hx hb dLaw_900 (by decide) ?_
    refine lv_iadd hx hb dLaw_901 ?_
    refine va_sld (A := lA s) hx hb hXs hbl hbA hS (hin 1 (by decide)) dLaw_902 ?_
    refine z_ciF (ws1 := lwW D cI A B ho V (u.2.2, v.2, u.2.1, S.2.2.2)) (fr := (ho, .inl (D.1 101, 1, .inr (.inl u.2.1))) :: cw D cI A V u.2.2) (z_rVF (rest := []) (fr := (ho, .inl (D.1 101, 1, .inr (.inl u.2.1))) :: cw D cI A V u.2.2) (ws := lwW D cI A B ho V (u.2.2, S.2.1, u.2.1, S.2.2.2)) (ci := 12) (b := B.1) (As := [.int (xs (i + 1).toNatClampNeg)]) hx hb hml hown hcx hl.1 (kM_site l D cI B S.2.1 (xs (i + 1).toNatClampNeg) v hv _) tl_L_134 ti_X12_site tz_X12_site tn_X12 tc_X12_site tm_X12_site rfl rfl ⟨Nat.le_trans (Nat.le_of_ble_eq_true rfl) hfr, Nat.le_trans (Nat.le_of_ble_eq_true rfl) hlo⟩ hK hX hS hA hP hD pq_m ml_root rfl rfl rfl (Nat.le_of_ble_eq_true rfl) dLaw_903 ⟨hr.1, hr.2⟩) hP hD hS hA pq_m pq_m (fun H locs hP hD hS => ?_)
    refine lv_istore (lv' := [(6, .int v.1), (5, .int u.1), (0, .ref b), (1, .ref A.1), (2, .ref B.1), (3, .ref ho), (4, .int i)]) hx hb dLaw_906 hl (by decide) rfl (fun ls hl => ?_)
    refine lv_aload_n hx hb dLaw_908 rfl (lv_at hl 4 rfl) ?_
    refine z_ciF (ws1 := lwW D cI A B ho V (u.2.2, t.2, u.2.1, S.2.2.2)) (fr := (ho, .inl (D.1 101, 1, .inr (.inl u.2.1))) :: cw D cI A V u.2.2) (z_rVF (rest := []) (fr := (ho, .inl (D.1 101, 1, .inr (.inl u.2.1))) :: cw D cI A V u.2.2) (ws := lwW D cI A B ho V (u.2.2, v.2, u.2.1, S.2.2.2)) (ci := 12) (b := B.1) (As := []) hx hb hml hown hcx hl.1 (kM_thrown l D cI B v.2 t ht _) tl_L_83 ti_X12_thrown tz_X12_thrown tn_X12 tc_X12_thrown tm_X12_thrown rfl rfl ⟨Nat.le_trans (Nat.le_of_ble_eq_true rfl) hfr, Nat.le_trans (Nat.le_of_ble_eq_true rfl) hlo⟩ hK hX hS hA hP hD pq_m ml_root rfl rfl rfl (Nat.le_of_ble_eq_true rfl) dLaw_909 ⟨hr.1, hr.2⟩) hP hD hS hA pq_m pq_m (fun H locs hP hD hS => ?_)
    refine lv_iload hx hb dLaw_912 (lv_at hl 1 rfl) ?_
    refine lv_icmp_eq (tgt := 919) hx hb dLaw_914 (by decide) (fun _ => ?_) (fun h9 => absurd h1 h9)
    refine lv_iload hx hb dLaw_919 (lv_at hl 1 rfl) ?_
    refine lv_if_ne (tgt := 936) hx hb dLaw_921 (by decide) (fun _ => ?_) (fun h9 => absurd h9 h2)
    refine lv_goto (tgt := 1521) hx hb dLaw_936 (by decide) ?_
    exact cont V _ _ _ hP hD hS (lv_sub hl [2, 3, 4, 5, 6] rfl)
