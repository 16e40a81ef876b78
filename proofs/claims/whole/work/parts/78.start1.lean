/-! ===== from the law's entry to its loop ===== -/
def C00 : CS := (fun k => ([Fi_X11, (fun _ => 0), Fi_X0, Fi_X4, (fun _ => 0), (fun _ => 0), (fun _ => 0), (fun _ => 0), (fun _ => 0), (fun _ => 0), (fun _ => 0), (fun _ => 0), (fun _ => 0), (fun _ => 0), Fi_X3, (fun _ => 0), (fun _ => 0), (fun _ => 0), Fi_X5, (fun _ => 0), (fun _ => 0), (fun _ => 0), (fun _ => 0), Fi_X7, (fun _ => 0), (fun _ => 0), (fun _ => 0), (fun _ => 0), Fi_X7, (fun _ => 0), (fun _ => 0), (fun _ => 0), Fi_X2, Fi_X4, (fun _ => 0), (fun _ => 0), (fun _ => 0), (fun _ => 0), (fun _ => 0), (fun _ => 0), (fun _ => 0), (fun _ => 0), (fun _ => 0), (fun _ => 0), Fi_X5, (fun _ => 0), (fun _ => 0), (fun _ => 0), (fun _ => 0), Fi_X7, (fun _ => 0), (fun _ => 0), (fun _ => 0), (fun _ => 0), Fi_X10, Fi_X4, (fun _ => 0), (fun _ => 0), (fun _ => 0), (fun _ => 0), (fun _ => 0), (fun _ => 0), (fun _ => 0), (fun _ => 0), (fun _ => 0), (fun _ => 0), Fi_X5, (fun _ => 0), (fun _ => 0), (fun _ => 0), (fun _ => 0), Fi_X7, (fun _ => 0), (fun _ => 0), (fun _ => 0), (fun _ => 0), Fi_X6, Fi_X4, (fun _ => 0), (fun _ => 0), (fun _ => 0), (fun _ => 0), (fun _ => 0), (fun _ => 0), (fun _ => 0), (fun _ => 0), (fun _ => 0), (fun _ => 0)] : List (Nat → Int32)).getD k (fun _ => 0), fun _ => none, none, false)
def M00 (rows1 : Nat → Int32) : Nat → Nat → Int32 := fun k => ([Fi_X12, rows1, (fun _ => 0), (fun _ => 0), (fun _ => 0), (fun _ => 0), (fun _ => 0), (fun _ => 0), (fun _ => 0), (fun _ => 0), (fun _ => 0), (fun _ => 0), (fun _ => 0), (fun _ => 0), (fun _ => 0), (fun _ => 0)] : List (Nat → Int32)).getD k (fun _ => 0)
def A00 (h : Nat) (u : (Nat → Nat) × (Nat → Nat) × (Nat → Nat) × (Nat → Nat) × (Nat → Nat) × (Nat → Nat) × (Nat → Nat) × (Nat → Nat) × (Nat → Nat) × (Nat → Nat) × (Nat → Nat) × (Nat → Nat) × (Nat → Nat) × (Nat → Nat) × (Nat → Nat) × (Nat → Nat) × (Nat → Nat) × (Nat → Nat) × (Nat → Nat) × (Nat → Nat) × (Nat → Nat) × (Nat → Nat) × (Nat → Nat) × (Nat → Nat) × (Nat → Nat)) : CAd := (h, fun k => ([u.1, (fun _ => 0), u.2.1, u.2.2.1, u.2.2.2.1, (fun _ => 0), (fun _ => 0), (fun _ => 0), (fun _ => 0), (fun _ => 0), (fun _ => 0), (fun _ => 0), (fun _ => 0), (fun _ => 0), u.2.2.2.2.1, (fun _ => 0), (fun _ => 0), (fun _ => 0), u.2.2.2.2.2.1, (fun _ => 0), (fun _ => 0), (fun _ => 0), (fun _ => 0), u.2.2.2.2.2.2.1, u.2.2.2.2.2.2.2.1, (fun _ => 0), (fun _ => 0), (fun _ => 0), u.2.2.2.2.2.2.2.2.1, u.2.2.2.2.2.2.2.2.2.1, (fun _ => 0), (fun _ => 0), u.2.2.2.2.2.2.2.2.2.2.1, u.2.2.2.2.2.2.2.2.2.2.2.1, u.2.2.2.2.2.2.2.2.2.2.2.2.1, (fun _ => 0), (fun _ => 0), (fun _ => 0), (fun _ => 0), (fun _ => 0), (fun _ => 0), (fun _ => 0), (fun _ => 0), (fun _ => 0), u.2.2.2.2.2.2.2.2.2.2.2.2.2.1, (fun _ => 0), (fun _ => 0), (fun _ => 0), (fun _ => 0), u.2.2.2.2.2.2.2.2.2.2.2.2.2.2.1, u.2.2.2.2.2.2.2.2.2.2.2.2.2.2.2.1, (fun _ => 0), (fun _ => 0), (fun _ => 0), u.2.2.2.2.2.2.2.2.2.2.2.2.2.2.2.2.1, u.2.2.2.2.2.2.2.2.2.2.2.2.2.2.2.2.2.1, u.2.2.2.2.2.2.2.2.2.2.2.2.2.2.2.2.2.2.1, (fun _ => 0), (fun _ => 0), (fun _ => 0), (fun _ => 0), (fun _ => 0), (fun _ => 0), (fun _ => 0), (fun _ => 0), (fun _ => 0), u.2.2.2.2.2.2.2.2.2.2.2.2.2.2.2.2.2.2.2.1, (fun _ => 0), (fun _ => 0), (fun _ => 0), (fun _ => 0), u.2.2.2.2.2.2.2.2.2.2.2.2.2.2.2.2.2.2.2.2.1, u.2.2.2.2.2.2.2.2.2.2.2.2.2.2.2.2.2.2.2.2.2.1, (fun _ => 0), (fun _ => 0), (fun _ => 0), u.2.2.2.2.2.2.2.2.2.2.2.2.2.2.2.2.2.2.2.2.2.2.1, u.2.2.2.2.2.2.2.2.2.2.2.2.2.2.2.2.2.2.2.2.2.2.2.1, u.2.2.2.2.2.2.2.2.2.2.2.2.2.2.2.2.2.2.2.2.2.2.2.2, (fun _ => 0), (fun _ => 0), (fun _ => 0), (fun _ => 0), (fun _ => 0), (fun _ => 0), (fun _ => 0), (fun _ => 0), (fun _ => 0)] : List (Nat → Nat)).getD k (fun _ => 0))
def S00 (rows1 : Nat → Int32) : LwS := (C00, M00 rows1, fun _ => 0, 107, 72827)
theorem w00 (D : va_G) (cI : ClassId) (h : Nat) (u : (Nat → Nat) × (Nat → Nat) × (Nat → Nat) × (Nat → Nat) × (Nat → Nat) × (Nat → Nat) × (Nat → Nat) × (Nat → Nat) × (Nat → Nat) × (Nat → Nat) × (Nat → Nat) × (Nat → Nat) × (Nat → Nat) × (Nat → Nat) × (Nat → Nat) × (Nat → Nat) × (Nat → Nat) × (Nat → Nat) × (Nat → Nat) × (Nat → Nat) × (Nat → Nat) × (Nat → Nat) × (Nat → Nat) × (Nat → Nat) × (Nat → Nat)) (V : CV) : cw D cI (A00 h u) V C00 = wi_X11 D cI h u := by
  have e1 : cwT D cI V C00 = [] := by
    show hw cI V.1 (fun _ => none) ++ [] = []
    rw [hw_empty]; rfl
  show cwB D cI (A00 h u) V C00 ++ cwT D cI V C00 = _
  rw [e1, List.append_nil]
  rfl
theorem w01 (cI : ClassId) (D : va_G) (h : Nat) (r : Nat → Nat) (rows1 : Nat → Int32) : rfw cI (h, r) (M00 rows1) = wi_X12 D cI h rows1 r := rfl
section ZNL
variable {p : Program} {l : Launch} {e : Env} {R : Room} {s : State} {m : MethodId} {args : Array Value} {below : List Frame} {meth : Method} {c : Code} {H H0 : Heap} {locs : List Loc} {cells slots pc : Nat} {Q : State → Prop} {cc : ByteArray} {ls : Array Slot} {rest : List Value} {A : Nat → Prop} {D : va_G} {ws : va_W} {cI : ClassId}
theorem z_newl {n : Int32} (N : Nat) (hx : p.tables.exec = Jvm.exec) (hb : c.code = cc) (hts : ∀ w ∈ TB, w.before args s = true) (hK : KK D cI s) (hP : va_P D vwCl ws H) (hD : va_D A ws) (hS : va_S A H0 H locs) (hA : ∀ q, H0.size ≤ q → A q) (hn : ¬ n < 0) (hN : n.toNatClampNeg = N) (hbytes : N * componentBytes .long ≤ 536870912) (hcells : cells + 1 ≤ R.cells) (hslots : slots + N ≤ R.slots) (hdg : decode cc pc = .ok (.newarray .long, 2))
    (kk : ∀ (q : Nat) (H1 : Heap), va_P D vwCl (ws ++ [(q, .inl (D.1 101, N, .inr (.inl (fun _ => 0))))]) H1 → va_D A (ws ++ [(q, .inl (D.1 101, N, .inr (.inl (fun _ => 0))))]) → va_S A H0 H1 locs → W p l e R s m args below meth c H1 locs (cells + 1) (slots + N) Q (F0 m (pc + 2) ls (.ref q :: rest))) : W p l e R s m args below meth c H locs cells slots Q (F0 m pc ls (.int n :: rest)) := by
  refine va_newa (atype := .long) (ty := .long) (a0 := (N, .inr (.inl (fun _ => 0)))) hx hb (hts _ ta_long) rfl hK.1 hP hD hS hA (fun _ => rfl) hn hN hbytes hcells hslots hdg (fun q cA H1 hK1 hP1 hD1 hS1 => ?_)
  have e1 := (hK1.2 3 (cA, .long) rfl).2
  have e2 := (hK.1.2 2 (D.1 101, .long) rfl).2
  have e3 : cA = D.1 101 := Option.some.inj ((show s.vm.findClass _ = some cA from e1).symm.trans (show s.vm.findClass _ = some (D.1 101) from e2))
  subst e3
  exact kk q H1 hP1 hD1 hS1
end ZNL
theorem perm_st {α : Type} {o : α} {x m : List α} : (o :: (m ++ x)).Perm ((x ++ m) ++ [o]) := by
  classical
  exact List.perm_iff_count.mpr (fun a => by simp only [List.count_append, List.count_cons, List.count_nil]; omega)
set_option maxHeartbeats 8000000 in
set_option maxRecDepth 100000 in
theorem law_enter {p : Program} {e : Env} {s : State} {m : MethodId} {below : List Frame} {meth : Method} {c : Code} (l : Launch) (hflags : l.flags = flags0) {b L : Nat} {xs : Nat → Int32} (hL : L ≤ 3072) (C0 : lw_At p s m meth c b L xs) (rows1 : Nat → Int32) (hB : m_X12_begins (fun _ => 0) = some rows1) (S9 : LwS) (hf : runL xs (L / 6) 0 (S00 rows1) = some S9) : W p l e room_1 s m #[Value.ref b] below meth c s.heap [] 0 0 (lw_Z below #[Value.ref b] s) (entryFrame m ([Value.ref b] : List Value).toArray 7) := by
  obtain ⟨hx, hb, hr, hml, hown, htl, hXs, hbl, hlocks, hgv⟩ := id C0
  have hts : ∀ w ∈ TB, w.before #[Value.ref b] s = true := fun w h => htl w (List.mem_filter.mp h).1
  have hcx : ∀ w ∈ (Cond.initialized RL :: TB), w.before #[Value.ref b] s = true := fun w h => (List.mem_cons.mp h).elim (fun q => by rw [q]; exact hts _ tn_L) (hts w)
  have hlt : l.stackTraces = false := by rw [Launch.stackTraces, hflags]; decide +kernel
  obtain ⟨D, cI, hK, hX⟩ := KS_start (args := #[Value.ref b]) htl (flat_of_before _ hgv)
  have hA : ∀ q : Nat, s.heap.size ≤ q → lA s q := fun _ h => h
  have hC : LawCtx p l room_1 s m #[Value.ref b] c D cI (Cond.initialized RL) b L xs := ⟨hx, hb, hml, hts, hcx, hown, hK, hX, hXs, hbl, hlt, Nat.le_of_ble_eq_true rfl, Nat.le_of_ble_eq_true rfl⟩
  have hown' : s.vm.findClass RL = some m.cls := hown
  have hS : va_S (lA s) s.heap s.heap [] := va_S.rf
  have hP : va_P D vwCl [] s.heap := fun k q h => by simp at h
  have hD : va_D (lA s) [] := ⟨fun i j p q h => by simp at h, fun k q h => by simp at h⟩
  have hl := lv_entry ([.ref b]) (n := 7) (Nat.le_of_ble_eq_true rfl)
  rw [lg_entry_eq]
  generalize (lg_sl ([.ref b]) ++ List.replicate (7 - (lg_sl ([.ref b])).length) Slot.unset).toArray = ls at hl ⊢
  have hl : lv_has ls 7 [(0, .ref b)] := hl
  refine va_new (ci := 11) (fs := dflt_X11) (C := RX11) (T := TX11) (N := 13) hx hb hts inT_X11 tyX11 tyX11_ok hown' (hts _ tq_L_8) (hts _ tu_X11) (hts _ tn_X11) hK.1 hP hD hS hA rfl dfl_X11 (Nat.le_of_ble_eq_true rfl) (Nat.le_of_ble_eq_true rfl) dLaw_0 (fun qx H hP hD hS => ?_)
  have hP : va_P D vwCl [(qx, .inr (11, dflt_X11))] H := hP
  have hD : va_D (lA s) [(qx, .inr (11, dflt_X11))] := hD
  refine lv_dup hx hb dLaw_3 rfl ?_
  refine z_cn (ws1 := fun u => wi_X11 D cI qx u) (wr := []) (z_rI (rest := [.ref qx]) hx hb hml hown' hcx hl.1 (c_X11_init l D cI qx _) tl_L_68 ti_X11_init tn_X11 tc_X11_init tm_X11_init rfl rfl rfl ⟨Nat.le_of_ble_eq_true rfl, Nat.le_of_ble_eq_true rfl⟩ hK hX hS hA hP hD [0] rfl rfl rfl rfl (Nat.le_of_ble_eq_true rfl) dLaw_4 ⟨Nat.le_of_ble_eq_true rfl, Nat.le_of_ble_eq_true rfl⟩) hP hD hS hA [0] [] [0, 1, 2, 3, 4, 5, 6, 7, 8, 9, 10, 11, 12, 13, 14, 15, 16, 17, 18, 19, 20, 21, 22, 23, 24, 25, 26, 27, 28, 29, 30, 31, 32, 33, 34, 35, 36, 37, 38, 39, 40, 41, 42, 43, 44, 45, 46, 47, 48, 49, 50, 51, 52, 53, 54, 55, 56, 57, 58, 59, 60, 61, 62, 63, 64, 65, 66, 67, 68, 69, 70, 71, 72, 73, 74, 75, 76, 77, 78, 79, 80, 81, 82, 83, 84, 85, 86, 87] rfl rfl rfl (by decide) (fun _ => rfl) rfl (fun u H locs hP hD hS => ?_)
  refine lv_astore_n (lv' := [(1, .ref qx), (0, .ref b)]) hx hb dLaw_7 rfl hl (by decide) rfl (fun ls hl => ?_)
  refine va_new (ci := 12) (fs := dflt_X12) (C := RX12) (T := TX12) (N := 51) hx hb hts inT_X12 tyX12 tyX12_ok hown' (hts _ tq_L_69) (hts _ tu_X12) (hts _ tn_X12) hK.1 hP hD hS hA rfl dfl_X12 (Nat.le_of_ble_eq_true rfl) (Nat.le_of_ble_eq_true rfl) dLaw_8 (fun qm H hP hD hS => ?_)
  refine lv_dup hx hb dLaw_11 rfl ?_
  refine z_cn (ws1 := fun r => wi_X11 D cI qx u ++ wi_X12 D cI qm rows1 r) (wr := wi_X11 D cI qx u) (z_rI (rest := [.ref qm]) hx hb hml hown' hcx hl.1 (c_X12_init l D cI qm rows1 hB _) tl_L_71 ti_X12_init tn_X12 tc_X12_init tm_X12_init rfl rfl rfl ⟨Nat.le_of_ble_eq_true rfl, Nat.le_of_ble_eq_true rfl⟩ hK hX hS hA hP hD [88] rfl rfl rfl rfl (Nat.le_of_ble_eq_true rfl) dLaw_12 ⟨Nat.le_of_ble_eq_true rfl, Nat.le_of_ble_eq_true rfl⟩) hP hD hS hA [88] [0, 1, 2, 3, 4, 5, 6, 7, 8, 9, 10, 11, 12, 13, 14, 15, 16, 17, 18, 19, 20, 21, 22, 23, 24, 25, 26, 27, 28, 29, 30, 31, 32, 33, 34, 35, 36, 37, 38, 39, 40, 41, 42, 43, 44, 45, 46, 47, 48, 49, 50, 51, 52, 53, 54, 55, 56, 57, 58, 59, 60, 61, 62, 63, 64, 65, 66, 67, 68, 69, 70, 71, 72, 73, 74, 75, 76, 77, 78, 79, 80, 81, 82, 83, 84, 85, 86, 87] [0, 1, 2, 3, 4, 5, 6, 7, 8, 9, 10, 11, 12, 13, 14, 15, 16, 17, 18, 19, 20, 21, 22, 23, 24, 25, 26, 27, 28, 29, 30, 31, 32, 33, 34, 35, 36, 37, 38, 39, 40, 41, 42, 43, 44, 45, 46, 47, 48, 49, 50, 51, 52, 53, 54, 55, 56, 57, 58, 59, 60, 61, 62, 63, 64, 65, 66, 67, 68, 69, 70, 71, 72, 73, 74, 75, 76, 77, 78, 79, 80, 81, 82, 83, 84, 85, 86, 87, 88, 89, 90, 91, 92, 93, 94, 95, 96, 97, 98, 99, 100, 101, 102, 103] rfl rfl rfl (by decide) (fun _ => rfl) rfl (fun r H locs hP hD hS => ?_)
  refine lv_astore_n (lv' := [(2, .ref qm), (1, .ref qx), (0, .ref b)]) hx hb dLaw_15 rfl hl (by decide) rfl (fun ls hl => ?_)
  refine lv_iconst (v := 1) hx hb dLaw_16 (by decide) ?_
  refine z_newl 1 hx hb hts hK hP hD hS hA (by decide) (by decide) (by decide) (Nat.le_of_ble_eq_true rfl) (Nat.le_of_ble_eq_true rfl) dLaw_17 (fun ho H hP hD hS => ?_)
  refine lv_astore_n (lv' := [(3, .ref ho), (2, .ref qm), (1, .ref qx), (0, .ref b)]) hx hb dLaw_19 rfl hl (by decide) rfl (fun ls hl => ?_)
  refine lv_iconst (v := 0) hx hb dLaw_20 (by decide) ?_
  refine lv_istore (lv' := [(4, .int 0), (3, .ref ho), (2, .ref qm), (1, .ref qx), (0, .ref b)]) hx hb dLaw_21 hl (by decide) rfl (fun ls hl => ?_)
  have V : CV := (fun _ => (0, fun _ => 0, fun _ => 0), (0, fun _ => 0, fun _ => 0, fun _ => 0, fun _ => 0), fun _ => (0, fun _ => 0, fun _ => 0))
  have e0 : lwW D cI (A00 qx u) (qm, r) ho V (S00 rows1) = (ho, .inl (D.1 101, 1, .inr (.inl (fun _ => 0)))) :: (wi_X12 D cI qm rows1 r ++ wi_X11 D cI qx u) := by
    show (ho, _) :: (rfw cI (qm, r) (M00 rows1) ++ cw D cI (A00 qx u) V C00) = _
    rw [w00, w01 cI D]; rfl
  have hp := perm_st (o := (ho, (.inl (D.1 101, 1, .inr (.inl (fun _ => 0))) : va_E))) (x := wi_X11 D cI qx u) (m := wi_X12 D cI qm rows1 r)
  rw [← e0] at hp
  have hP := va_P_perm hp.symm hP
  have hD := va_D_perm hp.symm hD
  refine W.widen (k := 107) (n := 72827) (Nat.le_of_ble_eq_true rfl) (Nat.le_of_ble_eq_true rfl) ?_
  refine law_loop hC hL (A00 qx u) (qm, r) ho S9 (fun S H locs ls hS hc1 hs1 => ?_) (L / 6) 0 (Nat.zero_add _) V (S00 rows1) H locs ls hf (Nat.le_of_ble_eq_true rfl) (Nat.le_of_ble_eq_true rfl) hP hD hS (lv_sub hl [4, 3, 2, 1, 0] rfl)
  refine W.widen hc1 hs1 ?_
  refine va_forget (fun q hq => hS.2.2 q hq) ?_
  refine lv_iconst (v := 1) hx hb dLaw_1527 (by decide) ?_
  exact lw_ret hx hb hr hlocks dLaw_1528
