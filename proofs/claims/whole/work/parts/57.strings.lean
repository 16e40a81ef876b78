theorem tf_J0_9 : Cond.fieldLink RJ0 9 "java/lang/String" "value" "[B" ∈ TB := tb_of 1949 (by decide +kernel) (by decide +kernel)
theorem tf_J0_15 : Cond.fieldLink RJ0 15 "java/lang/String" "coder" "B" ∈ TB := tb_of 1950 (by decide +kernel) (by decide +kernel)
theorem tf_J0_38 : Cond.fieldLink RJ0 38 "java/lang/String" "COMPACT_STRINGS" "Z" ∈ TB := tb_of 970 (by decide +kernel) (by decide +kernel)
theorem tf_J0_1053 : Cond.fieldLink RJ0 1053 "jdk/internal/util/Preconditions" "SIOOBE_FORMATTER" "Ljava/util/function/BiFunction;" ∈ TB := tb_of 986 (by decide +kernel) (by decide +kernel)
/-! ===== the reader's words: their lengths, their chars ===== -/
def wB (w : Nat) : List Int32 := ((RWS[w]?).map (fun q => q.2.2)).getD []
def slenV (w : Nat) : Int32 := Int32.ofNat (wB w).length >>> ((0 : Int32) &&& 31)
def scharV (w k : Nat) : Int32 := (((wB w).getD k 0 &&& 255).toUInt32 % 65536).toInt32
def rdc {α : Type} (w : Nat) (k : Int32) (f : Int32 → Option α) : Option α := if k < 0 ∨ (wB w).length ≤ k.toNatClampNeg then none else f (scharV w k.toNatClampNeg)
theorem wB_short {w : Nat} (hw : w < 12) : (wB w).length < 100 := by
  have h : ∀ w : Fin 12, (wB w.1).length < 100 := by decide +kernel
  exact h ⟨w, hw⟩
theorem lt_ofNat {k : Int32} {n : Nat} (hn : n < 100) (h0 : ¬ k < 0) (h : k.toNatClampNeg < n) : k < Int32.ofNat n := by
  rw [Int32.lt_iff_toInt_lt] at h0 ⊢
  rw [Int32.toInt_ofNat_of_lt (by omega)]
  have h1 : (0 : Int32).toInt = 0 := rfl
  rw [h1] at h0
  have h2 : k.toNatClampNeg = k.toInt.toNat := rfl
  omega
theorem rdc_some {α : Type} {w : Nat} {k : Int32} {f : Int32 → Option α} {r : α} (hw : w < 12) (h : rdc w k f = some r) : vp_in k (wB w).length ∧ k < Int32.ofNat (wB w).length ∧ f (scharV w k.toNatClampNeg) = some r := by
  unfold rdc at h
  by_cases c : k < 0 ∨ (wB w).length ≤ k.toNatClampNeg
  · rw [if_pos c] at h; cases h
  · rw [if_neg c] at h
    exact ⟨c, lt_ofNat (wB_short hw) (fun h => c (Or.inl h)) (Nat.lt_of_not_le fun h => c (Or.inr h)), h⟩
theorem rws_at {D : va_G} {A : Nat → Prop} {s : State} {w : Nat} (hX : SX D A s) (hw : w < 12) : ∃ q : Nat × String × List Int32, RWS[w]? = some q ∧ q.2.2 = wB w ∧ skW D w q A s := by
  have h : w < RWS.length := hw
  refine ⟨RWS[w], List.getElem?_eq_getElem h, ?_, hX.2.2.2.2.2.2.1 w _ (List.getElem?_eq_getElem h)⟩
  unfold wB
  rw [List.getElem?_eq_getElem h]
  rfl
section ZS
variable {p : Program} {l : Launch} {e : Env} {R : Room} {s : State} {m : MethodId} {args : Array Value} {below : List Frame} {meth : Method} {c : Code} {H : Heap} {locs : List Loc} {cells slots pc : Nat} {cc : ByteArray} {ls : Array Slot} {rest : List Value} {A : Nat → Prop} {D : va_G} {ws : va_W} {cI : ClassId} {st0 : List Value}
variable {y : MethodName} {cx : Cond} {bytes : ByteArray} {maxL nL n index : Nat} {ret : Option FieldType} {rm : Room} {own C : String} {b : Addr} {As : List Value} {Qc : Array Value → State → Outcome → State → Prop}
/-- an instance method of an object that is in no world -/
theorem z_rVO (hx : p.tables.exec = Jvm.exec) (hb : c.code = cc) (hml : c.maxLocals = nL) (hown : s.vm.findClass own = some m.cls) (hcx : ∀ w ∈ (cx :: TB), w.before args s = true) (hlsz : ls.size = nL) (hM : Met l y (Cond.code y bytes maxL ret :: TB) rm (Pz D cI (Value.ref b :: As) [] H.size) Qc 0 0 (va_A [] H.size))
    (t1 : Cond.methodLink own index y ∈ TB) (t2 : Cond.instanceMethod y ∈ TB) (t3 : Cond.selects C y y ∈ TB) (t4 : Cond.initialized C ∈ TB) (t5 : Cond.code y bytes maxL ret ∈ TB) (hd : y.cls = C ∧ y.cls ≠ "java/lang/invoke/MethodHandle" ∧ y.cls ≠ "java/lang/invoke/VarHandle" ∧ (parseMethodDescriptor y.desc).map (fun d => d.parameters.length) = some n) (hrc : rm.cells = 0) (hrs : rm.slots = 0) (hR : rm.frames + 1 ≤ R.frames ∧ 8 + (maxL + 11) + rm.locals ≤ R.locals)
    (hK : KK D cI s) (hX : SX D A s) (hS : va_S A s.heap H locs) (hA : ∀ q : Nat, s.heap.size ≤ q → A q) (hP : va_P D vwCl ws H) (hD : va_D A ws) (hO : va_O C b A s s.heap) (hlen : As.length = n) (hst : st0 = As.reverse ++ .ref b :: rest) (hroom : (rest.map fun v => v.category).sum ≤ 8) (hdg : decode cc pc = .ok (.invokevirtual index, 3)) (hf : cells ≤ R.cells ∧ slots ≤ R.slots) :
    va_Run p l e R s m args below meth c H locs cells slots 0 0 (F0 m pc ls st0) rest (Qc (Value.ref b :: As).toArray) (va_A [] H.size) := by
  obtain ⟨cell, h1, h2, h3, -⟩ := hO.kept hS.2.1
  exact va_runV ⟨hx, hb, hml, hown, hcx⟩ hM (cwV n hcx (tb_V t1 t2 t3 t4 t5) rfl hrc hrs hd hR) ⟨Pz_blind, ⟨cell, h1, h2, h3⟩, z_pre hP hD hK hX hS hA [] rfl rfl⟩ rfl hlen hlsz hst (lv_room hroom) hdg hf
end ZS
abbrev rm_s0 : Room := { frames := 0, cells := 0, slots := 0, locals := 0 }
abbrev rm_s1 : Room := { frames := 1, cells := 0, slots := 0, locals := 22 }
abbrev rm_s2 : Room := { frames := 2, cells := 0, slots := 0, locals := 44 }
abbrev rm_s3 : Room := { frames := 3, cells := 0, slots := 0, locals := 66 }
theorem c_coder (l : Launch) (D : va_G) (cI : ClassId) (w : Nat) (hw : w < 12) : CTi l yJ0_coder_7d493 (Cond.code yJ0_coder_7d493 cJ0_coder_7d493 1 (some .byte)) rm_s0 D cI [.ref (D.2 200 w)] [] 0 [] := by
  refine z_beginM (Qc := fun sz => Ri D [] 0 [] sz) (own := RJ0) 0 0 (by decide +kernel) rfl (Nat.le_of_ble_eq_true rfl) ?_
  intro p e s m args below meth c ls A hx hb hr hlocks hml hts hcx hown hK hX hA hAe hP hD hS hl
  have hl : lv_has ls 1 [(0, .ref (D.2 200 w))] := hl
  obtain ⟨q, hq, hqb, h1, h2, h3, h4, h5⟩ := rws_at hX hw
  refine va_gets hx hb hX.2.2.2.2.2.1.1 hS hown (hts _ tf_J0_38) (fun _ h => h) dJ0_coder_7d493_0 ?_
  refine lv_if_eq (tgt := 13) hx hb dJ0_coder_7d493_3 (by decide) (fun h => absurd h (by decide)) (fun _ => ?_)
  refine lv_aload_n hx hb dJ0_coder_7d493_6 rfl (lv_at hl 0 rfl) ?_
  refine vk_getf hx hb h3 hS hown (hts _ tf_J0_15) (fun _ h => h) dJ0_coder_7d493_7 ?_
  refine lv_goto (tgt := 14) hx hb dJ0_coder_7d493_10 (by decide) ?_
  subst hAe
  exact W.zret hx hb hr rfl (fun t ht hW => ⟨⟨0, (), rfl, rfl, by rw [ht]; exact hP, hD⟩, hS.F ht⟩) hS.2.2 dJ0_coder_7d493_14 hlocks
theorem c_latin (l : Launch) (D : va_G) (cI : ClassId) (w : Nat) (hw : w < 12) : CTi l yJ0_isLatin1_aae02 (Cond.code yJ0_isLatin1_aae02 cJ0_isLatin1_aae02 1 (some .boolean)) rm_s0 D cI [.ref (D.2 200 w)] [] 1 [] := by
  refine z_beginM (Qc := fun sz => Ri D [] 1 [] sz) (own := RJ0) 0 0 (by decide +kernel) rfl (Nat.le_of_ble_eq_true rfl) ?_
  intro p e s m args below meth c ls A hx hb hr hlocks hml hts hcx hown hK hX hA hAe hP hD hS hl
  have hl : lv_has ls 1 [(0, .ref (D.2 200 w))] := hl
  obtain ⟨q, hq, hqb, h1, h2, h3, h4, h5⟩ := rws_at hX hw
  refine va_gets hx hb hX.2.2.2.2.2.1.1 hS hown (hts _ tf_J0_38) (fun _ h => h) dJ0_isLatin1_aae02_0 ?_
  refine lv_if_eq (tgt := 17) hx hb dJ0_isLatin1_aae02_3 (by decide) (fun h => absurd h (by decide)) (fun _ => ?_)
  refine lv_aload_n hx hb dJ0_isLatin1_aae02_6 rfl (lv_at hl 0 rfl) ?_
  refine vk_getf hx hb h3 hS hown (hts _ tf_J0_15) (fun _ h => h) dJ0_isLatin1_aae02_7 ?_
  refine lv_if_ne (tgt := 17) hx hb dJ0_isLatin1_aae02_10 (by decide) (fun h => absurd rfl h) (fun _ => ?_)
  refine lv_iconst (v := 1) hx hb dJ0_isLatin1_aae02_13 (by decide) ?_
  refine lv_goto (tgt := 18) hx hb dJ0_isLatin1_aae02_14 (by decide) ?_
  subst hAe
  exact W.zret hx hb hr rfl (fun t ht hW => ⟨⟨1, (), rfl, rfl, by rw [ht]; exact hP, hD⟩, hS.F ht⟩) hS.2.2 dJ0_isLatin1_aae02_18 hlocks
theorem c_slen (l : Launch) (D : va_G) (cI : ClassId) (w : Nat) (hw : w < 12) : CTi l yJ0_length_8abf5 (Cond.code yJ0_length_8abf5 cJ0_length_8abf5 1 (some .int)) rm_s1 D cI [.ref (D.2 200 w)] [] (slenV w) [] := by
  refine z_beginM (Qc := fun sz => Ri D [] (slenV w) [] sz) (own := RJ0) 0 0 (by decide +kernel) rfl (Nat.le_of_ble_eq_true rfl) ?_
  intro p e s m args below meth c ls A hx hb hr hlocks hml hts hcx hown hK hX hA hAe hP hD hS hl
  have hl : lv_has ls 1 [(0, .ref (D.2 200 w))] := hl
  obtain ⟨q, hq, hqb, h1, h2, h3, h4, h5⟩ := rws_at hX hw
  rw [hqb] at h5
  refine lv_aload_n hx hb dJ0_length_8abf5_0 rfl (lv_at hl 0 rfl) ?_
  refine vk_getf hx hb h4 hS hown (hts _ tf_J0_9) (fun _ h => h) dJ0_length_8abf5_1 ?_
  refine va_tlen (v := Int32.ofNat (wB w).length) hx hb h5 hS rfl dJ0_length_8abf5_4 ?_
  refine lv_aload_n hx hb dJ0_length_8abf5_5 rfl (lv_at hl 0 rfl) ?_
  refine z_ci (ws1 := []) (wr := []) (z_rVO (rest := [.int (Int32.ofNat (wB w).length)]) hx hb hml hown hcx hl.1 (c_coder l D cI w hw _) tl_J0_335 ti_J0_coder_7d493 tz_J0_coder_7d493 tn_J0 tc_J0_coder_7d493 tm_J0_coder_7d493 rfl rfl ⟨Nat.le_of_ble_eq_true rfl, Nat.le_of_ble_eq_true rfl⟩ hK hX hS hA hP hD h2 rfl rfl (Nat.le_of_ble_eq_true rfl) dJ0_length_8abf5_6 ⟨Nat.zero_le _, Nat.zero_le _⟩) hP hD hS hA [] [] [] rfl rfl rfl (by decide) rfl rfl (fun H locs hP hD hS => ?_)
  refine lv_ishr hx hb dJ0_length_8abf5_9 ?_
  subst hAe
  exact W.iret hx hb hr (fun t ht hW => ⟨⟨slenV w, (), rfl, rfl, by rw [ht]; exact hP, hD⟩, hS.F ht⟩) hS.2.2 dJ0_length_8abf5_10 hlocks
theorem c_pre (l : Launch) (D : va_G) (cI : ClassId) (i n : Int32) (v : Value) (h0 : ¬ i < 0) (h1 : i < n) (hv : v.category = 1) : CTi l yJ3_checkIndex_8e157 (Cond.code yJ3_checkIndex_8e157 cJ3_checkIndex_8e157 3 (some .int)) rm_s0 D cI [.int i, .int n, v] [] i [] := by
  refine z_beginM (Qc := fun sz => Ri D [] i [] sz) (own := RJ3) 0 0 (by decide +kernel) rfl (by show (lg_sl [.int i, .int n, v]).length ≤ 3; simp [lg_sl, hv, show (Value.int i).category = 1 from rfl, show (Value.int n).category = 1 from rfl]) ?_
  intro p e s m args below meth c ls A hx hb hr hlocks hml hts hcx hown hK hX hA hAe hP hD hS hl
  have hl : lv_has ls 3 [(0, .int i), (1, .int n), (2, v)] := hl
  refine lv_iload_n hx hb dJ3_checkIndex_8e157_0 rfl (lv_at hl 0 rfl) ?_
  refine lv_if_lt (tgt := 9) hx hb dJ3_checkIndex_8e157_1 (by decide) (fun h => absurd h h0) (fun _ => ?_)
  refine lv_iload_n hx hb dJ3_checkIndex_8e157_4 rfl (lv_at hl 0 rfl) ?_
  refine lv_iload_n hx hb dJ3_checkIndex_8e157_5 rfl (lv_at hl 1 rfl) ?_
  refine lv_icmp_lt (tgt := 16) hx hb dJ3_checkIndex_8e157_6 (by decide) (fun _ => ?_) (fun h => absurd h1 h)
  refine lv_iload_n hx hb dJ3_checkIndex_8e157_16 rfl (lv_at hl 0 rfl) ?_
  subst hAe
  exact W.iret hx hb hr (fun t ht hW => ⟨⟨i, (), rfl, rfl, by rw [ht]; exact hP, hD⟩, hS.F ht⟩) hS.2.2 dJ3_checkIndex_8e157_17 hlocks
theorem c_chk (l : Launch) (D : va_G) (cI : ClassId) (i n : Int32) (h0 : ¬ i < 0) (h1 : i < n) : CTv l yJ0_checkIndex_df160 (Cond.code yJ0_checkIndex_df160 cJ0_checkIndex_df160 2 none) rm_s1 D cI [.int i, .int n] [] [] := by
  refine z_beginM (Qc := fun sz => Rv D [] [] sz) (own := RJ0) 0 0 (by decide +kernel) rfl (Nat.le_of_ble_eq_true rfl) ?_
  intro p e s m args below meth c ls A hx hb hr hlocks hml hts hcx hown hK hX hA hAe hP hD hS hl
  have hl : lv_has ls 2 [(0, .int i), (1, .int n)] := hl
  have key : ∀ v : Value, v.category = 1 → W p l e rm_s1 s m args below meth c s.heap [] 0 0 (MQ below (Rv D [] [] s.heap.size) args s 0 0 A) (F0 m 5 ls [v, .int n, .int i]) := by
    intro v hv
    refine z_ci (ws1 := []) (wr := []) (z_rS (rest := []) hx hb hml hown hcx hl.1 (c_pre l D cI i n v h0 h1 hv _) tl_J0_1059 ts_J3_checkIndex_8e157 tn_J3 tc_J3_checkIndex_8e157 tm_J3_checkIndex_8e157 rfl rfl ⟨Nat.le_of_ble_eq_true rfl, Nat.le_of_ble_eq_true rfl⟩ hK hX hS hA hP hD [] rfl rfl rfl rfl (Nat.le_of_ble_eq_true rfl) dJ0_checkIndex_df160_5 ⟨Nat.zero_le _, Nat.zero_le _⟩) hP hD hS hA [] [] [] rfl rfl rfl (by decide) rfl rfl (fun H locs hP hD hS => ?_)
    refine lv_pop hx hb dJ0_checkIndex_df160_8 rfl ?_
    subst hAe
    exact W.vret hx hb hr (fun t ht hW => ⟨⟨(), rfl, trivial, by rw [ht]; exact hP, hD⟩, hS.F ht⟩) hS.2.2 dJ0_checkIndex_df160_9 hlocks
  refine lv_iload_n hx hb dJ0_checkIndex_df160_0 rfl (lv_at hl 0 rfl) ?_
  refine lv_iload_n hx hb dJ0_checkIndex_df160_1 rfl (lv_at hl 1 rfl) ?_
  rcases hX.2.2.2.2.2.1.2.1 with hZ | ⟨t, hZ⟩
  · refine va_gets hx hb hZ hS hown (hts _ tf_J0_1053) (fun _ h => h) dJ0_checkIndex_df160_2 ?_
    exact key .null rfl
  · refine va_gets hx hb hZ hS hown (hts _ tf_J0_1053) (fun _ h => h) dJ0_checkIndex_df160_2 ?_
    exact key (.ref t) rfl
theorem c_lchar (l : Launch) (D : va_G) (cI : ClassId) (w : Nat) (hw : w < 12) (k : Int32) (hk : vp_in k (wB w).length) (hk2 : k < Int32.ofNat (wB w).length) : CTi l yJ1_charAt_3b067 (Cond.code yJ1_charAt_3b067 cJ1_charAt_3b067 2 (some .char)) rm_s2 D cI [.ref (D.2 201 w), .int k] [] (scharV w k.toNatClampNeg) [] := by
  refine z_beginM (Qc := fun sz => Ri D [] (scharV w k.toNatClampNeg) [] sz) (own := RJ1) 0 0 (by decide +kernel) rfl (Nat.le_of_ble_eq_true rfl) ?_
  intro p e s m args below meth c ls A hx hb hr hlocks hml hts hcx hown hK hX hA hAe hP hD hS hl
  have hl : lv_has ls 2 [(0, .ref (D.2 201 w)), (1, .int k)] := hl
  obtain ⟨q, hq, hqb, h1, h2, h3, h4, h5⟩ := rws_at hX hw
  rw [hqb] at h5
  refine lv_iload_n hx hb dJ1_charAt_3b067_0 rfl (lv_at hl 1 rfl) ?_
  refine lv_aload_n hx hb dJ1_charAt_3b067_1 rfl (lv_at hl 0 rfl) ?_
  refine va_tlen (v := Int32.ofNat (wB w).length) hx hb h5 hS rfl dJ1_charAt_3b067_2 ?_
  refine z_cv (ws1 := []) (wr := []) (z_rS (rest := []) hx hb hml hown hcx hl.1 (c_chk l D cI k _ (fun h => hk (Or.inl h)) hk2 _) tl_J1_9 ts_J0_checkIndex_df160 tn_J0 tc_J0_checkIndex_df160 tm_J0_checkIndex_df160 rfl rfl ⟨Nat.le_of_ble_eq_true rfl, Nat.le_of_ble_eq_true rfl⟩ hK hX hS hA hP hD [] rfl rfl rfl rfl (Nat.le_of_ble_eq_true rfl) dJ1_charAt_3b067_3 ⟨Nat.zero_le _, Nat.zero_le _⟩) hP hD hS hA [] [] [] rfl rfl rfl (by decide) rfl rfl (fun H locs hP hD hS => ?_)
  refine lv_aload_n hx hb dJ1_charAt_3b067_6 rfl (lv_at hl 0 rfl) ?_
  refine lv_iload_n hx hb dJ1_charAt_3b067_7 rfl (lv_at hl 1 rfl) ?_
  refine va_tb hx hb h5 hS hk rfl dJ1_charAt_3b067_8 ?_
  refine lv_sipush (v := 255) hx hb dJ1_charAt_3b067_9 (by decide) ?_
  refine lv_iand hx hb dJ1_charAt_3b067_12 ?_
  refine lv_i2c (v := scharV w k.toNatClampNeg) hx hb dJ1_charAt_3b067_13 rfl ?_
  subst hAe
  exact W.zret hx hb hr (pk_nc _) (fun t ht hW => ⟨⟨scharV w k.toNatClampNeg, (), rfl, rfl, by rw [ht]; exact hP, hD⟩, hS.F ht⟩) hS.2.2 dJ1_charAt_3b067_14 hlocks
theorem c_schar (l : Launch) (D : va_G) (cI : ClassId) (w : Nat) (hw : w < 12) (k : Int32) (hk : vp_in k (wB w).length) (hk2 : k < Int32.ofNat (wB w).length) : CTi l yJ0_charAt_5068e (Cond.code yJ0_charAt_5068e cJ0_charAt_5068e 2 (some .char)) rm_s3 D cI [.ref (D.2 200 w), .int k] [] (scharV w k.toNatClampNeg) [] := by
  refine z_beginM (Qc := fun sz => Ri D [] (scharV w k.toNatClampNeg) [] sz) (own := RJ0) 0 0 (by decide +kernel) rfl (Nat.le_of_ble_eq_true rfl) ?_
  intro p e s m args below meth c ls A hx hb hr hlocks hml hts hcx hown hK hX hA hAe hP hD hS hl
  have hl : lv_has ls 2 [(0, .ref (D.2 200 w)), (1, .int k)] := hl
  obtain ⟨q, hq, hqb, h1, h2, h3, h4, h5⟩ := rws_at hX hw
  refine lv_aload_n hx hb dJ0_charAt_5068e_0 rfl (lv_at hl 0 rfl) ?_
  refine z_ci (ws1 := []) (wr := []) (z_rVO (rest := []) hx hb hml hown hcx hl.1 (c_latin l D cI w hw _) tl_J0_492 ti_J0_isLatin1_aae02 tz_J0_isLatin1_aae02 tn_J0 tc_J0_isLatin1_aae02 tm_J0_isLatin1_aae02 rfl rfl ⟨Nat.le_of_ble_eq_true rfl, Nat.le_of_ble_eq_true rfl⟩ hK hX hS hA hP hD h2 rfl rfl (Nat.le_of_ble_eq_true rfl) dJ0_charAt_5068e_1 ⟨Nat.zero_le _, Nat.zero_le _⟩) hP hD hS hA [] [] [] rfl rfl rfl (by decide) rfl rfl (fun H locs hP hD hS => ?_)
  refine lv_if_eq (tgt := 16) hx hb dJ0_charAt_5068e_4 (by decide) (fun h => absurd h (by decide)) (fun _ => ?_)
  refine lv_aload_n hx hb dJ0_charAt_5068e_7 rfl (lv_at hl 0 rfl) ?_
  refine vk_getf hx hb h4 hS hown (hts _ tf_J0_9) (fun _ h => h) dJ0_charAt_5068e_8 ?_
  refine lv_iload_n hx hb dJ0_charAt_5068e_11 rfl (lv_at hl 1 rfl) ?_
  refine z_ci (ws1 := []) (wr := []) (z_rS (rest := []) hx hb hml hown hcx hl.1 (c_lchar l D cI w hw k hk hk2 _) tl_J0_495 ts_J1_charAt_3b067 tn_J1 tc_J1_charAt_3b067 tm_J1_charAt_3b067 rfl rfl ⟨Nat.le_of_ble_eq_true rfl, Nat.le_of_ble_eq_true rfl⟩ hK hX hS hA hP hD [] rfl rfl rfl rfl (Nat.le_of_ble_eq_true rfl) dJ0_charAt_5068e_12 ⟨Nat.zero_le _, Nat.zero_le _⟩) hP hD hS hA [] [] [] rfl rfl rfl (by decide) rfl rfl (fun H locs hP hD hS => ?_)
  subst hAe
  exact W.zret hx hb hr (pk_nc _) (fun t ht hW => ⟨⟨scharV w k.toNatClampNeg, (), rfl, rfl, by rw [ht]; exact hP, hD⟩, hS.F ht⟩) hS.2.2 dJ0_charAt_5068e_15 hlocks
