/-! ===== a machine's cells, and its state as one value ===== -/
abbrev MSt : Type := (Nat → Int32) × (Nat → Int32) × (Nat → Int32) × (Nat → Int32) × (Nat → Int32) × (Nat → Int32) × (Nat → Int32) × (Nat → Int32) × (Nat → Int32) × (Nat → Int32)
abbrev MAd : Type := Nat × (Nat → Nat) × (Nat → Nat)
abbrev mw (cI : ClassId) (a : MAd) (S : MSt) : va_W := [(a.1, .inr (4, o_X4 a.2.1 S.1)), (a.2.1 0, .inr (1, o_X1 a.2.2)), (a.2.2 0, .inl (cI, 64, .inl S.2.1)), (a.2.2 1, .inl (cI, 96, .inl S.2.2.1)), (a.2.2 2, .inl (cI, 16, .inl S.2.2.2.1)), (a.2.2 3, .inl (cI, 16, .inl S.2.2.2.2.1)), (a.2.1 1, .inl (cI, 80, .inl S.2.2.2.2.2.1)), (a.2.1 4, .inl (cI, 44, .inl S.2.2.2.2.2.2.1)), (a.2.1 5, .inl (cI, 44, .inl S.2.2.2.2.2.2.2.1)), (a.2.1 6, .inl (cI, 48, .inl S.2.2.2.2.2.2.2.2.1)), (a.2.1 11, .inl (cI, 8, .inl S.2.2.2.2.2.2.2.2.2))]
def zeroM : MSt := (Fi_X4, fun _ => 0, fun _ => 0, fun _ => 0, fun _ => 0, fun _ => 0, fun _ => 0, fun _ => 0, fun _ => 0, fun _ => 0)
/-- a machine is made like another one -/
def m_copyM (S T : MSt) : Option MSt := m_X4_copyFrom S.1 T.1 S.2.1 S.2.2.1 S.2.2.2.1 S.2.2.2.2.1 S.2.2.2.2.2.1 S.2.2.2.2.2.2.1 S.2.2.2.2.2.2.2.1 S.2.2.2.2.2.2.2.2.1 S.2.2.2.2.2.2.2.2.2 T.2.1 T.2.2.1 T.2.2.2.1 T.2.2.2.2.1 T.2.2.2.2.2.1 T.2.2.2.2.2.2.1 T.2.2.2.2.2.2.2.1 T.2.2.2.2.2.2.2.2.1 T.2.2.2.2.2.2.2.2.2
theorem c_copyM (l : Launch) (D : va_G) (cI : ClassId) (a b : MAd) (S T Rr : MSt) (hf : m_copyM S T = some Rr) : CTv l yX4_copyFrom (Cond.code yX4_copyFrom cX4_copyFrom 2 none) rm_X4_copyFrom D cI [.ref a.1, .ref b.1] (mw cI a S ++ mw cI b T) (mw cI a Rr ++ mw cI b T) := c_X4_copyFrom l D cI a.1 b.1 a.2.1 a.2.2 b.2.1 b.2.2 S.1 T.1 _ _ _ _ _ _ _ _ _ _ _ _ _ _ _ _ _ _ Rr hf
/-! ===== contracts that answer a reference, or grow ===== -/
def Rq {σ : Type} (D : va_G) (wc : va_W) (av : σ → Nat) (w1 : σ → va_W) (sz : Nat) : Array Value → State → Outcome → State → Prop := va_Qr (fun (_ : σ) => True) (fun u a t => a = av u ∧ va_P D vwCl (w1 u) t.heap ∧ va_D (va_A wc sz) (w1 u)) (va_A wc sz)
def CTq {σ : Type} (l : Launch) (y : MethodName) (cy : Cond) (rm : Room) (D : va_G) (cI : ClassId) (As : List Value) (wc : va_W) (av : σ → Nat) (w1 : σ → va_W) (mc ms : Nat) : Prop := ∀ sz : Nat, Met l y (cy :: TB) rm (Pz D cI As wc sz) (Rq D wc av w1 sz) mc ms (va_A wc sz)
theorem z_beginM {l : Launch} {y : MethodName} {cc : ByteArray} {maxL : Nat} {ret : Option FieldType} {rm : Room} {D : va_G} {cI : ClassId} {As : List Value} {wc : va_W} {Qc : Nat → Array Value → State → Outcome → State → Prop} {own : String} (mc ms : Nat) (hy : plainName y.cls = true) (ho : y.cls = own) (hn : (lg_sl As).length ≤ maxL)
    (body : ∀ (p : Program) (e : Env) (s : State) (m : MethodId) (args : Array Value) (below : List Frame) (meth : Method) (c : Code) (ls : Array Slot) (A : Nat → Prop), p.tables.exec = Jvm.exec → c.code = cc → meth.sig.returnType = ret → meth.locks = false → c.maxLocals = maxL → (∀ w ∈ TB, w.before args s = true) → (∀ w ∈ (Cond.code y cc maxL ret :: TB), w.before args s = true) → s.vm.findClass own = some m.cls → KK D cI s → SX D A s → (∀ q : Nat, s.heap.size ≤ q → A q) → va_A wc s.heap.size = A → va_P D vwCl wc s.heap → va_D A wc → va_S A s.heap s.heap [] → lv_has ls maxL (lv_args 0 As) →
      W p l e rm s m args below meth c s.heap [] 0 0 (MQ below (Qc s.heap.size) args s mc ms A) (F0 m 0 ls [])) (sz : Nat) :
    Met l y (Cond.code y cc maxL ret :: TB) rm (Pz D cI As wc sz) (Qc sz) mc ms (va_A wc sz) := by
  refine Met.ofW (cc := cc) (maxL := maxL) (ret := ret) hy rfl ?_
  intro p e s m args below meth c s₁ B hml hv
  obtain ⟨rfl, hsz, hP, hK, hX, hD0⟩ := hv
  subst hsz
  have hts := atoms_spec (ws := Cond.code y cc maxL ret :: TB) B.pre
  have hown : s.vm.findClass own = some m.cls := by rw [← ho]; exact findClass_of_methodNamed B.named
  rw [lg_entry_eq]
  exact body p e s m _ below meth c _ _ B.exec B.bytes B.returns B.notSynchronized hml (fun w h => hts w (List.mem_cons_of_mem _ h)) hts hown hK hX (fun q h => Or.inr h) rfl hP (hD0.self (sz := s.heap.size)) va_S.rf (lv_entry As (n := maxL) hn)
section ZH
variable {p : Program} {l : Launch} {e : Env} {R : Room} {s : State} {m : MethodId} {args : Array Value} {below : List Frame} {meth : Method} {c : Code} {H H0 : Heap} {locs : List Loc} {cells slots pc : Nat} {Q : State → Prop} {cc : ByteArray} {ls : Array Slot} {rest : List Value} {A : Nat → Prop} {D : va_G} {ws : va_W} {cI : ClassId} {wc w1 ws1 fr : va_W} {st0 : List Value} {a9 : Array Value}
/-- behind a call, by the frame rule -/
theorem z_ciF {v : Int32} (hr : va_Run p l e R s m args below meth c H locs cells slots 0 0 (F0 m pc ls st0) rest (Ri D wc v w1 H.size a9) (va_A wc H.size)) (hP : va_P D vwCl ws H) (hD : va_D A ws) (hS : va_S A H0 H locs) (hA : ∀ q : Nat, H0.size ≤ q → A q) (hp : ws.Perm (wc ++ fr)) (hp1 : ws1.Perm (w1 ++ fr))
    (kk : ∀ (H1 : Heap) (locs1 : List Loc), va_P D vwCl ws1 H1 → va_D A ws1 → va_S A H0 H1 locs1 → W p l e R s m args below meth c H1 locs1 cells slots Q (F0 m (pc + 3) ls (.int v :: rest))) : W p l e R s m args below meth c H locs cells slots Q (F0 m pc ls st0) := by
  have hF := z_frA hD hS hA hp
  refine va_calli hr hS (fun q _ h => hF q h) hF (fun r u t H1 locs1 ht hvm hw hB hz1 hk1 hS1 => ?_)
  obtain ⟨h1, h2⟩ := z_fr hP hD hp hk1 hF (by rw [ht] at hB; exact hB) hp1
  rw [hw]
  exact kk H1 locs1 h1 h2 hS1
theorem z_cvF (hr : va_Run p l e R s m args below meth c H locs cells slots 0 0 (F0 m pc ls st0) rest (Rv D wc w1 H.size a9) (va_A wc H.size)) (hP : va_P D vwCl ws H) (hD : va_D A ws) (hS : va_S A H0 H locs) (hA : ∀ q : Nat, H0.size ≤ q → A q) (hp : ws.Perm (wc ++ fr)) (hp1 : ws1.Perm (w1 ++ fr))
    (kk : ∀ (H1 : Heap) (locs1 : List Loc), va_P D vwCl ws1 H1 → va_D A ws1 → va_S A H0 H1 locs1 → W p l e R s m args below meth c H1 locs1 cells slots Q (F0 m (pc + 3) ls rest)) : W p l e R s m args below meth c H locs cells slots Q (F0 m pc ls st0) := by
  have hF := z_frA hD hS hA hp
  refine va_callv hr hS (fun q _ h => hF q h) hF (fun u t H1 locs1 ht hvm hw hB hz1 hk1 hS1 => ?_)
  obtain ⟨h1, h2⟩ := z_fr hP hD hp hk1 hF (by rw [ht] at hB; exact hB) hp1
  exact kk H1 locs1 h1 h2 hS1
theorem z_cnF {σ : Type} {w1 ws1 : σ → va_W} {mc ms : Nat} (hr : va_Run p l e R s m args below meth c H locs cells slots mc ms (F0 m pc ls st0) rest (Rn D wc w1 H.size a9) (va_A wc H.size)) (hP : va_P D vwCl ws H) (hD : va_D A ws) (hS : va_S A H0 H locs) (hA : ∀ q : Nat, H0.size ≤ q → A q) (hp : ws.Perm (wc ++ fr)) (hp1 : ∀ u, (ws1 u).Perm (w1 u ++ fr))
    (kk : ∀ (u : σ) (H1 : Heap) (locs1 : List Loc), va_P D vwCl (ws1 u) H1 → va_D A (ws1 u) → va_S A H0 H1 locs1 → W p l e R s m args below meth c H1 locs1 (cells + mc) (slots + ms) Q (F0 m (pc + 3) ls rest)) : W p l e R s m args below meth c H locs cells slots Q (F0 m pc ls st0) := by
  have hF := z_frA hD hS hA hp
  refine va_callv hr hS (fun q _ h => hF q h) hF (fun u t H1 locs1 ht hvm hw hB hz1 hk1 hS1 => ?_)
  obtain ⟨h1, h2⟩ := z_fr hP hD hp hk1 hF (by rw [ht] at hB; exact hB) (hp1 u)
  exact kk u H1 locs1 h1 h2 hS1
theorem z_cqF {σ : Type} {av : σ → Nat} {w1 ws1 : σ → va_W} {mc ms : Nat} (hr : va_Run p l e R s m args below meth c H locs cells slots mc ms (F0 m pc ls st0) rest (Rq D wc av w1 H.size a9) (va_A wc H.size)) (hP : va_P D vwCl ws H) (hD : va_D A ws) (hS : va_S A H0 H locs) (hA : ∀ q : Nat, H0.size ≤ q → A q) (hp : ws.Perm (wc ++ fr)) (hp1 : ∀ u, (ws1 u).Perm (w1 u ++ fr))
    (kk : ∀ (u : σ) (H1 : Heap) (locs1 : List Loc), va_P D vwCl (ws1 u) H1 → va_D A (ws1 u) → va_S A H0 H1 locs1 → W p l e R s m args below meth c H1 locs1 (cells + mc) (slots + ms) Q (F0 m (pc + 3) ls (.ref (av u) :: rest))) : W p l e R s m args below meth c H locs cells slots Q (F0 m pc ls st0) := by
  have hF := z_frA hD hS hA hp
  refine va_callr hr hS (fun q _ h => hF q h) hF (fun u ra t H1 locs1 ht hvm hw hB hz1 hk1 hS1 => ?_)
  obtain ⟨hra, hB⟩ := hB
  obtain ⟨h1, h2⟩ := z_fr hP hD hp hk1 hF (by rw [ht] at hB; exact hB) (hp1 u)
  rw [hra]
  exact kk u H1 locs1 h1 h2 hS1
theorem z_preF {As : List Value} (hP : va_P D vwCl ws H) (hD : va_D A ws) (hK : KK D cI s) (hX : SX D A s) (hS : va_S A s.heap H locs) (hA : ∀ q : Nat, s.heap.size ≤ q → A q) (hp : ws.Perm (wc ++ fr)) : ∀ U : State, U.heap = H → s.WarmedH U.vm → Pz D cI As wc H.size As.toArray U := by
  intro U hU hW
  have hF := z_frA hD hS hA hp
  have hP' := va_P_perm hp hP
  have hD' := va_D_iff.mp (va_D_perm hp hD)
  refine ⟨rfl, by rw [hU], ?_, hK.warm hW, hX.call hS hF hU hW, va_D_iff.mpr ⟨?_, fun _ _ => trivial⟩⟩
  · rw [hU]
    exact va_P_iff.mpr (fun q hq => va_P_iff.mp hP' q (List.mem_append_left _ hq))
  · have h := hD'.1
    rw [List.map_append, List.nodup_append] at h
    exact h.1
variable {y : MethodName} {cx : Cond} {bytes : ByteArray} {maxL nL n index ci mc ms : Nat} {ret : Option FieldType} {rm : Room} {own C : String} {b : Addr} {As : List Value} {fs : List Value} {T : u_T} {N : Nat} {Qc : Array Value → State → Outcome → State → Prop}
theorem z_rVF (hx : p.tables.exec = Jvm.exec) (hb : c.code = cc) (hml : c.maxLocals = nL) (hown : s.vm.findClass own = some m.cls) (hcx : ∀ w ∈ (cx :: TB), w.before args s = true) (hlsz : ls.size = nL) (hM : Met l y (Cond.code y bytes maxL ret :: TB) rm (Pz D cI (Value.ref b :: As) wc H.size) Qc mc ms (va_A wc H.size))
    (t1 : Cond.methodLink own index y ∈ TB) (t2 : Cond.instanceMethod y ∈ TB) (t3 : Cond.selects C y y ∈ TB) (t4 : Cond.initialized C ∈ TB) (t5 : Cond.code y bytes maxL ret ∈ TB) (hd : y.cls = C ∧ y.cls ≠ "java/lang/invoke/MethodHandle" ∧ y.cls ≠ "java/lang/invoke/VarHandle" ∧ (parseMethodDescriptor y.desc).map (fun d => d.parameters.length) = some n) (hrc : rm.cells = mc) (hrs : rm.slots = ms) (hR : rm.frames + 1 ≤ R.frames ∧ 8 + (maxL + 11) + rm.locals ≤ R.locals)
    (hK : KK D cI s) (hX : SX D A s) (hS : va_S A s.heap H locs) (hA : ∀ q : Nat, s.heap.size ≤ q → A q) (hP : va_P D vwCl ws H) (hD : va_D A ws) (hp : ws.Perm (wc ++ fr)) (he : (b, Sum.inr (ci, fs)) ∈ wc) (hc : vwCl[ci]? = some (C, T, N)) (hlen : As.length = n) (hst : st0 = As.reverse ++ .ref b :: rest) (hroom : (rest.map fun v => v.category).sum ≤ 8) (hdg : decode cc pc = .ok (.invokevirtual index, 3)) (hf : cells + mc ≤ R.cells ∧ slots + ms ≤ R.slots) :
    va_Run p l e R s m args below meth c H locs cells slots mc ms (F0 m pc ls st0) rest (Qc (Value.ref b :: As).toArray) (va_A wc H.size) := by
  obtain ⟨q0, he0⟩ := List.mem_iff_getElem?.mp (hp.mem_iff.mpr (List.mem_append_left fr he))
  exact va_runV ⟨hx, hb, hml, hown, hcx⟩ hM (cwV n hcx (tb_V t1 t2 t3 t4 t5) rfl hrc hrs hd hR) ⟨Pz_blind, va_recv hK.1 hP hc he0, z_preF hP hD hK hX hS hA hp⟩ rfl hlen hlsz hst (lv_room hroom) hdg hf
end ZH
/-! ===== a history's own two cells; rowAt ===== -/
abbrev hst (D : va_G) (h : Nat) (r : Nat → Nat) (F : Nat → Int32) (f : Nat → Option Nat) : va_W := [(h, .inr (3, o_X3 r F)), (r 0, .inl (D.1 100, 40, .inr (.inr (.inr (.inr f)))))]
def pl40 (F : Nat → Int32) (i : Int32) : Int32 := (F 1 + i) - (F 1 + i) / 40 * 40
abbrev rm_rowAt0 : Room := { frames := 0, cells := 0, slots := 0, locals := 0 }
abbrev rm_rowAt1 : Room := { frames := 3, cells := 11, slots := 432, locals := 60 }
set_option maxHeartbeats 4000000 in
set_option maxRecDepth 100000 in
theorem c_rowAt_some (l : Launch) (D : va_G) (cI : ClassId) (h : Nat) (r : Nat → Nat) (F : Nat → Int32) (f : Nat → Option Nat) (i : Int32) (a : Nat) (hin : vp_in (pl40 F i) 40) (hf : f (pl40 F i).toNatClampNeg = some a) : CTq l yX3_rowAt (Cond.code yX3_rowAt cX3_rowAt 3 (some (.object "FenceHeap$Machine"))) rm_rowAt0 D cI [.ref h, .int i] (hst D h r F f) (fun (_ : Unit) => a) (fun _ => hst D h r F f) 0 0 := by
  refine z_beginM (Qc := fun sz => Rq D (hst D h r F f) (fun (_ : Unit) => a) (fun _ => hst D h r F f) sz) (own := RX3) 0 0 (by decide +kernel) rfl (Nat.le_of_ble_eq_true rfl) ?_
  intro p e s m args below meth c ls A hx hb hr hlocks hml hts hcx hown hK hX hA hAe hP hD hS hl
  have hl : lv_has ls 3 [(0, .ref h), (1, .int i)] := hl
  refine lv_aload_n hx hb dX3_rowAt_0 rfl (lv_at hl 0 rfl) ?_
  refine z_get (ci := 3) (C := RX3) (T := TX3) (N := 3) (v := .int (F 1)) hx hb hts inT_X3 hown hK hP 0 rfl rfl 1 (by decide) tf_X3_17 rfl dX3_rowAt_1 ?_
  refine lv_iload_n hx hb dX3_rowAt_4 rfl (lv_at hl 1 rfl) ?_
  refine lv_iadd hx hb dX3_rowAt_5 ?_
  refine lv_bipush (v := 40) hx hb dX3_rowAt_6 (by decide) ?_
  refine lv_irem hx hb dX3_rowAt_8 (by decide) ?_
  refine lv_istore_n (lv' := [(2, .int (pl40 F i)), (0, .ref h), (1, .int i)]) hx hb dX3_rowAt_9 rfl hl (by decide) rfl (fun ls hl => ?_)
  refine lv_aload_n hx hb dX3_rowAt_10 rfl (lv_at hl 1 rfl) ?_
  refine z_get (ci := 3) (C := RX3) (T := TX3) (N := 3) (v := .ref (r 0)) hx hb hts inT_X3 hown hK hP 0 rfl rfl 0 (by decide) tf_X3_11 rfl dX3_rowAt_11 ?_
  refine lv_iload_n hx hb dX3_rowAt_14 rfl (lv_at hl 0 rfl) ?_
  refine va_aldq hx hb hK.1 hP 1 1 rfl rfl hin dX3_rowAt_15 ?_
  rw [hf]
  refine lv_ifnonnull (tgt := 32) hx hb dX3_rowAt_16 (by decide) ?_
  refine lv_aload_n hx hb dX3_rowAt_32 rfl (lv_at hl 1 rfl) ?_
  refine z_get (ci := 3) (C := RX3) (T := TX3) (N := 3) (v := .ref (r 0)) hx hb hts inT_X3 hown hK hP 0 rfl rfl 0 (by decide) tf_X3_11 rfl dX3_rowAt_33 ?_
  refine lv_iload_n hx hb dX3_rowAt_36 rfl (lv_at hl 0 rfl) ?_
  refine va_aldq hx hb hK.1 hP 1 1 rfl rfl hin dX3_rowAt_37 ?_
  rw [hf]
  subst hAe
  exact W.aret hx hb hr (Or.inl ⟨_, rfl⟩) (Or.inr ⟨a, rfl⟩) (fun t ht hW => ⟨⟨(), a, rfl, trivial, rfl, by rw [ht]; exact hP, hD⟩, hS.F ht⟩) hS.2.2 dX3_rowAt_38 hlocks
set_option maxHeartbeats 4000000 in
set_option maxRecDepth 100000 in
theorem c_rowAt_none (l : Launch) (D : va_G) (cI : ClassId) (h : Nat) (r : Nat → Nat) (F : Nat → Int32) (f : Nat → Option Nat) (i : Int32) (hin : vp_in (pl40 F i) 40) (hf : f (pl40 F i).toNatClampNeg = none) : CTq l yX3_rowAt (Cond.code yX3_rowAt cX3_rowAt 3 (some (.object "FenceHeap$Machine"))) rm_rowAt1 D cI [.ref h, .int i] (hst D h r F f) (fun (a : MAd) => a.1) (fun a => hst D h r F (va_up f (pl40 F i).toNatClampNeg (some a.1)) ++ mw cI a zeroM) 11 432 := by
  refine z_beginM (Qc := fun sz => Rq D (hst D h r F f) (fun (a : MAd) => a.1) (fun a => hst D h r F (va_up f (pl40 F i).toNatClampNeg (some a.1)) ++ mw cI a zeroM) sz) (own := RX3) 11 432 (by decide +kernel) rfl (Nat.le_of_ble_eq_true rfl) ?_
  intro p e s m args below meth c ls A hx hb hr hlocks hml hts hcx hown hK hX hA hAe hP hD hS hl
  have hl : lv_has ls 3 [(0, .ref h), (1, .int i)] := hl
  refine lv_aload_n hx hb dX3_rowAt_0 rfl (lv_at hl 0 rfl) ?_
  refine z_get (ci := 3) (C := RX3) (T := TX3) (N := 3) (v := .int (F 1)) hx hb hts inT_X3 hown hK hP 0 rfl rfl 1 (by decide) tf_X3_17 rfl dX3_rowAt_1 ?_
  refine lv_iload_n hx hb dX3_rowAt_4 rfl (lv_at hl 1 rfl) ?_
  refine lv_iadd hx hb dX3_rowAt_5 ?_
  refine lv_bipush (v := 40) hx hb dX3_rowAt_6 (by decide) ?_
  refine lv_irem hx hb dX3_rowAt_8 (by decide) ?_
  refine lv_istore_n (lv' := [(2, .int (pl40 F i)), (0, .ref h), (1, .int i)]) hx hb dX3_rowAt_9 rfl hl (by decide) rfl (fun ls hl => ?_)
  refine lv_aload_n hx hb dX3_rowAt_10 rfl (lv_at hl 1 rfl) ?_
  refine z_get (ci := 3) (C := RX3) (T := TX3) (N := 3) (v := .ref (r 0)) hx hb hts inT_X3 hown hK hP 0 rfl rfl 0 (by decide) tf_X3_11 rfl dX3_rowAt_11 ?_
  refine lv_iload_n hx hb dX3_rowAt_14 rfl (lv_at hl 0 rfl) ?_
  refine va_aldq hx hb hK.1 hP 1 1 rfl rfl hin dX3_rowAt_15 ?_
  rw [hf]
  refine lv_ifnonnullN hx hb dX3_rowAt_16 ?_
  refine lv_aload_n hx hb dX3_rowAt_19 rfl (lv_at hl 1 rfl) ?_
  refine z_get (ci := 3) (C := RX3) (T := TX3) (N := 3) (v := .ref (r 0)) hx hb hts inT_X3 hown hK hP 0 rfl rfl 0 (by decide) tf_X3_11 rfl dX3_rowAt_20 ?_
  refine lv_iload_n hx hb dX3_rowAt_23 rfl (lv_at hl 0 rfl) ?_
  refine va_new (ci := 4) (fs := dflt_X4) (C := RX4) (T := TX4) (N := 12) hx hb hts inT_X4 tyX4 tyX4_ok hown (hts _ tq_X3_9) (hts _ tu_X4) (hts _ tn_X4) hK.1 hP hD hS hA rfl dfl_X4 (Nat.le_of_ble_eq_true rfl) (Nat.le_of_ble_eq_true rfl) dX3_rowAt_24 (fun q H hP hD hS => ?_)
  refine lv_dup hx hb dX3_rowAt_27 rfl ?_
  refine z_cn (ws1 := fun u => hst D h r F f ++ mw cI (q, u.1, u.2) zeroM) (wr := hst D h r F f) (z_rIN (rest := [.ref q, .int (pl40 F i), .ref (r 0)]) hx hb hml hown hcx hl.1 (c_X4_init l D cI q _) tl_X3_24 ti_X4_init tn_X4 tc_X4_init tm_X4_init rfl rfl rfl ⟨Nat.le_of_ble_eq_true rfl, Nat.le_of_ble_eq_true rfl⟩ hK hX hS hA hP hD [2] rfl rfl rfl rfl (Nat.le_of_ble_eq_true rfl) dX3_rowAt_28 ⟨Nat.le_of_ble_eq_true rfl, Nat.le_of_ble_eq_true rfl⟩) hP hD hS hA [2] [0, 1] [0, 1, 2, 3, 4, 5, 6, 7, 8, 9, 10, 11, 12] rfl rfl rfl (by decide) (fun _ => rfl) rfl (fun u H locs hP hD hS => ?_)
  refine va_astq hx hb hK.1 hP hD hS 1 1 2 4 rfl rfl rfl rfl hin dX3_rowAt_31 (fun H locs hP hD hS => ?_)
  have hP : va_P D vwCl (hst D h r F (va_up f (pl40 F i).toNatClampNeg (some q)) ++ mw cI (q, u.1, u.2) zeroM) H := hP
  have hD : va_D A (hst D h r F (va_up f (pl40 F i).toNatClampNeg (some q)) ++ mw cI (q, u.1, u.2) zeroM) := hD
  refine lv_aload_n hx hb dX3_rowAt_32 rfl (lv_at hl 1 rfl) ?_
  refine z_get (ci := 3) (C := RX3) (T := TX3) (N := 3) (v := .ref (r 0)) hx hb hts inT_X3 hown hK hP 0 rfl rfl 0 (by decide) tf_X3_11 rfl dX3_rowAt_33 ?_
  refine lv_iload_n hx hb dX3_rowAt_36 rfl (lv_at hl 0 rfl) ?_
  refine va_aldq hx hb hK.1 hP 1 1 rfl rfl hin dX3_rowAt_37 ?_
  rw [show va_up f (pl40 F i).toNatClampNeg (some q) (pl40 F i).toNatClampNeg = some q from if_pos rfl]
  subst hAe
  refine W.widen (k := 11) (n := 432) (Nat.le_of_ble_eq_true rfl) (Nat.le_of_ble_eq_true rfl) ?_
  exact W.aret hx hb hr (Or.inl ⟨_, rfl⟩) (Or.inr ⟨q, rfl⟩) (fun t ht hW => ⟨⟨(q, u.1, u.2), q, rfl, trivial, rfl, by rw [ht]; exact hP, hD⟩, hS.F ht⟩) hS.2.2 dX3_rowAt_38 hlocks
