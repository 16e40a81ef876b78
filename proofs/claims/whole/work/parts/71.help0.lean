/-! ===== the law's helpers: a call that may throw, inside of a try ===== -/
def exL (x : Nat × Nat × Nat × Nat) : ExceptionTableEntry := ⟨x.1, x.2.1, x.2.2.1, x.2.2.2⟩
theorem z_begin_h {l : Launch} {y : MethodName} {cc : ByteArray} {maxL : Nat} {hh : List (Nat × Nat × Nat × Nat)} {rm : Room} {D : va_G} {cI : ClassId} {As : List Value} {wc : va_W} {own : String} {σ : Type} (w1 : σ → va_W) (vr : Int32) (mc ms : Nat) (hy : plainName y.cls = true) (ho : y.cls = own) (hn : (lg_sl As).length ≤ maxL)
    (body : ∀ (p : Program) (e : Env) (s : State) (m : MethodId) (args : Array Value) (below : List Frame) (meth : Method) (c : Code) (ls : Array Slot) (Q : State → Prop) (A : Nat → Prop), p.tables.exec = Jvm.exec → c.code = cc → c.maxLocals = maxL → c.exceptionTable.toList = tableOf hh → (∀ w ∈ TB, w.before args s = true) → (∀ w ∈ (Cond.codeWith y cc maxL (some .int) hh :: TB), w.before args s = true) → s.vm.findClass own = some m.cls → KK D cI s → SX D A s → (∀ q : Nat, s.heap.size ≤ q → A q) → va_P D vwCl wc s.heap → va_D A wc → va_S A s.heap s.heap [] → lv_has ls maxL (lv_args 0 As) →
      (∀ (u : σ) (H : Heap) (locs : List Loc) (ls : Array Slot) (pc k n : Nat), k ≤ mc → n ≤ ms → va_P D vwCl (w1 u) H → va_D A (w1 u) → va_S A s.heap H locs → decode cc pc = .ok (.ireturn, 1) → W p l e rm s m args below meth c H locs k n Q (F0 m pc ls [.int vr])) →
      W p l e rm s m args below meth c s.heap [] 0 0 Q (F0 m 0 ls [])) (sz : Nat) :
    Met l y (Cond.codeWith y cc maxL (some .int) hh :: TB) rm (Pz D cI As wc sz) (Rin D wc vr w1 sz) mc ms (va_A wc sz) := by
  refine va_MetW (cc := cc) (maxL := maxL) (ret := some .int) (hh := hh) hy rfl ?_
  intro p e s m args below meth c s₁ B hml hv
  obtain ⟨rfl, hsz, hP, hK, hX, hD0⟩ := hv
  subst hsz
  have hts := atoms_spec (ws := Cond.codeWith y cc maxL (some .int) hh :: TB) B.pre
  have hown : s.vm.findClass own = some m.cls := by rw [← ho]; exact findClass_of_methodNamed B.named
  have htab := vx_table (x := y) B (hts _ List.mem_cons_self)
  rw [lg_entry_eq]
  refine body p e s m _ below meth c _ _ _ B.exec B.bytes hml htab (fun w h => hts w (List.mem_cons_of_mem _ h)) hts hown hK hX (fun q h => Or.inr h) hP (hD0.self (sz := s.heap.size)) va_S.rf (lv_entry As (n := maxL) hn) ?_
  intro u H locs ls pc k n hk hn hP hD hS hdg
  refine W.widen hk hn ?_
  exact W.iret B.exec B.bytes B.returns (fun t ht hW => ⟨⟨vr, u, rfl, rfl, by rw [ht]; exact hP, hD⟩, hS.F ht⟩) hS.2.2 hdg B.notSynchronized
section ZXC
variable {p : Program} {l : Launch} {e : Env} {R : Room} {s : State} {m : MethodId} {args : Array Value} {below : List Frame} {meth : Method} {c : Code} {H H0 : Heap} {locs : List Loc} {cells slots pc : Nat} {Q : State → Prop} {cc : ByteArray} {ls : Array Slot} {rest : List Value} {A : Nat → Prop} {D : va_G} {ws : va_W} {cI : ClassId} {wc fr : va_W} {st0 : List Value} {a9 : Array Value}
theorem z_xc {σ : Type} {w1 ws1 : σ → va_W} {x v : Int32} {mc ms : Nat} (hr : vx_Run p l e R s m args below meth c H locs cells slots mc ms (F0 m pc ls st0) rest (Rx D wc x v w1 H.size a9) (Xx D wc x w1 H.size) (va_A wc H.size)) (hP : va_P D vwCl ws H) (hD : va_D A ws) (hS : va_S A H0 H locs) (hA : ∀ q : Nat, H0.size ≤ q → A q) (hp : ws.Perm (wc ++ fr)) (hp1 : ∀ u, (ws1 u).Perm (w1 u ++ fr))
    (kx : ∀ (u : σ) (ce : Cell) (q9 : Addr) (H1 : Heap) (locs1 : List Loc), ¬ x = 0 → va_P D vwCl (ws1 u) H1 → va_D A (ws1 u) → va_S A H0 H1 locs1 → H1[q9]? = some ce → ce.vm = .none → s.vm.findClass (exN x) = some ce.cls → vx_W p l e R s m args below meth c H1 locs1 (cells + mc) (slots + ms) Q (F0 m pc ls rest) q9)
    (kk : ∀ (u : σ) (H1 : Heap) (locs1 : List Loc), x = 0 → va_P D vwCl (ws1 u) H1 → va_D A (ws1 u) → va_S A H0 H1 locs1 → W p l e R s m args below meth c H1 locs1 (cells + mc) (slots + ms) Q (F0 m (pc + 3) ls (.int v :: rest))) : W p l e R s m args below meth c H locs cells slots Q (F0 m pc ls st0) := by
  have hF := z_frA hD hS hA hp
  refine vx_calli hr hS (fun q _ h => hF q h) hF (fun q _ h => hF q h) (fun E ce q9 u t H1 locs1 ht hvm hx hB hz1 hk1 hS1 h1 h2 h3 => ?_) (fun r u t H1 locs1 ht hvm hw hB hz1 hk1 hS1 => ?_)
  · obtain ⟨hE, hB⟩ := hB
    obtain ⟨g1, g2⟩ := z_fr hP hD hp hk1 hF (by rw [ht] at hB; exact hB) (hp1 u)
    rw [hE] at h3
    exact kx u ce q9 H1 locs1 hx g1 g2 hS1 h1 h2 h3
  · obtain ⟨hx, rfl⟩ := hw
    obtain ⟨g1, g2⟩ := z_fr hP hD hp hk1 hF (by rw [ht] at hB; exact hB) (hp1 u)
    exact kk u H1 locs1 hx g1 g2 hS1
variable {y : MethodName} {cx : Cond} {bytes : ByteArray} {maxL nL n index ci mc ms : Nat} {ret : Option FieldType} {rm : Room} {own C : String} {b : Addr} {As : List Value} {fs : List Value} {T : u_T} {N : Nat} {Qc : Array Value → State → Outcome → State → Prop} {XC : String → State → State → Prop}
theorem z_xV (hx : p.tables.exec = Jvm.exec) (hb : c.code = cc) (hml : c.maxLocals = nL) (hown : s.vm.findClass own = some m.cls) (hcx : ∀ w ∈ (cx :: TB), w.before args s = true) (hlsz : ls.size = nL) (hM : vx_Met l y (Cond.code y bytes maxL ret :: TB) rm (Pz D cI (Value.ref b :: As) wc H.size) Qc XC mc ms (va_A wc H.size))
    (t1 : Cond.methodLink own index y ∈ TB) (t2 : Cond.instanceMethod y ∈ TB) (t3 : Cond.selects C y y ∈ TB) (t4 : Cond.initialized C ∈ TB) (t5 : Cond.code y bytes maxL ret ∈ TB) (hd : y.cls = C ∧ y.cls ≠ "java/lang/invoke/MethodHandle" ∧ y.cls ≠ "java/lang/invoke/VarHandle" ∧ (parseMethodDescriptor y.desc).map (fun d => d.parameters.length) = some n) (hrc : rm.cells = mc) (hrs : rm.slots = ms) (hR : rm.frames + 1 ≤ R.frames ∧ 8 + (maxL + 11) + rm.locals ≤ R.locals)
    (hK : KK D cI s) (hX : SX D A s) (hS : va_S A s.heap H locs) (hA : ∀ q : Nat, s.heap.size ≤ q → A q) (hP : va_P D vwCl ws H) (hD : va_D A ws) (hp : ws.Perm (wc ++ fr)) (he : (b, Sum.inr (ci, fs)) ∈ wc) (hc : vwCl[ci]? = some (C, T, N)) (hlen : As.length = n) (hst : st0 = As.reverse ++ .ref b :: rest) (hroom : (rest.map fun v => v.category).sum ≤ 8) (hdg : decode cc pc = .ok (.invokevirtual index, 3)) (hf : cells + mc ≤ R.cells ∧ slots + ms ≤ R.slots) :
    vx_Run p l e R s m args below meth c H locs cells slots mc ms (F0 m pc ls st0) rest (Qc (Value.ref b :: As).toArray) XC (va_A wc H.size) := by
  obtain ⟨q0, he0⟩ := List.mem_iff_getElem?.mp (hp.mem_iff.mpr (List.mem_append_left fr he))
  exact vx_runV ⟨hx, hb, hml, hown, hcx⟩ hM (cwV n hcx (tb_V t1 t2 t3 t4 t5) rfl hrc hrs hd hR) ⟨Pz_blind, va_recv hK.1 hP hc he0, z_preF hP hD hK hX hS hA hp⟩ rfl hlen hlsz hst (lv_room hroom) hdg hf
end ZXC
def hH1 (K : Int32) (r : Option (Int32 × Int32 × CS)) (o : Nat → Int64) : Option (Int32 × (Nat → Int64) × CS) := bd r fun u => if u.1 = 0 then some (0, vp_updL o 0 u.2.1.toInt64, u.2.2) else if u.1 = K then some (1, o, u.2.2) else none
def hH2 (r : Option (Int32 × Int32 × CS)) (o : Nat → Int64) : Option (Int32 × (Nat → Int64) × CS) := bd r fun u => if u.1 = 0 then some (0, vp_updL o 0 u.2.1.toInt64, u.2.2) else if u.1 = 1 then some (1, o, u.2.2) else if u.1 = 2 then some (2, o, u.2.2) else none
/-- the object of the class with the law's long -/
abbrev ow (D : va_G) (cI : ClassId) (A : CAd) (ho : Nat) (V : CV) (o : Nat → Int64) (C : CS) : va_W := (ho, .inl (D.1 101, 1, .inr (.inl o))) :: cw D cI A V C
theorem cw_root {D : va_G} {cI : ClassId} {A : CAd} {V : CV} {C : CS} : (A.1, Sum.inr (11, o_X11 (A.2 0) (C.1 0) (C.2.2.1.map (fun _ => V.2.1.1)))) ∈ cw D cI A V C := List.mem_cons_self
theorem exN_1 : exN 1 = nNSE := rfl
theorem exN_2 : exN 2 = nIAE := rfl
theorem zx_cNSE {D : va_G} {cI : ClassId} {args : Array Value} {s : State} (hK : KK D cI s) : (Cond.castable nNSE nNSE).before args s = true := (hK.2.2.2.1 _ (cst_of 1101 (by decide +kernel) (by decide +kernel))).use rfl
theorem zx_cIAE {D : va_G} {cI : ClassId} {args : Array Value} {s : State} (hK : KK D cI s) : (Cond.castable nIAE nIAE).before args s = true := (hK.2.2.2.1 _ (cst_of 871 (by decide +kernel) (by decide +kernel))).use rfl
theorem vp_in01 : vp_in (0 : Int32) 1 := by unfold vp_in; decide
