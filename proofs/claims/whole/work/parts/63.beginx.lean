section ZX3
variable {p : Program} {l : Launch} {e : Env} {rm : Room} {s : State} {m : MethodId} {args : Array Value} {below : List Frame} {meth : Method} {c : Code} {H : Heap} {locs : List Loc} {ls : Array Slot} {cc : ByteArray} {pc mc ms : Nat} {D : va_G} {cI : ClassId} {wc : va_W} {σ : Type} {w1 : σ → va_W} {x v : Int32}
theorem zx_XC (hx0 : ¬ x = 0) (u : σ) (hP : va_P D vwCl (w1 u) H) (hD : va_D (va_A wc s.heap.size) (w1 u)) (hS : va_S (va_A wc s.heap.size) s.heap H locs) : ∀ t : State, s.vm.Alike t.vm → H.size ≤ t.heap.size → (∀ q : Nat, q < H.size → t.heap[q]? = H[q]?) → Xx D wc x w1 s.heap.size (exN x) s t := by
  intro t _ hz hk
  refine ⟨u, hx0, ⟨rfl, hP.kept (fun k q hq => hk q.1 (hP k q hq).lt), hD⟩, Nat.le_trans hS.1 hz, fun q h1 h2 => ?_⟩
  rw [hk q (Nat.lt_of_lt_of_le h1 hS.1)]
  exact hS.2.1 q h1 h2

theorem z_thr1 (hexec : p.tables.exec = Jvm.exec) (hb : c.code = cc) (hl : l.stackTraces = false) (hts : ∀ w ∈ TB, w.before args s = true) (hown : s.vm.findClass RX11 = some m.cls) (hK : KK D cI s) (hX : SX D (va_A wc s.heap.size) s) {is : Nat} (text : String) (hq : (is, text) ∈ TXS) (hx1 : x = 1) (u : σ) (hP : va_P D vwCl (w1 u) H) (hD : va_D (va_A wc s.heap.size) (w1 u)) (hS : va_S (va_A wc s.heap.size) s.heap H locs) (hsize : ls.size = c.maxLocals)
    (d0 : decode cc pc = .ok (.new 155, 3)) (d3 : decode cc (pc + 3) = .ok (.dup, 1)) (d4 : decode cc (pc + 4) = .ok (.ldc is, 2)) (d6 : decode cc (pc + 6) = .ok (.invokespecial 159, 3)) (d9 : decode cc (pc + 9) = .ok (.athrow, 1))
    (hout : ∀ x ∈ c.exceptionTable.toList, False) (hfr : 6 ≤ rm.frames) (hlo : 82 ≤ rm.locals) (hc1 : 1 ≤ rm.cells) (hs1 : 6 ≤ rm.slots) (hlocks : meth.locks = false) (hc : 1 ≤ mc) (hs : 6 ≤ ms) :
    W p l e rm s m args below meth c H locs 0 0 (vx_MQ below (Rx D wc x v w1 s.heap.size) (Xx D wc x w1 s.heap.size) args s mc ms (va_A wc s.heap.size)) (F0 m pc ls []) := by
  subst hx1
  obtain ⟨sa, hsa⟩ := hX.2.2.2.2.2.2.2 _ hq
  exact zx_throw hexec hb hl hown (own := RX11) (cls := nNSE) (Y := nRTE) (r := ["java/lang/Exception"]) (ik := 155) (ic := 159) (idx := 13) (bytes := cNSE) (sa := sa) (by decide +kernel) (by decide +kernel) (by decide +kernel) (by decide +kernel) (by decide +kernel) (by decide +kernel) (by decide +kernel) (hts _ tq_X11_155) (hts _ tn_NSE) hsa (zx_hat zx_w1 hts hK) (ot_good tq_X11_155) (ot_good tn_NSE) hX.2.2.2.2.2.1.2.2.1 hX.2.2.2.2.2.1.2.2.2 hS hsize d0 d3 d4 d6 d9 (fun x hx => (hout x hx).elim) (by show 1 + 4 < rm.frames; omega) (by show 0 + (13 * (1 + 2) + 43) ≤ rm.locals; omega) (by omega) (by omega) hlocks (zx_XC (x := 1) (by decide) u hP hD hS) hS.2.2 (by omega) (by omega)

theorem z_thr1W (hexec : p.tables.exec = Jvm.exec) (hb : c.code = cc) (hl : l.stackTraces = false) (hts : ∀ w ∈ TB, w.before args s = true) (hown : s.vm.findClass RX11 = some m.cls) (hK : KK D cI s) (hX : SX D (va_A wc s.heap.size) s) {is : Nat} (text : String) (hq : (is, text) ∈ TXS) (hx1 : x = 1) (u : σ) (hP : va_P D vwCl (w1 u) H) (hD : va_D (va_A wc s.heap.size) (w1 u)) (hS : va_S (va_A wc s.heap.size) s.heap H locs) (hsize : ls.size = c.maxLocals)
    (d0 : decode cc pc = .ok (.new 155, 3)) (d3 : decode cc (pc + 3) = .ok (.dup, 1)) (d4 : decode cc (pc + 4) = .ok (.ldc_w is, 3)) (d6 : decode cc (pc + 7) = .ok (.invokespecial 159, 3)) (d9 : decode cc (pc + 10) = .ok (.athrow, 1))
    (hout : ∀ x ∈ c.exceptionTable.toList, False) (hfr : 6 ≤ rm.frames) (hlo : 82 ≤ rm.locals) (hc1 : 1 ≤ rm.cells) (hs1 : 6 ≤ rm.slots) (hlocks : meth.locks = false) (hc : 1 ≤ mc) (hs : 6 ≤ ms) :
    W p l e rm s m args below meth c H locs 0 0 (vx_MQ below (Rx D wc x v w1 s.heap.size) (Xx D wc x w1 s.heap.size) args s mc ms (va_A wc s.heap.size)) (F0 m pc ls []) := by
  subst hx1
  obtain ⟨sa, hsa⟩ := hX.2.2.2.2.2.2.2 _ hq
  exact zx_throwW hexec hb hl hown (own := RX11) (cls := nNSE) (Y := nRTE) (r := ["java/lang/Exception"]) (ik := 155) (ic := 159) (idx := 13) (bytes := cNSE) (sa := sa) (by decide +kernel) (by decide +kernel) (by decide +kernel) (by decide +kernel) (by decide +kernel) (by decide +kernel) (by decide +kernel) (hts _ tq_X11_155) (hts _ tn_NSE) hsa (zx_hat zx_w1 hts hK) (ot_good tq_X11_155) (ot_good tn_NSE) hX.2.2.2.2.2.1.2.2.1 hX.2.2.2.2.2.1.2.2.2 hS hsize d0 d3 d4 d6 d9 (fun x hx => (hout x hx).elim) (by show 1 + 4 < rm.frames; omega) (by show 0 + (13 * (1 + 2) + 43) ≤ rm.locals; omega) (by omega) (by omega) hlocks (zx_XC (x := 1) (by decide) u hP hD hS) hS.2.2 (by omega) (by omega)

theorem z_thr2 (hexec : p.tables.exec = Jvm.exec) (hb : c.code = cc) (hl : l.stackTraces = false) (hts : ∀ w ∈ TB, w.before args s = true) (hown : s.vm.findClass RX11 = some m.cls) (hK : KK D cI s) (hX : SX D (va_A wc s.heap.size) s) {is : Nat} (text : String) (hq : (is, text) ∈ TXS) (hx1 : x = 2) (u : σ) (hP : va_P D vwCl (w1 u) H) (hD : va_D (va_A wc s.heap.size) (w1 u)) (hS : va_S (va_A wc s.heap.size) s.heap H locs) (hsize : ls.size = c.maxLocals)
    (d0 : decode cc pc = .ok (.new 87, 3)) (d3 : decode cc (pc + 3) = .ok (.dup, 1)) (d4 : decode cc (pc + 4) = .ok (.ldc is, 2)) (d6 : decode cc (pc + 6) = .ok (.invokespecial 91, 3)) (d9 : decode cc (pc + 9) = .ok (.athrow, 1))
    (hout : ∀ x ∈ c.exceptionTable.toList, False) (hfr : 6 ≤ rm.frames) (hlo : 82 ≤ rm.locals) (hc1 : 1 ≤ rm.cells) (hs1 : 6 ≤ rm.slots) (hlocks : meth.locks = false) (hc : 1 ≤ mc) (hs : 6 ≤ ms) :
    W p l e rm s m args below meth c H locs 0 0 (vx_MQ below (Rx D wc x v w1 s.heap.size) (Xx D wc x w1 s.heap.size) args s mc ms (va_A wc s.heap.size)) (F0 m pc ls []) := by
  subst hx1
  obtain ⟨sa, hsa⟩ := hX.2.2.2.2.2.2.2 _ hq
  exact zx_throw hexec hb hl hown (own := RX11) (cls := nIAE) (Y := nRTE) (r := ["java/lang/Exception"]) (ik := 87) (ic := 91) (idx := 7) (bytes := cIAE) (sa := sa) (by decide +kernel) (by decide +kernel) (by decide +kernel) (by decide +kernel) (by decide +kernel) (by decide +kernel) (by decide +kernel) (hts _ tq_X11_87) (hts _ tn_IAE) hsa (zx_hat zx_w2 hts hK) (ot_good tq_X11_87) (ot_good tn_IAE) hX.2.2.2.2.2.1.2.2.1 hX.2.2.2.2.2.1.2.2.2 hS hsize d0 d3 d4 d6 d9 (fun x hx => (hout x hx).elim) (by show 1 + 4 < rm.frames; omega) (by show 0 + (13 * (1 + 2) + 43) ≤ rm.locals; omega) (by omega) (by omega) hlocks (zx_XC (x := 2) (by decide) u hP hD hS) hS.2.2 (by omega) (by omega)

theorem z_thr2W (hexec : p.tables.exec = Jvm.exec) (hb : c.code = cc) (hl : l.stackTraces = false) (hts : ∀ w ∈ TB, w.before args s = true) (hown : s.vm.findClass RX11 = some m.cls) (hK : KK D cI s) (hX : SX D (va_A wc s.heap.size) s) {is : Nat} (text : String) (hq : (is, text) ∈ TXS) (hx1 : x = 2) (u : σ) (hP : va_P D vwCl (w1 u) H) (hD : va_D (va_A wc s.heap.size) (w1 u)) (hS : va_S (va_A wc s.heap.size) s.heap H locs) (hsize : ls.size = c.maxLocals)
    (d0 : decode cc pc = .ok (.new 87, 3)) (d3 : decode cc (pc + 3) = .ok (.dup, 1)) (d4 : decode cc (pc + 4) = .ok (.ldc_w is, 3)) (d6 : decode cc (pc + 7) = .ok (.invokespecial 91, 3)) (d9 : decode cc (pc + 10) = .ok (.athrow, 1))
    (hout : ∀ x ∈ c.exceptionTable.toList, False) (hfr : 6 ≤ rm.frames) (hlo : 82 ≤ rm.locals) (hc1 : 1 ≤ rm.cells) (hs1 : 6 ≤ rm.slots) (hlocks : meth.locks = false) (hc : 1 ≤ mc) (hs : 6 ≤ ms) :
    W p l e rm s m args below meth c H locs 0 0 (vx_MQ below (Rx D wc x v w1 s.heap.size) (Xx D wc x w1 s.heap.size) args s mc ms (va_A wc s.heap.size)) (F0 m pc ls []) := by
  subst hx1
  obtain ⟨sa, hsa⟩ := hX.2.2.2.2.2.2.2 _ hq
  exact zx_throwW hexec hb hl hown (own := RX11) (cls := nIAE) (Y := nRTE) (r := ["java/lang/Exception"]) (ik := 87) (ic := 91) (idx := 7) (bytes := cIAE) (sa := sa) (by decide +kernel) (by decide +kernel) (by decide +kernel) (by decide +kernel) (by decide +kernel) (by decide +kernel) (by decide +kernel) (hts _ tq_X11_87) (hts _ tn_IAE) hsa (zx_hat zx_w2 hts hK) (ot_good tq_X11_87) (ot_good tn_IAE) hX.2.2.2.2.2.1.2.2.1 hX.2.2.2.2.2.1.2.2.2 hS hsize d0 d3 d4 d6 d9 (fun x hx => (hout x hx).elim) (by show 1 + 4 < rm.frames; omega) (by show 0 + (13 * (1 + 2) + 43) ≤ rm.locals; omega) (by omega) (by omega) hlocks (zx_XC (x := 2) (by decide) u hP hD hS) hS.2.2 (by omega) (by omega)

end ZX3
/-- a body that answers an int, or throws -/
theorem z_begin_x {l : Launch} {y : MethodName} {cc : ByteArray} {maxL : Nat} {rm : Room} {D : va_G} {cI : ClassId} {As : List Value} {wc : va_W} {ρ σ : Type} {Rr : ρ} (w1 : ρ → σ → va_W) (xf vf : ρ → Int32) (mc ms : Nat) (hlt : l.stackTraces = false) (hy : plainName y.cls = true) (ho : y.cls = RX11) (hn : (lg_sl As).length ≤ maxL) (hfr : 6 ≤ rm.frames) (hlo : 82 ≤ rm.locals) (hc1 : 1 ≤ rm.cells) (hs1 : 6 ≤ rm.slots) (hmc : 1 ≤ mc) (hms : 6 ≤ ms)
    (body : ∀ (p : Program) (e : Env) (s : State) (m : MethodId) (args : Array Value) (below : List Frame) (meth : Method) (c : Code) (ls : Array Slot) (Q : State → Prop) (A : Nat → Prop), p.tables.exec = Jvm.exec → c.code = cc → c.maxLocals = maxL → (∀ w ∈ TB, w.before args s = true) → (∀ w ∈ (Cond.code y cc maxL (some .int) :: TB), w.before args s = true) → s.vm.findClass RX11 = some m.cls → KK D cI s → SX D A s → (∀ q : Nat, s.heap.size ≤ q → A q) → va_P D vwCl wc s.heap → va_D A wc → va_S A s.heap s.heap [] → lv_has ls maxL (lv_args 0 As) →
      (∀ (u : ρ) (v : σ) (H : Heap) (locs : List Loc) (ls : Array Slot) (pc k n : Nat), k ≤ mc → n ≤ ms → xf u = 0 → some u = some Rr → va_P D vwCl (w1 u v) H → va_D A (w1 u v) → va_S A s.heap H locs → decode cc pc = .ok (.ireturn, 1) → W p l e rm s m args below meth c H locs k n Q (F0 m pc ls [.int (vf u)])) →
      (∀ (u : ρ) (v : σ) (H : Heap) (locs : List Loc) (ls : Array Slot) (pc is : Nat) (text : String), ls.size = maxL → (is, text) ∈ TXS → xf u = 1 → some u = some Rr → va_P D vwCl (w1 u v) H → va_D A (w1 u v) → va_S A s.heap H locs → decode cc pc = .ok (.new 155, 3) → decode cc (pc + 3) = .ok (.dup, 1) → decode cc (pc + 4) = .ok (.ldc is, 2) → decode cc (pc + 6) = .ok (.invokespecial 159, 3) → decode cc (pc + 9) = .ok (.athrow, 1) → W p l e rm s m args below meth c H locs 0 0 Q (F0 m pc ls [])) →
      (∀ (u : ρ) (v : σ) (H : Heap) (locs : List Loc) (ls : Array Slot) (pc is : Nat) (text : String), ls.size = maxL → (is, text) ∈ TXS → xf u = 1 → some u = some Rr → va_P D vwCl (w1 u v) H → va_D A (w1 u v) → va_S A s.heap H locs → decode cc pc = .ok (.new 155, 3) → decode cc (pc + 3) = .ok (.dup, 1) → decode cc (pc + 4) = .ok (.ldc_w is, 3) → decode cc (pc + 7) = .ok (.invokespecial 159, 3) → decode cc (pc + 10) = .ok (.athrow, 1) → W p l e rm s m args below meth c H locs 0 0 Q (F0 m pc ls [])) →
      (∀ (u : ρ) (v : σ) (H : Heap) (locs : List Loc) (ls : Array Slot) (pc is : Nat) (text : String), ls.size = maxL → (is, text) ∈ TXS → xf u = 2 → some u = some Rr → va_P D vwCl (w1 u v) H → va_D A (w1 u v) → va_S A s.heap H locs → decode cc pc = .ok (.new 87, 3) → decode cc (pc + 3) = .ok (.dup, 1) → decode cc (pc + 4) = .ok (.ldc is, 2) → decode cc (pc + 6) = .ok (.invokespecial 91, 3) → decode cc (pc + 9) = .ok (.athrow, 1) → W p l e rm s m args below meth c H locs 0 0 Q (F0 m pc ls [])) →
      (∀ (u : ρ) (v : σ) (H : Heap) (locs : List Loc) (ls : Array Slot) (pc is : Nat) (text : String), ls.size = maxL → (is, text) ∈ TXS → xf u = 2 → some u = some Rr → va_P D vwCl (w1 u v) H → va_D A (w1 u v) → va_S A s.heap H locs → decode cc pc = .ok (.new 87, 3) → decode cc (pc + 3) = .ok (.dup, 1) → decode cc (pc + 4) = .ok (.ldc_w is, 3) → decode cc (pc + 7) = .ok (.invokespecial 91, 3) → decode cc (pc + 10) = .ok (.athrow, 1) → W p l e rm s m args below meth c H locs 0 0 Q (F0 m pc ls [])) →
      W p l e rm s m args below meth c s.heap [] 0 0 Q (F0 m 0 ls [])) : CTx l y (Cond.code y cc maxL (some .int)) rm D cI As wc (xf Rr) (vf Rr) (w1 Rr) mc ms := by
  intro sz
  refine vx_ofW (cc := cc) (maxL := maxL) (ret := some .int) hy rfl ?_
  intro p e s m args below meth c s₁ B hml htab hv
  obtain ⟨rfl, hsz, hP, hK, hX, hD0⟩ := hv
  subst hsz
  have hts := atoms_spec (ws := Cond.code y cc maxL (some .int) :: TB) B.pre
  have hown : s.vm.findClass RX11 = some m.cls := by rw [← ho]; exact findClass_of_methodNamed B.named
  rw [lg_entry_eq]
  refine body p e s m _ below meth c _ _ _ B.exec B.bytes hml (fun w h => hts w (List.mem_cons_of_mem _ h)) hts hown hK hX (fun q h => Or.inr h) hP (hD0.self (sz := s.heap.size)) va_S.rf (lv_entry As (n := maxL) hn) ?_ ?_ ?_ ?_ ?_
  · intro u v H locs ls pc k n hk hn hx0 hu hP hD hS hdg
    obtain rfl := Option.some.inj hu
    refine vx_ret (W.widen hk hn ?_)
    exact W.iret B.exec B.bytes B.returns (fun t ht hW => ⟨⟨vf u, v, rfl, ⟨hx0, rfl⟩, by rw [ht]; exact hP, hD⟩, hS.F ht⟩) hS.2.2 hdg B.notSynchronized
  · intro u v H locs ls pc is text hsz hq hx1 hu hP hD hS d0 d3 d4 d6 d9
    obtain rfl := Option.some.inj hu
    exact z_thr1 B.exec B.bytes hlt (fun w h => hts w (List.mem_cons_of_mem _ h)) hown hK hX text hq hx1 v hP hD hS (hsz.trans hml.symm) d0 d3 d4 d6 d9 htab hfr hlo hc1 hs1 B.notSynchronized hmc hms
  · intro u v H locs ls pc is text hsz hq hx1 hu hP hD hS d0 d3 d4 d6 d9
    obtain rfl := Option.some.inj hu
    exact z_thr1W B.exec B.bytes hlt (fun w h => hts w (List.mem_cons_of_mem _ h)) hown hK hX text hq hx1 v hP hD hS (hsz.trans hml.symm) d0 d3 d4 d6 d9 htab hfr hlo hc1 hs1 B.notSynchronized hmc hms
  · intro u v H locs ls pc is text hsz hq hx1 hu hP hD hS d0 d3 d4 d6 d9
    obtain rfl := Option.some.inj hu
    exact z_thr2 B.exec B.bytes hlt (fun w h => hts w (List.mem_cons_of_mem _ h)) hown hK hX text hq hx1 v hP hD hS (hsz.trans hml.symm) d0 d3 d4 d6 d9 htab hfr hlo hc1 hs1 B.notSynchronized hmc hms
  · intro u v H locs ls pc is text hsz hq hx1 hu hP hD hS d0 d3 d4 d6 d9
    obtain rfl := Option.some.inj hu
    exact z_thr2W B.exec B.bytes hlt (fun w h => hts w (List.mem_cons_of_mem _ h)) hown hK hX text hq hx1 v hP hD hS (hsz.trans hml.symm) d0 d3 d4 d6 d9 htab hfr hlo hc1 hs1 B.notSynchronized hmc hms

