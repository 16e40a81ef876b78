section ZB
variable {l : Launch} {y : MethodName} {cc : ByteArray} {maxL : Nat} {rm : Room} {D : va_G} {cI : ClassId} {As : List Value} {wc : va_W} {own : String} {ρ : Type} {Rr : ρ}
theorem z_begin_i (w1 : ρ → va_W) (vf : ρ → Int32) (hy : plainName y.cls = true) (ho : y.cls = own) (hn : (lg_sl As).length ≤ maxL)
    (body : ∀ (p : Program) (e : Env) (s : State) (m : MethodId) (args : Array Value) (below : List Frame) (meth : Method) (c : Code) (ls : Array Slot) (Q : State → Prop) (A : Nat → Prop), p.tables.exec = Jvm.exec → c.code = cc → c.maxLocals = maxL → (∀ w ∈ TB, w.before args s = true) → (∀ w ∈ (Cond.code y cc maxL (some .int) :: TB), w.before args s = true) → s.vm.findClass own = some m.cls → KK D cI s → SX D A s → (∀ q : Nat, s.heap.size ≤ q → A q) → va_P D vwCl wc s.heap → va_D A wc → va_S A s.heap s.heap [] → lv_has ls maxL (lv_args 0 As) →
      (∀ (u : ρ) (H : Heap) (locs : List Loc) (ls : Array Slot) (pc : Nat), some u = some Rr → va_P D vwCl (w1 u) H → va_D A (w1 u) → va_S A s.heap H locs → decode cc pc = .ok (.ireturn, 1) → W p l e rm s m args below meth c H locs 0 0 Q (F0 m pc ls [.int (vf u)])) →
      W p l e rm s m args below meth c s.heap [] 0 0 Q (F0 m 0 ls [])) : CTi l y (Cond.code y cc maxL (some .int)) rm D cI As wc (vf Rr) (w1 Rr) := by
  refine z_begin (Qc := fun sz => Ri D wc (vf Rr) (w1 Rr) sz) hy ho hn ?_
  intro p e s m below meth c ls hx hb hr hlocks hml hts hcx hown hK hX hP hD hA hS hl
  refine body p e s m _ below meth c ls _ _ hx hb hml hts hcx hown hK hX hA hP hD hS hl ?_
  intro u H locs ls pc hu hP hD hS hdg
  obtain rfl := Option.some.inj hu
  exact z_iret hx hb hr hlocks hS hP hD hdg
theorem z_begin_z (w1 : ρ → va_W) (vf : ρ → Int32) (hy : plainName y.cls = true) (ho : y.cls = own) (hn : (lg_sl As).length ≤ maxL)
    (body : ∀ (p : Program) (e : Env) (s : State) (m : MethodId) (args : Array Value) (below : List Frame) (meth : Method) (c : Code) (ls : Array Slot) (Q : State → Prop) (A : Nat → Prop), p.tables.exec = Jvm.exec → c.code = cc → c.maxLocals = maxL → (∀ w ∈ TB, w.before args s = true) → (∀ w ∈ (Cond.code y cc maxL (some .boolean) :: TB), w.before args s = true) → s.vm.findClass own = some m.cls → KK D cI s → SX D A s → (∀ q : Nat, s.heap.size ≤ q → A q) → va_P D vwCl wc s.heap → va_D A wc → va_S A s.heap s.heap [] → lv_has ls maxL (lv_args 0 As) →
      (∀ (u : ρ) (H : Heap) (locs : List Loc) (ls : Array Slot) (pc : Nat), (vf u = 0 ∨ vf u = 1) → some u = some Rr → va_P D vwCl (w1 u) H → va_D A (w1 u) → va_S A s.heap H locs → decode cc pc = .ok (.ireturn, 1) → W p l e rm s m args below meth c H locs 0 0 Q (F0 m pc ls [.int (vf u)])) →
      W p l e rm s m args below meth c s.heap [] 0 0 Q (F0 m 0 ls [])) : CTi l y (Cond.code y cc maxL (some .boolean)) rm D cI As wc (vf Rr) (w1 Rr) := by
  refine z_begin (Qc := fun sz => Ri D wc (vf Rr) (w1 Rr) sz) hy ho hn ?_
  intro p e s m below meth c ls hx hb hr hlocks hml hts hcx hown hK hX hP hD hA hS hl
  refine body p e s m _ below meth c ls _ _ hx hb hml hts hcx hown hK hX hA hP hD hS hl ?_
  intro u H locs ls pc hv hu hP hD hS hdg
  obtain rfl := Option.some.inj hu
  exact z_zret hx hb hr hlocks hv hS hP hD hdg
theorem z_begin_l (w1 : ρ → va_W) (vf : ρ → Int64) (hy : plainName y.cls = true) (ho : y.cls = own) (hn : (lg_sl As).length ≤ maxL)
    (body : ∀ (p : Program) (e : Env) (s : State) (m : MethodId) (args : Array Value) (below : List Frame) (meth : Method) (c : Code) (ls : Array Slot) (Q : State → Prop) (A : Nat → Prop), p.tables.exec = Jvm.exec → c.code = cc → c.maxLocals = maxL → (∀ w ∈ TB, w.before args s = true) → (∀ w ∈ (Cond.code y cc maxL (some .long) :: TB), w.before args s = true) → s.vm.findClass own = some m.cls → KK D cI s → SX D A s → (∀ q : Nat, s.heap.size ≤ q → A q) → va_P D vwCl wc s.heap → va_D A wc → va_S A s.heap s.heap [] → lv_has ls maxL (lv_args 0 As) →
      (∀ (u : ρ) (H : Heap) (locs : List Loc) (ls : Array Slot) (pc : Nat), some u = some Rr → va_P D vwCl (w1 u) H → va_D A (w1 u) → va_S A s.heap H locs → decode cc pc = .ok (.lreturn, 1) → W p l e rm s m args below meth c H locs 0 0 Q (F0 m pc ls [.long (vf u)])) →
      W p l e rm s m args below meth c s.heap [] 0 0 Q (F0 m 0 ls [])) : CTl l y (Cond.code y cc maxL (some .long)) rm D cI As wc (vf Rr) (w1 Rr) := by
  refine z_begin (Qc := fun sz => Rl D wc (vf Rr) (w1 Rr) sz) hy ho hn ?_
  intro p e s m below meth c ls hx hb hr hlocks hml hts hcx hown hK hX hP hD hA hS hl
  refine body p e s m _ below meth c ls _ _ hx hb hml hts hcx hown hK hX hA hP hD hS hl ?_
  intro u H locs ls pc hu hP hD hS hdg
  obtain rfl := Option.some.inj hu
  exact z_lret hx hb hr hlocks hS hP hD hdg
theorem z_begin_v (w1 : ρ → va_W) (hy : plainName y.cls = true) (ho : y.cls = own) (hn : (lg_sl As).length ≤ maxL)
    (body : ∀ (p : Program) (e : Env) (s : State) (m : MethodId) (args : Array Value) (below : List Frame) (meth : Method) (c : Code) (ls : Array Slot) (Q : State → Prop) (A : Nat → Prop), p.tables.exec = Jvm.exec → c.code = cc → c.maxLocals = maxL → (∀ w ∈ TB, w.before args s = true) → (∀ w ∈ (Cond.code y cc maxL none :: TB), w.before args s = true) → s.vm.findClass own = some m.cls → KK D cI s → SX D A s → (∀ q : Nat, s.heap.size ≤ q → A q) → va_P D vwCl wc s.heap → va_D A wc → va_S A s.heap s.heap [] → lv_has ls maxL (lv_args 0 As) →
      (∀ (u : ρ) (H : Heap) (locs : List Loc) (ls : Array Slot) (pc : Nat), some u = some Rr → va_P D vwCl (w1 u) H → va_D A (w1 u) → va_S A s.heap H locs → decode cc pc = .ok (.return_, 1) → W p l e rm s m args below meth c H locs 0 0 Q (F0 m pc ls [])) →
      W p l e rm s m args below meth c s.heap [] 0 0 Q (F0 m 0 ls [])) : CTv l y (Cond.code y cc maxL none) rm D cI As wc (w1 Rr) := by
  refine z_begin (Qc := fun sz => Rv D wc (w1 Rr) sz) hy ho hn ?_
  intro p e s m below meth c ls hx hb hr hlocks hml hts hcx hown hK hX hP hD hA hS hl
  refine body p e s m _ below meth c ls _ _ hx hb hml hts hcx hown hK hX hA hP hD hS hl ?_
  intro u H locs ls pc hu hP hD hS hdg
  obtain rfl := Option.some.inj hu
  exact z_vret hx hb hr hlocks hS hP hD hdg
end ZB
