/-! ===== the pure words: what a body computes, or none where the machine would throw or the fuel is out ===== -/
def fuelN : Nat := 100000
def nm {β α : Type} (x : β) (k : β → Option α) : Option α := k x
def rd {α : Type} (f : Nat → Int32) (n : Nat) (i : Int32) (k : Int32 → Option α) : Option α := if i < 0 ∨ n ≤ i.toNatClampNeg then none else k (f i.toNatClampNeg)
def wr {α : Type} (f : Nat → Int32) (n : Nat) (i x : Int32) (k : (Nat → Int32) → Option α) : Option α := if i < 0 ∨ n ≤ i.toNatClampNeg then none else k (upd f i.toNatClampNeg x)
def dz {α : Type} (y : Int32) (k : Option α) : Option α := if y = 0 then none else k
def cb {α : Type} (v : Int32) (k : Option α) : Option α := if v = 0 ∨ v = 1 then k else none
def bd {β α : Type} (x : Option β) (k : β → Option α) : Option α := x.bind k
def cp {α : Type} (f g : Nat → Int32) (n0 n1 : Nat) (sp dp n : Int32) (k : (Nat → Int32) → Option α) : Option α := if sp < 0 ∨ dp < 0 ∨ n < 0 ∨ n0 < sp.toNatClampNeg + n.toNatClampNeg ∨ n1 < dp.toNatClampNeg + n.toNatClampNeg then none else k (va_cpy f g sp.toNatClampNeg dp.toNatClampNeg n.toNatClampNeg)
theorem cp_some {α : Type} {f g : Nat → Int32} {n0 n1 : Nat} {sp dp n : Int32} {k : (Nat → Int32) → Option α} {r : α} (h : cp f g n0 n1 sp dp n k = some r) : ¬ sp < 0 ∧ ¬ dp < 0 ∧ ¬ n < 0 ∧ sp.toNatClampNeg + n.toNatClampNeg ≤ n0 ∧ dp.toNatClampNeg + n.toNatClampNeg ≤ n1 ∧ k (va_cpy f g sp.toNatClampNeg dp.toNatClampNeg n.toNatClampNeg) = some r := by
  unfold cp at h
  by_cases c : sp < 0 ∨ dp < 0 ∨ n < 0 ∨ n0 < sp.toNatClampNeg + n.toNatClampNeg ∨ n1 < dp.toNatClampNeg + n.toNatClampNeg
  · rw [if_pos c] at h; cases h
  · rw [if_neg c] at h
    simp only [not_or] at c
    exact ⟨c.1, c.2.1, c.2.2.1, by omega, by omega, h⟩
theorem rd_some {α : Type} {f : Nat → Int32} {n : Nat} {i : Int32} {k : Int32 → Option α} {r : α} (h : rd f n i k = some r) : vp_in i n ∧ k (f i.toNatClampNeg) = some r := by
  unfold rd at h
  by_cases c : i < 0 ∨ n ≤ i.toNatClampNeg
  · rw [if_pos c] at h; cases h
  · rw [if_neg c] at h; exact ⟨c, h⟩
theorem wr_some {α : Type} {f : Nat → Int32} {n : Nat} {i x : Int32} {k : (Nat → Int32) → Option α} {r : α} (h : wr f n i x k = some r) : vp_in i n ∧ k (upd f i.toNatClampNeg x) = some r := by
  unfold wr at h
  by_cases c : i < 0 ∨ n ≤ i.toNatClampNeg
  · rw [if_pos c] at h; cases h
  · rw [if_neg c] at h; exact ⟨c, h⟩
theorem dz_some {α : Type} {y : Int32} {k : Option α} {r : α} (h : dz y k = some r) : ¬ y = 0 ∧ k = some r := by
  unfold dz at h
  by_cases c : y = 0
  · rw [if_pos c] at h; cases h
  · rw [if_neg c] at h; exact ⟨c, h⟩
theorem cb_some {α : Type} {v : Int32} {k : Option α} {r : α} (h : cb v k = some r) : (v = 0 ∨ v = 1) ∧ k = some r := by
  unfold cb at h
  by_cases c : v = 0 ∨ v = 1
  · rw [if_pos c] at h; exact ⟨c, h⟩
  · rw [if_neg c] at h; cases h
theorem bd_some {β α : Type} {x : Option β} {k : β → Option α} {r : α} (h : bd x k = some r) : ∃ u, x = some u ∧ k u = some r := by
  unfold bd at h
  cases x with
  | none => cases h
  | some u => exact ⟨u, rfl, h⟩
theorem rd_ok {α : Type} {f : Nat → Int32} {n : Nat} {i : Int32} {k : Int32 → Option α} (h : vp_in i n) : rd f n i k = k (f i.toNatClampNeg) := if_neg h
theorem wr_ok {α : Type} {f : Nat → Int32} {n : Nat} {i x : Int32} {k : (Nat → Int32) → Option α} (h : vp_in i n) : wr f n i x k = k (upd f i.toNatClampNeg x) := if_neg h
theorem dz_ok {α : Type} {y : Int32} {k : Option α} (h : ¬ y = 0) : dz y k = k := if_neg h
theorem cb_0 {α : Type} {k : Option α} : cb 0 k = k := if_pos (Or.inl rfl)
theorem cb_1 {α : Type} {k : Option α} : cb 1 k = k := if_pos (Or.inr rfl)
theorem bd_ok {β α : Type} {x : Option β} {k : β → Option α} {u : β} (h : x = some u) : bd x k = k u := by rw [h]; rfl
abbrev TY (D : va_G) (cI : ClassId) : List (ClassId × FieldType) := [(cI, .int), (D.1 100, .object "FenceHeap$Machine"), (D.1 101, .long)]
def isCast : Cond → Bool
  | .castable _ _ => true
  | .declares _ => true
  | _ => false
def CST : List Cond := lw_tbl.filter isCast
theorem cst_of {w : Cond} (i : Nat) (h : lw_tbl[i]? = some w) (hg : isCast w = true) : w ∈ CST := List.mem_filter.mpr ⟨List.mem_of_getElem? h, hg⟩
theorem cst_warm {w : Cond} {s U : State} (hW : s.WarmedH U.vm) (hw : w ∈ CST) (h : va_Nw w s) : va_Nw w U := by
  have hm := (List.mem_filter.mp hw).2
  cases w <;> first | exact va_Nw.warmC hW h | exact va_Nw.warmD hW h | (simp [isCast] at hm)
def KK (D : va_G) (cI : ClassId) (U : State) : Prop := va_K D vwCl (TY D cI) U ∧ (∀ w ∈ NST, va_Nw w U) ∧ va_AO "FenceHeap$Machine" U ∧ (∀ w ∈ CST, va_Nw w U) ∧ va_Nc "java/lang/IllegalArgumentException" "java/util/NoSuchElementException" U
theorem KK.warm {D : va_G} {cI : ClassId} {s U : State} (hW : s.WarmedH U.vm) (h : KK D cI s) : KK D cI U := by
  refine ⟨va_K.moved hW.alike h.1, fun w hw => ?_, va_AO.moved hW.alike h.2.2.1, fun w hw => cst_warm hW hw (h.2.2.2.1 w hw), va_Nc.moved hW.alike h.2.2.2.2⟩
  have hz := h.2.1 w hw
  have hm := (List.mem_filter.mp hw).2
  cases w <;> first | exact va_Nw.warmM hW hz | exact va_Nw.warmF hW hz | (simp [isNest] at hm)
theorem KK.calling {D : va_G} {cI : ClassId} {U : State} {g : JFrame} {mk : MethodId} {a : Array Value} (h : KK D cI U) : KK D cI (U.calling g mk a) := by
  refine ⟨va_K.moved (u := U) (U := U.calling g mk a) (Vm.Alike.refl U.vm) h.1, fun w hw => ?_, va_AO.moved (u := U) (U := U.calling g mk a) (Vm.Alike.refl U.vm) h.2.2.1, fun w hw => cst_warm (State.WarmedH.refl U) hw (h.2.2.2.1 w hw), va_Nc.moved (u := U) (U := U.calling g mk a) (Vm.Alike.refl U.vm) h.2.2.2.2⟩
  have hz := h.2.1 w hw
  have hm := (List.mem_filter.mp hw).2
  cases w <;> first | exact va_Nw.same (u := U) (U := U.calling g mk a) rfl rfl hz | (simp [isNest] at hm)
/-! ===== static arrays: cells that lie outside of all worlds ===== -/
def sx1 (C n d : String) (ty : FieldType) (N : Nat) (K : Nat → Int32) (A : Nat → Prop) (U : State) : Prop := ∃ t : Nat, va_Z C n d (.ref t) A U U.heap ∧ va_T ty t N (fun j => .int (K j)) A U U.heap
theorem sx1.call {C n d : String} {ty : FieldType} {N : Nat} {K : Nat → Int32} {A B : Nat → Prop} {s U : State} {H : Heap} {locs : List Loc} (h : sx1 C n d ty N K A s) (hS : va_S A s.heap H locs) (hAB : ∀ q, B q → A q) (hU : U.heap = H) (hvm : s.vm.Alike U.vm) : sx1 C n d ty N K B U := by
  obtain ⟨t, h1, h2⟩ := h
  refine ⟨t, ?_, ?_⟩
  · rw [hU]; exact va_Z.moved hvm ((h1.kept hS.2.1).narrow hAB)
  · rw [hU]; exact va_T.moved hvm ((h2.kept hS.2.1).narrow hAB)
def K_ARGUMENTS : Nat → Int32 := fun j => ([2, 1, 2, 2, 0] : List Int32).getD j 0
def K_FIRST_LEAST : Nat → Int32 := fun j => ([0, 0, 0, 20, 0] : List Int32).getD j 0
def K_FIRST_MOST : Nat → Int32 := fun j => ([3, 3, 3, 63, 0] : List Int32).getD j 0
def K_SECOND_MOST : Nat → Int32 := fun j => ([99, 0, 3, 99, 0] : List Int32).getD j 0
def K_KNOWN : Nat → Int32 := fun j => ([117, 110, 100, 111, 32, 114, 101, 100, 111, 32, 119, 105, 116, 104, 111, 117, 116, 32, 99, 104, 97, 105, 110, 32, 108, 101, 97, 107, 32, 100, 97, 116, 97, 32, 100, 111, 32, 110, 101, 119, 32, 100, 114, 111, 112, 32, 109, 111, 118, 101, 32, 115, 101, 116, 32, 115, 119, 101, 101, 112, 32, 97, 32, 98, 32, 99, 32, 100, 32, 101, 32, 102, 32, 103, 32] : List Int32).getD j 0
/-! the reader's words, the texts of what is thrown: String constants -/
def RWS : List (Nat × String × List Int32) := [(112, "undo", [117, 110, 100, 111]), (121, "redo", [114, 101, 100, 111]), (123, "without", [119, 105, 116, 104, 111, 117, 116]), (128, "chain", [99, 104, 97, 105, 110]), (133, "leak", [108, 101, 97, 107]), (138, "data", [100, 97, 116, 97]), (143, "do", [100, 111]), (182, "new", [110, 101, 119]), (184, "drop", [100, 114, 111, 112]), (186, "move", [109, 111, 118, 101]), (188, "set", [115, 101, 116]), (190, "sweep", [115, 119, 101, 101, 112])]
def TXS : List (Nat × String) := [(89, "the tape has not so many bytes"), (157, "no such count"), (164, "no such word"), (176, "no such line"), (184, "no such store"), (189, "no such micro, or nothing such of it"), (201, "no such shape"), (264, "no such op"), (289, "no such site"), (295, "no such order"), (297, "no such answer of a check"), (322, "no such answer of the least"), (329, "no such part of a fraction"), (348, "no such answer of what is explained"), (361, "no such answer of where to look"), (367, "no such answer of years"), (369, "not so many years")]
/-- the i-th of the reader's words lies at D.2 200 i, its bytes at D.2 201 i -/
def skW (D : va_G) (i : Nat) (q : Nat × String × List Int32) (A : Nat → Prop) (U : State) : Prop := vk_R RX6 q.1 q.2.1 (D.2 200 i) U ∧ va_O "java/lang/String" (D.2 200 i) A U U.heap ∧ va_OF "java/lang/String" "coder" "B" (.int 0) (D.2 200 i) A U U.heap ∧ va_OF "java/lang/String" "value" "[B" (.ref (D.2 201 i)) (D.2 200 i) A U U.heap ∧ va_T .byte (D.2 201 i) q.2.2.length (fun j => .int (q.2.2.getD j 0)) A U U.heap
theorem skW.call {D : va_G} {i : Nat} {q : Nat × String × List Int32} {A B : Nat → Prop} {s U : State} {H : Heap} {locs : List Loc} (h : skW D i q A s) (hS : va_S A s.heap H locs) (hAB : ∀ q, B q → A q) (hU : U.heap = H) (hW : s.WarmedH U.vm) : skW D i q B U := by
  obtain ⟨h1, h2, h3, h4, h5⟩ := h
  refine ⟨vk_R.warm hW h1, ?_, ?_, ?_, ?_⟩
  · rw [hU]; exact va_O.moved hW.alike ((h2.kept hS.2.1).narrow hAB)
  · rw [hU]; exact va_OF.moved hW.alike ((h3.kept hS.2.1).narrow hAB)
  · rw [hU]; exact va_OF.moved hW.alike ((h4.kept hS.2.1).narrow hAB)
  · rw [hU]; exact va_T.moved hW.alike ((h5.kept hS.2.1).narrow hAB)
def SXz (A : Nat → Prop) (U : State) : Prop := va_Z "java/lang/String" "COMPACT_STRINGS" "Z" (.int 1) A U U.heap ∧ va_Zq "jdk/internal/util/Preconditions" "SIOOBE_FORMATTER" "Ljava/util/function/BiFunction;" A U U.heap ∧ vx_Zq Bundle.tN "UNASSIGNED_STACK" Bundle.steD A U U.heap ∧ vx_Zq Bundle.tN "SUPPRESSED_SENTINEL" Bundle.listD A U U.heap
theorem SXz.call {A B : Nat → Prop} {s U : State} {H : Heap} {locs : List Loc} (h : SXz A s) (hS : va_S A s.heap H locs) (hAB : ∀ q, B q → A q) (hU : U.heap = H) (hvm : s.vm.Alike U.vm) : SXz B U := by
  obtain ⟨h1, h2, h3, h4⟩ := h
  refine ⟨?_, ?_, ?_, ?_⟩
  · rw [hU]; exact va_Z.moved hvm ((h1.kept hS.2.1).narrow hAB)
  · rw [hU]; exact va_Zq.moved hvm ((h2.kept hS.2.1).narrow hAB)
  · rw [hU]; exact vx_Zq.moved hvm ((h3.kept hS.2.1).narrow hAB)
  · rw [hU]; exact vx_Zq.moved hvm ((h4.kept hS.2.1).narrow hAB)
def SX (D : va_G) (A : Nat → Prop) (U : State) : Prop := sx1 "FenceHeap" "ARGUMENTS" "[I" .int 5 K_ARGUMENTS A U ∧ sx1 "FenceHeap" "FIRST_LEAST" "[I" .int 5 K_FIRST_LEAST A U ∧ sx1 "FenceHeap" "FIRST_MOST" "[I" .int 5 K_FIRST_MOST A U ∧ sx1 "FenceHeap" "SECOND_MOST" "[I" .int 5 K_SECOND_MOST A U ∧ sx1 "FenceHeapModel" "KNOWN" "[B" .byte 75 K_KNOWN A U ∧ SXz A U ∧ (∀ (i : Nat) (q : Nat × String × List Int32), RWS[i]? = some q → skW D i q A U) ∧ ∀ q ∈ TXS, ∃ a : Nat, vk_R RX11 q.1 q.2 a U
theorem SX.call {D : va_G} {A B : Nat → Prop} {s U : State} {H : Heap} {locs : List Loc} (h : SX D A s) (hS : va_S A s.heap H locs) (hAB : ∀ q, B q → A q) (hU : U.heap = H) (hW : s.WarmedH U.vm) : SX D B U := by
  have hvm := hW.alike
  exact ⟨h.1.call hS hAB hU hvm, h.2.1.call hS hAB hU hvm, h.2.2.1.call hS hAB hU hvm, h.2.2.2.1.call hS hAB hU hvm, h.2.2.2.2.1.call hS hAB hU hvm, h.2.2.2.2.2.1.call hS hAB hU hvm, fun i q hq => (h.2.2.2.2.2.2.1 i q hq).call hS hAB hU hW, fun q hq => by
    obtain ⟨a, ha⟩ := h.2.2.2.2.2.2.2 q hq
    exact ⟨a, vk_R.warm hW ha⟩⟩
theorem SX.calling {D : va_G} {A : Nat → Prop} {U : State} {g : JFrame} {mk : MethodId} {a : Array Value} (h : SX D A U) : SX D A (U.calling g mk a) := h.call (H := U.heap) (locs := []) va_S.rf (fun _ q => q) rfl (State.WarmedH.refl U)
/-! ===== contracts: from the world wc to the world w1, with the answer ===== -/
def Pz (D : va_G) (cI : ClassId) (As : List Value) (wc : va_W) (sz : Nat) : Array Value → State → Prop := va_Pc As (fun U => U.heap.size = sz ∧ va_P D vwCl wc U.heap ∧ KK D cI U ∧ SX D (va_A wc sz) U ∧ va_D (fun _ => True) wc)
def Ri (D : va_G) (wc : va_W) (v : Int32) (w1 : va_W) (sz : Nat) : Array Value → State → Outcome → State → Prop := va_Qi (fun (r : Int32) (_ : Unit) => r = v) (fun _ t => va_P D vwCl w1 t.heap ∧ va_D (va_A wc sz) w1) (va_A wc sz)
def Rl (D : va_G) (wc : va_W) (v : Int64) (w1 : va_W) (sz : Nat) : Array Value → State → Outcome → State → Prop := va_Ql (fun (r : Int64) (_ : Unit) => r = v) (fun _ t => va_P D vwCl w1 t.heap ∧ va_D (va_A wc sz) w1) (va_A wc sz)
def Rv (D : va_G) (wc : va_W) (w1 : va_W) (sz : Nat) : Array Value → State → Outcome → State → Prop := va_Qv (fun (_ : Unit) => True) (fun _ t => va_P D vwCl w1 t.heap ∧ va_D (va_A wc sz) w1) (va_A wc sz)
def CTi (l : Launch) (y : MethodName) (cy : Cond) (rm : Room) (D : va_G) (cI : ClassId) (As : List Value) (wc : va_W) (v : Int32) (w1 : va_W) : Prop := ∀ sz : Nat, Met l y (cy :: TB) rm (Pz D cI As wc sz) (Ri D wc v w1 sz) 0 0 (va_A wc sz)
def CTl (l : Launch) (y : MethodName) (cy : Cond) (rm : Room) (D : va_G) (cI : ClassId) (As : List Value) (wc : va_W) (v : Int64) (w1 : va_W) : Prop := ∀ sz : Nat, Met l y (cy :: TB) rm (Pz D cI As wc sz) (Rl D wc v w1 sz) 0 0 (va_A wc sz)
def CTv (l : Launch) (y : MethodName) (cy : Cond) (rm : Room) (D : va_G) (cI : ClassId) (As : List Value) (wc : va_W) (w1 : va_W) : Prop := ∀ sz : Nat, Met l y (cy :: TB) rm (Pz D cI As wc sz) (Rv D wc w1 sz) 0 0 (va_A wc sz)
theorem Pz_blind {D : va_G} {cI : ClassId} {As : List Value} {wc : va_W} {sz : Nat} : FrameBlind (Pz D cI As wc sz) := fun _ _ _ _ q => ⟨q.1, q.2.1, q.2.2.1, q.2.2.2.1.calling, q.2.2.2.2.1.calling, q.2.2.2.2.2⟩
/-- a body, from its entry -/
theorem z_begin {l : Launch} {y : MethodName} {cc : ByteArray} {maxL : Nat} {ret : Option FieldType} {rm : Room} {D : va_G} {cI : ClassId} {As : List Value} {wc : va_W} {Qc : Nat → Array Value → State → Outcome → State → Prop} {own : String} (hy : plainName y.cls = true) (ho : y.cls = own) (hn : (lg_sl As).length ≤ maxL)
    (body : ∀ (p : Program) (e : Env) (s : State) (m : MethodId) (below : List Frame) (meth : Method) (c : Code) (ls : Array Slot), p.tables.exec = Jvm.exec → c.code = cc → meth.sig.returnType = ret → meth.locks = false → c.maxLocals = maxL → (∀ w ∈ TB, w.before As.toArray s = true) → (∀ w ∈ (Cond.code y cc maxL ret :: TB), w.before As.toArray s = true) → s.vm.findClass own = some m.cls → KK D cI s → SX D (va_A wc s.heap.size) s → va_P D vwCl wc s.heap → va_D (va_A wc s.heap.size) wc → (∀ q : Nat, s.heap.size ≤ q → va_A wc s.heap.size q) → va_S (va_A wc s.heap.size) s.heap s.heap [] → lv_has ls maxL (lv_args 0 As) →
      W p l e rm s m As.toArray below meth c s.heap [] 0 0 (MQ below (Qc s.heap.size) As.toArray s 0 0 (va_A wc s.heap.size)) (F0 m 0 ls [])) (sz : Nat) :
    Met l y (Cond.code y cc maxL ret :: TB) rm (Pz D cI As wc sz) (Qc sz) 0 0 (va_A wc sz) := by
  refine Met.ofW (cc := cc) (maxL := maxL) (ret := ret) hy rfl ?_
  intro p e s m args below meth c s₁ B hml hv
  obtain ⟨rfl, hsz, hP, hK, hX, hD0⟩ := hv
  subst hsz
  have hts := atoms_spec (ws := Cond.code y cc maxL ret :: TB) B.pre
  have hown : s.vm.findClass own = some m.cls := by rw [← ho]; exact findClass_of_methodNamed B.named
  rw [lg_entry_eq]
  exact body p e s m below meth c _ B.exec B.bytes B.returns B.notSynchronized hml (fun w h => hts w (List.mem_cons_of_mem _ h)) hts hown hK hX hP (hD0.self (sz := s.heap.size)) (fun q h => Or.inr h) va_S.rf (lv_entry As (n := maxL) hn)
section ZR
variable {p : Program} {l : Launch} {e : Env} {R : Room} {s : State} {m : MethodId} {args : Array Value} {below : List Frame} {meth : Method} {c : Code} {H H0 : Heap} {locs : List Loc} {cells slots pc : Nat} {Q : State → Prop} {cc : ByteArray} {ls : Array Slot} {rest : List Value} {A : Nat → Prop} {D : va_G} {ws : va_W} {cI : ClassId} {α : Type} {r : α}
theorem z_iret {wc w1 : va_W} {v : Int32} (hx : p.tables.exec = Jvm.exec) (hb : c.code = cc) (hr : meth.sig.returnType = some .int) (hlocks : meth.locks = false) (hS : va_S (va_A wc s.heap.size) s.heap H locs) (hP : va_P D vwCl w1 H) (hD : va_D (va_A wc s.heap.size) w1) (hdg : decode cc pc = .ok (.ireturn, 1)) : W p l e R s m args below meth c H locs 0 0 (MQ below (Ri D wc v w1 s.heap.size) args s 0 0 (va_A wc s.heap.size)) (F0 m pc ls [.int v]) :=
  W.iret hx hb hr (fun t ht hW => ⟨⟨v, (), rfl, rfl, by rw [ht]; exact hP, hD⟩, hS.F ht⟩) hS.2.2 hdg hlocks
theorem z_zret {wc w1 : va_W} {v : Int32} (hx : p.tables.exec = Jvm.exec) (hb : c.code = cc) (hr : meth.sig.returnType = some .boolean) (hlocks : meth.locks = false) (hv : v = 0 ∨ v = 1) (hS : va_S (va_A wc s.heap.size) s.heap H locs) (hP : va_P D vwCl w1 H) (hD : va_D (va_A wc s.heap.size) w1) (hdg : decode cc pc = .ok (.ireturn, 1)) : W p l e R s m args below meth c H locs 0 0 (MQ below (Ri D wc v w1 s.heap.size) args s 0 0 (va_A wc s.heap.size)) (F0 m pc ls [.int v]) :=
  W.zret hx hb hr (by rcases hv with rfl | rfl <;> rfl) (fun t ht hW => ⟨⟨v, (), rfl, rfl, by rw [ht]; exact hP, hD⟩, hS.F ht⟩) hS.2.2 hdg hlocks
theorem z_lret {wc w1 : va_W} {v : Int64} (hx : p.tables.exec = Jvm.exec) (hb : c.code = cc) (hr : meth.sig.returnType = some .long) (hlocks : meth.locks = false) (hS : va_S (va_A wc s.heap.size) s.heap H locs) (hP : va_P D vwCl w1 H) (hD : va_D (va_A wc s.heap.size) w1) (hdg : decode cc pc = .ok (.lreturn, 1)) : W p l e R s m args below meth c H locs 0 0 (MQ below (Rl D wc v w1 s.heap.size) args s 0 0 (va_A wc s.heap.size)) (F0 m pc ls [.long v]) :=
  W.lret hx hb hr (fun t ht hW => ⟨⟨v, (), rfl, rfl, by rw [ht]; exact hP, hD⟩, hS.F ht⟩) hS.2.2 hdg hlocks
theorem z_vret {wc w1 : va_W} (hx : p.tables.exec = Jvm.exec) (hb : c.code = cc) (hr : meth.sig.returnType = none) (hlocks : meth.locks = false) (hS : va_S (va_A wc s.heap.size) s.heap H locs) (hP : va_P D vwCl w1 H) (hD : va_D (va_A wc s.heap.size) w1) (hdg : decode cc pc = .ok (.return_, 1)) : W p l e R s m args below meth c H locs 0 0 (MQ below (Rv D wc w1 s.heap.size) args s 0 0 (va_A wc s.heap.size)) (F0 m pc ls []) :=
  W.vret hx hb hr (fun t ht hW => ⟨⟨(), rfl, trivial, by rw [ht]; exact hP, hD⟩, hS.F ht⟩) hS.2.2 hdg hlocks
/-! branches -/
theorem z_if_eq {x : Int32} {off : Int} {tgt : Nat} {k1 k2 : Option α} (hx : p.tables.exec = Jvm.exec) (hb : c.code = cc) (hdg : decode cc pc = .ok (.ifCond .eq off, 3)) (ht : (pc : Int) + off = (tgt : Int)) (hf : (if x = 0 then k1 else k2) = some r)
    (kt : k1 = some r → W p l e R s m args below meth c H locs cells slots Q (F0 m tgt ls rest)) (kf : k2 = some r → W p l e R s m args below meth c H locs cells slots Q (F0 m (pc + 3) ls rest)) : W p l e R s m args below meth c H locs cells slots Q (F0 m pc ls (.int x :: rest)) :=
  lv_if_eq hx hb hdg ht (fun c => kt ((if_pos c).symm.trans hf)) (fun c => kf ((if_neg c).symm.trans hf))
theorem z_if_ne {x : Int32} {off : Int} {tgt : Nat} {k1 k2 : Option α} (hx : p.tables.exec = Jvm.exec) (hb : c.code = cc) (hdg : decode cc pc = .ok (.ifCond .ne off, 3)) (ht : (pc : Int) + off = (tgt : Int)) (hf : (if x = 0 then k2 else k1) = some r)
    (kt : k1 = some r → W p l e R s m args below meth c H locs cells slots Q (F0 m tgt ls rest)) (kf : k2 = some r → W p l e R s m args below meth c H locs cells slots Q (F0 m (pc + 3) ls rest)) : W p l e R s m args below meth c H locs cells slots Q (F0 m pc ls (.int x :: rest)) :=
  lv_if_ne hx hb hdg ht (fun c => kt ((if_neg c).symm.trans hf)) (fun c => kf ((if_pos c).symm.trans hf))
theorem z_if_lt {x : Int32} {off : Int} {tgt : Nat} {k1 k2 : Option α} (hx : p.tables.exec = Jvm.exec) (hb : c.code = cc) (hdg : decode cc pc = .ok (.ifCond .lt off, 3)) (ht : (pc : Int) + off = (tgt : Int)) (hf : (if x < 0 then k1 else k2) = some r)
    (kt : k1 = some r → W p l e R s m args below meth c H locs cells slots Q (F0 m tgt ls rest)) (kf : k2 = some r → W p l e R s m args below meth c H locs cells slots Q (F0 m (pc + 3) ls rest)) : W p l e R s m args below meth c H locs cells slots Q (F0 m pc ls (.int x :: rest)) :=
  lv_if_lt hx hb hdg ht (fun c => kt ((if_pos c).symm.trans hf)) (fun c => kf ((if_neg c).symm.trans hf))
theorem z_if_ge {x : Int32} {off : Int} {tgt : Nat} {k1 k2 : Option α} (hx : p.tables.exec = Jvm.exec) (hb : c.code = cc) (hdg : decode cc pc = .ok (.ifCond .ge off, 3)) (ht : (pc : Int) + off = (tgt : Int)) (hf : (if 0 ≤ x then k1 else k2) = some r)
    (kt : k1 = some r → W p l e R s m args below meth c H locs cells slots Q (F0 m tgt ls rest)) (kf : k2 = some r → W p l e R s m args below meth c H locs cells slots Q (F0 m (pc + 3) ls rest)) : W p l e R s m args below meth c H locs cells slots Q (F0 m pc ls (.int x :: rest)) :=
  lv_if_ge hx hb hdg ht (fun c => kt ((if_pos c).symm.trans hf)) (fun c => kf ((if_neg c).symm.trans hf))
theorem z_if_gt {x : Int32} {off : Int} {tgt : Nat} {k1 k2 : Option α} (hx : p.tables.exec = Jvm.exec) (hb : c.code = cc) (hdg : decode cc pc = .ok (.ifCond .gt off, 3)) (ht : (pc : Int) + off = (tgt : Int)) (hf : (if 0 < x then k1 else k2) = some r)
    (kt : k1 = some r → W p l e R s m args below meth c H locs cells slots Q (F0 m tgt ls rest)) (kf : k2 = some r → W p l e R s m args below meth c H locs cells slots Q (F0 m (pc + 3) ls rest)) : W p l e R s m args below meth c H locs cells slots Q (F0 m pc ls (.int x :: rest)) :=
  lv_if_gt hx hb hdg ht (fun c => kt ((if_pos c).symm.trans hf)) (fun c => kf ((if_neg c).symm.trans hf))
theorem z_if_le {x : Int32} {off : Int} {tgt : Nat} {k1 k2 : Option α} (hx : p.tables.exec = Jvm.exec) (hb : c.code = cc) (hdg : decode cc pc = .ok (.ifCond .le off, 3)) (ht : (pc : Int) + off = (tgt : Int)) (hf : (if x ≤ 0 then k1 else k2) = some r)
    (kt : k1 = some r → W p l e R s m args below meth c H locs cells slots Q (F0 m tgt ls rest)) (kf : k2 = some r → W p l e R s m args below meth c H locs cells slots Q (F0 m (pc + 3) ls rest)) : W p l e R s m args below meth c H locs cells slots Q (F0 m pc ls (.int x :: rest)) :=
  lv_if_le hx hb hdg ht (fun c => kt ((if_pos c).symm.trans hf)) (fun c => kf ((if_neg c).symm.trans hf))
theorem z_icmp_eq {x y : Int32} {off : Int} {tgt : Nat} {k1 k2 : Option α} (hx : p.tables.exec = Jvm.exec) (hb : c.code = cc) (hdg : decode cc pc = .ok (.if_icmp .eq off, 3)) (ht : (pc : Int) + off = (tgt : Int)) (hf : (if x = y then k1 else k2) = some r)
    (kt : k1 = some r → W p l e R s m args below meth c H locs cells slots Q (F0 m tgt ls rest)) (kf : k2 = some r → W p l e R s m args below meth c H locs cells slots Q (F0 m (pc + 3) ls rest)) : W p l e R s m args below meth c H locs cells slots Q (F0 m pc ls (.int y :: .int x :: rest)) :=
  lv_icmp_eq hx hb hdg ht (fun c => kt ((if_pos c).symm.trans hf)) (fun c => kf ((if_neg c).symm.trans hf))
theorem z_icmp_ne {x y : Int32} {off : Int} {tgt : Nat} {k1 k2 : Option α} (hx : p.tables.exec = Jvm.exec) (hb : c.code = cc) (hdg : decode cc pc = .ok (.if_icmp .ne off, 3)) (ht : (pc : Int) + off = (tgt : Int)) (hf : (if x = y then k2 else k1) = some r)
    (kt : k1 = some r → W p l e R s m args below meth c H locs cells slots Q (F0 m tgt ls rest)) (kf : k2 = some r → W p l e R s m args below meth c H locs cells slots Q (F0 m (pc + 3) ls rest)) : W p l e R s m args below meth c H locs cells slots Q (F0 m pc ls (.int y :: .int x :: rest)) :=
  lv_icmp_ne hx hb hdg ht (fun c => kt ((if_neg c).symm.trans hf)) (fun c => kf ((if_pos c).symm.trans hf))
theorem z_icmp_lt {x y : Int32} {off : Int} {tgt : Nat} {k1 k2 : Option α} (hx : p.tables.exec = Jvm.exec) (hb : c.code = cc) (hdg : decode cc pc = .ok (.if_icmp .lt off, 3)) (ht : (pc : Int) + off = (tgt : Int)) (hf : (if x < y then k1 else k2) = some r)
    (kt : k1 = some r → W p l e R s m args below meth c H locs cells slots Q (F0 m tgt ls rest)) (kf : k2 = some r → W p l e R s m args below meth c H locs cells slots Q (F0 m (pc + 3) ls rest)) : W p l e R s m args below meth c H locs cells slots Q (F0 m pc ls (.int y :: .int x :: rest)) :=
  lv_icmp_lt hx hb hdg ht (fun c => kt ((if_pos c).symm.trans hf)) (fun c => kf ((if_neg c).symm.trans hf))
theorem z_icmp_ge {x y : Int32} {off : Int} {tgt : Nat} {k1 k2 : Option α} (hx : p.tables.exec = Jvm.exec) (hb : c.code = cc) (hdg : decode cc pc = .ok (.if_icmp .ge off, 3)) (ht : (pc : Int) + off = (tgt : Int)) (hf : (if y ≤ x then k1 else k2) = some r)
    (kt : k1 = some r → W p l e R s m args below meth c H locs cells slots Q (F0 m tgt ls rest)) (kf : k2 = some r → W p l e R s m args below meth c H locs cells slots Q (F0 m (pc + 3) ls rest)) : W p l e R s m args below meth c H locs cells slots Q (F0 m pc ls (.int y :: .int x :: rest)) :=
  lv_icmp_ge hx hb hdg ht (fun c => kt ((if_pos c).symm.trans hf)) (fun c => kf ((if_neg c).symm.trans hf))
theorem z_icmp_gt {x y : Int32} {off : Int} {tgt : Nat} {k1 k2 : Option α} (hx : p.tables.exec = Jvm.exec) (hb : c.code = cc) (hdg : decode cc pc = .ok (.if_icmp .gt off, 3)) (ht : (pc : Int) + off = (tgt : Int)) (hf : (if y < x then k1 else k2) = some r)
    (kt : k1 = some r → W p l e R s m args below meth c H locs cells slots Q (F0 m tgt ls rest)) (kf : k2 = some r → W p l e R s m args below meth c H locs cells slots Q (F0 m (pc + 3) ls rest)) : W p l e R s m args below meth c H locs cells slots Q (F0 m pc ls (.int y :: .int x :: rest)) :=
  lv_icmp_gt hx hb hdg ht (fun c => kt ((if_pos c).symm.trans hf)) (fun c => kf ((if_neg c).symm.trans hf))
theorem z_icmp_le {x y : Int32} {off : Int} {tgt : Nat} {k1 k2 : Option α} (hx : p.tables.exec = Jvm.exec) (hb : c.code = cc) (hdg : decode cc pc = .ok (.if_icmp .le off, 3)) (ht : (pc : Int) + off = (tgt : Int)) (hf : (if x ≤ y then k1 else k2) = some r)
    (kt : k1 = some r → W p l e R s m args below meth c H locs cells slots Q (F0 m tgt ls rest)) (kf : k2 = some r → W p l e R s m args below meth c H locs cells slots Q (F0 m (pc + 3) ls rest)) : W p l e R s m args below meth c H locs cells slots Q (F0 m pc ls (.int y :: .int x :: rest)) :=
  lv_icmp_le hx hb hdg ht (fun c => kt ((if_pos c).symm.trans hf)) (fun c => kf ((if_neg c).symm.trans hf))
/-! arrays, fields, numbers with a name -/
theorem z_iald (hx : p.tables.exec = Jvm.exec) (hb : c.code = cc) (hK : KK D cI s) (hP : va_P D vwCl ws H) (q0 : Nat) {n a : Nat} {f : Nat → Int32} (ha : ws[q0]? = some (a, .inl (cI, n, .inl f))) {i : Int32} {k : Int32 → Option α} (hdg : decode cc pc = .ok (.iaload, 1)) (hf : rd f n i k = some r)
    (kk : ∀ x : Int32, k x = some r → W p l e R s m args below meth c H locs cells slots Q (F0 m (pc + 1) ls (.int x :: rest))) : W p l e R s m args below meth c H locs cells slots Q (F0 m pc ls (.int i :: .ref a :: rest)) := by
  obtain ⟨h1, h2⟩ := rd_some hf
  exact va_iald hx hb hK.1 hP q0 0 ha rfl h1 hdg (kk _ h2)
theorem z_iast (hx : p.tables.exec = Jvm.exec) (hb : c.code = cc) (hK : KK D cI s) (hP : va_P D vwCl ws H) (hD : va_D A ws) (hS : va_S A H0 H locs) (q0 : Nat) {n a : Nat} {f : Nat → Int32} (ha : ws[q0]? = some (a, .inl (cI, n, .inl f))) {i x : Int32} {k : (Nat → Int32) → Option α} (w1 : (Nat → Int32) → va_W) (hw : ∀ z, ws.set q0 (a, .inl (cI, n, .inl z)) = w1 z) (hdg : decode cc pc = .ok (.iastore, 1)) (hf : wr f n i x k = some r)
    (kk : ∀ (z : Nat → Int32) (H1 : Heap) (locs1 : List Loc), k z = some r → va_P D vwCl (w1 z) H1 → va_D A (w1 z) → va_S A H0 H1 locs1 → W p l e R s m args below meth c H1 locs1 cells slots Q (F0 m (pc + 1) ls rest)) : W p l e R s m args below meth c H locs cells slots Q (F0 m pc ls (.int x :: .int i :: .ref a :: rest)) := by
  obtain ⟨h1, h2⟩ := wr_some hf
  exact va_iast hx hb hK.1 hP hD hS q0 0 ha rfl h1 hdg (fun H1 locs1 a1 a2 a3 => kk _ H1 locs1 h2 (by rw [← hw]; exact a1) (by rw [← hw]; exact a2) a3)
theorem z_istore_n {k0 : Fin 4} {i nL : Nat} {x : Int32} {lv : List (Nat × Value)} (lv' : Int32 → List (Nat × Value)) {k : Int32 → Option α} (hx : p.tables.exec = Jvm.exec) (hb : c.code = cc) (hdg : decode cc pc = .ok (.istore_n k0, 1)) (hi : (k0 : Nat) = i) (h : lv_has ls nL lv) (hn : i < nL) (hl : ∀ z, (i, Value.int z) :: lv.filter (fun q => !(q.1 == i) && !(q.1 + 1 == i && q.2.category == 2)) = lv' z) (hf : nm x k = some r)
    (kk : ∀ (z : Int32) (ls' : Array Slot), k z = some r → lv_has ls' nL (lv' z) → W p l e R s m args below meth c H locs cells slots Q (F0 m (pc + 1) ls' rest)) : W p l e R s m args below meth c H locs cells slots Q (F0 m pc ls (.int x :: rest)) :=
  lv_istore_n hx hb hdg hi h hn (hl x) (fun ls' h' => kk x ls' hf h')
theorem z_istore {i nL : Nat} {x : Int32} {lv : List (Nat × Value)} (lv' : Int32 → List (Nat × Value)) {k : Int32 → Option α} (hx : p.tables.exec = Jvm.exec) (hb : c.code = cc) (hdg : decode cc pc = .ok (.istore i, 2)) (h : lv_has ls nL lv) (hn : i < nL) (hl : ∀ z, (i, Value.int z) :: lv.filter (fun q => !(q.1 == i) && !(q.1 + 1 == i && q.2.category == 2)) = lv' z) (hf : nm x k = some r)
    (kk : ∀ (z : Int32) (ls' : Array Slot), k z = some r → lv_has ls' nL (lv' z) → W p l e R s m args below meth c H locs cells slots Q (F0 m (pc + 2) ls' rest)) : W p l e R s m args below meth c H locs cells slots Q (F0 m pc ls (.int x :: rest)) :=
  lv_istore hx hb hdg h hn (hl x) (fun ls' h' => kk x ls' hf h')
theorem z_iinc {i nL k0 : Nat} {n : Int} {x d : Int32} {lv : List (Nat × Value)} (lv' : Int32 → List (Nat × Value)) {k : Int32 → Option α} (hx : p.tables.exec = Jvm.exec) (hb : c.code = cc) (hdg : decode cc pc = .ok (.iinc i n, 3)) (h : lv_has ls nL lv) (hk : lv[k0]? = some (i, .int x)) (hd : Int32.ofInt n = d) (hn : i < nL) (hl : ∀ z, (i, Value.int z) :: lv.filter (fun q => !(q.1 == i) && !(q.1 + 1 == i && q.2.category == 2)) = lv' z) (hf : nm (x + d) k = some r)
    (kk : ∀ (z : Int32) (ls' : Array Slot), k z = some r → lv_has ls' nL (lv' z) → W p l e R s m args below meth c H locs cells slots Q (F0 m (pc + 3) ls' rest)) : W p l e R s m args below meth c H locs cells slots Q (F0 m pc ls rest) :=
  lv_iinc (v := x + d) hx hb hdg h hk (by rw [hd]) hn (hl _) (fun ls' h' => kk _ ls' hf h')
theorem z_lstore_n {k0 : Fin 4} {i nL : Nat} {x : Int64} {lv : List (Nat × Value)} (lv' : Int64 → List (Nat × Value)) {k : Int64 → Option α} (hx : p.tables.exec = Jvm.exec) (hb : c.code = cc) (hdg : decode cc pc = .ok (.lstore_n k0, 1)) (hi : (k0 : Nat) = i) (h : lv_has ls nL lv) (hn : i + 1 < nL) (hl : ∀ z, (i, Value.long z) :: lv.filter (fun q => !(q.1 == i) && (!(q.1 == i + 1) && !(q.1 + 1 == i && q.2.category == 2))) = lv' z) (hf : nm x k = some r)
    (kk : ∀ (z : Int64) (ls' : Array Slot), k z = some r → lv_has ls' nL (lv' z) → W p l e R s m args below meth c H locs cells slots Q (F0 m (pc + 1) ls' rest)) : W p l e R s m args below meth c H locs cells slots Q (F0 m pc ls (.long x :: rest)) :=
  lv_lstore_n hx hb hdg hi h hn (hl x) (fun ls' h' => kk x ls' hf h')
theorem z_lstore {i nL : Nat} {x : Int64} {lv : List (Nat × Value)} (lv' : Int64 → List (Nat × Value)) {k : Int64 → Option α} (hx : p.tables.exec = Jvm.exec) (hb : c.code = cc) (hdg : decode cc pc = .ok (.lstore i, 2)) (h : lv_has ls nL lv) (hn : i + 1 < nL) (hl : ∀ z, (i, Value.long z) :: lv.filter (fun q => !(q.1 == i) && (!(q.1 == i + 1) && !(q.1 + 1 == i && q.2.category == 2))) = lv' z) (hf : nm x k = some r)
    (kk : ∀ (z : Int64) (ls' : Array Slot), k z = some r → lv_has ls' nL (lv' z) → W p l e R s m args below meth c H locs cells slots Q (F0 m (pc + 2) ls' rest)) : W p l e R s m args below meth c H locs cells slots Q (F0 m pc ls (.long x :: rest)) :=
  lv_lstore hx hb hdg h hn (hl x) (fun ls' h' => kk x ls' hf h')
theorem z_idiv {x y : Int32} {k : Option α} (hx : p.tables.exec = Jvm.exec) (hb : c.code = cc) (hdg : decode cc pc = .ok (.idiv, 1)) (hf : dz y k = some r) (kk : k = some r → W p l e R s m args below meth c H locs cells slots Q (F0 m (pc + 1) ls (.int (x / y) :: rest))) : W p l e R s m args below meth c H locs cells slots Q (F0 m pc ls (.int y :: .int x :: rest)) :=
  lv_idiv hx hb hdg (dz_some hf).1 (kk (dz_some hf).2)
theorem z_irem {x y : Int32} {k : Option α} (hx : p.tables.exec = Jvm.exec) (hb : c.code = cc) (hdg : decode cc pc = .ok (.irem, 1)) (hf : dz y k = some r) (kk : k = some r → W p l e R s m args below meth c H locs cells slots Q (F0 m (pc + 1) ls (.int (x - x / y * y) :: rest))) : W p l e R s m args below meth c H locs cells slots Q (F0 m pc ls (.int y :: .int x :: rest)) :=
  lv_irem hx hb hdg (dz_some hf).1 (kk (dz_some hf).2)
/-- an int field of an object: read -/
theorem z_get {own C : String} {T : u_T} {N ci index : Nat} (hx : p.tables.exec = Jvm.exec) (hb : c.code = cc) (hts : ∀ w ∈ TB, w.before args s = true) (hin : ∀ w ∈ u_ws C T N, w ∈ TB) (hown : s.vm.findClass own = some m.cls) (hK : KK D cI s) (hP : va_P D vwCl ws H) (q0 : Nat) {a : Nat} {fs : List Value} (he : ws[q0]? = some (a, .inr (ci, fs))) (hc : vwCl[ci]? = some (C, T, N)) (k : Nat) (hk : k < N) (hlink : Cond.fieldLink own index (T k).1 (T k).2.1 (T k).2.2.1 ∈ TB) {v : Value} (hv : fs[k]? = some v) (hdg : decode cc pc = .ok (.getfield index, 3))
    (kk : W p l e R s m args below meth c H locs cells slots Q (F0 m (pc + 3) ls (v :: rest))) : W p l e R s m args below meth c H locs cells slots Q (F0 m pc ls (.ref a :: rest)) :=
  va_get hx hb hts hin hown hK.1 hP q0 he hc k hk (hts _ hlink) (fun _ h9 => h9) hv hdg kk
theorem z_put {own C : String} {T : u_T} {N ci index : Nat} (hx : p.tables.exec = Jvm.exec) (hb : c.code = cc) (hts : ∀ w ∈ TB, w.before args s = true) (hin : ∀ w ∈ u_ws C T N, w ∈ TB) (ty0 : Nat → FieldType) (hty : ∀ k, k < N → parseFieldDescriptor (T k).2.2.1 = some (ty0 k)) (hnm : ∀ a, a < N → ∀ b, b < N → a ≠ b → (T a).2.1 ≠ (T b).2.1) (hown : s.vm.findClass own = some m.cls) (hK : KK D cI s) (hP : va_P D vwCl ws H) (hD : va_D A ws) (hS : va_S A H0 H locs) (q0 : Nat) {a : Nat} {fs : List Value} (he : ws[q0]? = some (a, .inr (ci, fs))) (hc : vwCl[ci]? = some (C, T, N)) (k : Nat) (hk : k < N) (hlink : Cond.fieldLink own index (T k).1 (T k).2.1 (T k).2.2.1 ∈ TB) (hfin : (T k).2.2.2 = false) {x : Int32} (hd : parseFieldDescriptor (T k).2.2.1 = some .int) (hl : k < fs.length) {F : Nat → Int32} (o : (Nat → Int32) → List Value) (hset : fs.set k (.int x) = o (upd F k x)) (w1 : (Nat → Int32) → va_W) (hw : ∀ z, ws.set q0 (a, .inr (ci, o z)) = w1 z) {kf : (Nat → Int32) → Option α} (hdg : decode cc pc = .ok (.putfield index, 3)) (hf : nm (upd F k x) kf = some r)
    (kk : ∀ (z : Nat → Int32) (H1 : Heap) (locs1 : List Loc), kf z = some r → va_P D vwCl (w1 z) H1 → va_D A (w1 z) → va_S A H0 H1 locs1 → W p l e R s m args below meth c H1 locs1 cells slots Q (F0 m (pc + 3) ls rest)) : W p l e R s m args below meth c H locs cells slots Q (F0 m pc ls (.int x :: .ref a :: rest)) :=
  va_put (v := .int x) (ty := .int) hx hb hts hin ty0 hty hnm hown hK.1 hP hD hS q0 he hc k hk (hts _ hlink) (fun _ h9 => h9) hfin hd rfl rfl hl hdg (fun H1 locs1 a1 a2 a3 => kk _ H1 locs1 hf (by rw [← hw, ← hset]; exact a1) (by rw [← hw, ← hset]; exact a2) a3)
theorem z_putb {own C : String} {T : u_T} {N ci index : Nat} (hx : p.tables.exec = Jvm.exec) (hb : c.code = cc) (hts : ∀ w ∈ TB, w.before args s = true) (hin : ∀ w ∈ u_ws C T N, w ∈ TB) (ty0 : Nat → FieldType) (hty : ∀ k, k < N → parseFieldDescriptor (T k).2.2.1 = some (ty0 k)) (hnm : ∀ a, a < N → ∀ b, b < N → a ≠ b → (T a).2.1 ≠ (T b).2.1) (hown : s.vm.findClass own = some m.cls) (hK : KK D cI s) (hP : va_P D vwCl ws H) (hD : va_D A ws) (hS : va_S A H0 H locs) (q0 : Nat) {a : Nat} {fs : List Value} (he : ws[q0]? = some (a, .inr (ci, fs))) (hc : vwCl[ci]? = some (C, T, N)) (k : Nat) (hk : k < N) (hlink : Cond.fieldLink own index (T k).1 (T k).2.1 (T k).2.2.1 ∈ TB) (hfin : (T k).2.2.2 = false) {x : Int32} (hd : parseFieldDescriptor (T k).2.2.1 = some .boolean) (hl : k < fs.length) {F : Nat → Int32} (o : (Nat → Int32) → List Value) (hset : fs.set k (.int x) = o (upd F k x)) (w1 : (Nat → Int32) → va_W) (hw : ∀ z, ws.set q0 (a, .inr (ci, o z)) = w1 z) {kf : (Nat → Int32) → Option α} (hdg : decode cc pc = .ok (.putfield index, 3)) (hf : cb x (nm (upd F k x) kf) = some r)
    (kk : ∀ (z : Nat → Int32) (H1 : Heap) (locs1 : List Loc), kf z = some r → va_P D vwCl (w1 z) H1 → va_D A (w1 z) → va_S A H0 H1 locs1 → W p l e R s m args below meth c H1 locs1 cells slots Q (F0 m (pc + 3) ls rest)) : W p l e R s m args below meth c H locs cells slots Q (F0 m pc ls (.int x :: .ref a :: rest)) := by
  obtain ⟨h01, hf⟩ := cb_some hf
  exact va_put (v := .int x) (ty := .boolean) hx hb hts hin ty0 hty hnm hown hK.1 hP hD hS q0 he hc k hk (hts _ hlink) (fun _ h9 => h9) hfin hd (by rcases h01 with rfl | rfl <;> rfl) (by rcases h01 with rfl | rfl <;> rfl) hl hdg (fun H1 locs1 a1 a2 a3 => kk _ H1 locs1 hf (by rw [← hw, ← hset]; exact a1) (by rw [← hw, ← hset]; exact a2) a3)
/-! copies, tables, switches, static arrays -/
theorem z_copy {own : String} {index : Nat} (hx : p.tables.exec = Jvm.exec) (hb : c.code = cc) (hml : c.maxLocals = ls.size) (hown : s.vm.findClass own = some m.cls) (hts : ∀ w ∈ TB, w.before args s = true) (hlink : Cond.methodLink own index arraycopyName ∈ TB) (hnat : Cond.native arraycopyName ∈ TB) (hstat : Cond.static arraycopyName ∈ TB) (hini : Cond.initialized "java/lang/System" ∈ TB)
    (hK : KK D cI s) (hP : va_P D vwCl ws H) (hD : va_D A ws) (hS : va_S A H0 H locs) (q0 q1 : Nat) {a0 a1 n0 n1 : Nat} {f g : Nat → Int32} (ha0 : ws[q0]? = some (a0, .inl (cI, n0, .inl f))) (ha1 : ws[q1]? = some (a1, .inl (cI, n1, .inl g))) {sp dp n : Int32} {k : (Nat → Int32) → Option α} (w1 : (Nat → Int32) → va_W) (hw : ∀ z, ws.set q1 (a1, .inl (cI, n1, .inl z)) = w1 z)
    (hframes : 1 ≤ R.frames) (hlocals : (rest.map fun v => v.category).sum + (nativeFrameWords "java/lang/System" "arraycopy" 5 + 11) ≤ R.locals) (hdg : decode cc pc = .ok (.invokestatic index, 3)) (hf : cp f g n0 n1 sp dp n k = some r)
    (kk : ∀ (z : Nat → Int32) (H1 : Heap) (locs1 : List Loc), k z = some r → va_P D vwCl (w1 z) H1 → va_D A (w1 z) → va_S A H0 H1 locs1 → W p l e R s m args below meth c H1 locs1 cells slots Q (F0 m (pc + 3) ls rest)) : W p l e R s m args below meth c H locs cells slots Q (F0 m pc ls (.int n :: .int dp :: .ref a1 :: .int sp :: .ref a0 :: rest)) := by
  obtain ⟨h1, h2, h3, h4, h5, hf⟩ := cp_some hf
  exact va_copyi (ty := .int) hx hb hml hown (hts _ hlink) (hts _ hnat) (hts _ hstat) (hts _ hini) hK.1 hP hD hS q0 q1 0 0 ha0 ha1 rfl rfl rfl h1 h2 h3 h4 h5 (fun _ _ => rfl) hframes hlocals hdg (fun H1 locs1 a1 a2 a3 => kk _ H1 locs1 hf (by rw [← hw]; exact a1) (by rw [← hw]; exact a2) a3)
theorem z_tabin {dflt lo hi : Int} {offs : Array Int} {len : Nat} {x v : Int32} {off : Int} {tgt : Nat} {k1 k2 : Option α} (hx : p.tables.exec = Jvm.exec) (hb : c.code = cc) (hdg : decode cc pc = .ok (.tableswitch dflt lo hi offs, len)) (h1 : ¬ v.toInt < lo) (h2 : ¬ hi < v.toInt) (ho : offs[(v.toInt - lo).toNat]? = some off) (ht : (pc : Int) + off = (tgt : Int)) (hf : (if x = v then k1 else k2) = some r)
    (kt : k1 = some r → W p l e R s m args below meth c H locs cells slots Q (F0 m tgt ls rest)) (kf : ¬ x = v → k2 = some r → W p l e R s m args below meth c H locs cells slots Q (F0 m pc ls (.int x :: rest))) : W p l e R s m args below meth c H locs cells slots Q (F0 m pc ls (.int x :: rest)) := by
  by_cases h : x = v
  · rw [if_pos h] at hf
    subst h
    exact lv_tableIn hx hb hdg h1 h2 ho ht (kt hf)
  · rw [if_neg h] at hf
    exact kf h hf
theorem z_tabout {dflt lo hi : Int} {offs : Array Int} {len : Nat} {x : Int32} {tgt : Nat} (hx : p.tables.exec = Jvm.exec) (hb : c.code = cc) (hdg : decode cc pc = .ok (.tableswitch dflt lo hi offs, len)) (h : ∀ i : Int, lo ≤ i → i ≤ hi → ¬ x = Int32.ofInt i) (ht : (pc : Int) + dflt = (tgt : Int))
    (k : W p l e R s m args below meth c H locs cells slots Q (F0 m tgt ls rest)) : W p l e R s m args below meth c H locs cells slots Q (F0 m pc ls (.int x :: rest)) := by
  refine lv_tableOut hx hb hdg ?_ ht k
  by_cases h1 : x.toInt < lo
  · exact Or.inl h1
  · by_cases h2 : hi < x.toInt
    · exact Or.inr h2
    · exact absurd (Int32.ofInt_toInt x).symm (h x.toInt (by omega) (by omega))
theorem z_gets {C n d own : String} {t index : Nat} (hx : p.tables.exec = Jvm.exec) (hb : c.code = cc) (hts : ∀ w ∈ TB, w.before args s = true) (hZ : va_Z C n d (.ref t) A s s.heap) (hS : va_S A s.heap H locs) (hown : s.vm.findClass own = some m.cls) (hlink : Cond.fieldLink own index C n d ∈ TB) (hdg : decode cc pc = .ok (.getstatic index, 3))
    (kk : W p l e R s m args below meth c H locs cells slots Q (F0 m (pc + 3) ls (.ref t :: rest))) : W p l e R s m args below meth c H locs cells slots Q (F0 m pc ls rest) := va_gets hx hb hZ hS hown (hts _ hlink) (fun _ h => h) hdg kk
theorem z_getsN {C n d own host : String} {t index : Nat} (hx : p.tables.exec = Jvm.exec) (hb : c.code = cc) (hK : KK D cI s) (hZ : va_Z C n d (.ref t) A s s.heap) (hS : va_S A s.heap H locs) (hown : s.vm.findClass own = some m.cls) (hlink : Cond.fieldLinkNest own index C n d host ∈ NST) (hdg : decode cc pc = .ok (.getstatic index, 3))
    (kk : W p l e R s m args below meth c H locs cells slots Q (F0 m (pc + 3) ls (.ref t :: rest))) : W p l e R s m args below meth c H locs cells slots Q (F0 m pc ls rest) := va_getsN hx hb hZ hS hown (va_Nw.use rfl (hK.2.1 _ hlink)) (fun _ h => h) hdg kk
theorem z_tald {t N : Nat} {K : Nat → Int32} {i : Int32} {k : Int32 → Option α} (hx : p.tables.exec = Jvm.exec) (hb : c.code = cc) (hT : va_T .int t N (fun j => .int (K j)) A s s.heap) (hS : va_S A s.heap H locs) (hdg : decode cc pc = .ok (.iaload, 1)) (hf : rd K N i k = some r)
    (kk : ∀ x : Int32, k x = some r → W p l e R s m args below meth c H locs cells slots Q (F0 m (pc + 1) ls (.int x :: rest))) : W p l e R s m args below meth c H locs cells slots Q (F0 m pc ls (.int i :: .ref t :: rest)) := by
  obtain ⟨h1, h2⟩ := rd_some hf
  exact va_ti hx hb hT hS h1 rfl hdg (kk _ h2)
theorem z_tbld {t N : Nat} {K : Nat → Int32} {i : Int32} {k : Int32 → Option α} (hx : p.tables.exec = Jvm.exec) (hb : c.code = cc) (hT : va_T .byte t N (fun j => .int (K j)) A s s.heap) (hS : va_S A s.heap H locs) (hdg : decode cc pc = .ok (.baload, 1)) (hf : rd K N i k = some r)
    (kk : ∀ x : Int32, k x = some r → W p l e R s m args below meth c H locs cells slots Q (F0 m (pc + 1) ls (.int x :: rest))) : W p l e R s m args below meth c H locs cells slots Q (F0 m pc ls (.int i :: .ref t :: rest)) := by
  obtain ⟨h1, h2⟩ := rd_some hf
  exact va_tb hx hb hT hS h1 rfl hdg (kk _ h2)
theorem z_max {own : String} {index : Nat} {x y : Int32} (hx : p.tables.exec = Jvm.exec) (hb : c.code = cc) (hml : c.maxLocals = ls.size) (hown : s.vm.findClass own = some m.cls) (hts : ∀ w ∈ TB, w.before args s = true) (hlink : Cond.methodLink own index Lib.Math.max.name ∈ TB) (hstat : Cond.static Lib.Math.max.name ∈ TB) (hini : Cond.initialized "java/lang/Math" ∈ TB) (hcode : Cond.code Lib.Math.max.name Lib.Math.max.code 2 (some .int) ∈ TB) (hframes : 1 ≤ R.frames) (hlocals : (rest.map fun v => v.category).sum + 13 ≤ R.locals) (hc : cells ≤ R.cells ∧ slots ≤ R.slots) (hdg : decode cc pc = .ok (.invokestatic index, 3))
    (kk : W p l e R s m args below meth c H locs cells slots Q (F0 m (pc + 3) ls (.int (if x < y then y else x) :: rest))) : W p l e R s m args below meth c H locs cells slots Q (F0 m pc ls (.int y :: .int x :: rest)) := va_mmax hx hb hml hown (hts _ hlink) (hts _ hstat) (hts _ hini) (hts _ hcode) hframes hlocals hc.1 hc.2 hdg kk
theorem z_min {own : String} {index : Nat} {x y : Int32} (hx : p.tables.exec = Jvm.exec) (hb : c.code = cc) (hml : c.maxLocals = ls.size) (hown : s.vm.findClass own = some m.cls) (hts : ∀ w ∈ TB, w.before args s = true) (hlink : Cond.methodLink own index Lib.Math.min.name ∈ TB) (hstat : Cond.static Lib.Math.min.name ∈ TB) (hini : Cond.initialized "java/lang/Math" ∈ TB) (hcode : Cond.code Lib.Math.min.name Lib.Math.min.code 2 (some .int) ∈ TB) (hframes : 1 ≤ R.frames) (hlocals : (rest.map fun v => v.category).sum + 13 ≤ R.locals) (hc : cells ≤ R.cells ∧ slots ≤ R.slots) (hdg : decode cc pc = .ok (.invokestatic index, 3))
    (kk : W p l e R s m args below meth c H locs cells slots Q (F0 m (pc + 3) ls (.int (if y < x then y else x) :: rest))) : W p l e R s m args below meth c H locs cells slots Q (F0 m pc ls (.int y :: .int x :: rest)) := va_mmin hx hb hml hown (hts _ hlink) (hts _ hstat) (hts _ hini) (hts _ hcode) hframes hlocals hc.1 hc.2 hdg kk
/-! calls -/
theorem z_back {wc wr w1 ws1 : va_W} {t : State} {H1 : Heap} (hP : va_P D vwCl ws H) (hD : va_D A ws) (isC isR perm : List Nat) (hC : isC.map (fun i => ws[i]?) = wc.map some) (hR : isR.map (fun i => ws[i]?) = wr.map some) (hn : va_nd isR = true) (hdis : ∀ i ∈ isR, i ∉ isC) (hpm : perm.map (fun i => (wr ++ w1)[i]?) = ws1.map some) (hpn : va_nd perm = true)
    (hk : ∀ q : Nat, q < H.size → ¬ va_A wc H.size q → H1[q]? = H[q]?) (hF : ∀ q, va_A wc H.size q → A q) (ht : t.heap = H1) (hB : va_P D vwCl w1 t.heap ∧ va_D (va_A wc H.size) w1) : va_P D vwCl ws1 H1 ∧ va_D A ws1 := by
  obtain ⟨h1, h2⟩ := va_join hP hD isC isR hC hR hn hdis hk hF (by rw [← ht]; exact hB.1) hB.2
  refine ⟨h1.sub perm ?_, h2.sub perm hpn hpm⟩
  have e := congrArg (List.filterMap id) hpm
  rw [List.filterMap_map, List.filterMap_map] at e
  simpa [Function.comp_def] using e
theorem z_pre {As : List Value} {wc : va_W} (hP : va_P D vwCl ws H) (hD : va_D A ws) (hK : KK D cI s) (hX : SX D A s) (hS : va_S A s.heap H locs) (hA : ∀ q : Nat, s.heap.size ≤ q → A q) (isC : List Nat) (hnc : va_nd isC = true) (hC : isC.map (fun i => ws[i]?) = wc.map some) : ∀ U : State, U.heap = H → s.WarmedH U.vm → Pz D cI As wc H.size As.toArray U := by
  intro U hU hW
  have e := congrArg (List.filterMap id) hC
  rw [List.filterMap_map, List.filterMap_map] at e
  refine ⟨rfl, by rw [hU], ?_, hK.warm hW, hX.call hS (va_free hD hS hA isC hC) hU hW, (hD.sub isC hnc hC).weaken (fun _ _ _ _ => trivial)⟩
  rw [hU]
  exact hP.sub isC (by simpa [Function.comp_def] using e)
end ZR
