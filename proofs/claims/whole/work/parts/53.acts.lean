/-! ===== int answers of methods that may keep an act: the world may grow ===== -/
def Rin {σ : Type} (D : va_G) (wc : va_W) (v : Int32) (w1 : σ → va_W) (sz : Nat) : Array Value → State → Outcome → State → Prop := va_Qi (fun (r : Int32) (_ : σ) => r = v) (fun u t => va_P D vwCl (w1 u) t.heap ∧ va_D (va_A wc sz) (w1 u)) (va_A wc sz)
def CTin {σ : Type} (l : Launch) (y : MethodName) (cy : Cond) (rm : Room) (D : va_G) (cI : ClassId) (As : List Value) (wc : va_W) (v : Int32) (w1 : σ → va_W) (mc ms : Nat) : Prop := ∀ sz : Nat, Met l y (cy :: TB) rm (Pz D cI As wc sz) (Rin D wc v w1 sz) mc ms (va_A wc sz)
theorem z_begin_in {l : Launch} {y : MethodName} {cc : ByteArray} {maxL : Nat} {rm : Room} {D : va_G} {cI : ClassId} {As : List Value} {wc : va_W} {own : String} {ρ σ : Type} {Rr : ρ} (w1 : ρ → σ → va_W) (vf : ρ → Int32) (mc ms : Nat) (hy : plainName y.cls = true) (ho : y.cls = own) (hn : (lg_sl As).length ≤ maxL)
    (body : ∀ (p : Program) (e : Env) (s : State) (m : MethodId) (args : Array Value) (below : List Frame) (meth : Method) (c : Code) (ls : Array Slot) (Q : State → Prop) (A : Nat → Prop), p.tables.exec = Jvm.exec → c.code = cc → c.maxLocals = maxL → (∀ w ∈ TB, w.before args s = true) → (∀ w ∈ (Cond.code y cc maxL (some .int) :: TB), w.before args s = true) → s.vm.findClass own = some m.cls → KK D cI s → SX D A s → (∀ q : Nat, s.heap.size ≤ q → A q) → va_P D vwCl wc s.heap → va_D A wc → va_S A s.heap s.heap [] → lv_has ls maxL (lv_args 0 As) →
      (∀ (u : ρ) (v : σ) (H : Heap) (locs : List Loc) (ls : Array Slot) (pc k n : Nat), k ≤ mc → n ≤ ms → some u = some Rr → va_P D vwCl (w1 u v) H → va_D A (w1 u v) → va_S A s.heap H locs → decode cc pc = .ok (.ireturn, 1) → W p l e rm s m args below meth c H locs k n Q (F0 m pc ls [.int (vf u)])) →
      W p l e rm s m args below meth c s.heap [] 0 0 Q (F0 m 0 ls [])) : CTin l y (Cond.code y cc maxL (some .int)) rm D cI As wc (vf Rr) (w1 Rr) mc ms := by
  refine z_beginM (Qc := fun sz => Rin D wc (vf Rr) (w1 Rr) sz) mc ms hy ho hn ?_
  intro p e s m args below meth c ls A hx hb hr hlocks hml hts hcx hown hK hX hA hAe hP hD hS hl
  refine body p e s m args below meth c ls _ A hx hb hml hts hcx hown hK hX hA hP hD hS hl ?_
  intro u v H locs ls pc k n hk hn hu hP hD hS hdg
  obtain rfl := Option.some.inj hu
  subst hAe
  refine W.widen hk hn ?_
  exact W.iret hx hb hr (fun t ht hW => ⟨⟨vf u, v, rfl, rfl, by rw [ht]; exact hP, hD⟩, hS.F ht⟩) hS.2.2 hdg hlocks
theorem perm_idxT {α : Type} {S A B tl : List α} (idx : List Nat) (n : Nat) (hn : S.length = n) (h : idx.isPerm (List.range n) = true) (hm : idx.map (fun i => S[i]?) = (A ++ B).map some) : (S ++ tl).Perm (A ++ (B ++ tl)) := by
  subst hn
  have h1 := (perm_idx idx h hm).append_right tl
  rwa [List.append_assoc] at h1
theorem perm_idxK {α : Type} {S A B C tl : List α} (idx : List Nat) (n : Nat) (hn : S.length = n) (h : idx.isPerm (List.range n) = true) (hm : idx.map (fun i => S[i]?) = ((A ++ B) ++ C).map some) : (S ++ tl).Perm ((A ++ (B ++ tl)) ++ C) := by
  subst hn
  refine ((perm_idx idx h hm).append_right tl).trans ?_
  exact pm_of (fun d x => by simp only [List.count_append]; omega)
