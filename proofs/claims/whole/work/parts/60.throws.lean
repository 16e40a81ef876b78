/-! ===== catching: the rows of a method's table that are passed, and the one that takes ===== -/
section ZX1
theorem zx_link {Q : Handler → Pre} {E : CtlPost} {e : Env} {d : Bool} {acts : List Action} {s : State} {f : JFrame} {a : Addr} {x : ExceptionTableEntry} {t : List ExceptionTableEntry} {c : ClassId} {cell : Cell} (hx : covers x f.pc = true) (h0 : x.catchType ≠ 0) (hl : s.vm.ClassLinks e.platform f.method.cls x.catchType c) (hcell : s.heap[a]? = some cell) (hobj : ∀ k, cell.vm ≠ .statics k) (hk : ∃ k, s.vm.classes[cell.cls]? = some k) (hc : ∃ k, s.vm.classes[c]? = some k) :
    wp (findHandler.go f a (x :: t)) Q E e d acts s ↔ if s.vm.assignable cell.cls c = true then Q (.found x.handlerPc) d acts (s.setVm (s.vm.noted f.method.cls x.catchType (.cls c))) else wp (findHandler.go f a t) Q E e d acts (s.setVm (s.vm.noted f.method.cls x.catchType (.cls c))) := by
  simp only [covers] at hx
  obtain ⟨ha, ht⟩ := (resolveClass_links e.toSetting hl).op (op := VmOp.resolveClass f.method.cls x.catchType) rfl
  have hal : s.vm.Alike (s.vm.noted f.method.cls x.catchType (.cls c)) := (Vm.Alike.refl s.vm).noted _ _ _
  obtain ⟨k1, hk1⟩ := hk
  obtain ⟨k2, hk2⟩ := hc
  obtain ⟨k1', hk1', -⟩ := hal.2.2 _ _ hk1
  obtain ⟨k2', hk2', -⟩ := hal.2.2 _ _ hk2
  cases hfit : s.vm.assignable cell.cls c
  · have hfit' : (s.vm.noted f.method.cls x.catchType (.cls c)).assignable cell.cls c = false := by rw [hal.assignable]; exact hfit
    simp [findHandler.go, hx, h0, ha, ht, hcell, hobj, hk1', hk2', hfit', VmOp.dirties, VmOp.acts]
  · have hfit' : (s.vm.noted f.method.cls x.catchType (.cls c)).assignable cell.cls c = true := by rw [hal.assignable]; exact hfit
    simp [findHandler.go, hx, h0, ha, ht, hcell, hobj, hk1', hk2', hfit', VmOp.dirties, VmOp.acts]
theorem zx_go {e : Env} {s₀ : State} {f : JFrame} {a : Addr} {cell : Cell} (hobj : ∀ k, cell.vm ≠ .statics k) (hk0 : ∃ k, s₀.vm.classes[cell.cls]? = some k) (x : ExceptionTableEntry) (suf : List ExceptionTableEntry) (hx : covers x f.pc = true) (h0 : x.catchType ≠ 0) {c : ClassId} (hl : s₀.vm.ClassLinks e.platform f.method.cls x.catchType c) (hfit : s₀.vm.assignable cell.cls c = true) :
    ∀ (pre : List ExceptionTableEntry) (S : State), s₀.WarmedH S.vm → S.heap[a]? = some cell → (∀ y ∈ pre, covers y f.pc = false ∨ (y.catchType ≠ 0 ∧ ∃ c9, s₀.vm.ClassLinks e.platform f.method.cls y.catchType c9 ∧ s₀.vm.assignable cell.cls c9 = false)) →
      ∃ vm', s₀.WarmedH vm' ∧ ∀ (Q : Handler → Pre) (E : CtlPost) (d : Bool) (acts : List Action), wp (findHandler.go f a (pre ++ x :: suf)) Q E e d acts S ↔ Q (.found x.handlerPc) d acts (S.setVm vm') := by
  obtain ⟨k0, hk0⟩ := hk0
  intro pre
  induction pre with
  | nil =>
    intro S hW hcell _
    obtain ⟨k0', hk0', -⟩ := hW.alike.2.2 _ _ hk0
    obtain ⟨dk, _, _, kt, hd, _, _, _, _, hkt, _, hopen⟩ := hl.here
    obtain ⟨kt', hkt', -⟩ := hW.alike.2.2 _ _ hkt
    refine ⟨_, hW.noted hd hopen (State.rightAt_cls hl), fun Q E d acts => ?_⟩
    rw [List.nil_append, zx_link hx h0 (hW.classLinks hl) hcell hobj ⟨k0', hk0'⟩ ⟨kt', hkt'⟩, if_pos (by rw [hW.alike.assignable]; exact hfit)]
  | cons y ys ih =>
    intro S hW hcell hpass
    obtain ⟨k0', hk0', -⟩ := hW.alike.2.2 _ _ hk0
    have hrest := fun z hz => hpass z (List.mem_cons_of_mem _ hz)
    by_cases hcov : covers y f.pc = true
    · rcases hpass y List.mem_cons_self with h | ⟨h9, c9, hl9, hno⟩
      · rw [h] at hcov; cases hcov
      · obtain ⟨dk, _, _, kt, hd, _, _, _, _, hkt, _, hopen⟩ := hl9.here
        obtain ⟨kt', hkt', -⟩ := hW.alike.2.2 _ _ hkt
        obtain ⟨vm', hW', hq⟩ := ih (S.setVm (S.vm.noted f.method.cls y.catchType (.cls c9))) (hW.noted hd hopen (State.rightAt_cls hl9)) hcell hrest
        refine ⟨vm', hW', fun Q E d acts => ?_⟩
        rw [List.cons_append, zx_link hcov h9 (hW.classLinks hl9) hcell hobj ⟨k0', hk0'⟩ ⟨kt', hkt'⟩, if_neg (by rw [hW.alike.assignable, hno]; decide)]
        exact hq Q E d acts
    · obtain ⟨vm', hW', hq⟩ := ih S hW hcell hrest
      refine ⟨vm', hW', fun Q E d acts => ?_⟩
      rw [List.cons_append, W.findHandler_go_skip (by simpa using hcov)]
      exact hq Q E d acts
theorem zx_step {e : Env} {s : State} {a : Addr} {f : JFrame} {r : List Frame} {pc : Nat} {vm' : Vm} (hfind : ∀ (Q : Handler → Pre) (E : CtlPost) (d : Bool) (acts : List Action), wp (findHandler f a) Q E e d acts s ↔ Q (.found pc) d acts (s.setVm vm')) :
    (stepThrowing e s a (.java f :: r)).Is ((s.setVm vm').setFrames (.java { f with pc := pc, stack := [.ref a] } :: r)) [] := by
  simp only [stepThrowing, searchFrame, vmDo]
  generalize hr : Sem.go _ e false [] s = res
  obtain ⟨as, rfl, ha⟩ := Sem.eq_ok_of hr (a := Handler.found pc) (s' := s.setVm vm') (acts' := []) (by simp [hfind _ _ _ _])
  exact ⟨rfl, ha⟩
theorem zx_sv (u : State) (vm' : Vm) (F G : List Frame) : ((u.setFrames F).setVm vm').setFrames G = (u.setVm vm').setFrames G := by
  have h1 : (u.setFrames F).setVm vm' = (u.setVm vm').setFrames F := rfl
  rw [h1, State.setFrames_setFrames]
theorem zx_steps {tb : Tables} {e : Env} {s target : State} {g : JFrame} {c : Code} {below : List Frame} {a : Addr} (h : At s g.method c below) {pc : Nat} {vm' : Vm}
    (hfind : ∀ (Q : Handler → Pre) (E : CtlPost) (d : Bool) (acts : List Action), wp (findHandler g a) Q E e d acts ((s.setTop g).pushFrame (.throwing a)) ↔ Q (.found pc) d acts (((s.setTop g).pushFrame (.throwing a)).setVm vm'))
    (hrest : Steps tb e below ((s.setVm vm').setTop { g with pc := pc, stack := [.ref a] }) target) : Steps tb e below ((s.setTop g).pushFrame (.throwing a)) target := by
  obtain ⟨hgo, hw⟩ := h.throwing a
  refine Steps.head hgo hw ?_
  rw [stepThread_throwing (frames_entered h.top _), (zx_step (s := (s.setTop g).pushFrame (.throwing a)) hfind).1]
  obtain ⟨g₀, hg⟩ := Option.isSome_iff_exists.mp h.top
  obtain ⟨r, hr⟩ := State.topJava?_eq_some.mp hg
  have hr' : (s.setVm vm').frames = .java g₀ :: r := hr
  rw [State.setTop_of_frames _ hr'] at hrest
  rw [hr, List.tail_cons, State.pushFrame, zx_sv, State.setTop_of_frames _ hr, zx_sv]
  exact hrest
variable {p : Program} {l : Launch} {e : Env} {R : Room} {s : State} {m : MethodId} {args : Array Value} {below : List Frame} {meth : Method} {c : Code} {H : Heap} {locs : List Loc} {cells slots pc : Nat} {Q : State → Prop} {ls : Array Slot} {rest : List Value}
theorem zx_catch {own name : String} {E : String} {ce : Cell} {q : Addr} (hown : s.vm.findClass own = some m.cls) (pre : List ExceptionTableEntry) (x : ExceptionTableEntry) (suf : List ExceptionTableEntry) (hsplit : c.exceptionTable.toList = pre ++ x :: suf)
    (hpass : ∀ z ∈ pre, covers z pc = false ∨ (z.catchType ≠ 0 ∧ ∃ nm : String, (Cond.classLink own z.catchType nm).before args s = true ∧ va_Nc E nm s)) (hx : covers x pc = true) (h0 : x.catchType ≠ 0)
    (hlink : (Cond.classLink own x.catchType name).before args s = true) (hcast : (Cond.castable E name).before args s = true) (hcell : H[q]? = some ce) (hv : ce.vm = .none) (hcl : s.vm.findClass E = some ce.cls)
    (kk : W p l e R s m args below meth c H locs cells slots Q (F0 m x.handlerPc ls [.ref q])) : vx_W p l e R s m args below meth c H locs cells slots Q (F0 m pc ls rest) q := by
  intro T hT X
  have hpl : e.platform.magicAccessors = ({} : Platform).magicAccessors := by rw [X.admits.platform]
  obtain ⟨c3, c4, hc3, hc4, hasg⟩ := Cond.castable_spec hcast
  cases Option.some.inj (hc3.symm.trans hcl)
  obtain ⟨c5, hc5, hcl5⟩ := Cond.classLink_spec hown hlink e.platform hpl
  cases Option.some.inj (hc4.symm.trans hc5)
  obtain ⟨k9, hk9, -⟩ := Vm.findClass_spec hcl
  have hcellT : ((T.setTop (F0 m pc ls rest)).pushFrame (.throwing q)).heap[q]? = some ce := by
    show T.heap[q]? = some ce
    rw [hT]; exact hcell
  obtain ⟨vm', hW', hq⟩ := zx_go (e := e) (s₀ := s) (f := F0 m pc ls rest) (a := q) (cell := ce) (fun k => by rw [hv]; intro h; cases h) ⟨k9, hk9⟩ x suf hx h0 hcl5 hasg pre ((T.setTop (F0 m pc ls rest)).pushFrame (.throwing q)) X.warmed hcellT
    (fun z hz => by
      rcases hpass z hz with h | ⟨hz0, nm, hl1, hn1⟩
      · exact Or.inl h
      · obtain ⟨c6, hc6, hcl6⟩ := Cond.classLink_spec hown hl1 e.platform hpl
        obtain ⟨a8, b8, h1, h2, h3⟩ := hn1
        cases Option.some.inj (h1.symm.trans hcl)
        cases Option.some.inj (h2.symm.trans hc6)
        exact Or.inr ⟨hz0, _, hcl6, h3⟩)
  obtain ⟨t, a1, b1⟩ := kk (T.setVm vm') hT (X.noted hW')
  refine ⟨t, zx_steps (g := F0 m pc ls rest) X.here (fun Q E d acts => ?_) a1, b1⟩
  rw [W.findHandler_eq (meth := meth) (code := c) X.method' X.code, hsplit]
  exact hq Q E d acts
end ZX1
/-! ===== 'throw new E(text)': E's constructor hands on to Y's by the index idx of its pool, Y's and those behind it as the library's chain has them ===== -/
section ZX2
variable {p : Program} {l : Launch} {e : Env} {R : Room} {s : State} {m : MethodId} {args : Array Value} {below : List Frame} {meth : Method} {c : Code} {H : Heap} {locs : List Loc} {cells slots : Nat} {Q : State → Prop} {ls : Array Slot} {rest : List Value}
variable {mc ms : Nat} {free : Addr → Prop} {Qc : Array Value → State → Outcome → State → Prop} {XC : String → State → State → Prop}
def zx_own (own : String) (ic : Nat) (X : String) : List Cond := [.methodLink own ic (Bundle.initS X), .instantiable X 6, .castable X X, .selects X Bundle.tFill0 Bundle.tFill0, .selects X Bundle.tFill Bundle.tFill, .lays X Bundle.tN "cause" "Ljava/lang/Throwable;", .lays X Bundle.tN "stackTrace" Bundle.steD, .lays X Bundle.tN "suppressedExceptions" Bundle.listD, .lays X Bundle.tN "detailMessage" "Ljava/lang/String;", .isRef (.static Bundle.tN "UNASSIGNED_STACK" Bundle.steD), .isRef (.static Bundle.tN "SUPPRESSED_SENTINEL" Bundle.listD), .fieldLink Bundle.tN 198 Bundle.tN "backtrace" "Ljava/lang/Object;", .lays Bundle.tN Bundle.tN "backtrace" "Ljava/lang/Object;", .lays X Bundle.tN "backtrace" "Ljava/lang/Object;"]
def zx_at (own : String) (ic : Nat) (X Y : String) (idx : Nat) (bytes : ByteArray) (r : List String) : List Cond := Bundle.throwableAtoms ++ (Bundle.throwableSAtoms ++ (Bundle.passSAtoms X Y idx bytes ++ (Bundle.chainSAtoms Y r ++ zx_own own ic X)))
set_option maxHeartbeats 2000000 in
theorem zx_ctor {Wt : State} (X : Stand p l e R s m args below meth c Wt [] cells slots) (hexec : p.tables.exec = Jvm.exec) (htr : e.platform.stackTraces = false) {own cls Y : String} {idx ic : Nat} {bytes : ByteArray} {r : List String}
    (hown : s.vm.findClass own = some m.cls) (hcls : Bundle.fit cls = true) (hY : Bundle.fit Y = true) (hnames : ∀ n ∈ r, Bundle.fit n = true)
    (b0 : decode bytes 0 = .ok (.aload_n 0, 1)) (b1 : decode bytes 1 = .ok (.aload_n 1, 1)) (b2 : decode bytes 2 = .ok (.invokespecial idx, 3)) (b5 : decode bytes 5 = .ok (.return_, 1))
    (h : ∀ a ∈ zx_at own ic cls Y idx bytes r, a.before args s = true)
    {a : Addr} {cX : ClassId} {kX : Class} (hfoundX : s.vm.findClass cls = some cX) (hkX : s.vm.classes[cX]? = some kX) (hcell : Wt.heap[a]? = some (freshCell cX kX)) (hnew : s.heap.size ≤ a)
    {msg : Value} (hmsg : msg.isRef = true)
    {g : JFrame} (hg : g.method = m) (hsize : g.locals.size = c.maxLocals) (hlocked : g.locked = none) (hentered : g.entered = []) (hstack : g.stack = msg :: .ref a :: .ref a :: rest)
    (hd6 : decode c.code g.pc = .ok (.invokespecial ic, 3)) (hd9 : decode c.code (g.pc + 3) = .ok (.athrow, 1)) (hout : ∀ x ∈ c.exceptionTable.toList, covers x (g.pc + 3) = false)
    (hRframes : r.length + 4 < R.frames) (hRlocals : 2 * g.monitorRoom + ((Value.ref a :: rest).map fun v => v.category).sum + (13 * (r.length + 2) + 42) ≤ R.locals) (hlocks : meth.locks = false) :
    ∃ U : State, Steps p.tables e below (Wt.setTop g) U ∧ U.status = .running ∧ Ended U below (.threw a) ∧ s.WarmedH U.vm ∧ s.sameButNew ({ U with vm := s.vm } : State) [] cells slots ∧
      ∃ ce, U.heap[a]? = some ce ∧ ce.vm = .none ∧ s.vm.findClass cls = some ce.cls := by
  have howns : e.platform.frameOwnsMonitors = true := by rw [X.admits.platform]
  have hfin : e.platform.finalization = false := by rw [X.admits.platform]
  have hpl : e.platform.magicAccessors = ({} : Platform).magicAccessors := by rw [X.admits.platform]
  have hO : ∀ x, x ∈ zx_own own ic cls → x.before args s = true := fun x hx => h x (List.mem_append_right _ (List.mem_append_right _ (List.mem_append_right _ (List.mem_append_right _ hx))))
  have hPa : ∀ x, x ∈ Bundle.passSAtoms cls Y idx bytes → x.before args s = true := fun x hx => h x (List.mem_append_right _ (List.mem_append_right _ (List.mem_append_left _ hx)))
  obtain ⟨T, Z0, L, -, Yt⟩ := ThrowableC.of_atoms (args := args) howns hfin hpl (fun x hx => h x (List.mem_append_left _ hx))
  obtain ⟨Z, M, LZ, LM, hnZ⟩ := Init0T.ofS_atoms (args := args) hpl L Yt (fun x hx => h x (List.mem_append_right _ (List.mem_append_left _ hx)))
  obtain ⟨P0, L0, hP0m, hP0s⟩ := PassC.ofS_atoms (args := args) (s := s) hpl (X := cls) (Y := Y) (Bundle.fit_spec hcls).1 (Bundle.fit_spec hY).2 b0 b1 b2 b5 hPa
  obtain ⟨P1, Ps, hlen, L1, hL, hP1m, hlink1, hlink⟩ := Bundle.chainS (args := args) hpl hnZ r Y hY hnames (fun x hx => h x (List.mem_append_right _ (List.mem_append_right _ (List.mem_append_right _ (List.mem_append_left _ hx)))))
  have hlink0 : P0.sup = P1.m := Option.some.inj (hP0s.symm.trans hP1m)
  have hfound : s.vm.findClass cls = some P0.m.cls := findClass_of_methodNamed hP0m
  cases Option.some.inj (hfoundX.symm.trans hfound)
  obtain ⟨c1, kX', hc1, hk, hord, -, -, hn6⟩ := Cond.instantiable_spec (hO (.instantiable cls 6) (by simp [zx_own]))
  cases Option.some.inj (hc1.symm.trans hfound)
  cases Option.some.inj (hkX.symm.trans hk)
  have hsel0 : selectMethod e.platform s.vm P0.m.cls T.fill0 = .method T.fill0 := by
    obtain ⟨c2, r2, m2, q1, q2, q3, q4, -⟩ := Cond.selects_spec (hO (.selects cls Bundle.tFill0 Bundle.tFill0) (by simp [zx_own]))
    cases Option.some.inj (q1.symm.trans hfound)
    cases Option.some.inj (q2.symm.trans (State.methodFound?_of_named Yt.fill0 (by decide)))
    cases Option.some.inj (q3.symm.trans Yt.fill0)
    rw [Launch.admits_selectMethod X.admits]; exact q4
  have hselF : selectMethod e.platform s.vm P0.m.cls T.fill = .method T.fill := by
    obtain ⟨c2, r2, m2, q1, q2, q3, q4, -⟩ := Cond.selects_spec (hO (.selects cls Bundle.tFill Bundle.tFill) (by simp [zx_own]))
    cases Option.some.inj (q1.symm.trans hfound)
    cases Option.some.inj (q2.symm.trans (State.methodFound?_of_named Yt.fill (by decide)))
    cases Option.some.inj (q3.symm.trans Yt.fill)
    rw [Launch.admits_selectMethod X.admits]; exact q4
  obtain ⟨cellS0, hcS0, hiss⟩ := Yt.statics
  obtain ⟨u0, hu0⟩ := Cond.staticRefV Yt.unassigned L.unassignedStatic L.statics hcS0 hiss (hO (.isRef (.static Bundle.tN "UNASSIGNED_STACK" Bundle.steD)) (by simp [zx_own]))
  obtain ⟨sen, hsen⟩ := Cond.staticRefV Yt.sentinel L.sentinelStatic L.statics hcS0 hiss (hO (.isRef (.static Bundle.tN "SUPPRESSED_SENTINEL" Bundle.listD)) (by simp [zx_own]))
  obtain ⟨ci198, i198, fB, hk198, hg198, ha198, hsB, -, hnB, htB, hffB⟩ := Cond.ownField (t := .object "java/lang/Object") Yt.found L.cls (by decide +kernel) (hO (.fieldLink Bundle.tN 198 Bundle.tN "backtrace" "Ljava/lang/Object;") (by simp [zx_own])) (hO (.lays Bundle.tN Bundle.tN "backtrace" "Ljava/lang/Object;") (by simp [zx_own])) e.platform hpl
  obtain ⟨cellS, hcS', heS, -, hkeep⟩ := X.same.2.2.2.2.2 T.aS cellS0 hcS0
  have hcellS : Wt.heap[T.aS]? = some cellS := hcS'
  have hout' : ∀ i, (⟨T.aS, i⟩ : Loc) ∉ ([] : List Loc) := fun i hmem => nomatch hmem
  have hknownS : cellS.vm ≠ .unknown := by
    rw [heS]; intro hu
    rw [show cellS0.vm = .unknown from hu] at hiss
    cases hiss
  have hneS : T.aS ≠ a := Nat.ne_of_lt (Nat.lt_of_lt_of_le (Array.getElem?_eq_some_iff.mp hcS0).1 hnew)
  obtain ⟨iM, hffM⟩ := Yt.msg
  obtain ⟨tyC, dC, hdC, hdnC⟩ := Cond.laysAt hfound hk Yt.cause (hO (.lays cls Bundle.tN "cause" "Ljava/lang/Throwable;") (by simp [zx_own]))
  obtain ⟨tyS, dS, hdS, hdnS⟩ := Cond.laysAt hfound hk Yt.stack (hO (.lays cls Bundle.tN "stackTrace" Bundle.steD) (by simp [zx_own]))
  obtain ⟨tyP, dP, hdP, hdnP⟩ := Cond.laysAt hfound hk Yt.supp (hO (.lays cls Bundle.tN "suppressedExceptions" Bundle.listD) (by simp [zx_own]))
  obtain ⟨tyM, dM, hdM, hdnM⟩ := Cond.laysAt hfound hk hffM (hO (.lays cls Bundle.tN "detailMessage" "Ljava/lang/String;") (by simp [zx_own]))
  obtain ⟨tyB, dB, hdB, hdnB⟩ := Cond.laysAt hfound hk hffB (hO (.lays cls Bundle.tN "backtrace" "Ljava/lang/Object;") (by simp [zx_own]))
  have bC := Cond.laysApart hdB hdC hdnB hdnC (by rw [hnB, Yt.causeName]; decide)
  have bS := Cond.laysApart hdB hdS hdnB hdnS (by rw [hnB, Yt.stackName]; decide)
  have bP := Cond.laysApart hdB hdP hdnB hdnP (by rw [hnB, Yt.suppName]; decide)
  have hskip : SkipFacts T e.platform s (fun u => u) u0 ((preparedCellV T.toThrowableT (freshCell P0.m.cls kX) a u0 sen).withEntry Wt.cur) :=
    ⟨{ ci198 := ci198, i198 := i198, fBack := fB }, ⟨hk198, hg198, ha198, hsB⟩, by
      have := fresh_default (c := P0.m.cls) tyB
      rw [htB] at this
      simpa [preparedCellV, Cell.setSlot, Cell.withEntry, Array.getElem?_setIfInBounds, bC, bS, bP, bC.symm, bS.symm, bP.symm, defaultValue] using this, fun _ _ => rfl⟩
  obtain ⟨tm, methC, cdC, kC, vm₁, hnC, -, -, -, -, -, -, -, hW₁, st1⟩ := Steps.initColdS (tb := p.tables) (e := e) (below := below) (s := s) (U := Wt) X.here hexec X.warmed hpl hown (t := Bundle.initS cls) rfl rfl (Bundle.fit_spec hcls).2
    (hO (.methodLink own ic (Bundle.initS cls)) (by simp [zx_own])) (hPa (.instanceMethod (Bundle.initS cls)) (by simp [Bundle.passSAtoms])) (bytes := bytes) (maxL := 2) (hPa (.code (Bundle.initS cls) bytes 2 none) (by simp [Bundle.passSAtoms]))
    (f := g) hg (a := a) (msg := msg) (rest := .ref a :: rest) hstack hd6
  cases Option.some.inj (hnC.symm.trans hP0m)
  have X₁ := X.noted hW₁
  obtain ⟨vm₂, X₂, st2⟩ := X₁.ctorMessageOffV hexec (g := { g with stack := .ref a :: rest }) hg hsize T L Z LZ M LM (P0 :: P1 :: Ps)
    (fun P hP => by rcases List.mem_cons.mp hP with rfl | hP; exact L0; rcases List.mem_cons.mp hP with rfl | hP; exact L1; exact hL P hP) ⟨hlink0, hlink1, hlink⟩ (u0 := u0) (sen := sen) (self := a) hmsg (cell := freshCell P0.m.cls kX) (cellS := cellS)
    hcell (fun _ => by simp) (by simp) rfl rfl hsel0 hselF hcellS hneS hknownS (by rw [hkeep _ (hout' _)]; exact hu0) (by rw [hkeep _ (hout' _)]; exact hsen)
    (Takes.of_laid hk hord tyC (by rw [Yt.causeType]; rfl)) (Takes.of_laid hk hord tyS (by rw [Yt.stackType]; exact fits_refV_array _ u0)) (Takes.of_laid hk hord tyP (by rw [Yt.suppType]; exact fits_refV_object _ sen))
    (Takes.of_laid hk hord tyM (by rw [Yt.msgType]; exact fits_refV_object _ ⟨msg, hmsg⟩)) Yt.objLocals hskip htr [] hd6
    (by simp only [List.length_cons, hlen]; omega) (by simp only [List.length_cons, hlen]; exact hRlocals)
  obtain ⟨hwalk, hrun, hended, hWU, hsame⟩ := X₂.athrowLeaves hexec (g := { g with stack := .ref a :: rest, pc := g.pc + 3 }) hg hlocked hentered hout (a := a) (rest := rest) rfl hd9
  have hlt : a < ((Wt.setVm vm₁).setVm vm₂).heap.size := (Array.getElem?_eq_some_iff.mp hcell).1
  have hU := heapAt_setCell_self (s := (Wt.setVm vm₁).setVm vm₂) (plainBareV T.toThrowableT (freshCell P0.m.cls kX) a u0 sen msg) hlt
  refine ⟨_, st1 _ (fun acts => ?_), hrun, hended, hWU, hsame.weaken (fun y hy hlt' => ?_) (Nat.le_refl _) (Nat.le_refl _), _, hU, rfl, hfound⟩
  · rw [doInvoke_state]
    exact st2 _ hwalk
  · exfalso
    have hb : y.base = a := by
      rw [List.nil_append] at hy
      simp only [List.mem_cons, List.not_mem_nil, or_false] at hy
      rcases hy with rfl | rfl | rfl | rfl | rfl <;> rfl
    rw [hb] at hlt'
    exact Nat.not_lt.mpr hnew hlt'

theorem zx_throw {cc : ByteArray} {pc : Nat} (hexec : p.tables.exec = Jvm.exec) (hb : c.code = cc) (hl : l.stackTraces = false) {own cls Y text : String} {r : List String} {ik is ic idx sa : Nat} {bytes : ByteArray} {A : Nat → Prop}
    (hown : s.vm.findClass own = some m.cls) (hcls : Bundle.fit cls = true) (hY : Bundle.fit Y = true) (hnames : ∀ n ∈ r, Bundle.fit n = true)
    (b0 : decode bytes 0 = .ok (.aload_n 0, 1)) (b1 : decode bytes 1 = .ok (.aload_n 1, 1)) (b2 : decode bytes 2 = .ok (.invokespecial idx, 3)) (b5 : decode bytes 5 = .ok (.return_, 1))
    (hk : (Cond.classLink own ik cls).before args s = true) (hini : (Cond.initialized cls).before args s = true) (hstr : vk_R own is text sa s) (hat : ∀ w ∈ (zx_at own ic cls Y idx bytes r).filter vx_no, w.before args s = true ∧ vx_ot w = true)
    (hkg : vx_ot (Cond.classLink own ik cls) = true) (hig : vx_ot (Cond.initialized cls) = true)
    (hU : vx_Zq Bundle.tN "UNASSIGNED_STACK" Bundle.steD A s s.heap) (hN : vx_Zq Bundle.tN "SUPPRESSED_SENTINEL" Bundle.listD A s s.heap) (hS : va_S A s.heap H locs) (hsize : ls.size = c.maxLocals)
    (d0 : decode cc pc = .ok (.new ik, 3)) (d3 : decode cc (pc + 3) = .ok (.dup, 1)) (d4 : decode cc (pc + 4) = .ok (.ldc is, 2)) (d6 : decode cc (pc + 6) = .ok (.invokespecial ic, 3)) (d9 : decode cc (pc + 9) = .ok (.athrow, 1))
    (hout : ∀ x ∈ c.exceptionTable.toList, covers x (pc + 9) = false)
    (hRframes : r.length + 4 < R.frames) (hRlocals : (rest.map fun v => v.category).sum + (13 * (r.length + 2) + 43) ≤ R.locals) (hRcells : cells + 1 ≤ R.cells) (hRslots : slots + 6 ≤ R.slots) (hlocks : meth.locks = false)
    (hx : ∀ t : State, s.vm.Alike t.vm → H.size ≤ t.heap.size → (∀ q : Nat, q < H.size → t.heap[q]? = H[q]?) → XC cls s t)
    (hf : ∀ z ∈ locs, free z.base) (hc : cells + 1 ≤ mc) (hs : slots + 6 ≤ ms) :
    W p l e R s m args below meth c H locs cells slots (vx_MQ below Qc XC args s mc ms free) (F0 m pc ls rest) := by
  intro T hT X
  have htr : e.platform.stackTraces = false := (show e.platform.stackTraces = l.stackTraces by rw [X.admits.platform]).trans hl
  have Y0 := vx_rebase X (R' := { frames := R.frames, locals := R.locals, cells := 1, slots := 6 }) (Nat.le_refl _) (Nat.le_refl _) hRcells hRslots
  obtain ⟨s', hA⟩ : ∃ z, z = (T.setVm s.vm).setFrames (.invoking m args :: below) := ⟨_, rfl⟩
  rw [← hA] at Y0
  have hvm : s'.vm = s.vm := by rw [hA]; rfl
  have hhp : s'.heap = H := by rw [hA]; exact hT
  have hW0 : s.WarmedH s'.vm := by rw [hvm]; exact State.WarmedH.refl s
  have hat' : ∀ w ∈ (zx_at own ic cls Y idx bytes r).filter vx_no, w.before args s' = true := fun w hw => vx_ot_at hW0 hvm.symm (hat w hw).2 (hat w hw).1
  have hk' : (Cond.classLink own ik cls).before args s' = true := vx_ot_at hW0 hvm.symm hkg hk
  have hini' : (Cond.initialized cls).before args s' = true := vx_ot_at hW0 hvm.symm hig hini
  have hU' : vx_Zq Bundle.tN "UNASSIGNED_STACK" Bundle.steD A s' s'.heap := by rw [hhp]; exact vx_Zq.moved hW0.alike (hU.kept hS.2.1)
  have hN' : vx_Zq Bundle.tN "SUPPRESSED_SENTINEL" Bundle.listD A s' s'.heap := by rw [hhp]; exact vx_Zq.moved hW0.alike (hN.kept hS.2.1)
  have h : ∀ w ∈ zx_at own ic cls Y idx bytes r, w.before args s' = true := vx_own hat' (vx_isRefq hU'.1) (vx_isRefq hN'.1) hU'.2.word hN'.2.word
  have hown' : s'.vm.findClass own = some m.cls := by rw [hvm]; exact hown
  have hins : (Cond.instantiable cls 6).before args s' = true := h _ (List.mem_append_right _ (List.mem_append_right _ (List.mem_append_right _ (List.mem_append_right _ (by simp [zx_own])))))
  obtain ⟨vm₁, cX, kX, hfX, hkX, -, -, X₁, st1⟩ := Y0.newCold hexec (own := own) (C := cls) (index := ik) (n := 6) hown' hk' hins hini'
    (g := F0 m pc ls rest) rfl (by rw [hb]; exact d0) (Nat.le_refl _) (Nat.le_refl _)
  generalize hT1 : (T.setVm vm₁).pushCell { cls := cX, slots := kX.instanceTypes.map defaultValue, vm := .none } = T1 at X₁ st1
  have hcat : (Value.ref T.heap.size).category = 1 := rfl
  have hcellA : T1.heap[T.heap.size]? = some (freshCell cX kX) := by rw [← hT1]; exact State.heap_pushCell_size _ _
  have d3' : decode c.code (pc + 3) = .ok (.dup, 1) := by rw [hb]; exact d3
  have d4' : decode c.code (pc + 4) = .ok (.ldc is, 2) := by rw [hb]; exact d4
  have hstr' : vk_R own is text sa s' := vk_R.warm hW0 hstr
  obtain ⟨U, hsteps, hrun, hend, hW, hsame, ce, hce, hcev, hcec⟩ := zx_ctor X₁ hexec htr (own := own) (cls := cls) (Y := Y) (r := r) (ic := ic) (idx := idx) (bytes := bytes) hown' hcls hY hnames b0 b1 b2 b5 h hfX hkX hcellA (by rw [hhp, hT]; exact Nat.le_refl _) (msg := .ref sa) rfl
    (g := { method := m, pc := pc + 6, locals := ls, stack := .ref sa :: .ref T.heap.size :: .ref T.heap.size :: rest, locked := none }) rfl hsize rfl rfl (rest := rest) rfl
    (by rw [hb]; exact d6) (by rw [hb]; exact d9) hout hRframes (by show 2 * 0 + _ + _ ≤ R.locals; simp only [List.map_cons, List.sum_cons, hcat]; omega) hlocks
  obtain ⟨f1, f2⟩ := vx_frame hsame
  rw [hhp] at f1 f2
  have hWs : s.WarmedH U.vm := State.WarmedH.trans hW0 hW
  have hcl : s.vm.findClass cls = some ce.cls := by
    rw [hvm] at hcec
    exact hcec
  have hall : s.sameButNew ({ U with vm := s.vm } : State) locs mc ms := by
    subst hA
    obtain ⟨e1, e2⟩ := hsame
    rw [State.setFrames_setFrames] at e1
    have h2 : (T.setVm s.vm).sameButNew ({ U with vm := s.vm } : State) [] (0 + 1) (0 + 6) := ⟨e1, e2⟩
    have h3 := X.same.trans h2
    rw [List.append_nil] at h3
    exact h3.mono hc hs
  refine ⟨U, ?_, .threw T.heap.size, hrun, hend, Or.inr ⟨T.heap.size, rfl, cls, ce, locs, hx U hWs.alike f1 (fun q hq => f2 q hq (fun z hz => nomatch hz)), hce, hcev, hcl, hWs, hall, hf⟩⟩
  refine st1 _ ?_
  show Steps p.tables e below (T1.setTop { method := m, pc := pc + 3, locals := ls, stack := .ref T.heap.size :: rest, locked := none }) _
  jvm_step X₁.here [X₁.here.top, hexec, d3', Value.category]
  exact X₁.ldcString hexec (own := own) (text := text) (index := is) (a := sa) hown' hstr'.1 hstr'.2
    (g := { method := m, pc := pc + 4, locals := ls, stack := .ref T.heap.size :: .ref T.heap.size :: rest, locked := none }) rfl d4' _ hsteps

theorem zx_throwW {cc : ByteArray} {pc : Nat} (hexec : p.tables.exec = Jvm.exec) (hb : c.code = cc) (hl : l.stackTraces = false) {own cls Y text : String} {r : List String} {ik is ic idx sa : Nat} {bytes : ByteArray} {A : Nat → Prop}
    (hown : s.vm.findClass own = some m.cls) (hcls : Bundle.fit cls = true) (hY : Bundle.fit Y = true) (hnames : ∀ n ∈ r, Bundle.fit n = true)
    (b0 : decode bytes 0 = .ok (.aload_n 0, 1)) (b1 : decode bytes 1 = .ok (.aload_n 1, 1)) (b2 : decode bytes 2 = .ok (.invokespecial idx, 3)) (b5 : decode bytes 5 = .ok (.return_, 1))
    (hk : (Cond.classLink own ik cls).before args s = true) (hini : (Cond.initialized cls).before args s = true) (hstr : vk_R own is text sa s) (hat : ∀ w ∈ (zx_at own ic cls Y idx bytes r).filter vx_no, w.before args s = true ∧ vx_ot w = true)
    (hkg : vx_ot (Cond.classLink own ik cls) = true) (hig : vx_ot (Cond.initialized cls) = true)
    (hU : vx_Zq Bundle.tN "UNASSIGNED_STACK" Bundle.steD A s s.heap) (hN : vx_Zq Bundle.tN "SUPPRESSED_SENTINEL" Bundle.listD A s s.heap) (hS : va_S A s.heap H locs) (hsize : ls.size = c.maxLocals)
    (d0 : decode cc pc = .ok (.new ik, 3)) (d3 : decode cc (pc + 3) = .ok (.dup, 1)) (d4 : decode cc (pc + 4) = .ok (.ldc_w is, 3)) (d6 : decode cc (pc + 7) = .ok (.invokespecial ic, 3)) (d9 : decode cc (pc + 10) = .ok (.athrow, 1))
    (hout : ∀ x ∈ c.exceptionTable.toList, covers x (pc + 10) = false)
    (hRframes : r.length + 4 < R.frames) (hRlocals : (rest.map fun v => v.category).sum + (13 * (r.length + 2) + 43) ≤ R.locals) (hRcells : cells + 1 ≤ R.cells) (hRslots : slots + 6 ≤ R.slots) (hlocks : meth.locks = false)
    (hx : ∀ t : State, s.vm.Alike t.vm → H.size ≤ t.heap.size → (∀ q : Nat, q < H.size → t.heap[q]? = H[q]?) → XC cls s t)
    (hf : ∀ z ∈ locs, free z.base) (hc : cells + 1 ≤ mc) (hs : slots + 6 ≤ ms) :
    W p l e R s m args below meth c H locs cells slots (vx_MQ below Qc XC args s mc ms free) (F0 m pc ls rest) := by
  intro T hT X
  have htr : e.platform.stackTraces = false := (show e.platform.stackTraces = l.stackTraces by rw [X.admits.platform]).trans hl
  have Y0 := vx_rebase X (R' := { frames := R.frames, locals := R.locals, cells := 1, slots := 6 }) (Nat.le_refl _) (Nat.le_refl _) hRcells hRslots
  obtain ⟨s', hA⟩ : ∃ z, z = (T.setVm s.vm).setFrames (.invoking m args :: below) := ⟨_, rfl⟩
  rw [← hA] at Y0
  have hvm : s'.vm = s.vm := by rw [hA]; rfl
  have hhp : s'.heap = H := by rw [hA]; exact hT
  have hW0 : s.WarmedH s'.vm := by rw [hvm]; exact State.WarmedH.refl s
  have hat' : ∀ w ∈ (zx_at own ic cls Y idx bytes r).filter vx_no, w.before args s' = true := fun w hw => vx_ot_at hW0 hvm.symm (hat w hw).2 (hat w hw).1
  have hk' : (Cond.classLink own ik cls).before args s' = true := vx_ot_at hW0 hvm.symm hkg hk
  have hini' : (Cond.initialized cls).before args s' = true := vx_ot_at hW0 hvm.symm hig hini
  have hU' : vx_Zq Bundle.tN "UNASSIGNED_STACK" Bundle.steD A s' s'.heap := by rw [hhp]; exact vx_Zq.moved hW0.alike (hU.kept hS.2.1)
  have hN' : vx_Zq Bundle.tN "SUPPRESSED_SENTINEL" Bundle.listD A s' s'.heap := by rw [hhp]; exact vx_Zq.moved hW0.alike (hN.kept hS.2.1)
  have h : ∀ w ∈ zx_at own ic cls Y idx bytes r, w.before args s' = true := vx_own hat' (vx_isRefq hU'.1) (vx_isRefq hN'.1) hU'.2.word hN'.2.word
  have hown' : s'.vm.findClass own = some m.cls := by rw [hvm]; exact hown
  have hins : (Cond.instantiable cls 6).before args s' = true := h _ (List.mem_append_right _ (List.mem_append_right _ (List.mem_append_right _ (List.mem_append_right _ (by simp [zx_own])))))
  obtain ⟨vm₁, cX, kX, hfX, hkX, -, -, X₁, st1⟩ := Y0.newCold hexec (own := own) (C := cls) (index := ik) (n := 6) hown' hk' hins hini'
    (g := F0 m pc ls rest) rfl (by rw [hb]; exact d0) (Nat.le_refl _) (Nat.le_refl _)
  generalize hT1 : (T.setVm vm₁).pushCell { cls := cX, slots := kX.instanceTypes.map defaultValue, vm := .none } = T1 at X₁ st1
  have hcat : (Value.ref T.heap.size).category = 1 := rfl
  have hcellA : T1.heap[T.heap.size]? = some (freshCell cX kX) := by rw [← hT1]; exact State.heap_pushCell_size _ _
  have d3' : decode c.code (pc + 3) = .ok (.dup, 1) := by rw [hb]; exact d3
  have d4' : decode c.code (pc + 4) = .ok (.ldc_w is, 3) := by rw [hb]; exact d4
  have hstr' : vk_R own is text sa s' := vk_R.warm hW0 hstr
  obtain ⟨U, hsteps, hrun, hend, hW, hsame, ce, hce, hcev, hcec⟩ := zx_ctor X₁ hexec htr (own := own) (cls := cls) (Y := Y) (r := r) (ic := ic) (idx := idx) (bytes := bytes) hown' hcls hY hnames b0 b1 b2 b5 h hfX hkX hcellA (by rw [hhp, hT]; exact Nat.le_refl _) (msg := .ref sa) rfl
    (g := { method := m, pc := pc + 7, locals := ls, stack := .ref sa :: .ref T.heap.size :: .ref T.heap.size :: rest, locked := none }) rfl hsize rfl rfl (rest := rest) rfl
    (by rw [hb]; exact d6) (by rw [hb]; exact d9) hout hRframes (by show 2 * 0 + _ + _ ≤ R.locals; simp only [List.map_cons, List.sum_cons, hcat]; omega) hlocks
  obtain ⟨f1, f2⟩ := vx_frame hsame
  rw [hhp] at f1 f2
  have hWs : s.WarmedH U.vm := State.WarmedH.trans hW0 hW
  have hcl : s.vm.findClass cls = some ce.cls := by
    rw [hvm] at hcec
    exact hcec
  have hall : s.sameButNew ({ U with vm := s.vm } : State) locs mc ms := by
    subst hA
    obtain ⟨e1, e2⟩ := hsame
    rw [State.setFrames_setFrames] at e1
    have h2 : (T.setVm s.vm).sameButNew ({ U with vm := s.vm } : State) [] (0 + 1) (0 + 6) := ⟨e1, e2⟩
    have h3 := X.same.trans h2
    rw [List.append_nil] at h3
    exact h3.mono hc hs
  refine ⟨U, ?_, .threw T.heap.size, hrun, hend, Or.inr ⟨T.heap.size, rfl, cls, ce, locs, hx U hWs.alike f1 (fun q hq => f2 q hq (fun z hz => nomatch hz)), hce, hcev, hcl, hWs, hall, hf⟩⟩
  refine st1 _ ?_
  show Steps p.tables e below (T1.setTop { method := m, pc := pc + 3, locals := ls, stack := .ref T.heap.size :: rest, locked := none }) _
  jvm_step X₁.here [X₁.here.top, hexec, d3', Value.category]
  exact X₁.ldcStringW hexec (own := own) (text := text) (index := is) (a := sa) hown' hstr'.1 hstr'.2
    (g := { method := m, pc := pc + 4, locals := ls, stack := .ref T.heap.size :: .ref T.heap.size :: rest, locked := none }) rfl d4' _ hsteps

end ZX2
/-! ===== contracts of methods that answer an int or throw: x = 0 they answer v; x = 1, 2 they throw ===== -/
abbrev nNSE : String := "java/util/NoSuchElementException"
abbrev nIAE : String := "java/lang/IllegalArgumentException"
def exN (x : Int32) : String := if x = 1 then nNSE else nIAE
def Rx {σ : Type} (D : va_G) (wc : va_W) (x v : Int32) (w1 : σ → va_W) (sz : Nat) : Array Value → State → Outcome → State → Prop := va_Qi (fun (r : Int32) (_ : σ) => x = 0 ∧ r = v) (fun u t => va_P D vwCl (w1 u) t.heap ∧ va_D (va_A wc sz) (w1 u)) (va_A wc sz)
def Xx {σ : Type} (D : va_G) (wc : va_W) (x : Int32) (w1 : σ → va_W) (sz : Nat) : String → State → State → Prop := vx_X (fun (_ : σ) => ¬ x = 0) (fun E u t => E = exN x ∧ va_P D vwCl (w1 u) t.heap ∧ va_D (va_A wc sz) (w1 u)) (va_A wc sz)
def CTx {σ : Type} (l : Launch) (y : MethodName) (cy : Cond) (rm : Room) (D : va_G) (cI : ClassId) (As : List Value) (wc : va_W) (x v : Int32) (w1 : σ → va_W) (mc ms : Nat) : Prop := ∀ sz : Nat, vx_Met l y (cy :: TB) rm (Pz D cI As wc sz) (Rx D wc x v w1 sz) (Xx D wc x w1 sz) mc ms (va_A wc sz)
abbrev cNSE : ByteArray := prog_32_method_4_code
abbrev cIAE : ByteArray := prog_19_method_2_code
abbrev nRTE : String := "java/lang/RuntimeException"
theorem zx_w1 : ∀ w ∈ (zx_at RX11 159 nNSE nRTE 13 cNSE ["java/lang/Exception"]).filter vx_no, w ∈ lw_tbl ∧ (goodWord w || isCast w) = true := by decide +kernel
theorem zx_w2 : ∀ w ∈ (zx_at RX11 91 nIAE nRTE 7 cIAE ["java/lang/Exception"]).filter vx_no, w ∈ lw_tbl ∧ (goodWord w || isCast w) = true := by decide +kernel
theorem zx_hat {D : va_G} {cI : ClassId} {args : Array Value} {s : State} {L : List Cond} (hL : ∀ w ∈ L, w ∈ lw_tbl ∧ (goodWord w || isCast w) = true) (hts : ∀ w ∈ TB, w.before args s = true) (hK : KK D cI s) : ∀ w ∈ L, w.before args s = true ∧ vx_ot w = true := by
  intro w hw
  obtain ⟨h1, h2⟩ := hL w hw
  cases hg : goodWord w
  · rw [hg, Bool.false_or] at h2
    have hot : w.onTables = true := by cases w <;> first | rfl | (simp [isCast] at h2)
    exact ⟨(hK.2.2.2.1 w (List.mem_filter.mpr ⟨h1, h2⟩)).use hot, by unfold vx_ot; rw [hot]; rfl⟩
  · exact ⟨hts w (List.mem_filter.mpr ⟨h1, hg⟩), by unfold vx_ot; rw [hg, Bool.or_true]⟩
theorem tq_X11_155 : Cond.classLink RX11 155 nNSE ∈ TB := tb_of 1099 (by decide +kernel) (by decide +kernel)
theorem tq_X11_87 : Cond.classLink RX11 87 nIAE ∈ TB := tb_of 869 (by decide +kernel) (by decide +kernel)
theorem tn_NSE : Cond.initialized nNSE ∈ TB := tb_of 135 (by decide +kernel) (by decide +kernel)
theorem tn_IAE : Cond.initialized nIAE ∈ TB := tb_of 127 (by decide +kernel) (by decide +kernel)
theorem ot_good {w : Cond} (h : w ∈ TB) : vx_ot w = true := by unfold vx_ot; rw [tb_good w h, Bool.or_true]
section ZX3
variable {p : Program} {l : Launch} {e : Env} {rm : Room} {s : State} {m : MethodId} {args : Array Value} {below : List Frame} {meth : Method} {c : Code} {H : Heap} {locs : List Loc} {ls : Array Slot} {cc : ByteArray} {pc mc ms : Nat} {D : va_G} {cI : ClassId} {wc : va_W} {σ : Type} {w1 : σ → va_W} {x v : Int32}
theorem zx_XC (hx0 : ¬ x = 0) (u : σ) (hP : va_P D vwCl (w1 u) H) (hD : va_D (va_A wc s.heap.size) (w1 u)) (hS : va_S (va_A wc s.heap.size) s.heap H locs) : ∀ t : State, s.vm.Alike t.vm → H.size ≤ t.heap.size → (∀ q : Nat, q < H.size → t.heap[q]? = H[q]?) → Xx D wc x w1 s.heap.size (exN x) s t := by
  intro t _ hz hk
  refine ⟨u, hx0, ⟨rfl, hP.kept (fun k q hq => hk q.1 (hP k q hq).lt), hD⟩, Nat.le_trans hS.1 hz, fun q h1 h2 => ?_⟩
  rw [hk q (Nat.lt_of_lt_of_le h1 hS.1)]
  exact hS.2.1 q h1 h2

theorem z_thr1 (hexec : p.tables.exec = Jvm.exec) (hb : c.code = cc) (hl : l.stackTraces = false) (hts : ∀ w ∈ TB, w.before args s = true) (hown : s.vm.findClass RX11 = some m.cls) (hK : KK D cI s) (hX : SX D (va_A wc s.heap.size) s) {is : Nat} (text : String) (hq : (is, text) ∈ TXS) (hx1 : x = 1) (u : σ) (hP : va_P D vwCl (w1 u) H) (hD : va_D (va_A wc s.heap.size) (w1 u)) (hS : va_S (va_A wc s.heap.size) s.heap H locs) (hsize : ls.size = c.maxLocals)
    (d0 : decode cc pc = .ok (.new 155, 3)) (d3 : decode cc (pc + 3) = .ok (.dup, 1)) (d4 : decode cc (pc + 4) = .ok (.ldc is, 2)) (d6 : decode cc (pc + 6) = .ok (.invokespecial 159, 3)) (d9 : decode cc (pc + 9) = .ok (.athrow, 1))
    (hout : ∀ x ∈ c.exceptionTable.toList, False) (hfr : 6 ≤ rm.frames) (hlo : 82 ≤ rm.locals) (hc1 : 1 ≤ rm.cells) (hs1 : 6 ≤ rm.slots) (hlocks : meth.locks = false) (hc : 1 ≤ mc) (hs : 6 ≤ ms) :
    W p l e rm s m args below meth c H locs 0 0 (vx_MQ below (Rx D wc x v w1 s.heap.size) (Xx D wc x w1 s.heap.size) args s mc ms (va_A wc s.heap.size)) (F0 m pc ls []) := by
  subst hx1
  obtain ⟨sa, hsa⟩ := hX.2.2.2.2.2.2.2 _ hq
  exact zx_throw hexec hb hl hown (own := RX11) (cls := nNSE) (Y := nRTE) (r := ["java/lang/Exception"]) (ik := 155) (ic := 159) (idx := 13) (bytes := cNSE) (sa := sa) (by decide +kernel) (by decide +kernel) (by decide +kernel) (by decide +kernel) (by decide +kernel) (by decide +kernel) (by decide +kernel) (hts _ tq_X11_155) (hts _ tn_NSE) hsa (zx_hat zx_w1 hts hK) (ot_good tq_X11_155) (ot_good tn_NSE) hX.2.2.2.2.2.1.2.2.1 hX.2.2.2.2.2.1.2.2.2 hS hsize d0 d3 d4 d6 d9 (fun x hx => (hout x hx).elim) (by show 1 + 4 < rm.frames; omega) (by show 0 + (13 * (1 + 2) + 43) ≤ rm.locals; omega) (by omega) (by omega) hlocks (zx_XC (x := 1) (by decide) u hP hD hS) hS.2.2 (by omega) (by omega)

theorem z_thr1W (hexec : p.tables.exec = Jvm.exec) (hb : c.code = cc) (hl : l.stackTraces = false) (hts : ∀ w ∈ TB, w.before args s = true) (hown : s.vm.findClass RX11 = some m.cls) (hK : KK D cI s) (hX : SX D (va_A wc s.heap.size) s) {is : Nat} (text : String) (hq : (is, text) ∈ TXS) (hx1 : x = 1) (u : σ) (hP : va_P D vwCl (w1 u) H) (hD : va_D (va_A wc s.heap.size) (w1 u)) (hS : va_S (va_A wc s.heap.size) s.heap H locs) (hsize : ls.size = c.maxLocals)
    (d0 : decode cc pc = .ok (.new 155, 3)) (d3 : decode cc (pc + 3) = .ok (.dup, 1)) (d4 : decode cc (pc + 4) = .ok (.ldc_w is, 3)) (d6 : decode cc (pc + 7) = .ok (.invokespecial 159, 3)) (d9 : decode cc (pc + 10) = .ok (.athrow, 1))
    (hout : ∀ x ∈ c.exceptionTable.toList, False) (hfr : 6 ≤ rm.frames) (hlo : 82 ≤ rm.locals) (hc1 : 1 ≤ rm.cells) (hs1 : 6 ≤ rm.slots) (hlocks : meth.locks = false) (hc : 1 ≤ mc) (hs : 6 ≤ ms) :
    W p l e rm s m args below meth c H locs 0 0 (vx_MQ below (Rx D wc x v w1 s.heap.size) (Xx D wc x w1 s.heap.size) args s mc ms (va_A wc s.heap.size)) (F0 m pc ls []) := by
  subst hx1
  obtain ⟨sa, hsa⟩ := hX.2.2.2.2.2.2.2 _ hq
  exact zx_throwW hexec hb hl hown (own := RX11) (cls := nNSE) (Y := nRTE) (r := ["java/lang/Exception"]) (ik := 155) (ic := 159) (idx := 13) (bytes := cNSE) (sa := sa) (by decide +kernel) (by decide +kernel) (by decide +kernel) (by decide +kernel) (by decide +kernel) (by decide +kernel) (by decide +kernel) (hts _ tq_X11_155) (hts _ tn_NSE) hsa (zx_hat zx_w1 hts hK) (ot_good tq_X11_155) (ot_good tn_NSE) hX.2.2.2.2.2.1.2.2.1 hX.2.2.2.2.2.1.2.2.2 hS hsize d0 d3 d4 d6 d9 (fun x hx => (hout x hx).elim) (by show 1 + 4 < rm.frames; omega) (by show 0 + (13 * (1 + 2) + 43) ≤ rm.locals; omega) (by omega) (by omega) hlocks (zx_XC (x := 1) (by decide) u hP hD hS) hS.2.2 (by omega) (by omega)

theorem z_thr2 (hexec : p.tables.exec = Jvm.exec) (hb : c.code = cc) (hl : l.stackTraces = false) (hts : ∀ w ∈ TB, w.before args s = true) (hown : s.vm.findClass RX11 = some m.cls) (hK : KK D cI s) (hX : SX D (va_A wc s.heap.size) s) {is : Nat} (text : String) (hq : (is, text) ∈ TXS) (hx1 : x = 2) (u : σ) (hP : va_P D vwCl (w1 u) H) (hD : va_D (va_A wc s.heap.size) (w1 u)) (hS : va_S (va_A wc s.heap.size) s.heap H locs) (hsize : ls.size = c.maxLocals)
    (d0 : decode cc pc = .ok (.new 87, 3)) (d3 : decode cc (pc + 3) = .ok (.dup, 1)) (d4 : decode cc (pc + 4) = .ok (.ldc is, 2)) (d6 : decode cc (pc + 6) = .ok (.invokespecial 91, 3)) (d9 : decode cc (pc + 9) = .ok (.athrow, 1))
    (hout : ∀ x ∈ c.exceptionTable.toList, False) (hfr : 6 ≤ rm.frames) (hlo : 82 ≤ rm.locals) (hc1 : 1 ≤ rm.cells) (hs1 : 6 ≤ rm.slots) (hlocks : meth.locks = false) (hc : 1 ≤ mc) (hs : 6 ≤ ms) :
    W p l e rm s m args below meth c H locs 0 0 (vx_MQ below (Rx D wc x v w1 s.heap.size) (Xx D wc x w1 s.heap.size) args s mc ms (va_A wc s.heap.size)) (F0 m pc ls []) := by
  subst hx1
  obtain ⟨sa, hsa⟩ := hX.2.2.2.2.2.2.2 _ hq
  exact zx_throw hexec hb hl hown (own := RX11) (cls := nIAE) (Y := nRTE) (r := ["java/lang/Exception"]) (ik := 87) (ic := 91) (idx := 7) (bytes := cIAE) (sa := sa) (by decide +kernel) (by decide +kernel) (by decide +kernel) (by decide +kernel) (by decide +kernel) (by decide +kernel) (by decide +kernel) (hts _ tq_X11_87) (hts _ tn_IAE) hsa (zx_hat zx_w2 hts hK) (ot_good tq_X11_87) (ot_good tn_IAE) hX.2.2.2.2.2.1.2.2.1 hX.2.2.2.2.2.1.2.2.2 hS hsize d0 d3 d4 d6 d9 (fun x hx => (hout x hx).elim) (by show 1 + 4 < rm.frames; omega) (by show 0 + (13 * (1 + 2) + 43) ≤ rm.locals; omega) (by omega) (by omega) hlocks (zx_XC (x := 2) (by decide) u hP hD hS) hS.2.2 (by omega) (by omega)

theorem z_thr2W (hexec : p.tables.exec = Jvm.exec) (hb : c.code = cc) (hl : l.stackTraces = false) (hts : ∀ w ∈ TB, w.before args s = true) (hown : s.vm.findClass RX11 = some m.cls) (hK : KK D cI s) (hX : SX D (va_A wc s.heap.size) s) {is : Nat} (text : String) (hq : (is, text) ∈ TXS) (hx1 : x = 2) (u : σ) (hP : va_P D vwCl (w1 u) H) (hD : va_D (va_A wc s.heap.size) (w1 u)) (hS : va_S (va_A wc s.heap.size) s.heap H locs) (hsize : ls.size = c.maxLocals)
    (d0 : decode cc pc = .ok (.new 87, 3)) (d3 : decode cc (pc + 3) = .ok (.dup, 1)) (d4 : decode cc (pc + 4) = .ok (.ldc_w is, 3)) (d6 : decode cc (pc + 7) = .ok (.invokespecial 91, 3)) (d9 : decode cc (pc + 10) = .ok (.athrow, 1))
    (hout : ∀ x ∈ c.exceptionTable.toList, False) (hfr : 6 ≤ rm.frames) (hlo : 82 ≤ rm.locals) (hc1 : 1 ≤ rm.cells) (hs1 : 6 ≤ rm.slots) (hlocks : meth.locks = false) (hc : 1 ≤ mc) (hs : 6 ≤ ms) :
    W p l e rm s m args below meth c H locs 0 0 (vx_MQ below (Rx D wc x v w1 s.heap.size) (Xx D wc x w1 s.heap.size) args s mc ms (va_A wc s.heap.size)) (F0 m pc ls []) := by
  subst hx1
  obtain ⟨sa, hsa⟩ := hX.2.2.2.2.2.2.2 _ hq
  exact zx_throwW hexec hb hl hown (own := RX11) (cls := nIAE) (Y := nRTE) (r := ["java/lang/Exception"]) (ik := 87) (ic := 91) (idx := 7) (bytes := cIAE) (sa := sa) (by decide +kernel) (by decide +kernel) (by decide +kernel) (by decide +kernel) (by decide +kernel) (by decide +kernel) (by decide +kernel) (hts _ tq_X11_87) (hts _ tn_IAE) hsa (zx_hat zx_w2 hts hK) (ot_good tq_X11_87) (ot_good tn_IAE) hX.2.2.2.2.2.1.2.2.1 hX.2.2.2.2.2.1.2.2.2 hS hsize d0 d3 d4 d6 d9 (fun x hx => (hout x hx).elim) (by show 1 + 4 < rm.frames; omega) (by show 0 + (13 * (1 + 2) + 43) ≤ rm.locals; omega) (by omega) (by omega) hlocks (zx_XC (x := 2) (by decide) u hP hD hS) hS.2.2 (by omega) (by omega)

end ZX3
/-- a body that answers an int, or throws -/
theorem z_begin_x {l : Launch} {y : MethodName} {cc : ByteArray} {maxL : Nat} {rm : Room} {D : va_G} {cI : ClassId} {As : List Value} {wc : va_W} {ρ σ : Type} {Rr : ρ} (w1 : ρ → σ → va_W) (xf vf : ρ → Int32) (mc ms : Nat) (hlt : l.stackTraces = false) (hy : plainName y.cls = true) (ho : y.cls = RX11) (hn : (lg_sl As).length ≤ maxL) (hfr : 6 ≤ rm.frames) (hlo : 82 ≤ rm.locals) (hc1 : 1 ≤ rm.cells) (hs1 : 6 ≤ rm.slots) (hmc : 1 ≤ mc) (hms : 6 ≤ ms)
    (body : ∀ (p : Program) (e : Env) (s : State) (m : MethodId) (args : Array Value) (below : List Frame) (meth : Method) (c : Code) (ls : Array Slot) (Q : State → Prop) (A : Nat → Prop), p.tables.exec = Jvm.exec → c.code = cc → c.maxLocals = maxL → (∀ w ∈ TB, w.before args s = true) → (∀ w ∈ (Cond.code y cc maxL (some .int) :: TB), w.before args s = true) → s.vm.findClass RX11 = some m.cls → KK D cI s → SX D A s → (∀ q : Nat, s.heap.size ≤ q → A q) → va_P D vwCl wc s.heap → va_D A wc → va_S A s.heap s.heap [] → lv_has ls maxL (lv_args 0 As) →
      (∀ (u : ρ) (v : σ) (H : Heap) (locs : List Loc) (ls : Array Slot) (pc k n : Nat), k ≤ mc → n ≤ ms → xf u = 0 → some u = some Rr → va_P D vwCl (w1 u v) H → va_D A (w1 u v) → va_S A s.heap H locs → decode cc pc = .ok (.ireturn, 1) → W p l e rm s m args below meth c H locs k n Q (F0 m pc ls [.int (vf u)])) →
      (∀ (u : ρ) (v : σ) (H : Heap) (locs : List Loc) (ls : Array Slot) (pc is : Nat) (text : String), ls.size = maxL → (is, text) ∈ TXS → xf u = 1 → some u = some Rr → va_P D vwCl (w1 u v) H → va_D A (w1 u v) → va_S A s.heap H locs → decode cc pc = .ok (.new 155, 3) → decode cc (pc + 3) = .ok (.dup, 1) → decode cc (pc + 4) = .ok (.ldc is, 2) → decode cc (pc + 6) = .ok (.invokespecial 159, 3) → decode cc (pc + 9) = .ok (.athrow, 1) → W p l e rm s m args below meth c H locs 0 0 Q (F0 m pc ls [])) →
      (∀ (u : ρ) (v : σ) (H : Heap) (locs : List Loc) (ls : Array Slot) (pc is : Nat) (text : String), ls.size = maxL → (is, text) ∈ TXS → xf u = 1 → some u = some Rr → va_P D vwCl (w1 u v) H → va_D A (w1 u v) → va_S A s.heap H locs → decode cc pc = .ok (.new 155, 3) → decode cc (pc + 3) = .ok (.dup, 1) → decode cc (pc + 4) = .ok (.ldc_w is, 3) → decode cc (pc + 7) = .ok (.invokespecial 159, 3) → decode cc (pc + 10) = .ok (.athrow, 1) → W p l e rm s m args below meth c H locs 0 0 Q (F0 m pc ls [])) →
      (∀ (u : ρ) (v : σ) (H : Heap) (locs : List Loc) (ls : Array Slot) (pc is : Nat) (text : String), ls.size = maxL → (is, text) ∈ TXS → xf u = 2 → some u = some Rr → va_P D vwCl (w1 u v) H → va_D A (w1 u v) → va_S A s.heap H locs → decode cc pc = .ok (.new 87, 3) → decode cc (pc + 3) = .ok (.dup, 1) → decode cc (pc + 4) = .ok (.ldc is, 2) → decode cc (pc + 6) = .ok (.invokespecial 91, 3) → decode cc (pc + 9) = .ok (.athrow, 1) → W p l e rm s m args below meth c H locs 0 0 Q (F0 m pc ls [])) →
      (∀ (u : ρ) (v : σ) (H : Heap) (locs : List Loc) (ls : Array Slot) (pc is : Nat) (text : String), ls.size = maxL → (is, text) ∈ TXS → xf u = 2 → some u = some Rr → va_P D vwCl (w1 u v) H → va_D A (w1 u v) → va_S A s.heap H locs → decode cc pc = .ok (.new 87, 3) → decode cc (pc + 3) = .ok (.dup, 1) → decode cc (pc + 4) = .ok (.ldc_w is, 3) → decode cc (pc + 7) = .ok (.invokespecial 91, 3) → decode cc (pc + 10) = .ok (.athrow, 1) → W p l e rm s m args below meth c H locs 0 0 Q (F0 m pc ls [])) →
      W p l e rm s m args below meth c s.heap [] 0 0 Q (F0 m 0 ls [])) : CTx l y (Cond.code y cc maxL (some .int)) rm D cI As wc (xf Rr) (vf Rr) (w1 Rr) mc ms := by
  intro sz
  refine vx_ofW (cc := cc) (maxL := maxL) (ret := some .int) hy rfl ?_
  intro p e s m args below meth c s₁ B hml htab hv
  obtain ⟨rfl, hsz, hP, hK, hX, hD0⟩ := hv
  subst hsz
  have hts := atoms_spec (ws := Cond.code y cc maxL (some .int) :: TB) B.pre
  have hown : s.vm.findClass RX11 = some m.cls := by rw [← ho]; exact findClass_of_methodNamed B.named
  rw [lg_entry_eq]
  refine body p e s m _ below meth c _ _ _ B.exec B.bytes hml (fun w h => hts w (List.mem_cons_of_mem _ h)) hts hown hK hX (fun q h => Or.inr h) hP (hD0.self (sz := s.heap.size)) va_S.rf (lv_entry As (n := maxL) hn) ?_ ?_ ?_ ?_ ?_
  · intro u v H locs ls pc k n hk hn hx0 hu hP hD hS hdg
    obtain rfl := Option.some.inj hu
    refine vx_ret (W.widen hk hn ?_)
    exact W.iret B.exec B.bytes B.returns (fun t ht hW => ⟨⟨vf u, v, rfl, ⟨hx0, rfl⟩, by rw [ht]; exact hP, hD⟩, hS.F ht⟩) hS.2.2 hdg B.notSynchronized
  · intro u v H locs ls pc is text hsz hq hx1 hu hP hD hS d0 d3 d4 d6 d9
    obtain rfl := Option.some.inj hu
    exact z_thr1 B.exec B.bytes hlt (fun w h => hts w (List.mem_cons_of_mem _ h)) hown hK hX text hq hx1 v hP hD hS (hsz.trans hml.symm) d0 d3 d4 d6 d9 htab hfr hlo hc1 hs1 B.notSynchronized hmc hms
  · intro u v H locs ls pc is text hsz hq hx1 hu hP hD hS d0 d3 d4 d6 d9
    obtain rfl := Option.some.inj hu
    exact z_thr1W B.exec B.bytes hlt (fun w h => hts w (List.mem_cons_of_mem _ h)) hown hK hX text hq hx1 v hP hD hS (hsz.trans hml.symm) d0 d3 d4 d6 d9 htab hfr hlo hc1 hs1 B.notSynchronized hmc hms
  · intro u v H locs ls pc is text hsz hq hx1 hu hP hD hS d0 d3 d4 d6 d9
    obtain rfl := Option.some.inj hu
    exact z_thr2 B.exec B.bytes hlt (fun w h => hts w (List.mem_cons_of_mem _ h)) hown hK hX text hq hx1 v hP hD hS (hsz.trans hml.symm) d0 d3 d4 d6 d9 htab hfr hlo hc1 hs1 B.notSynchronized hmc hms
  · intro u v H locs ls pc is text hsz hq hx1 hu hP hD hS d0 d3 d4 d6 d9
    obtain rfl := Option.some.inj hu
    exact z_thr2W B.exec B.bytes hlt (fun w h => hts w (List.mem_cons_of_mem _ h)) hown hK hX text hq hx1 v hP hD hS (hsz.trans hml.symm) d0 d3 d4 d6 d9 htab hfr hlo hc1 hs1 B.notSynchronized hmc hms
