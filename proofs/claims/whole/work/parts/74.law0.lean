/-! ===== the law's loop: its world, its pure steps ===== -/
/-- class, reference, the long, cells and slots made -/
abbrev LwS : Type := CS × (Nat → Nat → Int32) × (Nat → Int64) × Nat × Nat
abbrev lwW (D : va_G) (cI : ClassId) (A : CAd) (B : Nat × (Nat → Nat)) (ho : Nat) (V : CV) (S : LwS) : va_W := (ho, .inl (D.1 101, 1, .inr (.inl S.2.2.1))) :: (rfw cI B S.2.1 ++ cw D cI A V S.1)
theorem pq_c {α : Type} {o : α} {r c : List α} : (o :: (r ++ c)).Perm (c ++ (o :: r)) := by
  classical
  exact List.perm_iff_count.mpr (fun a => by simp only [List.count_append, List.count_cons]; omega)
theorem pq_h {α : Type} {o : α} {r c : List α} : (o :: (r ++ c)).Perm ((o :: c) ++ r) := by
  classical
  exact List.perm_iff_count.mpr (fun a => by simp only [List.count_append, List.count_cons]; omega)
theorem pq_m {α : Type} {o : α} {r c : List α} : (o :: (r ++ c)).Perm (r ++ (o :: c)) := by
  classical
  exact List.perm_iff_count.mpr (fun a => by simp only [List.count_append, List.count_cons]; omega)
def lA (s : State) : Nat → Prop := fun q => s.heap.size ≤ q
def LawCtx (p : Program) (l : Launch) (R : Room) (s : State) (m : MethodId) (args : Array Value) (c : Code) (D : va_G) (cI : ClassId) (cx : Cond) (b L : Nat) (xs : Nat → Int32) : Prop :=
  p.tables.exec = Jvm.exec ∧ c.code = cLaw ∧ c.maxLocals = 7 ∧ (∀ w ∈ TB, w.before args s = true) ∧ (∀ w ∈ (cx :: TB), w.before args s = true) ∧ s.vm.findClass RL = some m.cls ∧ KK D cI s ∧ SX D (lA s) s ∧ va_X b L xs s s.heap ∧ b < s.heap.size ∧ l.stackTraces = false ∧ 14 ≤ R.frames ∧ 500 ≤ R.locals
theorem ml_root {cI : ClassId} {B : Nat × (Nat → Nat)} {M : Nat → Nat → Int32} : (B.1, Sum.inr (12, o_X12 B.2 (M 0))) ∈ rfw cI B M := List.mem_cons_self
section ZLAW
variable {p : Program} {l : Launch} {e : Env} {R : Room} {s : State} {m : MethodId} {args : Array Value} {below : List Frame} {meth : Method} {c : Code} {H H0 : Heap} {locs : List Loc} {cells slots pc : Nat} {Q : State → Prop} {cc : ByteArray} {ls : Array Slot} {rest : List Value} {A : Nat → Prop} {D : va_G} {ws : va_W} {cI : ClassId} {wc fr : va_W} {st0 : List Value} {a9 : Array Value}
theorem z_cinF {σ : Type} {v : Int32} {w1 ws1 : σ → va_W} {mc ms : Nat} (hr : va_Run p l e R s m args below meth c H locs cells slots mc ms (F0 m pc ls st0) rest (Rin D wc v w1 H.size a9) (va_A wc H.size)) (hP : va_P D vwCl ws H) (hD : va_D A ws) (hS : va_S A H0 H locs) (hA : ∀ q : Nat, H0.size ≤ q → A q) (hp : ws.Perm (wc ++ fr)) (hp1 : ∀ u, (ws1 u).Perm (w1 u ++ fr))
    (kk : ∀ (u : σ) (H1 : Heap) (locs1 : List Loc), va_P D vwCl (ws1 u) H1 → va_D A (ws1 u) → va_S A H0 H1 locs1 → W p l e R s m args below meth c H1 locs1 (cells + mc) (slots + ms) Q (F0 m (pc + 3) ls (.int v :: rest))) : W p l e R s m args below meth c H locs cells slots Q (F0 m pc ls st0) := by
  have hF := z_frA hD hS hA hp
  refine va_calli hr hS (fun q _ h => hF q h) hF (fun r u t H1 locs1 ht hvm hw hB hz1 hk1 hS1 => ?_)
  obtain ⟨h1, h2⟩ := z_fr hP hD hp hk1 hF (by rw [ht] at hB; exact hB) (hp1 u)
  rw [hw]
  exact kk u H1 locs1 h1 h2 hS1
theorem z_clnF {σ : Type} {v : Int64} {w1 ws1 : σ → va_W} {mc ms : Nat} (hr : va_Run p l e R s m args below meth c H locs cells slots mc ms (F0 m pc ls st0) rest (Rln D wc v w1 H.size a9) (va_A wc H.size)) (hP : va_P D vwCl ws H) (hD : va_D A ws) (hS : va_S A H0 H locs) (hA : ∀ q : Nat, H0.size ≤ q → A q) (hp : ws.Perm (wc ++ fr)) (hp1 : ∀ u, (ws1 u).Perm (w1 u ++ fr))
    (kk : ∀ (u : σ) (H1 : Heap) (locs1 : List Loc), va_P D vwCl (ws1 u) H1 → va_D A (ws1 u) → va_S A H0 H1 locs1 → W p l e R s m args below meth c H1 locs1 (cells + mc) (slots + ms) Q (F0 m (pc + 3) ls (.long v :: rest))) : W p l e R s m args below meth c H locs cells slots Q (F0 m pc ls st0) := by
  have hF := z_frA hD hS hA hp
  refine va_calll hr hS (fun q _ h => hF q h) hF (fun r u t H1 locs1 ht hvm hw hB hz1 hk1 hS1 => ?_)
  obtain ⟨h1, h2⟩ := z_fr hP hD hp hk1 hF (by rw [ht] at hB; exact hB) (hp1 u)
  rw [hw]
  exact kk u H1 locs1 h1 h2 hS1
theorem z_clF {v : Int64} {w1 ws1 : va_W} (hr : va_Run p l e R s m args below meth c H locs cells slots 0 0 (F0 m pc ls st0) rest (Rl D wc v w1 H.size a9) (va_A wc H.size)) (hP : va_P D vwCl ws H) (hD : va_D A ws) (hS : va_S A H0 H locs) (hA : ∀ q : Nat, H0.size ≤ q → A q) (hp : ws.Perm (wc ++ fr)) (hp1 : ws1.Perm (w1 ++ fr))
    (kk : ∀ (H1 : Heap) (locs1 : List Loc), va_P D vwCl ws1 H1 → va_D A ws1 → va_S A H0 H1 locs1 → W p l e R s m args below meth c H1 locs1 cells slots Q (F0 m (pc + 3) ls (.long v :: rest))) : W p l e R s m args below meth c H locs cells slots Q (F0 m pc ls st0) := by
  have hF := z_frA hD hS hA hp
  refine va_calll hr hS (fun q _ h => hF q h) hF (fun r u t H1 locs1 ht hvm hw hB hz1 hk1 hS1 => ?_)
  obtain ⟨h1, h2⟩ := z_fr hP hD hp hk1 hF (by rw [ht] at hB; exact hB) hp1
  rw [hw]
  exact kk H1 locs1 h1 h2 hS1
variable {y : MethodName} {cx : Cond} {bytes : ByteArray} {maxL nL n index ci mc ms : Nat} {ret : Option FieldType} {rm : Room} {own C : String} {b : Addr} {As : List Value} {fs : List Value} {T : u_T} {N : Nat} {Qc : Array Value → State → Outcome → State → Prop} {hh : List (Nat × Nat × Nat × Nat)}
theorem z_rSW (hx : p.tables.exec = Jvm.exec) (hb : c.code = cc) (hml : c.maxLocals = nL) (hown : s.vm.findClass own = some m.cls) (hcx : ∀ w ∈ (cx :: TB), w.before args s = true) (hlsz : ls.size = nL) (hM : Met l y (Cond.codeWith y bytes maxL ret hh :: TB) rm (Pz D cI As wc H.size) Qc mc ms (va_A wc H.size))
    (t1 : Cond.methodLink own index y ∈ TB) (t2 : Cond.static y ∈ TB) (t4 : Cond.initialized C ∈ TB) (t5 : Cond.codeWith y bytes maxL ret hh ∈ TB) (hd : y.cls = C ∧ y.cls ≠ "java/lang/invoke/MethodHandle" ∧ y.cls ≠ "java/lang/invoke/VarHandle" ∧ (parseMethodDescriptor y.desc).map (fun d => d.parameters.length) = some n) (hrc : rm.cells = mc) (hrs : rm.slots = ms) (hR : rm.frames + 1 ≤ R.frames ∧ 8 + (maxL + 11) + rm.locals ≤ R.locals)
    (hK : KK D cI s) (hX : SX D A s) (hS : va_S A s.heap H locs) (hA : ∀ q : Nat, s.heap.size ≤ q → A q) (hP : va_P D vwCl ws H) (hD : va_D A ws) (hp : ws.Perm (wc ++ fr)) (hlen : As.length = n) (hst : st0 = As.reverse ++ rest) (hroom : (rest.map fun v => v.category).sum ≤ 8) (hdg : decode cc pc = .ok (.invokestatic index, 3)) (hf : cells + mc ≤ R.cells ∧ slots + ms ≤ R.slots) :
    va_Run p l e R s m args below meth c H locs cells slots mc ms (F0 m pc ls st0) rest (Qc As.toArray) (va_A wc H.size) := by
  have hG : GoodIn (cx :: TB) (va_wsS own index y (Cond.codeWith y bytes maxL ret hh :: TB)) := by
    refine tb_in (fun w hw => ?_)
    rcases List.mem_append.mp hw with h | h
    · simp only [List.mem_cons, List.not_mem_nil, or_false] at h
      rcases h with rfl | rfl | rfl
      · exact t1
      · exact t2
      · rw [hd.1]; exact t4
    · exact tb_c t5 w h
  exact vx_runSW ⟨hx, hb, hml, hown, hcx⟩ hM (vx_cwSW n hcx hG rfl hrc hrs hd.2 hR) ⟨Pz_blind, z_preF hP hD hK hX hS hA hp⟩ rfl hlen hlsz hst (lv_room hroom) hdg hf
end ZLAW
