/-! ===== the frame rule of contracts: what a method does in its own world it does in every larger one ===== -/
section LF
variable {l : Launch} {y : MethodName} {cy : Cond} {rm : Room} {D : va_G} {cI : ClassId} {As : List Value} {wc fr ws : va_W}
theorem lf_sub (hp : ws.Perm (wc ++ fr)) {sz q : Nat} (h : va_A wc sz q) : va_A ws sz q := by
  rcases h with ⟨k, e, hk⟩ | h
  · have hm : (q, e) ∈ ws := hp.mem_iff.mpr (List.mem_append_left _ (List.mem_of_getElem? hk))
    obtain ⟨i, hi⟩ := List.mem_iff_getElem?.mp hm
    exact Or.inl ⟨i, e, hi⟩
  · exact Or.inr h
theorem lf_P (hp : ws.Perm (wc ++ fr)) {H : Heap} (h : va_P D vwCl ws H) : va_P D vwCl wc H := va_P_iff.mpr (fun q hq => va_P_iff.mp h q (hp.mem_iff.mpr (List.mem_append_left _ hq)))
theorem lf_D (hp : ws.Perm (wc ++ fr)) {A : Nat → Prop} (h : va_D A ws) : va_D A wc := by
  have h1 := va_D_iff.mp (va_D_perm hp h)
  rw [List.map_append] at h1
  exact va_D_iff.mpr ⟨(List.nodup_append.mp h1.1).1, fun q hq => h1.2 q (List.mem_append_left _ hq)⟩
theorem lf_pre (hp : ws.Perm (wc ++ fr)) {sz : Nat} {a : Array Value} {U : State} (h : Pz D cI As ws sz a U) : Pz D cI As wc sz a U := by
  obtain ⟨h1, hsz, hP, hK, hX, hD⟩ := h
  exact ⟨h1, hsz, lf_P hp hP, hK, hX.call (H := U.heap) (locs := []) va_S.rf (fun q hq => lf_sub hp hq) rfl (State.WarmedH.refl U), lf_D hp hD⟩
theorem lf_B (hp : ws.Perm (wc ++ fr)) {sz : Nat} {a : Array Value} {st t : State} {w1 ws1 : va_W} (h : Pz D cI As ws sz a st) (hp1 : ws1.Perm (w1 ++ fr)) (hB : va_P D vwCl w1 t.heap ∧ va_D (va_A wc sz) w1) (hF : va_F (va_A wc sz) st t) : va_P D vwCl ws1 t.heap ∧ va_D (va_A ws sz) ws1 := by
  obtain ⟨h1, hsz, hP, hK, hX, hD⟩ := h
  subst hsz
  exact z_fr (H := st.heap) hP (hD.self (sz := st.heap.size)) hp hF.2 (fun q hq => lf_sub hp hq) hB hp1
theorem lf_F (hp : ws.Perm (wc ++ fr)) {sz : Nat} {st t : State} (hF : va_F (va_A wc sz) st t) : va_F (va_A ws sz) st t := ⟨hF.1, fun q h1 h2 => hF.2 q h1 (fun h3 => h2 (lf_sub hp h3))⟩
def Rln {σ : Type} (D : va_G) (wc : va_W) (v : Int64) (w1 : σ → va_W) (sz : Nat) : Array Value → State → Outcome → State → Prop := va_Ql (fun (r : Int64) (_ : σ) => r = v) (fun u t => va_P D vwCl (w1 u) t.heap ∧ va_D (va_A wc sz) (w1 u)) (va_A wc sz)
def CTln {σ : Type} (l : Launch) (y : MethodName) (cy : Cond) (rm : Room) (D : va_G) (cI : ClassId) (As : List Value) (wc : va_W) (v : Int64) (w1 : σ → va_W) (mc ms : Nat) : Prop := ∀ sz : Nat, Met l y (cy :: TB) rm (Pz D cI As wc sz) (Rln D wc v w1 sz) mc ms (va_A wc sz)
theorem lf_i {τ : Type} {v : Int32} {w1 : va_W} {ws1 : τ → va_W} (h : CTi l y cy rm D cI As wc v w1) (g : τ) (hp : ws.Perm (wc ++ fr)) (hp1 : (ws1 g).Perm (w1 ++ fr)) : CTin l y cy rm D cI As ws v ws1 0 0 := by
  intro sz
  refine MetFree.mono (h sz) (fun a U hU => lf_pre hp hU) (fun _ _ _ _ _ q => q) ?_
  rintro a st o t hst ⟨⟨⟨r, u, ho, hr, hB⟩, hF⟩, L, hE, hL⟩
  exact ⟨⟨⟨r, g, ho, hr, lf_B hp hst hp1 hB hF⟩, lf_F hp hF⟩, L, hE, fun q hq => lf_sub hp (hL q hq)⟩
theorem lf_l {τ : Type} {v : Int64} {w1 : va_W} {ws1 : τ → va_W} (h : CTl l y cy rm D cI As wc v w1) (g : τ) (hp : ws.Perm (wc ++ fr)) (hp1 : (ws1 g).Perm (w1 ++ fr)) : CTln l y cy rm D cI As ws v ws1 0 0 := by
  intro sz
  refine MetFree.mono (h sz) (fun a U hU => lf_pre hp hU) (fun _ _ _ _ _ q => q) ?_
  rintro a st o t hst ⟨⟨⟨r, u, ho, hr, hB⟩, hF⟩, L, hE, hL⟩
  exact ⟨⟨⟨r, g, ho, hr, lf_B hp hst hp1 hB hF⟩, lf_F hp hF⟩, L, hE, fun q hq => lf_sub hp (hL q hq)⟩
theorem lf_v {τ : Type} {w1 : va_W} {ws1 : τ → va_W} (h : CTv l y cy rm D cI As wc w1) (g : τ) (hp : ws.Perm (wc ++ fr)) (hp1 : (ws1 g).Perm (w1 ++ fr)) : CTn l y cy rm D cI As ws ws1 0 0 := by
  intro sz
  refine MetFree.mono (h sz) (fun a U hU => lf_pre hp hU) (fun _ _ _ _ _ q => q) ?_
  rintro a st o t hst ⟨⟨⟨u, ho, hr, hB⟩, hF⟩, L, hE, hL⟩
  exact ⟨⟨⟨g, ho, trivial, lf_B hp hst hp1 hB hF⟩, lf_F hp hF⟩, L, hE, fun q hq => lf_sub hp (hL q hq)⟩
theorem lf_in {σ τ : Type} {v : Int32} {w1 : σ → va_W} {ws1 : τ → va_W} {mc ms : Nat} (h : CTin l y cy rm D cI As wc v w1 mc ms) (g : σ → τ) (hp : ws.Perm (wc ++ fr)) (hp1 : ∀ u, (ws1 (g u)).Perm (w1 u ++ fr)) : CTin l y cy rm D cI As ws v ws1 mc ms := by
  intro sz
  refine MetFree.mono (h sz) (fun a U hU => lf_pre hp hU) (fun _ _ _ _ _ q => q) ?_
  rintro a st o t hst ⟨⟨⟨r, u, ho, hr, hB⟩, hF⟩, L, hE, hL⟩
  exact ⟨⟨⟨r, g u, ho, hr, lf_B hp hst (hp1 u) hB hF⟩, lf_F hp hF⟩, L, hE, fun q hq => lf_sub hp (hL q hq)⟩
theorem lf_n {σ τ : Type} {w1 : σ → va_W} {ws1 : τ → va_W} {mc ms : Nat} (h : CTn l y cy rm D cI As wc w1 mc ms) (g : σ → τ) (hp : ws.Perm (wc ++ fr)) (hp1 : ∀ u, (ws1 (g u)).Perm (w1 u ++ fr)) : CTn l y cy rm D cI As ws ws1 mc ms := by
  intro sz
  refine MetFree.mono (h sz) (fun a U hU => lf_pre hp hU) (fun _ _ _ _ _ q => q) ?_
  rintro a st o t hst ⟨⟨⟨u, ho, hr, hB⟩, hF⟩, L, hE, hL⟩
  exact ⟨⟨⟨g u, ho, trivial, lf_B hp hst (hp1 u) hB hF⟩, lf_F hp hF⟩, L, hE, fun q hq => lf_sub hp (hL q hq)⟩
theorem lf_x {σ τ : Type} {x v : Int32} {w1 : σ → va_W} {ws1 : τ → va_W} {mc ms : Nat} (h : CTx l y cy rm D cI As wc x v w1 mc ms) (g : σ → τ) (hp : ws.Perm (wc ++ fr)) (hp1 : ∀ u, (ws1 (g u)).Perm (w1 u ++ fr)) : CTx l y cy rm D cI As ws x v ws1 mc ms := by
  intro sz
  refine MetFree.mono (h sz) (fun a U hU => lf_pre hp hU) (fun _ _ _ _ _ q => q) ?_
  rintro a st o t hst (⟨⟨⟨r, u, ho, hr, hB⟩, hF⟩, L, hE, hL⟩ | ⟨q, ho, E, ce, L, ⟨u, hx, ⟨hn, hB⟩, hF⟩, h1, h2, h3, h4, h5, hL⟩)
  · exact Or.inl ⟨⟨⟨r, g u, ho, hr, lf_B hp hst (hp1 u) hB hF⟩, lf_F hp hF⟩, L, hE, fun q hq => lf_sub hp (hL q hq)⟩
  · exact Or.inr ⟨q, ho, E, ce, L, ⟨g u, hx, ⟨hn, lf_B hp hst (hp1 u) hB hF⟩, lf_F hp hF⟩, h1, h2, h3, h4, h5, fun q hq => lf_sub hp (hL q hq)⟩
end LF
def upC (S : Nat → Nat → Int32) (k : Nat) (f : Nat → Int32) : Nat → Nat → Int32 := fun j => cond (Nat.beq j k) f (S j)
theorem perm_hist {α : Type} {S A B tl t2 : List α} (idx : List Nat) (n : Nat) (hn : S.length = n) (h : idx.isPerm (List.range n) = true) (hm : idx.map (fun i => S[i]?) = (A ++ B).map some) : (S ++ (tl ++ t2)).Perm ((A ++ tl) ++ (B ++ t2)) := by
  subst hn
  have hp := perm_idx idx h hm
  refine (hp.append_right (tl ++ t2)).trans ?_
  rw [List.append_assoc, List.append_assoc]
  refine List.Perm.append_left A ?_
  rw [← List.append_assoc, ← List.append_assoc]
  exact List.Perm.append_right t2 List.perm_append_comm
