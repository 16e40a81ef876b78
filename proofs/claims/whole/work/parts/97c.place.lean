/-! ===== a text of the reference: the place of a fault changes with the fault alone ===== -/
def okFb {α : Type} (g : α → (Nat → Int32)) (F : Nat → Int32) (r : Option α) : Prop := ∀ u, r = some u → g u 38 = 0 → F 38 = 0 ∧ g u 15 = F 15
abbrev gI (u : Nat → Int32) : Nat → Int32 := u
abbrev gS2 (u : Int32 × (Nat → Int32)) : Nat → Int32 := u.2
abbrev gF2 (u : (Nat → Int32) × (Nat → Int32)) : Nat → Int32 := u.1
abbrev gU (u : Int32 × (Nat → Int32) × (Nat → Int32)) : Nat → Int32 := u.2.1
abbrev gF3 (u : (Nat → Int32) × (Nat → Int32) × (Nat → Int32)) : Nat → Int32 := u.1
theorem ob_some {α : Type} {g : α → (Nat → Int32)} {F : Nat → Int32} {u : α} (h : g u = F) : okFb g F (some u) := by
  intro v hv h0
  obtain rfl := Option.some.inj hv
  rw [h] at h0 ⊢
  exact ⟨h0, rfl⟩
theorem ob_none {α : Type} {g : α → (Nat → Int32)} {F : Nat → Int32} : okFb g F (none : Option α) := fun _ h => by cases h
theorem ob_if {α : Type} {g : α → (Nat → Int32)} {F : Nat → Int32} {c : Prop} [Decidable c] {x y : Option α} (h1 : okFb g F x) (h2 : okFb g F y) : okFb g F (if c then x else y) := by
  by_cases h : c
  · rw [if_pos h]; exact h1
  · rw [if_neg h]; exact h2
theorem ob_bd {α β : Type} {g1 : β → (Nat → Int32)} {g : α → (Nat → Int32)} {F : Nat → Int32} {r : Option β} {k : β → Option α} (h1 : okFb g1 F r) (h2 : ∀ u, okFb g (g1 u) (k u)) : okFb g F (bd r k) := by
  intro v hv h0
  obtain ⟨u, hu, hk⟩ := bd_some hv
  obtain ⟨a, b⟩ := h2 u v hk h0
  obtain ⟨c, d⟩ := h1 u hu a
  exact ⟨c, b.trans d⟩
theorem ob_b0 {α β : Type} {g : α → (Nat → Int32)} {F : Nat → Int32} {r : Option β} {k : β → Option α} (h2 : ∀ u, okFb g F (k u)) : okFb g F (bd r k) := by
  intro v hv h0
  obtain ⟨u, hu, hk⟩ := bd_some hv
  exact h2 u v hk h0
theorem ob_nm {α β : Type} {g : α → (Nat → Int32)} {F : Nat → Int32} {x : β} {k : β → Option α} (h : okFb g F (k x)) : okFb g F (nm x k) := h
theorem ob_nu {α : Type} {g : α → (Nat → Int32)} {F : Nat → Int32} {j : Nat} {v : Int32} {k : (Nat → Int32) → Option α} (h : okFb g (upd F j v) (k (upd F j v))) (h1 : ¬ 38 = j := by decide) (h2 : ¬ 15 = j := by decide) : okFb g F (nm (upd F j v) k) := by
  intro u hu h0
  obtain ⟨a, b⟩ := h u hu h0
  rw [upd_ne h1] at a
  rw [upd_ne h2] at b
  exact ⟨a, b⟩
theorem ob_rd {α : Type} {g : α → (Nat → Int32)} {F a : Nat → Int32} {n : Nat} {i : Int32} {k : Int32 → Option α} (h : ∀ y, okFb g F (k y)) : okFb g F (rd a n i k) := by
  unfold rd
  exact ob_if ob_none (h _)
theorem ob_wr {α : Type} {g : α → (Nat → Int32)} {F a : Nat → Int32} {n : Nat} {i x : Int32} {k : (Nat → Int32) → Option α} (h : ∀ y, okFb g F (k y)) : okFb g F (wr a n i x k) := by
  unfold wr
  exact ob_if ob_none (h _)
theorem ob_j24 {F : Nat → Int32} {p c : Int32} : okFb gS2 F (m_X12_wants_j24 p c F) := by
  rw [m_X12_wants_j24]
  exact ob_if (ob_some rfl) (ob_some rfl)
theorem ob_wants {F : Nat → Int32} {p c : Int32} (hc : ¬ c = 0 := by decide) : okFb gS2 F (m_X12_wants F p c) := by
  rw [m_X12_wants]
  refine ob_if (ob_if ?_ ob_j24) ob_j24
  intro u hu h0
  have hu : m_X12_wants_j24 p c (upd (upd F 38 c) 15 (upd F 38 c 33)) = some u := hu
  obtain ⟨a, -⟩ := ob_j24 u hu h0
  rw [upd_ne (by decide), upd_eq] at a
  exact absurd a hc
theorem ob_g283 {tp F : Nat → Int32} {x s : Int32} : okFb gI F (m_X12_go_j283 tp x s F) := by
  rw [m_X12_go_j283]
  exact ob_nu (ob_nu (ob_some rfl))
theorem ob_g278 {tp F : Nat → Int32} {x : Int32} : okFb gI F (m_X12_go_j278 tp x F) := by
  rw [m_X12_go_j278]
  exact ob_g283
theorem ob_g255 {tp F : Nat → Int32} {x : Int32} : okFb gI F (m_X12_go_j255 tp x F) := by
  rw [m_X12_go_j255]
  exact ob_nu (ob_if ob_g278 (ob_if ob_g278 ob_g283))
theorem ob_g247 {tp F : Nat → Int32} : okFb gI F (m_X12_go_j247 tp F) := by
  rw [m_X12_go_j247]
  exact ob_nu (ob_some rfl)
theorem ob_g231 {tp F : Nat → Int32} {k : (Nat → Int32) → Option (Nat → Int32)} {s : Int32} (hk : ∀ F, okFb gI F (k F)) : okFb gI F (m_X12_go_j231 tp k s F) := by
  rw [m_X12_go_j231]
  exact ob_nu (ob_nu (hk _))
theorem ob_g166 {tp : Nat → Int32} {k : (Nat → Int32) → Option (Nat → Int32)} (hk : ∀ F, okFb gI F (k F)) : ∀ (n : Nat) (F : Nat → Int32), okFb gI F (m_X12_go_w166 tp k n F) := by
  intro n
  induction n with
  | zero => intro F; rw [m_X12_go_w166]; exact ob_none
  | succ n ih =>
    intro F
    rw [m_X12_go_w166]
    exact ob_b0 (fun _ => ob_if (hk _) (ob_b0 (fun _ => ob_if (hk _) (ob_if (ob_g231 ih) (ob_b0 (fun _ => ob_g231 ih))))))
theorem ob_g130 {tp F : Nat → Int32} : okFb gI F (m_X12_go_j130 tp F) := by
  rw [m_X12_go_j130]
  exact ob_nu (ob_b0 (fun _ => ob_nu (ob_some rfl)))
theorem ob_g103 {tp : Nat → Int32} {k : (Nat → Int32) → Option (Nat → Int32)} (hk : ∀ F, okFb gI F (k F)) : ∀ (n : Nat) (F : Nat → Int32), okFb gI F (m_X12_go_w103 tp k n F) := by
  intro n
  induction n with
  | zero => intro F; rw [m_X12_go_w103]; exact ob_none
  | succ n ih =>
    intro F
    rw [m_X12_go_w103]
    exact ob_b0 (fun _ => ob_b0 (fun _ => ob_if (hk _) (ob_nu (ih _))))
theorem ob_g50 {tp F : Nat → Int32} : okFb gI F (m_X12_go_j50 tp F) := by
  rw [m_X12_go_j50]
  exact ob_nu (ob_b0 (fun _ => ob_nu (ob_nu (ob_if (ob_b0 (fun _ => ob_if (ob_if ob_g255 (ob_if ob_g255 (ob_g166 (fun _ => ob_g247) _ _))) (ob_g103 (fun _ => ob_g130) _ _))) (ob_nu (ob_some rfl))))))
theorem ob_g37 {tp F : Nat → Int32} {k : (Nat → Int32) → Option (Nat → Int32)} (hk : ∀ F, okFb gI F (k F)) : okFb gI F (m_X12_go_j37 tp k F) := by
  rw [m_X12_go_j37]
  exact ob_nu (hk _)
theorem ob_g0 {tp : Nat → Int32} {k : (Nat → Int32) → Option (Nat → Int32)} (hk : ∀ F, okFb gI F (k F)) : ∀ (n : Nat) (F : Nat → Int32), okFb gI F (m_X12_go_w0 tp k n F) := by
  intro n
  induction n with
  | zero => intro F; rw [m_X12_go_w0]; exact ob_none
  | succ n ih =>
    intro F
    rw [m_X12_go_w0]
    exact ob_if (hk _) (ob_b0 (fun _ => ob_if (ob_g37 ih) (ob_b0 (fun _ => ob_if (ob_g37 ih) (hk _)))))
theorem ob_go {tp F : Nat → Int32} : okFb gI F (m_X12_go F tp) := by
  rw [m_X12_go]
  exact ob_g0 (fun _ => ob_g50) _ _
theorem ob_n14 {tp F : Nat → Int32} {x y s : Int32} : okFb gS2 F (m_X12_numberHere_j14 tp x y s F) := by
  rw [m_X12_numberHere_j14]
  exact ob_bd ob_wants (fun _ => ob_if (ob_some rfl) (ob_b0 (fun _ => ob_bd ob_wants (fun _ => ob_if (ob_some rfl) (ob_nm (ob_bd ob_go (fun _ => ob_some rfl)))))))
theorem ob_num {tp F : Nat → Int32} {x y : Int32} : okFb gS2 F (m_X12_numberHere F tp x y) := by
  rw [m_X12_numberHere]
  exact ob_if ob_n14 ob_n14
theorem ob_u59 {tp F mem : Nat → Int32} {s : Int32} : okFb gU F (m_X12_usedHere_j59 tp s F mem) := by
  rw [m_X12_usedHere_j59]
  exact ob_bd ob_wants (fun _ => ob_if (ob_some rfl) (ob_nm (ob_b0 (fun _ => ob_wr (fun _ => ob_bd ob_go (fun _ => ob_some rfl))))))
theorem ob_u14 {tp F mem : Nat → Int32} {s : Int32} : okFb gU F (m_X12_usedHere_j14 tp s F mem) := by
  rw [m_X12_usedHere_j14]
  exact ob_bd ob_wants (fun _ => ob_if (ob_some rfl) (ob_b0 (fun _ => ob_bd ob_wants (fun _ => ob_if (ob_some rfl) (ob_b0 (fun _ => ob_if ob_u59 ob_u59))))))
theorem ob_used {tp F mem : Nat → Int32} : okFb gU F (m_X12_usedHere F tp mem) := by
  rw [m_X12_usedHere]
  exact ob_if ob_u14 ob_u14
theorem ob_c153 {tp F mem : Nat → Int32} {k : Int32 → Int32 → (Nat → Int32) → (Nat → Int32) → Option ((Nat → Int32) × (Nat → Int32))} {x s : Int32} (hk : okFb gF2 F (k x s F mem)) : okFb gF2 F (m_X12_chain1_j153 tp k x s F mem) := by
  rw [m_X12_chain1_j153]
  exact hk
theorem ob_c99 {tp : Nat → Int32} : ∀ (n : Nat) (x y : Int32) (F mem : Nat → Int32), okFb gF2 F (m_X12_chain1_w99 tp n x y F mem) := by
  intro n
  induction n with
  | zero => intro x y F mem; rw [m_X12_chain1_w99]; exact ob_none
  | succ n ih =>
    intro x y F mem
    rw [m_X12_chain1_w99]
    exact ob_if (ob_some rfl) (ob_if (ob_bd ob_used (fun _ => ob_if (ob_b0 (fun _ => ob_wr (fun _ => ob_b0 (fun _ => ob_nm (ob_if (ob_c153 (ih _ _ _ _)) (ob_c153 (ih _ _ _ _))))))) (ob_some rfl))) (ob_some rfl))
theorem ob_c62 {tp F mem : Nat → Int32} {s : Int32} : okFb gF2 F (m_X12_chain1_j62 tp s F mem) := by
  rw [m_X12_chain1_j62]
  exact ob_bd ob_wants (fun _ => ob_if (ob_some rfl) (ob_nu (ob_nm (ob_bd ob_go (fun _ => ob_c99 _ _ _ _ _)))))
theorem ob_c18 {tp F mem : Nat → Int32} {s : Int32} : okFb gF2 F (m_X12_chain1_j18 tp s F mem) := by
  rw [m_X12_chain1_j18]
  exact ob_bd ob_wants (fun _ => ob_if (ob_some rfl) (ob_b0 (fun _ => ob_bd ob_wants (fun _ => ob_if (ob_some rfl) (ob_if ob_c62 ob_c62)))))
theorem ob_chain {tp F mem : Nat → Int32} : okFb gF2 F (m_X12_chain1 F tp mem) := by
  rw [m_X12_chain1]
  exact ob_bd ob_go (fun _ => ob_if ob_c18 ob_c18)
theorem ob_w113 {tp F : Nat → Int32} {k : Int32 → (Nat → Int32) → Option (Nat → Int32)} {s : Int32} (hk : okFb gI F (k s F)) : okFb gI F (m_X12_without1_j113 tp k s F) := by
  rw [m_X12_without1_j113]
  exact hk
theorem ob_w70 {tp F : Nat → Int32} {k : Int32 → (Nat → Int32) → Option (Nat → Int32)} {s : Int32} (hk : ∀ x F, okFb gI F (k x F)) : okFb gI F (m_X12_without1_j70 tp k s F) := by
  rw [m_X12_without1_j70]
  exact ob_bd ob_wants (fun _ => ob_if (ob_some rfl) (ob_nu (ob_bd ob_go (fun _ => ob_if (ob_w113 (hk _ _)) (ob_w113 (hk _ _))))))
theorem ob_w40 {tp F : Nat → Int32} {k : Int32 → (Nat → Int32) → Option (Nat → Int32)} {s : Int32} (hk : ∀ x F, okFb gI F (k x F)) : okFb gI F (m_X12_without1_j40 tp k s F) := by
  rw [m_X12_without1_j40]
  exact ob_bd ob_wants (fun _ => ob_if (ob_some rfl) (ob_if (ob_w70 hk) (ob_w70 hk)))
theorem ob_w39 {tp F : Nat → Int32} {k : Int32 → (Nat → Int32) → Option (Nat → Int32)} (hk : ∀ x F, okFb gI F (k x F)) : okFb gI F (m_X12_without1_j39 tp k F) := by
  rw [m_X12_without1_j39]
  exact ob_w40 hk
theorem ob_w6 {tp : Nat → Int32} : ∀ (n : Nat) (x : Int32) (F : Nat → Int32), okFb gI F (m_X12_without1_w6 tp n x F) := by
  intro n
  induction n with
  | zero => intro x F; rw [m_X12_without1_w6]; exact ob_none
  | succ n ih =>
    intro x F
    rw [m_X12_without1_w6]
    exact ob_if (ob_some rfl) (ob_if (ob_if (ob_if (ob_w39 ih) (ob_w40 ih)) (ob_w39 ih)) (ob_some rfl))
theorem ob_without {tp F : Nat → Int32} : okFb gI F (m_X12_without1 F tp) := by
  rw [m_X12_without1]
  exact ob_bd ob_go (fun _ => ob_w6 _ _ _)
theorem ob_d63 {tp F mem : Nat → Int32} {s : Int32} : okFb gF2 F (m_X12_data1_j63 tp s F mem) := by
  rw [m_X12_data1_j63]
  exact ob_bd ob_wants (fun _ => ob_if (ob_some rfl) (ob_nu (ob_b0 (fun _ => ob_bd ob_go (fun _ => ob_bd ob_num (fun _ => ob_wr (fun _ => ob_if (ob_bd ob_num (fun _ => ob_wr (fun _ => ob_some rfl))) (ob_some rfl))))))))
theorem ob_d18 {tp F mem : Nat → Int32} {s : Int32} : okFb gF2 F (m_X12_data1_j18 tp s F mem) := by
  rw [m_X12_data1_j18]
  exact ob_bd ob_wants (fun _ => ob_if (ob_some rfl) (ob_b0 (fun _ => ob_bd ob_wants (fun _ => ob_if (ob_some rfl) (ob_if ob_d63 ob_d63)))))
theorem ob_data {tp F mem : Nat → Int32} : okFb gF2 F (m_X12_data1 F tp mem) := by
  rw [m_X12_data1]
  exact ob_bd ob_go (fun _ => ob_if ob_d18 ob_d18)
theorem ob_o137 {tp F wt : Nat → Int32} {p x2 x3 x4 : Int32} : okFb gF2 F (m_X12_op1_j137 tp p x2 x3 x4 F wt) := by
  rw [m_X12_op1_j137]
  exact ob_rd (fun _ => ob_wr (fun _ => ob_rd (fun _ => ob_wr (fun _ => ob_rd (fun _ => ob_wr (fun _ => ob_rd (fun _ => ob_wr (fun _ => ob_some rfl))))))))
theorem ob_o128 {tp F wt : Nat → Int32} {p x2 x3 : Int32} : okFb gF2 F (m_X12_op1_j128 tp p x2 x3 F wt) := by
  rw [m_X12_op1_j128]
  exact ob_bd ob_num (fun _ => ob_o137)
theorem ob_o112 {tp F wt : Nat → Int32} {p x2 x3 x4 : Int32} : okFb gF2 F (m_X12_op1_j112 tp p x2 x3 x4 F wt) := by
  rw [m_X12_op1_j112]
  exact ob_if (ob_if ob_o128 (ob_if ob_o128 ob_o137)) ob_o137
theorem ob_o89 {tp F wt : Nat → Int32} {p x2 x3 x4 s : Int32} : okFb gF2 F (m_X12_op1_j89 tp p x2 x3 x4 s F wt) := by
  rw [m_X12_op1_j89]
  exact ob_bd ob_wants (fun _ => ob_if (ob_bd ob_num (fun _ => ob_o137)) ob_o137)
theorem ob_o84 {tp F wt : Nat → Int32} {p x2 x3 x4 : Int32} : okFb gF2 F (m_X12_op1_j84 tp p x2 x3 x4 F wt) := by
  rw [m_X12_op1_j84]
  exact ob_o89
theorem ob_o43 {tp F wt : Nat → Int32} {p x2 x3 x4 : Int32} : okFb gF2 F (m_X12_op1_j43 tp p x2 x3 x4 F wt) := by
  rw [m_X12_op1_j43]
  exact ob_if (ob_if (ob_if (ob_b0 (fun _ => ob_if ob_o84 (ob_if ob_o89 ob_o84))) ob_o84) ob_o112) ob_o112
theorem ob_o29 {tp F wt : Nat → Int32} {p x2 x3 x4 : Int32} : okFb gF2 F (m_X12_op1_j29 tp p x2 x3 x4 F wt) := by
  rw [m_X12_op1_j29]
  exact ob_if (ob_bd ob_num (fun _ => ob_o43)) ob_o43
theorem ob_op {tp F wt : Nat → Int32} {p : Int32} : okFb gF2 F (m_X12_op1 F tp wt p) := by
  rw [m_X12_op1]
  exact ob_nm (ob_bd ob_go (fun _ => ob_if ob_o29 (ob_bd ob_num (fun _ => ob_o29))))
theorem ob_e132 {tp F wt : Nat → Int32} {k : Int32 → Int32 → (Nat → Int32) → (Nat → Int32) → Option ((Nat → Int32) × (Nat → Int32))} {x s : Int32} (hk : ∀ x y F wt, okFb gF2 F (k x y F wt)) : okFb gF2 F (m_X12_do1_j132 tp k x s F wt) := by
  rw [m_X12_do1_j132]
  exact ob_bd ob_wants (fun _ => ob_if (ob_some rfl) (ob_bd ob_op (fun _ => ob_b0 (fun _ => hk _ _ _ _))))
theorem ob_e109 {tp F wt : Nat → Int32} {k : Int32 → Int32 → (Nat → Int32) → (Nat → Int32) → Option ((Nat → Int32) × (Nat → Int32))} {x s : Int32} (hk : ∀ x y F wt, okFb gF2 F (k x y F wt)) : okFb gF2 F (m_X12_do1_j109 tp k x s F wt) := by
  rw [m_X12_do1_j109]
  exact ob_bd ob_wants (fun _ => ob_if (ob_some rfl) (ob_rd (fun _ => ob_if (ob_e132 hk) (ob_e132 hk))))
theorem ob_e108 {tp F wt : Nat → Int32} {k : Int32 → Int32 → (Nat → Int32) → (Nat → Int32) → Option ((Nat → Int32) × (Nat → Int32))} {x : Int32} (hk : ∀ x y F wt, okFb gF2 F (k x y F wt)) : okFb gF2 F (m_X12_do1_j108 tp k x F wt) := by
  rw [m_X12_do1_j108]
  exact ob_e109 hk
theorem ob_e66 {tp : Nat → Int32} : ∀ (n : Nat) (x y : Int32) (F wt : Nat → Int32), okFb gF2 F (m_X12_do1_w66 tp n x y F wt) := by
  intro n
  induction n with
  | zero => intro x y F wt; rw [m_X12_do1_w66]; exact ob_none
  | succ n ih =>
    intro x y F wt
    rw [m_X12_do1_w66]
    exact ob_if (ob_some rfl) (ob_if (ob_bd ob_go (fun _ => ob_if (ob_b0 (fun _ => ob_if (ob_e108 ih) (ob_e109 ih))) (ob_e108 ih))) (ob_some rfl))
theorem ob_e54 {tp F wt : Nat → Int32} {x : Int32} : okFb gF2 F (m_X12_do1_j54 tp x F wt) := by
  rw [m_X12_do1_j54]
  exact ob_nu (ob_e66 _ _ _ _ _)
theorem ob_e33 {tp : Nat → Int32} {k : Int32 → (Nat → Int32) → (Nat → Int32) → Option ((Nat → Int32) × (Nat → Int32))} (hk : ∀ x F wt, okFb gF2 F (k x F wt)) : ∀ (n : Nat) (x y : Int32) (F wt : Nat → Int32), okFb gF2 F (m_X12_do1_w33 tp k n x y F wt) := by
  intro n
  induction n with
  | zero => intro x y F wt; rw [m_X12_do1_w33]; exact ob_none
  | succ n ih =>
    intro x y F wt
    rw [m_X12_do1_w33]
    exact ob_if (hk _ _ _) (ob_wr (fun _ => ob_nm (ih _ _ _ _)))
theorem ob_e15 {tp F wt : Nat → Int32} {s : Int32} : okFb gF2 F (m_X12_do1_j15 tp s F wt) := by
  rw [m_X12_do1_j15]
  exact ob_bd ob_wants (fun _ => ob_if (ob_some rfl) (ob_nm (ob_e33 (fun _ _ _ => ob_e54) _ _ _ _ _)))
theorem ob_do {tp F wt : Nat → Int32} : okFb gF2 F (m_X12_do1 F tp wt) := by
  rw [m_X12_do1]
  exact ob_if ob_e15 ob_e15
theorem ob_l102 {tp F mem wt : Nat → Int32} {s : Int32} : okFb gF3 F (m_X12_clause1_j102 tp s F mem wt) := by
  rw [m_X12_clause1_j102]
  exact ob_nu (ob_bd ob_go (fun _ => ob_some rfl))
theorem ob_l73 {tp F mem wt : Nat → Int32} {s : Int32} : okFb gF3 F (m_X12_clause1_j73 tp s F mem wt) := by
  rw [m_X12_clause1_j73]
  exact ob_bd ob_wants (fun _ => ob_if (ob_some rfl) (ob_nu (ob_if ob_l102 ob_l102)))
theorem ob_l16 {tp F mem wt : Nat → Int32} {s : Int32} : okFb gF3 F (m_X12_clause1_j16 tp s F mem wt) := by
  rw [m_X12_clause1_j16]
  exact ob_if (ob_if ob_l73 ob_l73) (ob_if (ob_if ob_l73 ob_l73) (ob_if (ob_bd ob_without (fun _ => ob_some rfl)) (ob_if (ob_bd ob_chain (fun _ => ob_some rfl)) (ob_if (ob_bd ob_go (fun _ => ob_bd ob_used (fun _ => ob_some rfl))) (ob_if (ob_bd ob_data (fun _ => ob_some rfl)) (ob_if (ob_bd ob_do (fun _ => ob_some rfl)) (ob_bd ob_wants (fun _ => ob_some rfl))))))))
theorem ob_clause {tp F mem wt : Nat → Int32} : okFb gF3 F (m_X12_clause1 F tp mem wt) := by
  rw [m_X12_clause1]
  exact ob_if ob_l16 ob_l16
