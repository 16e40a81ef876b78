/-! ===== the words of all contracts: the good ones of the tables ===== -/
def TB : List Cond := lw_tbl.filter goodWord
theorem tb_of {w : Cond} (i : Nat) (h : lw_tbl[i]? = some w) (hg : goodWord w = true) : w ∈ TB := List.mem_filter.mpr ⟨List.mem_of_getElem? h, hg⟩
theorem tb_good : ∀ w ∈ TB, goodWord w = true := fun w h => (List.mem_filter.mp h).2
theorem tb_in {x : Cond} {ws : List Cond} (h : ∀ w ∈ ws, w ∈ TB) : GoodIn (x :: TB) ws := fun w hw => ⟨List.mem_cons_of_mem _ (h w hw), good_of_word (tb_good w (h w hw))⟩
theorem tb_c {y : Cond} (h : y ∈ TB) : ∀ w ∈ y :: TB, w ∈ TB := fun w hw => (List.mem_cons.mp hw).elim (fun e => e ▸ h) id
theorem tb_V {x : Cond} {own : String} {idx : Nat} {C : String} {y : MethodName} {cy : Cond} (h1 : Cond.methodLink own idx y ∈ TB) (h2 : Cond.instanceMethod y ∈ TB) (h3 : Cond.selects C y y ∈ TB) (h4 : Cond.initialized C ∈ TB) (h5 : cy ∈ TB) : GoodIn (x :: TB) (wsV own idx C y (cy :: TB)) := by
  refine tb_in (fun w hw => ?_)
  rcases List.mem_append.mp hw with h | h
  · simp only [List.mem_cons, List.not_mem_nil, or_false] at h
    rcases h with rfl | rfl | rfl | rfl <;> assumption
  · exact tb_c h5 w h
theorem tb_S {x : Cond} {own : String} {idx : Nat} {y : MethodName} {cy : Cond} (h1 : Cond.methodLink own idx y ∈ TB) (h2 : Cond.static y ∈ TB) (h4 : Cond.initialized own ∈ TB) (h5 : cy ∈ TB) : GoodIn (x :: TB) (wsS own idx y (cy :: TB)) := by
  refine tb_in (fun w hw => ?_)
  rcases List.mem_append.mp hw with h | h
  · simp only [List.mem_cons, List.not_mem_nil, or_false] at h
    rcases h with rfl | rfl | rfl <;> assumption
  · exact tb_c h5 w h
/-! ===== the nest's links ===== -/
def isNest : Cond → Bool
  | .methodLinkNest _ _ _ _ => true
  | .fieldLinkNest _ _ _ _ _ _ => true
  | _ => false
def NST : List Cond := lw_tbl.filter isNest
theorem nst_of {w : Cond} (i : Nat) (h : lw_tbl[i]? = some w) (hg : isNest w = true) : w ∈ NST := List.mem_filter.mpr ⟨List.mem_of_getElem? h, hg⟩
