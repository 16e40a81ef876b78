/-! ===== the reference's plans (its field 19: how many writes; 20 to 22: shapes) ===== -/
theorem and1 (y : Int32) : y &&& 1 = 0 ∨ y &&& 1 = 1 := by
  have h : ∀ b : BitVec 32, b &&& 1#32 = 0#32 ∨ b &&& 1#32 = 1#32 := by
    intro b
    rw [BitVec.and_one_eq_setWidth_ofBool_getLsbD]
    cases b.getLsbD 0
    · exact Or.inl rfl
    · exact Or.inr rfl
  rcases h y.toBitVec with h | h
  · exact Or.inl (Int32.toBitVec_inj.mp h)
  · exact Or.inr (Int32.toBitVec_inj.mp h)
def PR (F w ad nu : Nat → Int32) (S : PS) : Prop := F 19 = nI S.2.length ∧ (∀ j, j < 64 → w j = nI (S.1 j)) ∧ (∀ j, j < 64 → S.1 j ≤ 99) ∧ ∀ k q, S.2[k]? = some q → ad k = nI q.1 ∧ nu k = nI q.2.1
def frF (F G : Nat → Int32) : Prop := ∀ j, j < 19 ∨ 22 < j → F j = G j
theorem r_writes {F w ad nu : Nat → Int32} {S : PS} {a v : Nat} (h : PR F w ad nu S) (ha : a < 64) (hv : v ≤ 99) (hl : S.2.length < 64) : ∃ R, m_X12_writes F w ad nu (nI a) (nI v) = some R ∧ PR R.1 R.2.1 R.2.2.1 R.2.2.2 (wR S (a, v)) ∧ frF R.1 F := by
  obtain ⟨h1, h4, h5, h6⟩ := h
  rw [m_X12_writes]
  simp (disch := omega) only [lit32, h1, wr_nI, nm, nI_add]
  refine ⟨_, rfl, ⟨?_, fun j hj => ?_, upN_le h5 hv, fun k q hk => ?_⟩, fun j hj => ?_⟩
  · show upd F 19 (nI (S.2.length + 1)) 19 = nI (S.2 ++ [(a, v, S.1 a)]).length
    rw [upd_eq, List.length_append, List.length_singleton]
  · show upd w a (nI v) j = nI (upN S.1 a v j)
    unfold upN
    by_cases e : j = a
    · rw [e, upd_eq, if_pos rfl]
    · rw [upd_ne e, if_neg e]; exact h4 j hj
  · have hk : (S.2 ++ [(a, v, S.1 a)])[k]? = some q := hk
    show upd ad S.2.length (nI a) k = nI q.1 ∧ upd nu S.2.length (nI v) k = nI q.2.1
    by_cases e : k < S.2.length
    · rw [List.getElem?_append_left e] at hk
      rw [upd_ne (by omega), upd_ne (by omega)]
      exact h6 k q hk
    · rw [List.getElem?_append_right (by omega)] at hk
      have hz := (List.getElem?_eq_some_iff.mp hk).1
      rw [List.length_singleton] at hz
      have hke : k = S.2.length := by omega
      rw [hke, Nat.sub_self] at hk
      cases hk
      rw [hke, upd_eq, upd_eq]
      exact ⟨rfl, rfl⟩
  · exact upd_ne (by omega)
theorem wR_len {S : PS} {q : Nat × Nat} : (wR S q).2.length = S.2.length + 1 := by
  show (S.2 ++ [_]).length = _
  rw [List.length_append, List.length_singleton]
theorem wR_fold_len : ∀ (L : List (Nat × Nat)) (S : PS), (L.foldl wR S).2.length = S.2.length + L.length := by
  intro L
  induction L with
  | nil => intro S; rfl
  | cons a t ih => intro S; show (t.foldl wR (wR S a)).2.length = _; rw [ih, wR_len, List.length_cons]; omega
theorem r_free_loop {w : Nat → Int32} {f : Nat → Nat} (hw : ∀ j, j < 64 → w j = nI (f j)) (hf : ∀ j, j < 64 → f j ≤ 99) : ∀ (n k fuel : Nat), k + n = 10 → n < fuel → m_X12_freeBlock_w2 w (m_X12_freeBlock_j26 w) fuel (nI k) = some (match freeB f n k with | some j => nI j | none => -1) := by
  intro n
  induction n with
  | zero =>
    intro k fuel hk hfu
    obtain ⟨fuel, rfl⟩ : ∃ d, fuel = d + 1 := ⟨fuel - 1, by omega⟩
    rw [m_X12_freeBlock_w2, if_pos (show (10 : Int32) ≤ nI k from nI_le (a := 10) (by omega) (by omega)), m_X12_freeBlock_j26, if_pos (show (10 : Int32) ≤ nI k from nI_le (a := 10) (by omega) (by omega))]
    rfl
  | succ n ih =>
    intro k fuel hk hfu
    obtain ⟨fuel, rfl⟩ : ∃ d, fuel = d + 1 := ⟨fuel - 1, by omega⟩
    have h10 : ¬ (10 : Int32) ≤ nI k := nI_ge (a := k) (b := 10) (by omega) (by decide)
    rw [m_X12_freeBlock_w2, if_neg h10, freeB]
    have ew := hw (24 + 4 * k) (by omega)
    have el := hf (24 + 4 * k) (by omega)
    have eb : m_X12_block (nI k) = some (nI (24 + 4 * k)) := by
      rw [m_X12_block]; simp only [lit32, nI_mulE, nI_add]
    rw [bd_ok eb, rd_nI (by omega) (by decide), ew]
    by_cases c : f (24 + 4 * k) = 0
    · rw [if_pos (show nI (f (24 + 4 * k)) = 0 by rw [c]; rfl), if_pos c, m_X12_freeBlock_j26, if_neg h10]
    · rw [if_neg (show ¬ nI (f (24 + 4 * k)) = 0 from fun q => c (nI_inj (b := 0) (by omega) (by decide) q)), if_neg c]
      show m_X12_freeBlock_w2 w (m_X12_freeBlock_j26 w) fuel (nI k + 1) = _
      rw [show nI k + 1 = nI (k + 1) from nI_1 k]
      exact ih (k + 1) fuel (by omega) (by omega)
theorem r_sweep_loop {p1 p2 p3 g : Int32} {K : Int32 → (Nat → Int32) → (Nat → Int32) → (Nat → Int32) → (Nat → Int32) → Option (Int32 × (Nat → Int32) × (Nat → Int32) × (Nat → Int32) × (Nat → Int32))} : ∀ (n k fuel : Nat) (F w ad nu : Nat → Int32) (S : PS), k + n = 10 → n < fuel → S.2.length + n < 64 → PR F w ad nu S → ∃ F' w' ad' nu', m_X12_isOp_w31 p1 p2 p3 K fuel g (nI k) F w ad nu = K g F' w' ad' nu' ∧ PR F' w' ad' nu' ((leakF g n k).foldl wR S) ∧ frF F' F := by
  intro n
  induction n with
  | zero =>
    intro k fuel F w ad nu S hk hf hl h
    obtain ⟨fuel, rfl⟩ : ∃ d, fuel = d + 1 := ⟨fuel - 1, by omega⟩
    rw [m_X12_isOp_w31, if_pos (show (10 : Int32) ≤ nI k from nI_le (a := 10) (by omega) (by omega))]
    exact ⟨F, w, ad, nu, rfl, h, fun _ _ => rfl⟩
  | succ n ih =>
    intro k fuel F w ad nu S hk hf hl h
    obtain ⟨fuel, rfl⟩ : ∃ d, fuel = d + 1 := ⟨fuel - 1, by omega⟩
    rw [m_X12_isOp_w31, if_neg (show ¬ (10 : Int32) ≤ nI k from nI_ge (a := k) (b := 10) (by omega) (by decide)), leakF]
    have eb : m_X12_block (nI k) = some (nI (24 + 4 * k)) := by
      rw [m_X12_block]; simp only [lit32, nI_mulE, nI_add]
    rcases and1 (g >>> (nI k &&& 31)) with c | c
    · rw [if_neg (by rw [c]; decide), if_pos c, m_X12_isOp_j59]
      show ∃ F' w' ad' nu', m_X12_isOp_w31 p1 p2 p3 K fuel g (nI k + 1) F w ad nu = _ ∧ _
      rw [show nI k + 1 = nI (k + 1) from nI_1 k]
      exact ih (k + 1) fuel F w ad nu S (by omega) (by omega) (by omega) h
    · rw [if_pos c, if_neg (by rw [c]; decide), bd_ok eb]
      obtain ⟨R, r1, r2, r3⟩ := r_writes (a := 24 + 4 * k) (v := 0) h (by omega) (by omega) (by omega)
      have r1 : m_X12_writes F w ad nu (nI (24 + 4 * k)) 0 = some R := r1
      rw [bd_ok r1, m_X12_isOp_j59]
      show ∃ F' w' ad' nu', m_X12_isOp_w31 p1 p2 p3 K fuel g (nI k + 1) R.1 R.2.1 R.2.2.1 R.2.2.2 = _ ∧ _
      rw [show nI k + 1 = nI (k + 1) from nI_1 k]
      obtain ⟨F', w', ad', nu', g1, g2, g3⟩ := ih (k + 1) fuel _ _ _ _ _ (by omega) (by omega) (by rw [wR_len]; omega) r2
      exact ⟨F', w', ad', nu', g1, g2, fun j hj => (g3 j hj).trans (r3 j hj)⟩
theorem r_isOp {F w ad nu : Nat → Int32} {S : PS} {op one other : Nat} {p2 p3 : Int32} (h : PR F w ad nu S) (ho : opOK (op, one, other)) (hp2 : op ≤ 3 → p2 = nI one) (hp3 : op = 0 ∨ op = 2 ∨ op = 3 → p3 = nI other) (hl : S.2.length + 10 < 64) :
    ∃ R, m_X12_isOp F w ad nu (nI op) p2 p3 = some R ∧ frF R.2.1 F ∧ (match opW S.1 (op, one, other) with | none => R.1 = 0 | some L => R.1 = 1 ∧ PR R.2.1 R.2.2.1 R.2.2.2.1 R.2.2.2.2 (L.foldl wR S)) := by
  obtain ⟨k4, k2, k22, k3, kb1, kb2⟩ := ho
  have k4 : op ≤ 4 := k4
  have kb1 : one ≤ 99 := kb1
  have kb2 : other ≤ 99 := kb2
  obtain ⟨h1, h4, h5, h6⟩ := id h
  have hm1 : ∀ j : Nat, j < 10 → ¬ nI j = -1 := by decide
  rw [m_X12_isOp]
  rcases (show op = 3 ∨ op = 4 ∨ op = 0 ∨ op = 1 ∨ op = 2 by omega) with rfl | rfl | rfl | rfl | rfl
  · rw [if_pos (show nI 3 = 3 from rfl), hp2 (by decide), hp3 (by decide)]
    obtain ⟨R, r1, r2, r3⟩ := r_writes (a := one) (v := other) h (k3 rfl).2 kb2 (by omega)
    rw [bd_ok r1]
    exact ⟨_, rfl, r3, rfl, r2⟩
  · rw [if_neg (by decide), if_pos (show nI 4 = 4 from rfl), m_X12_leaked]
    obtain ⟨F', s1, s2, -, -, s5⟩ := r_shapes h4 h5 F
    have e1 : bd (m_X12_shapes F w 64) (fun u1 => bd (m_X12_usedBlocks w 64) fun u2 => some (u2 &&& (u1 20 ^^^ -1), u1)) = some (leakA S.1, F') := by
      rw [bd_ok s1, bd_ok (r_usedBlocks h4 h5), s2]; rfl
    rw [bd_ok e1]
    have hPR : PR F' w ad nu S := ⟨(s5 19 (by decide)).trans h1, h4, h5, h6⟩
    obtain ⟨F2, w2, ad2, nu2, g1, g2, g3⟩ := r_sweep_loop (p1 := nI 4) (p2 := p2) (p3 := p3) (g := leakA S.1) (K := m_X12_isOp_j65 (nI 4) p2 p3) 10 0 fuelN F' w ad nu S rfl (by rw [fuel_is]; decide) (by omega) hPR
    have g1 : m_X12_isOp_w31 (nI 4) p2 p3 (m_X12_isOp_j65 (nI 4) p2 p3) fuelN (leakA S.1) 0 F' w ad nu = _ := g1
    rw [g1, m_X12_isOp_j65]
    have hfr : frF F2 F := fun j hj => (g3 j hj).trans (s5 j (by omega))
    by_cases c : leakA S.1 = 0
    · rw [if_pos c, opW_4n c]
      exact ⟨_, rfl, hfr, rfl⟩
    · rw [if_neg c, opW_4 c]
      refine ⟨_, rfl, hfr, rfl, ?_⟩
      rw [leakF_is] at g2
      exact g2
  · rw [if_neg (by decide), if_neg (by decide), if_pos (show nI 0 = 0 from rfl), hp2 (by decide), hp3 (by decide)]
    have e1 : m_X12_freeBlock w = some (match freeB S.1 10 0 with | some j => nI j | none => -1) := r_free_loop h4 h5 10 0 fuelN rfl (by rw [fuel_is]; decide)
    rw [bd_ok e1, m_X12_isOp_j103]
    have ho1 : one ≤ 3 := k2 (show 0 ≤ 2 by decide)
    cases hk : freeB S.1 10 0 with
    | none =>
      rw [opW_0n hk]
      rw [if_pos rfl]
      exact ⟨_, rfl, fun _ _ => rfl, rfl⟩
    | some k =>
      rw [opW_0 hk]
      have hk2 := freeB_lt _ _ _ hk
      have eb : m_X12_block (nI k) = some (nI (24 + 4 * k)) := by
        rw [m_X12_block]; simp only [lit32, nI_mulE, nI_add]
      obtain ⟨R1, a1, b1, c1⟩ := r_writes (a := 24 + 4 * k) (v := 1) h (by omega) (by omega) (by omega)
      have e2 : R1.2.1 (20 + one) = nI (S.1 (20 + one)) := by
        rw [b1.2.1 (20 + one) (by omega)]
        show nI (upN S.1 (24 + 4 * k) 1 (20 + one)) = _
        unfold upN; rw [if_neg (by omega)]
      have hl1 := h5 (20 + one) (by omega)
      obtain ⟨R2, a2, b2, c2⟩ := r_writes (a := 24 + 4 * k + 1) (v := S.1 (20 + one)) b1 (by omega) hl1 (by rw [wR_len]; omega)
      obtain ⟨R3, a3, b3, c3⟩ := r_writes (a := 24 + 4 * k + 2) (v := other) b2 (by omega) kb2 (by rw [wR_len, wR_len]; omega)
      obtain ⟨R4, a4, b4, c4⟩ := r_writes (a := 20 + one) (v := 24 + 4 * k) b3 (by omega) (by omega) (by rw [wR_len, wR_len, wR_len]; omega)
      rw [if_neg (hm1 k (by omega))]
      simp (disch := omega) only [lit32, if_true, eb, bd, Option.bind_some, a1, nI_add, rd_nI, e2, a2, a3, a4]
      exact ⟨_, rfl, fun j hj => (c4 j hj).trans ((c3 j hj).trans ((c2 j hj).trans (c1 j hj))), rfl, b4⟩
  · have ho1 : one ≤ 3 := k2 (show 1 ≤ 2 by decide)
    rw [if_neg (by decide), if_neg (by decide), if_neg (by decide), hp2 (by decide)]
    have e0 := h4 (20 + one) (by omega)
    have l0 := h5 (20 + one) (by omega)
    have e1 := r_usedAt h4 h5 l0
    simp (disch := omega) only [lit32, nI_add, rd_nI, e0, e1, bd, Option.bind_some]
    rw [m_X12_isOp_j103]
    cases hk : blkOf S.1 (S.1 (20 + one)) with
    | none =>
      rw [opW_1n hk]
      rw [if_pos (show -nI 1 = -1 from rfl)]
      exact ⟨_, rfl, fun _ _ => rfl, rfl⟩
    | some k =>
      rw [opW_1 hk]
      obtain ⟨-, -, -, hk2⟩ := blkOf_some hk
      have eb : m_X12_block (nI k) = some (nI (24 + 4 * k)) := by
        rw [m_X12_block]; simp only [lit32, nI_mulE, nI_add]
      have e2 := h4 (24 + 4 * k + 1) (by omega)
      have l2 := h5 (24 + 4 * k + 1) (by omega)
      obtain ⟨R1, a1, b1, c1⟩ := r_writes (a := 20 + one) (v := S.1 (24 + 4 * k + 1)) h (by omega) l2 (by omega)
      obtain ⟨R2, a2, b2, c2⟩ := r_writes (a := 24 + 4 * k) (v := 0) b1 (by omega) (by omega) (by rw [wR_len]; omega)
      have a2 : m_X12_writes R1.1 R1.2.1 R1.2.2.1 R1.2.2.2 (nI (24 + 4 * k)) (nI 0) = some R2 := a2
      rw [if_neg (hm1 k hk2)]
      simp (disch := omega) only [lit32, nI_eq, if_true, if_false, eb, bd, Option.bind_some, a1, nI_add, rd_nI, e2, a2]
      rw [if_neg (by decide)]
      exact ⟨_, rfl, fun j hj => (c2 j hj).trans (c1 j hj), rfl, b2⟩
  · have ho1 : one ≤ 3 := k2 (show 2 ≤ 2 by decide)
    have ho2 : other ≤ 3 := k22 rfl
    rw [if_neg (by decide), if_neg (by decide), if_neg (by decide), hp2 (by decide), hp3 (by decide)]
    have e0 := h4 (20 + one) (by omega)
    have l0 := h5 (20 + one) (by omega)
    have e1 := r_usedAt h4 h5 l0
    simp (disch := omega) only [lit32, nI_add, rd_nI, e0, e1, bd, Option.bind_some]
    rw [m_X12_isOp_j103]
    cases hk : blkOf S.1 (S.1 (20 + one)) with
    | none =>
      rw [opW_2n hk]
      rw [if_pos (show -nI 1 = -1 from rfl)]
      exact ⟨_, rfl, fun _ _ => rfl, rfl⟩
    | some k =>
      rw [opW_2 hk]
      obtain ⟨-, -, -, hk2⟩ := blkOf_some hk
      have eb : m_X12_block (nI k) = some (nI (24 + 4 * k)) := by
        rw [m_X12_block]; simp only [lit32, nI_mulE, nI_add]
      have e2 := h4 (24 + 4 * k + 1) (by omega)
      have l2 := h5 (24 + 4 * k + 1) (by omega)
      obtain ⟨R1, a1, b1, c1⟩ := r_writes (a := 20 + one) (v := S.1 (24 + 4 * k + 1)) h (by omega) l2 (by omega)
      have e3 : R1.2.1 (20 + other) = nI (upN S.1 (20 + one) (S.1 (24 + 4 * k + 1)) (20 + other)) := b1.2.1 (20 + other) (by omega)
      have l3 := upN_le (a := 20 + one) h5 l2 (20 + other) (by omega)
      obtain ⟨R2, a2, b2, c2⟩ := r_writes (a := 24 + 4 * k + 1) (v := upN S.1 (20 + one) (S.1 (24 + 4 * k + 1)) (20 + other)) b1 (by omega) l3 (by rw [wR_len]; omega)
      obtain ⟨R3, a3, b3, c3⟩ := r_writes (a := 20 + other) (v := 24 + 4 * k) b2 (by omega) (by omega) (by rw [wR_len, wR_len]; omega)
      rw [if_neg (hm1 k hk2)]
      simp (disch := omega) only [lit32, nI_eq, if_true, if_false, eb, bd, Option.bind_some, a1, nI_add, rd_nI, e2, e3, a2, a3]
      rw [if_neg (by decide), if_neg (by decide)]
      exact ⟨_, rfl, fun j hj => (c3 j hj).trans ((c2 j hj).trans (c1 j hj)), rfl, b3⟩
