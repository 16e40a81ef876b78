/-! ===== bits ===== -/
theorem nI_bv (a : Nat) : (nI a).toBitVec = BitVec.ofNat 32 a := rfl
theorem nI_and (a b : Nat) : nI a &&& nI b = nI (a &&& b) := by
  apply Int32.toBitVec_inj.mp
  rw [Int32.toBitVec_and, nI_bv, nI_bv, nI_bv, BitVec.ofNat_and]
theorem nI_or (a b : Nat) : nI a ||| nI b = nI (a ||| b) := by
  apply Int32.toBitVec_inj.mp
  rw [Int32.toBitVec_or, nI_bv, nI_bv, nI_bv, BitVec.ofNat_or]
theorem and31 {k : Nat} (h : k < 32) : k &&& 31 = k := by
  have := Nat.and_two_pow_sub_one_eq_mod k 5
  rw [show (2 ^ 5 - 1 : Nat) = 31 from rfl] at this
  rw [this]; exact Nat.mod_eq_of_lt h
theorem nI_shl : ∀ k, k < 31 → nI 1 <<< nI k = nI (1 <<< k) := by decide +kernel
theorem nI_shr {a : Nat} (ha : a < 2 ^ 31) {k : Nat} (hk : k < 32) : nI a >>> nI k = nI (a >>> k) := by
  apply Int32.toBitVec_inj.mp
  rw [Int32.toBitVec_shiftRight, nI_bv, nI_bv, nI_bv]
  have h1 : (BitVec.ofNat 32 k).smod 32 = BitVec.ofNat 32 k := by
    have : ∀ k : Nat, k < 32 → (BitVec.ofNat 32 k).smod 32 = BitVec.ofNat 32 k := by decide +kernel
    exact this k hk
  rw [h1]
  apply BitVec.eq_of_toNat_eq
  have hm : (BitVec.ofNat 32 a).msb = false := by
    rw [BitVec.msb_eq_decide, BitVec.toNat_ofNat]
    simp only [decide_eq_false_iff_not, Nat.not_le]
    rw [Nat.mod_eq_of_lt (by omega)]; exact ha
  rw [BitVec.sshiftRight_eq', BitVec.sshiftRight_eq_of_msb_false hm, BitVec.toNat_ushiftRight, BitVec.toNat_ofNat, BitVec.toNat_ofNat, BitVec.toNat_ofNat]
  rw [Nat.mod_eq_of_lt (show a < 2 ^ 32 by omega), Nat.mod_eq_of_lt (show k < 2 ^ 32 by omega)]
  rw [Nat.mod_eq_of_lt]
  exact Nat.lt_of_le_of_lt (Nat.shiftRight_le a k) (by omega)
theorem tb_shr {a k : Nat} : (a >>> k) &&& 1 = if a.testBit k then 1 else 0 := by
  rw [Nat.testBit, Nat.and_comm 1]
  have h : (a >>> k) &&& 1 = (a >>> k) % 2 := Nat.and_one_is_mod _
  rw [h]
  rcases Nat.mod_two_eq_zero_or_one (a >>> k) with h1 | h1
  · rw [h1]; rfl
  · rw [h1]; rfl
theorem tb_and : ∀ s, s < 1024 → ∀ k, k < 10 → (s &&& (1 <<< k) = 0 ↔ s.testBit k = false) := by decide +kernel
theorem or_lt {a b n : Nat} (ha : a < 2 ^ n) (hb : b < 2 ^ n) : a ||| b < 2 ^ n := Nat.or_lt_two_pow ha hb
theorem shl_lt : ∀ k, k < 10 → 1 <<< k < 1024 := by decide
/-! ===== the shape of words ===== -/
def isBlk (a : Nat) : Prop := 24 ≤ a ∧ a < 64 ∧ a % 4 = 0
def usedN (w : Nat → Nat) : Nat → Nat
  | 0 => 0
  | k + 1 => if w (24 + 4 * k) = 1 then usedN w k ||| 1 <<< k else usedN w k
def blkOf (w : Nat → Nat) (a : Nat) : Option Nat := if (24 ≤ a ∧ a < 64 ∧ a % 4 = 0) ∧ w a = 1 then some ((a - 24) / 4) else none
def folA (w : Nat → Nat) : Nat → Nat → Nat → Nat × Bool × Bool
  | 0, mine, _ => (mine, false, false)
  | n + 1, mine, a => if a = 0 then (mine, false, false) else match blkOf w a with
    | none => (mine, true, false)
    | some k => if mine.testBit k then (mine, false, true) else folA w n (mine ||| 1 <<< k) (w (a + 1))
def free10 (s : Nat) : Nat := (List.range 10).countP (fun k => !s.testBit k)
theorem free10_set : ∀ s, s < 1024 → ∀ k, k < 10 → s.testBit k = false → free10 (s ||| 1 <<< k) + 1 = free10 s := by decide +kernel
theorem blkOf_some {w : Nat → Nat} {a k : Nat} (h : blkOf w a = some k) : (24 ≤ a ∧ a < 64 ∧ a % 4 = 0) ∧ w a = 1 ∧ k = (a - 24) / 4 ∧ k < 10 := by
  unfold blkOf at h
  by_cases c : (24 ≤ a ∧ a < 64 ∧ a % 4 = 0) ∧ w a = 1
  · rw [if_pos c] at h
    have := Option.some.inj h
    exact ⟨c.1, c.2, this.symm, by omega⟩
  · rw [if_neg c] at h; cases h
theorem folA_more (w : Nat → Nat) : ∀ (n mine a : Nat), mine < 1024 → free10 mine < n → folA w n mine a = folA w (n + 1) mine a := by
  intro n
  induction n with
  | zero => intro mine a _ h; omega
  | succ n ih =>
    intro mine a hm h
    rw [folA, folA]
    by_cases h0 : a = 0
    · rw [if_pos h0, if_pos h0]
    · rw [if_neg h0, if_neg h0]
      cases hb : blkOf w a with
      | none => rfl
      | some k =>
        obtain ⟨-, -, -, hk⟩ := blkOf_some hb
        show (if mine.testBit k then _ else _) = (if mine.testBit k then _ else _)
        by_cases ht : mine.testBit k = true
        · rw [if_pos ht, if_pos ht]
        · rw [if_neg ht, if_neg ht]
          have ht' : mine.testBit k = false := by simpa using ht
          have := free10_set mine hm k hk ht'
          exact ih _ _ (or_lt (n := 10) hm (shl_lt k hk)) (by omega)
theorem folA_any (w : Nat → Nat) {a : Nat} : ∀ n, 11 ≤ n → folA w n 0 a = folA w 11 0 a := by
  intro n hn
  obtain ⟨d, rfl⟩ : ∃ d, n = 11 + d := ⟨n - 11, by omega⟩
  clear hn
  induction d with
  | zero => rfl
  | succ d ih =>
    have h0 : free10 0 = 10 := by decide
    rw [show 11 + (d + 1) = (11 + d) + 1 by omega, ← folA_more w (11 + d) 0 a (by decide) (by omega)]
    exact ih
theorem folA_lt (w : Nat → Nat) : ∀ (n mine a : Nat), mine < 1024 → (folA w n mine a).1 < 1024 := by
  intro n
  induction n with
  | zero => intro mine a h; exact h
  | succ n ih =>
    intro mine a h
    rw [folA]
    by_cases h0 : a = 0
    · rw [if_pos h0]; exact h
    · rw [if_neg h0]
      cases hb : blkOf w a with
      | none => exact h
      | some k =>
        obtain ⟨-, -, -, hk⟩ := blkOf_some hb
        show (if mine.testBit k then (mine, false, true) else folA w n (mine ||| 1 <<< k) (w (a + 1))).1 < 1024
        by_cases ht : mine.testBit k = true
        · rw [if_pos ht]; exact h
        · rw [if_neg ht]; exact ih _ _ (or_lt (n := 10) h (shl_lt k hk))
theorem usedN_lt (w : Nat → Nat) : ∀ k, k ≤ 10 → usedN w k < 1024 := by
  intro k
  induction k with
  | zero => intro _; exact Nat.zero_lt_of_lt (show 0 < 1024 by decide)
  | succ k ih =>
    intro hk
    rw [usedN]
    by_cases h : w (24 + 4 * k) = 1
    · rw [if_pos h]; exact or_lt (n := 10) (ih (by omega)) (shl_lt k (by omega))
    · rw [if_neg h]; exact ih (by omega)
theorem tb_set : ∀ i, i < 10 → ∀ k, k < 10 → (1 <<< i).testBit k = decide (i = k) := by decide
theorem usedN_bit (w : Nat → Nat) : ∀ n, n ≤ 10 → ∀ k, k < 10 → ((usedN w n).testBit k = true ↔ k < n ∧ w (24 + 4 * k) = 1) := by
  intro n
  induction n with
  | zero => intro _ k hk; rw [usedN]; simp
  | succ n ih =>
    intro hn k hk
    rw [usedN]
    have h1 := ih (by omega) k hk
    by_cases h : w (24 + 4 * n) = 1
    · rw [if_pos h, Nat.testBit_or, tb_set n (by omega) k hk, Bool.or_eq_true, h1, decide_eq_true_eq]
      constructor
      · rintro (⟨a, b⟩ | a)
        · exact ⟨by omega, b⟩
        · subst a; exact ⟨by omega, h⟩
      · rintro ⟨a, b⟩
        by_cases e : n = k
        · exact Or.inr e
        · exact Or.inl ⟨by omega, b⟩
    · rw [if_neg h, h1]
      constructor
      · rintro ⟨a, b⟩; exact ⟨by omega, b⟩
      · rintro ⟨a, b⟩
        refine ⟨?_, b⟩
        by_cases e : n = k
        · subst e; exact absurd b h
        · omega
def survN (w : Nat → Nat) : Nat → Nat × Nat × Nat
  | 0 => (0, 0, 0)
  | r + 1 => ((survN w r).1 ||| (folA w 11 0 (w (20 + r))).1, if (folA w 11 0 (w (20 + r))).2.1 then (survN w r).2.1 ||| 1 <<< r else (survN w r).2.1, if (folA w 11 0 (w (20 + r))).2.2 then (survN w r).2.2 ||| 1 <<< r else (survN w r).2.2)
def leakA (w : Nat → Nat) : Int32 := nI (usedN w 10) &&& (nI (survN w 4).1 ^^^ (-1))
