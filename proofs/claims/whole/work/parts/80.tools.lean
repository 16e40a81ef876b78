/-! ===== PURE LAYER: numbers ===== -/
theorem lit32 (n : Nat) : (OfNat.ofNat n : Int32) = nI n := rfl
theorem nI_mulE (a b : Nat) : nI a * nI b = nI (a * b) := by
  unfold nI
  exact (Int32.ofNat_mul a b).symm
theorem nI_subE {a b : Nat} (h : b ≤ a) : nI a - nI b = nI (a - b) := by
  have e : nI (a - b) + nI b = nI a := by rw [nI_add]; congr 1; omega
  rw [← e, Int32.add_sub_cancel]
theorem nI_bnd {a : Nat} (h : a < 2 ^ 31) : (nI a).toInt = (a : Int) := nI_toInt h
theorem nI_inj {a b : Nat} (ha : a < 2 ^ 31) (hb : b < 2 ^ 31) (h : nI a = nI b) : a = b := (nI_eq ha hb).mp h
theorem nI_divE {a b : Nat} (ha : a < 2 ^ 31) (hb : b < 2 ^ 31) : nI a / nI b = nI (a / b) := by
  apply Int32.toInt_inj.mp
  have hd : a / b < 2 ^ 31 := Nat.lt_of_le_of_lt (Nat.div_le_self a b) ha
  rw [nI_toInt hd]
  rw [Int32.toInt_div_of_ne_left]
  · rw [nI_toInt ha, nI_toInt hb]
    rw [Int.tdiv_eq_ediv_of_nonneg (by omega)]
    exact (Int.natCast_ediv a b).symm
  · intro h
    have h1 := congrArg Int32.toInt h
    rw [nI_toInt ha] at h1
    have h2 : Int32.minValue.toInt = -2147483648 := by decide
    omega
theorem nI_modE {a b : Nat} (ha : a < 2 ^ 31) (hb : b < 2 ^ 31) : nI a - nI a / nI b * nI b = nI (a % b) := by
  rw [nI_divE ha hb, nI_mulE, nI_subE (Nat.div_mul_le_self a b)]
  congr 1
  have := Nat.div_add_mod a b
  have h2 : b * (a / b) = a / b * b := Nat.mul_comm _ _
  omega
theorem rd_nI {α : Type} {f : Nat → Int32} {n j : Nat} {k : Int32 → Option α} (h : j < n) (hn : n < 2 ^ 31) : rd f n (nI j) k = k (f j) := by
  rw [rd_ok (vp_in_nI h hn), nI_clamp (by omega)]
theorem wr_nI {α : Type} {f : Nat → Int32} {n j : Nat} {x : Int32} {k : (Nat → Int32) → Option α} (h : j < n) (hn : n < 2 ^ 31) : wr f n (nI j) x k = k (upd f j x) := by
  rw [wr_ok (vp_in_nI h hn), nI_clamp (by omega)]
theorem cp_nI {α : Type} {f g : Nat → Int32} {n0 n1 sp dp n : Nat} {k : (Nat → Int32) → Option α} (h0 : sp + n ≤ n0) (h1 : dp + n ≤ n1) (hn : n0 < 2 ^ 31) (hn1 : n1 < 2 ^ 31) : cp f g n0 n1 (nI sp) (nI dp) (nI n) k = k (va_cpy f g sp dp n) := by
  unfold cp
  rw [nI_clamp (by omega), nI_clamp (by omega), nI_clamp (by omega)]
  rw [if_neg]
  simp only [not_or]
  exact ⟨nI_pos (by omega), nI_pos (by omega), nI_pos (by omega), by omega, by omega⟩
theorem upd_eq {f : Nat → Int32} {j : Nat} {x : Int32} : upd f j x j = x := if_pos rfl
theorem upd_ne {f : Nat → Int32} {i j : Nat} {x : Int32} (h : ¬ i = j) : upd f j x i = f i := if_neg h
theorem ite_nI {c : Prop} [Decidable c] {a b : Nat} : (if c then nI a else nI b) = nI (if c then a else b) := by
  by_cases h : c
  · rw [if_pos h, if_pos h]
  · rw [if_neg h, if_neg h]
theorem fuel_is : fuelN = 100000 := rfl
/-! ===== the abstract cache: media, the stores that pend by line, how many are asked for ===== -/
abbrev AC : Type := (Nat → Nat) × (Nat → List (Nat × Nat)) × (Nat → Nat)
def apS (m : Nat → Nat) (st : Nat × Nat) : Nat → Nat := fun w => if w = st.1 then st.2 else m w
def apL (m : Nat → Nat) (l : List (Nat × Nat)) : Nat → Nat := l.foldl apS m
def lastS (w v : Nat) (l : List (Nat × Nat)) : Nat := l.foldl (fun v st => if st.1 = w then st.2 else v) v
theorem apL_at (l : List (Nat × Nat)) : ∀ (m : Nat → Nat) (w : Nat), apL m l w = lastS w (m w) l := by
  induction l with
  | nil => intro m w; rfl
  | cons a t ih =>
    intro m w
    show apL (apS m a) t w = lastS w (if a.1 = w then a.2 else m w) t
    rw [ih]
    congr 1
    unfold apS
    by_cases h : w = a.1
    · rw [if_pos h, if_pos h.symm]
    · rw [if_neg h, if_neg (fun q => h q.symm)]
def wordA (X : AC) (w : Nat) : Nat := lastS w (X.1 w) (X.2.1 (w / 4))
/-- what holds of a cache -/
def VC (X : AC) : Prop := (∀ w, w < 64 → X.1 w ≤ 99) ∧ ∀ l, l < 16 → (X.2.1 l).length ≤ 6 ∧ X.2.2 l ≤ (X.2.1 l).length ∧ ∀ st ∈ X.2.1 l, st.1 / 4 = l ∧ st.2 ≤ 99
def CC (md st hd ak : Nat → Int32) (X : AC) : Prop := (∀ w, w < 64 → md w = nI (X.1 w)) ∧ (∀ l, l < 16 → hd l = nI (X.2.1 l).length) ∧ (∀ l, l < 16 → ak l = nI (X.2.2 l)) ∧ ∀ l, l < 16 → ∀ k q, (X.2.1 l)[k]? = some q → st (6 * l + k) = nI (100 * q.1 + q.2)
def RC (rows : Nat → Int32) (b : Nat) (X : AC) : Prop := (∀ w, w < 64 → rows (b + w) = nI (X.1 w)) ∧ (∀ l, l < 16 → rows (b + 64 + l) = nI (X.2.1 l).length) ∧ (∀ l, l < 16 → rows (b + 80 + l) = nI (X.2.2 l)) ∧ ∀ l, l < 16 → ∀ k q, (X.2.1 l)[k]? = some q → rows (b + 96 + 12 * l + 2 * k) = nI q.1 ∧ rows (b + 96 + 12 * l + 2 * k + 1) = nI q.2
def reachA (X : AC) (l n : Nat) : AC := (apL X.1 ((X.2.1 l).take n), fun j => if j = l then (X.2.1 l).drop n else X.2.1 j, fun j => if j = l then X.2.2 l - n else X.2.2 j)
def putA (X : AC) (a v : Nat) : AC :=
  let Y := if (X.2.1 (a / 4)).length = 6 then reachA X (a / 4) 1 else X
  (Y.1, fun j => if j = a / 4 then Y.2.1 j ++ [(a, v)] else Y.2.1 j, Y.2.2)
def askA (X : AC) (l : Nat) : AC := (X.1, X.2.1, fun j => if j = l then (X.2.1 l).length else X.2.2 j)
def awaitA (X : AC) : AC := (List.range 16).foldl (fun Y l => reachA Y l (Y.2.2 l)) X
