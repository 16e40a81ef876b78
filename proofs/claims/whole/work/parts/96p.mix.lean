/-! ===== orders, line by line ===== -/
theorem dmU {a b c d : Nat} (h1 : b * d + c = a) (h2 : c < b) : a / b = d ∧ a % b = c := by
  subst h1
  rw [Nat.mul_add_div (by omega), Nat.div_eq_of_lt h2, Nat.mul_add_mod, Nat.mod_eq_of_lt h2]
  exact ⟨rfl, rfl⟩
theorem digS {n p : Nat} (c : p % (n + 1) < n) : (p + 1) / (n + 1) = p / (n + 1) ∧ (p + 1) % (n + 1) = p % (n + 1) + 1 :=
  dmU (by have := Nat.div_add_mod p (n + 1); omega) (by omega)
theorem digC {n p : Nat} (c : p % (n + 1) = n) : (p + 1) / (n + 1) = p / (n + 1) + 1 ∧ (p + 1) % (n + 1) = 0 :=
  dmU (by have := Nat.div_add_mod p (n + 1); rw [Nat.mul_add]; omega) (by omega)
def pdig (X : AC) : Nat → Nat → Nat → Nat
  | 0, _, _ => 0
  | j + 1, p, l => if l = j then p % ((X.2.1 j).length + 1) else pdig X j (p / ((X.2.1 j).length + 1)) l
theorem pdig_hi {X : AC} : ∀ (j p l : Nat), j ≤ l → pdig X j p l = 0 := by
  intro j
  induction j with
  | zero => intro p l _; rfl
  | succ j ih => intro p l h; rw [pdig, if_neg (by omega)]; exact ih _ l (by omega)
theorem pdig_0 {X : AC} : ∀ (j l : Nat), pdig X j 0 l = 0 := by
  intro j
  induction j with
  | zero => intro l; rfl
  | succ j ih => intro l; rw [pdig, Nat.zero_mod, Nat.zero_div, ih]; split <;> rfl
theorem nxt_pd {X : AC} : ∀ (j p : Nat) (ro : Nat → Nat), p + 1 < totN X j → (∀ l, l < j → ro l = pdig X j p l) → (∀ l, l < j → nxt X ro j l = pdig X j (p + 1) l) ∧ ∀ l, j ≤ l → nxt X ro j l = ro l := by
  intro j
  induction j with
  | zero => intro p ro h _; exact absurd h (by show ¬ p + 1 < 1; omega)
  | succ j ih =>
    intro p ro h hro
    have hj : ro j = p % ((X.2.1 j).length + 1) := by rw [hro j (by omega), pdig, if_pos rfl]
    have hlo : ∀ l, l < j → ro l = pdig X j (p / ((X.2.1 j).length + 1)) l := fun l hl => by rw [hro l (by omega), pdig, if_neg (by omega)]
    rw [totN] at h
    rw [nxt]
    have hm : p % ((X.2.1 j).length + 1) < (X.2.1 j).length + 1 := Nat.mod_lt _ (by omega)
    by_cases c : ro j < (X.2.1 j).length
    · obtain ⟨e1, e2⟩ := digS (n := (X.2.1 j).length) (p := p) (by omega)
      rw [if_pos c]
      refine ⟨fun l hl => ?_, fun l hl => upN_ne (by omega)⟩
      by_cases d : l = j
      · subst d; rw [upN_eq, pdig, if_pos rfl, hj, e2]
      · rw [upN_ne d, pdig, if_neg d, hlo l (by omega), e1]
    · obtain ⟨e1, e2⟩ := digC (n := (X.2.1 j).length) (p := p) (by omega)
      rw [if_neg c]
      have hlt : p / ((X.2.1 j).length + 1) + 1 < totN X j := by
        rw [← e1]; exact Nat.div_lt_of_lt_mul (by rw [Nat.mul_comm]; exact h)
      obtain ⟨q1, q2⟩ := ih _ (upN ro j 0) hlt (fun l hl => by rw [upN_ne (by omega)]; exact hlo l hl)
      refine ⟨fun l hl => ?_, fun l hl => by rw [q2 l (by omega), upN_ne (by omega)]⟩
      by_cases d : l = j
      · subst d; rw [q2 l (Nat.le_refl _), upN_eq, pdig, if_pos rfl, e2]
      · rw [q1 l (by omega), pdig, if_neg d, e1]
theorem roK_pd {X : AC} : ∀ k, k < totN X 16 → ∀ l, roK X k l = pdig X 16 k l := by
  intro k
  induction k with
  | zero => intro _ l; rw [pdig_0]; rfl
  | succ k ih =>
    intro h l
    have hk := ih (by omega)
    obtain ⟨q1, q2⟩ := nxt_pd 16 k (roK X k) h (fun l _ => hk l)
    by_cases c : l < 16
    · exact q1 l c
    · rw [pdig_hi _ _ _ (by omega)]
      have := q2 l (by omega)
      rw [hk l, pdig_hi _ _ _ (by omega)] at this
      exact this
def cP (P : Nat → Bool) : Nat → Nat
  | 0 => 0
  | k + 1 => cP P k + (if P k = true then 1 else 0)
theorem cP_le {P : Nat → Bool} : ∀ n, cP P n ≤ n := by
  intro n
  induction n with
  | zero => exact Nat.le_refl _
  | succ n ih => rw [cP]; split <;> omega
theorem cP_congr {P Q : Nat → Bool} : ∀ n, (∀ k, k < n → P k = Q k) → cP P n = cP Q n := by
  intro n
  induction n with
  | zero => intro _; rfl
  | succ n ih => intro h; rw [cP, cP, ih (fun k hk => h k (by omega)), h n (by omega)]
theorem cP_add {P : Nat → Bool} {a : Nat} : ∀ n, cP P (a + n) = cP P a + cP (fun k => P (a + k)) n := by
  intro n
  induction n with
  | zero => rfl
  | succ n ih => rw [← Nat.add_assoc, cP, cP, ih]; omega
theorem cP_false {n : Nat} : cP (fun _ => false) n = 0 := by
  induction n with
  | zero => rfl
  | succ n ih => rw [cP, ih]; rfl
theorem cP_mul {P Q : Nat → Bool} {m : Nat} : ∀ a, cP (fun k => P (k / m) && Q (k % m)) (a * m) = cP P a * cP Q m := by
  intro a
  induction a with
  | zero => rw [Nat.zero_mul, show cP P 0 = 0 from rfl, Nat.zero_mul]; rfl
  | succ a ih =>
    rw [Nat.succ_mul, cP_add, ih, cP, Nat.add_mul]
    have e : cP (fun k => (fun k => P (k / m) && Q (k % m)) (a * m + k)) m = cP (fun k => P a && Q k) m := by
      apply cP_congr
      intro k hk
      obtain ⟨e1, e2⟩ := dmU (a := a * m + k) (b := m) (c := k) (d := a) (by rw [Nat.mul_comm]) hk
      dsimp only
      rw [e1, e2]
    rw [e]
    cases h : P a with
    | true => rw [if_pos rfl, Nat.one_mul]; rfl
    | false => rw [if_neg (by decide), Nat.zero_mul]; exact congrArg _ cP_false
theorem cP_pos {P : Nat → Bool} : ∀ n, 0 < cP P n ↔ ∃ k, k < n ∧ P k = true := by
  intro n
  induction n with
  | zero => exact ⟨fun h => absurd h (by show ¬ 0 < 0; omega), fun ⟨k, h, _⟩ => absurd h (by omega)⟩
  | succ n ih =>
    rw [cP]
    by_cases c : P n = true
    · rw [if_pos c]; exact ⟨fun _ => ⟨n, by omega, c⟩, fun _ => by omega⟩
    · rw [if_neg c, Nat.add_zero, ih]
      exact ⟨fun ⟨k, a, b⟩ => ⟨k, by omega, b⟩, fun ⟨k, a, b⟩ => ⟨k, by
        by_cases d : k = n
        · subst d; exact absurd b c
        · omega, b⟩⟩
theorem cP_one {P : Nat → Bool} {a : Nat} : ∀ n, (∀ k, k < n → (P k = true ↔ k = a)) → cP P n = if a < n then 1 else 0 := by
  intro n
  induction n with
  | zero => intro _; rw [if_neg (by omega)]; rfl
  | succ n ih =>
    intro h
    rw [cP, ih (fun k hk => h k (by omega))]
    by_cases c : n = a
    · rw [if_pos ((h n (by omega)).mpr c), if_neg (by omega), if_pos (by omega)]
    · rw [if_neg (fun e => c ((h n (by omega)).mp e)), Nat.add_zero]
      by_cases d : a < n
      · rw [if_pos d, if_pos (by omega)]
      · rw [if_neg d, if_neg (by omega)]
def fP (P : Nat → Bool) : Nat → Option Nat
  | 0 => none
  | k + 1 => match fP P k with
    | some x => some x
    | none => if P k = true then some k else none
theorem fP_none {P : Nat → Bool} : ∀ n, (∀ k, k < n → P k = false) → fP P n = none := by
  intro n
  induction n with
  | zero => intro _; rfl
  | succ n ih => intro h; rw [fP, ih (fun k hk => h k (by omega))]; dsimp only; rw [if_neg (by rw [h n (by omega)]; decide)]
theorem fP_some {P : Nat → Bool} {x : Nat} (hx : P x = true) (hl : ∀ y, y < x → P y = false) : ∀ n, x < n → fP P n = some x := by
  intro n
  induction n with
  | zero => intro h; exact absurd h (by omega)
  | succ n ih =>
    intro h
    rw [fP]
    by_cases c : x < n
    · rw [ih c]
    · have e : x = n := by omega
      subst e
      rw [fP_none x hl]; dsimp only; rw [if_pos hx]
theorem fP_ex {P : Nat → Bool} : ∀ n, (∃ k, k < n ∧ P k = true) → ∃ x, x < n ∧ P x = true ∧ (∀ y, y < x → P y = false) ∧ fP P n = some x := by
  intro n
  induction n with
  | zero => intro ⟨k, h, _⟩; exact absurd h (by omega)
  | succ n ih =>
    intro ⟨k, h1, h2⟩
    by_cases c : ∃ k, k < n ∧ P k = true
    · obtain ⟨x, a, b, d, e⟩ := ih c
      exact ⟨x, by omega, b, d, fP_some b d _ (by omega)⟩
    · have hl : ∀ y, y < n → P y = false := fun y hy => Bool.eq_false_iff.mpr (fun e => c ⟨y, hy, e⟩)
      have e : k = n := by
        by_cases d : k = n
        · exact d
        · exact absurd ⟨k, by omega, h2⟩ c
      subst e
      exact ⟨k, by omega, h2, hl, fP_some h2 hl _ (by omega)⟩
def fitL (X : AC) (L : List (Nat × Nat)) (l r : Nat) : Bool := L.all (fun q => !decide (q.1 / 4 = l) || decide (lastS q.1 (X.1 q.1) ((X.2.1 l).take r) = q.2))
def fitB (X : AC) (L : List (Nat × Nat)) (ro : Nat → Nat) : Bool := L.all (fun q => decide (imgA X ro q.1 = q.2))
theorem fitB_is {X : AC} {L : List (Nat × Nat)} {ro : Nat → Nat} (hL : ∀ q ∈ L, q.1 < 64) : fitB X L ro = true ↔ ∀ l, l < 16 → fitL X L l (ro l) = true := by
  unfold fitB fitL
  constructor
  · intro h l hl
    rw [List.all_eq_true] at h ⊢
    intro q hq
    have := h q hq
    by_cases c : q.1 / 4 = l
    · subst c
      have this : decide (lastS q.1 (X.1 q.1) ((X.2.1 (q.1 / 4)).take (ro (q.1 / 4))) = q.2) = true := this
      rw [this]; exact Bool.or_true _
    · rw [decide_eq_false c]; rfl
  · intro h
    rw [List.all_eq_true]
    intro q hq
    have h1 := hL q hq
    have := h (q.1 / 4) (by omega)
    rw [List.all_eq_true] at this
    have := this q hq
    rw [decide_eq_true rfl] at this
    exact this
def okP (X : AC) (L : List (Nat × Nat)) : Nat → Nat → Bool
  | 0, _ => true
  | j + 1, p => okP X L j (p / ((X.2.1 j).length + 1)) && fitL X L j (p % ((X.2.1 j).length + 1))
theorem okP_is {X : AC} {L : List (Nat × Nat)} : ∀ j p, okP X L j p = true ↔ ∀ l, l < j → fitL X L l (pdig X j p l) = true := by
  intro j
  induction j with
  | zero => intro p; exact ⟨fun _ l h => absurd h (by omega), fun _ => rfl⟩
  | succ j ih =>
    intro p
    rw [okP, Bool.and_eq_true, ih]
    constructor
    · intro ⟨a, b⟩ l hl
      rw [pdig]
      by_cases c : l = j
      · subst c; rw [if_pos rfl]; exact b
      · rw [if_neg c]; exact a l (by omega)
    · intro h
      refine ⟨fun l hl => ?_, ?_⟩
      · have := h l (by omega)
        rw [pdig, if_neg (by omega)] at this; exact this
      · have := h j (by omega)
        rw [pdig, if_pos rfl] at this; exact this
theorem fit_ok {X : AC} {L : List (Nat × Nat)} (hL : ∀ q ∈ L, q.1 < 64) {k : Nat} (hk : k < totN X 16) : fitB X L (roK X k) = okP X L 16 k := by
  rw [Bool.eq_iff_iff, fitB_is hL, okP_is]
  exact ⟨fun h l hl => by rw [← roK_pd k hk]; exact h l hl, fun h l hl => by rw [roK_pd k hk]; exact h l hl⟩
def cL (X : AC) (L : List (Nat × Nat)) (l : Nat) : Nat := cP (fitL X L l) ((X.2.1 l).length + 1)
def prodC (X : AC) (L : List (Nat × Nat)) : Nat → Nat
  | 0 => 1
  | j + 1 => prodC X L j * cL X L j
theorem prodC_is {X : AC} {L : List (Nat × Nat)} : ∀ j, cP (okP X L j) (totN X j) = prodC X L j := by
  intro j
  induction j with
  | zero => rfl
  | succ j ih =>
    rw [totN, prodC, ← ih]
    exact cP_mul (P := okP X L j) (Q := fitL X L j) _
theorem prodC_pos {X : AC} {L : List (Nat × Nat)} : ∀ j, 0 < prodC X L j → ∀ l, l < j → 0 < cL X L l := by
  intro j
  induction j with
  | zero => intro _ l h; exact absurd h (by omega)
  | succ j ih =>
    intro h l hl
    rw [prodC] at h
    have h1 := Nat.pos_of_mul_pos_left h
    have h2 := Nat.pos_of_mul_pos_right h
    by_cases c : l = j
    · subst c; first | exact h1 | exact h2
    · first | exact ih h2 l (by omega) | exact ih h1 l (by omega)
def mnL (X : AC) (L : List (Nat × Nat)) (l : Nat) : Nat := (fP (fitL X L l) ((X.2.1 l).length + 1)).getD 0
def foF (X : AC) (L : List (Nat × Nat)) : Nat → Nat
  | 0 => 0
  | j + 1 => foF X L j * ((X.2.1 j).length + 1) + mnL X L j
theorem mnL_is {X : AC} {L : List (Nat × Nat)} {l : Nat} (h : 0 < cL X L l) : mnL X L l < (X.2.1 l).length + 1 ∧ fitL X L l (mnL X L l) = true ∧ ∀ y, y < mnL X L l → fitL X L l y = false := by
  obtain ⟨x, a, b, c, d⟩ := fP_ex _ ((cP_pos _).mp h)
  unfold mnL
  rw [d]
  exact ⟨a, b, c⟩
theorem foF_is {X : AC} {L : List (Nat × Nat)} : ∀ j, (∀ l, l < j → 0 < cL X L l) → foF X L j < totN X j ∧ okP X L j (foF X L j) = true ∧ ∀ y, y < foF X L j → okP X L j y = false := by
  intro j
  induction j with
  | zero => intro _; exact ⟨(by show 0 < 1; omega), rfl, fun y h => absurd h (by show ¬ y < 0; omega)⟩
  | succ j ih =>
    intro h
    obtain ⟨a1, a2, a3⟩ := ih (fun l hl => h l (by omega))
    obtain ⟨m1, m2, m3⟩ := mnL_is (h j (by omega))
    obtain ⟨e1, e2⟩ := dmU (a := foF X L j * ((X.2.1 j).length + 1) + mnL X L j) (b := (X.2.1 j).length + 1) (c := mnL X L j) (d := foF X L j) (by rw [Nat.mul_comm]) m1
    refine ⟨?_, ?_, fun y hy => ?_⟩
    · rw [foF, totN]
      have : (foF X L j + 1) * ((X.2.1 j).length + 1) ≤ totN X j * ((X.2.1 j).length + 1) := Nat.mul_le_mul_right _ a1
      rw [Nat.add_mul, Nat.one_mul] at this
      omega
    · rw [foF, okP, e1, e2, a2, m2]; rfl
    · rw [foF] at hy
      rw [okP]
      cases q1 : okP X L j (y / ((X.2.1 j).length + 1)) with
      | false => rfl
      | true =>
        cases q2 : fitL X L j (y % ((X.2.1 j).length + 1)) with
        | false => rfl
        | true =>
          have h1 : ¬ y / ((X.2.1 j).length + 1) < foF X L j := fun e => by rw [a3 _ e] at q1; cases q1
          have h2 : ¬ y % ((X.2.1 j).length + 1) < mnL X L j := fun e => by rw [m3 _ e] at q2; cases q2
          have h3 := Nat.div_add_mod y ((X.2.1 j).length + 1)
          have h4 : ((X.2.1 j).length + 1) * foF X L j ≤ ((X.2.1 j).length + 1) * (y / ((X.2.1 j).length + 1)) := Nat.mul_le_mul_left _ (by omega)
          rw [Nat.mul_comm] at h4
          omega
theorem ex_dig {X : AC} {L : List (Nat × Nat)} {l r : Nat} (hr : r < (X.2.1 l).length + 1) (hf : fitL X L l r = true) : ∀ j, l < j → (∀ i, i < j → 0 < cL X L i) → ∃ p, p < totN X j ∧ okP X L j p = true ∧ pdig X j p l = r := by
  intro j
  induction j with
  | zero => intro h _; exact absurd h (by omega)
  | succ j ih =>
    intro h hc
    have fin : ∀ p d, p < totN X j → d < (X.2.1 j).length + 1 → okP X L j p = true → fitL X L j d = true → (if l = j then d else pdig X j p l) = r → ∃ p, p < totN X (j + 1) ∧ okP X L (j + 1) p = true ∧ pdig X (j + 1) p l = r := by
      intro p d hp hd h1 h2 h3
      obtain ⟨e1, e2⟩ := dmU (a := p * ((X.2.1 j).length + 1) + d) (b := (X.2.1 j).length + 1) (c := d) (d := p) (by rw [Nat.mul_comm]) hd
      refine ⟨p * ((X.2.1 j).length + 1) + d, ?_, ?_, ?_⟩
      · rw [totN]
        have : (p + 1) * ((X.2.1 j).length + 1) ≤ totN X j * ((X.2.1 j).length + 1) := Nat.mul_le_mul_right _ hp
        rw [Nat.add_mul, Nat.one_mul] at this
        omega
      · rw [okP, e1, e2, h1, h2]; rfl
      · rw [pdig, e1, e2]; exact h3
    by_cases c : l = j
    · subst c
      obtain ⟨a1, a2, _⟩ := foF_is l (fun i hi => hc i (by omega))
      exact fin _ r a1 hr a2 hf (if_pos rfl)
    · obtain ⟨p, a1, a2, a3⟩ := ih (by omega) (fun i hi => hc i (by omega))
      obtain ⟨m1, m2, _⟩ := mnL_is (hc j (by omega))
      exact fin p _ a1 m1 a2 m2 (by rw [if_neg c]; exact a3)
/-! how many numbers -/
def valW (X : AC) (w r : Nat) : Nat := lastS w (X.1 w) ((X.2.1 (w / 4)).take r)
def lstP (P : Nat → Bool) (f : Nat → Nat) : Nat → List Nat
  | 0 => []
  | k + 1 => if P k = true then lstP P f k ++ [f k] else lstP P f k
theorem lstP_len {P : Nat → Bool} {f : Nat → Nat} : ∀ n, (lstP P f n).length = cP P n := by
  intro n
  induction n with
  | zero => rfl
  | succ n ih =>
    rw [lstP, cP]
    by_cases c : P n = true
    · rw [if_pos c, if_pos c, List.length_append, ih]; rfl
    · rw [if_neg c, if_neg c, ih]; rfl
theorem lstP_mem {P : Nat → Bool} {f : Nat → Nat} {v : Nat} : ∀ n, v ∈ lstP P f n ↔ ∃ k, k < n ∧ P k = true ∧ f k = v := by
  intro n
  induction n with
  | zero => exact ⟨fun h => absurd h List.not_mem_nil, fun ⟨k, h, _⟩ => absurd h (by omega)⟩
  | succ n ih =>
    rw [lstP]
    by_cases c : P n = true
    · rw [if_pos c, List.mem_append, ih, List.mem_singleton]
      exact ⟨fun h => h.elim (fun ⟨k, a, b⟩ => ⟨k, by omega, b⟩) (fun e => ⟨n, by omega, c, e.symm⟩), fun ⟨k, a, b, d⟩ => by
        by_cases e : k = n
        · subst e; exact Or.inr d.symm
        · exact Or.inl ⟨k, by omega, b, d⟩⟩
    · rw [if_neg c, ih]
      exact ⟨fun ⟨k, a, b⟩ => ⟨k, by omega, b⟩, fun ⟨k, a, b, d⟩ => ⟨k, by
        by_cases e : k = n
        · subst e; exact absurd b c
        · omega, b, d⟩⟩
/-- how many of a list's first n are unlike all before them -/
def disN (V : List Nat) : Nat → Nat
  | 0 => 0
  | k + 1 => disN V k + (if (V.take k).contains (V.getD k 0) = true then 0 else 1)
theorem disN_is {V : List Nat} (hV : ∀ v ∈ V, v < 128) : ∀ n, n ≤ V.length → disN V n = cP (fun v => (V.take n).contains v) 128 := by
  intro n
  induction n with
  | zero => intro _; exact (cP_false (n := 128)).symm
  | succ n ih =>
    intro hn
    have hg : V.getD n 0 = V[n]'(by omega) := by rw [List.getD_eq_getElem?_getD, List.getElem?_eq_getElem (by omega)]; rfl
    have hlt : V.getD n 0 < 128 := by rw [hg]; exact hV _ (List.getElem_mem _)
    have ht : V.take (n + 1) = V.take n ++ [V.getD n 0] := by rw [hg]; exact List.take_append_getElem (by omega) |>.symm
    rw [disN, ih (by omega), ht]
    generalize V.getD n 0 = a at *
    generalize V.take n = W at *
    by_cases c : W.contains a = true
    · rw [if_pos c, Nat.add_zero]
      apply cP_congr
      intro v _
      rw [Bool.eq_iff_iff, List.contains_iff_mem, List.contains_iff_mem, List.mem_append, List.mem_singleton]
      exact ⟨Or.inl, fun h => h.elim id (fun e => by rw [e]; exact List.contains_iff_mem.mp c)⟩
    · rw [if_neg c]
      have key : ∀ m, cP (fun v => (W ++ [a]).contains v) m = cP (fun v => W.contains v) m + (if a < m then 1 else 0) := by
        intro m
        induction m with
        | zero => rw [if_neg (by omega)]; rfl
        | succ m ihm =>
          rw [cP, cP, ihm]
          by_cases d : m = a
          · subst d
            have h1 : (W ++ [m]).contains m = true := List.contains_iff_mem.mpr (List.mem_append.mpr (Or.inr (List.mem_singleton.mpr rfl)))
            rw [if_pos h1, if_neg c, if_neg (show ¬ m < m by omega), if_pos (show m < m + 1 by omega)]
          · have h1 : (W ++ [a]).contains m = W.contains m := by
              rw [Bool.eq_iff_iff, List.contains_iff_mem, List.contains_iff_mem, List.mem_append, List.mem_singleton]
              exact ⟨fun h => h.elim id (fun e => absurd e d), Or.inl⟩
            rw [h1]
            by_cases e : a < m
            · rw [if_pos e, if_pos (show a < m + 1 by omega)]; omega
            · rw [if_neg e, if_neg (show ¬ a < m + 1 by omega)]; omega
      rw [key, if_pos hlt]
/-- the numbers that a word may have been -/
def mayB (X : AC) (L : List (Nat × Nat)) (w v : Nat) : Bool := (lstP (fitL X L (w / 4)) (valW X w) ((X.2.1 (w / 4)).length + 1)).contains v
def nwA (X : AC) (L : List (Nat × Nat)) (w : Nat) : Nat := cP (mayB X L w) 128
theorem nw_all {X : AC} {L : List (Nat × Nat)} {w v : Nat} (hw : w < 64) (hp : 0 < prodC X L 16) : (lstP (okP X L 16) (fun k => imgA X (roK X k) w) (totN X 16)).contains v = mayB X L w v := by
  have hc := prodC_pos 16 hp
  unfold mayB
  rw [Bool.eq_iff_iff, List.contains_iff_mem, List.contains_iff_mem, lstP_mem, lstP_mem]
  constructor
  · intro ⟨k, a, b, c⟩
    have h1 := (okP_is 16 k).mp b (w / 4) (by omega)
    have e := roK_pd k a (w / 4)
    refine ⟨pdig X 16 k (w / 4), ?_, h1, ?_⟩
    · have : ∀ j p l, l < j → pdig X j p l < (X.2.1 l).length + 1 := by
        intro j
        induction j with
        | zero => intro p l h; exact absurd h (by omega)
        | succ j ih =>
          intro p l h
          rw [pdig]
          by_cases d : l = j
          · subst d; rw [if_pos rfl]; exact Nat.mod_lt _ (by omega)
          · rw [if_neg d]; exact ih _ l (by omega)
      exact this 16 k (w / 4) (by omega)
    · rw [← c]; unfold valW imgA; rw [e]
  · intro ⟨r, a, b, c⟩
    obtain ⟨p, p1, p2, p3⟩ := ex_dig (l := w / 4) a b 16 (by omega) hc
    refine ⟨p, p1, p2, ?_⟩
    show imgA X (roK X p) w = v
    unfold imgA
    rw [roK_pd p p1, p3]
    exact c
