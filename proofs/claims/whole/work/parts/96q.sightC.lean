/-! ===== what may have been: the class ===== -/
theorem drop_get {α : Type} {L : List α} {i : Nat} (h : i < L.length) : ∃ q, L[i]? = some q ∧ q ∈ L ∧ L.drop i = q :: L.drop (i + 1) := ⟨L[i], List.getElem?_eq_getElem h, List.getElem_mem h, List.drop_eq_getElem_cons h⟩
def fitQ (X : AC) (l r : Nat) (q : Nat × Nat) : Bool := !decide (q.1 / 4 = l) || decide (lastS q.1 (X.1 q.1) ((X.2.1 l).take r) = q.2)
def CLw (lw : Nat → Int32) (X : AC) (l r : Nat) : Prop := ∀ j, j < 4 → lw j = nI (lastS (4 * l + j) (X.1 (4 * l + j)) ((X.2.1 l).take r))
theorem val_le {X : AC} {l r w : Nat} (hV : VC X) (hl : l < 16) (hw : w < 64) : lastS w (X.1 w) ((X.2.1 l).take r) ≤ 99 := lastS_le (v := 0) _ _ (hV.1 w hw) (fun st hs => ((hV.2 l hl).2.2 st (List.mem_of_mem_take hs)).2)
theorem c_fits_loop {lw a : Nat → Int32} {X : AC} {L : List (Nat × Nat)} {l r : Nat} (hV : VC X) (hl : l < 16) (hlw : CLw lw X l r) (h8 : L.length ≤ 8) (hL : ∀ q ∈ L, q.1 < 64 ∧ q.2 ≤ 999) (ha : ∀ k q, L[k]? = some q → a k = nI (q.1 * 1000 + q.2)) :
    ∀ (d i fuel : Nat), i + d = L.length → d < fuel → m_X8_fits_w3 lw a 8 (nI l) (nI L.length) fuel (nI i) = some (nI (bN ((L.drop i).all (fitQ X l r)))) := by
  intro d
  induction d with
  | zero =>
    intro i fuel hi hf
    obtain ⟨fuel, rfl⟩ : ∃ d, fuel = d + 1 := ⟨fuel - 1, by omega⟩
    rw [m_X8_fits_w3, if_pos (nI_le (by omega) (by omega)), List.drop_eq_nil_of_le (by omega)]; rfl
  | succ d ih =>
    intro i fuel hi hf
    obtain ⟨fuel, rfl⟩ : ∃ d, fuel = d + 1 := ⟨fuel - 1, by omega⟩
    obtain ⟨q, q1, q2, q3⟩ := drop_get (L := L) (i := i) (by omega)
    obtain ⟨b1, b2⟩ := hL q q2
    have e1 : nI (q.1 * 1000 + q.2) / 1000 = nI q.1 := by
      rw [show (1000 : Int32) = nI 1000 from rfl, nI_divE (by omega) (by decide), show (q.1 * 1000 + q.2) / 1000 = q.1 by omega]
    have e2 : nI q.1 / 4 = nI (q.1 / 4) := nI_divE (b := 4) (by omega) (by decide)
    have e3 : nI q.1 - nI q.1 / 4 * 4 = nI (q.1 % 4) := nI_modE (b := 4) (by omega) (by decide)
    have e4 : nI (q.1 * 1000 + q.2) - nI (q.1 * 1000 + q.2) / 1000 * 1000 = nI q.2 := by
      rw [show (1000 : Int32) = nI 1000 from rfl, nI_modE (by omega) (by decide), show (q.1 * 1000 + q.2) % 1000 = q.2 by omega]
    rw [m_X8_fits_w3, if_neg (nI_ge (by omega) (by omega)), rd_nI (by omega) (by decide), ha i q q1, nm, e1, e3, e2, q3, List.all_cons]
    have go : m_X8_fits_j49 lw a 8 (nI l) (nI L.length) (m_X8_fits_w3 lw a 8 (nI l) (nI L.length) fuel) (nI i) = some (nI (bN ((L.drop (i + 1)).all (fitQ X l r)))) := by
      rw [m_X8_fits_j49, nm, show nI i + 1 = nI (i + 1) from nI_1 _]
      exact ih (i + 1) fuel (by omega) (by omega)
    by_cases c : q.1 / 4 = l
    · rw [if_pos (show nI (q.1 / 4) = nI l by rw [c]), rd_nI (by omega) (by decide), hlw (q.1 % 4) (by omega), rd_nI (by omega) (by decide), ha i q q1, e4, show 4 * l + q.1 % 4 = q.1 by omega]
      have h9 := val_le (r := r) hV hl (w := q.1) b1
      by_cases e : lastS q.1 (X.1 q.1) ((X.2.1 l).take r) = q.2
      · have : fitQ X l r q = true := by unfold fitQ; rw [decide_eq_true e]; exact Bool.or_true _
        rw [if_pos (by rw [e]), this, Bool.true_and]; exact go
      · have : fitQ X l r q = false := by unfold fitQ; rw [decide_eq_false e, decide_eq_true c]; rfl
        rw [if_neg (fun z => e (nI_inj (by omega) (by omega) z)), this, Bool.false_and]; rfl
    · have : fitQ X l r q = true := by unfold fitQ; rw [decide_eq_false c]; rfl
      rw [if_neg (fun z => c (nI_inj (by omega) (by omega) z)), this, Bool.true_and]; exact go
theorem c_fits {lw a : Nat → Int32} {X : AC} {L : List (Nat × Nat)} {l r : Nat} (hV : VC X) (hl : l < 16) (hlw : CLw lw X l r) (h8 : L.length ≤ 8) (hL : ∀ q ∈ L, q.1 < 64 ∧ q.2 ≤ 999) (ha : ∀ k q, L[k]? = some q → a k = nI (q.1 * 1000 + q.2)) : m_X8_fits lw a 8 (nI l) (nI L.length) = some (nI (bN (fitL X L l r))) :=
  c_fits_loop hV hl hlw h8 hL ha L.length 0 fuelN (by omega) (by rw [fuel_is]; omega)
def posK (X : AC) (L : List (Nat × Nat)) (l : Nat) : Nat → Nat
  | 0 => 0
  | k + 1 => posK X L l k ||| (if fitL X L l k = true then 1 <<< k else 0)
def posA (X : AC) (L : List (Nat × Nat)) (l : Nat) : Nat := posK X L l ((X.2.1 l).length + 1)
theorem posK_tb {X : AC} {L : List (Nat × Nat)} {l : Nat} : ∀ n k, (posK X L l n).testBit k = (decide (k < n) && fitL X L l k) := by
  intro n
  induction n with
  | zero => intro k; rw [posK, Nat.zero_testBit, decide_eq_false (by omega)]; rfl
  | succ n ih =>
    intro k
    rw [posK, Nat.testBit_or, ih]
    by_cases c : fitL X L l n = true
    · rw [if_pos c, Nat.shiftLeft_eq, Nat.one_mul, Nat.testBit_two_pow]
      by_cases d : k = n
      · subst d; rw [decide_eq_true (show k < k + 1 by omega), c, decide_eq_true (rfl : k = k), Bool.or_true]; rfl
      · rw [decide_eq_false (show ¬ n = k by omega), Bool.or_false]
        by_cases e : k < n
        · rw [decide_eq_true e, decide_eq_true (show k < n + 1 by omega)]
        · rw [decide_eq_false e, decide_eq_false (show ¬ k < n + 1 by omega)]
    · rw [if_neg c, Nat.zero_testBit, Bool.or_false]
      by_cases d : k = n
      · subst d; rw [Bool.eq_false_iff.mpr c, Bool.and_false, Bool.and_false]
      · by_cases e : k < n
        · rw [decide_eq_true e, decide_eq_true (show k < n + 1 by omega)]
        · rw [decide_eq_false e, decide_eq_false (show ¬ k < n + 1 by omega)]
theorem posK_lt {X : AC} {L : List (Nat × Nat)} {l : Nat} : ∀ n, n ≤ 7 → posK X L l n < 128 := fun n hn => Nat.lt_pow_two_of_testBit (n := 7) _ (fun i hi => by rw [posK_tb, decide_eq_false (by omega)]; rfl)
theorem bcN_cP {x : Nat} : ∀ n, y_bcN x n = cP (fun k => x.testBit k) n := by
  intro n
  induction n with
  | zero => rfl
  | succ n ih => rw [y_bcN, cP, ih]
theorem pc_bc : ∀ x, x < 1024 → pc x = y_bcN x 10 := by decide +kernel
theorem pos_pc {X : AC} {L : List (Nat × Nat)} {l n : Nat} (hn : n ≤ 7) : pc (posK X L l n) = cP (fitL X L l) n := by
  rw [pc_bc _ (Nat.lt_trans (posK_lt n hn) (by decide)), bcN_cP, show 10 = n + (10 - n) by omega, cP_add]
  have e1 : cP (fun k => (posK X L l n).testBit k) n = cP (fitL X L l) n := cP_congr n (fun k hk => by rw [posK_tb, decide_eq_true hk]; rfl)
  have e2 : cP (fun k => (fun k => (posK X L l n).testBit k) (n + k)) (10 - n) = cP (fun _ => false) (10 - n) := cP_congr _ (fun k _ => by dsimp only; rw [posK_tb, decide_eq_false (by omega)]; rfl)
  rw [e1, e2, cP_false, Nat.add_zero]
theorem c_narrow_in {md st hd ak a : Nat → Int32} {X : AC} {L : List (Nat × Nat)} {l : Nat} {K : Int32 → (Nat → Int32) → (Nat → Int32) → Option ((Nat → Int32) × (Nat → Int32))} (hC : CC md st hd ak X) (hV : VC X) (hl : l < 16) (h8 : L.length ≤ 8) (hL : ∀ q ∈ L, q.1 < 64 ∧ q.2 ≤ 999) (ha : ∀ k q, L[k]? = some q → a k = nI (q.1 * 1000 + q.2)) :
    ∀ (d k fuel : Nat) (pos lw : Nat → Int32), k + d = (X.2.1 l).length + 1 → d < fuel → pos l = nI (posK X L l k) → CLw lw X l (k - 1) →
      ∃ pos' lw', m_X8_narrow_w38 md st hd a 8 (nI L.length) K fuel (nI l) (nI k) pos lw = K (nI l) pos' lw' ∧ pos' l = nI (posA X L l) ∧ ∀ j, ¬ j = l → pos' j = pos j := by
  intro d
  have hlen := (hV.2 l hl).1
  have h2 : hd l = nI (X.2.1 l).length := hC.2.1 l hl
  induction d with
  | zero =>
    intro k fuel pos lw hk hf hp hw
    obtain ⟨fuel, rfl⟩ : ∃ d, fuel = d + 1 := ⟨fuel - 1, by omega⟩
    have hk2 : k = (X.2.1 l).length + 1 := by omega
    rw [m_X8_narrow_w38, rd_nI hl (by decide), h2, if_pos (nI_lt (by omega) (by omega))]
    exact ⟨pos, lw, rfl, by rw [hp, hk2]; rfl, fun _ _ => rfl⟩
  | succ d ih =>
    intro k fuel pos lw hk hf hp hw
    obtain ⟨fuel, rfl⟩ : ∃ d, fuel = d + 1 := ⟨fuel - 1, by omega⟩
    have hle : posK X L l k < 128 := posK_lt k (by omega)
    have j89 : ∀ lw' : Nat → Int32, CLw lw' X l k → ∃ pos' lw'', m_X8_narrow_j89 md st hd a 8 (nI L.length) (m_X8_narrow_w38 md st hd a 8 (nI L.length) K fuel) (nI l) (nI k) pos lw' = K (nI l) pos' lw'' ∧ pos' l = nI (posA X L l) ∧ ∀ j, ¬ j = l → pos' j = pos j := by
      intro lw' hw'
      have fin : ∀ s3 : Int32, nI (posK X L l k) ||| s3 = nI (posK X L l (k + 1)) → ∃ pos' lw'', m_X8_narrow_j116 md st hd a 8 (nI L.length) (m_X8_narrow_w38 md st hd a 8 (nI L.length) K fuel) (nI l) (nI k) (nI l) (nI (posK X L l k)) s3 pos lw' = K (nI l) pos' lw'' ∧ pos' l = nI (posA X L l) ∧ ∀ j, ¬ j = l → pos' j = pos j := by
        intro s3 h3
        rw [m_X8_narrow_j116, wr_nI hl (by decide), h3, nm, show nI k + 1 = nI (k + 1) from nI_1 _]
        obtain ⟨p', l', z1, z2, z3⟩ := ih (k + 1) fuel (upd pos l (nI (posK X L l (k + 1)))) lw' (by omega) (by omega) upd_eq (by rw [Nat.add_sub_cancel]; exact hw')
        exact ⟨p', l', z1, z2, fun j hj => (z3 j hj).trans (upd_ne hj)⟩
      rw [m_X8_narrow_j89, rd_nI hl (by decide), hp, bd_ok (c_fits hV hl hw' h8 hL ha)]
      by_cases c : fitL X L l k = true
      · rw [c, if_neg (show ¬ nI (bN true) = 0 by decide), shI (by omega)]
        exact fin _ (by rw [nI_or, posK, if_pos c])
      · rw [Bool.eq_false_iff.mpr c, if_pos (show nI (bN false) = 0 from rfl)]
        exact fin 0 (by rw [posK, if_neg c]; exact nI_or _ 0)
    rw [m_X8_narrow_w38, rd_nI hl (by decide), h2, if_neg (nI_nlt (by omega) (by omega))]
    by_cases c : k = 0
    · subst c
      rw [if_pos (show nI 0 ≤ 0 by decide)]
      exact j89 lw hw
    · obtain ⟨q, q1, q2, _⟩ := drop_get (L := X.2.1 l) (i := k - 1) (by omega)
      obtain ⟨_, _, hst⟩ := hV.2 l hl
      obtain ⟨v1, v2⟩ := hst q q2
      have e0 : nI l * 6 + nI k - 1 = nI (6 * l + (k - 1)) := by
        rw [show (6 : Int32) = nI 6 from rfl, show (1 : Int32) = nI 1 from rfl, nI_mulE, nI_add, nI_subE (by omega), show l * 6 + k - 1 = 6 * l + (k - 1) by omega]
      have e1 : nI (100 * q.1 + q.2) / 100 = nI q.1 := by
        rw [show (100 : Int32) = nI 100 from rfl, nI_divE (by omega) (by decide), show (100 * q.1 + q.2) / 100 = q.1 by omega]
      have e3 : nI q.1 - nI q.1 / 4 * 4 = nI (q.1 % 4) := nI_modE (b := 4) (by omega) (by decide)
      have e4 : nI (100 * q.1 + q.2) - nI q.1 * 100 = nI q.2 := by
        rw [show (100 : Int32) = nI 100 from rfl, nI_mulE, nI_subE (by omega), show 100 * q.1 + q.2 - q.1 * 100 = q.2 by omega]
      rw [if_neg (show ¬ nI k ≤ 0 from nI_ge (a := 0) (by omega) (by omega)), e0, rd_nI (by omega) (by decide), hC.2.2.2 l hl (k - 1) q q1, e1, e3, e4, wr_nI (by omega) (by decide)]
      refine j89 _ (fun j hj => ?_)
      have et : (X.2.1 l).take k = (X.2.1 l).take (k - 1 + 1) := by rw [show k - 1 + 1 = k by omega]
      rw [et, lastS_take q1]
      by_cases z : j = q.1 % 4
      · rw [z, upd_eq, if_pos (show q.1 = 4 * l + q.1 % 4 by omega)]
      · rw [upd_ne z, if_neg (show ¬ q.1 = 4 * l + j by omega)]
        exact hw j hj
def CPos (pos : Nat → Int32) (X : AC) (L : List (Nat × Nat)) : Prop := ∀ l, l < 16 → pos l = nI (posA X L l)
theorem c_narrow_out {md st hd ak a : Nat → Int32} {X : AC} {L : List (Nat × Nat)} (hC : CC md st hd ak X) (hV : VC X) (h8 : L.length ≤ 8) (hL : ∀ q ∈ L, q.1 < 64 ∧ q.2 ≤ 999) (ha : ∀ k q, L[k]? = some q → a k = nI (q.1 * 1000 + q.2)) :
    ∀ (d l fuel : Nat) (pos lw : Nat → Int32), l + d = 16 → d < fuel → (∀ j, j < l → pos j = nI (posA X L j)) →
      ∃ pos' lw', m_X8_narrow_w3 md st hd a 8 (nI L.length) fuel (nI l) pos lw = some (pos', lw') ∧ CPos pos' X L := by
  intro d
  induction d with
  | zero =>
    intro l fuel pos lw hl hf hp
    obtain ⟨fuel, rfl⟩ : ∃ d, fuel = d + 1 := ⟨fuel - 1, by omega⟩
    rw [m_X8_narrow_w3, if_pos (show (16 : Int32) ≤ nI l from nI_le (a := 16) (by omega) (by omega))]
    exact ⟨pos, lw, rfl, fun j hj => hp j (by omega)⟩
  | succ d ih =>
    intro l fuel pos lw hl hf hp
    obtain ⟨fuel, rfl⟩ : ∃ d, fuel = d + 1 := ⟨fuel - 1, by omega⟩
    have e0 : nI l * 4 = nI (4 * l) := by rw [show (4 : Int32) = nI 4 from rfl, nI_mulE, Nat.mul_comm]
    have ec : ∀ {k : (Nat → Int32) → Option ((Nat → Int32) × (Nat → Int32))}, cp md lw 64 4 (nI (4 * l)) 0 4 k = k (va_cpy md lw (4 * l) 0 4) := fun {k} => cp_nI (sp := 4 * l) (dp := 0) (n := 4) (by omega) (by omega) (by decide) (by decide)
    rw [m_X8_narrow_w3, if_neg (show ¬ (16 : Int32) ≤ nI l from nI_ge (b := 16) (by omega) (by decide)), e0, ec, wr_nI (by omega) (by decide)]
    obtain ⟨p', l', z1, z2, z3⟩ := c_narrow_in (K := m_X8_narrow_j124 md st hd a 8 (nI L.length) (m_X8_narrow_w3 md st hd a 8 (nI L.length) fuel)) hC hV (l := l) (by omega) h8 hL ha ((X.2.1 l).length + 1) 0 fuelN (upd pos l 0) (va_cpy md lw (4 * l) 0 4) (by omega) (by have := (hV.2 l (by omega)).1; rw [fuel_is]; omega) upd_eq (fun j hj => by
      unfold va_cpy
      rw [if_pos (by omega), show 4 * l + (j - 0) = 4 * l + j by omega, hC.1 (4 * l + j) (by omega)]
      rfl)
    rw [show (0 : Int32) = nI 0 from rfl] at *
    rw [z1, m_X8_narrow_j124, nm, show nI l + 1 = nI (l + 1) from nI_1 _]
    exact ih (l + 1) fuel p' l' (by omega) (by omega) (fun j hj => by
      by_cases c : j = l
      · rw [c]; exact z2
      · rw [z3 j c, upd_ne c]; exact hp j (by omega))
theorem c_narrow {md st hd ak a pos lw : Nat → Int32} {X : AC} {L : List (Nat × Nat)} (hC : CC md st hd ak X) (hV : VC X) (h8 : L.length ≤ 8) (hL : ∀ q ∈ L, q.1 < 64 ∧ q.2 ≤ 999) (ha : ∀ k q, L[k]? = some q → a k = nI (q.1 * 1000 + q.2)) :
    ∃ pos' lw', m_X8_narrow pos lw md st hd a 8 (nI L.length) = some (pos', lw') ∧ CPos pos' X L :=
  c_narrow_out hC hV h8 hL ha 16 0 fuelN pos lw (by omega) (by rw [fuel_is]; omega) (fun j hj => absurd hj (by omega))
theorem c_left_loop {pos : Nat → Int32} {X : AC} {L : List (Nat × Nat)} (hV : VC X) (hp : CPos pos X L) : ∀ (d j fuel : Nat), j + d = 16 → d < fuel → m_X8_ordersLeft_w4 pos fuel (nI (prodC X L j)) (nI j) = some (nI (prodC X L 16)) := by
  intro d
  induction d with
  | zero =>
    intro j fuel hj hf
    obtain ⟨fuel, rfl⟩ : ∃ d, fuel = d + 1 := ⟨fuel - 1, by omega⟩
    rw [m_X8_ordersLeft_w4, if_pos (show (16 : Int32) ≤ nI j from nI_le (a := 16) (by omega) (by omega)), show j = 16 by omega]
  | succ d ih =>
    intro j fuel hj hf
    obtain ⟨fuel, rfl⟩ : ∃ d, fuel = d + 1 := ⟨fuel - 1, by omega⟩
    have hl := (hV.2 j (by omega)).1
    have h1 : posA X L j < 128 := posK_lt _ (by omega)
    rw [m_X8_ordersLeft_w4, if_neg (show ¬ (16 : Int32) ≤ nI j from nI_ge (b := 16) (by omega) (by decide)), rd_nI (by omega) (by decide), hp j (by omega), bd_ok (bitC _ (by omega)), nm, nm, nI_mulE, show nI j + 1 = nI (j + 1) from nI_1 _]
    have e : prodC X L j * pc (posA X L j) = prodC X L (j + 1) := by rw [prodC]; unfold posA; rw [pos_pc (by omega)]; rfl
    rw [e]
    exact ih (j + 1) fuel (by omega) (by omega)
theorem c_left {pos : Nat → Int32} {X : AC} {L : List (Nat × Nat)} (hV : VC X) (hp : CPos pos X L) : m_X8_ordersLeft pos = some (nI (prodC X L 16)) := c_left_loop hV hp 16 0 fuelN (by omega) (by rw [fuel_is]; omega)
theorem tzN : ∀ x, x < 128 → ¬ x = 0 → m_J6_numberOfTrailingZeros_0f7a4 (nI x) = some (nI ((fP (fun k => x.testBit k) 7).getD 0)) := by decide +kernel
theorem c_first_loop {pos hd md st ak : Nat → Int32} {X : AC} {L : List (Nat × Nat)} (hC : CC md st hd ak X) (hV : VC X) (hp : CPos pos X L) (hc : ∀ l, l < 16 → 0 < cL X L l) : ∀ (d j fuel : Nat), j + d = 16 → d < fuel → m_X8_firstLeft_w4 pos hd fuel (nI (foF X L j)) (nI j) = some (nI (foF X L 16)) := by
  intro d
  induction d with
  | zero =>
    intro j fuel hj hf
    obtain ⟨fuel, rfl⟩ : ∃ d, fuel = d + 1 := ⟨fuel - 1, by omega⟩
    rw [m_X8_firstLeft_w4, if_pos (show (16 : Int32) ≤ nI j from nI_le (a := 16) (by omega) (by omega)), show j = 16 by omega]
  | succ d ih =>
    intro j fuel hj hf
    obtain ⟨fuel, rfl⟩ : ∃ d, fuel = d + 1 := ⟨fuel - 1, by omega⟩
    have hl := (hV.2 j (by omega)).1
    have h1 : posA X L j < 128 := posK_lt _ (by omega)
    obtain ⟨m1, m2, m3⟩ := mnL_is (hc j (by omega))
    have t1 : (posA X L j).testBit (mnL X L j) = true := by unfold posA; rw [posK_tb, decide_eq_true m1, m2]; rfl
    have h0 : ¬ posA X L j = 0 := fun e => by rw [e, Nat.zero_testBit] at t1; cases t1
    have e1 : fP (fun k => (posA X L j).testBit k) 7 = some (mnL X L j) := fP_some t1 (fun y hy => by unfold posA; rw [posK_tb, m3 y hy, Bool.and_false]) 7 (by omega)
    rw [m_X8_firstLeft_w4, if_neg (show ¬ (16 : Int32) ≤ nI j from nI_ge (b := 16) (by omega) (by decide)), rd_nI (by omega) (by decide), hC.2.1 j (by omega), rd_nI (by omega) (by decide), hp j (by omega), bd_ok (tzN _ h1 h0), e1, nm, nm, show nI (X.2.1 j).length + 1 = nI ((X.2.1 j).length + 1) from nI_1 _, nI_mulE, show nI j + 1 = nI (j + 1) from nI_1 _]
    show m_X8_firstLeft_w4 pos hd fuel (nI (foF X L j * ((X.2.1 j).length + 1)) + nI (mnL X L j)) (nI (j + 1)) = _
    rw [nI_add]
    exact ih (j + 1) fuel (by omega) (by omega)
theorem c_first {pos hd md st ak : Nat → Int32} {X : AC} {L : List (Nat × Nat)} (hC : CC md st hd ak X) (hV : VC X) (hp : CPos pos X L) (hc : ∀ l, l < 16 → 0 < cL X L l) : m_X8_firstLeft pos hd = some (nI (foF X L 16)) := c_first_loop hC hV hp hc 16 0 fuelN (by omega) (by rw [fuel_is]; omega)
/-! how many numbers a word may have been -/
theorem y_or (a b : Int64) : y_uN (a ||| b) = y_uN a ||| y_uN b := by
  show (a ||| b).toBitVec.toNat = _
  rw [Int64.toBitVec_or, BitVec.toNat_or]; rfl
theorem y_sh : ∀ v, v < 64 → y_uN ((1 : Int64) <<< ((nI v).toInt64 &&& 63)) = 2 ^ v := by decide +kernel
def lowT (low : Int64) (V : List Nat) (b : Nat) : Prop := ∀ v, v < 64 → (y_uN low).testBit v = V.contains (b + v)
theorem low_add {low : Int64} {V : List Nat} {b v : Nat} {s : Int64} (h : lowT low V b) (hs : y_uN s = if b ≤ v ∧ v < b + 64 then 2 ^ (v - b) else 0) : lowT (low ||| s) (V ++ [v]) b := by
  intro k hk
  have e : (V ++ [v]).contains (b + k) = (V.contains (b + k) || decide (b + k = v)) := by
    rw [Bool.eq_iff_iff, List.contains_iff_mem, List.mem_append, List.mem_singleton, Bool.or_eq_true, List.contains_iff_mem, decide_eq_true_eq]
  rw [y_or, Nat.testBit_or, h k hk, hs, e]
  by_cases c : b ≤ v ∧ v < b + 64
  · rw [if_pos c, Nat.testBit_two_pow]
    congr 1
    rw [Bool.eq_iff_iff, decide_eq_true_eq, decide_eq_true_eq]
    omega
  · rw [if_neg c, Nat.zero_testBit, decide_eq_false (show ¬ b + k = v by omega)]
theorem c_unlike_loop {pos md st hd ak : Nat → Int32} {X : AC} {L : List (Nat × Nat)} {w : Nat} (hC : CC md st hd ak X) (hV : VC X) (hp : CPos pos X L) (hw : w < 64) :
    ∀ (d k fuel : Nat) (lo hi : Int64), k + d = (X.2.1 (w / 4)).length + 1 → d < fuel → lowT lo (lstP (fitL X L (w / 4)) (valW X w) k) 0 → lowT hi (lstP (fitL X L (w / 4)) (valW X w) k) 64 →
      m_X8_unlikeNumbers_w21 pos md st hd (nI w) (m_X8_unlikeNumbers_j141 pos md st hd (nI w)) fuel (nI (w / 4)) (nI (valW X w (k - 1))) lo hi (nI k) = some (nI (nwA X L w)) := by
  intro d
  have hl4 : w / 4 < 16 := by omega
  have hlen := (hV.2 (w / 4) hl4).1
  have h2 : hd (w / 4) = nI (X.2.1 (w / 4)).length := hC.2.1 _ hl4
  induction d with
  | zero =>
    intro k fuel lo hi hk hf h1 h3
    obtain ⟨fuel, rfl⟩ : ∃ d, fuel = d + 1 := ⟨fuel - 1, by omega⟩
    have hk2 : k = (X.2.1 (w / 4)).length + 1 := by omega
    rw [m_X8_unlikeNumbers_w21, rd_nI hl4 (by decide), h2, if_pos (nI_lt (by omega) (by omega)), m_X8_unlikeNumbers_j141, bd_ok (y_bit64 lo), bd_ok (y_bit64 hi), nI_add]
    have e : y_bcN (y_uN lo) 64 + y_bcN (y_uN hi) 64 = nwA X L w := by
      unfold nwA
      rw [show 128 = 64 + 64 from rfl, cP_add, bcN_cP, bcN_cP]
      congr 1
      · exact cP_congr 64 (fun v hv => by rw [h1 v hv, Nat.zero_add, hk2]; rfl)
      · exact cP_congr 64 (fun v hv => by rw [h3 v hv, hk2]; rfl)
    rw [e]
  | succ d ih =>
    intro k fuel lo hi hk hf h1 h3
    obtain ⟨fuel, rfl⟩ : ∃ d, fuel = d + 1 := ⟨fuel - 1, by omega⟩
    have hv9 : valW X w k ≤ 99 := val_le hV hl4 hw
    have hpl : posA X L (w / 4) < 128 := posK_lt _ (by omega)
    have htb : (posA X L (w / 4)).testBit k = fitL X L (w / 4) k := by unfold posA; rw [posK_tb, decide_eq_true (by omega)]; rfl
    have j78 : m_X8_unlikeNumbers_j78 pos md st hd (nI w) (m_X8_unlikeNumbers_w21 pos md st hd (nI w) (m_X8_unlikeNumbers_j141 pos md st hd (nI w)) fuel) (nI (w / 4)) (nI (valW X w k)) lo hi (nI k) = some (nI (nwA X L w)) := by
      have es : ((nI (posA X L (w / 4)) >>> (nI k &&& 31)) &&& 1) = nI ((posA X L (w / 4) >>> k) &&& 1) := shrI hpl (by omega)
      have eb : (posA X L (w / 4) >>> k) &&& 1 = if fitL X L (w / 4) k = true then 1 else 0 := by
        rw [← htb, Nat.and_one_is_mod, Nat.shiftRight_eq_div_pow, Nat.testBit_eq_decide_div_mod_eq]
        by_cases z : posA X L (w / 4) / 2 ^ k % 2 = 1
        · rw [decide_eq_true z, if_pos rfl, z]
        · rw [decide_eq_false z, if_neg (by decide)]; omega
      rw [m_X8_unlikeNumbers_j78, rd_nI hl4 (by decide), hp _ hl4, es, eb]
      by_cases c : fitL X L (w / 4) k = true
      · have el : lstP (fitL X L (w / 4)) (valW X w) (k + 1) = lstP (fitL X L (w / 4)) (valW X w) k ++ [valW X w k] := by rw [lstP, if_pos c]
        rw [if_pos c, if_neg (show ¬ nI 1 = 0 by decide)]
        by_cases z : valW X w k < 64
        · rw [if_neg (show ¬ (64 : Int32) ≤ nI (valW X w k) from nI_ge (b := 64) (by omega) (by decide)), m_X8_unlikeNumbers_j109, nm, if_neg (show ¬ (64 : Int32) ≤ nI (valW X w k) from nI_ge (b := 64) (by omega) (by decide)), m_X8_unlikeNumbers_j132, nm, m_X8_unlikeNumbers_j135, nm, show nI k + 1 = nI (k + 1) from nI_1 _]
          exact ih (k + 1) fuel _ _ (by omega) (by omega) (by rw [el]; exact low_add h1 (by rw [y_sh _ z, if_pos (by omega)]; rfl)) (by rw [el]; exact low_add h3 (by rw [if_neg (by omega)]; rfl))
        · rw [if_pos (show (64 : Int32) ≤ nI (valW X w k) from nI_le (a := 64) (by omega) (by omega)), m_X8_unlikeNumbers_j109, nm, if_pos (show (64 : Int32) ≤ nI (valW X w k) from nI_le (a := 64) (by omega) (by omega)), show nI (valW X w k) - 64 = nI (valW X w k - 64) from nI_subE (b := 64) (by omega), m_X8_unlikeNumbers_j132, nm, m_X8_unlikeNumbers_j135, nm, show nI k + 1 = nI (k + 1) from nI_1 _]
          exact ih (k + 1) fuel _ _ (by omega) (by omega) (by rw [el]; exact low_add h1 (by rw [if_neg (by omega)]; rfl)) (by rw [el]; exact low_add h3 (by rw [y_sh _ (by omega), if_pos (by omega)]))
      · have el : lstP (fitL X L (w / 4)) (valW X w) (k + 1) = lstP (fitL X L (w / 4)) (valW X w) k := by rw [lstP, if_neg c]
        rw [if_neg c, if_pos (show nI 0 = 0 from rfl), m_X8_unlikeNumbers_j135, nm, show nI k + 1 = nI (k + 1) from nI_1 _]
        exact ih (k + 1) fuel _ _ (by omega) (by omega) (by rw [el]; exact h1) (by rw [el]; exact h3)
    rw [m_X8_unlikeNumbers_w21, rd_nI hl4 (by decide), h2, if_neg (nI_nlt (by omega) (by omega))]
    by_cases c : k = 0
    · subst c
      rw [if_pos (show nI 0 ≤ 0 by decide), m_X8_unlikeNumbers_j55, if_pos (show nI 0 ≤ 0 by decide)]
      exact j78
    · obtain ⟨q, q1, q2, _⟩ := drop_get (L := X.2.1 (w / 4)) (i := k - 1) (by omega)
      obtain ⟨_, _, hst⟩ := hV.2 (w / 4) hl4
      obtain ⟨v1, v2⟩ := hst q q2
      have e0 : nI (w / 4) * 6 + nI k - 1 = nI (6 * (w / 4) + (k - 1)) := by
        rw [show (6 : Int32) = nI 6 from rfl, show (1 : Int32) = nI 1 from rfl, nI_mulE, nI_add, nI_subE (by omega), show w / 4 * 6 + k - 1 = 6 * (w / 4) + (k - 1) by omega]
      have e1 : nI (100 * q.1 + q.2) / 100 = nI q.1 := by
        rw [show (100 : Int32) = nI 100 from rfl, nI_divE (by omega) (by decide), show (100 * q.1 + q.2) / 100 = q.1 by omega]
      have e4 : nI (100 * q.1 + q.2) - nI q.1 * 100 = nI q.2 := by
        rw [show (100 : Int32) = nI 100 from rfl, nI_mulE, nI_subE (by omega), show 100 * q.1 + q.2 - q.1 * 100 = q.2 by omega]
      have ev : valW X w k = if q.1 = w then q.2 else valW X w (k - 1) := by
        have := lastS_take (w := w) (v := X.1 w) q1
        rw [show k - 1 + 1 = k by omega] at this
        exact this
      have nk : ¬ nI k ≤ 0 := nI_ge (a := 0) (by omega) (by omega)
      rw [if_neg nk, e0, rd_nI (by omega) (by decide), hC.2.2.2 _ hl4 (k - 1) q q1, m_X8_unlikeNumbers_j55, if_neg nk, e1]
      by_cases z : q.1 = w
      · rw [if_pos z] at ev
        rw [if_pos (show nI q.1 = nI w by rw [z]), e4, nm, ← ev]; exact j78
      · rw [if_neg z] at ev
        rw [if_neg (fun y => z (nI_inj (by omega) (by omega) y)), ← ev]; exact j78
theorem c_unlike {pos md st hd ak : Nat → Int32} {X : AC} {L : List (Nat × Nat)} {w : Nat} (hC : CC md st hd ak X) (hV : VC X) (hp : CPos pos X L) (hw : w < 64) : m_X8_unlikeNumbers pos md st hd (nI w) = some (nI (nwA X L w)) := by
  have hl4 : w / 4 < 16 := by omega
  have e2 : nI w / 4 = nI (w / 4) := nI_divE (b := 4) (by omega) (by decide)
  rw [m_X8_unlikeNumbers, nm, e2, rd_nI hw (by decide), hC.1 w hw]
  have ev : valW X w 0 = X.1 w := rfl
  have hlen := (hV.2 (w / 4) hl4).1
  rw [← ev]
  exact c_unlike_loop hC hV hp hw ((X.2.1 (w / 4)).length + 1) 0 fuelN 0 0 (by omega) (by rw [fuel_is]; omega) (fun v _ => by show (0 : Nat).testBit v = _; rw [Nat.zero_testBit]; rfl) (fun v _ => by show (0 : Nat).testBit v = _; rw [Nat.zero_testBit]; rfl)
