/-! ===== orders ===== -/
def totN (X : AC) : Nat → Nat
  | 0 => 1
  | k + 1 => totN X k * ((X.2.1 k).length + 1)
theorem totN_le {X : AC} (hV : VC X) : ∀ k, k ≤ 16 → totN X k ≤ 7 ^ k := by
  intro k
  induction k with
  | zero => intro _; exact Nat.le_refl _
  | succ k ih =>
    intro hk
    rw [totN, Nat.pow_succ]
    have := (hV.2 k (by omega)).1
    exact Nat.mul_le_mul (ih (by omega)) (by omega)
theorem tot_lt {X : AC} (hV : VC X) : totN X 16 < 2 ^ 63 := Nat.lt_of_le_of_lt (totN_le hV 16 (Nat.le_refl _)) (by decide)
theorem totN_pos {X : AC} : ∀ k, 0 < totN X k := by
  intro k
  induction k with
  | zero => exact Nat.zero_lt_one
  | succ k ih => exact Nat.mul_pos ih (Nat.succ_pos _)
theorem c_total {md st hd ak : Nat → Int32} {X : AC} (hC : CC md st hd ak X) (hV : VC X) : m_X1_orderTotal hd = some (lN (totN X 16)) := by
  obtain ⟨s, h1, h2⟩ := loop_up (fun n i (s : Nat) => m_X1_orderTotal_w4 hd n (lN s) i) (fun s => some (lN s)) 16 (fun k s => s = totN X k) (by
    intro n k s hk hI
    subst hI
    refine ⟨_, rfl, ?_⟩
    have := (hV.2 k hk).1
    have e := hC.2.1 k hk
    show m_X1_orderTotal_w4 hd (n + 1) (lN (totN X k)) (nI k) = m_X1_orderTotal_w4 hd n (lN (totN X (k + 1))) (nI (k + 1))
    rw [m_X1_orderTotal_w4, if_neg (show ¬ (16 : Int32) ≤ nI k from nI_ge (b := 16) hk (by decide)), rd_nI hk (by decide), e, nm, nm, show nI (X.2.1 k).length + 1 = nI ((X.2.1 k).length + 1) from nI_1 _, nI_l (by omega), lN_mul, show nI k + 1 = nI (k + 1) from nI_1 _]; rfl) (by
    intro n s _
    show m_X1_orderTotal_w4 hd (n + 1) (lN s) (nI 16) = some (lN s)
    rw [m_X1_orderTotal_w4, if_pos (show (16 : Int32) ≤ nI 16 from nI_le (a := 16) (Nat.le_refl _) (by decide))]) fuelN 0 1 (Nat.zero_le _) (by rw [fuel_is]; omega) rfl
  rw [m_X1_orderTotal]
  exact h2.trans (by rw [h1])
theorem r_total {rows : Nat → Int32} {b : Nat} {X : AC} (hR : RC rows b X) (hV : VC X) (hb : b + 786 ≤ 66100) : m_X12_ordersOf rows (nI b) = some (lN (totN X 16)) := by
  obtain ⟨s, h1, h2⟩ := loop_up (fun n i (s : Nat) => m_X12_ordersOf_w5 rows (nI b) n (lN s) i) (fun s => some (lN s)) 16 (fun k s => s = totN X k) (by
    intro n k s hk hI
    subst hI
    refine ⟨_, rfl, ?_⟩
    have := (hV.2 k hk).1
    have e := hR.2.1 k hk
    show m_X12_ordersOf_w5 rows (nI b) (n + 1) (lN (totN X k)) (nI k) = m_X12_ordersOf_w5 rows (nI b) n (lN (totN X (k + 1))) (nI (k + 1))
    rw [m_X12_ordersOf_w5, if_neg (show ¬ (16 : Int32) ≤ nI k from nI_ge (b := 16) hk (by decide)), show (64 : Int32) = nI 64 from rfl, nI_add, nI_add, rd_nI (by omega) (by decide), e, nm, nm, show nI (X.2.1 k).length + 1 = nI ((X.2.1 k).length + 1) from nI_1 _, nI_l (by omega), lN_mul, show nI k + 1 = nI (k + 1) from nI_1 _]; rfl) (by
    intro n s _
    show m_X12_ordersOf_w5 rows (nI b) (n + 1) (lN s) (nI 16) = some (lN s)
    rw [m_X12_ordersOf_w5, if_pos (show (16 : Int32) ≤ nI 16 from nI_le (a := 16) (Nat.le_refl _) (by decide))]) fuelN 0 1 (Nat.zero_le _) (by rw [fuel_is]; omega) rfl
  rw [m_X12_ordersOf]
  exact h2.trans (by rw [h1])
def imgA (X : AC) (ro : Nat → Nat) : Nat → Nat := fun w => lastS w (X.1 w) ((X.2.1 (w / 4)).take (ro (w / 4)))
theorem imgA_le {X : AC} {ro : Nat → Nat} (hV : VC X) : ∀ w, w < 64 → imgA X ro w ≤ 99 := fun w hw => lastS_le (v := 0) _ _ (hV.1 w hw) (fun st hs => ((hV.2 (w / 4) (by omega)).2.2 st (List.mem_of_mem_take hs)).2)
def okRo (X : AC) (ro : Nat → Nat) : Prop := ∀ l, l < 16 → ro l ≤ (X.2.1 l).length
def WKr (row pic : Nat → Int32) (X : AC) (ro : Nat → Nat) : Prop := (∀ l, l < 16 → row l = nI (ro l)) ∧ okRo X ro ∧ ∀ w, w < 64 → pic w = nI (imgA X ro w)
theorem imgA_congr {X : AC} {ro rp : Nat → Nat} (h : ∀ l, l < 16 → ro l = rp l) {w : Nat} (hw : w < 64) : imgA X ro w = imgA X rp w := by
  unfold imgA; rw [h (w / 4) (by omega)]
theorem WKr_congr {row pic : Nat → Int32} {X : AC} {ro rp : Nat → Nat} (h : ∀ l, l < 16 → ro l = rp l) (hW : WKr row pic X ro) : WKr row pic X rp := ⟨fun l hl => by rw [← h l hl]; exact hW.1 l hl, fun l hl => by rw [← h l hl]; exact hW.2.1 l hl, fun w hw => by rw [← imgA_congr h hw]; exact hW.2.2 w hw⟩
theorem c_fill {a : Nat → Int32} {N : Nat} (hN : N < 1000) : ∃ r, m_J7_fill_53178 a N 0 = some r ∧ (∀ j, j < N → r j = nI 0) ∧ ∀ j, N ≤ j → r j = a j := by
  obtain ⟨r, ⟨h1, h3⟩, h2⟩ := loop_up (fun n i r => m_J7_fill_53178_w5 N 0 n i (nI N) r) some N (fun k r => (∀ j, j < k → r j = nI 0) ∧ ∀ j, k ≤ j → r j = a j) (by
    intro n k r hk hI
    refine ⟨upd r k (nI 0), ⟨fun j hj => ?_, fun j hj => ?_⟩, ?_⟩
    · by_cases c : j = k
      · rw [c, upd_eq]
      · rw [upd_ne c]; exact hI.1 j (by omega)
    · rw [upd_ne (by omega)]; exact hI.2 j (by omega)
    · show m_J7_fill_53178_w5 N 0 (n + 1) (nI k) (nI N) r = _
      rw [m_J7_fill_53178_w5, if_neg (nI_ge hk (by omega)), wr_nI hk (by omega), nm, show nI k + 1 = nI (k + 1) from nI_1 _]; rfl) (by
    intro n r _
    show m_J7_fill_53178_w5 N 0 (n + 1) (nI N) (nI N) r = some r
    rw [m_J7_fill_53178_w5, if_pos (nI_le (Nat.le_refl _) (by omega))]) fuelN 0 a (Nat.zero_le _) (by rw [fuel_is]; omega) ⟨fun j hj => absurd hj (Nat.not_lt_zero j), fun _ _ => rfl⟩
  refine ⟨r, ?_, h1, h3⟩
  rw [m_J7_fill_53178, nm]
  exact h2
theorem c_start {row pic md st hd ak : Nat → Int32} {X : AC} (hC : CC md st hd ak X) : ∃ R, m_X9_start row pic md = some R ∧ WKr R.1 R.2 X (fun _ => 0) := by
  obtain ⟨r, h1, h2, -⟩ := c_fill (a := row) (N := 16) (by decide)
  rw [m_X9_start, bd_ok h1, show (0 : Int32) = nI 0 from rfl, show (64 : Int32) = nI 64 from rfl, cp_nI (by decide) (by decide) (by decide) (by decide)]
  refine ⟨_, rfl, h2, fun _ _ => Nat.zero_le _, fun w hw => ?_⟩
  show va_cpy md pic 0 0 64 w = nI (lastS w (X.1 w) (List.take 0 _))
  unfold va_cpy
  rw [if_pos (by omega), show 0 + (w - 0) = w by omega, List.take_zero]
  exact hC.1 w hw
theorem imgA_up {X : AC} {ro : Nat → Nat} {l r : Nat} {q : Nat × Nat} (hV : VC X) (hl : l < 16) (hq : (X.2.1 l)[r]? = some q) (w : Nat) : imgA X (upN ro l (r + 1)) w = if w = q.1 then q.2 else imgA X (upN ro l r) w := by
  have h4 := ((hV.2 l hl).2.2 q (List.mem_of_getElem? hq)).1
  unfold imgA upN
  by_cases c : w / 4 = l
  · rw [if_pos c, if_pos c, c, lastS_take hq]
    by_cases e : w = q.1
    · rw [if_pos e, if_pos e.symm]
    · rw [if_neg e, if_neg (fun z => e z.symm)]
  · rw [if_neg c, if_neg c, if_neg (fun e => c (by rw [e]; exact h4))]
theorem upN_eq {f : Nat → Nat} {a v : Nat} : upN f a v a = v := if_pos rfl
theorem upN_ne {f : Nat → Nat} {a v j : Nat} (h : ¬ j = a) : upN f a v j = f j := if_neg h
theorem upN_self {f : Nat → Nat} {a : Nat} : upN f a (f a) = f := by
  funext j
  by_cases c : j = a
  · rw [c, upN_eq]
  · rw [upN_ne c]
theorem c_raise {row pic md st hd ak : Nat → Int32} {X : AC} {ro : Nat → Nat} {l n : Nat} (hC : CC md st hd ak X) (hV : VC X) (h : WKr row pic X ro) (hl : l < 16) (hn : ro l + n ≤ (X.2.1 l).length) : ∃ R, m_X9_raise row pic st hd (nI l) (nI n) = some R ∧ WKr R.1 R.2 X (upN ro l (ro l + n)) := by
  obtain ⟨h6, hak, hst⟩ := hV.2 l hl
  have e0 := hC.2.1 l hl
  obtain ⟨R, h1, h2⟩ := loop_up (fun f i (s : (Nat → Int32) × (Nat → Int32)) => m_X9_raise_w3 st hd (nI l) (nI n) f i s.1 s.2) some n (fun k s => WKr s.1 s.2 X (upN ro l (ro l + k))) (by
    intro f k s hk hI
    have hlt : ro l + k < (X.2.1 l).length := by omega
    have hq : (X.2.1 l)[ro l + k]? = some (X.2.1 l)[ro l + k] := List.getElem?_eq_getElem hlt
    have hq2 := hst _ (List.getElem_mem hlt)
    generalize (X.2.1 l)[ro l + k] = q at hq hq2
    have hq64 : q.1 < 64 := by omega
    have e1 : st (l * 6 + (ro l + k)) = nI (100 * q.1 + q.2) := by rw [← hC.2.2.2 l hl _ q hq]; congr 1; omega
    have d1 : (100 * q.1 + q.2) / 100 = q.1 := by omega
    have d3 : 100 * q.1 + q.2 - q.1 * 100 = q.2 := by omega
    have er : s.1 l = nI (ro l + k) := by rw [hI.1 l hl, upN_eq]
    refine ⟨(upd s.1 l (nI (ro l + k + 1)), upd s.2 q.1 (nI q.2)), ⟨fun j hj => ?_, fun j hj => ?_, fun w hw => ?_⟩, ?_⟩
    · show upd s.1 l (nI (ro l + k + 1)) j = _
      by_cases c : j = l
      · rw [c, upd_eq, upN_eq]; rfl
      · rw [upd_ne c, upN_ne c, hI.1 j hj, upN_ne c]
    · by_cases c : j = l
      · rw [c, upN_eq]; omega
      · have := hI.2.1 j hj
        rw [upN_ne c] at this ⊢; exact this
    · show upd s.2 q.1 (nI q.2) w = _
      rw [show ro l + (k + 1) = ro l + k + 1 by omega, imgA_up hV hl hq]
      by_cases c : w = q.1
      · rw [c, upd_eq, if_pos rfl]
      · rw [upd_ne c, if_neg c]; exact hI.2.2 w hw
    · show m_X9_raise_w3 st hd (nI l) (nI n) (f + 1) (nI k) s.1 s.2 = m_X9_raise_w3 st hd (nI l) (nI n) f (nI (k + 1)) (upd s.1 l (nI (ro l + k + 1))) (upd s.2 q.1 (nI q.2))
      rw [m_X9_raise_w3]
      simp (disch := omega) only [nm, lit32, nI_add, nI_mulE, rd_nI, wr_nI, nI_leI, if_neg, Nat.not_le, e0, er, e1, nI_divE, d1, nI_subE, d3]) (by
    intro f s _
    show m_X9_raise_w3 st hd (nI l) (nI n) (f + 1) (nI n) s.1 s.2 = _
    rw [m_X9_raise_w3, if_pos (nI_le (Nat.le_refl _) (by omega))]) fuelN 0 (row, pic) (Nat.zero_le _) (by rw [fuel_is]; omega) (by rw [Nat.add_zero, upN_self]; exact h)
  exact ⟨R, h2, h1⟩
/-- the order of a number -/
def rs (X : AC) (n : Nat) : Nat → Nat
  | 0 => n
  | c + 1 => rs X n c / ((X.2.1 (15 - c)).length + 1)
def dig (X : AC) (n l : Nat) : Nat := rs X n (15 - l) % ((X.2.1 l).length + 1)
theorem rs_le {X : AC} {n : Nat} : ∀ c, rs X n c ≤ n := by
  intro c
  induction c with
  | zero => exact Nat.le_refl _
  | succ c ih => exact Nat.le_trans (Nat.div_le_self _ _) ih
theorem rs_next {X : AC} {n j : Nat} (hj : j < 16) : rs X n (16 - j) = rs X n (15 - j) / ((X.2.1 j).length + 1) := by
  rw [show 16 - j = (15 - j) + 1 by omega, rs, show 15 - (15 - j) = j by omega]
theorem nI_dn (k : Nat) : nI (k + 1) + (-1) = nI k := by
  rw [← nI_1]
  show nI k + 1 + -1 = nI k
  rw [Int32.add_assoc, show (1 : Int32) + -1 = 0 from rfl, Int32.add_zero]
theorem loop_dn {σ ρ : Type} (F : Nat → Int32 → σ → Option ρ) (K : σ → Option ρ) (N : Nat) (Inv : Nat → σ → Prop)
    (hstep : ∀ (n k : Nat) (s : σ), k < N → Inv (k + 1) s → ∃ s', Inv k s' ∧ F (n + 1) (nI k) s = F n (nI k + (-1)) s') (hend : ∀ (n : Nat) (s : σ), Inv 0 s → F (n + 1) (-1) s = K s) :
    ∀ (k fuel : Nat) (s : σ), k ≤ N → k < fuel → Inv k s → ∃ s', Inv 0 s' ∧ F fuel (nI k + (-1)) s = K s' := by
  intro k
  induction k with
  | zero =>
    intro fuel s _ h2 h3
    obtain ⟨fuel, rfl⟩ : ∃ d, fuel = d + 1 := ⟨fuel - 1, by omega⟩
    exact ⟨s, h3, hend fuel s h3⟩
  | succ k ih =>
    intro fuel s h1 h2 h3
    obtain ⟨fuel, rfl⟩ : ∃ d, fuel = d + 1 := ⟨fuel - 1, by omega⟩
    obtain ⟨s', h4, h5⟩ := hstep fuel k s (by omega) h3
    obtain ⟨s9, h6, h7⟩ := ih fuel s' (by omega) (by omega) h4
    refine ⟨s9, h6, ?_⟩
    rw [nI_dn]; exact h5.trans h7
theorem c_open {row pic md st hd ak : Nat → Int32} {X : AC} {n : Nat} (hC : CC md st hd ak X) (hV : VC X) (hn : n < 2 ^ 31) : ∃ R, m_X9_open row pic md st hd (nI n) = some R ∧ WKr R.1 R.2 X (dig X n) := by
  obtain ⟨R0, g1, g2⟩ := c_start (row := row) (pic := pic) hC
  obtain ⟨s, ⟨h0, h1⟩, h2⟩ := loop_dn (fun f i (s : Nat × (Nat → Int32) × (Nat → Int32)) => m_X9_open_w11 md st hd (nI n) f (nI s.1) i s.2.1 s.2.2) (fun s => some (s.2.1, s.2.2)) 16 (fun j s => s.1 = rs X n (16 - j) ∧ WKr s.2.1 s.2.2 X (fun l => if j ≤ l then dig X n l else 0)) (by
    intro f j s hj hI
    obtain ⟨i1, i2⟩ := hI
    have h6 := (hV.2 j hj).1
    have e0 := hC.2.1 j hj
    have i1 : s.1 = rs X n (15 - j) := by rw [i1]; congr 1; omega
    have hrl := rs_le (X := X) (n := n) (15 - j)
    have hm : rs X n (15 - j) % ((X.2.1 j).length + 1) < (X.2.1 j).length + 1 := Nat.mod_lt _ (Nat.succ_pos _)
    obtain ⟨R, r1, r2⟩ := c_raise (l := j) (n := dig X n j) hC hV i2 hj (by rw [if_neg (by omega)]; unfold dig; omega)
    refine ⟨(rs X n (15 - j) / ((X.2.1 j).length + 1), R.1, R.2), ⟨(rs_next hj).symm, WKr_congr (fun l hl => ?_) r2⟩, ?_⟩
    · by_cases c : l = j
      · rw [c, upN_eq, if_neg (by omega), if_pos (Nat.le_refl _), Nat.zero_add]
      · rw [upN_ne c]
        by_cases c2 : j + 1 ≤ l
        · rw [if_pos c2, if_pos (by omega)]
        · rw [if_neg c2, if_neg (by omega)]
    · show m_X9_open_w11 md st hd (nI n) (f + 1) (nI s.1) (nI j) s.2.1 s.2.2 = m_X9_open_w11 md st hd (nI n) f (nI (rs X n (15 - j) / ((X.2.1 j).length + 1))) (nI j + (-1)) R.1 R.2
      have hne : ¬ nI ((X.2.1 j).length + 1) = 0 := nI_ne0 (by omega) (by omega)
      rw [m_X9_open_w11, if_neg (show ¬ nI j < 0 from nI_pos (by omega)), rd_nI hj (by decide), e0, nm, show nI (X.2.1 j).length + 1 = nI ((X.2.1 j).length + 1) from nI_1 _, dz_ok hne, i1, nI_modE (by omega) (by omega), show rs X n (15 - j) % ((X.2.1 j).length + 1) = dig X n j from rfl, bd_ok r1, dz_ok hne, nm, nm, nI_divE (by omega) (by omega)]) (by
    intro f s _
    show m_X9_open_w11 md st hd (nI n) (f + 1) (nI s.1) (-1) s.2.1 s.2.2 = _
    rw [m_X9_open_w11, if_pos (by decide)]) 16 fuelN (n, R0.1, R0.2) (Nat.le_refl _) (by rw [fuel_is]; omega) ⟨rfl, WKr_congr (fun l hl => by rw [if_neg (by omega)]) g2⟩
  refine ⟨_, ?_, WKr_congr (fun l hl => by rw [if_pos (Nat.zero_le _)]) h1⟩
  rw [m_X9_open, bd_ok g1]
  exact h2
theorem r_laysOrder {rows ord : Nat → Int32} {b n : Nat} {X : AC} (hR : RC rows b X) (hV : VC X) (hb : b + 786 ≤ 66100) (hn : n < 2 ^ 31) : ∃ r, m_X12_laysOrder rows ord (nI b) (nI n) = some r ∧ ∀ l, l < 16 → r l = nI (dig X n l) := by
  obtain ⟨s, ⟨h0, h1⟩, h2⟩ := loop_dn (fun f i (s : Nat × (Nat → Int32)) => m_X12_laysOrder_w6 rows (nI b) (nI n) f (nI s.1) i s.2) (fun s => some s.2) 16 (fun j s => s.1 = rs X n (16 - j) ∧ ∀ l, j ≤ l → l < 16 → s.2 l = nI (dig X n l)) (by
    intro f j s hj hI
    obtain ⟨i1, i2⟩ := hI
    have h6 := (hV.2 j hj).1
    have e0 := hR.2.1 j hj
    have i1 : s.1 = rs X n (15 - j) := by rw [i1]; congr 1; omega
    have hrl := rs_le (X := X) (n := n) (15 - j)
    refine ⟨(rs X n (15 - j) / ((X.2.1 j).length + 1), upd s.2 j (nI (dig X n j))), ⟨(rs_next hj).symm, fun l g1 g2 => ?_⟩, ?_⟩
    · show upd s.2 j (nI (dig X n j)) l = _
      by_cases c : l = j
      · rw [c, upd_eq]
      · rw [upd_ne c]; exact i2 l (by omega) g2
    · show m_X12_laysOrder_w6 rows (nI b) (nI n) (f + 1) (nI s.1) (nI j) s.2 = m_X12_laysOrder_w6 rows (nI b) (nI n) f (nI (rs X n (15 - j) / ((X.2.1 j).length + 1))) (nI j + (-1)) (upd s.2 j (nI (dig X n j)))
      have hne : ¬ nI ((X.2.1 j).length + 1) = 0 := nI_ne0 (by omega) (by omega)
      rw [m_X12_laysOrder_w6, if_neg (show ¬ nI j < 0 from nI_pos (by omega)), show (64 : Int32) = nI 64 from rfl, nI_add, nI_add, rd_nI (by omega) (by decide), e0, nm, show nI (X.2.1 j).length + 1 = nI ((X.2.1 j).length + 1) from nI_1 _, dz_ok hne, i1, nI_modE (by omega) (by omega), show rs X n (15 - j) % ((X.2.1 j).length + 1) = dig X n j from rfl, wr_nI hj (by decide), dz_ok hne, nm, nm, nI_divE (by omega) (by omega)]) (by
    intro f s _
    show m_X12_laysOrder_w6 rows (nI b) (nI n) (f + 1) (nI s.1) (-1) s.2 = _
    rw [m_X12_laysOrder_w6, if_pos (by decide)]) 16 fuelN (n, ord) (Nat.le_refl _) (by rw [fuel_is]; omega) ⟨rfl, fun l g1 g2 => by omega⟩
  refine ⟨s.2, ?_, fun l hl => h1 l (Nat.zero_le _) hl⟩
  rw [m_X12_laysOrder]
  exact h2
theorem dig_ok {X : AC} {n : Nat} : okRo X (dig X n) := fun l hl => by
  have : rs X n (15 - l) % ((X.2.1 l).length + 1) < (X.2.1 l).length + 1 := Nat.mod_lt _ (Nat.succ_pos _)
  unfold dig; omega
/-- the next order -/
def nxt (X : AC) (ro : Nat → Nat) : Nat → (Nat → Nat)
  | 0 => ro
  | j + 1 => if ro j < (X.2.1 j).length then upN ro j (ro j + 1) else nxt X (upN ro j 0) j
theorem c_goOn_loop {md st hd ak : Nat → Int32} {X : AC} (hC : CC md st hd ak X) (hV : VC X) : ∀ (j fuel : Nat) (row pic : Nat → Int32) (ro : Nat → Nat), j ≤ 16 → j < fuel → WKr row pic X ro → ∃ R, m_X9_goOn_w3 md st hd (m_X9_goOn_j22 md st hd) fuel (nI j + (-1)) row pic = some R ∧ WKr R.1 R.2 X (nxt X ro j) := by
  intro j
  induction j with
  | zero =>
    intro fuel row pic ro _ hf h
    obtain ⟨fuel, rfl⟩ : ∃ d, fuel = d + 1 := ⟨fuel - 1, by omega⟩
    rw [show nI 0 + (-1) = -1 from rfl, m_X9_goOn_w3, if_pos (by decide)]
    exact ⟨_, rfl, h⟩
  | succ j ih =>
    intro fuel row pic ro hj hf h
    obtain ⟨fuel, rfl⟩ : ∃ d, fuel = d + 1 := ⟨fuel - 1, by omega⟩
    have h6 := (hV.2 j (by omega)).1
    have e0 := hC.2.1 j (by omega)
    have e1 := h.1 j (by omega)
    have hle := h.2.1 j (by omega)
    rw [nI_dn, m_X9_goOn_w3, if_neg (show ¬ nI j < 0 from nI_pos (by omega)), rd_nI (by omega) (by decide), rd_nI (by omega) (by decide), rd_nI (by omega) (by decide), e0, e1, nxt]
    by_cases c : ro j < (X.2.1 j).length
    · rw [if_pos c, if_neg (nI_ge c (by omega)), m_X9_goOn_j22]
      obtain ⟨R, r1, r2⟩ := c_raise (l := j) (n := 1) hC hV h (by omega) (by omega)
      have r1 : m_X9_raise row pic st hd (nI j) 1 = some R := r1
      rw [bd_ok r1]
      exact ⟨_, rfl, r2⟩
    · rw [if_neg c, if_pos (nI_le (by omega) (by omega))]
      by_cases c0 : ro j = 0
      · rw [if_pos (show nI (ro j) ≤ 0 by rw [c0]; exact nI_le (a := 0) (b := 0) (Nat.le_refl _) (by decide)), m_X9_goOn_j64, nm]
        have : upN ro j 0 = ro := by have := upN_self (f := ro) (a := j); rw [c0] at this; exact this
        rw [this]
        exact ih fuel row pic ro (by omega) (by omega) h
      · rw [if_neg (show ¬ nI (ro j) ≤ 0 from nI_nle (by omega) (by omega)), show (0 : Int32) = nI 0 from rfl, wr_nI (by omega) (by decide), show (4 : Int32) = nI 4 from rfl, nI_mulE, cp_nI (by omega) (by omega) (by decide) (by decide), m_X9_goOn_j64, nm]
        refine ih fuel _ _ (upN ro j 0) (by omega) (by omega) ⟨fun l hl => ?_, fun l hl => ?_, fun w hw => ?_⟩
        · by_cases e : l = j
          · rw [e, upd_eq, upN_eq]
          · rw [upd_ne e, upN_ne e]; exact h.1 l hl
        · by_cases e : l = j
          · rw [e, upN_eq]; exact Nat.zero_le _
          · rw [upN_ne e]; exact h.2.1 l hl
        · unfold va_cpy
          by_cases e : w / 4 = j
          · rw [if_pos (by omega), show j * 4 + (w - j * 4) = w by omega, hC.1 w hw]
            unfold imgA
            rw [e, upN_eq, List.take_zero]; rfl
          · rw [if_neg (by omega), h.2.2 w hw]
            unfold imgA
            rw [upN_ne e]
theorem c_goOn {row pic md st hd ak : Nat → Int32} {X : AC} {ro : Nat → Nat} (hC : CC md st hd ak X) (hV : VC X) (h : WKr row pic X ro) : ∃ R, m_X9_goOn row pic md st hd = some R ∧ WKr R.1 R.2 X (nxt X ro 16) := by
  rw [m_X9_goOn]
  exact c_goOn_loop hC hV 16 fuelN row pic ro (Nat.le_refl _) (by rw [fuel_is]; omega) h
theorem nxt_ok {X : AC} : ∀ (j : Nat) (ro : Nat → Nat), j ≤ 16 → okRo X ro → okRo X (nxt X ro j) := by
  intro j
  induction j with
  | zero => intro ro _ h; exact h
  | succ j ih =>
    intro ro hj h
    rw [nxt]
    by_cases c : ro j < (X.2.1 j).length
    · rw [if_pos c]
      intro l hl
      by_cases e : l = j
      · rw [e, upN_eq]; exact c
      · rw [upN_ne e]; exact h l hl
    · rw [if_neg c]
      refine ih _ (by omega) (fun l hl => ?_)
      by_cases e : l = j
      · rw [e, upN_eq]; exact Nat.zero_le _
      · rw [upN_ne e]; exact h l hl
theorem r_next_loop {rows : Nat → Int32} {b : Nat} {X : AC} (hR : RC rows b X) (hV : VC X) (hb : b + 786 ≤ 66100) : ∀ (j fuel : Nat) (ord : Nat → Int32) (ro : Nat → Nat), j ≤ 16 → j < fuel → okRo X ro → (∀ l, l < 16 → ord l = nI (ro l)) → ∃ r, m_X12_nextOrder_w3 rows (nI b) (m_X12_nextOrder_j40 rows (nI b)) fuel (nI j + (-1)) ord = some r ∧ ∀ l, l < 16 → r l = nI (nxt X ro j l) := by
  intro j
  induction j with
  | zero =>
    intro fuel ord ro _ hf _ h
    obtain ⟨fuel, rfl⟩ : ∃ d, fuel = d + 1 := ⟨fuel - 1, by omega⟩
    rw [show nI 0 + (-1) = -1 from rfl, m_X12_nextOrder_w3, if_pos (by decide), m_X12_nextOrder_j40, if_pos (by decide)]
    exact ⟨_, rfl, h⟩
  | succ j ih =>
    intro fuel ord ro hj hf hok h
    obtain ⟨fuel, rfl⟩ : ∃ d, fuel = d + 1 := ⟨fuel - 1, by omega⟩
    have h6 := (hV.2 j (by omega)).1
    have e0 := hR.2.1 j (by omega)
    have e1 := h j (by omega)
    have hle := hok j (by omega)
    rw [nI_dn, m_X12_nextOrder_w3, if_neg (show ¬ nI j < 0 from nI_pos (by omega)), rd_nI (by omega) (by decide), show (64 : Int32) = nI 64 from rfl, nI_add, nI_add, rd_nI (by omega) (by decide), e0, e1, nxt]
    by_cases c : ro j < (X.2.1 j).length
    · rw [if_pos c, if_neg (fun e => by have := nI_inj (by omega) (by omega) e; omega), m_X12_nextOrder_j40, if_neg (show ¬ nI j < 0 from nI_pos (by omega)), rd_nI (by omega) (by decide), e1, wr_nI (by omega) (by decide), show nI (ro j) + 1 = nI (ro j + 1) from nI_1 _]
      refine ⟨_, rfl, fun l hl => ?_⟩
      by_cases e : l = j
      · rw [e, upd_eq, upN_eq]
      · rw [upd_ne e, upN_ne e]; exact h l hl
    · rw [if_neg c, if_pos (show nI (ro j) = nI (X.2.1 j).length by rw [show ro j = (X.2.1 j).length by omega]), show (0 : Int32) = nI 0 from rfl, wr_nI (by omega) (by decide), nm]
      refine ih fuel _ (upN ro j 0) (by omega) (by omega) (fun l hl => ?_) (fun l hl => ?_)
      · by_cases e : l = j
        · rw [e, upN_eq]; exact Nat.zero_le _
        · rw [upN_ne e]; exact hok l hl
      · by_cases e : l = j
        · rw [e, upd_eq, upN_eq]
        · rw [upd_ne e, upN_ne e]; exact h l hl
theorem r_nextOrder {rows ord : Nat → Int32} {b : Nat} {X : AC} {ro : Nat → Nat} (hR : RC rows b X) (hV : VC X) (hb : b + 786 ≤ 66100) (hok : okRo X ro) (h : ∀ l, l < 16 → ord l = nI (ro l)) : ∃ r, m_X12_nextOrder rows ord (nI b) = some r ∧ ∀ l, l < 16 → r l = nI (nxt X ro 16 l) := by
  rw [m_X12_nextOrder]
  exact r_next_loop hR hV hb 16 fuelN ord ro (Nat.le_refl _) (by rw [fuel_is]; omega) hok h
theorem r_firstOrder {ord : Nat → Int32} : ∃ r, m_X12_firstOrder ord = some r ∧ ∀ l, l < 16 → r l = nI 0 := by
  obtain ⟨r, h1, h2⟩ := loop_up (fun n i r => m_X12_firstOrder_w2 n i r) some 16 (fun k r => ∀ l, l < k → r l = nI 0) (by
    intro n k r hk hI
    refine ⟨upd r k (nI 0), fun j hj => ?_, ?_⟩
    · by_cases c : j = k
      · rw [c, upd_eq]
      · rw [upd_ne c]; exact hI j (by omega)
    · show m_X12_firstOrder_w2 (n + 1) (nI k) r = _
      rw [m_X12_firstOrder_w2]
      simp (disch := omega) only [lit32, nI_leI, if_neg, Nat.not_le, wr_nI, nm, nI_add]) (by
    intro n r _
    show m_X12_firstOrder_w2 (n + 1) (nI 16) r = _
    rw [m_X12_firstOrder_w2]
    simp (disch := omega) only [lit32, nI_leI, if_pos]) fuelN 0 ord (Nat.zero_le _) (by rw [fuel_is]; omega) (fun j hj => absurd hj (Nat.not_lt_zero j))
  exact ⟨r, h2, h1⟩
theorem r_img_inner {rows ord : Nat → Int32} {b l : Nat} {X : AC} {ro : Nat → Nat} (hR : RC rows b X) (hV : VC X) (hb : b + 786 ≤ 66100) (hl : l < 16) (hro : ro l ≤ (X.2.1 l).length) (ho : ord l = nI (ro l)) (K : Int32 → (Nat → Int32) → Option (Nat → Int32)) {g : Nat → Nat} (r : Nat → Int32) (hr : ∀ j, j < 64 → r j = nI (g j)) : ∃ r', m_X12_laysImage_w49 rows ord (nI b) K fuelN (nI l) (nI (b + 96 + 12 * l)) (nI 0) r = K (nI l) r' ∧ ∀ j, j < 64 → r' j = nI (lastS j (g j) ((X.2.1 l).take (ro l))) := by
  obtain ⟨h6, hak, hst⟩ := hV.2 l hl
  obtain ⟨r', h1, h2⟩ := loop_up (fun n i r => m_X12_laysImage_w49 rows ord (nI b) K n (nI l) (nI (b + 96 + 12 * l)) i r) (fun r => K (nI l) r) (ro l) (fun k r => ∀ j, j < 64 → r j = nI (lastS j (g j) ((X.2.1 l).take k))) (by
    intro n k r hk hI
    have hlt : k < (X.2.1 l).length := by omega
    have hq1 : (X.2.1 l)[k]? = some (X.2.1 l)[k] := List.getElem?_eq_getElem hlt
    have hq2 := hst _ (List.getElem_mem hlt)
    generalize (X.2.1 l)[k] = q at hq1 hq2
    have hq64 : q.1 < 64 := by omega
    obtain ⟨e1, e2⟩ := hR.2.2.2 l hl k q hq1
    refine ⟨upd r q.1 (nI q.2), fun j hj => ?_, ?_⟩
    · rw [lastS_take hq1]
      by_cases c : q.1 = j
      · rw [if_pos c, c, upd_eq]
      · rw [if_neg c, upd_ne (fun e => c e.symm)]; exact hI j hj
    · show m_X12_laysImage_w49 rows ord (nI b) K (n + 1) (nI l) (nI (b + 96 + 12 * l)) (nI k) r = _
      rw [m_X12_laysImage_w49]
      simp (disch := omega) only [nm, lit32, nI_add, nI_mulE, rd_nI, wr_nI, nI_leI, if_neg, Nat.not_le, ho, e1, e2]) (by
    intro n r _
    show m_X12_laysImage_w49 rows ord (nI b) K (n + 1) (nI l) (nI (b + 96 + 12 * l)) (nI (ro l)) r = _
    rw [m_X12_laysImage_w49, rd_nI hl (by decide), ho, if_pos (nI_le (Nat.le_refl _) (by omega))]) fuelN 0 r (Nat.zero_le _) (by rw [fuel_is]; omega) (fun j hj => by rw [List.take_zero]; exact hr j hj)
  exact ⟨r', h2, h1⟩
theorem r_laysImage {rows ord im : Nat → Int32} {b : Nat} {X : AC} {ro : Nat → Nat} (hR : RC rows b X) (hV : VC X) (hb : b + 786 ≤ 66100) (hok : okRo X ro) (ho : ∀ l, l < 16 → ord l = nI (ro l)) : ∃ r, m_X12_laysImage rows ord im (nI b) = some r ∧ ∀ w, w < 64 → r w = nI (imgA X ro w) := by
  obtain ⟨r0, a1, a2⟩ := loop_up (fun n i r => m_X12_laysImage_w2 rows ord (nI b) (m_X12_laysImage_j28 rows ord (nI b)) n i r) (fun r => m_X12_laysImage_j28 rows ord (nI b) r) 64 (fun k r => ∀ w, w < k → r w = nI (X.1 w)) (by
    intro n k r hk hI
    have e := hR.1 k hk
    refine ⟨upd r k (nI (X.1 k)), fun j hj => ?_, ?_⟩
    · by_cases c : j = k
      · rw [c, upd_eq]
      · rw [upd_ne c]; exact hI j (by omega)
    · show m_X12_laysImage_w2 _ _ _ _ _ _ _ = _
      rw [m_X12_laysImage_w2]
      simp (disch := omega) only [lit32, nI_leI, if_neg, Nat.not_le, nI_add, rd_nI, e, wr_nI, nm]) (by
    intro n r _
    show m_X12_laysImage_w2 _ _ _ _ _ _ _ = _
    rw [m_X12_laysImage_w2]
    simp (disch := omega) only [lit32, nI_leI, if_pos]) fuelN 0 im (Nat.zero_le _) (by rw [fuel_is]; omega) (fun j hj => absurd hj (Nat.not_lt_zero j))
  obtain ⟨r, h1, h2⟩ := loop_up (fun n i r => m_X12_laysImage_w30 rows ord (nI b) n i r) some 16 (fun k r => ∀ w, w < 64 → r w = nI (if w / 4 < k then imgA X ro w else X.1 w)) (by
    intro n l r hl hI
    obtain ⟨r', g1, g2⟩ := r_img_inner hR hV hb hl (hok l hl) (ho l hl) (m_X12_laysImage_j95 rows ord (nI b) (m_X12_laysImage_w30 rows ord (nI b) n)) r hI
    refine ⟨r', fun j hj => ?_, ?_⟩
    · rw [g2 j hj]
      by_cases c : j / 4 = l
      · rw [if_neg (by omega), if_pos (by omega)]
        unfold imgA; rw [c]
      · rw [lastS_no _ _ (fun q hq e => c (by rw [← e]; exact ((hV.2 l hl).2.2 q (List.mem_of_mem_take hq)).1))]
        by_cases c2 : j / 4 < l
        · rw [if_pos c2, if_pos (by omega)]
        · rw [if_neg c2, if_neg (by omega)]
    · show m_X12_laysImage_w30 rows ord (nI b) (n + 1) (nI l) r = _
      rw [m_X12_laysImage_w30]
      simp (disch := omega) only [lit32, nI_leI, if_neg, Nat.not_le, nm, nI_mulE, nI_add]
      rw [g1, m_X12_laysImage_j95]
      simp only [nm, lit32, nI_add]) (by
    intro n r _
    show m_X12_laysImage_w30 rows ord (nI b) (n + 1) (nI 16) r = _
    rw [m_X12_laysImage_w30]
    simp (disch := omega) only [lit32, nI_leI, if_pos]) fuelN 0 r0 (Nat.zero_le _) (by rw [fuel_is]; omega) (fun j hj => by rw [if_neg (by omega)]; exact a1 j hj)
  refine ⟨r, ?_, fun j hj => by rw [h1 j hj, if_pos (by omega)]⟩
  rw [m_X12_laysImage]
  refine a2.trans ?_
  rw [m_X12_laysImage_j28]
  exact h2
