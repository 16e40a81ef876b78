/-! ===== the start, the run ===== -/
theorem RM_0 {r : Nat → Int32} (h : ∀ j, j < 786 → r j = nI 0) : RM r 0 (txA (fun _ => 0) 0 []) := by
  refine ⟨⟨fun w hw => h _ (by omega), fun l hl => h _ (by omega), fun l hl => h _ (by omega), fun l hl k q hk => (by cases hk)⟩, ⟨0, h _ (by omega), h _ (by omega), (by decide : 0 + 0 ≤ 80), fun _ => rfl, fun k q hk => (by cases hk)⟩, ⟨h _ (by omega), (by decide : 0 ≤ 12), fun i ops hi => (by cases hi)⟩, h _ (by omega), h _ (by omega), ?_, fun k hk => h _ (by omega), fun e => absurd rfl e, fun e => absurd rfl e⟩
  show r (0 + 776) = nI (if ([] : MM).length = 0 then 0 else if (0 : Nat) = 2 then 2 else 1)
  rw [if_pos (show ([] : MM).length = 0 from rfl)]
  exact h _ (by omega)
theorem CM_0 : CMt (Fi_X4, (fun _ => 0), (fun _ => 0), (fun _ => 0), (fun _ => 0), (fun _ => 0), (fun _ => 0), (fun _ => 0), (fun _ => 0), (fun _ => 0)) 0 (txA (fun _ => 0) 0 []) :=
  ⟨⟨fun _ _ => rfl, fun _ _ => rfl, fun _ _ => rfl, fun l hl k q hk => (by cases hk)⟩, ⟨0, rfl, rfl, (by decide : 0 + 0 ≤ 80), fun _ => rfl, fun k q hk => (by cases hk)⟩, ⟨rfl, (by decide : 0 ≤ 12), fun i ops hi => (by cases hi)⟩, rfl, rfl, rfl, fun _ _ => rfl, fun _ _ => rfl, fun _ _ => rfl⟩
theorem LR_0 {rows1 : Nat → Int32} (h : ∀ j, j < 786 → rows1 j = nI 0) : LR 0 (S00 rows1) := by
  have hV : VM 0 (txA (fun _ => 0) 0 []) := VM_tx (fun _ _ => Nat.zero_le _) (by decide) ⟨(by decide : 0 ≤ 12), fun ops ho => (by cases ho)⟩
  refine ⟨0, (txA (fun _ => 0) 0 [], [], [], fun _ => 0), none, ⟨by decide, ⟨hV, fun B hB => (by cases hB), (by decide : 0 ≤ 8), fun q hq => (by cases hq)⟩, ⟨CM_0, ⟨0, by decide, rfl, rfl, (by decide : 0 ≤ 40), fun i B hB => (by cases hB)⟩, ⟨rfl, fun k q hk => (by cases hk)⟩, fun _ _ => rfl⟩, ⟨RM_0 h, ⟨0, by decide, rfl, rfl, (by decide : 0 ≤ 40), fun i B hB => (by cases hB)⟩, ⟨rfl, fun k q hk => (by cases hk)⟩, fun _ _ => rfl⟩, rfl⟩, ⟨rfl, rfl, fun J hJ => (by cases hJ)⟩, ⟨⟨0, fun _ => 0, by decide, rfl, rfl, fun k hk => absurd hk (Nat.not_lt_zero k)⟩, rfl, rfl, rfl, rfl, fun _ _ => rfl, fun _ _ => rfl, fun _ _ => rfl⟩, ?_, ?_⟩
  · show 107 ≤ 107 + 11 * 0 + 11 * cnt40 (fun _ => none) + 0
    omega
  · show 72827 ≤ 72827 + 432 * 0 + 432 * cnt40 (fun _ => none) + 0
    omega
theorem LR_up {n : Nat} {S : LwS} (h : LR n S) : LR (n + 1) S := by
  obtain ⟨mode, G, I, a1, a2, a3, a4, a5⟩ := h
  refine ⟨mode, G, I, a1, a2, a3, ?_, ?_⟩
  · show S.2.2.2.1 ≤ 107 + 11 * (n + 1) + 11 * cnt40 S.1.2.1 + imC S.1.2.2.1
    omega
  · show S.2.2.2.2 ≤ 72827 + 432 * (n + 1) + 432 * cnt40 S.1.2.1 + imS S.1.2.2.1
    omega
theorem LR_room {n : Nat} {S : LwS} (h : LR n S) (hn : n ≤ 512) : S.2.2.2.1 ≤ room_1.cells ∧ S.2.2.2.2 ≤ room_1.slots := by
  obtain ⟨mode, G, I, a1, a2, a3, a4, a5⟩ := h
  have h1 := cnt_le (hs := S.1.2.1)
  have h2 : imC S.1.2.2.1 ≤ 456 ∧ imS S.1.2.2.1 ≤ 17771 := by
    cases S.1.2.2.1 with
    | none => exact ⟨Nat.zero_le _, Nat.zero_le _⟩
    | some T =>
      have h3 := cnt_le (hs := T.2.2.2.1)
      show 16 + 11 * cnt40 T.2.2.2.1 ≤ 456 ∧ 491 + 432 * cnt40 T.2.2.2.1 ≤ 17771
      omega
  have r1 : 10000 ≤ room_1.cells := Nat.le_of_ble_eq_true rfl
  have r2 : 400000 ≤ room_1.slots := Nat.le_of_ble_eq_true rfl
  exact ⟨by omega, by omega⟩
theorem step_ok {n : Nat} {S : LwS} (h : LR n S) (op a1 a2 a3 a4 a5 : Int32) : ∃ T, stepL S op a1 a2 a3 a4 a5 = some T ∧ LR (n + 1) T := by
  rw [stepL]
  by_cases c0 : op = 0
  · rw [if_pos c0]; exact lr_feed h a1 a2 a3 a4 a5
  rw [if_neg c0]
  by_cases c1 : op = 1
  · rw [if_pos c1]; exact lr_heap h a1 a2 a3 a4 a5
  rw [if_neg c1]
  by_cases c2 : op = 2
  · rw [if_pos c2]; exact lr_fault h a1 a2 a3 a4 a5
  rw [if_neg c2]
  by_cases c3 : op = 3
  · rw [if_pos c3]; exact lr_count h a1 a2 a3 a4 a5
  rw [if_neg c3]
  by_cases c4 : op = 4
  · rw [if_pos c4]; exact lr_word h a1 a2 a3 a4 a5
  rw [if_neg c4]
  by_cases c5 : op = 5
  · rw [if_pos c5]; exact lr_line h a1 a2 a3 a4 a5
  rw [if_neg c5]
  by_cases c6 : op = 6
  · rw [if_pos c6]; exact lr_micro h a1 a2 a3 a4 a5
  rw [if_neg c6]
  by_cases c7 : op = 7
  · rw [if_pos c7]; exact lr_orders h a1 a2 a3 a4 a5
  rw [if_neg c7]
  by_cases c8 : op = 8
  · rw [if_pos c8]; exact lr_shape h a1 a2 a3 a4 a5
  rw [if_neg c8]
  by_cases c9 : op = 9
  · rw [if_pos c9]; exact lr_steps h a1 a2 a3 a4 a5
  rw [if_neg c9]
  by_cases c10 : op = 10
  · rw [if_pos c10]; exact lr_evict h a1 a2 a3 a4 a5
  rw [if_neg c10]
  by_cases c11 : op = 11
  · rw [if_pos c11]; exact lr_crash h a1 a2 a3 a4 a5
  rw [if_neg c11]
  by_cases c12 : op = 12
  · rw [if_pos c12]; exact lr_recover h a1 a2 a3 a4 a5
  rw [if_neg c12]
  by_cases c13 : op = 13
  · rw [if_pos c13]; exact lr_later h a1 a2 a3 a4 a5
  rw [if_neg c13]
  by_cases c14 : op = 14
  · rw [if_pos c14]; exact lr_site h a1 a2 a3 a4 a5
  rw [if_neg c14]
  by_cases c15 : op = 15
  · rw [if_pos c15]; exact lr_undo h a1 a2 a3 a4 a5
  rw [if_neg c15]
  by_cases c16 : op = 16
  · rw [if_pos c16]; exact lr_recovered h a1 a2 a3 a4 a5
  rw [if_neg c16]
  by_cases c17 : op = 17
  · rw [if_pos c17]; exact lr_fate h a1 a2 a3 a4 a5
  rw [if_neg c17]
  by_cases c18 : op = 18
  · rw [if_pos c18]; exact lr_check h a1 a2 a3 a4 a5
  rw [if_neg c18]
  by_cases c19 : op = 19
  · rw [if_pos c19]; exact lr_needless h a1 a2 a3 a4 a5
  rw [if_neg c19]
  by_cases c20 : op = 20
  · rw [if_pos c20]; exact lr_least h a1 a2 a3 a4 a5
  rw [if_neg c20]
  by_cases c21 : op = 21
  · rw [if_pos c21]; exact lr_chance h a1 a2 a3 a4 a5
  rw [if_neg c21]
  by_cases c22 : op = 22
  · rw [if_pos c22]; exact lr_see h a1 a2 a3 a4 a5
  rw [if_neg c22]
  by_cases c23 : op = 23
  · rw [if_pos c23]; exact lr_explained h a1 a2 a3 a4 a5
  rw [if_neg c23]
  by_cases c24 : op = 24
  · rw [if_pos c24]; exact lr_look h a1 a2 a3 a4 a5
  rw [if_neg c24]
  by_cases c25 : op = 25
  · rw [if_pos c25]; exact lr_forget h a1 a2 a3 a4 a5
  rw [if_neg c25]
  by_cases c26 : op = 26
  · rw [if_pos c26]; exact lr_years h a1 a2 a3 a4 a5
  rw [if_neg c26]
  by_cases c27 : op = 27
  · rw [if_pos c27]; exact lr_image h a1 a2 a3 a4 a5
  rw [if_neg c27]
  by_cases c28 : op = 28
  · rw [if_pos c28]; exact lr_restore h a1 a2 a3 a4 a5
  rw [if_neg c28]
  exact ⟨S, rfl, LR_up h⟩
theorem run_ok (xs : Nat → Int32) : ∀ (k n : Nat) (i : Int32) (S : LwS), n + k ≤ 512 → LR n S → ∃ S9 : LwS, runL xs k i S = some S9 := by
  intro k
  induction k with
  | zero => intro n i S _ _; exact ⟨S, rfl⟩
  | succ k ih =>
    intro n i S hn h
    obtain ⟨T, t1, t2⟩ := step_ok h (xs i.toNatClampNeg &&& 31) (xs (i + 1).toNatClampNeg) (xs (i + 2).toNatClampNeg) (xs (i + 3).toNatClampNeg) (xs (i + 4).toNatClampNeg) (xs (i + 5).toNatClampNeg)
    obtain ⟨S9, h9⟩ := ih (n + 1) (i + 6) T (by omega) t2
    refine ⟨S9, ?_⟩
    rw [runL, bd_ok t1, if_pos (LR_room t2 (by omega))]
    exact h9
theorem pure_all : Pure := by
  obtain ⟨rows1, h1, h2, -⟩ := r_begins (rows := fun _ => 0)
  refine ⟨rows1, h1, fun L xs hL => run_ok xs (L / 6) 0 0 (S00 rows1) ?_ (LR_0 h2)⟩
  omega
