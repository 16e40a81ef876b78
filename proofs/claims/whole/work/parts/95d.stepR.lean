/-! ===== the reference: a step ===== -/
def RTal (rows : Nat → Int32) (b : Nat) (ta : Nat → Int32) : Prop := ∀ k, k < 8 → rows (b + 778 + k) = ta k
theorem rt_tal {rows : Nat → Int32} {b j : Nat} {ta : Nat → Int32} {x : Int32} (h : RTal rows b ta) (hj : j < 8) (hx : x = rows (b + 778 + j) + 1) : RTal (upd rows (b + 778 + j) x) b (tal ta j) := by
  intro k hk
  unfold tal
  by_cases e : k = j
  · rw [e, upd_eq, upd_eq, hx, h j hj]
  · rw [upd_ne (by omega), upd_ne e]; exact h k hk
theorem rt_fr {rows r : Nat → Int32} {b : Nat} {ta : Nat → Int32} (hr : ∀ j, b + 778 ≤ j → j < b + 786 → r j = rows j) (h : RTal rows b ta) : RTal r b ta := fun k hk => (hr _ (by omega) (by omega)).trans (h k hk)
theorem r_does {rows : Nat → Int32} {b : Nat} {X : AC} {q : Nat × Nat × Nat} (hR : RC rows b X) (hV : VC X) (hq : okMi q) (hb : b + 786 ≤ 66100) : ∃ r, m_X12_does rows (nI b) (nI q.1) (mcw q) (mcv q) = some r ∧ RC r b (micX X q) ∧ r (b + 783 + q.1) = rows (b + 783 + q.1) + 1 ∧ ∀ j, (j < b ∨ b + 288 ≤ j) → ¬ j = b + 783 + q.1 → r j = rows j := by
  have hVq := (micX_word hV hq).1
  rw [m_X12_does]
  unfold micX at hVq ⊢
  unfold mcw mcv
  rcases hq with ⟨h1, h2, h3⟩ | ⟨h1, h2, h3⟩ | ⟨h1, h2, h3⟩
  · obtain ⟨r, r1, r2, r3⟩ := r_stores (a := q.2.1) (v := q.2.2) hR hV h2 hb
    rw [if_pos h1] at hVq
    rw [if_pos h1, if_neg (show ¬ q.1 = 2 by omega), if_pos h1, if_pos (show nI q.1 = 0 by rw [h1]; rfl), bd_ok r1]
    simp (disch := omega) only [lit32, nI_add, rd_nI, wr_nI]
    refine ⟨_, rfl, RC_fr hVq (fun j _ hj => upd_ne (by omega)) r2, ?_, fun j hj hn => ?_⟩
    · rw [h1, Nat.add_zero, upd_eq, r3 (b + 783) (by omega)]
    · rw [upd_ne (by rw [h1] at hn; omega)]; exact r3 j hj
  · have e0 := hR.2.1 q.2.1 h2
    have r2 := r_ask hR h2
    rw [if_neg (by omega), if_pos h1] at hVq
    rw [if_neg (show ¬ q.1 = 0 by omega), if_pos h1, if_neg (show ¬ q.1 = 2 by omega), if_neg (show ¬ q.1 = 0 by omega), if_neg (show ¬ nI q.1 = 0 by rw [h1]; decide), if_pos (show nI q.1 = 1 by rw [h1]; rfl)]
    simp (disch := omega) only [lit32, nI_add, rd_nI, wr_nI, e0]
    refine ⟨_, rfl, RC_fr hVq (fun j _ hj => upd_ne (by omega)) r2, ?_, fun j hj hn => ?_⟩
    · rw [h1, upd_eq, upd_ne (by omega)]
    · rw [upd_ne (by rw [h1] at hn; omega), upd_ne (by omega)]
  · rw [if_neg (by omega), if_neg (by omega)] at hVq
    rw [if_neg (show ¬ q.1 = 0 by omega), if_neg (show ¬ q.1 = 1 by omega), if_pos h1, if_neg (show ¬ q.1 = 0 by omega), if_neg (show ¬ nI q.1 = 0 by rw [h1]; decide), if_neg (show ¬ nI q.1 = 1 by rw [h1]; decide)]
    obtain ⟨r, r1, r2, r3⟩ := r_await hR hV hb (nI q.1) (-1) (-1) (m_X12_does_j108 (nI b) (nI q.1) (-1) (-1))
    rw [r1, m_X12_does_j108]
    simp (disch := omega) only [lit32, nI_add, rd_nI, wr_nI]
    refine ⟨_, rfl, RC_fr hVq (fun j _ hj => upd_ne (by omega)) r2, ?_, fun j hj hn => ?_⟩
    · rw [h1, upd_eq, r3 (b + 785) (by omega)]
    · rw [upd_ne (by rw [h1] at hn; omega)]; exact r3 j hj
theorem r_do {F rows w ad nu : Nat → Int32} {b mode : Nat} {A : MA} {q : Nat × Nat × Nat} {t : MM} (hR : RM rows b A) (hV : VM mode A) (hm : gM A = q :: t) (hb : b + 786 ≤ 66100) :
    ∃ r, m_X12_isStep_j39 (nI b) F rows w ad nu = some (1, F, r, w, ad, nu) ∧ RM r b (popA q t A) ∧ frR r rows b := by
  obtain ⟨k1, ⟨a, k2, k3, k4, k5, k6⟩, k7, k8, k9, k10, k11, k12, k13⟩ := hR
  have hq : okMi q := hV.2.1 q (by rw [hm]; exact List.mem_cons_self)
  have hs1 : ¬ gS A = 1 := fun e => by rw [(hV.2.2.2.2.2.1 e).1] at hm; cases hm
  have h4 := hV.2.2.2.1
  have hq2 : q.1 ≤ 2 := (mcN_div hq).2.2.2.2
  have hne : ¬ gM A = [] := by rw [hm]; exact fun e => by cases e
  obtain ⟨m1, m2, m3⟩ := k6 0 q (by rw [hm]; rfl)
  have m1 : rows (b + 288 + 3 * a) = nI q.1 := m1
  have m2 : rows (b + 288 + 3 * a + 1) = mcw q := m2
  have m3 : rows (b + 288 + 3 * a + 2) = mcv q := m3
  rw [hm, List.length_cons] at k3 k4
  obtain ⟨r, r1, r2, r3, r4⟩ := r_does k1 hV.1 hq hb
  have hVx := (micX_word hV.1 hq).1
  have f5 : r (b + 775) = nI a := (r4 _ (by omega) (by omega)).trans k2
  have f4 : r (b + 774) = nI (a + (t.length + 1)) := (r4 _ (by omega) (by omega)).trans k3
  have hT1 : RTal r b (tal (gT A) (5 + q.1)) := by
    intro k hk
    unfold tal
    by_cases e : k = 5 + q.1
    · rw [e, upd_eq, show b + 778 + (5 + q.1) = b + 783 + q.1 by omega, r3, ← k11 (5 + q.1) (by omega), show b + 778 + (5 + q.1) = b + 783 + q.1 by omega]
    · rw [upd_ne e, r4 _ (by omega) (by omega)]; exact k11 k hk
  have hT2 : RTal (upd (upd r (b + 775) (nI (a + 1))) (b + 782) (r (b + 782) + nI 1)) b (tal (tal (gT A) (5 + q.1)) 4) := rt_tal (j := 4) (rt_fr (fun j h1 _ => upd_ne (by omega)) hT1) (by decide) (by rw [upd_ne (by omega)]; rfl)
  have e782 : upd r (b + 775) (nI (a + 1)) (b + 782) = r (b + 782) := upd_ne (by omega)
  have e775 : upd (upd r (b + 775) (nI (a + 1))) (b + 782) (r (b + 782) + nI 1) (b + 775) = nI (a + 1) := by rw [upd_ne (by omega), upd_eq]
  have e774 : upd (upd r (b + 775) (nI (a + 1))) (b + 782) (r (b + 782) + nI 1) (b + 774) = nI (a + (t.length + 1)) := by rw [upd_ne (by omega), upd_ne (by omega)]; exact f4
  have e776 : upd (upd r (b + 775) (nI (a + 1))) (b + 782) (r (b + 782) + nI 1) (b + 776) = nI (flA A) := by rw [upd_ne (by omega), upd_ne (by omega), r4 _ (by omega) (by omega)]; exact k10
  have hfl : flA A = if gS A = 2 then 2 else 1 := by
    unfold flA; rw [if_neg (by rw [hm, List.length_cons]; omega)]
  have hRC : ∀ r' : Nat → Int32, (∀ j, j < b + 288 → r' j = r j) → RC r' b (micX (gX A) q) := fun r' hr' => RC_fr hVx (fun j _ hj => hr' j hj) r2
  have hRW : ∀ r' : Nat → Int32, (∀ j, b + 288 ≤ j → j < b + 772 → r' j = r j) → r' (b + 777) = r (b + 777) → RMw r' b (gW A) := fun r' h1 h2 => RMw_fr (fun j g1 g2 => (h1 j (by omega) g2).trans (r4 j (by omega) (by omega))) (h2.trans (r4 _ (by omega) (by omega))) k7
  rw [m_X12_isStep_j39]
  simp (disch := omega) only [nm, lit32, nI_add, nI_mulE, rd_nI, wr_nI, k2, m1, m2, m3, r1, bd, Option.bind_some, f5, e782, e775, e774, e776, nI_leI]
  unfold popA
  by_cases c : t.length = 0
  · have ht : t = [] := List.length_eq_zero_iff.mp c
    rw [if_pos (show a + (t.length + 1) ≤ a + 1 by omega), hfl]
    simp only [c, true_and, if_true]
    by_cases c0 : gS A = 0
    · rw [if_neg (show ¬ gS A = 2 by omega), if_pos rfl, if_pos c0, m_X12_isStep_j166]
      have e778 : upd (upd r (b + 775) (nI (a + 1))) (b + 782) (r (b + 782) + nI 1) (b + 778) = r (b + 778) := by rw [upd_ne (by omega), upd_ne (by omega)]
      simp (disch := omega) only [lit32, nI_add, wr_nI, e778]
      have hT3 : RTal (upd (upd (upd r (b + 775) (nI (a + 1))) (b + 782) (r (b + 782) + nI 1)) (b + 778) (r (b + 778) + nI 1)) b (tal (tal (tal (gT A) (5 + q.1)) 4) 0) := rt_tal (j := 0) hT2 (by decide) (by show _ = upd (upd r (b + 775) (nI (a + 1))) (b + 782) (r (b + 782) + nI 1) (b + 778) + 1; rw [e778]; rfl)
      refine ⟨_, rfl, ⟨hRC _ (fun j hj => ?_), ⟨0, upd_eq, ?_, ?_, fun _ => rfl, fun k z hk => ?_⟩, hRW _ (fun j g1 g2 => ?_) ?_, ?_, ?_, ?_, rt_fr (fun j g1 g2 => ?_) hT3, ⟨fun e => absurd ht e, fun e => absurd ht e⟩⟩, fun j hj => ?_⟩
      · rw [upd_ne (by omega), upd_ne (by omega), upd_ne (by omega), upd_ne (by omega), upd_ne (by omega), upd_ne (by omega), upd_ne (by omega)]
      · show _ = nI (0 + t.length)
        rw [upd_ne (by omega), upd_eq, c]
      · show 0 + t.length ≤ 80
        omega
      · have hk : t[k]? = some z := hk
        rw [ht] at hk; cases hk
      · rw [upd_ne (by omega), upd_ne (by omega), upd_ne (by omega), upd_ne (by omega), upd_ne (by omega), upd_ne (by omega), upd_ne (by omega)]
      · rw [upd_ne (by omega), upd_ne (by omega), upd_ne (by omega), upd_ne (by omega), upd_ne (by omega), upd_ne (by omega), upd_ne (by omega)]
      · rw [upd_ne (by omega), upd_ne (by omega), upd_ne (by omega), upd_eq]
      · rw [upd_ne (by omega), upd_ne (by omega), upd_ne (by omega), upd_ne (by omega), upd_ne (by omega), upd_ne (by omega), upd_ne (by omega), r4 _ (by omega) (by omega)]; exact k9
      · rw [upd_ne (by omega), upd_ne (by omega), upd_eq]
        unfold flA; rw [if_pos c]
      · rw [upd_ne (by omega), upd_ne (by omega), upd_ne (by omega), upd_ne (by omega)]
      · rw [upd_ne (by omega), upd_ne (by omega), upd_ne (by omega), upd_ne (by omega), upd_ne (by omega), upd_ne (by omega), upd_ne (by omega)]; exact r4 j (by omega) (by omega)
    · rw [if_pos (show gS A = 2 by omega), if_neg (by decide), if_neg c0, m_X12_isStep_j166]
      simp (disch := omega) only [lit32, nI_add, wr_nI]
      refine ⟨_, rfl, ⟨hRC _ (fun j hj => ?_), ⟨0, upd_eq, ?_, ?_, fun _ => rfl, fun k z hk => ?_⟩, hRW _ (fun j g1 g2 => ?_) ?_, ?_, ?_, ?_, rt_fr (fun j g1 g2 => ?_) hT2, ⟨fun e => absurd ht e, fun e => absurd ht e⟩⟩, fun j hj => ?_⟩
      · rw [upd_ne (by omega), upd_ne (by omega), upd_ne (by omega), upd_ne (by omega), upd_ne (by omega), upd_ne (by omega)]
      · show _ = nI (0 + t.length)
        rw [upd_ne (by omega), upd_eq, c]
      · show 0 + t.length ≤ 80
        omega
      · have hk : t[k]? = some z := hk
        rw [ht] at hk; cases hk
      · rw [upd_ne (by omega), upd_ne (by omega), upd_ne (by omega), upd_ne (by omega), upd_ne (by omega), upd_ne (by omega)]
      · rw [upd_ne (by omega), upd_ne (by omega), upd_ne (by omega), upd_ne (by omega), upd_ne (by omega), upd_ne (by omega)]
      · rw [upd_ne (by omega), upd_ne (by omega), upd_ne (by omega), upd_eq]
      · rw [upd_ne (by omega), upd_ne (by omega), upd_ne (by omega), upd_ne (by omega), upd_ne (by omega), upd_ne (by omega), r4 _ (by omega) (by omega)]; exact k9
      · rw [upd_ne (by omega), upd_ne (by omega), upd_eq]
        unfold flA; rw [if_pos c]
      · rw [upd_ne (by omega), upd_ne (by omega), upd_ne (by omega), upd_ne (by omega)]
      · rw [upd_ne (by omega), upd_ne (by omega), upd_ne (by omega), upd_ne (by omega), upd_ne (by omega), upd_ne (by omega)]; exact r4 j (by omega) (by omega)
  · rw [if_neg (show ¬ a + (t.length + 1) ≤ a + 1 by omega)]
    simp only [c, false_and, if_false]
    have htne : ¬ t = [] := fun e => c (by rw [e]; rfl)
    refine ⟨_, rfl, ⟨hRC _ (fun j hj => ?_), ⟨a + 1, e775, ?_, ?_, fun e => absurd e htne, fun k z hk => ?_⟩, hRW _ (fun j g1 g2 => ?_) ?_, ?_, ?_, ?_, hT2, ⟨fun _ k hk => ?_, fun _ h0 k hk => ?_⟩⟩, fun j hj => ?_⟩
    · rw [upd_ne (by omega), upd_ne (by omega)]
    · rw [e774, show a + (t.length + 1) = a + 1 + t.length by omega]
    · show a + 1 + t.length ≤ 80
      omega
    · have hk : t[k]? = some z := hk
      have hlt := (List.getElem?_eq_some_iff.mp hk).1
      obtain ⟨z1, z2, z3⟩ := k6 (k + 1) z (by rw [hm]; exact hk)
      rw [show a + 1 + k = a + (k + 1) by omega, upd_ne (by omega), upd_ne (by omega), upd_ne (by omega), upd_ne (by omega), upd_ne (by omega), upd_ne (by omega), r4 _ (by omega) (by omega), r4 _ (by omega) (by omega), r4 _ (by omega) (by omega)]
      exact ⟨z1, z2, z3⟩
    · rw [upd_ne (by omega), upd_ne (by omega)]
    · rw [upd_ne (by omega), upd_ne (by omega)]
    · rw [upd_ne (by omega), upd_ne (by omega), r4 _ (by omega) (by omega)]; exact k8
    · rw [upd_ne (by omega), upd_ne (by omega), r4 _ (by omega) (by omega)]; exact k9
    · rw [e776, hfl]
      unfold flA; rw [if_neg c]
    · rw [upd_ne (by omega), upd_ne (by omega), r4 _ (by omega) (by omega)]; exact k12 hne k hk
    · rw [upd_ne (by omega), upd_ne (by omega), r4 _ (by omega) (by omega)]; exact k13 hne h0 k hk
    · rw [upd_ne (by omega), upd_ne (by omega)]; exact r4 j (by omega) (by omega)
theorem r_shift {F rows w ad nu : Nat → Int32} {b n : Nat} {x2 : Int32} {K : Int32 → (Nat → Int32) → (Nat → Int32) → (Nat → Int32) → (Nat → Int32) → (Nat → Int32) → Option (Int32 × (Nat → Int32) × (Nat → Int32) × (Nat → Int32) × (Nat → Int32) × (Nat → Int32))} (hn : n ≤ 11) (hb : b + 786 ≤ 66100) :
    ∃ r, m_X12_isBegun_w45 (nI b) K fuelN x2 (nI (616 + 13 * n)) (nI 616) F rows w ad nu = K x2 F r w ad nu ∧ (∀ j, 616 ≤ j → j < 616 + 13 * n → r (b + j) = rows (b + j + 13)) ∧ ∀ j, (j < b + 616 ∨ b + (616 + 13 * n) ≤ j) → r j = rows j := by
  obtain ⟨r, ⟨h0, h1, h2⟩, h3⟩ := loop_up (fun f i r => m_X12_isBegun_w45 (nI b) K f x2 (nI (616 + 13 * n)) i F r w ad nu) (fun r => K x2 F r w ad nu) (616 + 13 * n) (fun k r => 616 ≤ k ∧ (∀ j, 616 ≤ j → j < k → r (b + j) = rows (b + j + 13)) ∧ ∀ j, (j < b + 616 ∨ b + k ≤ j) → r j = rows j) (by
    intro f k r hk hI
    obtain ⟨i0, i1, i2⟩ := hI
    refine ⟨upd r (b + k) (r (b + k + 13)), ⟨by omega, fun j g1 g2 => ?_, fun j hj => ?_⟩, ?_⟩
    · by_cases e : j = k
      · rw [e, upd_eq]; exact i2 _ (by omega)
      · rw [upd_ne (by omega)]; exact i1 j g1 (by omega)
    · rw [upd_ne (by omega)]; exact i2 j (by omega)
    · show m_X12_isBegun_w45 (nI b) K (f + 1) x2 (nI (616 + 13 * n)) (nI k) F r w ad nu = _
      rw [m_X12_isBegun_w45]
      simp (disch := omega) only [nm, lit32, nI_add, rd_nI, wr_nI, nI_leI, if_neg, Nat.not_le]) (by
    intro f r _
    show m_X12_isBegun_w45 (nI b) K (f + 1) x2 (nI (616 + 13 * n)) (nI (616 + 13 * n)) F r w ad nu = _
    rw [m_X12_isBegun_w45, if_pos (nI_le (Nat.le_refl _) (by omega))]) fuelN 616 rows (by omega) (by rw [fuel_is]; omega) ⟨Nat.le_refl _, fun j g1 g2 => (by omega), fun _ _ => rfl⟩
  exact ⟨r, h3, h1, h2⟩
theorem RMw_tail {rows r : Nat → Int32} {b : Nat} {o : OPS} {t : List OPS} (h : RMw rows b (o :: t)) (h1 : ∀ j, 616 ≤ j → j < 616 + 13 * t.length → r (b + j) = rows (b + j + 13)) (h7 : r (b + 777) = nI t.length) : RMw r b t := by
  obtain ⟨q1, q2, q3⟩ := h
  rw [List.length_cons] at q2
  refine ⟨h7, by omega, fun i ops hi => ?_⟩
  have hlt := (List.getElem?_eq_some_iff.mp hi).1
  refine rOps_fr (p := b + 616 + 13 * (i + 1)) (fun j hj => ?_) (q3 (i + 1) ops hi)
  have := h1 (616 + 13 * i + j) (by omega) (by omega)
  rw [show b + 616 + 13 * i + j = b + (616 + 13 * i + j) by omega, this]
  congr 1; omega
theorem r_begin_tail {F rows w ad nu : Nat → Int32} {b mode : Nat} {X : AC} {S : PS} {s : Nat} (hR : RC rows b X) (hV : VC X) (hb : b + 786 ≤ 66100) (hs : rows (b + 773) = nI s) (h7 : s < 128) (hm : F 12 = nI mode) (hm2 : mode < 2) (hP : PR F w ad nu S) (h8 : S.2.length ≤ 8) (hS : okS (wordA X) S) :
    ∃ r w', m_X12_isBegun_j113 (nI b) F rows w ad nu = some (1, F, r, w', ad, nu) ∧ RMi r b (microsT mode s S) ∧ r (b + 775) = nI 0 ∧ r (b + 776) = nI 1 ∧ (∀ k, k < 44 → r (b + 572 + k) = nI (S.1 (20 + k)) ∧ r (b + 528 + k) = nI (wordA X (20 + k))) ∧ ∀ j, (j < b + 288 ∨ b + 616 ≤ j) → ¬ j = b + 774 → ¬ j = b + 775 → ¬ j = b + 776 → r j = rows j := by
  obtain ⟨r, ⟨h1, h2⟩, h3⟩ := loop_up (fun f i r => m_X12_isBegun_w116 (nI b) (m_X12_isBegun_j175 (nI b)) f i F r w ad nu) (fun r => m_X12_isBegun_j175 (nI b) F r w ad nu) 44 (fun k r => (∀ j, j < k → r (b + 572 + j) = nI (S.1 (20 + j)) ∧ r (b + 528 + j) = nI (wordA X (20 + j))) ∧ ∀ j, (j < b + 528 ∨ b + 616 ≤ j) → r j = rows j) (by
    intro f k r hk hI
    obtain ⟨i1, i2⟩ := hI
    have ew := hP.2.1 (20 + k) (by omega)
    have hRC : RC (upd r (b + 572 + k) (nI (S.1 (20 + k)))) b X := RC_fr hV (fun j _ hj => by rw [upd_ne (by omega)]; exact i2 j (by omega)) hR
    have eo := r_wordOf (w := 20 + k) hRC hV (by omega) hb
    refine ⟨upd (upd r (b + 572 + k) (nI (S.1 (20 + k)))) (b + 528 + k) (nI (wordA X (20 + k))), ⟨fun j hj => ?_, fun j hj => ?_⟩, ?_⟩
    · by_cases e : j = k
      · rw [e, upd_eq, upd_ne (by omega), upd_eq]; exact ⟨rfl, rfl⟩
      · rw [upd_ne (by omega), upd_ne (by omega), upd_ne (by omega), upd_ne (by omega)]; exact i1 j (by omega)
    · rw [upd_ne (by omega), upd_ne (by omega)]; exact i2 j hj
    · show m_X12_isBegun_w116 (nI b) (m_X12_isBegun_j175 (nI b)) (f + 1) (nI k) F r w ad nu = _
      rw [m_X12_isBegun_w116]
      simp (disch := omega) only [nm, lit32, nI_add, rd_nI, wr_nI, nI_leI, if_neg, Nat.not_le, ew, eo, bd, Option.bind_some]) (by
    intro f r _
    show m_X12_isBegun_w116 (nI b) (m_X12_isBegun_j175 (nI b)) (f + 1) (nI 44) F r w ad nu = _
    rw [m_X12_isBegun_w116]
    simp (disch := omega) only [lit32, nI_leI, if_pos]) fuelN 0 rows (by omega) (by rw [fuel_is]; omega) ⟨fun j hj => absurd hj (Nat.not_lt_zero j), fun _ _ => rfl⟩
  have hRC : RC r b X := RC_fr hV (fun j _ hj => h2 j (by omega)) hR
  obtain ⟨R, g1, g2, g3, g4⟩ := r_laysMicros (w := w) hRC hV hb ((h2 _ (by omega)).trans hs) h7 hm hm2 (ad := ad) (nu := nu) ⟨hP.1, h8, hP.2.2.2⟩ hS
  refine ⟨upd R.1 (b + 776) 1, R.2, ?_, ?_, ?_, upd_eq, fun k hk => ?_, fun j hj n1 n2 n3 => ?_⟩
  · rw [m_X12_isBegun_j113]
    refine h3.trans ?_
    rw [m_X12_isBegun_j175, bd_ok g1]
    simp (disch := omega) only [show (776 : Int32) = nI 776 from rfl, nI_add, wr_nI]
  · obtain ⟨q1, q2, q3⟩ := g2
    refine ⟨by rw [upd_ne (by omega)]; exact q1, q2, fun k q hk => ?_⟩
    have hlt := (List.getElem?_eq_some_iff.mp hk).1
    rw [upd_ne (by omega), upd_ne (by omega), upd_ne (by omega)]
    exact q3 k q hk
  · rw [upd_ne (by omega)]; exact g3
  · rw [upd_ne (by omega), upd_ne (by omega), g4 _ (by omega) (by omega) (by omega), g4 _ (by omega) (by omega) (by omega)]
    exact h1 k hk
  · rw [upd_ne n3, g4 j (by omega) n1 n2]; exact h2 j (by omega)
theorem r_isBegun_loop {b mode : Nat} (hm2 : mode < 2) (hb : b + 786 ≤ 66100) : ∀ (W : List OPS) (A : MA) (fuel : Nat) (F rows w ad nu : Nat → Int32), gW A = W → RM rows b A → VM mode A → gS A = 0 → gM A = [] → F 12 = nI mode → W.length < fuel →
    ∃ F' r w' ad' nu', m_X12_isBegun_w0 (nI b) (m_X12_isBegun_j113 (nI b)) fuel F rows w ad nu = some (nI (if (begA mode A).2 = true then 1 else 0), F', r, w', ad', nu') ∧ RM r b (begA mode A).1 ∧ frF F' F ∧ frR r rows b := by
  intro W
  induction W with
  | nil =>
    intro A fuel F rows w ad nu hW hR hV h0 hm hF hf
    obtain ⟨fuel, rfl⟩ : ∃ d, fuel = d + 1 := ⟨fuel - 1, by omega⟩
    obtain ⟨k1, k2, k3, k4, k5, k6, k7, k8⟩ := id hR
    rw [hW] at k3
    rw [m_X12_isBegun_w0, begA_nil hW]
    have e7 : rows (b + 777) = nI 0 := k3.1
    simp (disch := omega) only [show (777 : Int32) = nI 777 from rfl, nI_add, rd_nI, e7]
    rw [if_pos (show nI 0 ≤ 0 from nI_le (a := 0) (b := 0) (Nat.le_refl _) (by decide))]
    refine ⟨F, rows, w, ad, nu, rfl, ⟨k1, k2, k3, k4, k5, k6, fun k hk => ?_, k8⟩, fun _ _ => rfl, frR_refl⟩
    rw [k7 k hk]; exact tal_0 (fun _ _ => rfl) k hk
  | cons o t ih =>
    intro A fuel F rows w ad nu hW hR hV h0 hm hF hf
    rw [List.length_cons] at hf
    obtain ⟨fuel, rfl⟩ : ∃ d, fuel = d + 1 := ⟨fuel - 1, by omega⟩
    obtain ⟨k1, k2, k3, k4, k5, k6, k7, k8⟩ := id hR
    rw [hW] at k3
    have hl12 : t.length ≤ 11 := by have := k3.2.1; rw [List.length_cons] at this; omega
    have e7 : rows (b + 777) = nI (t.length + 1) := k3.1
    obtain ⟨R, p1, p2, p3⟩ := r_isWritten (F := F) (w := w) (ad := ad) (nu := nu) k1 hV.1 hb (k3.2.2 0 o rfl)
    have hv4 : ((616 + 13 * nI (t.length + 1)) - 13 : Int32) = nI (616 + 13 * t.length) := by
      rw [show (616 : Int32) = nI 616 from rfl, show (13 : Int32) = nI 13 from rfl, nI_mulE, nI_add, nI_subE (by omega)]
      congr 1
    obtain ⟨r, s1, s2, s3⟩ := r_shift (F := R.2.1) (rows := rows) (w := R.2.2.1) (ad := R.2.2.2.1) (nu := R.2.2.2.2) (x2 := R.1) (K := m_X12_isBegun_j78 (nI b) (m_X12_isBegun_w0 (nI b) (m_X12_isBegun_j113 (nI b)) fuel) (m_X12_isBegun_j113 (nI b))) (n := t.length) hl12 hb
    have s1 : m_X12_isBegun_w45 (nI b) (m_X12_isBegun_j78 (nI b) (m_X12_isBegun_w0 (nI b) (m_X12_isBegun_j113 (nI b)) fuel) (m_X12_isBegun_j113 (nI b))) fuelN R.1 (nI (616 + 13 * t.length)) 616 R.2.1 rows R.2.2.1 R.2.2.2.1 R.2.2.2.2 = _ := s1
    have f7 : r (b + 777) = nI (t.length + 1) := (s3 _ (by omega)).trans e7
    rw [m_X12_isBegun_w0, show (nI b + 777 : Int32) = nI (b + 777) by rw [show (777 : Int32) = nI 777 from rfl, nI_add], rd_nI (by omega) (by decide), e7, if_neg (show ¬ nI (t.length + 1) ≤ 0 from nI_ge (a := 0) (by omega) (by omega)), bd_ok p1, rd_nI (by omega) (by decide), e7, nm, hv4, s1, m_X12_isBegun_j78, show (nI b + 777 : Int32) = nI (b + 777) by rw [show (777 : Int32) = nI 777 from rfl, nI_add], rd_nI (by omega) (by decide), f7, wr_nI (by omega) (by decide), show nI (t.length + 1) - 1 = nI t.length by rw [show (1 : Int32) = nI 1 from rfl, nI_subE (by omega)]; congr 1]
    have hVt : ∀ ta, VM mode (gX A, gM A, t, gS A, gO A, ta, gB A, gA A) := by
      obtain ⟨v1, v2, ⟨v3, v3'⟩, v4⟩ := hV
      intro ta
      exact ⟨v1, v2, ⟨by show t.length ≤ 12; omega, fun o' ho' => v3' o' (by rw [hW]; exact List.mem_cons_of_mem _ ho')⟩, v4⟩
    have hRW : RMw (upd r (b + 777) (nI t.length)) b t := RMw_tail k3 (fun j g1 g2 => by rw [upd_ne (by omega)]; exact s2 j g1 g2) upd_eq
    have hfr0 : ∀ j, (j < b + 616 ∨ b + 772 ≤ j) → ¬ j = b + 777 → upd r (b + 777) (nI t.length) j = rows j := fun j hj hn => by rw [upd_ne hn]; exact s3 j (by omega)
    cases hp : planT (gX A) o with
    | none =>
      rw [hp] at p3
      have p3 : R.1 = 0 := p3
      rw [p3, if_pos rfl, show (nI b + 779 : Int32) = nI (b + 779) by rw [show (779 : Int32) = nI 779 from rfl, nI_add], rd_nI (by omega) (by decide), wr_nI (by omega) (by decide), begA_void hW hp]
      have hT : RTal (upd (upd r (b + 777) (nI t.length)) (b + 779) (upd r (b + 777) (nI t.length) (b + 779) + 1)) b (tal (gT A) 1) := rt_tal (j := 1) (rt_fr (fun j h1 h2 => hfr0 j (by omega) (by omega)) k7) (by decide) rfl
      have hfr1 : ∀ j, (j < b + 616 ∨ b + 772 ≤ j) → ¬ j = b + 777 → ¬ j = b + 779 → upd (upd r (b + 777) (nI t.length)) (b + 779) (upd r (b + 777) (nI t.length) (b + 779) + 1) j = rows j := fun j hj h1 h2 => by rw [upd_ne h2]; exact hfr0 j hj h1
      obtain ⟨F', r', w', ad', nu', g1, g2, g3, g4⟩ := ih (gX A, gM A, t, gS A, gO A, tal (gT A) 1, gB A, gA A) fuel R.2.1 (upd (upd r (b + 777) (nI t.length)) (b + 779) (upd r (b + 777) (nI t.length) (b + 779) + 1)) R.2.2.1 R.2.2.2.1 R.2.2.2.2 rfl ⟨RC_fr hV.1 (fun j _ hj => hfr1 j (by omega) (by omega) (by omega)) k1, RMm_fr (fun j g1 g2 => hfr1 j (by omega) (by omega) (by omega)) (hfr1 _ (by omega) (by omega) (by omega)) (hfr1 _ (by omega) (by omega) (by omega)) k2, RMw_fr (fun j g1 g2 => upd_ne (by omega)) (upd_ne (by omega)) hRW, (hfr1 _ (by omega) (by omega) (by omega)).trans k4, (hfr1 _ (by omega) (by omega) (by omega)).trans k5, (hfr1 _ (by omega) (by omega) (by omega)).trans k6, hT, ⟨fun e => absurd hm e, fun e => absurd hm e⟩⟩ (hVt _) h0 hm ((p2 12 (by decide)).trans hF) (by omega)
      refine ⟨F', r', w', ad', nu', g1, g2, fun j hj => (g3 j hj).trans (p2 j hj), fun j hj => ?_⟩
      rw [g4 j hj]; exact hfr1 j (by omega) (by omega) (by omega)
    | some S =>
      rw [hp] at p3
      obtain ⟨p3, p4⟩ := p3
      obtain ⟨hok, h8⟩ := planT_ok hV.1 (hV.2.2.1.2 o (by rw [hW]; exact List.mem_cons_self)).2 hp
      rw [p3, if_neg (by decide), begA_go hW hp]
      obtain ⟨r2, w2, d1, d2, d3, d4, d5, d6⟩ := r_begin_tail (mode := mode) (rows := upd r (b + 777) (nI t.length)) (s := gO A) (RC_fr hV.1 (fun j _ hj => hfr0 j (by omega) (by omega)) k1) hV.1 hb ((hfr0 _ (by omega) (by omega)).trans k5) hV.2.2.2.2.1 ((p2 12 (by decide)).trans hF) hm2 p4 h8 hok
      rw [d1]
      have hmi := micros_fin (mode := mode) (s := gO A) hok h8
      refine ⟨_, _, _, _, _, rfl, ⟨RC_fr hV.1 (fun j g1 g2 => ?_) k1, ⟨0, d3, ?_, ?_, fun _ => rfl, fun k q hk => ?_⟩, RMw_fr (fun j g1 g2 => ?_) ?_ hRW, ?_, ?_, ?_, fun k hk => ?_, ⟨fun _ k hk => ?_, fun _ _ k hk => (d5 k hk).1⟩⟩, p2, fun j hj => ?_⟩
      · rw [d6 j (by omega) (by omega) (by omega) (by omega)]; exact hfr0 j (by omega) (by omega)
      · rw [Nat.zero_add]; exact d2.1
      · rw [Nat.zero_add]; exact d2.2.1
      · rw [Nat.zero_add]; exact d2.2.2 k q hk
      · exact d6 j (by omega) (by omega) (by omega) (by omega)
      · exact d6 _ (by omega) (by omega) (by omega) (by omega)
      · rw [d6 _ (by omega) (by omega) (by omega) (by omega), hfr0 _ (by omega) (by omega)]; exact k4
      · rw [d6 _ (by omega) (by omega) (by omega) (by omega), hfr0 _ (by omega) (by omega)]; exact k5
      · rw [d4]
        unfold flA
        rw [if_neg (fun e => hmi.2.1 (List.length_eq_zero_iff.mp e)), if_neg (show ¬ gS A = 2 by omega)]
      · rw [d6 _ (by omega) (by omega) (by omega) (by omega), hfr0 _ (by omega) (by omega), k7 k hk]
        exact tal_0 (fun _ _ => rfl) k hk
      · rw [(d5 k hk).2]
        have e1 := hV.2.2.2.2.2.2.2.1 (by omega) k hk
        have e2 := hV.2.2.2.2.2.2.2.2.2.1 (Or.inr hm) k hk
        rw [hm] at e1
        have e1 : wordA (gX A) (20 + k) = gA A k := e1
        show nI (wordA (gX A) (20 + k)) = nI (gB A k)
        rw [e1, e2]
      · rw [d6 j (by omega) (by omega) (by omega) (by omega)]; exact hfr0 j (by omega) (by omega)
theorem r_isBegun {F rows w ad nu : Nat → Int32} {b mode : Nat} {A : MA} (hm2 : mode < 2) (hb : b + 786 ≤ 66100) (hR : RM rows b A) (hV : VM mode A) (h0 : gS A = 0) (hm : gM A = []) (hF : F 12 = nI mode) :
    ∃ F' r w' ad' nu', m_X12_isBegun F rows w ad nu (nI b) = some (nI (if (begA mode A).2 = true then 1 else 0), F', r, w', ad', nu') ∧ RM r b (begA mode A).1 ∧ frF F' F ∧ frR r rows b := by
  rw [m_X12_isBegun]
  exact r_isBegun_loop hm2 hb (gW A) A fuelN F rows w ad nu rfl hR hV h0 hm hF (by have := hV.2.2.1.1; rw [fuel_is]; omega)
theorem begA_nil_of {mode : Nat} {A : MA} (hm : gM A = []) (h : ¬ (begA mode A).2 = true) : gM (begA mode A).1 = [] := by
  have : (begA mode A).2 = false := by simpa using h
  unfold begA at this ⊢
  cases hb : (begL (gX A) (gW A)).2.1 with
  | none => exact hm
  | some S => rw [hb] at this; cases this
theorem VM_0 {mode : Nat} {A : MA} (hV : VM mode A) (hm : gM A = []) (h1 : ¬ gS A = 1) : gS A = 0 := by
  have h4 := hV.2.2.2.1
  by_cases e : gS A = 2
  · exact absurd hm (hV.2.2.2.2.2.2.1 e)
  · omega
theorem r_isStep {F rows w ad nu : Nat → Int32} {b mode : Nat} {A : MA} (hm2 : mode < 2) (hb : b + 786 ≤ 66100) (hR : RM rows b A) (hV : VM mode A) (hF : F 12 = nI mode) :
    ∃ F' r w' ad' nu', m_X12_isStep F rows w ad nu (nI b) = some (nI (if (stepA mode A).2 = true then 1 else 0), F', r, w', ad', nu') ∧ RM r b (stepA mode A).1 ∧ frF F' F ∧ frR r rows b := by
  obtain ⟨k1, k2, k3, k4, k5, k6, k7, k8⟩ := id hR
  have h4 := hV.2.2.2.1
  rw [m_X12_isStep, show (nI b + 772 : Int32) = nI (b + 772) by rw [show (772 : Int32) = nI 772 from rfl, nI_add], rd_nI (by omega) (by decide), k4]
  unfold stepA
  by_cases c1 : gS A = 1
  · rw [if_pos c1, if_pos (show nI (gS A) = 1 by rw [c1]; rfl)]
    exact ⟨_, _, _, _, _, rfl, hR, fun _ _ => rfl, frR_refl⟩
  · rw [if_neg c1, if_neg (show ¬ nI (gS A) = 1 from fun e => c1 (nI_inj (b := 1) (by omega) (by decide) e)), show (nI b + 776 : Int32) = nI (b + 776) by rw [show (776 : Int32) = nI 776 from rfl, nI_add], rd_nI (by omega) (by decide), k6]
    by_cases c2 : (gM A).length = 0
    · have hm : gM A = [] := List.length_eq_zero_iff.mp c2
      have h0 := VM_0 hV hm c1
      rw [if_pos c2, if_pos (show nI (flA A) = 0 by unfold flA; rw [if_pos c2]; rfl)]
      obtain ⟨F', r, w', ad', nu', g1, g2, g3, g4⟩ := r_isBegun (w := w) (ad := ad) (nu := nu) hm2 hb hR hV h0 hm hF
      obtain ⟨b1, b2, b3⟩ := VM_beg hV h0 hm
      rw [bd_ok g1]
      dsimp only
      by_cases c3 : (begA mode A).2 = true
      · rw [if_pos c3, if_pos c3, if_neg (show ¬ nI 1 = 0 by decide)]
        cases hq : gM (begA mode A).1 with
        | nil => exact absurd hq (b3 c3)
        | cons q t =>
          obtain ⟨r2, d1, d2, d3⟩ := r_do (F := F') (w := w') (ad := ad') (nu := nu') g2 b1 hq hb
          rw [d1]
          refine ⟨_, _, _, _, _, rfl, ?_, g3, frR_tr d3 g4⟩
          show RM _ b (doA (begA mode A).1)
          unfold doA
          rw [hq]; exact d2
      · rw [if_neg c3, if_neg c3, if_pos (show nI 0 = 0 from rfl)]
        exact ⟨_, _, _, _, _, rfl, g2, g3, g4⟩
    · rw [if_neg c2, if_neg (show ¬ nI (flA A) = 0 by
        unfold flA
        rw [if_neg c2]
        by_cases e : gS A = 2
        · rw [if_pos e]; decide
        · rw [if_neg e]; decide)]
      cases hq : gM A with
      | nil => rw [hq] at c2; exact absurd rfl c2
      | cons q t =>
        obtain ⟨r2, d1, d2, d3⟩ := r_do (F := F) (w := w) (ad := ad) (nu := nu) hR hV hq hb
        rw [d1]
        refine ⟨_, _, _, _, _, rfl, ?_, fun _ _ => rfl, d3⟩
        show RM _ b (doA A)
        unfold doA
        rw [hq]; exact d2
