/-! ===== loops that count up ===== -/
theorem loop_up {σ ρ : Type} (F : Nat → Int32 → σ → Option ρ) (K : σ → Option ρ) (N : Nat) (Inv : Nat → σ → Prop)
    (hstep : ∀ (n k : Nat) (s : σ), k < N → Inv k s → ∃ s', Inv (k + 1) s' ∧ F (n + 1) (nI k) s = F n (nI (k + 1)) s') (hend : ∀ (n : Nat) (s : σ), Inv N s → F (n + 1) (nI N) s = K s) :
    ∀ (fuel k : Nat) (s : σ), k ≤ N → N - k < fuel → Inv k s → ∃ s', Inv N s' ∧ F fuel (nI k) s = K s' := by
  intro fuel
  induction fuel with
  | zero => intro k s h1 h2; omega
  | succ n ih =>
    intro k s h1 h2 h3
    by_cases h : k = N
    · subst h; exact ⟨s, h3, hend n s h3⟩
    · obtain ⟨s', h4, h5⟩ := hstep n k s (by omega) h3
      obtain ⟨s9, h6, h7⟩ := ih (k + 1) s' (by omega) (by omega) h4
      exact ⟨s9, h6, h5.trans h7⟩
/-- rows that agree but for a stretch -/
def sameBut (f g : Nat → Int32) (a z : Nat) : Prop := ∀ j, (j < a ∨ z ≤ j) → f j = g j
theorem r_copies {rows : Nat → Int32} {a b n : Nat} (ha : a + n ≤ 66100) (hb : b + n ≤ 66100) (hn : n < 100000) (hd : a + n ≤ b ∨ b + n ≤ a) : ∃ r, m_X12_copies rows (nI a) (nI b) (nI n) = some r ∧ (∀ i, i < n → r (b + i) = rows (a + i)) ∧ ∀ j, (j < b ∨ b + n ≤ j) → r j = rows j := by
  obtain ⟨r, ⟨h1, h2⟩, h3⟩ := loop_up (fun f i r => m_X12_copies_w3 (nI a) (nI b) (nI n) f i r) some n (fun k r => (∀ i, i < k → r (b + i) = rows (a + i)) ∧ ∀ j, (j < b ∨ b + k ≤ j) → r j = rows j) (by
    intro f k r hk hI
    refine ⟨upd r (b + k) (r (a + k)), ⟨fun i hi => ?_, fun j hj => ?_⟩, ?_⟩
    · by_cases h : i = k
      · subst h; rw [upd_eq]; exact hI.2 _ (by omega)
      · rw [upd_ne (by omega)]; exact hI.1 i (by omega)
    · rw [upd_ne (by omega)]; exact hI.2 j (by omega)
    · show m_X12_copies_w3 _ _ _ _ _ _ = _
      rw [m_X12_copies_w3]
      simp (disch := omega) only [nm, lit32, nI_add, rd_nI, wr_nI, nI_leI, if_neg, Nat.not_le]) (by
    intro f r _
    show m_X12_copies_w3 _ _ _ _ _ _ = _
    rw [m_X12_copies_w3]
    simp (disch := omega) only [nI_leI, if_pos]) fuelN 0 rows (Nat.zero_le _) (by rw [fuel_is]; omega) ⟨fun i hi => absurd hi (Nat.not_lt_zero i), fun _ _ => rfl⟩
  exact ⟨r, h3, h1, h2⟩
theorem r_begins {rows : Nat → Int32} : ∃ r, m_X12_begins rows = some r ∧ (∀ i, i < 786 → r i = nI 0) ∧ ∀ j, 786 ≤ j → r j = rows j := by
  obtain ⟨r, ⟨h1, h2⟩, h3⟩ := loop_up (fun f i r => m_X12_begins_w2 f i r) some 786 (fun k r => (∀ i, i < k → r i = nI 0) ∧ ∀ j, k ≤ j → r j = rows j) (by
    intro f k r hk hI
    refine ⟨upd r k (nI 0), ⟨fun i hi => ?_, fun j hj => ?_⟩, ?_⟩
    · by_cases h : i = k
      · subst h; rw [upd_eq]
      · rw [upd_ne (by omega)]; exact hI.1 i (by omega)
    · rw [upd_ne (by omega)]; exact hI.2 j (by omega)
    · show m_X12_begins_w2 _ _ _ = _
      rw [m_X12_begins_w2]
      simp (disch := omega) only [nm, lit32, nI_add, wr_nI, nI_leI, if_neg, Nat.not_le]) (by
    intro f r _
    show m_X12_begins_w2 _ _ _ = _
    rw [m_X12_begins_w2]
    simp (disch := omega) only [lit32, nI_leI, if_pos]) fuelN 0 rows (Nat.zero_le _) (by rw [fuel_is]; omega) ⟨fun i hi => absurd hi (Nat.not_lt_zero i), fun _ _ => rfl⟩
  exact ⟨r, h3, h1, h2⟩
theorem apL_take {m : Nat → Nat} {L : List (Nat × Nat)} {k : Nat} {q : Nat × Nat} (h : L[k]? = some q) : apL m (L.take (k + 1)) = apS (apL m (L.take k)) q := by
  rw [List.take_succ, h]
  unfold apL
  rw [Option.toList_some, List.foldl_append]
  rfl
theorem r_reaches {rows : Nat → Int32} {b l n : Nat} {X : AC} (hR : RC rows b X) (hV : VC X) (hl : l < 16) (hn : n ≤ (X.2.1 l).length) (hb : b + 786 ≤ 66100) : ∃ r, m_X12_reaches rows (nI b) (nI l) (nI n) = some r ∧ RC r b (reachA X l n) ∧ ∀ j, (j < b ∨ b + 288 ≤ j) → r j = rows j := by
  obtain ⟨h6, hak, hst⟩ := hV.2 l hl
  have hq : ∀ k, k < (X.2.1 l).length → ∃ q, (X.2.1 l)[k]? = some q ∧ q.1 < 64 ∧ q.2 ≤ 99 := fun k hk => ⟨_, List.getElem?_eq_getElem hk, by have := hst _ (List.getElem_mem hk); omega, (hst _ (List.getElem_mem hk)).2⟩
  -- media
  obtain ⟨r1, ⟨a1, a2⟩, a3⟩ := loop_up (fun f i r => m_X12_reaches_w14 (nI b) (nI l) (nI n) (m_X12_reaches_j59 (nI b) (nI l) (nI n)) f (nI (b + 96 + 12 * l)) i r) (fun r => m_X12_reaches_j59 (nI b) (nI l) (nI n) (nI (b + 96 + 12 * l)) r) n (fun k r => (∀ w, w < 64 → r (b + w) = nI (apL X.1 ((X.2.1 l).take k) w)) ∧ ∀ j, (j < b ∨ b + 64 ≤ j) → r j = rows j) (by
    intro f k r hk hI
    obtain ⟨q, hq1, hq2, hq3⟩ := hq k (by omega)
    obtain ⟨e1, e2⟩ := hR.2.2.2 l hl k q hq1
    have e3 : r (b + 96 + 12 * l + 2 * k) = nI q.1 := (hI.2 _ (by omega)).trans e1
    have e4 : r (b + 96 + 12 * l + 2 * k + 1) = nI q.2 := (hI.2 _ (by omega)).trans e2
    refine ⟨upd r (b + q.1) (nI q.2), ⟨fun w hw => ?_, fun j hj => ?_⟩, ?_⟩
    · rw [apL_take hq1]
      unfold apS
      by_cases h : w = q.1
      · subst h; rw [upd_eq, if_pos rfl]
      · rw [upd_ne (by omega), if_neg h]; exact hI.1 w hw
    · rw [upd_ne (by omega)]; exact hI.2 j hj
    · show m_X12_reaches_w14 _ _ _ _ _ _ _ _ = _
      rw [m_X12_reaches_w14]
      simp (disch := omega) only [nm, lit32, nI_add, nI_mulE, rd_nI, wr_nI, nI_leI, if_neg, Nat.not_le, e3, e4]) (by
    intro f r _
    show m_X12_reaches_w14 _ _ _ _ _ _ _ _ = _
    rw [m_X12_reaches_w14]
    simp (disch := omega) only [nI_leI, if_pos]) fuelN 0 rows (Nat.zero_le _) (by rw [fuel_is]; omega) ⟨fun w hw => hR.1 w hw, fun _ _ => rfl⟩
  -- what is left moves up
  have hp : r1 (b + 64 + l) = nI (X.2.1 l).length := (a2 _ (by omega)).trans (hR.2.1 l hl)
  obtain ⟨r2, ⟨c1, c2⟩, c3⟩ := loop_up (fun f i r => m_X12_reaches_w77 (nI b) (nI l) (nI n) (m_X12_reaches_j116 (nI b) (nI l) (nI n)) f (nI (b + 96 + 12 * l)) (nI ((X.2.1 l).length - n)) i r) (fun r => m_X12_reaches_j116 (nI b) (nI l) (nI n) (nI ((X.2.1 l).length - n)) r) (2 * ((X.2.1 l).length - n)) (fun k r => (∀ i, i < k → r (b + 96 + 12 * l + i) = r1 (b + 96 + 12 * l + 2 * n + i)) ∧ ∀ j, (j < b + 96 + 12 * l ∨ b + 96 + 12 * l + k ≤ j) → r j = r1 j) (by
    intro f k r hk hI
    refine ⟨upd r (b + 96 + 12 * l + k) (r (b + 96 + 12 * l + 2 * n + k)), ⟨fun i hi => ?_, fun j hj => ?_⟩, ?_⟩
    · by_cases h : i = k
      · subst h; rw [upd_eq]; exact hI.2 _ (by omega)
      · rw [upd_ne (by omega)]; exact hI.1 i (by omega)
    · rw [upd_ne (by omega)]; exact hI.2 j (by omega)
    · show m_X12_reaches_w77 _ _ _ _ _ _ _ _ _ = _
      rw [m_X12_reaches_w77]
      simp (disch := omega) only [nm, lit32, nI_add, nI_mulE, rd_nI, wr_nI, nI_leI, if_neg, Nat.not_le]) (by
    intro f r _
    show m_X12_reaches_w77 _ _ _ _ _ _ _ _ _ = _
    rw [m_X12_reaches_w77]
    simp (disch := omega) only [lit32, nI_mulE, nI_leI, if_pos]) fuelN 0 r1 (Nat.zero_le _) (by rw [fuel_is]; omega) ⟨fun i hi => absurd hi (Nat.not_lt_zero i), fun _ _ => rfl⟩
  have e5 : upd r2 (b + 64 + l) (nI ((X.2.1 l).length - n)) (b + 80 + l) = nI (X.2.2 l) := by
    rw [upd_ne (by omega), c2 _ (by omega), a2 _ (by omega)]; exact hR.2.2.1 l hl
  refine ⟨upd (upd r2 (b + 64 + l) (nI ((X.2.1 l).length - n))) (b + 80 + l) (nI (X.2.2 l - n)), ?_, ⟨fun w hw => ?_, fun j hj => ?_, fun j hj => ?_, fun j hj k q hk => ?_⟩, fun j hj => ?_⟩
  · rw [m_X12_reaches]
    simp (disch := omega) only [nm, lit32, nI_add, nI_mulE]
    refine a3.trans ?_
    rw [m_X12_reaches_j59]
    simp (disch := omega) only [nm, lit32, nI_add, nI_mulE, rd_nI, hp, nI_subE]
    refine c3.trans ?_
    rw [m_X12_reaches_j116]
    simp (disch := omega) only [nm, lit32, nI_add, nI_mulE, rd_nI, wr_nI, e5, nI_leI]
    by_cases h : n ≤ X.2.2 l
    · rw [if_pos h, m_X12_reaches_j171]
      simp (disch := omega) only [wr_nI, nI_subE]
    · rw [if_neg h, m_X12_reaches_j171, show X.2.2 l - n = 0 by omega]
      simp (disch := omega) only [wr_nI]
  · rw [upd_ne (by omega), upd_ne (by omega), c2 _ (by omega)]; exact a1 w hw
  · by_cases h : j = l
    · subst h
      rw [upd_ne (by omega), upd_eq]
      show _ = nI (if j = j then (X.2.1 j).drop n else X.2.1 j).length
      rw [if_pos rfl, List.length_drop]
    · rw [upd_ne (by omega), upd_ne (by omega), c2 _ (by omega), a2 _ (by omega)]
      show _ = nI (if j = l then (X.2.1 l).drop n else X.2.1 j).length
      rw [if_neg h]; exact hR.2.1 j hj
  · by_cases h : j = l
    · subst h
      rw [upd_eq]
      show _ = nI (if j = j then X.2.2 j - n else X.2.2 j)
      rw [if_pos rfl]
    · rw [upd_ne (by omega), upd_ne (by omega), c2 _ (by omega), a2 _ (by omega)]
      show _ = nI (if j = l then X.2.2 l - n else X.2.2 j)
      rw [if_neg h]; exact hR.2.2.1 j hj
  · by_cases h : j = l
    · subst h
      have hk : ((X.2.1 j).drop n)[k]? = some q := by
        have h0 : (if j = j then (X.2.1 j).drop n else X.2.1 j)[k]? = some q := hk
        rw [if_pos rfl] at h0; exact h0
      rw [List.getElem?_drop] at hk
      have hlt := (List.getElem?_eq_some_iff.mp hk).1
      obtain ⟨e1, e2⟩ := hR.2.2.2 j hj (n + k) q hk
      constructor
      · rw [upd_ne (by omega), upd_ne (by omega), c1 _ (by omega), a2 _ (by omega), ← e1]; congr 1; omega
      · rw [upd_ne (by omega), upd_ne (by omega), show b + 96 + 12 * j + 2 * k + 1 = b + 96 + 12 * j + (2 * k + 1) by omega, c1 _ (by omega), a2 _ (by omega), ← e2]; congr 1; omega
    · have hk : (X.2.1 j)[k]? = some q := by
        have h0 : (if j = l then (X.2.1 l).drop n else X.2.1 j)[k]? = some q := hk
        rw [if_neg h] at h0; exact h0
      have hlt := (List.getElem?_eq_some_iff.mp hk).1
      have h6j := (hV.2 j hj).1
      obtain ⟨e1, e2⟩ := hR.2.2.2 j hj k q hk
      constructor
      · rw [upd_ne (by omega), upd_ne (by omega), c2 _ (by omega), a2 _ (by omega)]; exact e1
      · rw [upd_ne (by omega), upd_ne (by omega), c2 _ (by omega), a2 _ (by omega)]; exact e2
  · rw [upd_ne (by omega), upd_ne (by omega), c2 _ (by omega), a2 _ (by omega)]
