/-! ===== what acts keep ===== -/
def CH (F : Nat → Int32) (hs : Nat → Option MSt) (mode : Nat) (H : List MA) : Prop := ∃ f, f < 40 ∧ F 1 = nI f ∧ F 2 = nI H.length ∧ H.length ≤ 40 ∧ ∀ i B, H[i]? = some B → ∃ T, hs ((f + i) % 40) = some T ∧ CMt T mode B
def RH (fi ac : Int32) (rows : Nat → Int32) (base : Nat) (H : List MA) : Prop := ∃ f, f < 40 ∧ fi = nI f ∧ ac = nI H.length ∧ H.length ≤ 40 ∧ ∀ i B, H[i]? = some B → RM rows (base + 786 * ((f + i) % 40)) B
def pushH (H : List MA) (A : MA) : List MA := if H.length = 40 then H.tail ++ [A] else H ++ [A]
theorem pl40_is {F : Nat → Int32} {f i : Nat} (h : F 1 = nI f) (hf : f < 40) (hi : i ≤ 40) : pl40 F (nI i) = nI ((f + i) % 40) := by
  unfold pl40
  rw [h, show (40 : Int32) = nI 40 from rfl, nI_add, nI_modE (by omega) (by decide)]
theorem vu_eq {hs : Nat → Option MSt} {k : Nat} {T : Option MSt} : va_up hs k T k = T := if_pos rfl
theorem vu_ne {hs : Nat → Option MSt} {k j : Nat} {T : Option MSt} (h : ¬ j = k) : va_up hs k T j = hs j := if_neg h
theorem cnt_mono {hs : Nat → Option MSt} {k : Nat} {T : MSt} (hk : k < 40) : cnt40 hs ≤ cnt40 (va_up hs k (some T)) := by
  rw [cnt_up T hk]; omega
theorem cnt_le {hs : Nat → Option MSt} : cnt40 hs ≤ 40 := by
  unfold cnt40
  exact Nat.le_trans List.countP_le_length (by rw [List.length_range]; exact Nat.le_refl _)
theorem snoc_get {α : Type} {L : List α} {a b : α} {i : Nat} (h : (L ++ [a])[i]? = some b) : (i < L.length ∧ L[i]? = some b) ∨ (i = L.length ∧ b = a) := by
  by_cases e : i < L.length
  · rw [List.getElem?_append_left e] at h; exact Or.inl ⟨e, h⟩
  · rw [List.getElem?_append_right (by omega)] at h
    have hz := (List.getElem?_eq_some_iff.mp h).1
    rw [List.length_singleton] at hz
    have hke : i = L.length := by omega
    rw [hke, Nat.sub_self] at h
    cases h
    exact Or.inr ⟨hke, rfl⟩
theorem c_keep2 {F : Nat → Int32} {hs : Nat → Option MSt} {mode f : Nat} {H : List MA} {T : MSt} {A : MA} (hf : f < 40) (h1 : F 1 = nI f) (h2 : F 2 = nI H.length) (hl : H.length < 40) (h3 : ∀ i B, H[i]? = some B → ∃ T, hs ((f + i) % 40) = some T ∧ CMt T mode B) (hV : VM mode A) (hT : CMt T mode A) :
    ∃ F' hs', m_keep2 F hs T = some (F', hs') ∧ CH F' hs' mode (H ++ [A]) ∧ cnt40 hs ≤ cnt40 hs' := by
  have hp := pl40_is h1 hf (show H.length ≤ 40 by omega)
  rw [← h2] at hp
  have hlt : (f + H.length) % 40 < 40 := Nat.mod_lt _ (by decide)
  obtain ⟨R, r1, r2⟩ := cq_copyM (S := (hs ((f + H.length) % 40)).getD zeroM) hV hT
  refine ⟨upd F 2 (F 2 + 1), va_up hs ((f + H.length) % 40) (some R), ?_, ⟨f, hf, by rw [upd_ne (by decide)]; exact h1, ?_, by rw [List.length_append, List.length_singleton]; omega, fun i B hi => ?_⟩, cnt_mono hlt⟩
  · rw [m_keep2, hp, nI_clamp (by omega), if_neg (by
      simp only [not_or]
      exact ⟨nI_pos (by omega), by omega⟩), bd_ok r1]
  · rw [upd_eq, h2, List.length_append, List.length_singleton]; exact nI_1 _
  · rcases snoc_get hi with ⟨a, b⟩ | ⟨a, b⟩
    · obtain ⟨T', t1, t2⟩ := h3 i B b
      refine ⟨T', ?_, t2⟩
      rw [vu_ne (by omega)]; exact t1
    · subst a b
      exact ⟨R, vu_eq, r2⟩
theorem cq_keep {F : Nat → Int32} {hs : Nat → Option MSt} {mode : Nat} {H : List MA} {T : MSt} {A : MA} (h : CH F hs mode H) (hV : VM mode A) (hT : CMt T mode A) :
    ∃ F' hs', m_keep F hs T = some (F', hs') ∧ CH F' hs' mode (pushH H A) ∧ cnt40 hs ≤ cnt40 hs' := by
  obtain ⟨f, hf, h1, h2, h3, h4⟩ := h
  unfold m_keep keepF pushH
  by_cases c : H.length = 40
  · rw [if_pos c, if_pos (show F 2 = 40 by rw [h2, c]; rfl)]
    have e1 : (F 1 + 1) - (F 1 + 1) / 40 * 40 = nI ((f + 1) % 40) := by
      rw [h1, show nI f + 1 = nI (f + 1) from nI_1 _, show (40 : Int32) = nI 40 from rfl, nI_modE (by omega) (by decide)]
    rw [e1]
    refine c_keep2 (f := (f + 1) % 40) (Nat.mod_lt _ (by decide)) ?_ ?_ (by rw [List.length_tail]; omega) (fun i B hi => ?_) hV hT
    · rw [upd_ne (by decide), upd_eq]
    · rw [upd_eq, upd_ne (by decide), h2, c, List.length_tail, c]; rfl
    · have hlt := (List.getElem?_eq_some_iff.mp hi).1
      rw [List.length_tail] at hlt
      rw [List.getElem?_tail] at hi
      obtain ⟨T', t1, t2⟩ := h4 (i + 1) B hi
      refine ⟨T', ?_, t2⟩
      rw [← t1]; congr 1; omega
  · rw [if_neg c, if_neg (show ¬ F 2 = 40 by rw [h2]; exact fun e => c (nI_inj (b := 40) (by omega) (by decide) e))]
    exact c_keep2 hf h1 h2 (by omega) h4 hV hT
theorem cq_give {F : Nat → Int32} {hs : Nat → Option MSt} {mode : Nat} {H : List MA} {S : MSt} {A : MA} (h : CH F hs mode (H ++ [A])) (hV : VM mode A) :
    ∃ S', m_give F hs S = some (1, upd F 2 (nI H.length), S') ∧ CH (upd F 2 (nI H.length)) hs mode H ∧ CMt S' mode A := by
  obtain ⟨f, hf, h1, h2, h3, h4⟩ := h
  rw [List.length_append, List.length_singleton] at h2 h3
  obtain ⟨T, t1, t2⟩ := h4 H.length A (by rw [List.getElem?_append_right (Nat.le_refl _), Nat.sub_self]; rfl)
  obtain ⟨R, r1, r2⟩ := cq_copyM (S := S) hV t2
  have e2 : F 2 - 1 = nI H.length := by rw [h2]; exact nI_pred _
  have hp : pl40 (upd F 2 (nI H.length)) (upd F 2 (nI H.length) 2) = nI ((f + H.length) % 40) := by
    rw [upd_eq]
    exact pl40_is (by rw [upd_ne (by decide)]; exact h1) hf (by omega)
  have hlt : (f + H.length) % 40 < 40 := Nat.mod_lt _ (by decide)
  refine ⟨R, ?_, ⟨f, hf, by rw [upd_ne (by decide)]; exact h1, upd_eq, by omega, fun i B hi => h4 i B (by rw [List.getElem?_append_left (List.getElem?_eq_some_iff.mp hi).1]; exact hi)⟩, r2⟩
  rw [m_give, if_neg (show ¬ F 2 = 0 by rw [h2]; exact nI_ne0 (by omega) (by omega)), e2, hp, nI_clamp (by omega), if_neg (by
    simp only [not_or]
    exact ⟨nI_pos (by omega), by omega⟩), t1, bd_ok rfl, bd_ok r1]
/-! copying all that is kept -/
theorem c_hcp {F Fo : Nat → Int32} {ho : Nat → Option MSt} {mode fo : Nat} {H : List MA} (hfo : fo < 40) (o1 : Fo 1 = nI fo) (hF1 : F 1 = nI 0) (hF2 : F 2 = nI H.length) (hl : H.length ≤ 40) (h4 : ∀ i B, H[i]? = some B → ∃ T, ho ((fo + i) % 40) = some T ∧ CMt T mode B) (hV : ∀ B ∈ H, VM mode B) :
    ∀ (n i fuel : Nat) (hs : Nat → Option MSt), i + n = H.length → n < fuel → (∀ j B, j < i → H[j]? = some B → ∃ T, hs j = some T ∧ CMt T mode B) → ∃ hs', m_hcp F Fo ho fuel (nI i) hs = some hs' ∧ ∀ j B, H[j]? = some B → ∃ T, hs' j = some T ∧ CMt T mode B := by
  intro n
  induction n with
  | zero =>
    intro i fuel hs hi hf hI
    obtain ⟨fuel, rfl⟩ : ∃ d, fuel = d + 1 := ⟨fuel - 1, by omega⟩
    rw [m_hcp, hF2, if_pos (nI_le (by omega) (by omega))]
    exact ⟨hs, rfl, fun j B hj => hI j B (by have := (List.getElem?_eq_some_iff.mp hj).1; omega) hj⟩
  | succ n ih =>
    intro i fuel hs hi hf hI
    obtain ⟨fuel, rfl⟩ : ∃ d, fuel = d + 1 := ⟨fuel - 1, by omega⟩
    have hlt : i < H.length := by omega
    have hq : H[i]? = some H[i] := List.getElem?_eq_getElem hlt
    have hVB := hV _ (List.getElem_mem hlt)
    generalize H[i] = B at hq hVB
    obtain ⟨T, t1, t2⟩ := h4 i B hq
    obtain ⟨R, r1, r2⟩ := cq_copyM (S := (hs i).getD zeroM) hVB t2
    have p1 : pl40 F (nI i) = nI i := by rw [pl40_is hF1 (by decide) (by omega), Nat.zero_add, Nat.mod_eq_of_lt (by omega)]
    have p2 := pl40_is o1 hfo (show i ≤ 40 by omega)
    have hm : (fo + i) % 40 < 40 := Nat.mod_lt _ (by decide)
    rw [m_hcp, hF2, if_neg (nI_ge hlt (by omega)), p1, p2, nI_clamp (by omega), nI_clamp (by omega), if_neg (by
      simp only [not_or]
      exact ⟨nI_pos (by omega), by omega⟩), if_neg (by
      simp only [not_or]
      exact ⟨nI_pos (by omega), by omega⟩), t1, bd_ok rfl, bd_ok r1, show nI i + 1 = nI (i + 1) from nI_1 _]
    refine ih (i + 1) fuel _ (by omega) (by omega) (fun j C hj hC => ?_)
    by_cases e : j = i
    · subst e
      rw [hq] at hC
      cases hC
      exact ⟨R, vu_eq, r2⟩
    · rw [vu_ne e]; exact hI j C (by omega) hC
theorem c_hcopy2 {F Fo : Nat → Int32} {hs ho : Nat → Option MSt} {mode : Nat} {H : List MA} (h : CH Fo ho mode H) (hV : ∀ B ∈ H, VM mode B) : ∃ F' hs', m_hcopy F Fo hs ho = some (F', hs') ∧ CH F' hs' mode H ∧ cnt40 hs ≤ cnt40 hs' := by
  obtain ⟨f, hf, h1, h2, h3, h4⟩ := h
  have e1 : hcpF F Fo 1 = nI 0 := by unfold hcpF; rw [upd_ne (by decide), upd_eq]; rfl
  have e2 : hcpF F Fo 2 = nI H.length := by unfold hcpF; rw [upd_eq]; exact h2
  obtain ⟨hs', g1, g2⟩ := c_hcp hf h1 e1 e2 h3 h4 hV H.length 0 fuelN hs (by omega) (by rw [fuel_is]; omega) (fun j B hj => absurd hj (Nat.not_lt_zero j))
  refine ⟨hcpF F Fo, hs', ?_, ⟨0, by decide, e1, e2, h3, fun i B hi => ?_⟩, hcp_mono _ _ _ _ g1⟩
  · rw [m_hcopy]
    exact bd_ok g1
  · have hlt := (List.getElem?_eq_some_iff.mp hi).1
    rw [Nat.zero_add, Nat.mod_eq_of_lt (by omega)]
    exact g2 i B hi
/-! ===== the reference: an act is done ===== -/
theorem RH_fr {fi ac : Int32} {rows r : Nat → Int32} {base base' mode : Nat} {H : List MA} (hV : ∀ B ∈ H, VM mode B) (hr : ∀ j, j < 31440 → r (base' + j) = rows (base + j)) (h : RH fi ac rows base H) : RH fi ac r base' H := by
  obtain ⟨f, hf, h1, h2, h3, h4⟩ := h
  refine ⟨f, hf, h1, h2, h3, fun i B hi => ?_⟩
  have hm : (f + i) % 40 < 40 := Nat.mod_lt _ (by decide)
  refine RM_move (hV B (List.mem_of_getElem? hi)) (fun j hj => ?_) (h4 i B hi)
  rw [Nat.add_assoc, Nat.add_assoc, hr _ (by omega)]
theorem r_keptAt {f i : Nat} (hf : f < 40) (hi : i < 40) : m_X12_keptAt (nI f) (nI i) = some (nI (2358 + 786 * ((f + i) % 40))) := by
  rw [m_X12_keptAt, show (40 : Int32) = nI 40 from rfl, show (2358 : Int32) = nI 2358 from rfl, show (786 : Int32) = nI 786 from rfl, nI_add, nI_modE (by omega) (by decide), nI_mulE, nI_add]
theorem r_isDone43 {F rows re : Nat → Int32} {x : Int32} {mode f : Nat} {H : List MA} {A A' : MA} (hf : f < 40) (h1 : F 6 = nI f) (h2 : F 5 = nI H.length) (hl : H.length < 40) (h3 : ∀ i B, H[i]? = some B → RM rows (2358 + 786 * ((f + i) % 40)) B) (hVH : ∀ B ∈ H, VM mode B) (hV : VM mode A) (hV' : VM mode A') (hR : RM rows 0 A) (hR' : RM rows 786 A') :
    ∃ F' r, m_X12_isDone_j43 x F rows re = some (x, F', r, re) ∧ RM r 0 A' ∧ RH (F' 6) (F' 5) r 2358 (H ++ [A]) ∧ (∀ j, ¬ j = 5 → F' j = F j) ∧ ∀ j, 33798 ≤ j → r j = rows j := by
  have hm : (f + H.length) % 40 < 40 := Nat.mod_lt _ (by decide)
  obtain ⟨r1, a1, a2, a3⟩ := r_copies (rows := rows) (a := 0) (b := 2358 + 786 * ((f + H.length) % 40)) (n := 786) (by omega) (by omega) (by decide) (by omega)
  obtain ⟨r2, b1, b2, b3⟩ := r_copies (rows := r1) (a := 786) (b := 0) (n := 786) (by decide) (by decide) (by decide) (by decide)
  refine ⟨upd F 5 (nI (H.length + 1)), r2, ?_, RM_move hV' (fun j hj => ?_) hR', ⟨f, hf, by rw [upd_ne (by decide)]; exact h1, by rw [upd_eq, List.length_append, List.length_singleton], by rw [List.length_append, List.length_singleton]; omega, fun i B hi => ?_⟩, fun j hj => upd_ne hj, fun j hj => ?_⟩
  · rw [m_X12_isDone_j43, h1, h2, bd_ok (r_keptAt hf hl)]
    have a1 : m_X12_copies rows 0 (nI (2358 + 786 * ((f + H.length) % 40))) 786 = some r1 := a1
    have b1 : m_X12_copies r1 786 0 786 = some r2 := b1
    rw [bd_ok a1, nm, bd_ok b1, show nI H.length + 1 = nI (H.length + 1) from nI_1 _]
  · rw [b2 j hj]; exact a3 _ (by omega)
  · rcases snoc_get hi with ⟨a, b⟩ | ⟨a, b⟩
    · refine RM_move (hVH B (List.mem_of_getElem? b)) (fun j hj => ?_) (h3 i B b)
      have hmi : (f + i) % 40 < 40 := Nat.mod_lt _ (by decide)
      have hne : ¬ (f + i) % 40 = (f + H.length) % 40 := by omega
      rw [b3 _ (by omega), a3 _ (by omega)]
    · subst a b
      refine RM_move hV (fun j hj => ?_) hR
      rw [b3 _ (by omega), a2 j hj]
  · rw [b3 _ (by omega), a3 _ (by omega)]
theorem r_isDone {F rows re : Nat → Int32} {x : Int32} {mode : Nat} {H : List MA} {A A' : MA} (hx : ¬ x = -1) (h : RH (F 6) (F 5) rows 2358 H) (hVH : ∀ B ∈ H, VM mode B) (hV : VM mode A) (hV' : VM mode A') (hR : RM rows 0 A) (hR' : RM rows 786 A') :
    ∃ F' r, m_X12_isDone F rows re x = some (x, F', r, re) ∧ RM r 0 A' ∧ RH (F' 6) (F' 5) r 2358 (pushH H A) ∧ (∀ j, ¬ j = 5 → ¬ j = 6 → F' j = F j) ∧ ∀ j, 33798 ≤ j → r j = rows j := by
  obtain ⟨f, hf, h1, h2, h3, h4⟩ := h
  rw [m_X12_isDone, if_neg hx]
  unfold pushH
  by_cases c : H.length = 40
  · rw [if_pos c, if_pos (show F 5 = 40 by rw [h2, c]; rfl), nm, nm]
    have e1 : (F 6 + 1) - (F 6 + 1) / 40 * 40 = nI ((f + 1) % 40) := by
      rw [h1, show nI f + 1 = nI (f + 1) from nI_1 _, show (40 : Int32) = nI 40 from rfl, nI_modE (by omega) (by decide)]
    have e2 : upd F 6 (nI ((f + 1) % 40)) 5 - 1 = nI 39 := by rw [upd_ne (by decide), h2, c]; rfl
    rw [e1, e2]
    obtain ⟨F', r, g1, g2, g3, g4, g5⟩ := r_isDone43 (F := upd (upd F 6 (nI ((f + 1) % 40))) 5 (nI 39)) (rows := rows) (re := re) (x := x) (f := (f + 1) % 40) (H := H.tail) (A := A) (A' := A') (Nat.mod_lt _ (by decide)) (by rw [upd_ne (by decide), upd_eq]) (by rw [upd_eq, List.length_tail, c]) (by rw [List.length_tail]; omega) (fun i B hi => by
      have hlt := (List.getElem?_eq_some_iff.mp hi).1
      rw [List.length_tail] at hlt
      rw [List.getElem?_tail] at hi
      have := h4 (i + 1) B hi
      rw [show ((f + 1) % 40 + i) % 40 = (f + (i + 1)) % 40 by omega]; exact this) (fun B hB => hVH B (List.mem_of_mem_tail hB)) hV hV' hR hR'
    exact ⟨F', r, g1, g2, g3, fun j n1 n2 => by rw [g4 j n1, upd_ne n1, upd_ne n2], g5⟩
  · rw [if_neg c, if_neg (show ¬ F 5 = 40 by rw [h2]; exact fun e => c (nI_inj (b := 40) (by omega) (by decide) e))]
    obtain ⟨F', r, g1, g2, g3, g4, g5⟩ := r_isDone43 (F := F) (rows := rows) (re := re) (x := x) hf h1 h2 (by omega) h4 hVH hV hV' hR hR'
    exact ⟨F', r, g1, g2, g3, fun j n1 _ => g4 j n1, g5⟩
theorem r_tries {rows : Nat → Int32} {mode : Nat} {A : MA} (hR : RM rows 0 A) (hV : VM mode A) : ∃ r, m_X12_tries rows = some r ∧ RM r 786 A ∧ ∀ j, (j < 786 ∨ 1572 ≤ j) → r j = rows j := by
  obtain ⟨r1, a1, a2, a3⟩ := r_copies (rows := rows) (a := 0) (b := 786) (n := 786) (by decide) (by decide) (by decide) (by decide)
  have a1 : m_X12_copies rows 0 786 786 = some r1 := a1
  refine ⟨r1, by rw [m_X12_tries, bd_ok a1], RM_move hV (fun j hj => a2 j hj) hR, fun j hj => a3 j (by omega)⟩
