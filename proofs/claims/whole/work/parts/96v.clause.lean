/-! ===== what a text is read by ===== -/
theorem fidx_ge {t : Nat → Nat} {s e : Nat} : ∀ (Ws : List (List Nat)) (k x : Nat), fidx t s e k Ws = some x → k ≤ x ∧ x < k + Ws.length := by
  intro Ws
  induction Ws with
  | nil => intro k x h; cases h
  | cons W Ws ih =>
    intro k x h
    rw [fidx] at h
    rw [List.length_cons]
    by_cases c : mtA t s e W = true
    · rw [if_pos c] at h; cases h; omega
    · rw [if_neg c] at h
      have := ih (k + 1) x h
      omega
theorem fidx_app {t : Nat → Nat} {s e : Nat} {B : List (List Nat)} (hB : ∀ W ∈ B, mtA t s e W = false) : ∀ (A : List (List Nat)) (k : Nat), fidx t s e k (A ++ B) = fidx t s e k A := by
  intro A
  induction A with
  | nil =>
    intro k
    induction B generalizing k with
    | nil => rfl
    | cons W B ih =>
      have h1 := hB W List.mem_cons_self
      show (if mtA t s e W = true then some k else fidx t s e (k + 1) B) = none
      rw [h1, if_neg (by decide)]
      exact ih (fun W hW => hB W (List.mem_cons_of_mem _ hW)) (k + 1)
  | cons W A ih => intro k; rw [List.cons_append, fidx, fidx, ih]
theorem allEq_get {t : Nat → Nat} : ∀ (W : List Nat) (s i : Nat), allEq t s W = true → i < W.length → W[i]? = some (t (s + i)) := by
  intro W
  induction W with
  | nil => intro s i _ h; exact absurd h (by show ¬ i < 0; omega)
  | cons b r ih =>
    intro s i h hi
    rw [allEq, Bool.and_eq_true, decide_eq_true_eq] at h
    cases i with
    | zero => rw [List.getElem?_cons_zero, ← h.1]; rfl
    | succ i =>
      rw [List.getElem?_cons_succ, ih (s + 1) i h.2 (by rw [List.length_cons] at hi; omega), show s + 1 + i = s + (i + 1) by omega]
theorem mt_uniq {t : Nat → Nat} {s e : Nat} {W V : List Nat} (h1 : mtA t s e W = true) (h2 : mtA t s e V = true) : W = V := by
  unfold mtA at h1 h2
  rw [Bool.and_eq_true, decide_eq_true_eq] at h1 h2
  have hl : W.length = V.length := by omega
  apply List.ext_getElem?
  intro i
  by_cases c : i < W.length
  · rw [allEq_get W s i h1.2 c, allEq_get V s i h2.2 (by omega)]
  · rw [List.getElem?_eq_none (by omega), List.getElem?_eq_none (by omega)]
theorem c_str : ∀ w, w < 12 → slenV w = nI (WD.getD w []).length ∧ (wB w).length = (WD.getD w []).length ∧ ∀ i, i < (WD.getD w []).length → scharV w i = nI ((WD.getD w []).getD i 0) := by decide +kernel
theorem c_isL_loop {t : Nat → Nat} {N s w : Nat} {a F : Nat → Int32} (hX : TX t N a) (hw : w < 12) (h6 : F 6 = nI s) (hs : s + (WD.getD w []).length ≤ N) : ∀ (d i fuel : Nat), i + d = (WD.getD w []).length → d < fuel → m_X6_isLetters_w28 F a 700 w fuel (nI i) = some (nI (bN (allEq t (s + i) ((WD.getD w []).drop i)))) := by
  obtain ⟨q1, q2, q3⟩ := c_str w hw
  obtain ⟨x1, x2, x3⟩ := hX
  intro d
  induction d with
  | zero =>
    intro i fuel hi hf
    obtain ⟨fuel, rfl⟩ : ∃ d, fuel = d + 1 := ⟨fuel - 1, by omega⟩
    rw [m_X6_isLetters_w28, q1, if_pos (nI_le (by omega) (by omega)), List.drop_eq_nil_of_le (by omega)]; rfl
  | succ d ih =>
    intro i fuel hi hf
    obtain ⟨fuel, rfl⟩ : ∃ d, fuel = d + 1 := ⟨fuel - 1, by omega⟩
    obtain ⟨b, b1, b2, b3⟩ := drop_get (L := WD.getD w []) (i := i) (by omega)
    have hb : (WD.getD w []).getD i 0 = b := by rw [List.getD_eq_getElem?_getD, b1]; rfl
    have hb9 : b < 256 := by
      have : ∀ W ∈ WD, ∀ b ∈ W, b < 256 := by decide
      refine this (WD.getD w []) ?_ b b2
      rw [List.getD_eq_getElem?_getD, List.getElem?_eq_getElem (show w < WD.length from by show w < 19; omega)]
      exact List.getElem_mem _
    have er : ∀ {k : Int32 → Option Int32}, rdc w (nI i) k = k (nI b) := fun {k} => by
      unfold rdc
      rw [nI_clamp (by omega), if_neg (by rw [q2]; exact fun h => h.elim (nI_nlt (b := 0) (by omega) (by omega)) (fun h => by omega)), q3 i (by omega), hb]
    rw [m_X6_isLetters_w28, q1, if_neg (nI_ge (by omega) (by omega)), h6, nI_add, rd_nI (by omega) (by decide), x2 (s + i) (by omega), er, b3, allEq]
    have ht := x3 (s + i)
    by_cases c : t (s + i) = b
    · rw [if_pos (by rw [c]), decide_eq_true c, Bool.true_and, nm, show nI i + 1 = nI (i + 1) from nI_1 _, show s + i + 1 = s + (i + 1) by omega]
      exact ih (i + 1) fuel (by omega) (by omega)
    · rw [if_neg (fun z => c (nI_inj (by omega) (by omega) z)), decide_eq_false c, Bool.false_and]; rfl
def isW (t : Nat → Nat) (k : TK) (w : Nat) : Bool := decide (k.1 = 1) && mtA t k.2.1 k.2.2 (WD.getD w [])
theorem c_isLetters {t : Nat → Nat} {N w : Nat} {k : TK} {a F : Nat → Int32} (hX : TX t N a) (hk : okT t N k) (hC : CT F k) (hw : w < 12) : m_X6_isLetters F a 700 w = some (nI (bN (isW t k w))) := by
  obtain ⟨q1, q2, q3⟩ := c_str w hw
  obtain ⟨k1, k2, k3, k4, k5⟩ := hk
  have hN := hX.1
  unfold isW mtA
  rw [m_X6_isLetters, hC.2.1]
  by_cases c : k.1 = 1
  · rw [if_pos (show nI k.1 = 1 by rw [c]; rfl), decide_eq_true c, Bool.true_and, hC.1, hC.2.2, nI_subE k1, q1]
    have hl : (WD.getD w []).length ≤ 100 := by
      have : ∀ w, w < 12 → (WD.getD w []).length ≤ 100 := by decide
      exact this w hw
    by_cases d : k.2.2 = k.2.1 + (WD.getD w []).length
    · rw [if_pos (by rw [show k.2.2 - k.2.1 = (WD.getD w []).length by omega]), decide_eq_true d, Bool.true_and]
      exact c_isL_loop hX hw hC.2.2 (by omega) (WD.getD w []).length 0 fuelN (by omega) (by rw [fuel_is]; omega)
    · rw [if_neg (fun e => by have := nI_inj (by omega) (by omega) e; omega), decide_eq_false d, Bool.false_and]; rfl
  · rw [if_neg (show ¬ nI k.1 = 1 from fun e => c (nI_inj (b := 1) (by omega) (by decide) e)), decide_eq_false c, Bool.false_and]; rfl
def opN (t : Nat → Nat) (k : TK) : Option Nat := match wdA t k with
  | none => none
  | some x => if 7 ≤ x ∧ x ≤ 11 then some (x - 7) else none
theorem c_opTold {t : Nat → Nat} {N : Nat} {k : TK} {a F : Nat → Int32} (hX : TX t N a) (hk : okT t N k) (hC : CT F k) : m_X6_opTold F a 700 = some (encL (opN t k)) := by
  rw [m_X6_opTold, bd_ok (c_isLetters hX hk hC (w := 7) (by decide)), bd_ok (c_isLetters hX hk hC (w := 8) (by decide)), bd_ok (c_isLetters hX hk hC (w := 9) (by decide)), bd_ok (c_isLetters hX hk hC (w := 10) (by decide)), bd_ok (c_isLetters hX hk hC (w := 11) (by decide))]
  unfold opN wdA isW
  have b0 : nI (bN false) = 0 := rfl
  have b1 : ¬ nI (bN true) = 0 := by decide
  by_cases c : k.1 = 1
  · rw [if_pos c, decide_eq_true c, Bool.true_and, Bool.true_and, Bool.true_and, Bool.true_and, Bool.true_and]
    by_cases u : ∃ W ∈ WD.take 7, mtA t k.2.1 k.2.2 W = true
    · obtain ⟨W, w1, w2⟩ := u
      have hn : ∀ w, 7 ≤ w → w < 12 → mtA t k.2.1 k.2.2 (WD.getD w []) = false := by
        intro w h1 h2
        rw [Bool.eq_false_iff]
        intro e
        have := mt_uniq w2 e
        have d : ∀ W ∈ WD.take 7, ∀ w, w < 12 → 7 ≤ w → ¬ W = WD.getD w [] := by decide
        exact d W w1 w h2 h1 this
      have hx : ∃ x, x < 7 ∧ fidx t k.2.1 k.2.2 0 WD = some x := by
        have gen : ∀ (A B : List (List Nat)) (k0 : Nat), (∃ W ∈ A, mtA t k.2.1 k.2.2 W = true) → ∃ x, x < k0 + A.length ∧ fidx t k.2.1 k.2.2 k0 (A ++ B) = some x := by
          intro A B
          induction A with
          | nil => intro k0 ⟨W, h, _⟩; cases h
          | cons V A ih =>
            intro k0 ⟨W, h, hm⟩
            rw [List.cons_append, fidx, List.length_cons]
            by_cases z : mtA t k.2.1 k.2.2 V = true
            · rw [if_pos z]; exact ⟨k0, by omega, rfl⟩
            · rw [if_neg z]
              rcases List.mem_cons.mp h with h | h
              · rw [h] at hm; exact absurd hm z
              · obtain ⟨x, x1, x2⟩ := ih (k0 + 1) ⟨W, h, hm⟩
                exact ⟨x, by omega, x2⟩
        obtain ⟨x, x1, x2⟩ := gen (WD.take 7) (WD.drop 7) 0 ⟨W, w1, w2⟩
        rw [List.take_append_drop] at x2
        exact ⟨x, x1, x2⟩
      obtain ⟨x, x1, x2⟩ := hx
      rw [hn 7 (by omega) (by omega), hn 8 (by omega) (by omega), hn 9 (by omega) (by omega), hn 10 (by omega) (by omega), hn 11 (by omega) (by omega), if_pos b0, if_pos b0, if_pos b0, if_pos b0, if_pos b0, x2]
      dsimp only
      rw [if_neg (by omega)]; rfl
    · have nm7 : ∀ (A B : List (List Nat)) (k0 : Nat), (∀ W ∈ A, ¬ mtA t k.2.1 k.2.2 W = true) → fidx t k.2.1 k.2.2 k0 (A ++ B) = fidx t k.2.1 k.2.2 (k0 + A.length) B := by
        intro A B
        induction A with
        | nil => intro k0 _; rfl
        | cons V A ih =>
          intro k0 h
          rw [List.cons_append, fidx, if_neg (h V List.mem_cons_self), ih (k0 + 1) (fun W hW => h W (List.mem_cons_of_mem _ hW)), List.length_cons, show k0 + 1 + A.length = k0 + (A.length + 1) by omega]
      have e7 : fidx t k.2.1 k.2.2 0 WD = fidx t k.2.1 k.2.2 7 (WD.drop 7) := by
        have := nm7 (WD.take 7) (WD.drop 7) 0 (fun W hW e => u ⟨W, hW, e⟩)
        rw [List.take_append_drop] at this
        exact this
      rw [e7]
      show _ = some (encL (match fidx t k.2.1 k.2.2 7 (WD.getD 7 [] :: WD.getD 8 [] :: WD.getD 9 [] :: WD.getD 10 [] :: WD.getD 11 [] :: WD.drop 12) with | none => none | some x => if 7 ≤ x ∧ x ≤ 11 then some (x - 7) else none))
      rw [fidx]
      cases m7 : mtA t k.2.1 k.2.2 (WD.getD 7 []) with
      | true => rw [if_neg b1, if_pos rfl]; rfl
      | false =>
        rw [if_pos b0, if_neg (show ¬ (false = true) by decide), fidx]
        cases m8 : mtA t k.2.1 k.2.2 (WD.getD 8 []) with
        | true => rw [if_neg b1, if_pos rfl]; rfl
        | false =>
          rw [if_pos b0, if_neg (show ¬ (false = true) by decide), fidx]
          cases m9 : mtA t k.2.1 k.2.2 (WD.getD 9 []) with
          | true => rw [if_neg b1, if_pos rfl]; rfl
          | false =>
            rw [if_pos b0, if_neg (show ¬ (false = true) by decide), fidx]
            cases m10 : mtA t k.2.1 k.2.2 (WD.getD 10 []) with
            | true => rw [if_neg b1, if_pos rfl]; rfl
            | false =>
              rw [if_pos b0, if_neg (show ¬ (false = true) by decide), fidx]
              cases m11 : mtA t k.2.1 k.2.2 (WD.getD 11 []) with
              | true => rw [if_neg b1, if_pos rfl]; rfl
              | false =>
                rw [if_pos b0, if_neg (show ¬ (false = true) by decide)]
                cases e : fidx t k.2.1 k.2.2 (7 + 1 + 1 + 1 + 1 + 1) (WD.drop 12) with
                | none => rfl
                | some x =>
                  have := (fidx_ge _ _ _ e).1
                  dsimp only
                  rw [if_neg (by omega)]; rfl
  · rw [if_neg c, decide_eq_false c, Bool.false_and, Bool.false_and, Bool.false_and, Bool.false_and, Bool.false_and, if_pos b0, if_pos b0, if_pos b0, if_pos b0, if_pos b0]; rfl
theorem site_is {t : Nat → Nat} {N : Nat} {k : TK} (hk : okT t N k) (c : k.1 = 1) : (k.2.2 = k.2.1 + 1 ∧ t k.2.1 ≤ 103 → 97 ≤ t k.2.1 ∧ wdA t k = some (12 + (t k.2.1 - 97))) ∧ (¬ (k.2.2 = k.2.1 + 1 ∧ t k.2.1 ≤ 103) → ∀ x, wdA t k = some x → x < 12) := by
  have hkd : 97 ≤ t k.2.1 ∧ t k.2.1 ≤ 122 := by
    rcases hk.2.2.2.1 with h | h
    · omega
    · exact kd_1.mp (by rw [← h.2]; exact c)
  have hs : WD = WD.take 12 ++ WD.drop 12 := (List.take_append_drop 12 WD).symm
  unfold wdA
  rw [if_pos c]
  refine ⟨fun h => ⟨hkd.1, ?_⟩, fun h x hx => ?_⟩
  · obtain ⟨h1, h2⟩ := h
    have nl : ∀ (A B : List (List Nat)) (k0 : Nat), (∀ W ∈ A, ¬ W.length = 1) → fidx t k.2.1 k.2.2 k0 (A ++ B) = fidx t k.2.1 k.2.2 (k0 + A.length) B := by
      intro A B
      induction A with
      | nil => intro k0 _; rfl
      | cons V A ih =>
        intro k0 h
        have hv := h V List.mem_cons_self
        rw [List.cons_append, fidx, if_neg (by unfold mtA; rw [decide_eq_false (by omega), Bool.false_and]; decide), ih (k0 + 1) (fun W hW => h W (List.mem_cons_of_mem _ hW)), List.length_cons, show k0 + 1 + A.length = k0 + (A.length + 1) by omega]
    rw [hs, nl (WD.take 12) (WD.drop 12) 0 (by decide)]
    show fidx t k.2.1 k.2.2 12 [[97], [98], [99], [100], [101], [102], [103]] = _
    have one : ∀ (b k0 : Nat) (Ws : List (List Nat)), fidx t k.2.1 k.2.2 k0 ([b] :: Ws) = if t k.2.1 = b then some k0 else fidx t k.2.1 k.2.2 (k0 + 1) Ws := by
      intro b k0 Ws
      rw [fidx]
      unfold mtA
      rw [decide_eq_true (show k.2.2 = k.2.1 + [b].length from h1), Bool.true_and, allEq, allEq, Bool.and_true]
      by_cases z : t k.2.1 = b
      · rw [decide_eq_true z, if_pos rfl, if_pos z]
      · rw [decide_eq_false z, if_neg (by decide), if_neg z]
    rw [one, one, one, one, one, one, one]
    by_cases z1 : t k.2.1 = 97
    · rw [if_pos z1, z1]
    · rw [if_neg z1]
      by_cases z2 : t k.2.1 = 98
      · rw [if_pos z2, z2]
      · rw [if_neg z2]
        by_cases z3 : t k.2.1 = 99
        · rw [if_pos z3, z3]
        · rw [if_neg z3]
          by_cases z4 : t k.2.1 = 100
          · rw [if_pos z4, z4]
          · rw [if_neg z4]
            by_cases z5 : t k.2.1 = 101
            · rw [if_pos z5, z5]
            · rw [if_neg z5]
              by_cases z6 : t k.2.1 = 102
              · rw [if_pos z6, z6]
              · rw [if_neg z6, if_pos (show t k.2.1 = 103 by omega), show t k.2.1 = 103 by omega]
  · rw [hs, fidx_app (B := WD.drop 12) (fun W hW => ?_) (WD.take 12) 0] at hx
    · have := (fidx_ge _ _ _ hx).2
      have hl : (WD.take 12).length = 12 := by decide
      omega
    · rw [Bool.eq_false_iff]
      intro e
      unfold mtA at e
      rw [Bool.and_eq_true, decide_eq_true_eq] at e
      have d1 : ∀ W ∈ WD.drop 12, W.length = 1 := by decide
      have d2 : ∀ W ∈ WD.drop 12, ∀ b ∈ W, b ≤ 103 := by decide
      have hl := d1 W hW
      have := allEq_get W k.2.1 0 e.2 (by omega)
      have := d2 W hW _ (List.mem_of_getElem? this)
      rw [Nat.add_zero] at this
      exact h ⟨by omega, this⟩
/-! signs, numbers, faults -/
theorem srA_2 {t : Nat → Nat} {N : Nat} {k : TK} (hk : okT t N k) : (nI (srA t k) = 2 ↔ k.1 = 2) ∧ (nI (srA t k) = 1 ↔ k.1 = 1) ∧ (nI (srA t k) = 0 ↔ k.1 = 0) ∧ (nI (srA t k) = 3 ↔ k.1 = 3 ∧ (t k.2.1 = 59 ∨ t k.2.1 = 44)) := by
  have h3 := hk.2.2.1
  unfold srA
  by_cases c : k.1 = 3
  · rw [if_pos c, c]
    by_cases d : t k.2.1 = 59 ∨ t k.2.1 = 44
    · rw [if_pos d]; exact ⟨by decide, by decide, by decide, ⟨fun _ => ⟨rfl, d⟩, fun _ => rfl⟩⟩
    · rw [if_neg d]; exact ⟨by decide, by decide, by decide, ⟨fun e => absurd e (by decide), fun e => absurd e.2 d⟩⟩
  · rw [if_neg c]
    have inj : ∀ m, m < 5 → (nI k.1 = nI m ↔ k.1 = m) := fun m hm => ⟨fun e => nI_inj (by omega) (by omega) e, fun e => by rw [e]⟩
    exact ⟨inj 2 (by decide), inj 1 (by decide), inj 0 (by decide), ⟨fun e => absurd ((inj 3 (by decide)).mp e) c, fun e => absurd e.1 c⟩⟩
def sgB (t : Nat → Nat) (k : TK) (b : Nat) : Bool := decide (k.1 = 3) && decide (t k.2.1 = b)
theorem c_isSign {t : Nat → Nat} {N b : Nat} {k : TK} {a F : Nat → Int32} (hX : TX t N a) (hk : okT t N k) (hC : CT F k) (hb : b < 256) : m_X6_isSign F a 700 (nI b) = some (nI (bN (sgB t k b))) := by
  have hN := hX.1
  have h3 := hk.2.2.1
  unfold sgB
  rw [m_X6_isSign, hC.2.1]
  by_cases c : k.1 = 3
  · have hs : k.2.1 < N := by
      rcases hk.2.2.2.1 with h | h
      · omega
      · have := hk.2.1; omega
    have ht := hX.2.2 k.2.1
    rw [if_pos (show nI k.1 = 3 by rw [c]; rfl), hC.2.2, rd_nI (by omega) (by decide), hX.2.1 _ hs, decide_eq_true c, Bool.true_and]
    by_cases d : t k.2.1 = b
    · rw [if_pos (by rw [d]), decide_eq_true d]; rfl
    · rw [if_neg (fun z => d (nI_inj (by omega) (by omega) z)), decide_eq_false d]; rfl
  · rw [if_neg (show ¬ nI k.1 = 3 from fun e => c (nI_inj (b := 3) (by omega) (by decide) e)), decide_eq_false c, Bool.false_and]; rfl
theorem r_isSign {t : Nat → Nat} {N b : Nat} {k : TK} {F : Nat → Int32} (ht : ∀ j, t j < 256) (hk : okT t N k) (hR : RT F t k) (hb : b = 59 ∨ b = 44) : m_X12_isSign F (nI b) = some (nI (bN (sgB t k b))) := by
  obtain ⟨_, _, r3, r4, _⟩ := hR
  have s3 := (srA_2 hk).2.2.2
  have ht := ht k.2.1
  unfold sgB
  rw [m_X12_isSign, r3, r4]
  by_cases c : k.1 = 3 ∧ (t k.2.1 = 59 ∨ t k.2.1 = 44)
  · rw [if_pos (s3.mpr c), show vlA t k = t k.2.1 by unfold vlA; rw [if_neg (by omega), if_pos c.1], decide_eq_true c.1, Bool.true_and]
    by_cases d : t k.2.1 = b
    · rw [if_pos (by rw [d]), decide_eq_true d]; rfl
    · rw [if_neg (fun z => d (nI_inj (by omega) (by omega) z)), decide_eq_false d]; rfl
  · rw [if_neg (fun e => c (s3.mp e))]
    by_cases d : k.1 = 3
    · rw [decide_eq_true d, Bool.true_and, decide_eq_false (fun e => c ⟨d, by omega⟩)]; rfl
    · rw [decide_eq_false d, Bool.false_and]; rfl
theorem w_ok {F : Nat → Int32} {c : Int32} (h : F 38 = 0) : m_X12_wants F 1 c = some (1, F) := by
  rw [m_X12_wants, if_pos h, if_neg (by decide), m_X12_wants_j24, if_pos h]
theorem w_no {F : Nat → Int32} {c : Int32} (h : F 38 = 0) (hc : ¬ c = 0) : m_X12_wants F 0 c = some (0, upd (upd F 38 c) 15 (F 33)) := by
  have e33 : upd F 38 c 33 = F 33 := upd_ne (by decide)
  rw [m_X12_wants, if_pos h, if_pos rfl, nm, nm, m_X12_wants_j24, upd_ne (i := 38) (by decide), upd_eq, if_neg hc, e33]
def jnA (t : Nat → Nat) (k : TK) (lo hi : Nat) : Nat := if k.1 = 2 then (if lo ≤ vlA t k ∧ vlA t k ≤ hi then 0 else 2) else 1
theorem dv_le {t : Nat → Nat} {s n : Nat} (h : ∀ i, s ≤ i → i < s + n → 48 ≤ t i ∧ t i ≤ 57) (hn : n ≤ 3) : ∀ j, j ≤ n → dvA t s j ≤ 999 ∧ (j ≤ 2 → dvA t s j ≤ 99) ∧ (j ≤ 1 → dvA t s j ≤ 9) ∧ (j ≤ 0 → dvA t s j ≤ 0) := by
  intro j
  induction j with
  | zero => intro _; exact ⟨Nat.zero_le _, fun _ => Nat.zero_le _, fun _ => Nat.zero_le _, fun _ => Nat.le_refl _⟩
  | succ j ih =>
    intro hj
    obtain ⟨a1, a2, a3, a4⟩ := ih (by omega)
    have hd := h (s + j) (by omega) (by omega)
    rw [dvA]
    refine ⟨?_, fun h => ?_, fun h => ?_, fun h => absurd h (by omega)⟩
    · have := a2 (by omega); omega
    · have := a3 (by omega); omega
    · have := a4 (by omega); omega
theorem vl_le {t : Nat → Nat} {N : Nat} {k : TK} (hk : okT t N k) (c : k.1 = 2) : vlA t k ≤ 9999 ∧ (¬ k.2.2 - k.2.1 ≤ 3 → vlA t k = 9999) ∧ (k.2.2 - k.2.1 ≤ 3 → vlA t k = dvA t k.2.1 (k.2.2 - k.2.1)) := by
  unfold vlA vdA
  rw [if_pos c]
  by_cases d : k.2.2 - k.2.1 ≤ 3
  · rw [if_pos d]
    have := (dv_le (t := t) (s := k.2.1) (n := k.2.2 - k.2.1) (fun i a b => hk.2.2.2.2 c i a (by have := hk.1; omega)) d _ (Nat.le_refl _)).1
    exact ⟨by omega, fun e => absurd d e, fun _ => rfl⟩
  · rw [if_neg d]; exact ⟨Nat.le_refl _, fun _ => rfl, fun e => absurd e d⟩
theorem c_judge {t : Nat → Nat} {N lo hi : Nat} {k : TK} {a F : Nat → Int32} (hX : TX t N a) (hk : okT t N k) (hC : CT F k) (hlo : lo < 1000) (hhi : hi ≤ 999) :
    ∃ F', m_X6_judgeNumber F a 700 (nI lo) (nI hi) = some (nI (jnA t k lo hi), F') ∧ (jnA t k lo hi = 0 → F' 7 = nI (vlA t k)) ∧ ∀ j, ¬ j = 7 → F' j = F j := by
  have hN := hX.1
  have h3 := hk.2.2.1
  have hke := hk.2.1
  unfold jnA
  rw [m_X6_judgeNumber, hC.2.1]
  by_cases c : k.1 = 2
  · obtain ⟨v1, v2, v3⟩ := vl_le hk c
    rw [if_pos (show nI k.1 = 2 by rw [c]; rfl), hC.1, hC.2.2, nI_subE hk.1, if_pos c]
    by_cases d : k.2.2 - k.2.1 ≤ 3
    · rw [if_pos (show nI (k.2.2 - k.2.1) ≤ 3 from nI_le (b := 3) d (by decide)), nm, nm, upd_ne (i := 6) (by decide), hC.2.2]
      have dg := fun i a b => hk.2.2.2.2 c i a b
      have dl := dv_le (t := t) (s := k.2.1) (n := k.2.2 - k.2.1) (fun i a b => dg i a (by omega)) d
      have lp : ∀ (m x fuel : Nat) (G : Nat → Int32), x + m = k.2.2 → k.2.1 ≤ x → m < fuel → G 4 = nI k.2.2 → G 7 = nI (dvA t k.2.1 (x - k.2.1)) → ∃ G', m_X6_judgeNumber_w35 a 700 (nI lo) (nI hi) (m_X6_judgeNumber_j70 a 700 (nI lo) (nI hi)) fuel (nI x) G = m_X6_judgeNumber_j70 a 700 (nI lo) (nI hi) G' ∧ G' 7 = nI (dvA t k.2.1 (k.2.2 - k.2.1)) ∧ ∀ j, ¬ j = 7 → G' j = G j := by
        intro m
        induction m with
        | zero =>
          intro x fuel G hx hs hf g4 g7
          obtain ⟨fuel, rfl⟩ : ∃ d, fuel = d + 1 := ⟨fuel - 1, by omega⟩
          rw [m_X6_judgeNumber_w35, g4, if_pos (nI_le (by omega) (by omega))]
          exact ⟨G, rfl, by rw [g7, show x = k.2.2 by omega], fun _ _ => rfl⟩
        | succ m ih =>
          intro x fuel G hx hs hf g4 g7
          obtain ⟨fuel, rfl⟩ : ∃ d, fuel = d + 1 := ⟨fuel - 1, by omega⟩
          have hd := dg x hs (by omega)
          have := (dl (x - k.2.1) (by omega)).1
          rw [m_X6_judgeNumber_w35, g4, if_neg (nI_ge (by omega) (by omega)), rd_nI (by omega) (by decide), hX.2.1 x (by omega), nm, nm, g7, show nI x + 1 = nI (x + 1) from nI_1 _]
          have e : nI (dvA t k.2.1 (x - k.2.1)) * 10 + nI (t x) - 48 = nI (dvA t k.2.1 (x + 1 - k.2.1)) := by
            rw [show (10 : Int32) = nI 10 from rfl, show (48 : Int32) = nI 48 from rfl, nI_mulE, nI_add, nI_subE (by omega), show x + 1 - k.2.1 = (x - k.2.1) + 1 by omega, dvA, show k.2.1 + (x - k.2.1) = x by omega]
            congr 1; omega
          rw [e]
          obtain ⟨G', z1, z2, z3⟩ := ih (x + 1) fuel (upd G 7 (nI (dvA t k.2.1 (x + 1 - k.2.1)))) (by omega) (by omega) (by omega) ((upd_ne (by decide)).trans g4) upd_eq
          exact ⟨G', z1, z2, fun j hj => (z3 j hj).trans (upd_ne hj)⟩
      obtain ⟨G', z1, z2, z3⟩ := lp (k.2.2 - k.2.1) k.2.1 fuelN (upd F 7 0) (by have := hk.1; omega) (Nat.le_refl _) (by rw [fuel_is]; omega) ((upd_ne (by decide)).trans hC.1) (by rw [upd_eq, Nat.sub_self]; rfl)
      rw [z1, m_X6_judgeNumber_j70, z2, v3 d]
      have h9 := (dl _ (Nat.le_refl _)).1
      have fr : ∀ j, ¬ j = 7 → G' j = F j := fun j hj => (z3 j hj).trans (upd_ne hj)
      by_cases q1 : dvA t k.2.1 (k.2.2 - k.2.1) < lo
      · rw [if_pos (nI_lt q1 (by omega)), if_neg (by omega)]
        exact ⟨G', rfl, fun e => (by cases e), fr⟩
      · rw [if_neg (nI_nlt (by omega) (by omega))]
        by_cases q2 : dvA t k.2.1 (k.2.2 - k.2.1) ≤ hi
        · rw [if_pos (nI_le q2 (by omega)), if_pos ⟨by omega, q2⟩]
          exact ⟨G', rfl, fun _ => z2, fr⟩
        · rw [if_neg (nI_ge (by omega) (by omega)), if_neg (fun e => q2 e.2)]
          exact ⟨G', rfl, fun e => (by cases e), fr⟩
    · rw [if_neg (show ¬ nI (k.2.2 - k.2.1) ≤ 3 from nI_ge (a := 3) (by omega) (by omega)), if_neg (fun e => by have := v2 d; omega)]
      exact ⟨F, rfl, fun e => (by cases e), fun _ _ => rfl⟩
  · rw [if_neg (show ¬ nI k.1 = 2 from fun e => c (nI_inj (b := 2) (by omega) (by decide) e)), if_neg c]
    exact ⟨F, rfl, fun e => (by cases e), fun _ _ => rfl⟩
/-- the reference's fields that a reader leaves -/
def frH (F' F : Nat → Int32) : Prop := ∀ j, ¬ (j = 32 ∨ j = 33 ∨ j = 35 ∨ j = 36 ∨ j = 37 ∨ j = 38 ∨ j = 15) → F' j = F j
theorem frH_tr {F G H : Nat → Int32} (h1 : frH F G) (h2 : frH G H) : frH F H := fun j a => (h1 j a).trans (h2 j a)
theorem frH_G {F G : Nat → Int32} (h : frG F G) : frH F G := fun j a => h j (by omega)
def BAD (F : Nat → Int32) (c s : Nat) : Prop := F 38 = nI c ∧ F 15 = nI s
theorem bad_i {F : Nat → Int32} {c s : Nat} (h33 : F 33 = nI s) : BAD (upd (upd F 38 (nI c)) 15 (F 33)) c s ∧ frH (upd (upd F 38 (nI c)) 15 (F 33)) F := ⟨⟨by rw [upd_ne (by decide), upd_eq], by rw [upd_eq, h33]⟩, fun j hj => by rw [upd_ne (by omega), upd_ne (by omega)]⟩
theorem r_num {t : Nat → Nat} {N lo hi : Nat} {k : TK} {tp F : Nat → Int32} (hX : TX t N tp) (hk : okT t N k) (hR : RT F t k) (h38 : F 38 = 0) (h34 : F 34 = nI N) (hlo : lo < 1000) (hhi : hi ≤ 999) :
    (jnA t k lo hi = 0 → ∃ F', m_X12_numberHere F tp (nI lo) (nI hi) = some (nI (vlA t k), F') ∧ RT F' t (tkA t N k.2.2) ∧ F' 38 = 0 ∧ frH F' F) ∧ (¬ jnA t k lo hi = 0 → ∃ F', m_X12_numberHere F tp (nI lo) (nI hi) = some (nI lo, F') ∧ BAD F' (jnA t k lo hi) k.2.1 ∧ frH F' F) := by
  obtain ⟨r1, r2, r3, r4, r5⟩ := id hR
  have s2 := (srA_2 hk).1
  unfold jnA
  rw [m_X12_numberHere, r3]
  by_cases c : k.1 = 2
  · obtain ⟨v1, v2, v3⟩ := vl_le hk c
    rw [if_pos (s2.mpr c), m_X12_numberHere_j14, bd_ok (w_ok h38), if_pos c]
    dsimp only
    rw [if_neg (show ¬ (1 : Int32) = 0 by decide), r4, bd_ok (r_within (by omega) (by omega) (by omega))]
    by_cases d : lo ≤ vlA t k ∧ vlA t k ≤ hi
    · rw [if_pos d, if_pos d]
      refine ⟨fun _ => ?_, fun e => absurd rfl e⟩
      obtain ⟨F', g1, g2, g3⟩ := r_go hX hk.2.1 h34 r1
      rw [show nI 1 = 1 from rfl, bd_ok (w_ok h38)]
      dsimp only
      rw [if_neg (show ¬ (1 : Int32) = 0 by decide), nm, bd_ok g1, r4]
      exact ⟨F', rfl, g2, (g3 38 (by decide)).trans h38, frH_G g3⟩
    · rw [if_neg d, if_neg d]
      refine ⟨fun e => (by cases e), fun _ => ?_⟩
      rw [show nI 0 = 0 from rfl, bd_ok (w_no h38 (by decide))]
      dsimp only
      rw [if_pos rfl]
      exact ⟨_, rfl, bad_i (c := 2) r2⟩
  · rw [if_neg (fun e => c (s2.mp e)), m_X12_numberHere_j14, bd_ok (w_no h38 (by decide)), if_neg c]
    dsimp only
    rw [if_pos rfl]
    exact ⟨fun e => (by cases e), fun _ => ⟨_, rfl, bad_i (c := 1) r2⟩⟩
def jbA (t : Nat → Nat) (f : Nat → Nat) (k : TK) : Nat := if jnA t k 0 9 = 0 then (if f (24 + 4 * vlA t k) = 0 then 0 else 3) else jnA t k 0 9
theorem jn_v {t : Nat → Nat} {k : TK} {lo hi : Nat} (h : jnA t k lo hi = 0) : lo ≤ vlA t k ∧ vlA t k ≤ hi ∧ k.1 = 2 := by
  unfold jnA at h
  by_cases c : k.1 = 2
  · rw [if_pos c] at h
    by_cases d : lo ≤ vlA t k ∧ vlA t k ≤ hi
    · exact ⟨d.1, d.2, c⟩
    · rw [if_neg d] at h; cases h
  · rw [if_neg c] at h; cases h
theorem jn_le {t : Nat → Nat} {k : TK} {lo hi : Nat} : jnA t k lo hi ≤ 2 := by unfold jnA; split; split <;> omega; omega
theorem jb_le {t f : Nat → Nat} {k : TK} : jbA t f k ≤ 3 := by unfold jbA; have := jn_le (t := t) (k := k) (lo := 0) (hi := 9); split; split <;> omega; omega
theorem jb_v {t f : Nat → Nat} {k : TK} (h : jbA t f k = 0) : vlA t k ≤ 9 ∧ f (24 + 4 * vlA t k) = 0 ∧ k.1 = 2 := by
  unfold jbA at h
  by_cases c : jnA t k 0 9 = 0
  · obtain ⟨_, a, b⟩ := jn_v c
    rw [if_pos c] at h
    by_cases d : f (24 + 4 * vlA t k) = 0
    · exact ⟨a, d, b⟩
    · rw [if_neg d] at h; cases h
  · rw [if_neg c] at h; exact absurd h c
theorem c_addr {v : Nat} : m_X11_blockAddress (nI v) = some (nI (24 + 4 * v)) := by
  rw [m_X11_blockAddress, show (4 : Int32) = nI 4 from rfl, show (24 : Int32) = nI 24 from rfl, nI_mulE, nI_add, Nat.mul_comm]
theorem r_block {v : Nat} : m_X12_block (nI v) = some (nI (24 + 4 * v)) := by
  rw [m_X12_block, show (4 : Int32) = nI 4 from rfl, show (24 : Int32) = nI 24 from rfl, nI_mulE, nI_add]
theorem c_judgeBlock {t f : Nat → Nat} {N : Nat} {k : TK} {a F md : Nat → Int32} (hX : TX t N a) (hk : okT t N k) (hC : CT F k) (hm : ∀ w, w < 64 → md w = nI (f w)) (hf : ∀ w, w < 64 → f w ≤ 99) :
    ∃ F' md', m_X6_judgeBlock F md a 700 = some (nI (jbA t f k), F', md') ∧ (jbA t f k = 0 → F' 7 = nI (vlA t k) ∧ md' = upd md (24 + 4 * vlA t k) 1) ∧ ∀ j, ¬ j = 7 → F' j = F j := by
  obtain ⟨F', z1, z2, z3⟩ := c_judge (lo := 0) (hi := 9) hX hk hC (by decide) (by decide)
  have z1 : m_X6_judgeNumber F a 700 0 9 = some (nI (jnA t k 0 9), F') := z1
  have hle := jn_le (t := t) (k := k) (lo := 0) (hi := 9)
  unfold jbA
  rw [m_X6_judgeBlock, bd_ok z1]
  dsimp only
  by_cases c : jnA t k 0 9 = 0
  · obtain ⟨_, v, _⟩ := jn_v c
    have h9 := hf (24 + 4 * vlA t k) (by omega)
    rw [if_pos c, if_pos (show nI (jnA t k 0 9) = 0 by rw [c]; rfl), z2 c, bd_ok c_addr, rd_nI (by omega) (by decide), hm _ (by omega)]
    by_cases d : f (24 + 4 * vlA t k) = 0
    · rw [if_pos d, if_pos (show nI (f (24 + 4 * vlA t k)) = 0 by rw [d]; rfl), bd_ok c_addr, wr_nI (by omega) (by decide)]
      exact ⟨_, _, rfl, fun _ => ⟨z2 c, rfl⟩, z3⟩
    · rw [if_neg d, if_neg (nI_ne0 (by omega) (by omega))]
      exact ⟨_, _, rfl, fun e => (by cases e), z3⟩
  · rw [if_neg c, if_neg (nI_ne0 (by omega) (by omega))]
    exact ⟨_, _, rfl, fun e => absurd e c, z3⟩
theorem r_usedHere {t f : Nat → Nat} {N : Nat} {k : TK} {tp F mem : Nat → Int32} (hX : TX t N tp) (hk : okT t N k) (hR : RT F t k) (h38 : F 38 = 0) (h34 : F 34 = nI N) (hm : ∀ w, w < 64 → mem w = nI (f w)) (h1 : ∀ b, b < 10 → f (24 + 4 * b) ≤ 1) :
    (jbA t f k = 0 → ∃ F', m_X12_usedHere F tp mem = some (nI (vlA t k), F', upd mem (24 + 4 * vlA t k) 1) ∧ RT F' t (tkA t N k.2.2) ∧ F' 38 = 0 ∧ frH F' F) ∧ (¬ jbA t f k = 0 → ∃ F', m_X12_usedHere F tp mem = some (0, F', mem) ∧ BAD F' (jbA t f k) k.2.1 ∧ frH F' F) := by
  obtain ⟨r1, r2, r3, r4, r5⟩ := id hR
  have s2 := (srA_2 hk).1
  unfold jbA jnA
  rw [m_X12_usedHere, r3]
  by_cases c : k.1 = 2
  · obtain ⟨v1, v2, v3⟩ := vl_le hk c
    rw [if_pos (s2.mpr c), m_X12_usedHere_j14, bd_ok (w_ok h38), if_pos c]
    dsimp only
    have hwi : m_X12_within (nI (vlA t k)) 0 9 = some (nI (if 0 ≤ vlA t k ∧ vlA t k ≤ 9 then 1 else 0)) := r_within (lo := 0) (hi := 9) (by omega) (by omega) (by omega)
    rw [if_neg (show ¬ (1 : Int32) = 0 by decide), r4, bd_ok hwi]
    by_cases d : 0 ≤ vlA t k ∧ vlA t k ≤ 9
    · have hu := h1 (vlA t k) (by omega)
      rw [if_pos d, if_pos d, if_pos rfl, show nI 1 = 1 from rfl, bd_ok (w_ok h38)]
      dsimp only
      rw [if_neg (show ¬ (1 : Int32) = 0 by decide), r4]
      have eu : m_X12_isUsed mem 64 (nI (vlA t k)) = some (nI (f (24 + 4 * vlA t k))) := by
        rw [m_X12_isUsed, bd_ok r_block, rd_nI (by omega) (by decide), hm _ (by omega)]
        by_cases z : f (24 + 4 * vlA t k) = 1
        · rw [z, if_pos (show nI 1 = 1 from rfl)]; rfl
        · rw [show f (24 + 4 * vlA t k) = 0 by omega, if_neg (show ¬ nI 0 = 1 by decide)]; rfl
      rw [bd_ok eu]
      by_cases z : f (24 + 4 * vlA t k) = 0
      · rw [if_pos z, if_pos (show nI (f (24 + 4 * vlA t k)) = 0 by rw [z]; rfl)]
        refine ⟨fun _ => ?_, fun e => absurd rfl e⟩
        obtain ⟨F', g1, g2, g3⟩ := r_go hX hk.2.1 h34 r1
        rw [m_X12_usedHere_j59, bd_ok (w_ok h38)]
        dsimp only
        rw [if_neg (show ¬ (1 : Int32) = 0 by decide), nm, r4, bd_ok r_block, wr_nI (by omega) (by decide), bd_ok g1]
        exact ⟨F', rfl, g2, (g3 38 (by decide)).trans h38, frH_G g3⟩
      · rw [if_neg z, if_neg (nI_ne0 (by omega) (by omega))]
        refine ⟨fun e => (by cases e), fun _ => ?_⟩
        rw [m_X12_usedHere_j59, bd_ok (w_no h38 (by decide))]
        dsimp only
        rw [if_pos rfl]
        exact ⟨_, rfl, bad_i (c := 3) r2⟩
    · rw [if_neg d, if_neg d, if_neg (show ¬ (2 : Nat) = 0 by decide)]
      refine ⟨fun e => (by cases e), fun _ => ?_⟩
      rw [show nI 0 = 0 from rfl, bd_ok (w_no h38 (by decide))]
      dsimp only
      rw [if_pos rfl]
      exact ⟨_, rfl, bad_i (c := 2) r2⟩
  · rw [if_neg (fun e => c (s2.mp e)), m_X12_usedHere_j14, bd_ok (w_no h38 (by decide)), if_neg c, if_neg (by decide)]
    dsimp only
    rw [if_pos rfl]
    exact ⟨fun e => (by cases e), fun _ => ⟨_, rfl, bad_i (c := 1) r2⟩⟩
