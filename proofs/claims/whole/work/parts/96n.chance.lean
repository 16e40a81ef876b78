/-! ===== chance ===== -/
theorem c_gcd_loop {p0 p1 : Int32} : ∀ (n a b i fuel : Nat), b ≤ n → n < fuel → a < 2 ^ 31 → b + i ≤ 2000 → 1 ≤ Nat.gcd a b → m_X11_commonDivisor_w7 p0 p1 (m_X11_commonDivisor_j35 p0 p1) fuel (nI a) (nI b) (nI i) = some (nI (Nat.gcd a b)) := by
  intro n
  induction n with
  | zero =>
    intro a b i fuel hb hf ha hi hg
    obtain ⟨fuel, rfl⟩ : ∃ d, fuel = d + 1 := ⟨fuel - 1, by omega⟩
    have hb0 : b = 0 := by omega
    subst hb0
    rw [Nat.gcd_zero_right] at hg ⊢
    have e : m_X11_commonDivisor_j35 p0 p1 (nI a) = some (nI a) := by
      rw [m_X11_commonDivisor_j35, if_neg (show ¬ nI a < 1 from nI_nlt (b := 1) hg ha)]
    rw [m_X11_commonDivisor_w7]
    by_cases c : (2000 : Int32) ≤ nI i
    · rw [if_pos c, e]
    · rw [if_neg c, if_pos (show nI 0 ≤ 0 by decide), e]
  | succ n ih =>
    intro a b i fuel hb hf ha hi hg
    obtain ⟨fuel, rfl⟩ : ∃ d, fuel = d + 1 := ⟨fuel - 1, by omega⟩
    by_cases z : b = 0
    · subst z
      rw [Nat.gcd_zero_right] at hg ⊢
      have e : m_X11_commonDivisor_j35 p0 p1 (nI a) = some (nI a) := by
        rw [m_X11_commonDivisor_j35, if_neg (show ¬ nI a < 1 from nI_nlt (b := 1) hg ha)]
      rw [m_X11_commonDivisor_w7]
      by_cases c : (2000 : Int32) ≤ nI i
      · rw [if_pos c, e]
      · rw [if_neg c, if_pos (show nI 0 ≤ 0 by decide), e]
    · have hlt : a % b < b := Nat.mod_lt _ (by omega)
      have e1 : Nat.gcd a b = Nat.gcd b (a % b) := by rw [Nat.gcd_comm a b, Nat.gcd_rec b a, Nat.gcd_comm]
      rw [m_X11_commonDivisor_w7, if_neg (show ¬ (2000 : Int32) ≤ nI i from nI_ge (b := 2000) (by omega) (by decide)), if_neg (show ¬ nI b ≤ 0 from nI_ge (a := 0) (by omega) (by omega)), dz_ok (nI_ne0 (by omega) (by omega)), nm, nm, nI_modE ha (by omega), nI_1, e1]
      exact ih b (a % b) (i + 1) fuel (by omega) (by omega) (by omega) (by omega) (by rw [← e1]; exact hg)
theorem c_gcd {a b : Nat} (ha : 1 ≤ a) (ha2 : a ≤ 2000) (hb : b ≤ 2000) : m_X11_commonDivisor (nI a) (nI b) = some (nI (Nat.gcd a b)) :=
  c_gcd_loop 2000 a b 0 fuelN hb (by rw [fuel_is]; omega) (by omega) (by omega) (Nat.gcd_pos_of_pos_left _ ha)
theorem r_gcd_loop {p0 p1 : Int32} : ∀ (n a b fuel : Nat), b ≤ n → n < fuel → a < 2 ^ 31 → b < 2 ^ 31 → m_X12_divisor_w4 p0 p1 fuel (nI a) (nI b) = some (nI (Nat.gcd a b)) := by
  intro n
  induction n with
  | zero =>
    intro a b fuel hb hf ha hi
    obtain ⟨fuel, rfl⟩ : ∃ d, fuel = d + 1 := ⟨fuel - 1, by omega⟩
    have hb0 : b = 0 := by omega
    subst hb0
    rw [Nat.gcd_zero_right, m_X12_divisor_w4, if_pos (show nI 0 = 0 from rfl)]
  | succ n ih =>
    intro a b fuel hb hf ha hi
    obtain ⟨fuel, rfl⟩ : ∃ d, fuel = d + 1 := ⟨fuel - 1, by omega⟩
    by_cases z : b = 0
    · subst z
      rw [Nat.gcd_zero_right, m_X12_divisor_w4, if_pos (show nI 0 = 0 from rfl)]
    · have hlt : a % b < b := Nat.mod_lt _ (by omega)
      have e1 : Nat.gcd a b = Nat.gcd b (a % b) := by rw [Nat.gcd_comm a b, Nat.gcd_rec b a, Nat.gcd_comm]
      rw [m_X12_divisor_w4, if_neg (nI_ne0 (by omega) (by omega)), dz_ok (nI_ne0 (by omega) (by omega)), nm, nI_modE ha (by omega), e1]
      exact ih b (a % b) fuel (by omega) (by omega) (by omega) (by omega)
theorem r_gcd {a b : Nat} (ha : a ≤ 2000) (hb : b ≤ 2000) : m_X12_divisor (nI a) (nI b) = some (nI (Nat.gcd a b)) := r_gcd_loop 2000 a b fuelN hb (by rw [fuel_is]; omega) (by omega) (by omega)
def gdA (mode : Nat) (A : MA) : Nat → Nat
  | 0 => 0
  | k + 1 => gdA mode A k + (if fateA mode A (roK (gX A) k) = 1 ∨ fateA mode A (roK (gX A) k) = 2 then 1 else 0)
theorem gdA_le {mode : Nat} {A : MA} : ∀ k, gdA mode A k ≤ k := by
  intro k
  induction k with
  | zero => exact Nat.le_refl _
  | succ k ih => rw [gdA]; split <;> omega
def ansC (p t m : Nat) : Int32 := if p = 0 then nI (m / Nat.gcd t m) else nI (t / Nat.gcd t m)
theorem c_chance_end {F md st hd be af row pic se : Nat → Int32} {p t m : Nat} (hp : p ≤ 1) (ht : 1 ≤ t) (ht2 : t ≤ 2000) (hm : m ≤ 2000) : m_X11_chance_j125 F md st hd be af (nI p) (nI t) (nI m) row pic se = some (0, ansC p t m, row, pic, se) := by
  have hg : 1 ≤ Nat.gcd t m := Nat.gcd_pos_of_pos_left _ ht
  have hg2 : Nat.gcd t m ≤ t := Nat.gcd_le_left _ ht
  rw [m_X11_chance_j125, bd_ok (c_gcd ht ht2 hm)]
  unfold ansC
  by_cases z : p = 0
  · rw [if_pos (show nI p = 0 by rw [z]; rfl), if_pos z, dz_ok (nI_ne0 (by omega) (by omega)), nI_divE (by omega) (by omega)]
  · rw [if_neg (show ¬ nI p = 0 from nI_ne0 (by omega) (by omega)), if_neg z, dz_ok (nI_ne0 (by omega) (by omega)), nI_divE (by omega) (by omega)]
theorem c_chance_loop {Ft md st hd ak be af : Nat → Int32} {mode p : Nat} {A : MA} (hm : mode < 2) (hV : VM mode A) (hC : CC md st hd ak (gX A)) (h9 : Ft 9 = nI mode) (hb : ∀ k, k < 44 → be k = nI (gB A k)) (ha : ∀ k, k < 44 → af k = nI (gA A k)) (hp : p ≤ 1) {N : Nat} (hN1 : 1 ≤ N) (hN : N ≤ 2000) :
    ∀ (d k fuel : Nat) (row pic se : Nat → Int32), k + d = N → d < fuel → WKr row pic (gX A) (roK (gX A) k) →
      ∃ row' pic' se', m_X11_chance_w70 Ft md st hd be af (nI p) (m_X11_chance_j125 Ft md st hd be af (nI p)) fuel (nI N) (nI (gdA mode A k)) (nI k) row pic se = some (0, ansC p N (gdA mode A N), row', pic', se') := by
  intro d
  induction d with
  | zero =>
    intro k fuel row pic se hk hf hW
    obtain ⟨fuel, rfl⟩ : ∃ d, fuel = d + 1 := ⟨fuel - 1, by omega⟩
    have hk2 : k = N := by omega
    subst hk2
    have := gdA_le (mode := mode) (A := A) k
    rw [m_X11_chance_w70, if_pos (nI_le (Nat.le_refl _) (by omega)), c_chance_end hp hN1 hN (by omega)]
    exact ⟨_, _, _, rfl⟩
  | succ d ih =>
    intro k fuel row pic se hk hf hW
    obtain ⟨fuel, rfl⟩ : ∃ d, fuel = d + 1 := ⟨fuel - 1, by omega⟩
    obtain ⟨se', f1, _⟩ := c_fateBy (se := se) hm hV h9 hW.2.2 hb ha
    obtain ⟨R, g1, g2⟩ := c_goOn hC hV.1 hW
    have hfl := fateA_le (mode := mode) (A := A) (ro := roK (gX A) k)
    have fin : ∀ s1 : Int32, nI (gdA mode A k) + s1 = nI (gdA mode A (k + 1)) → ∃ row' pic' se'', m_X11_chance_j105 Ft md st hd be af (nI p) (m_X11_chance_w70 Ft md st hd be af (nI p) (m_X11_chance_j125 Ft md st hd be af (nI p)) fuel) (nI N) (nI k) (nI (gdA mode A k)) s1 row pic se' = some (0, ansC p N (gdA mode A N), row', pic', se'') := by
      intro s1 hs
      rw [m_X11_chance_j105, nm, hs, bd_ok g1, nm, show nI k + 1 = nI (k + 1) from nI_1 _]
      exact ih (k + 1) fuel R.1 R.2 se' (by omega) (by omega) g2
    rw [m_X11_chance_w70, if_neg (nI_ge (by omega) (by omega)), bd_ok f1]
    by_cases c1 : fateA mode A (roK (gX A) k) = 1
    · rw [if_pos (show nI (fateA mode A (roK (gX A) k)) = 1 by rw [c1]; rfl), m_X11_chance_j100]
      exact fin 1 (by rw [gdA, if_pos (Or.inl c1)]; exact nI_1 _)
    · rw [if_neg (show ¬ nI (fateA mode A (roK (gX A) k)) = 1 from fun e => c1 (nI_inj (b := 1) (by omega) (by decide) e))]
      by_cases c2 : fateA mode A (roK (gX A) k) = 2
      · rw [if_pos (show nI (fateA mode A (roK (gX A) k)) = 2 by rw [c2]; rfl), m_X11_chance_j100]
        exact fin 1 (by rw [gdA, if_pos (Or.inr c2)]; exact nI_1 _)
      · rw [if_neg (show ¬ nI (fateA mode A (roK (gX A) k)) = 2 from fun e => c2 (nI_inj (b := 2) (by omega) (by decide) e))]
        exact fin 0 (by rw [gdA, if_neg (fun e => e.elim c1 c2)]; exact nI_add _ 0)
theorem r_chance_end {F rows me ord im we : Nat → Int32} {p t m : Nat} (hp : p ≤ 1) (ht : 1 ≤ t) (ht2 : t ≤ 2000) (hm : m ≤ 2000) : m_X12_chance_j93 rows (nI p) (lN t) (nI m) F me ord im we = some (ansC p t m, F, me, ord, im, we) := by
  have hg : 1 ≤ Nat.gcd m t := Nat.gcd_pos_of_pos_right _ ht
  have hg2 : Nat.gcd m t ≤ t := Nat.gcd_le_right _ ht
  rw [m_X12_chance_j93]
  unfold ansC
  rw [Nat.gcd_comm t m]
  by_cases z : p = 0
  · rw [if_pos (show nI p = 0 by rw [z]; rfl), if_pos z, m_X12_chance_j104, lN_i, bd_ok (r_gcd hm ht2), dz_ok (nI_ne0 (by omega) (by omega)), nI_divE (by omega) (by omega)]
  · rw [if_neg (show ¬ nI p = 0 from nI_ne0 (by omega) (by omega)), if_neg z, m_X12_chance_j104, lN_i, bd_ok (r_gcd hm ht2), dz_ok (nI_ne0 (by omega) (by omega)), nI_divE (by omega) (by omega)]
theorem r_chance_loop {rows : Nat → Int32} {mode p : Nat} {A : MA} (hm : mode < 2) (hR : RM rows 0 A) (hV : VM mode A) (hp : p ≤ 1) {N : Nat} (hN1 : 1 ≤ N) (hN : N ≤ 2000) {F me we : Nat → Int32} (h12 : F 12 = nI mode) (hW : WL F we A) :
    ∀ (d k fuel : Nat) (ord im : Nat → Int32), k + d = N → d < fuel → (∀ l, l < 16 → ord l = nI (roK (gX A) k l)) →
      ∃ ord' im', m_X12_chance_w52 rows (nI p) (m_X12_chance_j93 rows (nI p)) fuel (lN N) (nI (gdA mode A k)) (nI k) F me ord im we = some (ansC p N (gdA mode A N), F, me, ord', im', we) := by
  intro d
  induction d with
  | zero =>
    intro k fuel ord im hk hf ho
    obtain ⟨fuel, rfl⟩ : ∃ d, fuel = d + 1 := ⟨fuel - 1, by omega⟩
    have hk2 : k = N := by omega
    subst hk2
    have := gdA_le (mode := mode) (A := A) k
    rw [m_X12_chance_w52, nI_l (by omega), if_pos ((lg_cmp_ge _ _).mpr ((lN_le (by omega) (by omega)).mpr (by omega))), r_chance_end hp hN1 hN (by omega)]
    exact ⟨_, _, rfl⟩
  | succ d ih =>
    intro k fuel ord im hk hf ho
    obtain ⟨fuel, rfl⟩ : ∃ d, fuel = d + 1 := ⟨fuel - 1, by omega⟩
    obtain ⟨im', f1⟩ := r_fateHere (im := im) (b := 0) hm (by decide) hR hV h12 hW (roK_ok k) ho
    obtain ⟨od', g1, g2⟩ := r_nextOrder (b := 0) hR.1 hV.1 (by decide) (roK_ok k) ho
    have f1 : m_X12_fateHere F rows ord im we 0 = some (nI (fateA mode A (roK (gX A) k)), im') := f1
    have g1 : m_X12_nextOrder rows ord 0 = some od' := g1
    have hfl := fateA_le (mode := mode) (A := A) (ro := roK (gX A) k)
    have fin : ∀ v : Int32, v = nI (gdA mode A (k + 1)) → ∃ ord' im'', m_X12_chance_j82 rows (nI p) (m_X12_chance_w52 rows (nI p) (m_X12_chance_j93 rows (nI p)) fuel) (lN N) v (nI k) F me ord im' we = some (ansC p N (gdA mode A N), F, me, ord', im'', we) := by
      intro v hv
      rw [m_X12_chance_j82, bd_ok g1, nm, show nI k + 1 = nI (k + 1) from nI_1 _, hv]
      exact ih (k + 1) fuel od' im' (by omega) (by omega) g2
    rw [m_X12_chance_w52, nI_l (by omega), if_neg (fun e => by
      have := (lN_le (by omega) (by omega)).mp ((lg_cmp_ge _ _).mp e)
      omega), bd_ok f1]
    by_cases c1 : fateA mode A (roK (gX A) k) = 1
    · rw [if_pos (show nI (fateA mode A (roK (gX A) k)) = 1 by rw [c1]; rfl), m_X12_chance_j79, nm]
      exact fin _ (by rw [gdA, if_pos (Or.inl c1)]; exact nI_1 _)
    · rw [if_neg (show ¬ nI (fateA mode A (roK (gX A) k)) = 1 from fun e => c1 (nI_inj (b := 1) (by omega) (by decide) e))]
      by_cases c2 : fateA mode A (roK (gX A) k) = 2
      · rw [if_pos (show nI (fateA mode A (roK (gX A) k)) = 2 by rw [c2]; rfl), m_X12_chance_j79, nm]
        exact fin _ (by rw [gdA, if_pos (Or.inr c2)]; exact nI_1 _)
      · rw [if_neg (show ¬ nI (fateA mode A (roK (gX A) k)) = 2 from fun e => c2 (nI_inj (b := 2) (by omega) (by decide) e))]
        exact fin _ (by rw [gdA, if_neg (fun e => e.elim c1 c2)]; rfl)
theorem pc_chance {C : CS} {a x k : Int32} {row pic se : Nat → Int32} (h : m_X11_chance (C.1 3) (C.1 5) (C.1 6) (C.1 7) (C.1 10) (C.1 11) (C.1 25) (C.1 26) (C.1 27) a = some (k, x, row, pic, se)) : ∃ c, pX_chance C a = some (k, x, (c, C.2.1, C.2.2.1, C.2.2.2)) ∧ keyA c C.1 ∧ keyT c C.1 := by
  rw [pX_chance, bd_ok h]
  exact ⟨_, rfl, ⟨rfl, rfl, rfl, rfl, rfl, rfl, rfl, rfl, rfl, rfl, rfl, rfl, rfl, rfl⟩, ⟨rfl, rfl, rfl, rfl, rfl, rfl⟩⟩
theorem pm_chance {M : Nat → Nat → Int32} {a x : Int32} {F me ord im we : Nat → Int32} (h : m_X12_chance (M 0) (M 1) (M 9) (M 10) (M 11) (M 12) a = some (x, F, me, ord, im, we)) : ∃ M', pM_chance M a = some (x, M') ∧ M' 0 = F ∧ M' 1 = M 1 ∧ M' 2 = M 2 ∧ M' 3 = M 3 ∧ M' 4 = M 4 ∧ M' 5 = M 5 := by
  rw [pM_chance, bd_ok h]
  exact ⟨_, rfl, rfl, rfl, rfl, rfl, rfl, rfl⟩
theorem lr_chance {n : Nat} {S : LwS} (h : LR n S) (a1 a2 a3 a4 a5 : Int32) : ∃ T, sL_chance S a1 a2 a3 a4 a5 = some T ∧ LR (n + 1) T := by
  obtain ⟨mode, G, I, b1, b2, b3, b4⟩ := id h
  have hC := LX_cm b1
  have hV := b1.2.1.1
  have hR : RM (S.2.1 1) 0 G.1 := b1.2.2.2.1.1
  have hm2 := b1.1
  have hF : S.2.1 0 12 = nI mode := b1.2.2.2.2
  have h4 : upd (S.2.1 0) 4 0 4 = 0 := upd_eq
  have h41 : upd (upd (S.2.1 0) 4 0) 4 1 4 = 1 := upd_eq
  have hF1 : upd (S.2.1 0) 4 0 12 = nI mode := (upd_ne (by decide)).trans hF
  rcases r_withinX (x := a1) (lo := 0) (hi := 1) (by decide) (by decide) with ⟨wa, p, rfl, w1, w2⟩ | ⟨wa, wb⟩
  · have wa : m_X12_within (nI p) 0 1 = some 1 := wa
    have n0 : ¬ nI p < 0 := nI_nlt (b := 0) (by omega) (by omega)
    have n1 : nI p ≤ 1 := nI_le (b := 1) w2 (by decide)
    have t1 := c_total hC.1 hV.1
    have t2 : m_X12_ordersOf (S.2.1 1) 0 = some (lN (totN (gX G.1) 16)) := r_total (b := 0) hR.1 hV.1 (by decide)
    have ht := tot_lt hV.1
    have hpos := totN_pos (X := gX G.1) 16
    by_cases c : totN (gX G.1) 16 ≤ 2000
    · obtain ⟨R, g1, g2⟩ := c_start (row := S.1.1 25) (pic := S.1.1 26) hC.1
      obtain ⟨row', pic', se', u1⟩ := c_chance_loop (p := p) hm2 hV hC.1 hC.2.2.2.2.1 hC.2.2.2.2.2.2.2.1 hC.2.2.2.2.2.2.2.2 w2 hpos c (totN (gX G.1) 16) 0 fuelN R.1 R.2 (S.1.1 27) (by omega) (by rw [fuel_is]; omega) g2
      obtain ⟨F', me', we', l1, l2, l3⟩ := r_laysWell (me := S.2.1 9) (we := S.2.1 12) (b := 0) hm2 (by decide) hR hV hF1
      have l1 : m_X12_laysWell (upd (S.2.1 0) 4 0) (S.2.1 1) (S.2.1 9) (S.2.1 12) 0 = some (F', me', we') := l1
      obtain ⟨od, o1, o2⟩ := r_firstOrder (ord := S.2.1 10)
      obtain ⟨od', im', v1⟩ := r_chance_loop (p := p) (me := me') hm2 hR hV w2 hpos c ((l3 12 (by decide)).trans hF1) l2 (totN (gX G.1) 16) 0 fuelN od (S.2.1 11) (by omega) (by rw [fuel_is]; omega) o2
      obtain ⟨c', d1, d2, d3⟩ := pc_chance (C := S.1) (a := nI p) (by
        rw [m_X11_chance, if_neg n0, if_pos n1, bd_ok t1, if_pos ((tot_le ht).mpr c), bd_ok t1, bd_ok g1, lN_i]
        exact u1)
      obtain ⟨M', f1, f2⟩ := pm_chance (M := S.2.1) (a := nI p) (by
        rw [m_X12_chance, nm, bd_ok wa, bd_ok (r_right1 h4)]
        dsimp only
        rw [if_neg (show ¬ (1 : Int32) = 0 by decide), bd_ok t2, if_pos ((tot_le ht).mpr c), bd_ok l1, bd_ok o1]
        exact v1)
      obtain ⟨o, ho⟩ := sh_0 (S := S) (a := 1) (b := 6) (K := 1) d1 f1 (by rw [f2.1, l3 4 (by decide)]; exact h4)
      exact ⟨_, ho, lq_end h d2 d3 f2 (fun j p q => by rw [l3 j (by omega), upd_ne (by omega)]) (fun _ _ => rfl) (by omega) (by omega)⟩
    · obtain ⟨c', d1, d2, d3⟩ := pc_chance (C := S.1) (a := nI p) (k := 0) (x := -1) (row := S.1.1 25) (pic := S.1.1 26) (se := S.1.1 27) (by
        rw [m_X11_chance, if_neg n0, if_pos n1, bd_ok t1, if_neg (fun e => c ((tot_le ht).mp e))])
      obtain ⟨M', f1, f2⟩ := pm_chance (M := S.2.1) (a := nI p) (x := -1) (F := upd (S.2.1 0) 4 0) (me := S.2.1 9) (ord := S.2.1 10) (im := S.2.1 11) (we := S.2.1 12) (by
        rw [m_X12_chance, nm, bd_ok wa, bd_ok (r_right1 h4)]
        dsimp only
        rw [if_neg (show ¬ (1 : Int32) = 0 by decide), bd_ok t2, if_neg (fun e => c ((tot_le ht).mp e))])
      obtain ⟨o, ho⟩ := sh_0 (S := S) (a := 1) (b := 6) (K := 1) d1 f1 (by rw [f2.1]; exact h4)
      exact ⟨_, ho, lq_end h d2 d3 f2 fq0 (fun _ _ => rfl) (by omega) (by omega)⟩
  · have wa : m_X12_within a1 0 1 = some 0 := wa
    obtain ⟨c', d1, d2, d3⟩ := pc_chance (C := S.1) (a := a1) (k := 1) (x := 0) (row := S.1.1 25) (pic := S.1.1 26) (se := S.1.1 27) (by
      rw [m_X11_chance]
      by_cases c : a1 < 0
      · rw [if_pos c]
      · obtain ⟨j, hj, rfl⟩ := nI_of c
        have := wb j hj rfl
        rw [if_neg c, if_neg (show ¬ nI j ≤ 1 from nI_ge (a := 1) (by omega) hj)])
    obtain ⟨M', f1, f2⟩ := pm_chance (M := S.2.1) (a := a1) (x := 0) (F := upd (upd (S.2.1 0) 4 0) 4 1) (me := S.2.1 9) (ord := S.2.1 10) (im := S.2.1 11) (we := S.2.1 12) (by
      rw [m_X12_chance, nm, bd_ok wa, bd_ok (r_right0 h4 (by decide))]
      dsimp only
      rw [if_pos rfl])
    obtain ⟨o, ho⟩ := sh_1 (S := S) (a := 1) (b := 6) (K := 1) (by decide) d1 f1 (by rw [f2.1]; exact h41)
    exact ⟨_, ho, lq_end h d2 d3 f2 fq1 (fun _ _ => rfl) (by omega) (by omega)⟩
