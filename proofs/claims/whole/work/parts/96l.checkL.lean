/-! ===== check, needless, least ===== -/
theorem pc_check {C : CS} {a x k : Int32} {U : (Nat → Int32) × (Nat → Int32) × (Nat → Int32) × (Nat → Int32) × (Nat → Int32) × (Nat → Int32) × (Nat → Int32) × (Nat → Int32) × (Nat → Int32) × (Nat → Int32) × (Nat → Int32) × (Nat → Int32) × (Nat → Int32) × (Nat → Int32) × (Nat → Int32) × (Nat → Int32) × (Nat → Int32) × (Nat → Int32) × (Nat → Int32) × (Nat → Int32)} (h : m_X11_check (C.1 3) (C.1 32) (C.1 33) (C.1 44) (C.1 49) (C.1 5) (C.1 6) (C.1 7) (C.1 8) (C.1 9) (C.1 10) (C.1 11) (C.1 12) (C.1 13) (C.1 35) (C.1 36) (C.1 37) (C.1 38) (C.1 39) (C.1 40) (C.1 41) (C.1 42) (C.1 43) (C.1 45) (C.1 46) (C.1 47) (C.1 48) (C.1 51) (C.1 52) (C.1 53) a = some (k, x, U)) : ∃ c, pX_check C a = some (k, x, (c, C.2.1, C.2.2.1, C.2.2.2)) ∧ keyA c C.1 ∧ keyT c C.1 := by
  rw [pX_check, bd_ok h]
  exact ⟨_, rfl, ⟨rfl, rfl, rfl, rfl, rfl, rfl, rfl, rfl, rfl, rfl, rfl, rfl, rfl, rfl⟩, ⟨rfl, rfl, rfl, rfl, rfl, rfl⟩⟩
theorem pc_needless {C : CS} {x : Int32} {U : (Nat → Int32) × (Nat → Int32) × (Nat → Int32) × (Nat → Int32) × (Nat → Int32) × (Nat → Int32) × (Nat → Int32) × (Nat → Int32) × (Nat → Int32) × (Nat → Int32) × (Nat → Int32) × (Nat → Int32) × (Nat → Int32) × (Nat → Int32) × (Nat → Int32) × (Nat → Int32) × (Nat → Int32) × (Nat → Int32) × (Nat → Int32) × (Nat → Int32) × (Nat → Int32) × (Nat → Int32) × (Nat → Int32) × (Nat → Int32) × (Nat → Int32) × (Nat → Int32)} (h : m_X11_needless (C.1 3) (C.1 18) (C.1 23) (C.1 32) (C.1 33) (C.1 44) (C.1 49) (C.1 5) (C.1 6) (C.1 7) (C.1 8) (C.1 9) (C.1 10) (C.1 11) (C.1 12) (C.1 13) (C.1 19) (C.1 20) (C.1 21) (C.1 22) (C.1 35) (C.1 36) (C.1 37) (C.1 38) (C.1 39) (C.1 40) (C.1 41) (C.1 42) (C.1 43) (C.1 45) (C.1 46) (C.1 47) (C.1 48) (C.1 51) (C.1 52) (C.1 53) = some (x, U)) : ∃ c, pX_needless C = some (x, (c, C.2.1, C.2.2.1, C.2.2.2)) ∧ keyA c C.1 ∧ keyT c C.1 := by
  rw [pX_needless, bd_ok h]
  exact ⟨_, rfl, ⟨rfl, rfl, rfl, rfl, rfl, rfl, rfl, rfl, rfl, rfl, rfl, rfl, rfl, rfl⟩, ⟨rfl, rfl, rfl, rfl, rfl, rfl⟩⟩
theorem pc_least {C : CS} {a x k : Int32} {U : (Nat → Int32) × (Nat → Int32) × (Nat → Int32) × (Nat → Int32) × (Nat → Int32) × (Nat → Int32) × (Nat → Int32) × (Nat → Int32) × (Nat → Int32) × (Nat → Int32) × (Nat → Int32) × (Nat → Int32) × (Nat → Int32) × (Nat → Int32) × (Nat → Int32) × (Nat → Int32) × (Nat → Int32) × (Nat → Int32) × (Nat → Int32) × (Nat → Int32) × (Nat → Int32) × (Nat → Int32) × (Nat → Int32) × (Nat → Int32) × (Nat → Int32) × (Nat → Int32)} (h : m_X11_least (C.1 3) (C.1 18) (C.1 23) (C.1 32) (C.1 33) (C.1 44) (C.1 49) (C.1 5) (C.1 6) (C.1 7) (C.1 8) (C.1 9) (C.1 10) (C.1 11) (C.1 12) (C.1 13) (C.1 19) (C.1 20) (C.1 21) (C.1 22) (C.1 35) (C.1 36) (C.1 37) (C.1 38) (C.1 39) (C.1 40) (C.1 41) (C.1 42) (C.1 43) (C.1 45) (C.1 46) (C.1 47) (C.1 48) (C.1 51) (C.1 52) (C.1 53) a = some (k, x, U)) : ∃ c, pX_least C a = some (k, x, (c, C.2.1, C.2.2.1, C.2.2.2)) ∧ keyA c C.1 ∧ keyT c C.1 := by
  rw [pX_least, bd_ok h]
  exact ⟨_, rfl, ⟨rfl, rfl, rfl, rfl, rfl, rfl, rfl, rfl, rfl, rfl, rfl, rfl, rfl, rfl⟩, ⟨rfl, rfl, rfl, rfl, rfl, rfl⟩⟩
theorem pm_check {M : Nat → Nat → Int32} {a x : Int32} {F r : Nat → Int32} {V : (Nat → Int32) × (Nat → Int32) × (Nat → Int32) × (Nat → Int32) × (Nat → Int32) × (Nat → Int32) × (Nat → Int32)} (h : m_X12_check (M 0) (M 1) (M 6) (M 7) (M 8) (M 9) (M 10) (M 11) (M 12) a = some (x, F, r, V)) : ∃ M', pM_check M a = some (x, M') ∧ M' 0 = F ∧ M' 1 = r ∧ M' 2 = M 2 ∧ M' 3 = M 3 ∧ M' 4 = M 4 ∧ M' 5 = M 5 := by
  rw [pM_check, bd_ok h]
  exact ⟨_, rfl, rfl, rfl, rfl, rfl, rfl, rfl⟩
theorem pm_needless {M : Nat → Nat → Int32} {x : Int32} {F r : Nat → Int32} {V : (Nat → Int32) × (Nat → Int32) × (Nat → Int32) × (Nat → Int32) × (Nat → Int32) × (Nat → Int32) × (Nat → Int32)} (h : m_X12_needless (M 0) (M 1) (M 6) (M 7) (M 8) (M 9) (M 10) (M 11) (M 12) = some (x, F, r, V)) : ∃ M', pM_needless M = some (x, M') ∧ M' 0 = F ∧ M' 1 = r ∧ M' 2 = M 2 ∧ M' 3 = M 3 ∧ M' 4 = M 4 ∧ M' 5 = M 5 := by
  rw [pM_needless, bd_ok h]
  exact ⟨_, rfl, rfl, rfl, rfl, rfl, rfl, rfl⟩
theorem pm_least {M : Nat → Nat → Int32} {a x : Int32} {F r : Nat → Int32} {V : (Nat → Int32) × (Nat → Int32) × (Nat → Int32) × (Nat → Int32) × (Nat → Int32) × (Nat → Int32) × (Nat → Int32)} (h : m_X12_least (M 0) (M 1) (M 6) (M 7) (M 8) (M 9) (M 10) (M 11) (M 12) a = some (x, F, r, V)) : ∃ M', pM_least M a = some (x, M') ∧ M' 0 = F ∧ M' 1 = r ∧ M' 2 = M 2 ∧ M' 3 = M 3 ∧ M' 4 = M 4 ∧ M' 5 = M 5 := by
  rw [pM_least, bd_ok h]
  exact ⟨_, rfl, rfl, rfl, rfl, rfl, rfl, rfl⟩
theorem lq_end {n : Nat} {S : LwS} (h : LR n S) {c : Nat → Nat → Int32} {M' : Nat → Nat → Int32} {o : Nat → Int64} {x y : Nat} {bt : Bool} {F r : Nat → Int32} (hc : keyA c S.1.1) (hk : keyT c S.1.1) (hM : M' 0 = F ∧ M' 1 = r ∧ M' 2 = S.2.1 2 ∧ M' 3 = S.2.1 3 ∧ M' 4 = S.2.1 4 ∧ M' 5 = S.2.1 5) (hF : ∀ j, 5 ≤ j → j ≤ 15 → F j = S.2.1 0 j) (hr : fr2 r (S.2.1 1)) (hx : x ≤ S.2.2.2.1 + 11) (hy : y ≤ S.2.2.2.2 + 432) : LR (n + 1) ((c, S.1.2.1, S.1.2.2.1, bt), M', o, x, y) :=
  lr_query h hc hk (fun j a b => by rw [hM.1]; exact hF j a b) (fun j hj => by rw [hM.2.1]; exact hr j hj) hM.2.2.1 hM.2.2.2.1 hM.2.2.2.2.1 hM.2.2.2.2.2 hx hy
theorem frK_q {F G : Nat → Int32} {x : Int32} (h : frK F (upd G 4 x)) : ∀ j, 5 ≤ j → j ≤ 15 → F j = G j := fun j a b => (h j (by omega) (by omega)).trans (upd_ne (by omega))
theorem encO_none {n : Nat} {s : BS} (h : okB n s) (z : s.1 = 0) : encO s = -1 := by
  have := h.2.1.mp z
  unfold encO
  rw [this]
def ansA (p : Nat) (R : BS × Bool) : Int32 := if p = 0 then (if R.2 = true then -2 else nI R.1.1) else if R.1.1 = 0 then (if R.2 = true then -2 else -1) else if p = 1 then encA R.1 else encO R.1
theorem c_check {F0 : Nat → Int32} {mdm stm hdm akm mim bem afm wam tam F T P sh md st hd ak mi be af wa ta w ad nu ol row pic se : Nat → Int32} {mode p : Nat} {A : MA} (hm2 : mode < 2) (hC : CM F0 mdm stm hdm akm mim bem afm wam tam mode A) (hV : VM mode A) (hp : p ≤ 2) :
    ∃ U : (Nat → Int32) × (Nat → Int32) × (Nat → Int32) × (Nat → Int32) × (Nat → Int32) × (Nat → Int32) × (Nat → Int32) × (Nat → Int32) × (Nat → Int32) × (Nat → Int32) × (Nat → Int32) × (Nat → Int32) × (Nat → Int32) × (Nat → Int32) × (Nat → Int32) × (Nat → Int32) × (Nat → Int32) × (Nat → Int32) × (Nat → Int32) × (Nat → Int32), m_X11_check F0 F T P sh mdm stm hdm akm mim bem afm wam tam md st hd ak mi be af wa ta w ad nu ol row pic se (nI p) = some (0, ansA p (chkA mode (setO (gO A) A)), U) := by
  obtain ⟨U, q1, q2⟩ := c_run (h := false) (o := gO A) (F := F) (T := T) (P := P) (sh := sh) (md := md) (st := st) (hd := hd) (ak := ak) (mi := mi) (be := be) (af := af) (wa := wa) (ta := ta) (w := w) (ad := ad) (nu := nu) (ol := ol) (row := row) (pic := pic) (se := se) hm2 hC hV hV.2.2.2.2.1
  rw [show nI (bN false) = 0 from rfl, ← hC.2.2.2.2.2.1] at q1
  have hok := okB_chk (mode := mode) (A := setO (gO A) A)
  have q2 : EncC U.1 (chkA mode (setO (gO A) A)).1 ∧ U.1 6 = nI (bN (chkA mode (setO (gO A) A)).2) := q2
  refine ⟨U, ?_⟩
  rw [m_X11_check, if_neg (show ¬ nI p < 0 from nI_nlt (b := 0) (by omega) (by omega)), if_pos (show nI p ≤ 2 from nI_le (b := 2) hp (by decide)), bd_ok q1]
  generalize chkA mode (setO (gO A) A) = R at *
  unfold ansA
  by_cases c : p = 0
  · rw [if_pos (show nI p = 0 by rw [c]; rfl), if_pos c]
    cases e : R.2 with
    | true =>
      rw [if_neg (show ¬ U.1 6 = 0 by rw [q2.2, e]; decide)]; rfl
    | false =>
      rw [if_pos (show U.1 6 = 0 by rw [q2.2, e]; rfl)]
      show some (0, U.1 3, U) = some (0, nI R.1.1, U)
      rw [q2.1.1]
  · rw [if_neg (show ¬ nI p = 0 from nI_ne0 (by omega) (by omega)), if_neg c]
    by_cases z : R.1.1 = 0
    · rw [if_pos (show U.1 3 = 0 by rw [q2.1.1, z]; rfl), if_pos z]
      cases e : R.2 with
      | true =>
        rw [if_neg (show ¬ U.1 6 = 0 by rw [q2.2, e]; decide)]; rfl
      | false =>
        rw [if_pos (show U.1 6 = 0 by rw [q2.2, e]; rfl)]; rfl
    · rw [if_neg (show ¬ U.1 3 = 0 by rw [q2.1.1]; exact nI_ne0 (by omega) (by have := hok.1; omega)), if_neg z]
      by_cases d : p = 1
      · rw [if_pos (show nI p = 1 by rw [d]; rfl), if_pos d]
        show some (0, U.1 4, U) = some (0, encA R.1, U)
        rw [q2.1.2.1]
      · rw [if_neg (show ¬ nI p = 1 from fun e => d (nI_inj (b := 1) (by omega) (by decide) e)), if_neg d]
        show some (0, U.1 5, U) = some (0, encO R.1, U)
        rw [q2.1.2.2]
theorem r_check {mode p : Nat} {A : MA} {F rows w ad nu me ord im we : Nat → Int32} (hm2 : mode < 2) (hR : RM rows 0 A) (hV : VM mode A) (h12 : F 12 = nI mode) (hp : p ≤ 2) :
    ∃ (F' r : Nat → Int32) (V : (Nat → Int32) × (Nat → Int32) × (Nat → Int32) × (Nat → Int32) × (Nat → Int32) × (Nat → Int32) × (Nat → Int32)), m_X12_check F rows w ad nu me ord im we (nI p) = some (ansA p (chkA mode (setO (gO A) A)), F', r, V) ∧ frK F' (upd F 4 0) ∧ fr2 r rows := by
  obtain ⟨F', r, w', ad', nu', me', ord', im', we', z1, z2, z3, z4, z5⟩ := r_checks (F := upd F 4 0) (w := w) (ad := ad) (nu := nu) (me := me) (ord := ord) (im := im) (we := we) (o := gO A) hm2 hR hV ((upd_ne (by decide)).trans h12) hV.2.2.2.2.1
  have e5 : rows 773 = nI (gO A) := by have := hR.2.2.2.2.1; rw [Nat.zero_add] at this; exact this
  have hw : m_X12_within (nI p) 0 2 = some 1 := (r_within (lo := 0) (hi := 2) (by omega) (by decide) (by decide)).trans (by rw [if_pos (by omega)]; rfl)
  have hok := okB_chk (mode := mode) (A := setO (gO A) A)
  refine ⟨F', r, (w', ad', nu', me', ord', im', we'), ?_, z4, z5⟩
  rw [m_X12_check, nm, bd_ok hw, bd_ok (r_right1 upd_eq)]
  dsimp only
  rw [if_neg (show ¬ (1 : Int32) = 0 by decide), show (773 : Int32) = nI 773 from rfl, rd_nI (by decide) (by decide), e5, bd_ok z1]
  dsimp only
  generalize chkA mode (setO (gO A) A) = R at *
  unfold ansA
  cases e : R.2 with
  | false =>
    rw [e] at z3
    rw [if_pos (show F' 31 = 0 from z3), m_X12_check_j55]
    by_cases c : p = 0
    · rw [if_pos (show nI p = 0 by rw [c]; rfl), if_pos c, z2.1]; rfl
    · rw [if_neg (show ¬ nI p = 0 from nI_ne0 (by omega) (by omega)), if_neg c]
      by_cases d : p = 1
      · rw [if_pos (show nI p = 1 by rw [d]; rfl), z2.2.1]
        by_cases z : R.1.1 = 0
        · rw [if_pos z, (encA_none hok).mpr z]; rfl
        · rw [if_neg z, if_pos d]
      · rw [if_neg (show ¬ nI p = 1 from fun e => d (nI_inj (b := 1) (by omega) (by decide) e)), z2.2.2]
        by_cases z : R.1.1 = 0
        · rw [if_pos z, encO_none hok z]; rfl
        · rw [if_neg z, if_neg d]
  | true =>
    rw [e] at z3
    rw [if_neg (show ¬ F' 31 = 0 by rw [z3]; decide)]
    by_cases c : p = 0
    · rw [if_pos (show nI p = 0 by rw [c]; rfl), if_pos c]; rfl
    · rw [if_neg (show ¬ nI p = 0 from nI_ne0 (by omega) (by omega)), if_neg c]
      by_cases z : R.1.1 = 0
      · rw [if_pos (show F' 29 = -1 by rw [z2.2.1]; exact (encA_none hok).mpr z), if_pos z]; rfl
      · rw [if_neg (show ¬ F' 29 = -1 by rw [z2.2.1]; exact fun q => z ((encA_none hok).mp q)), if_neg z, m_X12_check_j55, if_neg (show ¬ nI p = 0 from nI_ne0 (by omega) (by omega))]
        by_cases d : p = 1
        · rw [if_pos (show nI p = 1 by rw [d]; rfl), z2.2.1, if_pos d]
        · rw [if_neg (show ¬ nI p = 1 from fun e => d (nI_inj (b := 1) (by omega) (by decide) e)), z2.2.2, if_neg d]
theorem lr_check {n : Nat} {S : LwS} (h : LR n S) (a1 a2 a3 a4 a5 : Int32) : ∃ T, sL_check S a1 a2 a3 a4 a5 = some T ∧ LR (n + 1) T := by
  obtain ⟨mode, G, I, b1, b2, b3, b4⟩ := id h
  have hC := LX_cm b1
  have hV := b1.2.1.1
  have hR : RM (S.2.1 1) 0 G.1 := b1.2.2.2.1.1
  have hm2 := b1.1
  have hF : S.2.1 0 12 = nI mode := b1.2.2.2.2
  have h4 : upd (S.2.1 0) 4 0 4 = 0 := upd_eq
  have h41 : upd (upd (S.2.1 0) 4 0) 4 1 4 = 1 := upd_eq
  rcases r_withinX (x := a1) (lo := 0) (hi := 2) (by decide) (by decide) with ⟨wa, p, rfl, w1, w2⟩ | ⟨wa, wb⟩
  · obtain ⟨U, q1⟩ := c_check (F := S.1.1 32) (T := S.1.1 33) (P := S.1.1 44) (sh := S.1.1 49) (md := S.1.1 35) (st := S.1.1 36) (hd := S.1.1 37) (ak := S.1.1 38) (mi := S.1.1 39) (be := S.1.1 40) (af := S.1.1 41) (wa := S.1.1 42) (ta := S.1.1 43) (w := S.1.1 45) (ad := S.1.1 46) (nu := S.1.1 47) (ol := S.1.1 48) (row := S.1.1 51) (pic := S.1.1 52) (se := S.1.1 53) hm2 hC hV w2
    obtain ⟨F', r, V, g1, g2, g3⟩ := r_check (w := S.2.1 6) (ad := S.2.1 7) (nu := S.2.1 8) (me := S.2.1 9) (ord := S.2.1 10) (im := S.2.1 11) (we := S.2.1 12) hm2 hR hV hF w2
    obtain ⟨c', d1, d2, d3⟩ := pc_check (C := S.1) q1
    obtain ⟨M', f1, f2⟩ := pm_check (M := S.2.1) g1
    obtain ⟨o, ho⟩ := sh_0 (S := S) (a := 1) (b := 6) (K := 1) d1 f1 (by rw [f2.1, g2 4 (by decide) (by decide)]; exact h4)
    exact ⟨_, ho, lq_end h d2 d3 f2 (frK_q g2) g3 (by omega) (by omega)⟩
  · have wa : m_X12_within a1 0 2 = some 0 := wa
    obtain ⟨U, hx⟩ : ∃ U : (Nat → Int32) × (Nat → Int32) × (Nat → Int32) × (Nat → Int32) × (Nat → Int32) × (Nat → Int32) × (Nat → Int32) × (Nat → Int32) × (Nat → Int32) × (Nat → Int32) × (Nat → Int32) × (Nat → Int32) × (Nat → Int32) × (Nat → Int32) × (Nat → Int32) × (Nat → Int32) × (Nat → Int32) × (Nat → Int32) × (Nat → Int32) × (Nat → Int32), m_X11_check (S.1.1 3) (S.1.1 32) (S.1.1 33) (S.1.1 44) (S.1.1 49) (S.1.1 5) (S.1.1 6) (S.1.1 7) (S.1.1 8) (S.1.1 9) (S.1.1 10) (S.1.1 11) (S.1.1 12) (S.1.1 13) (S.1.1 35) (S.1.1 36) (S.1.1 37) (S.1.1 38) (S.1.1 39) (S.1.1 40) (S.1.1 41) (S.1.1 42) (S.1.1 43) (S.1.1 45) (S.1.1 46) (S.1.1 47) (S.1.1 48) (S.1.1 51) (S.1.1 52) (S.1.1 53) a1 = some (1, 0, U) := by
      rw [m_X11_check]
      by_cases c : a1 < 0
      · rw [if_pos c]
        exact ⟨_, rfl⟩
      · obtain ⟨j, hj, rfl⟩ := nI_of c
        have := wb j hj rfl
        rw [if_neg c, if_neg (show ¬ nI j ≤ 2 from nI_ge (a := 2) (by omega) hj)]
        exact ⟨_, rfl⟩
    obtain ⟨c', d1, d2, d3⟩ := pc_check (C := S.1) hx
    obtain ⟨M', f1, f2⟩ := pm_check (M := S.2.1) (x := 0) (F := upd (upd (S.2.1 0) 4 0) 4 1) (r := S.2.1 1) (V := (S.2.1 6, S.2.1 7, S.2.1 8, S.2.1 9, S.2.1 10, S.2.1 11, S.2.1 12)) (by
      rw [m_X12_check, nm, bd_ok wa, bd_ok (r_right0 h4 (by decide))]
      dsimp only
      rw [if_pos rfl])
    obtain ⟨o, ho⟩ := sh_1 (S := S) (a := 1) (b := 6) (K := 1) (by decide) d1 f1 (by rw [f2.1]; exact h41)
    exact ⟨_, ho, lq_end h d2 d3 f2 fq1 (fun _ _ => rfl) (by omega) (by omega)⟩
/-! needless -/
def ndA (mode : Nat) (A : MA) : Nat → Nat
  | 0 => 0
  | k + 1 => ndA mode A k ||| (if (gO A >>> k) &&& 1 = 0 ∧ sndA mode A (gO A ||| 1 <<< k) = true then 1 <<< k else 0)
theorem or7 : ∀ s, s < 128 → ∀ k, k < 7 → (s ||| 1 <<< k) < 128 ∧ ((s ||| 1 <<< k) = s ↔ ¬ (s >>> k) &&& 1 = 0) := by decide +kernel
theorem orI {s k : Nat} (hk : k < 7) : nI s ||| ((1 : Int32) <<< (nI k &&& 31)) = nI (s ||| 1 <<< k) := by
  show nI s ||| (nI 1 <<< (nI k &&& nI 31)) = _
  rw [nI_and, and31 (by omega), nI_shl k (by omega), nI_or]
theorem shI {k : Nat} (hk : k < 7) : ((1 : Int32) <<< (nI k &&& 31)) = nI (1 <<< k) := by
  show (nI 1 <<< (nI k &&& nI 31)) = _
  rw [nI_and, and31 (by omega), nI_shl k (by omega)]
theorem shrI {s k : Nat} (hs : s < 128) (hk : k < 7) : ((nI s >>> (nI k &&& 31)) &&& 1) = nI ((s >>> k) &&& 1) := by
  show ((nI s >>> (nI k &&& nI 31)) &&& nI 1) = _
  rw [nI_and, and31 (by omega), nI_shr (by omega) (by omega), nI_and]
theorem c_needless_loop {F0 mdm stm hdm akm mim bem afm wam tam : Nat → Int32} {mode : Nat} {A : MA} (hm2 : mode < 2) (hC : CM F0 mdm stm hdm akm mim bem afm wam tam mode A) (hV : VM mode A) :
    ∀ (d k fuel : Nat) (Pq shq F T P sh wq adq nuq olq md st hd ak mi be af wa ta w ad nu ol row pic se : Nat → Int32), k + d = 7 → d < fuel → ∃ U : (Nat → Int32) × (Nat → Int32) × (Nat → Int32) × (Nat → Int32) × (Nat → Int32) × (Nat → Int32) × (Nat → Int32) × (Nat → Int32) × (Nat → Int32) × (Nat → Int32) × (Nat → Int32) × (Nat → Int32) × (Nat → Int32) × (Nat → Int32) × (Nat → Int32) × (Nat → Int32) × (Nat → Int32) × (Nat → Int32) × (Nat → Int32) × (Nat → Int32) × (Nat → Int32) × (Nat → Int32) × (Nat → Int32) × (Nat → Int32) × (Nat → Int32) × (Nat → Int32), m_X11_needless_w25 F0 mdm stm hdm akm mim bem afm wam tam fuel (nI (ndA mode A k)) (nI k) Pq shq F T P sh wq adq nuq olq md st hd ak mi be af wa ta w ad nu ol row pic se = some (nI (ndA mode A 7), U) := by
  intro d
  induction d with
  | zero =>
    intro k fuel Pq shq F T P sh wq adq nuq olq md st hd ak mi be af wa ta w ad nu ol row pic se hk hf
    obtain ⟨fuel, rfl⟩ : ∃ d, fuel = d + 1 := ⟨fuel - 1, by omega⟩
    rw [m_X11_needless_w25, if_pos (show (7 : Int32) ≤ nI k from nI_le (a := 7) (by omega) (by omega)), show k = 7 by omega]
    exact ⟨_, rfl⟩
  | succ d ih =>
    intro k fuel Pq shq F T P sh wq adq nuq olq md st hd ak mi be af wa ta w ad nu ol row pic se hk hf
    obtain ⟨fuel, rfl⟩ : ∃ d, fuel = d + 1 := ⟨fuel - 1, by omega⟩
    have hO := hV.2.2.2.2.1
    have ho := or7 (gO A) hO k (by omega)
    have e10 : F0 10 = nI (gO A) := hC.2.2.2.2.2.1
    rw [m_X11_needless_w25, if_neg (show ¬ (7 : Int32) ≤ nI k from nI_ge (b := 7) (by omega) (by decide)), nm, e10, orI (by omega)]
    by_cases c : (gO A ||| 1 <<< k) = gO A
    · have e1 : ndA mode A (k + 1) = ndA mode A k := by rw [ndA, if_neg (fun e => ho.2.mp c e.1), Nat.or_zero]
      rw [if_pos (by rw [c]), m_X11_needless_j81, nm, show nI k + 1 = nI (k + 1) from nI_1 _, ← e1]
      exact ih (k + 1) fuel _ _ _ _ _ _ _ _ _ _ _ _ _ _ _ _ _ _ _ _ _ _ _ _ _ _ (by omega) (by omega)
    · have c2 : (gO A >>> k) &&& 1 = 0 := Decidable.byContradiction (fun e => c (ho.2.mpr e))
      obtain ⟨U, q1, q2⟩ := c_run (h := true) (o := gO A ||| 1 <<< k) (F := F) (T := T) (P := P) (sh := sh) (md := md) (st := st) (hd := hd) (ak := ak) (mi := mi) (be := be) (af := af) (wa := wa) (ta := ta) (w := w) (ad := ad) (nu := nu) (ol := ol) (row := row) (pic := pic) (se := se) hm2 hC hV ho.1
      rw [show nI (bN true) = 1 from rfl] at q1
      rw [if_neg (fun e => c (nI_inj (by omega) (by omega) e)), bd_ok q1, bd_ok (c_isSound q2)]
      cases hs : sndA mode A (gO A ||| 1 <<< k) with
      | false =>
        have e1 : ndA mode A (k + 1) = ndA mode A k := by rw [ndA, if_neg (fun e => by rw [hs] at e; cases e.2), Nat.or_zero]
        rw [if_pos (show nI (bN false) = 0 from rfl), m_X11_needless_j79, nm, show nI (ndA mode A k) ||| 0 = nI (ndA mode A (k + 1)) by rw [e1]; exact (nI_or _ 0).trans (by rw [Nat.or_zero]), m_X11_needless_j81, nm, show nI k + 1 = nI (k + 1) from nI_1 _]
        exact ih (k + 1) fuel _ _ _ _ _ _ _ _ _ _ _ _ _ _ _ _ _ _ _ _ _ _ _ _ _ _ (by omega) (by omega)
      | true =>
        have e1 : ndA mode A (k + 1) = ndA mode A k ||| 1 <<< k := by rw [ndA, if_pos ⟨c2, hs⟩]
        rw [if_neg (show ¬ nI (bN true) = 0 by decide), m_X11_needless_j79, nm, shI (by omega), nI_or, ← e1, m_X11_needless_j81, nm, show nI k + 1 = nI (k + 1) from nI_1 _]
        exact ih (k + 1) fuel _ _ _ _ _ _ _ _ _ _ _ _ _ _ _ _ _ _ _ _ _ _ _ _ _ _ (by omega) (by omega)
theorem r_needless_loop {mode : Nat} {A : MA} (hm2 : mode < 2) (hV : VM mode A) :
    ∀ (d k fuel : Nat) (F rows w ad nu me ord im we : Nat → Int32), k + d = 7 → d < fuel → RM rows 0 A → F 12 = nI mode → ∃ (F' r : Nat → Int32) (V : (Nat → Int32) × (Nat → Int32) × (Nat → Int32) × (Nat → Int32) × (Nat → Int32) × (Nat → Int32) × (Nat → Int32)), m_X12_needless_w18 fuel (nI (ndA mode A k)) (nI k) F rows w ad nu me ord im we = some (nI (ndA mode A 7), F', r, V) ∧ frK F' F ∧ fr2 r rows := by
  intro d
  induction d with
  | zero =>
    intro k fuel F rows w ad nu me ord im we hk hf hR h12
    obtain ⟨fuel, rfl⟩ : ∃ d, fuel = d + 1 := ⟨fuel - 1, by omega⟩
    rw [m_X12_needless_w18, if_pos (show (7 : Int32) ≤ nI k from nI_le (a := 7) (by omega) (by omega)), show k = 7 by omega]
    exact ⟨F, rows, (w, ad, nu, me, ord, im, we), rfl, fun _ _ _ => rfl, fun _ _ => rfl⟩
  | succ d ih =>
    intro k fuel F rows w ad nu me ord im we hk hf hR h12
    obtain ⟨fuel, rfl⟩ : ∃ d, fuel = d + 1 := ⟨fuel - 1, by omega⟩
    have hO := hV.2.2.2.2.1
    have ho := or7 (gO A) hO k (by omega)
    have e5 : rows 773 = nI (gO A) := by have := hR.2.2.2.2.1; rw [Nat.zero_add] at this; exact this
    rw [m_X12_needless_w18, if_neg (show ¬ (7 : Int32) ≤ nI k from nI_ge (b := 7) (by omega) (by decide)), show (773 : Int32) = nI 773 from rfl, rd_nI (by decide) (by decide), e5, shrI hO (by omega)]
    by_cases c2 : (gO A >>> k) &&& 1 = 0
    · obtain ⟨F', r, w', ad', nu', me', ord', im', we', z1, z4, z5⟩ := r_isWell (w := w) (ad := ad) (nu := nu) (me := me) (ord := ord) (im := im) (we := we) hm2 hR hV h12 ho.1
      have hR' : RM r 0 A := RM_fr hV (fun j p q => z5 j (by omega)) hR
      have h12' : F' 12 = nI mode := (z4 12 (by decide) (by decide)).trans h12
      rw [if_pos (by rw [c2]; rfl), rd_nI (by decide) (by decide), e5, orI (by omega), bd_ok z1]
      dsimp only
      cases hs : sndA mode A (gO A ||| 1 <<< k) with
      | false =>
        have e1 : ndA mode A (k + 1) = ndA mode A k := by rw [ndA, if_neg (fun e => by rw [hs] at e; cases e.2), Nat.or_zero]
        rw [if_pos (show nI (bN false) = 0 from rfl), m_X12_needless_j64, nm, show nI k + 1 = nI (k + 1) from nI_1 _, ← e1]
        obtain ⟨F2, r2, V2, y1, y2, y3⟩ := ih (k + 1) fuel F' r w' ad' nu' me' ord' im' we' (by omega) (by omega) hR' h12'
        exact ⟨F2, r2, V2, y1, frK_tr y2 z4, fr2_tr y3 z5⟩
      | true =>
        have e1 : ndA mode A (k + 1) = ndA mode A k ||| 1 <<< k := by rw [ndA, if_pos ⟨c2, hs⟩]
        rw [if_neg (show ¬ nI (bN true) = 0 by decide), nm, orI (by omega), ← e1, m_X12_needless_j64, nm, show nI k + 1 = nI (k + 1) from nI_1 _]
        obtain ⟨F2, r2, V2, y1, y2, y3⟩ := ih (k + 1) fuel F' r w' ad' nu' me' ord' im' we' (by omega) (by omega) hR' h12'
        exact ⟨F2, r2, V2, y1, frK_tr y2 z4, fr2_tr y3 z5⟩
    · have e1 : ndA mode A (k + 1) = ndA mode A k := by rw [ndA, if_neg (fun e => c2 e.1), Nat.or_zero]
      have hlt : (gO A >>> k) &&& 1 ≤ 1 := Nat.and_le_right
      rw [if_neg (show ¬ nI ((gO A >>> k) &&& 1) = 0 from fun e => c2 (nI_inj (b := 0) (by omega) (by decide) e)), m_X12_needless_j64, nm, show nI k + 1 = nI (k + 1) from nI_1 _, ← e1]
      exact ih (k + 1) fuel _ _ _ _ _ _ _ _ _ (by omega) (by omega) hR h12
theorem lr_needless {n : Nat} {S : LwS} (h : LR n S) (a1 a2 a3 a4 a5 : Int32) : ∃ T, sL_needless S a1 a2 a3 a4 a5 = some T ∧ LR (n + 1) T := by
  obtain ⟨mode, G, I, b1, b2, b3, b4⟩ := id h
  have hC := LX_cm b1
  have hV := b1.2.1.1
  have hR : RM (S.2.1 1) 0 G.1 := b1.2.2.2.1.1
  have hm2 := b1.1
  have hF : S.2.1 0 12 = nI mode := b1.2.2.2.2
  have h4 : upd (S.2.1 0) 4 0 4 = 0 := upd_eq
  have h41 : upd (upd (S.2.1 0) 4 0) 4 1 4 = 1 := upd_eq
  have hF1 : upd (S.2.1 0) 4 0 12 = nI mode := (upd_ne (by decide)).trans hF
  obtain ⟨P', sh', w', ad', nu', ol', k1⟩ := c_isReady (P := S.1.1 18) (sh := S.1.1 23) (w := S.1.1 19) (ad := S.1.1 20) (nu := S.1.1 21) (ol := S.1.1 22) hC hV
  obtain ⟨F1, r1, w1, ad1, nu1, i1, i2, i3⟩ := r_isReady (w := S.2.1 6) (ad := S.2.1 7) (nu := S.2.1 8) hm2 hR hV hF1
  cases hr : rdyA mode G.1 with
  | false =>
    rw [hr] at k1 i1
    obtain ⟨c', d1, d2, d3⟩ := pc_needless (C := S.1) (x := -1) (U := (P', sh', S.1.1 32, S.1.1 33, S.1.1 44, S.1.1 49, w', ad', nu', ol', S.1.1 35, S.1.1 36, S.1.1 37, S.1.1 38, S.1.1 39, S.1.1 40, S.1.1 41, S.1.1 42, S.1.1 43, S.1.1 45, S.1.1 46, S.1.1 47, S.1.1 48, S.1.1 51, S.1.1 52, S.1.1 53)) (by
      rw [m_X11_needless, bd_ok k1, if_pos (show nI (bN false) = 0 from rfl)])
    obtain ⟨M', f1, f2⟩ := pm_needless (M := S.2.1) (x := -1) (F := F1) (r := r1) (V := (w1, ad1, nu1, S.2.1 9, S.2.1 10, S.2.1 11, S.2.1 12)) (by
      rw [m_X12_needless, nm, bd_ok i1, if_pos (show nI (bN false) = 0 from rfl)])
    refine ⟨_, (by rw [sL_needless, bd_ok d1, bd_ok f1, if_pos rfl]), lq_end h d2 d3 f2 (frK_q i2) i3 (by omega) (by omega)⟩
  | true =>
    rw [hr] at k1 i1
    obtain ⟨U, u1⟩ := c_needless_loop hm2 hC hV 7 0 fuelN P' sh' (S.1.1 32) (S.1.1 33) (S.1.1 44) (S.1.1 49) w' ad' nu' ol' (S.1.1 35) (S.1.1 36) (S.1.1 37) (S.1.1 38) (S.1.1 39) (S.1.1 40) (S.1.1 41) (S.1.1 42) (S.1.1 43) (S.1.1 45) (S.1.1 46) (S.1.1 47) (S.1.1 48) (S.1.1 51) (S.1.1 52) (S.1.1 53) (by omega) (by rw [fuel_is]; omega)
    rw [show nI (ndA mode G.1 0) = 0 from rfl, show nI 0 = 0 from rfl] at u1
    obtain ⟨F2, r2, V2, y1, y2, y3⟩ := r_needless_loop hm2 hV 7 0 fuelN F1 r1 w1 ad1 nu1 (S.2.1 9) (S.2.1 10) (S.2.1 11) (S.2.1 12) (by omega) (by rw [fuel_is]; omega) (RM_fr hV (fun j p q => i3 j (by omega)) hR) ((i2 12 (by decide) (by decide)).trans hF1)
    rw [show nI (ndA mode G.1 0) = 0 from rfl, show nI 0 = 0 from rfl] at y1
    obtain ⟨c', d1, d2, d3⟩ := pc_needless (C := S.1) (x := nI (ndA mode G.1 7)) (U := U) (by
      rw [m_X11_needless, bd_ok k1, if_neg (show ¬ nI (bN true) = 0 by decide)]
      exact u1)
    obtain ⟨M', f1, f2⟩ := pm_needless (M := S.2.1) (x := nI (ndA mode G.1 7)) (F := F2) (r := r2) (V := V2) (by
      rw [m_X12_needless, nm, bd_ok i1, if_neg (show ¬ nI (bN true) = 0 by decide)]
      exact y1)
    refine ⟨_, (by rw [sL_needless, bd_ok d1, bd_ok f1, if_pos rfl]), lq_end h d2 d3 f2 (frK_q (frK_tr y2 i2)) (fr2_tr y3 i3) (by omega) (by omega)⟩
