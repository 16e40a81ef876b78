/-! ===== a machine ===== -/
abbrev OPS : Type := List (Nat × Nat × Nat)
abbrev MA : Type := AC × MM × List OPS × Nat × Nat × (Nat → Int32) × (Nat → Nat) × (Nat → Nat)
abbrev gX (A : MA) : AC := A.1
abbrev gM (A : MA) : MM := A.2.1
abbrev gW (A : MA) : List OPS := A.2.2.1
abbrev gS (A : MA) : Nat := A.2.2.2.1
abbrev gO (A : MA) : Nat := A.2.2.2.2.1
abbrev gT (A : MA) : Nat → Int32 := A.2.2.2.2.2.1
abbrev gB (A : MA) : Nat → Nat := A.2.2.2.2.2.2.1
abbrev gA (A : MA) : Nat → Nat := A.2.2.2.2.2.2.2
def okMi (q : Nat × Nat × Nat) : Prop := (q.1 = 0 ∧ q.2.1 < 64 ∧ q.2.2 ≤ 99) ∨ (q.1 = 1 ∧ q.2.1 < 16 ∧ q.2.2 = 0) ∨ (q.1 = 2 ∧ q.2.1 = 0 ∧ q.2.2 = 0)
def stW (f : Nat → Nat) (q : Nat × Nat × Nat) : Nat → Nat := if q.1 = 0 then upN f q.2.1 q.2.2 else f
def finW (L : MM) (f : Nat → Nat) : Nat → Nat := L.foldl stW f
def micX (X : AC) (q : Nat × Nat × Nat) : AC := if q.1 = 0 then putA X q.2.1 q.2.2 else if q.1 = 1 then askA X q.2.1 else awaitN X 16
/-- the i-th entry that is taken of n, and the writes by which a memory is recovered -/
def entP (mode n i : Nat) : Nat := 4 + 2 * (if mode = 0 then n - 1 - i else i)
def cntA (m : Nat → Nat) : Nat := if 8 < m 0 then 8 else m 0
def recL (mode : Nat) (m : Nat → Nat) (n : Nat) : Nat → List (Nat × Nat)
  | 0 => []
  | i + 1 => recL mode m n i ++ (if 20 ≤ m (entP mode n i) ∧ m (entP mode n i) < 64 then [(m (entP mode n i), m (entP mode n i + 1))] else [])
def recWs (mode : Nat) (m : Nat → Nat) : List (Nat × Nat) := recL mode m (cntA m) (cntA m)
def upL (f : Nat → Nat) (ws : List (Nat × Nat)) : Nat → Nat := ws.foldl (fun f q => upN f q.1 q.2) f
def recA (mode : Nat) (m : Nat → Nat) : Nat → Nat := upN (upL m (recWs mode m)) 0 0
def VM (mode : Nat) (A : MA) : Prop := VC (gX A) ∧ (∀ q ∈ gM A, okMi q) ∧ ((gW A).length ≤ 12 ∧ ∀ ops ∈ gW A, ops.length ≤ 4 ∧ ∀ o ∈ ops, opOK o) ∧ gS A ≤ 2 ∧ gO A < 128 ∧ (gS A = 1 → gM A = [] ∧ ∀ l, l < 16 → (gX A).2.1 l = []) ∧ (gS A = 2 → ¬ gM A = []) ∧
  (¬ gS A = 1 → ∀ k, k < 44 → finW (gM A) (wordA (gX A)) (20 + k) = gA A k) ∧ (gS A = 1 → ∀ k, k < 44 → recA mode (gX A).1 (20 + k) = gA A k) ∧ (¬ gS A = 0 ∨ gM A = [] → ∀ k, k < 44 → gB A k = gA A k) ∧ ∀ k, k < 44 → gA A k ≤ 99 ∧ gB A k ≤ 99
def CMm (F mi : Nat → Int32) (M : MM) (z : Prop) : Prop := ∃ a, F 2 = nI a ∧ F 3 = nI (a + M.length) ∧ a + M.length ≤ 80 ∧ (z → a = 0) ∧ ∀ k q, M[k]? = some q → mi (a + k) = nI (mcN q)
def CMw (F wa : Nat → Int32) (W : List OPS) : Prop := F 7 = nI W.length ∧ W.length ≤ 12 ∧ ∀ i ops, W[i]? = some ops → wOps wa (4 * i) ops
def CM (F md st hd ak mi be af wa ta : Nat → Int32) (mode : Nat) (A : MA) : Prop := CC md st hd ak (gX A) ∧ CMm F mi (gM A) (gS A = 1) ∧ CMw F wa (gW A) ∧ F 8 = nI (gS A) ∧ F 9 = nI mode ∧ F 10 = nI (gO A) ∧ (∀ k, k < 8 → ta k = gT A k) ∧ (∀ k, k < 44 → be k = nI (gB A k)) ∧ ∀ k, k < 44 → af k = nI (gA A k)
def flA (A : MA) : Nat := if (gM A).length = 0 then 0 else if gS A = 2 then 2 else 1
def RMm (rows : Nat → Int32) (b : Nat) (M : MM) : Prop := ∃ a, rows (b + 775) = nI a ∧ rows (b + 774) = nI (a + M.length) ∧ a + M.length ≤ 80 ∧ (M = [] → a = 0) ∧ ∀ k q, M[k]? = some q → rows (b + 288 + 3 * (a + k)) = nI q.1 ∧ rows (b + 288 + 3 * (a + k) + 1) = mcw q ∧ rows (b + 288 + 3 * (a + k) + 2) = mcv q
def RMw (rows : Nat → Int32) (b : Nat) (W : List OPS) : Prop := rows (b + 777) = nI W.length ∧ W.length ≤ 12 ∧ ∀ i ops, W[i]? = some ops → rOps rows (b + 616 + 13 * i) ops
def RMh (rows : Nat → Int32) (b : Nat) (A : MA) : Prop := (¬ gM A = [] → ∀ k, k < 44 → rows (b + 528 + k) = nI (gB A k)) ∧ (¬ gM A = [] → gS A = 0 → ∀ k, k < 44 → rows (b + 572 + k) = nI (gA A k))
def RM (rows : Nat → Int32) (b : Nat) (A : MA) : Prop := RC rows b (gX A) ∧ RMm rows b (gM A) ∧ RMw rows b (gW A) ∧ rows (b + 772) = nI (gS A) ∧ rows (b + 773) = nI (gO A) ∧ rows (b + 776) = nI (flA A) ∧ (∀ k, k < 8 → rows (b + 778 + k) = gT A k) ∧ RMh rows b A
def frR (r rows : Nat → Int32) (b : Nat) : Prop := ∀ j, (j < b ∨ b + 786 ≤ j) → r j = rows j
theorem frR_refl {r : Nat → Int32} {b : Nat} : frR r r b := fun _ _ => rfl
theorem frR_tr {r s t : Nat → Int32} {b : Nat} (h1 : frR r s b) (h2 : frR s t b) : frR r t b := fun j a => (h1 j a).trans (h2 j a)
theorem RC_fr {rows r : Nat → Int32} {b : Nat} {X : AC} (hV : VC X) (h : ∀ j, b ≤ j → j < b + 288 → r j = rows j) (hR : RC rows b X) : RC r b X := by
  obtain ⟨q1, q2, q3, q4⟩ := hR
  refine ⟨fun w hw => ?_, fun l hl => ?_, fun l hl => ?_, fun l hl k q hk => ?_⟩
  · rw [h _ (by omega) (by omega)]; exact q1 w hw
  · rw [h _ (by omega) (by omega)]; exact q2 l hl
  · rw [h _ (by omega) (by omega)]; exact q3 l hl
  · have hlt := (List.getElem?_eq_some_iff.mp hk).1
    have := (hV.2 l hl).1
    rw [h _ (by omega) (by omega), h _ (by omega) (by omega)]; exact q4 l hl k q hk
theorem RMm_fr {rows r : Nat → Int32} {b : Nat} {M : MM} (h : ∀ j, b + 288 ≤ j → j < b + 528 → r j = rows j) (h4 : r (b + 774) = rows (b + 774)) (h5 : r (b + 775) = rows (b + 775)) (hR : RMm rows b M) : RMm r b M := by
  obtain ⟨a, q1, q2, q3, q4, q5⟩ := hR
  refine ⟨a, h5.trans q1, h4.trans q2, q3, q4, fun k q hk => ?_⟩
  have hlt := (List.getElem?_eq_some_iff.mp hk).1
  rw [h _ (by omega) (by omega), h _ (by omega) (by omega), h _ (by omega) (by omega)]
  exact q5 k q hk
theorem rOps_fr {rows r : Nat → Int32} {p p' : Nat} {ops : OPS} (h : ∀ j, j < 13 → r (p' + j) = rows (p + j)) (hR : rOps rows p ops) : rOps r p' ops := by
  obtain ⟨q1, q2, q3, q4⟩ := hR
  refine ⟨q1, q2, (h 0 (by decide)).trans q3, fun j o hj => ?_⟩
  have hlt := (List.getElem?_eq_some_iff.mp hj).1
  have h1 := h (3 * j + 1) (by omega)
  have h2 := h (3 * j + 2) (by omega)
  have h3 := h (3 * j + 3) (by omega)
  rw [← Nat.add_assoc, ← Nat.add_assoc] at h1 h2 h3
  rw [h1, h2, h3]
  exact q4 j o hj
theorem RMw_fr {rows r : Nat → Int32} {b : Nat} {W : List OPS} (h : ∀ j, b + 616 ≤ j → j < b + 772 → r j = rows j) (h7 : r (b + 777) = rows (b + 777)) (hR : RMw rows b W) : RMw r b W := by
  obtain ⟨q1, q2, q3⟩ := hR
  refine ⟨h7.trans q1, q2, fun i ops hi => ?_⟩
  have hlt := (List.getElem?_eq_some_iff.mp hi).1
  exact rOps_fr (fun j hj => h _ (by omega) (by omega)) (q3 i ops hi)
/-- a row, elsewhere -/
theorem RM_move {rows r : Nat → Int32} {b b' : Nat} {A : MA} {mode : Nat} (hV : VM mode A) (h : ∀ j, j < 786 → r (b' + j) = rows (b + j)) (hR : RM rows b A) : RM r b' A := by
  obtain ⟨⟨q1, q2, q3, q4⟩, ⟨a, m1, m2, m3, m4, m5⟩, ⟨w1, w2, w3⟩, r4, r5, r6, r7, r8, r9⟩ := hR
  have h' : ∀ i j, j < 786 → i = b' + j → r i = rows (b + j) := fun i j hj e => by rw [e]; exact h j hj
  refine ⟨⟨fun w hw => ?_, fun l hl => ?_, fun l hl => ?_, fun l hl k q hk => ?_⟩, ⟨a, ?_, ?_, m3, m4, fun k q hk => ?_⟩, ⟨?_, w2, fun i ops hi => ?_⟩, ?_, ?_, ?_, fun k hk => ?_, fun hm k hk => ?_, fun hm hs k hk => ?_⟩
  · rw [h w (by omega)]; exact q1 w hw
  · rw [h' _ (64 + l) (by omega) (by omega), ← Nat.add_assoc]; exact q2 l hl
  · rw [h' _ (80 + l) (by omega) (by omega), ← Nat.add_assoc]; exact q3 l hl
  · have hlt := (List.getElem?_eq_some_iff.mp hk).1
    have := (hV.1.2 l hl).1
    rw [h' _ (96 + 12 * l + 2 * k) (by omega) (by omega), h' _ (96 + 12 * l + 2 * k + 1) (by omega) (by omega)]
    have := q4 l hl k q hk
    simp only [Nat.add_assoc] at this ⊢
    exact this
  · rw [h' _ 775 (by omega) (by omega)]; exact m1
  · rw [h' _ 774 (by omega) (by omega)]; exact m2
  · have hlt := (List.getElem?_eq_some_iff.mp hk).1
    rw [h' _ (288 + 3 * (a + k)) (by omega) (by omega), h' _ (288 + 3 * (a + k) + 1) (by omega) (by omega), h' _ (288 + 3 * (a + k) + 2) (by omega) (by omega)]
    have := m5 k q hk
    simp only [Nat.add_assoc] at this ⊢
    exact this
  · rw [h' _ 777 (by omega) (by omega)]; exact w1
  · have hlt := (List.getElem?_eq_some_iff.mp hi).1
    refine rOps_fr (p := b + 616 + 13 * i) (fun j hj => ?_) (w3 i ops hi)
    rw [h' _ (616 + 13 * i + j) (by omega) (by omega)]
    congr 1; omega
  · rw [h' _ 772 (by omega) (by omega)]; exact r4
  · rw [h' _ 773 (by omega) (by omega)]; exact r5
  · rw [h' _ 776 (by omega) (by omega)]; exact r6
  · rw [h' _ (778 + k) (by omega) (by omega), ← Nat.add_assoc]; exact r7 k hk
  · rw [h' _ (528 + k) (by omega) (by omega), ← Nat.add_assoc]; exact r8 hm k hk
  · rw [h' _ (572 + k) (by omega) (by omega), ← Nat.add_assoc]; exact r9 hm hs k hk
theorem RM_fr {rows r : Nat → Int32} {b : Nat} {A : MA} {mode : Nat} (hV : VM mode A) (h : ∀ j, b ≤ j → j < b + 786 → r j = rows j) (hR : RM rows b A) : RM r b A := RM_move hV (fun j hj => h (b + j) (by omega) (by omega)) hR
/-! ===== a step ===== -/
def begL (X : AC) : List OPS → Nat × Option PS × List OPS
  | [] => (0, none, [])
  | o :: t => match planT X o with
    | some S => (0, some S, t)
    | none => ((begL X t).1 + 1, (begL X t).2.1, (begL X t).2.2)
def begA (mode : Nat) (A : MA) : MA × Bool := match (begL (gX A) (gW A)).2.1 with
  | none => ((gX A, gM A, (begL (gX A) (gW A)).2.2, gS A, gO A, upd (gT A) 1 (gT A 1 + nI (begL (gX A) (gW A)).1), gB A, gA A), false)
  | some S => ((gX A, microsT mode (gO A) S, (begL (gX A) (gW A)).2.2, gS A, gO A, upd (gT A) 1 (gT A 1 + nI (begL (gX A) (gW A)).1), gB A, fun k => S.1 (20 + k)), true)
def tal (ta : Nat → Int32) (k : Nat) : Nat → Int32 := upd ta k (ta k + 1)
def popA (q : Nat × Nat × Nat) (t : MM) (A : MA) : MA := (micX (gX A) q, t, gW A, if t.length = 0 then 0 else gS A, gO A, if t.length = 0 ∧ gS A = 0 then tal (tal (tal (gT A) (5 + q.1)) 4) 0 else tal (tal (gT A) (5 + q.1)) 4, if t.length = 0 ∧ gS A = 0 then gA A else gB A, gA A)
def doA (A : MA) : MA := match gM A with
  | [] => A
  | q :: t => popA q t A
def stepA (mode : Nat) (A : MA) : MA × Bool := if gS A = 1 then (A, false) else if (gM A).length = 0 then (if (begA mode A).2 = true then (doA (begA mode A).1, true) else ((begA mode A).1, false)) else (doA A, true)
theorem micX_word {X : AC} {q : Nat × Nat × Nat} (hV : VC X) (hq : okMi q) : VC (micX X q) ∧ ∀ w, wordA (micX X q) w = stW (wordA X) q w := by
  unfold micX stW
  rcases hq with ⟨h1, h2, h3⟩ | ⟨h1, h2, h3⟩ | ⟨h1, h2, h3⟩
  · rw [if_pos h1, if_pos h1]
    exact ⟨VC_put hV h2 h3, fun w => word_put hV h2⟩
  · rw [if_neg (by omega), if_pos h1, if_neg (by omega)]
    exact ⟨VC_ask hV, fun w => word_ask⟩
  · rw [if_neg (by omega), if_neg (by omega), if_neg (by omega)]
    exact ⟨VC_awaitN hV 16 (Nat.le_refl _), fun w => word_awaitN hV 16 (Nat.le_refl _)⟩
theorem finW_congr : ∀ (L : MM) (f g : Nat → Nat), (∀ w, f w = g w) → ∀ w, finW L f w = finW L g w := by
  intro L f g h w
  rw [show f = g from funext h]
theorem VM_do {mode : Nat} {A : MA} {q : Nat × Nat × Nat} {t : MM} (hV : VM mode A) (hm : gM A = q :: t) : VM mode (popA q t A) := by
  obtain ⟨v1, v2, v3, v4, v5, v6, v7, v8, v9, v10, v11⟩ := hV
  have hq : okMi q := v2 q (by rw [hm]; exact List.mem_cons_self)
  have hs1 : ¬ gS A = 1 := fun e => by rw [(v6 e).1] at hm; cases hm
  obtain ⟨x1, x2⟩ := micX_word v1 hq
  have hw : ∀ k, k < 44 → finW t (wordA (micX (gX A) q)) (20 + k) = gA A k := by
    intro k hk
    have h0 := v8 hs1 k hk
    rw [hm] at h0
    rw [finW_congr t _ _ x2]
    exact h0
  have hst : (if t.length = 0 then 0 else gS A) = 1 → False := by
    by_cases c : t.length = 0
    · rw [if_pos c]; intro e; cases e
    · rw [if_neg c]; exact hs1
  refine ⟨x1, fun z hz => v2 z (by rw [hm]; exact List.mem_cons_of_mem _ hz), v3, ?_, v5, fun e => absurd e hst, fun e => ?_, fun _ => hw, fun e => absurd e hst, fun e k hk => ?_, fun k hk => ⟨(v11 k hk).1, ?_⟩⟩
  · show (if t.length = 0 then 0 else gS A) ≤ 2
    by_cases c : t.length = 0
    · rw [if_pos c]; exact Nat.zero_le _
    · rw [if_neg c]; exact v4
  · intro ht
    have ht : t = [] := ht
    have e : (if t.length = 0 then 0 else gS A) = 2 := e
    rw [ht] at e; cases e
  · show (if t.length = 0 ∧ gS A = 0 then gA A else gB A) k = gA A k
    by_cases c : t.length = 0 ∧ gS A = 0
    · rw [if_pos c]
    · rw [if_neg c]
      refine v10 ?_ k hk
      have e : ¬ (if t.length = 0 then 0 else gS A) = 0 ∨ t = [] := e
      by_cases c2 : t.length = 0
      · exact Or.inl (fun e2 => c ⟨c2, e2⟩)
      · rw [if_neg c2] at e
        rcases e with e | e
        · exact Or.inl e
        · rw [e] at c2; exact absurd rfl c2
  · show (if t.length = 0 ∧ gS A = 0 then gA A else gB A) k ≤ 99
    by_cases c : t.length = 0 ∧ gS A = 0
    · rw [if_pos c]; exact (v11 k hk).1
    · rw [if_neg c]; exact (v11 k hk).2
/-! micros of a transaction: what they store into the heap -/
theorem finW_app {L M : MM} {f : Nat → Nat} : finW (L ++ M) f = finW M (finW L f) := by
  unfold finW; rw [List.foldl_append]
def lowMi (L : MM) : Prop := ∀ q ∈ L, okMi q ∧ (q.1 = 0 → q.2.1 < 20)
theorem low_fin : ∀ (L : MM) (f : Nat → Nat), lowMi L → ∀ w, 20 ≤ w → finW L f w = f w := by
  intro L
  induction L with
  | nil => intro f _ w _; rfl
  | cons q t ih =>
    intro f h w hw
    show finW t (stW f q) w = f w
    rw [ih (stW f q) (fun z hz => h z (List.mem_cons_of_mem _ hz)) w hw]
    unfold stW
    by_cases c : q.1 = 0
    · rw [if_pos c]
      have := (h q List.mem_cons_self).2 c
      unfold upN; rw [if_neg (by omega)]
    · rw [if_neg c]
theorem low_app {L M : MM} (h1 : lowMi L) (h2 : lowMi M) : lowMi (L ++ M) := fun q hq => (List.mem_append.mp hq).elim (h1 q) (h2 q)
theorem low_one {q : Nat × Nat × Nat} (h1 : okMi q) (h2 : q.1 = 0 → q.2.1 < 20) : lowMi [q] := fun z hz => by rw [List.mem_singleton.mp hz]; exact ⟨h1, h2⟩
theorem low_flush {s x l : Nat} (hl : l < 16) : lowMi (flushA s x l) := by
  unfold flushA
  by_cases c : s.testBit x = true
  · rw [if_pos c]; intro q hq; cases hq
  · rw [if_neg c]; exact low_one (Or.inr (Or.inl ⟨rfl, hl, rfl⟩)) (fun e => by cases e)
theorem low_fence {s x : Nat} : lowMi (fenceA s x) := by
  unfold fenceA
  by_cases c : s.testBit x = true
  · rw [if_pos c]; intro q hq; cases hq
  · rw [if_neg c]; exact low_one (Or.inr (Or.inr ⟨rfl, rfl, rfl⟩)) (fun e => by cases e)
theorem low_count {s n x y : Nat} (hn : n ≤ 99) : lowMi (countA s n x y) := low_app low_fence (low_app (low_one (Or.inl ⟨rfl, Nat.zero_lt_succ _, hn⟩) (fun _ => Nat.zero_lt_succ _)) (low_app (low_flush (by decide)) low_fence))
theorem low_entry {s i a v : Nat} (hi : i < 8) (ha : a ≤ 99) (hv : v ≤ 99) : lowMi (entryA s i a v) := by
  unfold entryA
  refine low_app (fun q hq => ?_) (low_flush (by omega))
  simp only [List.mem_cons, List.not_mem_nil, or_false] at hq
  rcases hq with rfl | rfl
  · exact ⟨Or.inl ⟨rfl, by show 4 + 2 * i < 64; omega, ha⟩, fun _ => by show 4 + 2 * i < 20; omega⟩
  · exact ⟨Or.inl ⟨rfl, by show 4 + 2 * i + 1 < 64; omega, hv⟩, fun _ => by show 4 + 2 * i + 1 < 20; omega⟩
theorem low_endM : ∀ (ls seen : List Nat), (∀ l ∈ ls, l < 16) → lowMi (endM ls seen) := by
  intro ls
  induction ls with
  | nil => intro _ _ q hq; cases hq
  | cons l t ih =>
    intro seen h
    rw [endM]
    have ht := ih (seen ++ [l]) (fun z hz => h z (List.mem_cons_of_mem _ hz))
    by_cases c : l ∈ seen
    · rw [if_pos c]; exact ht
    · rw [if_neg c]; exact low_app (L := [(1, l, 0)]) (low_one (Or.inr (Or.inl ⟨rfl, h l List.mem_cons_self, rfl⟩)) (fun e => by cases e)) ht
theorem low_end {s : Nat} {ls : List Nat} (h : ∀ l ∈ ls, l < 16) : lowMi (endA s ls) := by
  unfold endA
  refine low_app ?_ (low_count (Nat.zero_le _))
  by_cases c : s.testBit 6 = true
  · rw [if_pos c]; intro q hq; cases hq
  · rw [if_neg c, endF_is ls 0 [] h (fun l _ => by rw [Nat.zero_testBit]; simp)]
    exact low_endM ls [] h
def okAll (L : MM) : Prop := ∀ q ∈ L, okMi q
theorem okAll_app {L M : MM} (h1 : okAll L) (h2 : okAll M) : okAll (L ++ M) := fun q hq => (List.mem_append.mp hq).elim (h1 q) (h2 q)
theorem low_ok {L : MM} (h : lowMi L) : okAll L := fun q hq => (h q hq).1
theorem ok_store {a v : Nat} (ha : a < 64) (hv : v ≤ 99) : okAll [(0, a, v)] := fun q hq => by rw [List.mem_singleton.mp hq]; exact Or.inl ⟨rfl, ha, hv⟩
theorem undo_fin {s : Nat} : ∀ (ws : List (Nat × Nat × Nat)) (i : Nat) (f g : Nat → Nat), i + ws.length ≤ 8 → (∀ q ∈ ws, 20 ≤ q.1 ∧ q.1 < 64 ∧ q.2.1 ≤ 99 ∧ q.2.2 ≤ 99) → (∀ w, 20 ≤ w → f w = g w) → okAll (undoA s i ws) ∧ ∀ w, 20 ≤ w → finW (undoA s i ws) f w = endW g ws w := by
  intro ws
  induction ws with
  | nil => intro i f g _ _ h; exact ⟨fun q hq => (by cases hq), fun w hw => h w hw⟩
  | cons q t ih =>
    intro i f g hi hq h
    rw [List.length_cons] at hi
    obtain ⟨q1, q2, q3, q4⟩ := hq q List.mem_cons_self
    have hlow : lowMi (entryA s i q.1 q.2.2 ++ countA s (i + 1) 0 1) := low_app (low_entry (by omega) (by omega) q4) (low_count (by omega))
    have he : undoA s i (q :: t) = (entryA s i q.1 q.2.2 ++ countA s (i + 1) 0 1) ++ ([(0, q.1, q.2.1)] ++ undoA s (i + 1) t) := by
      rw [undoA]; simp only [List.append_assoc]
    have hstep : ∀ w, 20 ≤ w → finW [(0, q.1, q.2.1)] (finW (entryA s i q.1 q.2.2 ++ countA s (i + 1) 0 1) f) w = upN g q.1 q.2.1 w := by
      intro w hw
      show upN (finW (entryA s i q.1 q.2.2 ++ countA s (i + 1) 0 1) f) q.1 q.2.1 w = _
      unfold upN
      rw [low_fin _ _ hlow w hw, h w hw]
    obtain ⟨k1, k2⟩ := ih (i + 1) (finW [(0, q.1, q.2.1)] (finW (entryA s i q.1 q.2.2 ++ countA s (i + 1) 0 1) f)) (upN g q.1 q.2.1) (by omega) (fun z hz => hq z (List.mem_cons_of_mem _ hz)) hstep
    refine ⟨?_, fun w hw => ?_⟩
    · rw [he]; exact okAll_app (low_ok hlow) (okAll_app (ok_store q2 q3) k1)
    · rw [he, finW_app, finW_app]; exact k2 w hw
theorem stores_fin : ∀ (ws : List (Nat × Nat)) (f g : Nat → Nat), (∀ q ∈ ws, q.1 < 64 ∧ q.2 ≤ 99) → (∀ w, 20 ≤ w → f w = g w) → okAll (storesA ws) ∧ ∀ w, 20 ≤ w → finW (storesA ws) f w = upL g ws w := by
  intro ws
  induction ws with
  | nil => intro f g _ h; exact ⟨fun q hq => (by cases hq), fun w hw => h w hw⟩
  | cons q t ih =>
    intro f g hq h
    obtain ⟨q1, q2⟩ := hq q List.mem_cons_self
    obtain ⟨k1, k2⟩ := ih (upN f q.1 q.2) (upN g q.1 q.2) (fun z hz => hq z (List.mem_cons_of_mem _ hz)) (fun w hw => by unfold upN; rw [h w hw])
    refine ⟨?_, k2⟩
    show okAll ([(0, q.1, q.2)] ++ storesA t)
    exact okAll_app (ok_store q1 q2) k1
theorem redoE_low {s : Nat} : ∀ (ws : List (Nat × Nat × Nat)) (i : Nat), i + ws.length ≤ 8 → (∀ q ∈ ws, 20 ≤ q.1 ∧ q.1 < 64 ∧ q.2.1 ≤ 99 ∧ q.2.2 ≤ 99) → lowMi (redoE s i ws) := by
  intro ws
  induction ws with
  | nil => intro i _ _ q hq; cases hq
  | cons q t ih =>
    intro i hi hq
    rw [List.length_cons] at hi
    obtain ⟨q1, q2, q3, q4⟩ := hq q List.mem_cons_self
    rw [redoE]
    exact low_app (low_entry (by omega) (by omega) q3) (ih (i + 1) (by omega) (fun z hz => hq z (List.mem_cons_of_mem _ hz)))
theorem ws2_upL {w : Nat → Nat} : ∀ (ws : List (Nat × Nat × Nat)) (w : Nat → Nat), upL w (ws2 ws) = endW w ws := by
  intro ws
  induction ws with
  | nil => intro w; rfl
  | cons q t ih => intro w; exact ih (upN w q.1 q.2.1)
theorem micros_fin {mode s : Nat} {w : Nat → Nat} {S : PS} (hS : okS w S) (h8 : S.2.length ≤ 8) : okAll (microsT mode s S) ∧ ¬ microsT mode s S = [] ∧ (microsT mode s S).length ≤ 80 ∧ ∀ j, 20 ≤ j → finW (microsT mode s S) w j = S.1 j := by
  obtain ⟨s1, s2, s3, s4⟩ := hS
  have hls : ∀ l ∈ (ws2 S.2).map (fun q => q.1 / 4), l < 16 := by
    intro l hl
    obtain ⟨q, hq, rfl⟩ := List.mem_map.mp hl
    unfold ws2 at hq
    obtain ⟨z, hz, rfl⟩ := List.mem_map.mp hq
    have := (s3 z hz).2.1
    show z.1 / 4 < 16
    omega
  have hend := low_end (s := s) hls
  have hel := end_len (s := s) (ls := (ws2 S.2).map (fun q => q.1 / 4))
  have hl2 : ((ws2 S.2).map (fun q => q.1 / 4)).length = S.2.length := by unfold ws2; rw [List.length_map, List.length_map]
  have hne : ∀ L : MM, ¬ L ++ endA s ((ws2 S.2).map (fun q => q.1 / 4)) = [] := by
    intro L h
    have := (List.append_eq_nil_iff.mp h).2
    unfold endA countA at this
    have := (List.append_eq_nil_iff.mp (List.append_eq_nil_iff.mp (List.append_eq_nil_iff.mp this).2).2).1
    cases this
  unfold microsT
  refine ⟨?_, hne _, ?_, ?_⟩
  · by_cases c : mode = 0
    · rw [if_pos c]
      exact okAll_app (undo_fin S.2 0 w w (by omega) s3 (fun _ _ => rfl)).1 (low_ok hend)
    · rw [if_neg c]
      have hst : ∀ q ∈ ws2 S.2, q.1 < 64 ∧ q.2 ≤ 99 := by
        intro q hq
        unfold ws2 at hq
        obtain ⟨z, hz, rfl⟩ := List.mem_map.mp hq
        exact ⟨(s3 z hz).2.1, (s3 z hz).2.2.1⟩
      exact okAll_app (okAll_app (low_ok (redoE_low S.2 0 (by omega) s3)) (okAll_app (low_ok (low_count (by omega))) (stores_fin (ws2 S.2) w w hst (fun _ _ => rfl)).1)) (low_ok hend)
  · by_cases c : mode = 0
    · rw [if_pos c, List.length_append]
      have := undo_len (s := s) S.2 0
      omega
    · rw [if_neg c, List.length_append, List.length_append, List.length_append]
      have h1 := redo_len (s := s) S.2 0
      have h2 := count_len (s := s) (n := S.2.length) (x := 0) (y := 1)
      have h3 : (storesA (ws2 S.2)).length = S.2.length := by unfold storesA ws2; rw [List.length_map, List.length_map]
      omega
  · intro j hj
    rw [finW_app, low_fin _ _ hend j hj]
    by_cases c : mode = 0
    · rw [if_pos c, (undo_fin S.2 0 w w (by omega) s3 (fun _ _ => rfl)).2 j hj, ← s1]
    · rw [if_neg c, finW_app, finW_app]
      have hst : ∀ q ∈ ws2 S.2, q.1 < 64 ∧ q.2 ≤ 99 := by
        intro q hq
        unfold ws2 at hq
        obtain ⟨z, hz, rfl⟩ := List.mem_map.mp hq
        exact ⟨(s3 z hz).2.1, (s3 z hz).2.2.1⟩
      rw [(stores_fin (ws2 S.2) _ w hst (fun v hv => by rw [low_fin _ _ (low_count (by omega)) v hv, low_fin _ _ (redoE_low S.2 0 (by omega) s3) v hv])).2 j hj, ws2_upL (w := w), ← s1]
theorem begL_sub (X : AC) : ∀ W : List OPS, (begL X W).1 + (begL X W).2.2.length ≤ W.length ∧ (∀ o ∈ (begL X W).2.2, o ∈ W) ∧ ∀ S, (begL X W).2.1 = some S → ∃ o ∈ W, planT X o = some S := by
  intro W
  induction W with
  | nil => exact ⟨Nat.le_refl _, fun o ho => ho, fun S h => by cases h⟩
  | cons o t ih =>
    obtain ⟨i1, i2, i3⟩ := ih
    rw [begL]
    cases hp : planT X o with
    | some S => exact ⟨by show 0 + t.length ≤ (o :: t).length; rw [List.length_cons]; omega, fun z hz => List.mem_cons_of_mem _ hz, fun S' h => ⟨o, List.mem_cons_self, by rw [hp]; exact h⟩⟩
    | none =>
      refine ⟨?_, fun z hz => List.mem_cons_of_mem _ (i2 z hz), fun S' h => ?_⟩
      · show (begL X t).1 + 1 + (begL X t).2.2.length ≤ (o :: t).length
        rw [List.length_cons]; omega
      · obtain ⟨z, z1, z2⟩ := i3 S' h
        exact ⟨z, List.mem_cons_of_mem _ z1, z2⟩
theorem VM_beg {mode : Nat} {A : MA} (hV : VM mode A) (h0 : gS A = 0) (hm : gM A = []) : VM mode (begA mode A).1 ∧ gS (begA mode A).1 = 0 ∧ ((begA mode A).2 = true → ¬ gM (begA mode A).1 = []) := by
  obtain ⟨v1, v2, ⟨v3, v3'⟩, v4, v5, v6, v7, v8, v9, v10, v11⟩ := id hV
  obtain ⟨b1, b2, b3⟩ := begL_sub (gX A) (gW A)
  unfold begA
  cases hb : (begL (gX A) (gW A)).2.1 with
  | none =>
    refine ⟨⟨v1, v2, ⟨?_, fun o ho => v3' o (b2 o ho)⟩, v4, v5, v6, v7, v8, v9, v10, v11⟩, h0, fun e => by cases e⟩
    show (begL (gX A) (gW A)).2.2.length ≤ 12
    omega
  | some S =>
    obtain ⟨o, o1, o2⟩ := b3 S hb
    obtain ⟨p1, p2⟩ := planT_ok v1 (v3' o o1).2 o2
    obtain ⟨f1, f2, f3, f4⟩ := micros_fin (mode := mode) (s := gO A) p1 p2
    refine ⟨⟨v1, f1, ⟨?_, fun o ho => v3' o (b2 o ho)⟩, v4, v5, fun e => ?_, fun e => ?_, fun _ k hk => f4 (20 + k) (by omega), fun e => ?_, fun e => ?_, fun k hk => ⟨p1.2.2.2 (20 + k) (by omega), (v11 k hk).2⟩⟩, h0, fun _ => f2⟩
    · show (begL (gX A) (gW A)).2.2.length ≤ 12
      omega
    · have e : gS A = 1 := e
      omega
    · have e : gS A = 2 := e
      omega
    · have e : gS A = 1 := e
      omega
    · rcases e with e | e
      · exact absurd h0 e
      · exact absurd e f2
theorem VM_step {mode : Nat} {A : MA} (hV : VM mode A) : VM mode (stepA mode A).1 := by
  unfold stepA
  by_cases c : gS A = 1
  · rw [if_pos c]; exact hV
  · rw [if_neg c]
    by_cases c2 : (gM A).length = 0
    · rw [if_pos c2]
      have hm : gM A = [] := List.length_eq_zero_iff.mp c2
      have h0 : gS A = 0 := by
        have h4 := hV.2.2.2.1
        have h7 := hV.2.2.2.2.2.2.1
        by_cases e : gS A = 2
        · exact absurd hm (h7 e)
        · omega
      obtain ⟨b1, b2, b3⟩ := VM_beg hV h0 hm
      by_cases c3 : (begA mode A).2 = true
      · rw [if_pos c3]
        show VM mode (doA (begA mode A).1)
        unfold doA
        cases hq : gM (begA mode A).1 with
        | nil => exact b1
        | cons q t => exact VM_do b1 hq
      · rw [if_neg c3]; exact b1
    · rw [if_neg c2]
      show VM mode (doA A)
      unfold doA
      cases hq : gM A with
      | nil => exact hV
      | cons q t => exact VM_do hV hq
