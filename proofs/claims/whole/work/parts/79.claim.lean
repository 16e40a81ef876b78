/-- THE PURE STATEMENT: the law's run, step by step, comes to its end for every script -/
def Pure : Prop := ∃ rows1 : Nat → Int32, m_X12_begins (fun _ => 0) = some rows1 ∧ ∀ (L : Nat) (xs : Nat → Int32), L ≤ 3072 → ∃ S9 : LwS, runL xs (L / 6) 0 (S00 rows1) = some S9
theorem whole_start0 (hpure : Pure) {p : Program} {e : Env} {s : State} {m : MethodId} {below : List Frame} {meth : Method} {c : Code} (l : Launch) (hflags : l.flags = flags0) {b L : Nat} {xs : Nat → Int32} (hL : L ≤ 3072) (C0 : lw_At p s m meth c b L xs) : W p l e room_1 s m #[Value.ref b] below meth c s.heap [] 0 0 (lw_Z below #[Value.ref b] s) (entryFrame m ([Value.ref b] : List Value).toArray 7) := by
  obtain ⟨rows1, hB, h⟩ := hpure
  obtain ⟨S9, h9⟩ := h L xs hL
  exact law_enter l hflags hL C0 rows1 hB S9 h9
