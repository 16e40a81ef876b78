/-! ===== what the premises say of the start ===== -/
def flW : List Cond := flatC (Jvm.Cond.and given_1 narrow_1)
theorem sx_start {args : Array Value} {s : State} (C n d : String) (ty : FieldType) (N : Nat) (K : Nat → Int32) (base : Nat) (hs : ∀ c ∈ flW, c.before args s = true) (hN : N < 2 ^ 31) (h1 : flW[base]? = some (.arrayOf (.static C n d) ty)) (h2 : flW[base + 1]? = some (.eq (.length (.static C n d)) (.int (Int32.ofNat N)))) (h3 : ∀ j, j < N → flW[base + 2 + j]? = some (.eq (.elem (.static C n d) (.int (Int32.ofNat j))) (.int (K j)))) (hl : (Cond.laysStatic C n d).before args s = true) (hini : (Cond.initialized C).before args s = true) : sx1 C n d ty N K (lA s) s := by
  have hA : ∀ a : Nat, a < s.heap.size → ¬ lA s a := fun a h => Nat.not_le.mpr h
  obtain ⟨t, ht, hT⟩ := va_Tof (A := lA s) (f := fun j => .int (K j)) hN (hs _ (List.mem_of_getElem? h1)) (va_eqt (hs _ (List.mem_of_getElem? h2))) (fun j hj => va_eqt (hs _ (List.mem_of_getElem? (h3 j hj)))) hA
  exact ⟨t, va_Zof hl hini ht hA, hT⟩
def SkT (own : String) (k : Nat) (tx : String) (bs : List Int32) (s : State) : Prop := ∃ q : Nat × Nat, vk_R own k tx q.1 s ∧ va_O "java/lang/String" q.1 (lA s) s s.heap ∧ va_OF "java/lang/String" "coder" "B" (.int 0) q.1 (lA s) s s.heap ∧ va_OF "java/lang/String" "value" "[B" (.ref q.2) q.1 (lA s) s s.heap ∧ va_T .byte q.2 bs.length (fun j => .int (bs.getD j 0)) (lA s) s s.heap
theorem sk_start {args : Array Value} {s : State} (own : String) (k : Nat) (tx : String) (bs : List Int32) (base : Nat) (hs : ∀ c ∈ flW, c.before args s = true) (hr : (Cond.stringRef own k tx).before args s = true) (hN : bs.length < 2 ^ 31) (h0 : flW[base]? = some (.exactly (.string own k) "java/lang/String")) (h1 : flW[base + 1]? = some (.eq (.field (.string own k) "java/lang/String" "coder" "B") (.int 0))) (h2 : flW[base + 2]? = some (.arrayOf (.field (.string own k) "java/lang/String" "value" "[B") .byte)) (h3 : flW[base + 3]? = some (.eq (.length (.field (.string own k) "java/lang/String" "value" "[B")) (.int (Int32.ofNat bs.length))))
    (h4 : ∀ j, j < bs.length → flW[base + 4 + j]? = some (.eq (.elem (.field (.string own k) "java/lang/String" "value" "[B") (.int (Int32.ofNat j))) (.int (bs.getD j 0)))) :
    SkT own k tx bs s := by
  have hA : ∀ a : Nat, a < s.heap.size → ¬ lA s a := fun a h => Nat.not_le.mpr h
  obtain ⟨a, c, cA, kA, q1, q2, q3, q4, q5, q6, -⟩ := Cond.exactly_spec (args := args) (first := s) (o := none) (s := s) (idx := []) (t := .string own k) (cls := "java/lang/String") (hs _ (List.mem_of_getElem? h0))
  obtain ⟨t, ht, hT⟩ := va_Tof (f := fun j => .int (bs.getD j 0)) (A := lA s) hN (hs _ (List.mem_of_getElem? h2)) (va_eqt (hs _ (List.mem_of_getElem? h3))) (fun j hj => va_eqt (hs _ (List.mem_of_getElem? (h4 j hj)))) hA
  exact ⟨(a, t), vk_R.of hr q1, ⟨cA, q3, q5, by rw [q6]; exact q2, hA a (Array.getElem?_eq_some_iff.mp q3).1⟩, vk_OFof q1 (va_eqt (hs _ (List.mem_of_getElem? h1))) hA, vk_OFof q1 ht hA, hT⟩
theorem st_start {args : Array Value} {s : State} (own : String) (k : Nat) (tx : String) (base : Nat) (hs : ∀ c ∈ flW, c.before args s = true) (hr : (Cond.stringRef own k tx).before args s = true) (h0 : flW[base]? = some (.exactly (.string own k) "java/lang/String")) : ∃ a : Nat, vk_R own k tx a s := by
  obtain ⟨a, c, cA, kA, q1, q2, q3, q4, q5, q6, -⟩ := Cond.exactly_spec (args := args) (first := s) (o := none) (s := s) (idx := []) (t := .string own k) (cls := "java/lang/String") (hs _ (List.mem_of_getElem? h0))
  exact ⟨a, vk_R.of hr q1⟩
theorem nst_start {args : Array Value} {s : State} (hts : ∀ w ∈ lw_tbl, w.before args s = true) : ∀ w ∈ NST, va_Nw w s := by
  intro w hw
  obtain ⟨h1, h2⟩ := List.mem_filter.mp hw
  exact va_Nw.of (by cases w <;> first | rfl | (simp [isNest] at h2)) (hts w h1)
theorem cst_start {args : Array Value} {s : State} (hts : ∀ w ∈ lw_tbl, w.before args s = true) : ∀ w ∈ CST, va_Nw w s := by
  intro w hw
  obtain ⟨h1, h2⟩ := List.mem_filter.mp hw
  exact va_Nw.of (by cases w <;> first | rfl | (simp [isCast] at h2)) (hts w h1)
theorem sx_ARGUMENTS {args : Array Value} {s : State} (hts : ∀ w ∈ lw_tbl, w.before args s = true) (hs : ∀ c ∈ flW, c.before args s = true) : sx1 "FenceHeap" "ARGUMENTS" "[I" .int 5 K_ARGUMENTS (lA s) s := sx_start _ _ _ _ _ _ 12 hs (by decide) (by decide +kernel) (by decide +kernel) (by decide +kernel) (hts _ (List.mem_of_getElem? (i := 1071) (by decide +kernel))) (hts _ (List.mem_of_getElem? (i := 111) (by decide +kernel)))
theorem sx_FIRST_LEAST {args : Array Value} {s : State} (hts : ∀ w ∈ lw_tbl, w.before args s = true) (hs : ∀ c ∈ flW, c.before args s = true) : sx1 "FenceHeap" "FIRST_LEAST" "[I" .int 5 K_FIRST_LEAST (lA s) s := sx_start _ _ _ _ _ _ 20 hs (by decide) (by decide +kernel) (by decide +kernel) (by decide +kernel) (hts _ (List.mem_of_getElem? (i := 1073) (by decide +kernel))) (hts _ (List.mem_of_getElem? (i := 111) (by decide +kernel)))
theorem sx_FIRST_MOST {args : Array Value} {s : State} (hts : ∀ w ∈ lw_tbl, w.before args s = true) (hs : ∀ c ∈ flW, c.before args s = true) : sx1 "FenceHeap" "FIRST_MOST" "[I" .int 5 K_FIRST_MOST (lA s) s := sx_start _ _ _ _ _ _ 28 hs (by decide) (by decide +kernel) (by decide +kernel) (by decide +kernel) (hts _ (List.mem_of_getElem? (i := 1075) (by decide +kernel))) (hts _ (List.mem_of_getElem? (i := 111) (by decide +kernel)))
theorem sx_SECOND_MOST {args : Array Value} {s : State} (hts : ∀ w ∈ lw_tbl, w.before args s = true) (hs : ∀ c ∈ flW, c.before args s = true) : sx1 "FenceHeap" "SECOND_MOST" "[I" .int 5 K_SECOND_MOST (lA s) s := sx_start _ _ _ _ _ _ 36 hs (by decide) (by decide +kernel) (by decide +kernel) (by decide +kernel) (hts _ (List.mem_of_getElem? (i := 1077) (by decide +kernel))) (hts _ (List.mem_of_getElem? (i := 111) (by decide +kernel)))
theorem sx_KNOWN {args : Array Value} {s : State} (hts : ∀ w ∈ lw_tbl, w.before args s = true) (hs : ∀ c ∈ flW, c.before args s = true) : sx1 "FenceHeapModel" "KNOWN" "[B" .byte 75 K_KNOWN (lA s) s := sx_start _ _ _ _ _ _ 44 hs (by decide) (by decide +kernel) (by decide +kernel) (by decide +kernel) (hts _ (List.mem_of_getElem? (i := 1536) (by decide +kernel))) (hts _ (List.mem_of_getElem? (i := 123) (by decide +kernel)))
theorem sk_0 {args : Array Value} {s : State} (hts : ∀ w ∈ lw_tbl, w.before args s = true) (hs : ∀ c ∈ flW, c.before args s = true) : SkT RX6 112 "undo" [117, 110, 100, 111] s := sk_start (args := args) (s := s) RX6 112 "undo" [117, 110, 100, 111] 183 hs (hts _ (List.mem_of_getElem? (i := 957) (by decide +kernel))) (by decide) (by decide +kernel) (by decide +kernel) (by decide +kernel) (by decide +kernel) (by decide +kernel)
theorem sk_1 {args : Array Value} {s : State} (hts : ∀ w ∈ lw_tbl, w.before args s = true) (hs : ∀ c ∈ flW, c.before args s = true) : SkT RX6 121 "redo" [114, 101, 100, 111] s := sk_start (args := args) (s := s) RX6 121 "redo" [114, 101, 100, 111] 191 hs (hts _ (List.mem_of_getElem? (i := 1022) (by decide +kernel))) (by decide) (by decide +kernel) (by decide +kernel) (by decide +kernel) (by decide +kernel) (by decide +kernel)
theorem sk_2 {args : Array Value} {s : State} (hts : ∀ w ∈ lw_tbl, w.before args s = true) (hs : ∀ c ∈ flW, c.before args s = true) : SkT RX6 123 "without" [119, 105, 116, 104, 111, 117, 116] s := sk_start (args := args) (s := s) RX6 123 "without" [119, 105, 116, 104, 111, 117, 116] 199 hs (hts _ (List.mem_of_getElem? (i := 1023) (by decide +kernel))) (by decide) (by decide +kernel) (by decide +kernel) (by decide +kernel) (by decide +kernel) (by decide +kernel)
theorem sk_3 {args : Array Value} {s : State} (hts : ∀ w ∈ lw_tbl, w.before args s = true) (hs : ∀ c ∈ flW, c.before args s = true) : SkT RX6 128 "chain" [99, 104, 97, 105, 110] s := sk_start (args := args) (s := s) RX6 128 "chain" [99, 104, 97, 105, 110] 210 hs (hts _ (List.mem_of_getElem? (i := 1028) (by decide +kernel))) (by decide) (by decide +kernel) (by decide +kernel) (by decide +kernel) (by decide +kernel) (by decide +kernel)
theorem sk_4 {args : Array Value} {s : State} (hts : ∀ w ∈ lw_tbl, w.before args s = true) (hs : ∀ c ∈ flW, c.before args s = true) : SkT RX6 133 "leak" [108, 101, 97, 107] s := sk_start (args := args) (s := s) RX6 133 "leak" [108, 101, 97, 107] 219 hs (hts _ (List.mem_of_getElem? (i := 1042) (by decide +kernel))) (by decide) (by decide +kernel) (by decide +kernel) (by decide +kernel) (by decide +kernel) (by decide +kernel)
theorem sk_5 {args : Array Value} {s : State} (hts : ∀ w ∈ lw_tbl, w.before args s = true) (hs : ∀ c ∈ flW, c.before args s = true) : SkT RX6 138 "data" [100, 97, 116, 97] s := sk_start (args := args) (s := s) RX6 138 "data" [100, 97, 116, 97] 227 hs (hts _ (List.mem_of_getElem? (i := 1047) (by decide +kernel))) (by decide) (by decide +kernel) (by decide +kernel) (by decide +kernel) (by decide +kernel) (by decide +kernel)
theorem sk_6 {args : Array Value} {s : State} (hts : ∀ w ∈ lw_tbl, w.before args s = true) (hs : ∀ c ∈ flW, c.before args s = true) : SkT RX6 143 "do" [100, 111] s := sk_start (args := args) (s := s) RX6 143 "do" [100, 111] 235 hs (hts _ (List.mem_of_getElem? (i := 1052) (by decide +kernel))) (by decide) (by decide +kernel) (by decide +kernel) (by decide +kernel) (by decide +kernel) (by decide +kernel)
theorem sk_7 {args : Array Value} {s : State} (hts : ∀ w ∈ lw_tbl, w.before args s = true) (hs : ∀ c ∈ flW, c.before args s = true) : SkT RX6 182 "new" [110, 101, 119] s := sk_start (args := args) (s := s) RX6 182 "new" [110, 101, 119] 241 hs (hts _ (List.mem_of_getElem? (i := 1065) (by decide +kernel))) (by decide) (by decide +kernel) (by decide +kernel) (by decide +kernel) (by decide +kernel) (by decide +kernel)
theorem sk_8 {args : Array Value} {s : State} (hts : ∀ w ∈ lw_tbl, w.before args s = true) (hs : ∀ c ∈ flW, c.before args s = true) : SkT RX6 184 "drop" [100, 114, 111, 112] s := sk_start (args := args) (s := s) RX6 184 "drop" [100, 114, 111, 112] 248 hs (hts _ (List.mem_of_getElem? (i := 1066) (by decide +kernel))) (by decide) (by decide +kernel) (by decide +kernel) (by decide +kernel) (by decide +kernel) (by decide +kernel)
theorem sk_9 {args : Array Value} {s : State} (hts : ∀ w ∈ lw_tbl, w.before args s = true) (hs : ∀ c ∈ flW, c.before args s = true) : SkT RX6 186 "move" [109, 111, 118, 101] s := sk_start (args := args) (s := s) RX6 186 "move" [109, 111, 118, 101] 256 hs (hts _ (List.mem_of_getElem? (i := 1067) (by decide +kernel))) (by decide) (by decide +kernel) (by decide +kernel) (by decide +kernel) (by decide +kernel) (by decide +kernel)
theorem sk_10 {args : Array Value} {s : State} (hts : ∀ w ∈ lw_tbl, w.before args s = true) (hs : ∀ c ∈ flW, c.before args s = true) : SkT RX6 188 "set" [115, 101, 116] s := sk_start (args := args) (s := s) RX6 188 "set" [115, 101, 116] 264 hs (hts _ (List.mem_of_getElem? (i := 1068) (by decide +kernel))) (by decide) (by decide +kernel) (by decide +kernel) (by decide +kernel) (by decide +kernel) (by decide +kernel)
theorem sk_11 {args : Array Value} {s : State} (hts : ∀ w ∈ lw_tbl, w.before args s = true) (hs : ∀ c ∈ flW, c.before args s = true) : SkT RX6 190 "sweep" [115, 119, 101, 101, 112] s := sk_start (args := args) (s := s) RX6 190 "sweep" [115, 119, 101, 101, 112] 271 hs (hts _ (List.mem_of_getElem? (i := 1069) (by decide +kernel))) (by decide) (by decide +kernel) (by decide +kernel) (by decide +kernel) (by decide +kernel) (by decide +kernel)
theorem tx_start {args : Array Value} {s : State} (hts : ∀ w ∈ lw_tbl, w.before args s = true) (hs : ∀ c ∈ flW, c.before args s = true) : ∀ q ∈ TXS, ∃ a : Nat, vk_R RX11 q.1 q.2 a s := by
  intro q hq
  simp only [TXS, List.mem_cons, List.not_mem_nil, or_false] at hq
  rcases hq with rfl | rfl | rfl | rfl | rfl | rfl | rfl | rfl | rfl | rfl | rfl | rfl | rfl | rfl | rfl | rfl | rfl
  · exact st_start RX11 89 "the tape has not so many bytes" 149 hs (hts _ (List.mem_of_getElem? (i := 909) (by decide +kernel))) (by decide +kernel)
  · exact st_start RX11 157 "no such count" 280 hs (hts _ (List.mem_of_getElem? (i := 1108) (by decide +kernel))) (by decide +kernel)
  · exact st_start RX11 164 "no such word" 297 hs (hts _ (List.mem_of_getElem? (i := 1122) (by decide +kernel))) (by decide +kernel)
  · exact st_start RX11 176 "no such line" 313 hs (hts _ (List.mem_of_getElem? (i := 1137) (by decide +kernel))) (by decide +kernel)
  · exact st_start RX11 184 "no such store" 329 hs (hts _ (List.mem_of_getElem? (i := 1138) (by decide +kernel))) (by decide +kernel)
  · exact st_start RX11 189 "no such micro, or nothing such of it" 346 hs (hts _ (List.mem_of_getElem? (i := 1146) (by decide +kernel))) (by decide +kernel)
  · exact st_start RX11 201 "no such shape" 386 hs (hts _ (List.mem_of_getElem? (i := 1154) (by decide +kernel))) (by decide +kernel)
  · exact st_start RX11 264 "no such op" 403 hs (hts _ (List.mem_of_getElem? (i := 1178) (by decide +kernel))) (by decide +kernel)
  · exact st_start RX11 289 "no such site" 417 hs (hts _ (List.mem_of_getElem? (i := 1197) (by decide +kernel))) (by decide +kernel)
  · exact st_start RX11 295 "no such order" 433 hs (hts _ (List.mem_of_getElem? (i := 1205) (by decide +kernel))) (by decide +kernel)
  · exact st_start RX11 297 "no such answer of a check" 450 hs (hts _ (List.mem_of_getElem? (i := 1220) (by decide +kernel))) (by decide +kernel)
  · exact st_start RX11 322 "no such answer of the least" 479 hs (hts _ (List.mem_of_getElem? (i := 1228) (by decide +kernel))) (by decide +kernel)
  · exact st_start RX11 329 "no such part of a fraction" 510 hs (hts _ (List.mem_of_getElem? (i := 1242) (by decide +kernel))) (by decide +kernel)
  · exact st_start RX11 348 "no such answer of what is explained" 540 hs (hts _ (List.mem_of_getElem? (i := 1256) (by decide +kernel))) (by decide +kernel)
  · exact st_start RX11 361 "no such answer of where to look" 579 hs (hts _ (List.mem_of_getElem? (i := 1286) (by decide +kernel))) (by decide +kernel)
  · exact st_start RX11 367 "no such answer of years" 614 hs (hts _ (List.mem_of_getElem? (i := 1304) (by decide +kernel))) (by decide +kernel)
  · exact st_start RX11 369 "not so many years" 641 hs (hts _ (List.mem_of_getElem? (i := 1305) (by decide +kernel))) (by decide +kernel)
set_option maxHeartbeats 4000000 in
theorem KS_start {args : Array Value} {s : State} (hts : ∀ w ∈ lw_tbl, w.before args s = true) (hs : ∀ c ∈ flW, c.before args s = true) : ∃ (D : va_G) (cI : ClassId), KK D cI s ∧ SX D (lA s) s := by
  have hA : ∀ a : Nat, a < s.heap.size → ¬ lA s a := fun a h => Nat.not_le.mpr h
  have htb : ∀ w ∈ TB, w.before args s = true := fun w h => hts w (List.mem_filter.mp h).1
  obtain ⟨c0, i0, hk0⟩ := u_known (C := RX0) (T := TX0) (N := 5) (n := 5) htb inT_X0 (htb _ tu_X0)
  obtain ⟨c1, i1, hk1⟩ := u_known (C := RX1) (T := TX1) (N := 4) (n := 4) htb inT_X1 (htb _ tu_X1)
  obtain ⟨c2, i2, hk2⟩ := u_known (C := RX2) (T := TX2) (N := 7) (n := 7) htb inT_X2 (htb _ tu_X2)
  obtain ⟨c3, i3, hk3⟩ := u_known (C := RX3) (T := TX3) (N := 3) (n := 3) htb inT_X3 (htb _ tu_X3)
  obtain ⟨c4, i4, hk4⟩ := u_known (C := RX4) (T := TX4) (N := 12) (n := 12) htb inT_X4 (htb _ tu_X4)
  obtain ⟨c5, i5, hk5⟩ := u_known (C := RX5) (T := TX5) (N := 7) (n := 7) htb inT_X5 (htb _ tu_X5)
  obtain ⟨c6, i6, hk6⟩ := u_known (C := RX6) (T := TX6) (N := 11) (n := 11) htb inT_X6 (htb _ tu_X6)
  obtain ⟨c7, i7, hk7⟩ := u_known (C := RX7) (T := TX7) (N := 5) (n := 5) htb inT_X7 (htb _ tu_X7)
  obtain ⟨c8, i8, hk8⟩ := u_known (C := RX8) (T := TX8) (N := 2) (n := 2) htb inT_X8 (htb _ tu_X8)
  obtain ⟨c9, i9, hk9⟩ := u_known (C := RX9) (T := TX9) (N := 3) (n := 3) htb inT_X9 (htb _ tu_X9)
  obtain ⟨c10, i10, hk10⟩ := u_known (C := RX10) (T := TX10) (N := 6) (n := 6) htb inT_X10 (htb _ tu_X10)
  obtain ⟨c11, i11, hk11⟩ := u_known (C := RX11) (T := TX11) (N := 13) (n := 13) htb inT_X11 (htb _ tu_X11)
  obtain ⟨c12, i12, hk12⟩ := u_known (C := RX12) (T := TX12) (N := 51) (n := 51) htb inT_X12 (htb _ tu_X12)
  obtain ⟨q0, hq0⟩ := sk_0 hts hs
  obtain ⟨q1, hq1⟩ := sk_1 hts hs
  obtain ⟨q2, hq2⟩ := sk_2 hts hs
  obtain ⟨q3, hq3⟩ := sk_3 hts hs
  obtain ⟨q4, hq4⟩ := sk_4 hts hs
  obtain ⟨q5, hq5⟩ := sk_5 hts hs
  obtain ⟨q6, hq6⟩ := sk_6 hts hs
  obtain ⟨q7, hq7⟩ := sk_7 hts hs
  obtain ⟨q8, hq8⟩ := sk_8 hts hs
  obtain ⟨q9, hq9⟩ := sk_9 hts hs
  obtain ⟨q10, hq10⟩ := sk_10 hts hs
  obtain ⟨q11, hq11⟩ := sk_11 hts hs
  obtain ⟨aI, kI, pI, a1, a2, a3⟩ := Cond.arrayClass_spec (args := args) (first := s) (o := none) (s := s) (idx := []) (hts (.arrayClass .int) (List.mem_of_getElem? (i := 190) (by decide +kernel)))
  obtain ⟨aL, kL, pL, b1, b2, b3⟩ := Cond.arrayClass_spec (args := args) (first := s) (o := none) (s := s) (idx := []) (hts (.arrayClass .long) (List.mem_of_getElem? (i := 1930) (by decide +kernel)))
  have hao := hts (.arrayOver (.object "FenceHeap$Machine")) (List.mem_of_getElem? (i := 256) (by decide +kernel))
  obtain ⟨pM, aM, kM, m1, m2, m3, m4, m5⟩ := Cond.arrayOver_spec (args := args) (first := s) (o := none) (s := s) (idx := []) hao
  refine ⟨(fun k => if k = 100 then aM else if k = 101 then aL else ([c0, c1, c2, c3, c4, c5, c6, c7, c8, c9, c10, c11, c12] : List ClassId).getD k c0, fun k => if k = 200 then (fun i => ([q0.1, q1.1, q2.1, q3.1, q4.1, q5.1, q6.1, q7.1, q8.1, q9.1, q10.1, q11.1] : List Nat).getD i 0) else if k = 201 then (fun i => ([q0.2, q1.2, q2.2, q3.2, q4.2, q5.2, q6.2, q7.2, q8.2, q9.2, q10.2, q11.2] : List Nat).getD i 0) else ([i0, i1, i2, i3, i4, i5, i6, i7, i8, i9, i10, i11, i12] : List (Nat → Nat)).getD k i0), aI, ⟨⟨?_, ?_⟩, nst_start hts, va_AO.of hao, cst_start hts, va_Nc.of (hs _ (List.mem_of_getElem? (i := 148) (by decide +kernel)))⟩, sx_ARGUMENTS hts hs, sx_FIRST_LEAST hts hs, sx_FIRST_MOST hts hs, sx_SECOND_MOST hts hs, sx_KNOWN hts hs, ⟨?_, ?_, ?_, ?_⟩, ?_, tx_start hts hs⟩
  · intro k q hq
    match k, hq with
    | 0, hq => cases hq; exact hk0
    | 1, hq => cases hq; exact hk1
    | 2, hq => cases hq; exact hk2
    | 3, hq => cases hq; exact hk3
    | 4, hq => cases hq; exact hk4
    | 5, hq => cases hq; exact hk5
    | 6, hq => cases hq; exact hk6
    | 7, hq => cases hq; exact hk7
    | 8, hq => cases hq; exact hk8
    | 9, hq => cases hq; exact hk9
    | 10, hq => cases hq; exact hk10
    | 11, hq => cases hq; exact hk11
    | 12, hq => cases hq; exact hk12
    | k + 13, hq => simp [vwCl] at hq
  · intro k q hq
    match k, hq with
    | 0, hq => cases hq; exact ⟨fun n z => ⟨fun k h => (by cases h), kI, a2, pI, a3⟩, a1⟩
    | 1, hq => cases hq; exact ⟨fun n z => ⟨fun k h => (by cases h), kM, m3, pM, m4⟩, kM, pM, m3, m4, m1, m5⟩
    | 2, hq => cases hq; exact ⟨fun n z => ⟨fun k h => (by cases h), kL, b2, pL, b3⟩, b1⟩
    | k + 3, hq => simp at hq
  · exact va_Zof (hts _ (List.mem_of_getElem? (i := 971) (by decide +kernel))) (hts _ (List.mem_of_getElem? (i := 130) (by decide +kernel))) (va_eqt (hs _ (List.mem_of_getElem? (i := 6) (by decide +kernel)))) hA
  · exact va_Zqof (hts _ (List.mem_of_getElem? (i := 987) (by decide +kernel))) (hts _ (List.mem_of_getElem? (i := 132) (by decide +kernel))) (hs _ (List.mem_of_getElem? (i := 7) (by decide +kernel))) hA
  · exact vx_Zqof (hts _ (List.mem_of_getElem? (i := 896) (by decide +kernel))) (hts _ (List.mem_of_getElem? (i := 124) (by decide +kernel))) (hs _ (List.mem_of_getElem? (i := 4) (by decide +kernel))) hA
  · exact vx_Zqof (hts _ (List.mem_of_getElem? (i := 898) (by decide +kernel))) (hts _ (List.mem_of_getElem? (i := 124) (by decide +kernel))) (hs _ (List.mem_of_getElem? (i := 5) (by decide +kernel))) hA
  · intro i q hq
    match i, hq with
    | 0, hq => cases hq; exact hq0
    | 1, hq => cases hq; exact hq1
    | 2, hq => cases hq; exact hq2
    | 3, hq => cases hq; exact hq3
    | 4, hq => cases hq; exact hq4
    | 5, hq => cases hq; exact hq5
    | 6, hq => cases hq; exact hq6
    | 7, hq => cases hq; exact hq7
    | 8, hq => cases hq; exact hq8
    | 9, hq => cases hq; exact hq9
    | 10, hq => cases hq; exact hq10
    | 11, hq => cases hq; exact hq11
    | i + 12, hq => simp [RWS] at hq
