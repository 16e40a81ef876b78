def RL : String := "FenceHeapLaw"
theorem tn_L : Cond.initialized RL ∈ TB := tb_of 110 (by decide +kernel) (by decide +kernel)
abbrev cL_heap : ByteArray := method_3_code
def yL_heap : MethodName := ⟨RL, "heap", "(LFenceHeap;I[J)I"⟩
theorem dL_heap_0 : decode cL_heap 0 = .ok (.aload_n 2, 1) := by decide +kernel
theorem dL_heap_1 : decode cL_heap 1 = .ok (.iconst 0, 1) := by decide +kernel
theorem dL_heap_2 : decode cL_heap 2 = .ok (.aload_n 0, 1) := by decide +kernel
theorem dL_heap_3 : decode cL_heap 3 = .ok (.iload_n 1, 1) := by decide +kernel
theorem dL_heap_4 : decode cL_heap 4 = .ok (.invokevirtual 7, 3) := by decide +kernel
theorem dL_heap_7 : decode cL_heap 7 = .ok (.i2l, 1) := by decide +kernel
theorem dL_heap_8 : decode cL_heap 8 = .ok (.lastore, 1) := by decide +kernel
theorem dL_heap_9 : decode cL_heap 9 = .ok (.goto 6, 3) := by decide +kernel
theorem dL_heap_12 : decode cL_heap 12 = .ok (.astore_n 3, 1) := by decide +kernel
theorem dL_heap_13 : decode cL_heap 13 = .ok (.iconst 1, 1) := by decide +kernel
theorem dL_heap_14 : decode cL_heap 14 = .ok (.ireturn, 1) := by decide +kernel
theorem dL_heap_15 : decode cL_heap 15 = .ok (.iconst 0, 1) := by decide +kernel
theorem dL_heap_16 : decode cL_heap 16 = .ok (.ireturn, 1) := by decide +kernel
abbrev hL_heap : List (Nat × Nat × Nat × Nat) := [(0, 9, 12, 13)]
theorem tc_L_heap : Cond.codeWith yL_heap cL_heap 4 (some .int) hL_heap ∈ TB := tb_of 863 (by decide +kernel) (by decide +kernel)
theorem ts_L_heap : Cond.static yL_heap ∈ TB := tb_of 862 (by decide +kernel) (by decide +kernel)
theorem tm_L_heap : yL_heap.cls = RL ∧ yL_heap.cls ≠ "java/lang/invoke/MethodHandle" ∧ yL_heap.cls ≠ "java/lang/invoke/VarHandle" ∧ (parseMethodDescriptor yL_heap.desc).map (fun d => d.parameters.length) = some 3 := by decide +kernel
abbrev cL_count : ByteArray := method_4_code
def yL_count : MethodName := ⟨RL, "count", "(LFenceHeap;I[J)I"⟩
theorem dL_count_0 : decode cL_count 0 = .ok (.aload_n 2, 1) := by decide +kernel
theorem dL_count_1 : decode cL_count 1 = .ok (.iconst 0, 1) := by decide +kernel
theorem dL_count_2 : decode cL_count 2 = .ok (.aload_n 0, 1) := by decide +kernel
theorem dL_count_3 : decode cL_count 3 = .ok (.iload_n 1, 1) := by decide +kernel
theorem dL_count_4 : decode cL_count 4 = .ok (.invokevirtual 15, 3) := by decide +kernel
theorem dL_count_7 : decode cL_count 7 = .ok (.i2l, 1) := by decide +kernel
theorem dL_count_8 : decode cL_count 8 = .ok (.lastore, 1) := by decide +kernel
theorem dL_count_9 : decode cL_count 9 = .ok (.goto 6, 3) := by decide +kernel
theorem dL_count_12 : decode cL_count 12 = .ok (.astore_n 3, 1) := by decide +kernel
theorem dL_count_13 : decode cL_count 13 = .ok (.iconst 1, 1) := by decide +kernel
theorem dL_count_14 : decode cL_count 14 = .ok (.ireturn, 1) := by decide +kernel
theorem dL_count_15 : decode cL_count 15 = .ok (.iconst 0, 1) := by decide +kernel
theorem dL_count_16 : decode cL_count 16 = .ok (.ireturn, 1) := by decide +kernel
abbrev hL_count : List (Nat × Nat × Nat × Nat) := [(0, 9, 12, 18)]
theorem tc_L_count : Cond.codeWith yL_count cL_count 4 (some .int) hL_count ∈ TB := tb_of 1089 (by decide +kernel) (by decide +kernel)
theorem ts_L_count : Cond.static yL_count ∈ TB := tb_of 1088 (by decide +kernel) (by decide +kernel)
theorem tm_L_count : yL_count.cls = RL ∧ yL_count.cls ≠ "java/lang/invoke/MethodHandle" ∧ yL_count.cls ≠ "java/lang/invoke/VarHandle" ∧ (parseMethodDescriptor yL_count.desc).map (fun d => d.parameters.length) = some 3 := by decide +kernel
abbrev cL_word : ByteArray := method_5_code
def yL_word : MethodName := ⟨RL, "word", "(LFenceHeap;IZ[J)I"⟩
theorem dL_word_0 : decode cL_word 0 = .ok (.aload_n 3, 1) := by decide +kernel
theorem dL_word_1 : decode cL_word 1 = .ok (.iconst 0, 1) := by decide +kernel
theorem dL_word_2 : decode cL_word 2 = .ok (.aload_n 0, 1) := by decide +kernel
theorem dL_word_3 : decode cL_word 3 = .ok (.iload_n 1, 1) := by decide +kernel
theorem dL_word_4 : decode cL_word 4 = .ok (.iload_n 2, 1) := by decide +kernel
theorem dL_word_5 : decode cL_word 5 = .ok (.invokevirtual 20, 3) := by decide +kernel
theorem dL_word_8 : decode cL_word 8 = .ok (.i2l, 1) := by decide +kernel
theorem dL_word_9 : decode cL_word 9 = .ok (.lastore, 1) := by decide +kernel
theorem dL_word_10 : decode cL_word 10 = .ok (.goto 7, 3) := by decide +kernel
theorem dL_word_13 : decode cL_word 13 = .ok (.astore 4, 2) := by decide +kernel
theorem dL_word_15 : decode cL_word 15 = .ok (.iconst 1, 1) := by decide +kernel
theorem dL_word_16 : decode cL_word 16 = .ok (.ireturn, 1) := by decide +kernel
theorem dL_word_17 : decode cL_word 17 = .ok (.iconst 0, 1) := by decide +kernel
theorem dL_word_18 : decode cL_word 18 = .ok (.ireturn, 1) := by decide +kernel
abbrev hL_word : List (Nat × Nat × Nat × Nat) := [(0, 10, 13, 18)]
theorem tc_L_word : Cond.codeWith yL_word cL_word 5 (some .int) hL_word ∈ TB := tb_of 1117 (by decide +kernel) (by decide +kernel)
theorem ts_L_word : Cond.static yL_word ∈ TB := tb_of 1116 (by decide +kernel) (by decide +kernel)
theorem tm_L_word : yL_word.cls = RL ∧ yL_word.cls ≠ "java/lang/invoke/MethodHandle" ∧ yL_word.cls ≠ "java/lang/invoke/VarHandle" ∧ (parseMethodDescriptor yL_word.desc).map (fun d => d.parameters.length) = some 4 := by decide +kernel
abbrev cL_line : ByteArray := method_6_code
def yL_line : MethodName := ⟨RL, "line", "(LFenceHeap;II[J)I"⟩
theorem dL_line_0 : decode cL_line 0 = .ok (.aload_n 3, 1) := by decide +kernel
theorem dL_line_1 : decode cL_line 1 = .ok (.iconst 0, 1) := by decide +kernel
theorem dL_line_2 : decode cL_line 2 = .ok (.aload_n 0, 1) := by decide +kernel
theorem dL_line_3 : decode cL_line 3 = .ok (.iload_n 1, 1) := by decide +kernel
theorem dL_line_4 : decode cL_line 4 = .ok (.iload_n 2, 1) := by decide +kernel
theorem dL_line_5 : decode cL_line 5 = .ok (.invokevirtual 24, 3) := by decide +kernel
theorem dL_line_8 : decode cL_line 8 = .ok (.i2l, 1) := by decide +kernel
theorem dL_line_9 : decode cL_line 9 = .ok (.lastore, 1) := by decide +kernel
theorem dL_line_10 : decode cL_line 10 = .ok (.goto 7, 3) := by decide +kernel
theorem dL_line_13 : decode cL_line 13 = .ok (.astore 4, 2) := by decide +kernel
theorem dL_line_15 : decode cL_line 15 = .ok (.iconst 1, 1) := by decide +kernel
theorem dL_line_16 : decode cL_line 16 = .ok (.ireturn, 1) := by decide +kernel
theorem dL_line_17 : decode cL_line 17 = .ok (.iconst 0, 1) := by decide +kernel
theorem dL_line_18 : decode cL_line 18 = .ok (.ireturn, 1) := by decide +kernel
abbrev hL_line : List (Nat × Nat × Nat × Nat) := [(0, 10, 13, 18)]
theorem tc_L_line : Cond.codeWith yL_line cL_line 5 (some .int) hL_line ∈ TB := tb_of 1129 (by decide +kernel) (by decide +kernel)
theorem ts_L_line : Cond.static yL_line ∈ TB := tb_of 1128 (by decide +kernel) (by decide +kernel)
theorem tm_L_line : yL_line.cls = RL ∧ yL_line.cls ≠ "java/lang/invoke/MethodHandle" ∧ yL_line.cls ≠ "java/lang/invoke/VarHandle" ∧ (parseMethodDescriptor yL_line.desc).map (fun d => d.parameters.length) = some 4 := by decide +kernel
abbrev cL_micro : ByteArray := method_7_code
def yL_micro : MethodName := ⟨RL, "micro", "(LFenceHeap;II[J)I"⟩
theorem dL_micro_0 : decode cL_micro 0 = .ok (.aload_n 3, 1) := by decide +kernel
theorem dL_micro_1 : decode cL_micro 1 = .ok (.iconst 0, 1) := by decide +kernel
theorem dL_micro_2 : decode cL_micro 2 = .ok (.aload_n 0, 1) := by decide +kernel
theorem dL_micro_3 : decode cL_micro 3 = .ok (.iload_n 1, 1) := by decide +kernel
theorem dL_micro_4 : decode cL_micro 4 = .ok (.iload_n 2, 1) := by decide +kernel
theorem dL_micro_5 : decode cL_micro 5 = .ok (.invokevirtual 28, 3) := by decide +kernel
theorem dL_micro_8 : decode cL_micro 8 = .ok (.i2l, 1) := by decide +kernel
theorem dL_micro_9 : decode cL_micro 9 = .ok (.lastore, 1) := by decide +kernel
theorem dL_micro_10 : decode cL_micro 10 = .ok (.goto 7, 3) := by decide +kernel
theorem dL_micro_13 : decode cL_micro 13 = .ok (.astore 4, 2) := by decide +kernel
theorem dL_micro_15 : decode cL_micro 15 = .ok (.iconst 1, 1) := by decide +kernel
theorem dL_micro_16 : decode cL_micro 16 = .ok (.ireturn, 1) := by decide +kernel
theorem dL_micro_17 : decode cL_micro 17 = .ok (.iconst 0, 1) := by decide +kernel
theorem dL_micro_18 : decode cL_micro 18 = .ok (.ireturn, 1) := by decide +kernel
abbrev hL_micro : List (Nat × Nat × Nat × Nat) := [(0, 10, 13, 18)]
theorem tc_L_micro : Cond.codeWith yL_micro cL_micro 5 (some .int) hL_micro ∈ TB := tb_of 1141 (by decide +kernel) (by decide +kernel)
theorem ts_L_micro : Cond.static yL_micro ∈ TB := tb_of 1140 (by decide +kernel) (by decide +kernel)
theorem tm_L_micro : yL_micro.cls = RL ∧ yL_micro.cls ≠ "java/lang/invoke/MethodHandle" ∧ yL_micro.cls ≠ "java/lang/invoke/VarHandle" ∧ (parseMethodDescriptor yL_micro.desc).map (fun d => d.parameters.length) = some 4 := by decide +kernel
abbrev cL_shape : ByteArray := method_8_code
def yL_shape : MethodName := ⟨RL, "shape", "(LFenceHeap;II[J)I"⟩
theorem dL_shape_0 : decode cL_shape 0 = .ok (.aload_n 3, 1) := by decide +kernel
theorem dL_shape_1 : decode cL_shape 1 = .ok (.iconst 0, 1) := by decide +kernel
theorem dL_shape_2 : decode cL_shape 2 = .ok (.aload_n 0, 1) := by decide +kernel
theorem dL_shape_3 : decode cL_shape 3 = .ok (.iload_n 1, 1) := by decide +kernel
theorem dL_shape_4 : decode cL_shape 4 = .ok (.iload_n 2, 1) := by decide +kernel
theorem dL_shape_5 : decode cL_shape 5 = .ok (.invokevirtual 31, 3) := by decide +kernel
theorem dL_shape_8 : decode cL_shape 8 = .ok (.i2l, 1) := by decide +kernel
theorem dL_shape_9 : decode cL_shape 9 = .ok (.lastore, 1) := by decide +kernel
theorem dL_shape_10 : decode cL_shape 10 = .ok (.goto 7, 3) := by decide +kernel
theorem dL_shape_13 : decode cL_shape 13 = .ok (.astore 4, 2) := by decide +kernel
theorem dL_shape_15 : decode cL_shape 15 = .ok (.iconst 1, 1) := by decide +kernel
theorem dL_shape_16 : decode cL_shape 16 = .ok (.ireturn, 1) := by decide +kernel
theorem dL_shape_17 : decode cL_shape 17 = .ok (.iconst 0, 1) := by decide +kernel
theorem dL_shape_18 : decode cL_shape 18 = .ok (.ireturn, 1) := by decide +kernel
abbrev hL_shape : List (Nat × Nat × Nat × Nat) := [(0, 10, 13, 18)]
theorem tc_L_shape : Cond.codeWith yL_shape cL_shape 5 (some .int) hL_shape ∈ TB := tb_of 1149 (by decide +kernel) (by decide +kernel)
theorem ts_L_shape : Cond.static yL_shape ∈ TB := tb_of 1148 (by decide +kernel) (by decide +kernel)
theorem tm_L_shape : yL_shape.cls = RL ∧ yL_shape.cls ≠ "java/lang/invoke/MethodHandle" ∧ yL_shape.cls ≠ "java/lang/invoke/VarHandle" ∧ (parseMethodDescriptor yL_shape.desc).map (fun d => d.parameters.length) = some 4 := by decide +kernel
abbrev cL_evict : ByteArray := method_9_code
def yL_evict : MethodName := ⟨RL, "evict", "(LFenceHeap;II[J)I"⟩
theorem dL_evict_0 : decode cL_evict 0 = .ok (.aload_n 3, 1) := by decide +kernel
theorem dL_evict_1 : decode cL_evict 1 = .ok (.iconst 0, 1) := by decide +kernel
theorem dL_evict_2 : decode cL_evict 2 = .ok (.aload_n 0, 1) := by decide +kernel
theorem dL_evict_3 : decode cL_evict 3 = .ok (.iload_n 1, 1) := by decide +kernel
theorem dL_evict_4 : decode cL_evict 4 = .ok (.iload_n 2, 1) := by decide +kernel
theorem dL_evict_5 : decode cL_evict 5 = .ok (.invokevirtual 34, 3) := by decide +kernel
theorem dL_evict_8 : decode cL_evict 8 = .ok (.i2l, 1) := by decide +kernel
theorem dL_evict_9 : decode cL_evict 9 = .ok (.lastore, 1) := by decide +kernel
theorem dL_evict_10 : decode cL_evict 10 = .ok (.goto 7, 3) := by decide +kernel
theorem dL_evict_13 : decode cL_evict 13 = .ok (.astore 4, 2) := by decide +kernel
theorem dL_evict_15 : decode cL_evict 15 = .ok (.iconst 1, 1) := by decide +kernel
theorem dL_evict_16 : decode cL_evict 16 = .ok (.ireturn, 1) := by decide +kernel
theorem dL_evict_17 : decode cL_evict 17 = .ok (.iconst 0, 1) := by decide +kernel
theorem dL_evict_18 : decode cL_evict 18 = .ok (.ireturn, 1) := by decide +kernel
abbrev hL_evict : List (Nat × Nat × Nat × Nat) := [(0, 10, 13, 18)]
theorem tc_L_evict : Cond.codeWith yL_evict cL_evict 5 (some .int) hL_evict ∈ TB := tb_of 1165 (by decide +kernel) (by decide +kernel)
theorem ts_L_evict : Cond.static yL_evict ∈ TB := tb_of 1164 (by decide +kernel) (by decide +kernel)
theorem tm_L_evict : yL_evict.cls = RL ∧ yL_evict.cls ≠ "java/lang/invoke/MethodHandle" ∧ yL_evict.cls ≠ "java/lang/invoke/VarHandle" ∧ (parseMethodDescriptor yL_evict.desc).map (fun d => d.parameters.length) = some 4 := by decide +kernel
abbrev cL_later : ByteArray := method_10_code
def yL_later : MethodName := ⟨RL, "later", "(LFenceHeap;III[J)I"⟩
theorem dL_later_0 : decode cL_later 0 = .ok (.aload 4, 2) := by decide +kernel
theorem dL_later_2 : decode cL_later 2 = .ok (.iconst 0, 1) := by decide +kernel
theorem dL_later_3 : decode cL_later 3 = .ok (.aload_n 0, 1) := by decide +kernel
theorem dL_later_4 : decode cL_later 4 = .ok (.iload_n 1, 1) := by decide +kernel
theorem dL_later_5 : decode cL_later 5 = .ok (.iload_n 2, 1) := by decide +kernel
theorem dL_later_6 : decode cL_later 6 = .ok (.iload_n 3, 1) := by decide +kernel
theorem dL_later_7 : decode cL_later 7 = .ok (.invokevirtual 37, 3) := by decide +kernel
theorem dL_later_10 : decode cL_later 10 = .ok (.i2l, 1) := by decide +kernel
theorem dL_later_11 : decode cL_later 11 = .ok (.lastore, 1) := by decide +kernel
theorem dL_later_12 : decode cL_later 12 = .ok (.goto 7, 3) := by decide +kernel
theorem dL_later_15 : decode cL_later 15 = .ok (.astore 5, 2) := by decide +kernel
theorem dL_later_17 : decode cL_later 17 = .ok (.iconst 1, 1) := by decide +kernel
theorem dL_later_18 : decode cL_later 18 = .ok (.ireturn, 1) := by decide +kernel
theorem dL_later_19 : decode cL_later 19 = .ok (.iconst 0, 1) := by decide +kernel
theorem dL_later_20 : decode cL_later 20 = .ok (.ireturn, 1) := by decide +kernel
abbrev hL_later : List (Nat × Nat × Nat × Nat) := [(0, 12, 15, 18)]
theorem tc_L_later : Cond.codeWith yL_later cL_later 6 (some .int) hL_later ∈ TB := tb_of 1173 (by decide +kernel) (by decide +kernel)
theorem ts_L_later : Cond.static yL_later ∈ TB := tb_of 1172 (by decide +kernel) (by decide +kernel)
theorem tm_L_later : yL_later.cls = RL ∧ yL_later.cls ≠ "java/lang/invoke/MethodHandle" ∧ yL_later.cls ≠ "java/lang/invoke/VarHandle" ∧ (parseMethodDescriptor yL_later.desc).map (fun d => d.parameters.length) = some 5 := by decide +kernel
abbrev cL_site : ByteArray := method_11_code
def yL_site : MethodName := ⟨RL, "site", "(LFenceHeap;I[J)I"⟩
theorem dL_site_0 : decode cL_site 0 = .ok (.aload_n 2, 1) := by decide +kernel
theorem dL_site_1 : decode cL_site 1 = .ok (.iconst 0, 1) := by decide +kernel
theorem dL_site_2 : decode cL_site 2 = .ok (.aload_n 0, 1) := by decide +kernel
theorem dL_site_3 : decode cL_site 3 = .ok (.iload_n 1, 1) := by decide +kernel
theorem dL_site_4 : decode cL_site 4 = .ok (.invokevirtual 41, 3) := by decide +kernel
theorem dL_site_7 : decode cL_site 7 = .ok (.i2l, 1) := by decide +kernel
theorem dL_site_8 : decode cL_site 8 = .ok (.lastore, 1) := by decide +kernel
theorem dL_site_9 : decode cL_site 9 = .ok (.goto 6, 3) := by decide +kernel
theorem dL_site_12 : decode cL_site 12 = .ok (.astore_n 3, 1) := by decide +kernel
theorem dL_site_13 : decode cL_site 13 = .ok (.iconst 1, 1) := by decide +kernel
theorem dL_site_14 : decode cL_site 14 = .ok (.ireturn, 1) := by decide +kernel
theorem dL_site_15 : decode cL_site 15 = .ok (.iconst 0, 1) := by decide +kernel
theorem dL_site_16 : decode cL_site 16 = .ok (.ireturn, 1) := by decide +kernel
abbrev hL_site : List (Nat × Nat × Nat × Nat) := [(0, 9, 12, 18)]
theorem tc_L_site : Cond.codeWith yL_site cL_site 4 (some .int) hL_site ∈ TB := tb_of 1192 (by decide +kernel) (by decide +kernel)
theorem ts_L_site : Cond.static yL_site ∈ TB := tb_of 1191 (by decide +kernel) (by decide +kernel)
theorem tm_L_site : yL_site.cls = RL ∧ yL_site.cls ≠ "java/lang/invoke/MethodHandle" ∧ yL_site.cls ≠ "java/lang/invoke/VarHandle" ∧ (parseMethodDescriptor yL_site.desc).map (fun d => d.parameters.length) = some 3 := by decide +kernel
abbrev cL_recovered : ByteArray := method_12_code
def yL_recovered : MethodName := ⟨RL, "recovered", "(LFenceHeap;II[J)I"⟩
theorem dL_recovered_0 : decode cL_recovered 0 = .ok (.aload_n 3, 1) := by decide +kernel
theorem dL_recovered_1 : decode cL_recovered 1 = .ok (.iconst 0, 1) := by decide +kernel
theorem dL_recovered_2 : decode cL_recovered 2 = .ok (.aload_n 0, 1) := by decide +kernel
theorem dL_recovered_3 : decode cL_recovered 3 = .ok (.iload_n 1, 1) := by decide +kernel
theorem dL_recovered_4 : decode cL_recovered 4 = .ok (.iload_n 2, 1) := by decide +kernel
theorem dL_recovered_5 : decode cL_recovered 5 = .ok (.invokevirtual 44, 3) := by decide +kernel
theorem dL_recovered_8 : decode cL_recovered 8 = .ok (.i2l, 1) := by decide +kernel
theorem dL_recovered_9 : decode cL_recovered 9 = .ok (.lastore, 1) := by decide +kernel
theorem dL_recovered_10 : decode cL_recovered 10 = .ok (.goto 11, 3) := by decide +kernel
theorem dL_recovered_13 : decode cL_recovered 13 = .ok (.astore 4, 2) := by decide +kernel
theorem dL_recovered_15 : decode cL_recovered 15 = .ok (.iconst 1, 1) := by decide +kernel
theorem dL_recovered_16 : decode cL_recovered 16 = .ok (.ireturn, 1) := by decide +kernel
theorem dL_recovered_17 : decode cL_recovered 17 = .ok (.astore 4, 2) := by decide +kernel
theorem dL_recovered_19 : decode cL_recovered 19 = .ok (.iconst 2, 1) := by decide +kernel
theorem dL_recovered_20 : decode cL_recovered 20 = .ok (.ireturn, 1) := by decide +kernel
theorem dL_recovered_21 : decode cL_recovered 21 = .ok (.iconst 0, 1) := by decide +kernel
theorem dL_recovered_22 : decode cL_recovered 22 = .ok (.ireturn, 1) := by decide +kernel
abbrev hL_recovered : List (Nat × Nat × Nat × Nat) := [(0, 10, 13, 18), (0, 10, 17, 13)]
theorem tc_L_recovered : Cond.codeWith yL_recovered cL_recovered 5 (some .int) hL_recovered ∈ TB := tb_of 1200 (by decide +kernel) (by decide +kernel)
theorem ts_L_recovered : Cond.static yL_recovered ∈ TB := tb_of 1199 (by decide +kernel) (by decide +kernel)
theorem tm_L_recovered : yL_recovered.cls = RL ∧ yL_recovered.cls ≠ "java/lang/invoke/MethodHandle" ∧ yL_recovered.cls ≠ "java/lang/invoke/VarHandle" ∧ (parseMethodDescriptor yL_recovered.desc).map (fun d => d.parameters.length) = some 4 := by decide +kernel
abbrev cL_fate : ByteArray := method_13_code
def yL_fate : MethodName := ⟨RL, "fate", "(LFenceHeap;I[J)I"⟩
theorem dL_fate_0 : decode cL_fate 0 = .ok (.aload_n 2, 1) := by decide +kernel
theorem dL_fate_1 : decode cL_fate 1 = .ok (.iconst 0, 1) := by decide +kernel
theorem dL_fate_2 : decode cL_fate 2 = .ok (.aload_n 0, 1) := by decide +kernel
theorem dL_fate_3 : decode cL_fate 3 = .ok (.iload_n 1, 1) := by decide +kernel
theorem dL_fate_4 : decode cL_fate 4 = .ok (.invokevirtual 47, 3) := by decide +kernel
theorem dL_fate_7 : decode cL_fate 7 = .ok (.i2l, 1) := by decide +kernel
theorem dL_fate_8 : decode cL_fate 8 = .ok (.lastore, 1) := by decide +kernel
theorem dL_fate_9 : decode cL_fate 9 = .ok (.goto 6, 3) := by decide +kernel
theorem dL_fate_12 : decode cL_fate 12 = .ok (.astore_n 3, 1) := by decide +kernel
theorem dL_fate_13 : decode cL_fate 13 = .ok (.iconst 1, 1) := by decide +kernel
theorem dL_fate_14 : decode cL_fate 14 = .ok (.ireturn, 1) := by decide +kernel
theorem dL_fate_15 : decode cL_fate 15 = .ok (.iconst 0, 1) := by decide +kernel
theorem dL_fate_16 : decode cL_fate 16 = .ok (.ireturn, 1) := by decide +kernel
abbrev hL_fate : List (Nat × Nat × Nat × Nat) := [(0, 9, 12, 13)]
theorem tc_L_fate : Cond.codeWith yL_fate cL_fate 4 (some .int) hL_fate ∈ TB := tb_of 1208 (by decide +kernel) (by decide +kernel)
theorem ts_L_fate : Cond.static yL_fate ∈ TB := tb_of 1207 (by decide +kernel) (by decide +kernel)
theorem tm_L_fate : yL_fate.cls = RL ∧ yL_fate.cls ≠ "java/lang/invoke/MethodHandle" ∧ yL_fate.cls ≠ "java/lang/invoke/VarHandle" ∧ (parseMethodDescriptor yL_fate.desc).map (fun d => d.parameters.length) = some 3 := by decide +kernel
abbrev cL_check : ByteArray := method_14_code
def yL_check : MethodName := ⟨RL, "check", "(LFenceHeap;I[J)I"⟩
theorem dL_check_0 : decode cL_check 0 = .ok (.aload_n 2, 1) := by decide +kernel
theorem dL_check_1 : decode cL_check 1 = .ok (.iconst 0, 1) := by decide +kernel
theorem dL_check_2 : decode cL_check 2 = .ok (.aload_n 0, 1) := by decide +kernel
theorem dL_check_3 : decode cL_check 3 = .ok (.iload_n 1, 1) := by decide +kernel
theorem dL_check_4 : decode cL_check 4 = .ok (.invokevirtual 50, 3) := by decide +kernel
theorem dL_check_7 : decode cL_check 7 = .ok (.i2l, 1) := by decide +kernel
theorem dL_check_8 : decode cL_check 8 = .ok (.lastore, 1) := by decide +kernel
theorem dL_check_9 : decode cL_check 9 = .ok (.goto 6, 3) := by decide +kernel
theorem dL_check_12 : decode cL_check 12 = .ok (.astore_n 3, 1) := by decide +kernel
theorem dL_check_13 : decode cL_check 13 = .ok (.iconst 1, 1) := by decide +kernel
theorem dL_check_14 : decode cL_check 14 = .ok (.ireturn, 1) := by decide +kernel
theorem dL_check_15 : decode cL_check 15 = .ok (.iconst 0, 1) := by decide +kernel
theorem dL_check_16 : decode cL_check 16 = .ok (.ireturn, 1) := by decide +kernel
abbrev hL_check : List (Nat × Nat × Nat × Nat) := [(0, 9, 12, 18)]
theorem tc_L_check : Cond.codeWith yL_check cL_check 4 (some .int) hL_check ∈ TB := tb_of 1215 (by decide +kernel) (by decide +kernel)
theorem ts_L_check : Cond.static yL_check ∈ TB := tb_of 1214 (by decide +kernel) (by decide +kernel)
theorem tm_L_check : yL_check.cls = RL ∧ yL_check.cls ≠ "java/lang/invoke/MethodHandle" ∧ yL_check.cls ≠ "java/lang/invoke/VarHandle" ∧ (parseMethodDescriptor yL_check.desc).map (fun d => d.parameters.length) = some 3 := by decide +kernel
abbrev cL_least : ByteArray := method_15_code
def yL_least : MethodName := ⟨RL, "least", "(LFenceHeap;I[J)I"⟩
theorem dL_least_0 : decode cL_least 0 = .ok (.aload_n 2, 1) := by decide +kernel
theorem dL_least_1 : decode cL_least 1 = .ok (.iconst 0, 1) := by decide +kernel
theorem dL_least_2 : decode cL_least 2 = .ok (.aload_n 0, 1) := by decide +kernel
theorem dL_least_3 : decode cL_least 3 = .ok (.iload_n 1, 1) := by decide +kernel
theorem dL_least_4 : decode cL_least 4 = .ok (.invokevirtual 53, 3) := by decide +kernel
theorem dL_least_7 : decode cL_least 7 = .ok (.i2l, 1) := by decide +kernel
theorem dL_least_8 : decode cL_least 8 = .ok (.lastore, 1) := by decide +kernel
theorem dL_least_9 : decode cL_least 9 = .ok (.goto 6, 3) := by decide +kernel
theorem dL_least_12 : decode cL_least 12 = .ok (.astore_n 3, 1) := by decide +kernel
theorem dL_least_13 : decode cL_least 13 = .ok (.iconst 1, 1) := by decide +kernel
theorem dL_least_14 : decode cL_least 14 = .ok (.ireturn, 1) := by decide +kernel
theorem dL_least_15 : decode cL_least 15 = .ok (.iconst 0, 1) := by decide +kernel
theorem dL_least_16 : decode cL_least 16 = .ok (.ireturn, 1) := by decide +kernel
abbrev hL_least : List (Nat × Nat × Nat × Nat) := [(0, 9, 12, 18)]
theorem tc_L_least : Cond.codeWith yL_least cL_least 4 (some .int) hL_least ∈ TB := tb_of 1223 (by decide +kernel) (by decide +kernel)
theorem ts_L_least : Cond.static yL_least ∈ TB := tb_of 1222 (by decide +kernel) (by decide +kernel)
theorem tm_L_least : yL_least.cls = RL ∧ yL_least.cls ≠ "java/lang/invoke/MethodHandle" ∧ yL_least.cls ≠ "java/lang/invoke/VarHandle" ∧ (parseMethodDescriptor yL_least.desc).map (fun d => d.parameters.length) = some 3 := by decide +kernel
abbrev cL_chance : ByteArray := method_16_code
def yL_chance : MethodName := ⟨RL, "chance", "(LFenceHeap;I[J)I"⟩
theorem dL_chance_0 : decode cL_chance 0 = .ok (.aload_n 2, 1) := by decide +kernel
theorem dL_chance_1 : decode cL_chance 1 = .ok (.iconst 0, 1) := by decide +kernel
theorem dL_chance_2 : decode cL_chance 2 = .ok (.aload_n 0, 1) := by decide +kernel
theorem dL_chance_3 : decode cL_chance 3 = .ok (.iload_n 1, 1) := by decide +kernel
theorem dL_chance_4 : decode cL_chance 4 = .ok (.invokevirtual 56, 3) := by decide +kernel
theorem dL_chance_7 : decode cL_chance 7 = .ok (.i2l, 1) := by decide +kernel
theorem dL_chance_8 : decode cL_chance 8 = .ok (.lastore, 1) := by decide +kernel
theorem dL_chance_9 : decode cL_chance 9 = .ok (.goto 6, 3) := by decide +kernel
theorem dL_chance_12 : decode cL_chance 12 = .ok (.astore_n 3, 1) := by decide +kernel
theorem dL_chance_13 : decode cL_chance 13 = .ok (.iconst 1, 1) := by decide +kernel
theorem dL_chance_14 : decode cL_chance 14 = .ok (.ireturn, 1) := by decide +kernel
theorem dL_chance_15 : decode cL_chance 15 = .ok (.iconst 0, 1) := by decide +kernel
theorem dL_chance_16 : decode cL_chance 16 = .ok (.ireturn, 1) := by decide +kernel
abbrev hL_chance : List (Nat × Nat × Nat × Nat) := [(0, 9, 12, 18)]
theorem tc_L_chance : Cond.codeWith yL_chance cL_chance 4 (some .int) hL_chance ∈ TB := tb_of 1237 (by decide +kernel) (by decide +kernel)
theorem ts_L_chance : Cond.static yL_chance ∈ TB := tb_of 1236 (by decide +kernel) (by decide +kernel)
theorem tm_L_chance : yL_chance.cls = RL ∧ yL_chance.cls ≠ "java/lang/invoke/MethodHandle" ∧ yL_chance.cls ≠ "java/lang/invoke/VarHandle" ∧ (parseMethodDescriptor yL_chance.desc).map (fun d => d.parameters.length) = some 3 := by decide +kernel
abbrev cL_explained : ByteArray := method_17_code
def yL_explained : MethodName := ⟨RL, "explained", "(LFenceHeap;I[J)I"⟩
theorem dL_explained_0 : decode cL_explained 0 = .ok (.aload_n 2, 1) := by decide +kernel
theorem dL_explained_1 : decode cL_explained 1 = .ok (.iconst 0, 1) := by decide +kernel
theorem dL_explained_2 : decode cL_explained 2 = .ok (.aload_n 0, 1) := by decide +kernel
theorem dL_explained_3 : decode cL_explained 3 = .ok (.iload_n 1, 1) := by decide +kernel
theorem dL_explained_4 : decode cL_explained 4 = .ok (.invokevirtual 59, 3) := by decide +kernel
theorem dL_explained_7 : decode cL_explained 7 = .ok (.i2l, 1) := by decide +kernel
theorem dL_explained_8 : decode cL_explained 8 = .ok (.lastore, 1) := by decide +kernel
theorem dL_explained_9 : decode cL_explained 9 = .ok (.goto 6, 3) := by decide +kernel
theorem dL_explained_12 : decode cL_explained 12 = .ok (.astore_n 3, 1) := by decide +kernel
theorem dL_explained_13 : decode cL_explained 13 = .ok (.iconst 1, 1) := by decide +kernel
theorem dL_explained_14 : decode cL_explained 14 = .ok (.ireturn, 1) := by decide +kernel
theorem dL_explained_15 : decode cL_explained 15 = .ok (.iconst 0, 1) := by decide +kernel
theorem dL_explained_16 : decode cL_explained 16 = .ok (.ireturn, 1) := by decide +kernel
abbrev hL_explained : List (Nat × Nat × Nat × Nat) := [(0, 9, 12, 18)]
theorem tc_L_explained : Cond.codeWith yL_explained cL_explained 4 (some .int) hL_explained ∈ TB := tb_of 1251 (by decide +kernel) (by decide +kernel)
theorem ts_L_explained : Cond.static yL_explained ∈ TB := tb_of 1250 (by decide +kernel) (by decide +kernel)
theorem tm_L_explained : yL_explained.cls = RL ∧ yL_explained.cls ≠ "java/lang/invoke/MethodHandle" ∧ yL_explained.cls ≠ "java/lang/invoke/VarHandle" ∧ (parseMethodDescriptor yL_explained.desc).map (fun d => d.parameters.length) = some 3 := by decide +kernel
abbrev cL_look : ByteArray := method_18_code
def yL_look : MethodName := ⟨RL, "look", "(LFenceHeap;I[J)I"⟩
theorem dL_look_0 : decode cL_look 0 = .ok (.aload_n 2, 1) := by decide +kernel
theorem dL_look_1 : decode cL_look 1 = .ok (.iconst 0, 1) := by decide +kernel
theorem dL_look_2 : decode cL_look 2 = .ok (.aload_n 0, 1) := by decide +kernel
theorem dL_look_3 : decode cL_look 3 = .ok (.iload_n 1, 1) := by decide +kernel
theorem dL_look_4 : decode cL_look 4 = .ok (.invokevirtual 62, 3) := by decide +kernel
theorem dL_look_7 : decode cL_look 7 = .ok (.i2l, 1) := by decide +kernel
theorem dL_look_8 : decode cL_look 8 = .ok (.lastore, 1) := by decide +kernel
theorem dL_look_9 : decode cL_look 9 = .ok (.goto 6, 3) := by decide +kernel
theorem dL_look_12 : decode cL_look 12 = .ok (.astore_n 3, 1) := by decide +kernel
theorem dL_look_13 : decode cL_look 13 = .ok (.iconst 1, 1) := by decide +kernel
theorem dL_look_14 : decode cL_look 14 = .ok (.ireturn, 1) := by decide +kernel
theorem dL_look_15 : decode cL_look 15 = .ok (.iconst 0, 1) := by decide +kernel
theorem dL_look_16 : decode cL_look 16 = .ok (.ireturn, 1) := by decide +kernel
abbrev hL_look : List (Nat × Nat × Nat × Nat) := [(0, 9, 12, 18)]
theorem tc_L_look : Cond.codeWith yL_look cL_look 4 (some .int) hL_look ∈ TB := tb_of 1281 (by decide +kernel) (by decide +kernel)
theorem ts_L_look : Cond.static yL_look ∈ TB := tb_of 1280 (by decide +kernel) (by decide +kernel)
theorem tm_L_look : yL_look.cls = RL ∧ yL_look.cls ≠ "java/lang/invoke/MethodHandle" ∧ yL_look.cls ≠ "java/lang/invoke/VarHandle" ∧ (parseMethodDescriptor yL_look.desc).map (fun d => d.parameters.length) = some 3 := by decide +kernel
abbrev cL_years : ByteArray := method_19_code
def yL_years : MethodName := ⟨RL, "years", "(LFenceHeap;III[J)I"⟩
theorem dL_years_0 : decode cL_years 0 = .ok (.aload 4, 2) := by decide +kernel
theorem dL_years_2 : decode cL_years 2 = .ok (.iconst 0, 1) := by decide +kernel
theorem dL_years_3 : decode cL_years 3 = .ok (.aload_n 0, 1) := by decide +kernel
theorem dL_years_4 : decode cL_years 4 = .ok (.iload_n 1, 1) := by decide +kernel
theorem dL_years_5 : decode cL_years 5 = .ok (.iload_n 2, 1) := by decide +kernel
theorem dL_years_6 : decode cL_years 6 = .ok (.iload_n 3, 1) := by decide +kernel
theorem dL_years_7 : decode cL_years 7 = .ok (.invokevirtual 65, 3) := by decide +kernel
theorem dL_years_10 : decode cL_years 10 = .ok (.i2l, 1) := by decide +kernel
theorem dL_years_11 : decode cL_years 11 = .ok (.lastore, 1) := by decide +kernel
theorem dL_years_12 : decode cL_years 12 = .ok (.goto 11, 3) := by decide +kernel
theorem dL_years_15 : decode cL_years 15 = .ok (.astore 5, 2) := by decide +kernel
theorem dL_years_17 : decode cL_years 17 = .ok (.iconst 1, 1) := by decide +kernel
theorem dL_years_18 : decode cL_years 18 = .ok (.ireturn, 1) := by decide +kernel
theorem dL_years_19 : decode cL_years 19 = .ok (.astore 5, 2) := by decide +kernel
theorem dL_years_21 : decode cL_years 21 = .ok (.iconst 2, 1) := by decide +kernel
theorem dL_years_22 : decode cL_years 22 = .ok (.ireturn, 1) := by decide +kernel
theorem dL_years_23 : decode cL_years 23 = .ok (.iconst 0, 1) := by decide +kernel
theorem dL_years_24 : decode cL_years 24 = .ok (.ireturn, 1) := by decide +kernel
abbrev hL_years : List (Nat × Nat × Nat × Nat) := [(0, 12, 15, 18), (0, 12, 19, 13)]
theorem tc_L_years : Cond.codeWith yL_years cL_years 6 (some .int) hL_years ∈ TB := tb_of 1299 (by decide +kernel) (by decide +kernel)
theorem ts_L_years : Cond.static yL_years ∈ TB := tb_of 1298 (by decide +kernel) (by decide +kernel)
theorem tm_L_years : yL_years.cls = RL ∧ yL_years.cls ≠ "java/lang/invoke/MethodHandle" ∧ yL_years.cls ≠ "java/lang/invoke/VarHandle" ∧ (parseMethodDescriptor yL_years.desc).map (fun d => d.parameters.length) = some 5 := by decide +kernel
theorem tq_L_8 : Cond.classLink RL 8 RX11 ∈ TB := tb_of 138 (by decide +kernel) (by decide +kernel)
theorem tl_L_68 : Cond.methodLink RL 68 yX11_init ∈ TB := tb_of 140 (by decide +kernel) (by decide +kernel)
theorem tl_L_72 : Cond.methodLink RL 72 yX11_feed ∈ TB := tb_of 539 (by decide +kernel) (by decide +kernel)
theorem tl_L_87 : Cond.methodLink RL 87 yX11_fault ∈ TB := tb_of 547 (by decide +kernel) (by decide +kernel)
theorem tl_L_105 : Cond.methodLink RL 105 yX11_orders ∈ TB := tb_of 551 (by decide +kernel) (by decide +kernel)
theorem tl_L_113 : Cond.methodLink RL 113 yX11_steps ∈ TB := tb_of 559 (by decide +kernel) (by decide +kernel)
theorem tl_L_120 : Cond.methodLink RL 120 yX11_crash ∈ TB := tb_of 719 (by decide +kernel) (by decide +kernel)
theorem tl_L_124 : Cond.methodLink RL 124 yX11_recover ∈ TB := tb_of 776 (by decide +kernel) (by decide +kernel)
theorem tl_L_135 : Cond.methodLink RL 135 yX11_undo ∈ TB := tb_of 795 (by decide +kernel) (by decide +kernel)
theorem tl_L_148 : Cond.methodLink RL 148 yX11_needless ∈ TB := tb_of 803 (by decide +kernel) (by decide +kernel)
theorem tl_L_158 : Cond.methodLink RL 158 yX11_see ∈ TB := tb_of 832 (by decide +kernel) (by decide +kernel)
theorem tl_L_168 : Cond.methodLink RL 168 yX11_forget ∈ TB := tb_of 839 (by decide +kernel) (by decide +kernel)
theorem tl_L_175 : Cond.methodLink RL 175 yX11_image ∈ TB := tb_of 843 (by decide +kernel) (by decide +kernel)
theorem tl_L_179 : Cond.methodLink RL 179 yX11_restore ∈ TB := tb_of 857 (by decide +kernel) (by decide +kernel)
theorem tl_L_77 : Cond.methodLink RL 77 yL_heap ∈ TB := tb_of 861 (by decide +kernel) (by decide +kernel)
theorem tq_L_13 : Cond.classLink RL 13 nIAE ∈ TB := tb_of 864 (by decide +kernel) (by decide +kernel)
theorem tl_L_7 : Cond.methodLink RL 7 yX11_heap ∈ TB := tb_of 865 (by decide +kernel) (by decide +kernel)
theorem tl_L_91 : Cond.methodLink RL 91 yL_count ∈ TB := tb_of 1087 (by decide +kernel) (by decide +kernel)
theorem tq_L_18 : Cond.classLink RL 18 nNSE ∈ TB := tb_of 1090 (by decide +kernel) (by decide +kernel)
theorem tl_L_15 : Cond.methodLink RL 15 yX11_count ∈ TB := tb_of 1091 (by decide +kernel) (by decide +kernel)
theorem tl_L_94 : Cond.methodLink RL 94 yL_word ∈ TB := tb_of 1115 (by decide +kernel) (by decide +kernel)
theorem tl_L_20 : Cond.methodLink RL 20 yX11_word ∈ TB := tb_of 1118 (by decide +kernel) (by decide +kernel)
theorem tl_L_98 : Cond.methodLink RL 98 yL_line ∈ TB := tb_of 1127 (by decide +kernel) (by decide +kernel)
theorem tl_L_24 : Cond.methodLink RL 24 yX11_line ∈ TB := tb_of 1130 (by decide +kernel) (by decide +kernel)
theorem tl_L_102 : Cond.methodLink RL 102 yL_micro ∈ TB := tb_of 1139 (by decide +kernel) (by decide +kernel)
theorem tl_L_28 : Cond.methodLink RL 28 yX11_micro ∈ TB := tb_of 1142 (by decide +kernel) (by decide +kernel)
theorem tl_L_110 : Cond.methodLink RL 110 yL_shape ∈ TB := tb_of 1147 (by decide +kernel) (by decide +kernel)
theorem tl_L_31 : Cond.methodLink RL 31 yX11_shape ∈ TB := tb_of 1150 (by decide +kernel) (by decide +kernel)
theorem tl_L_117 : Cond.methodLink RL 117 yL_evict ∈ TB := tb_of 1163 (by decide +kernel) (by decide +kernel)
theorem tl_L_34 : Cond.methodLink RL 34 yX11_evict ∈ TB := tb_of 1166 (by decide +kernel) (by decide +kernel)
theorem tl_L_128 : Cond.methodLink RL 128 yL_later ∈ TB := tb_of 1171 (by decide +kernel) (by decide +kernel)
theorem tl_L_37 : Cond.methodLink RL 37 yX11_later ∈ TB := tb_of 1174 (by decide +kernel) (by decide +kernel)
theorem tl_L_132 : Cond.methodLink RL 132 yL_site ∈ TB := tb_of 1190 (by decide +kernel) (by decide +kernel)
theorem tl_L_41 : Cond.methodLink RL 41 yX11_site ∈ TB := tb_of 1193 (by decide +kernel) (by decide +kernel)
theorem tl_L_139 : Cond.methodLink RL 139 yL_recovered ∈ TB := tb_of 1198 (by decide +kernel) (by decide +kernel)
theorem tl_L_44 : Cond.methodLink RL 44 yX11_recovered ∈ TB := tb_of 1201 (by decide +kernel) (by decide +kernel)
theorem tl_L_142 : Cond.methodLink RL 142 yL_fate ∈ TB := tb_of 1206 (by decide +kernel) (by decide +kernel)
theorem tl_L_47 : Cond.methodLink RL 47 yX11_fate ∈ TB := tb_of 1209 (by decide +kernel) (by decide +kernel)
theorem tl_L_145 : Cond.methodLink RL 145 yL_check ∈ TB := tb_of 1213 (by decide +kernel) (by decide +kernel)
theorem tl_L_50 : Cond.methodLink RL 50 yX11_check ∈ TB := tb_of 1216 (by decide +kernel) (by decide +kernel)
theorem tl_L_152 : Cond.methodLink RL 152 yL_least ∈ TB := tb_of 1221 (by decide +kernel) (by decide +kernel)
theorem tl_L_53 : Cond.methodLink RL 53 yX11_least ∈ TB := tb_of 1224 (by decide +kernel) (by decide +kernel)
theorem tl_L_155 : Cond.methodLink RL 155 yL_chance ∈ TB := tb_of 1235 (by decide +kernel) (by decide +kernel)
theorem tl_L_56 : Cond.methodLink RL 56 yX11_chance ∈ TB := tb_of 1238 (by decide +kernel) (by decide +kernel)
theorem tl_L_162 : Cond.methodLink RL 162 yL_explained ∈ TB := tb_of 1249 (by decide +kernel) (by decide +kernel)
theorem tl_L_59 : Cond.methodLink RL 59 yX11_explained ∈ TB := tb_of 1252 (by decide +kernel) (by decide +kernel)
theorem tl_L_165 : Cond.methodLink RL 165 yL_look ∈ TB := tb_of 1279 (by decide +kernel) (by decide +kernel)
theorem tl_L_62 : Cond.methodLink RL 62 yX11_look ∈ TB := tb_of 1282 (by decide +kernel) (by decide +kernel)
theorem tl_L_172 : Cond.methodLink RL 172 yL_years ∈ TB := tb_of 1297 (by decide +kernel) (by decide +kernel)
theorem tl_L_65 : Cond.methodLink RL 65 yX11_years ∈ TB := tb_of 1300 (by decide +kernel) (by decide +kernel)
theorem tq_L_69 : Cond.classLink RL 69 RX12 ∈ TB := tb_of 1339 (by decide +kernel) (by decide +kernel)
theorem tl_L_71 : Cond.methodLink RL 71 yX12_init ∈ TB := tb_of 1341 (by decide +kernel) (by decide +kernel)
theorem tl_L_83 : Cond.methodLink RL 83 yX12_thrown ∈ TB := tb_of 1504 (by decide +kernel) (by decide +kernel)
theorem tl_L_76 : Cond.methodLink RL 76 yX12_feed ∈ TB := tb_of 1508 (by decide +kernel) (by decide +kernel)
theorem tl_L_82 : Cond.methodLink RL 82 yX12_heap ∈ TB := tb_of 1512 (by decide +kernel) (by decide +kernel)
theorem tl_L_90 : Cond.methodLink RL 90 yX12_fault ∈ TB := tb_of 1586 (by decide +kernel) (by decide +kernel)
theorem tl_L_93 : Cond.methodLink RL 93 yX12_count ∈ TB := tb_of 1590 (by decide +kernel) (by decide +kernel)
theorem tl_L_97 : Cond.methodLink RL 97 yX12_word ∈ TB := tb_of 1598 (by decide +kernel) (by decide +kernel)
theorem tl_L_101 : Cond.methodLink RL 101 yX12_line ∈ TB := tb_of 1610 (by decide +kernel) (by decide +kernel)
theorem tl_L_104 : Cond.methodLink RL 104 yX12_micro ∈ TB := tb_of 1614 (by decide +kernel) (by decide +kernel)
theorem tl_L_109 : Cond.methodLink RL 109 yX12_orders ∈ TB := tb_of 1618 (by decide +kernel) (by decide +kernel)
theorem tl_L_112 : Cond.methodLink RL 112 yX12_shape ∈ TB := tb_of 1626 (by decide +kernel) (by decide +kernel)
theorem tl_L_116 : Cond.methodLink RL 116 yX12_steps ∈ TB := tb_of 1658 (by decide +kernel) (by decide +kernel)
theorem tl_L_119 : Cond.methodLink RL 119 yX12_evict ∈ TB := tb_of 1757 (by decide +kernel) (by decide +kernel)
theorem tl_L_123 : Cond.methodLink RL 123 yX12_crash ∈ TB := tb_of 1761 (by decide +kernel) (by decide +kernel)
theorem tl_L_127 : Cond.methodLink RL 127 yX12_recover ∈ TB := tb_of 1789 (by decide +kernel) (by decide +kernel)
theorem tl_L_131 : Cond.methodLink RL 131 yX12_later ∈ TB := tb_of 1797 (by decide +kernel) (by decide +kernel)
theorem tl_L_134 : Cond.methodLink RL 134 yX12_site ∈ TB := tb_of 1808 (by decide +kernel) (by decide +kernel)
theorem tl_L_138 : Cond.methodLink RL 138 yX12_undo ∈ TB := tb_of 1812 (by decide +kernel) (by decide +kernel)
theorem tl_L_141 : Cond.methodLink RL 141 yX12_recovered ∈ TB := tb_of 1816 (by decide +kernel) (by decide +kernel)
theorem tl_L_144 : Cond.methodLink RL 144 yX12_fate ∈ TB := tb_of 1820 (by decide +kernel) (by decide +kernel)
theorem tl_L_147 : Cond.methodLink RL 147 yX12_check ∈ TB := tb_of 1824 (by decide +kernel) (by decide +kernel)
theorem tl_L_151 : Cond.methodLink RL 151 yX12_needless ∈ TB := tb_of 1845 (by decide +kernel) (by decide +kernel)
theorem tl_L_154 : Cond.methodLink RL 154 yX12_least ∈ TB := tb_of 1857 (by decide +kernel) (by decide +kernel)
theorem tl_L_157 : Cond.methodLink RL 157 yX12_chance ∈ TB := tb_of 1864 (by decide +kernel) (by decide +kernel)
theorem tl_L_161 : Cond.methodLink RL 161 yX12_see ∈ TB := tb_of 1871 (by decide +kernel) (by decide +kernel)
theorem tl_L_164 : Cond.methodLink RL 164 yX12_explained ∈ TB := tb_of 1875 (by decide +kernel) (by decide +kernel)
theorem tl_L_167 : Cond.methodLink RL 167 yX12_look ∈ TB := tb_of 1887 (by decide +kernel) (by decide +kernel)
theorem tl_L_171 : Cond.methodLink RL 171 yX12_forget ∈ TB := tb_of 1899 (by decide +kernel) (by decide +kernel)
theorem tl_L_174 : Cond.methodLink RL 174 yX12_years ∈ TB := tb_of 1903 (by decide +kernel) (by decide +kernel)
theorem tl_L_178 : Cond.methodLink RL 178 yX12_image ∈ TB := tb_of 1920 (by decide +kernel) (by decide +kernel)
theorem tl_L_183 : Cond.methodLink RL 183 yX12_restore ∈ TB := tb_of 1926 (by decide +kernel) (by decide +kernel)
theorem ta_long : Cond.arrayClass .long ∈ TB := tb_of 1930 (by decide +kernel) (by decide +kernel)
