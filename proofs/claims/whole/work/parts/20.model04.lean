abbrev w_X12_isSign (h_t : Nat) (r_t : Nat → Nat) (F_t : Nat → Int32) (cI : ClassId) : va_W := [(h_t, .inr (12, o_X12 r_t F_t))]
abbrev rm_X12_isSign : Room := { frames := 0, cells := 0, slots := 0, locals := 0 }
def m_X12_isSign (F_t : Nat → Int32) (p1 : Int32) : Option (Int32) :=
  if (F_t 35) = 3 then (
  if (F_t 36) = p1 then (
  some 1)
  else (
  some 0))
  else (
  some 0)
set_option maxHeartbeats 4000000 in
set_option maxRecDepth 100000 in
theorem c_X12_isSign (l : Launch) (D : va_G) (cI : ClassId) (h_t : Nat) (r_t : Nat → Nat) (F_t : Nat → Int32) (p1 : Int32) (Rr : Int32) (hf : m_X12_isSign F_t p1 = some Rr) : CTi l yX12_isSign (Cond.code yX12_isSign cX12_isSign 2 (some .boolean)) rm_X12_isSign D cI [.ref h_t, .int p1] (w_X12_isSign h_t r_t F_t cI) Rr (w_X12_isSign h_t r_t F_t cI) := by
  refine z_begin_z (own := RX12) (ρ := Int32) (fun u => w_X12_isSign h_t r_t F_t cI) (fun u => u) (by decide +kernel) rfl (Nat.le_of_ble_eq_true rfl) ?_
  intro p e s m args below meth c ls Q A hx hb hml hts hcx hown hK hA hP hD hS hl hret
  have hl : lv_has ls 2 [(0, .ref h_t), (1, .int p1)] := hl
  have hf := (m_X12_isSign.eq_1 _ _).symm.trans hf
  refine lv_aload_n hx hb dX12_isSign_0 rfl (lv_at hl 0 rfl) ?_
  refine z_get (ci := 12) (C := RX12) (T := TX12) (N := 51) (v := .int (F_t 35)) hx hb hts inT_X12 hown hK hP 0 rfl rfl 35 (by decide) tf_X12_258 rfl dX12_isSign_1 ?_
  refine lv_iconst (v := 3) hx hb dX12_isSign_4 (by decide) ?_
  refine z_icmp_ne (tgt := 20) hx hb dX12_isSign_5 (by decide) hf (fun hf => ?_) (fun hf => ?_)
  · refine lv_iconst (v := 0) hx hb dX12_isSign_20 (by decide) ?_
    exact hret 0 _ _ _ _ (Or.inl rfl) hf hP hD hS dX12_isSign_21
  · refine lv_aload_n hx hb dX12_isSign_8 rfl (lv_at hl 0 rfl) ?_
    refine z_get (ci := 12) (C := RX12) (T := TX12) (N := 51) (v := .int (F_t 36)) hx hb hts inT_X12 hown hK hP 0 rfl rfl 36 (by decide) tf_X12_255 rfl dX12_isSign_9 ?_
    refine lv_iload_n hx hb dX12_isSign_12 rfl (lv_at hl 1 rfl) ?_
    refine z_icmp_ne (tgt := 20) hx hb dX12_isSign_13 (by decide) hf (fun hf => ?_) (fun hf => ?_)
    · refine lv_iconst (v := 0) hx hb dX12_isSign_20 (by decide) ?_
      exact hret 0 _ _ _ _ (Or.inl rfl) hf hP hD hS dX12_isSign_21
    · refine lv_iconst (v := 1) hx hb dX12_isSign_16 (by decide) ?_
      refine lv_goto (tgt := 21) hx hb dX12_isSign_17 (by decide) ?_
      exact hret 1 _ _ _ _ (Or.inr rfl) hf hP hD hS dX12_isSign_21
abbrev w_X12_feed (h_t : Nat) (r_t : Nat → Nat) (F_t : Nat → Int32) (cI : ClassId) (a_tape : Nat → Int32) : va_W := [(h_t, .inr (12, o_X12 r_t F_t)), ((r_t 13), .inl (cI, 700, .inl a_tape))]
abbrev rm_X12_feed : Room := { frames := 0, cells := 0, slots := 0, locals := 0 }
def m_X12_feed_j113 (p1 : Int32) (p2 : Int32) (p3 : Int32) (p4 : Int32) (p5 : Int32) (F_t : Nat → Int32) (a_tape : Nat → Int32) : Option (Int32 × (Nat → Int32) × (Nat → Int32)) :=
  nm (upd F_t 14 ((F_t 14) + 20)) fun F2 =>
  some ((F2 14), F2, a_tape)
def m_X12_feed_j76 (p1 : Int32) (p2 : Int32) (p3 : Int32) (p4 : Int32) (p5 : Int32) (k23 : Int32 → (Nat → Int32) → (Nat → Int32) → Option (Int32 × (Nat → Int32) × (Nat → Int32))) (x6 : Int32) (s0 : Int32) (F_t : Nat → Int32) (a_tape : Nat → Int32) : Option (Int32 × (Nat → Int32) × (Nat → Int32)) :=
  wr a_tape 700 ((F_t 14) + x6) ((s0 >>> ((24 - (8 * (x6 - x6 / 4 * 4))) &&& 31)) &&& 255) fun a3 =>
  nm (x6 + 1) fun v4 =>
  k23 v4 F_t a3
def m_X12_feed_w23 (p1 : Int32) (p2 : Int32) (p3 : Int32) (p4 : Int32) (p5 : Int32) (k113 : (Nat → Int32) → (Nat → Int32) → Option (Int32 × (Nat → Int32) × (Nat → Int32))) : Nat → Int32 → (Nat → Int32) → (Nat → Int32) → Option (Int32 × (Nat → Int32) × (Nat → Int32))
  | 0, _, _, _ => none
  | n23 + 1, x6, F_t, a_tape =>
    if 20 ≤ x6 then (
    k113 F_t a_tape)
    else (
    if 4 ≤ x6 then (
    if 8 ≤ x6 then (
    if 12 ≤ x6 then (
    if 16 ≤ x6 then (
    m_X12_feed_j76 p1 p2 p3 p4 p5 (m_X12_feed_w23 p1 p2 p3 p4 p5 k113 n23) x6 p5 F_t a_tape)
    else (
    m_X12_feed_j76 p1 p2 p3 p4 p5 (m_X12_feed_w23 p1 p2 p3 p4 p5 k113 n23) x6 p4 F_t a_tape))
    else (
    m_X12_feed_j76 p1 p2 p3 p4 p5 (m_X12_feed_w23 p1 p2 p3 p4 p5 k113 n23) x6 p3 F_t a_tape))
    else (
    m_X12_feed_j76 p1 p2 p3 p4 p5 (m_X12_feed_w23 p1 p2 p3 p4 p5 k113 n23) x6 p2 F_t a_tape))
    else (
    m_X12_feed_j76 p1 p2 p3 p4 p5 (m_X12_feed_w23 p1 p2 p3 p4 p5 k113 n23) x6 p1 F_t a_tape))
def m_X12_feed (F_t : Nat → Int32) (a_tape : Nat → Int32) (p1 : Int32) (p2 : Int32) (p3 : Int32) (p4 : Int32) (p5 : Int32) : Option (Int32 × (Nat → Int32) × (Nat → Int32)) :=
  nm (upd F_t 4 0) fun F1 =>
  if ((F1 14) + 20) ≤ 700 then (
  m_X12_feed_w23 p1 p2 p3 p4 p5 (m_X12_feed_j113 p1 p2 p3 p4 p5) fuelN 0 F1 a_tape)
  else (
  some ((-1), F1, a_tape))
set_option maxHeartbeats 4000000 in
set_option maxRecDepth 100000 in
theorem c_X12_feed (l : Launch) (D : va_G) (cI : ClassId) (h_t : Nat) (r_t : Nat → Nat) (F_t : Nat → Int32) (a_tape : Nat → Int32) (p1 : Int32) (p2 : Int32) (p3 : Int32) (p4 : Int32) (p5 : Int32) (Rr : Int32 × (Nat → Int32) × (Nat → Int32)) (hf : m_X12_feed F_t a_tape p1 p2 p3 p4 p5 = some Rr) : CTi l yX12_feed (Cond.code yX12_feed cX12_feed 8 (some .int)) rm_X12_feed D cI [.ref h_t, .int p1, .int p2, .int p3, .int p4, .int p5] (w_X12_feed h_t r_t F_t cI a_tape) Rr.1 (w_X12_feed h_t r_t Rr.2.1 cI Rr.2.2) := by
  refine z_begin_i (own := RX12) (ρ := Int32 × (Nat → Int32) × (Nat → Int32)) (fun u => w_X12_feed h_t r_t u.2.1 cI u.2.2) (fun u => u.1) (by decide +kernel) rfl (Nat.le_of_ble_eq_true rfl) ?_
  intro p e s m args below meth c ls Q A hx hb hml hts hcx hown hK hA hP hD hS hl hret
  have hl : lv_has ls 8 [(0, .ref h_t), (1, .int p1), (2, .int p2), (3, .int p3), (4, .int p4), (5, .int p5)] := hl
  have hf := (m_X12_feed.eq_1 _ _ _ _ _ _ _).symm.trans hf
  have L113 : ∀ (F_t : Nat → Int32) (a_tape : Nat → Int32) (H : Heap) (locs : List Loc) (ls : Array Slot), m_X12_feed_j113 p1 p2 p3 p4 p5 F_t a_tape = some Rr → va_P D vwCl (w_X12_feed h_t r_t F_t cI a_tape) H → va_D A (w_X12_feed h_t r_t F_t cI a_tape) → va_S A s.heap H locs → lv_has ls 8 [(0, .ref h_t)] → W p l e rm_X12_feed s m args below meth c H locs 0 0 Q (F0 m 113 ls []) := by
    intro F_t a_tape H locs ls hf hP hD hS hl
    have hf := (m_X12_feed_j113.eq_1 _ _ _ _ _ _ _).symm.trans hf
    refine lv_aload_n hx hb dX12_feed_113 rfl (lv_at hl 0 rfl) ?_
    refine lv_dup hx hb dX12_feed_114 rfl ?_
    refine z_get (ci := 12) (C := RX12) (T := TX12) (N := 51) (v := .int (F_t 14)) hx hb hts inT_X12 hown hK hP 0 rfl rfl 14 (by decide) tf_X12_318 rfl dX12_feed_115 ?_
    refine lv_bipush (v := 20) hx hb dX12_feed_118 (by decide) ?_
    refine lv_iadd hx hb dX12_feed_120 ?_
    refine z_put (ci := 12) (C := RX12) (T := TX12) (N := 51) hx hb hts inT_X12 tyX12 tyX12_ok nmX12 hown hK hP hD hS 0 rfl rfl 14 (by decide) tf_X12_318 rfl (by decide +kernel) (Nat.le_of_ble_eq_true rfl) (o_X12 r_t) (o_X12_s14 _ _ _) (fun z => w_X12_feed h_t r_t z cI a_tape) (fun _ => rfl) dX12_feed_121 hf (fun F2 H locs hf hP hD hS => ?_)
    refine lv_aload_n hx hb dX12_feed_124 rfl (lv_at hl 0 rfl) ?_
    refine z_get (ci := 12) (C := RX12) (T := TX12) (N := 51) (v := .int (F2 14)) hx hb hts inT_X12 hown hK hP 0 rfl rfl 14 (by decide) tf_X12_318 rfl dX12_feed_125 ?_
    exact hret ((F2 14), F2, a_tape) _ _ _ _ hf hP hD hS dX12_feed_128
  have L23 : ∀ (n23 : Nat) (x6 : Int32) (F_t : Nat → Int32) (a_tape : Nat → Int32) (H : Heap) (locs : List Loc) (ls : Array Slot), m_X12_feed_w23 p1 p2 p3 p4 p5 (m_X12_feed_j113 p1 p2 p3 p4 p5) n23 x6 F_t a_tape = some Rr → va_P D vwCl (w_X12_feed h_t r_t F_t cI a_tape) H → va_D A (w_X12_feed h_t r_t F_t cI a_tape) → va_S A s.heap H locs → lv_has ls 8 [(0, .ref h_t), (1, .int p1), (2, .int p2), (3, .int p3), (4, .int p4), (5, .int p5), (6, .int x6)] → W p l e rm_X12_feed s m args below meth c H locs 0 0 Q (F0 m 23 ls []) := by
    intro n23
    induction n23 with
    | zero => intro x6 F_t a_tape H locs ls hf; cases (show (none : Option _) = some Rr from hf)
    | succ n23 ih23 =>
      intro x6 F_t a_tape H locs ls hf hP hD hS hl
      have hf := (m_X12_feed_w23.eq_2 _ _ _ _ _ _ _ _ _ _).symm.trans hf
      have L76 : ∀ (x6 : Int32) (s0 : Int32) (F_t : Nat → Int32) (a_tape : Nat → Int32) (H : Heap) (locs : List Loc) (ls : Array Slot), m_X12_feed_j76 p1 p2 p3 p4 p5 (m_X12_feed_w23 p1 p2 p3 p4 p5 (m_X12_feed_j113 p1 p2 p3 p4 p5) n23) x6 s0 F_t a_tape = some Rr → va_P D vwCl (w_X12_feed h_t r_t F_t cI a_tape) H → va_D A (w_X12_feed h_t r_t F_t cI a_tape) → va_S A s.heap H locs → lv_has ls 8 [(0, .ref h_t), (1, .int p1), (2, .int p2), (3, .int p3), (4, .int p4), (5, .int p5), (6, .int x6)] → W p l e rm_X12_feed s m args below meth c H locs 0 0 Q (F0 m 76 ls [.int s0]) := by
        intro x6 s0 F_t a_tape H locs ls hf hP hD hS hl
        have hf := (m_X12_feed_j76.eq_1 _ _ _ _ _ _ _ _ _ _).symm.trans hf
        refine lv_istore (lv' := [(7, .int s0), (0, .ref h_t), (1, .int p1), (2, .int p2), (3, .int p3), (4, .int p4), (5, .int p5), (6, .int x6)]) hx hb dX12_feed_76 hl (by decide) rfl (fun ls hl => ?_)
        refine lv_aload_n hx hb dX12_feed_78 rfl (lv_at hl 1 rfl) ?_
        refine z_get (ci := 12) (C := RX12) (T := TX12) (N := 51) (v := .ref (r_t 13)) hx hb hts inT_X12 hown hK hP 0 rfl rfl 13 (by decide) tf_X12_23 rfl dX12_feed_79 ?_
        refine lv_aload_n hx hb dX12_feed_82 rfl (lv_at hl 1 rfl) ?_
        refine z_get (ci := 12) (C := RX12) (T := TX12) (N := 51) (v := .int (F_t 14)) hx hb hts inT_X12 hown hK hP 0 rfl rfl 14 (by decide) tf_X12_318 rfl dX12_feed_83 ?_
        refine lv_iload hx hb dX12_feed_86 (lv_at hl 7 rfl) ?_
        refine lv_iadd hx hb dX12_feed_88 ?_
        refine lv_iload hx hb dX12_feed_89 (lv_at hl 0 rfl) ?_
        refine lv_bipush (v := 24) hx hb dX12_feed_91 (by decide) ?_
        refine lv_bipush (v := 8) hx hb dX12_feed_93 (by decide) ?_
        refine lv_iload hx hb dX12_feed_95 (lv_at hl 7 rfl) ?_
        refine lv_iconst (v := 4) hx hb dX12_feed_97 (by decide) ?_
        refine lv_irem hx hb dX12_feed_98 (by decide) ?_
        refine lv_imul hx hb dX12_feed_99 ?_
        refine lv_isub hx hb dX12_feed_100 ?_
        refine lv_ishr hx hb dX12_feed_101 ?_
        refine lv_sipush (v := 255) hx hb dX12_feed_102 (by decide) ?_
        refine lv_iand hx hb dX12_feed_105 ?_
        refine z_iast hx hb hK hP hD hS 1 rfl (fun z => w_X12_feed h_t r_t F_t cI z) (fun _ => rfl) dX12_feed_106 hf (fun a3 H locs hf hP hD hS => ?_)
        refine z_iinc (k0 := 7) (fun z => [(6, .int z), (7, .int s0), (0, .ref h_t), (1, .int p1), (2, .int p2), (3, .int p3), (4, .int p4), (5, .int p5)]) hx hb dX12_feed_107 hl rfl (by decide) (by decide) (fun _ => rfl) hf (fun v4 ls hf hl => ?_)
        refine lv_goto (tgt := 23) hx hb dX12_feed_110 (by decide) ?_
        exact ih23 v4 F_t a3 _ _ _ hf hP hD hS (lv_sub hl [2, 3, 4, 5, 6, 7, 0] rfl)
      refine lv_iload hx hb dX12_feed_23 (lv_at hl 6 rfl) ?_
      refine lv_bipush (v := 20) hx hb dX12_feed_25 (by decide) ?_
      refine z_icmp_ge (tgt := 113) hx hb dX12_feed_27 (by decide) hf (fun hf => ?_) (fun hf => ?_)
      · exact L113 F_t a_tape _ _ _ hf hP hD hS (lv_sub hl [0] rfl)
      · refine lv_iload hx hb dX12_feed_30 (lv_at hl 6 rfl) ?_
        refine lv_iconst (v := 4) hx hb dX12_feed_32 (by decide) ?_
        refine z_icmp_ge (tgt := 40) hx hb dX12_feed_33 (by decide) hf (fun hf => ?_) (fun hf => ?_)
        · refine lv_iload hx hb dX12_feed_40 (lv_at hl 6 rfl) ?_
          refine lv_bipush (v := 8) hx hb dX12_feed_42 (by decide) ?_
          refine z_icmp_ge (tgt := 51) hx hb dX12_feed_44 (by decide) hf (fun hf => ?_) (fun hf => ?_)
          · refine lv_iload hx hb dX12_feed_51 (lv_at hl 6 rfl) ?_
            refine lv_bipush (v := 12) hx hb dX12_feed_53 (by decide) ?_
            refine z_icmp_ge (tgt := 62) hx hb dX12_feed_55 (by decide) hf (fun hf => ?_) (fun hf => ?_)
            · refine lv_iload hx hb dX12_feed_62 (lv_at hl 6 rfl) ?_
              refine lv_bipush (v := 16) hx hb dX12_feed_64 (by decide) ?_
              refine z_icmp_ge (tgt := 74) hx hb dX12_feed_66 (by decide) hf (fun hf => ?_) (fun hf => ?_)
              · refine lv_iload hx hb dX12_feed_74 (lv_at hl 5 rfl) ?_
                exact L76 x6 p5 F_t a_tape _ _ _ hf hP hD hS (lv_sub hl [0, 1, 2, 3, 4, 5, 6] rfl)
              · refine lv_iload hx hb dX12_feed_69 (lv_at hl 4 rfl) ?_
                refine lv_goto (tgt := 76) hx hb dX12_feed_71 (by decide) ?_
                exact L76 x6 p4 F_t a_tape _ _ _ hf hP hD hS (lv_sub hl [0, 1, 2, 3, 4, 5, 6] rfl)
            · refine lv_iload_n hx hb dX12_feed_58 rfl (lv_at hl 3 rfl) ?_
              refine lv_goto (tgt := 76) hx hb dX12_feed_59 (by decide) ?_
              exact L76 x6 p3 F_t a_tape _ _ _ hf hP hD hS (lv_sub hl [0, 1, 2, 3, 4, 5, 6] rfl)
          · refine lv_iload_n hx hb dX12_feed_47 rfl (lv_at hl 2 rfl) ?_
            refine lv_goto (tgt := 76) hx hb dX12_feed_48 (by decide) ?_
            exact L76 x6 p2 F_t a_tape _ _ _ hf hP hD hS (lv_sub hl [0, 1, 2, 3, 4, 5, 6] rfl)
        · refine lv_iload_n hx hb dX12_feed_36 rfl (lv_at hl 1 rfl) ?_
          refine lv_goto (tgt := 76) hx hb dX12_feed_37 (by decide) ?_
          exact L76 x6 p1 F_t a_tape _ _ _ hf hP hD hS (lv_sub hl [0, 1, 2, 3, 4, 5, 6] rfl)
  refine lv_aload_n hx hb dX12_feed_0 rfl (lv_at hl 0 rfl) ?_
  refine lv_iconst (v := 0) hx hb dX12_feed_1 (by decide) ?_
  refine z_put (ci := 12) (C := RX12) (T := TX12) (N := 51) hx hb hts inT_X12 tyX12 tyX12_ok nmX12 hown hK hP hD hS 0 rfl rfl 4 (by decide) tf_X12_63 rfl (by decide +kernel) (Nat.le_of_ble_eq_true rfl) (o_X12 r_t) (o_X12_s4 _ _ _) (fun z => w_X12_feed h_t r_t z cI a_tape) (fun _ => rfl) dX12_feed_2 hf (fun F1 H locs hf hP hD hS => ?_)
  refine lv_aload_n hx hb dX12_feed_5 rfl (lv_at hl 0 rfl) ?_
  refine z_get (ci := 12) (C := RX12) (T := TX12) (N := 51) (v := .int (F1 14)) hx hb hts inT_X12 hown hK hP 0 rfl rfl 14 (by decide) tf_X12_318 rfl dX12_feed_6 ?_
  refine lv_bipush (v := 20) hx hb dX12_feed_9 (by decide) ?_
  refine lv_iadd hx hb dX12_feed_11 ?_
  refine lv_sipush (v := 700) hx hb dX12_feed_12 (by decide) ?_
  refine z_icmp_le (tgt := 20) hx hb dX12_feed_15 (by decide) hf (fun hf => ?_) (fun hf => ?_)
  · refine lv_iconst (v := 0) hx hb dX12_feed_20 (by decide) ?_
    refine lv_istore (lv' := [(6, .int 0), (0, .ref h_t), (1, .int p1), (2, .int p2), (3, .int p3), (4, .int p4), (5, .int p5)]) hx hb dX12_feed_21 hl (by decide) rfl (fun ls hl => ?_)
    exact L23 fuelN 0 F1 a_tape _ _ _ hf hP hD hS (lv_sub hl [1, 2, 3, 4, 5, 6, 0] rfl)
  · refine lv_iconst (v := (-1)) hx hb dX12_feed_18 (by decide) ?_
    exact hret ((-1), F1, a_tape) _ _ _ _ hf hP hD hS dX12_feed_19
abbrev w_X12_fault (h_t : Nat) (r_t : Nat → Nat) (F_t : Nat → Int32) (cI : ClassId) : va_W := [(h_t, .inr (12, o_X12 r_t F_t))]
abbrev rm_X12_fault : Room := { frames := 0, cells := 0, slots := 0, locals := 0 }
def m_X12_fault (F_t : Nat → Int32) : Option (Int32 × (Nat → Int32)) :=
  nm (upd F_t 4 0) fun F1 =>
  some ((F1 15), F1)
set_option maxHeartbeats 4000000 in
set_option maxRecDepth 100000 in
theorem c_X12_fault (l : Launch) (D : va_G) (cI : ClassId) (h_t : Nat) (r_t : Nat → Nat) (F_t : Nat → Int32) (Rr : Int32 × (Nat → Int32)) (hf : m_X12_fault F_t = some Rr) : CTi l yX12_fault (Cond.code yX12_fault cX12_fault 1 (some .int)) rm_X12_fault D cI [.ref h_t] (w_X12_fault h_t r_t F_t cI) Rr.1 (w_X12_fault h_t r_t Rr.2 cI) := by
  refine z_begin_i (own := RX12) (ρ := Int32 × (Nat → Int32)) (fun u => w_X12_fault h_t r_t u.2 cI) (fun u => u.1) (by decide +kernel) rfl (Nat.le_of_ble_eq_true rfl) ?_
  intro p e s m args below meth c ls Q A hx hb hml hts hcx hown hK hA hP hD hS hl hret
  have hl : lv_has ls 1 [(0, .ref h_t)] := hl
  have hf := (m_X12_fault.eq_1 _).symm.trans hf
  refine lv_aload_n hx hb dX12_fault_0 rfl (lv_at hl 0 rfl) ?_
  refine lv_iconst (v := 0) hx hb dX12_fault_1 (by decide) ?_
  refine z_put (ci := 12) (C := RX12) (T := TX12) (N := 51) hx hb hts inT_X12 tyX12 tyX12_ok nmX12 hown hK hP hD hS 0 rfl rfl 4 (by decide) tf_X12_63 rfl (by decide +kernel) (Nat.le_of_ble_eq_true rfl) (o_X12 r_t) (o_X12_s4 _ _ _) (fun z => w_X12_fault h_t r_t z cI) (fun _ => rfl) dX12_fault_2 hf (fun F1 H locs hf hP hD hS => ?_)
  refine lv_aload_n hx hb dX12_fault_5 rfl (lv_at hl 0 rfl) ?_
  refine z_get (ci := 12) (C := RX12) (T := TX12) (N := 51) (v := .int (F1 15)) hx hb hts inT_X12 hown hK hP 0 rfl rfl 15 (by decide) tf_X12_26 rfl dX12_fault_6 ?_
  exact hret ((F1 15), F1) _ _ _ _ hf hP hD hS dX12_fault_9
abbrev w_X12_pending (h_t : Nat) (r_t : Nat → Nat) (F_t : Nat → Int32) (cI : ClassId) (a_rows : Nat → Int32) : va_W := [(h_t, .inr (12, o_X12 r_t F_t)), ((r_t 0), .inl (cI, 66100, .inl a_rows))]
abbrev rm_X12_pending : Room := { frames := 0, cells := 0, slots := 0, locals := 0 }
def m_X12_pending_w4 (a_rows : Nat → Int32) : Nat → Int32 → Int32 → Option (Int32)
  | 0, _, _ => none
  | n4 + 1, x1, x2 =>
    if 16 ≤ x2 then (
    some x1)
    else (
    rd a_rows 66100 (64 + x2) fun y1 =>
    nm (x1 + y1) fun v2 =>
    nm (x2 + 1) fun v3 =>
    m_X12_pending_w4 a_rows n4 v2 v3)
def m_X12_pending (a_rows : Nat → Int32) : Option (Int32) :=
  m_X12_pending_w4 a_rows fuelN 0 0
set_option maxHeartbeats 4000000 in
set_option maxRecDepth 100000 in
theorem c_X12_pending (l : Launch) (D : va_G) (cI : ClassId) (h_t : Nat) (r_t : Nat → Nat) (F_t : Nat → Int32) (a_rows : Nat → Int32) (Rr : Int32) (hf : m_X12_pending a_rows = some Rr) : CTi l yX12_pending (Cond.code yX12_pending cX12_pending 3 (some .int)) rm_X12_pending D cI [.ref h_t] (w_X12_pending h_t r_t F_t cI a_rows) Rr (w_X12_pending h_t r_t F_t cI a_rows) := by
  refine z_begin_i (own := RX12) (ρ := Int32) (fun u => w_X12_pending h_t r_t F_t cI a_rows) (fun u => u) (by decide +kernel) rfl (Nat.le_of_ble_eq_true rfl) ?_
  intro p e s m args below meth c ls Q A hx hb hml hts hcx hown hK hA hP hD hS hl hret
  have hl : lv_has ls 3 [(0, .ref h_t)] := hl
  have hf := (m_X12_pending.eq_1 _).symm.trans hf
  have L4 : ∀ (n4 : Nat) (x1 : Int32) (x2 : Int32) (H : Heap) (locs : List Loc) (ls : Array Slot), m_X12_pending_w4 a_rows n4 x1 x2 = some Rr → va_P D vwCl (w_X12_pending h_t r_t F_t cI a_rows) H → va_D A (w_X12_pending h_t r_t F_t cI a_rows) → va_S A s.heap H locs → lv_has ls 3 [(0, .ref h_t), (1, .int x1), (2, .int x2)] → W p l e rm_X12_pending s m args below meth c H locs 0 0 Q (F0 m 4 ls []) := by
    intro n4
    induction n4 with
    | zero => intro x1 x2 H locs ls hf; cases (show (none : Option _) = some Rr from hf)
    | succ n4 ih4 =>
      intro x1 x2 H locs ls hf hP hD hS hl
      have hf := (m_X12_pending_w4.eq_2 _ _ _ _).symm.trans hf
      refine lv_iload_n hx hb dX12_pending_4 rfl (lv_at hl 2 rfl) ?_
      refine lv_bipush (v := 16) hx hb dX12_pending_5 (by decide) ?_
      refine z_icmp_ge (tgt := 28) hx hb dX12_pending_7 (by decide) hf (fun hf => ?_) (fun hf => ?_)
      · refine lv_iload_n hx hb dX12_pending_28 rfl (lv_at hl 1 rfl) ?_
        exact hret x1 _ _ _ _ hf hP hD hS dX12_pending_29
      · refine lv_iload_n hx hb dX12_pending_10 rfl (lv_at hl 1 rfl) ?_
        refine lv_aload_n hx hb dX12_pending_11 rfl (lv_at hl 0 rfl) ?_
        refine z_get (ci := 12) (C := RX12) (T := TX12) (N := 51) (v := .ref (r_t 0)) hx hb hts inT_X12 hown hK hP 0 rfl rfl 0 (by decide) tf_X12_10 rfl dX12_pending_12 ?_
        refine lv_bipush (v := 64) hx hb dX12_pending_15 (by decide) ?_
        refine lv_iload_n hx hb dX12_pending_17 rfl (lv_at hl 2 rfl) ?_
        refine lv_iadd hx hb dX12_pending_18 ?_
        refine z_iald hx hb hK hP 1 rfl dX12_pending_19 hf (fun y1 hf => ?_)
        refine lv_iadd hx hb dX12_pending_20 ?_
        refine z_istore_n (fun z => [(1, .int z), (0, .ref h_t), (2, .int x2)]) hx hb dX12_pending_21 rfl hl (by decide) (fun _ => rfl) hf (fun v2 ls hf hl => ?_)
        refine z_iinc (k0 := 2) (fun z => [(2, .int z), (1, .int v2), (0, .ref h_t)]) hx hb dX12_pending_22 hl rfl (by decide) (by decide) (fun _ => rfl) hf (fun v3 ls hf hl => ?_)
        refine lv_goto (tgt := 4) hx hb dX12_pending_25 (by decide) ?_
        exact ih4 v2 v3 _ _ _ hf hP hD hS (lv_sub hl [2, 1, 0] rfl)
  refine lv_iconst (v := 0) hx hb dX12_pending_0 (by decide) ?_
  refine lv_istore_n (lv' := [(1, .int 0), (0, .ref h_t)]) hx hb dX12_pending_1 rfl hl (by decide) rfl (fun ls hl => ?_)
  refine lv_iconst (v := 0) hx hb dX12_pending_2 (by decide) ?_
  refine lv_istore_n (lv' := [(2, .int 0), (1, .int 0), (0, .ref h_t)]) hx hb dX12_pending_3 rfl hl (by decide) rfl (fun ls hl => ?_)
  exact L4 fuelN 0 0 _ _ _ hf hP hD hS (lv_sub hl [2, 1, 0] rfl)
abbrev w_X12_isWord (h_t : Nat) (r_t : Nat → Nat) (F_t : Nat → Int32) (cI : ClassId) : va_W := [(h_t, .inr (12, o_X12 r_t F_t))]
abbrev rm_X12_isWord : Room := { frames := 1, cells := 0, slots := 0, locals := 22 }
def m_X12_isWord (F_t : Nat → Int32) (p1 : Int32) : Option (Int32 × (Nat → Int32)) :=
  bd (m_X12_within p1 0 63) fun u1 =>
  bd (m_X12_right F_t u1 1) fun u2 =>
  cb u2.1 (some (u2.1, u2.2))
set_option maxHeartbeats 4000000 in
set_option maxRecDepth 100000 in
theorem c_X12_isWord (l : Launch) (D : va_G) (cI : ClassId) (h_t : Nat) (r_t : Nat → Nat) (F_t : Nat → Int32) (p1 : Int32) (Rr : Int32 × (Nat → Int32)) (hf : m_X12_isWord F_t p1 = some Rr) : CTi l yX12_isWord (Cond.code yX12_isWord cX12_isWord 2 (some .boolean)) rm_X12_isWord D cI [.ref h_t, .int p1] (w_X12_isWord h_t r_t F_t cI) Rr.1 (w_X12_isWord h_t r_t Rr.2 cI) := by
  refine z_begin_z (own := RX12) (ρ := Int32 × (Nat → Int32)) (fun u => w_X12_isWord h_t r_t u.2 cI) (fun u => u.1) (by decide +kernel) rfl (Nat.le_of_ble_eq_true rfl) ?_
  intro p e s m args below meth c ls Q A hx hb hml hts hcx hown hK hA hP hD hS hl hret
  have hl : lv_has ls 2 [(0, .ref h_t), (1, .int p1)] := hl
  have hf := (m_X12_isWord.eq_1 _ _).symm.trans hf
  refine lv_aload_n hx hb dX12_isWord_0 rfl (lv_at hl 0 rfl) ?_
  refine lv_iload_n hx hb dX12_isWord_1 rfl (lv_at hl 1 rfl) ?_
  refine lv_iconst (v := 0) hx hb dX12_isWord_2 (by decide) ?_
  refine lv_bipush (v := 63) hx hb dX12_isWord_3 (by decide) ?_
  obtain ⟨u1, hu1, hf⟩ := bd_some hf
  refine z_ci (ws1 := w_X12_isWord h_t r_t F_t cI) (wr := List.filterMap (fun i : Nat => (w_X12_isWord h_t r_t F_t cI)[i]?) [0]) (z_rS (rest := [.ref h_t]) hx hb hml hown hcx hl.1 (c_X12_within l D cI p1 0 63 u1 hu1 _) tl_X12_172 ts_X12_within tn_X12 tc_X12_within tm_X12_within rfl rfl ⟨Nat.le_of_ble_eq_true rfl, Nat.le_of_ble_eq_true rfl⟩ hK hP hD [] rfl rfl rfl rfl (Nat.le_of_ble_eq_true rfl) dX12_isWord_5 ⟨Nat.zero_le _, Nat.zero_le _⟩) hP hD hS hA [] [0] [0] rfl rfl rfl (by decide) rfl rfl (fun H locs hP hD hS => ?_)
  refine lv_iconst (v := 1) hx hb dX12_isWord_8 (by decide) ?_
  obtain ⟨u2, hu2, hf⟩ := bd_some hf
  refine z_ci (ws1 := w_X12_isWord h_t r_t u2.2 cI) (wr := List.filterMap (fun i : Nat => (w_X12_isWord h_t r_t F_t cI)[i]?) []) (z_rV (rest := []) hx hb hml hown hcx hl.1 (c_X12_right l D cI h_t r_t F_t u1 1 u2 hu2 _) tl_X12_321 ti_X12_right tz_X12_right tn_X12 tc_X12_right tm_X12_right rfl rfl ⟨Nat.le_of_ble_eq_true rfl, Nat.le_of_ble_eq_true rfl⟩ hK hP hD [0] rfl rfl 0 rfl rfl rfl rfl (Nat.le_of_ble_eq_true rfl) dX12_isWord_9 ⟨Nat.zero_le _, Nat.zero_le _⟩) hP hD hS hA [0] [] [0] rfl rfl rfl (by decide) rfl rfl (fun H locs hP hD hS => ?_)
  obtain ⟨h01, hf⟩ := cb_some hf
  exact hret (u2.1, u2.2) _ _ _ _ h01 hf hP hD hS dX12_isWord_12
abbrev w_X12_word (h_t : Nat) (r_t : Nat → Nat) (F_t : Nat → Int32) (cI : ClassId) (a_rows : Nat → Int32) : va_W := [(h_t, .inr (12, o_X12 r_t F_t)), ((r_t 0), .inl (cI, 66100, .inl a_rows))]
abbrev rm_X12_word : Room := { frames := 2, cells := 0, slots := 0, locals := 43 }
def m_X12_word (F_t : Nat → Int32) (a_rows : Nat → Int32) (p1 : Int32) (p2 : Int32) : Option (Int32 × (Nat → Int32)) :=
  nm (upd F_t 4 0) fun F1 =>
  bd (m_X12_isWord F1 p1) fun u2 =>
  if u2.1 = 0 then (
  some (0, u2.2))
  else (
  if p2 = 0 then (
  bd (m_X12_wordOf a_rows 0 p1) fun u3 =>
  some (u3, u2.2))
  else (
  rd a_rows 66100 p1 fun y4 =>
  some (y4, u2.2)))
set_option maxHeartbeats 4000000 in
set_option maxRecDepth 100000 in
theorem c_X12_word (l : Launch) (D : va_G) (cI : ClassId) (h_t : Nat) (r_t : Nat → Nat) (F_t : Nat → Int32) (a_rows : Nat → Int32) (p1 : Int32) (p2 : Int32) (Rr : Int32 × (Nat → Int32)) (hf : m_X12_word F_t a_rows p1 p2 = some Rr) : CTi l yX12_word (Cond.code yX12_word cX12_word 3 (some .int)) rm_X12_word D cI [.ref h_t, .int p1, .int p2] (w_X12_word h_t r_t F_t cI a_rows) Rr.1 (w_X12_word h_t r_t Rr.2 cI a_rows) := by
  refine z_begin_i (own := RX12) (ρ := Int32 × (Nat → Int32)) (fun u => w_X12_word h_t r_t u.2 cI a_rows) (fun u => u.1) (by decide +kernel) rfl (Nat.le_of_ble_eq_true rfl) ?_
  intro p e s m args below meth c ls Q A hx hb hml hts hcx hown hK hA hP hD hS hl hret
  have hl : lv_has ls 3 [(0, .ref h_t), (1, .int p1), (2, .int p2)] := hl
  have hf := (m_X12_word.eq_1 _ _ _ _).symm.trans hf
  refine lv_aload_n hx hb dX12_word_0 rfl (lv_at hl 0 rfl) ?_
  refine lv_iconst (v := 0) hx hb dX12_word_1 (by decide) ?_
  refine z_put (ci := 12) (C := RX12) (T := TX12) (N := 51) hx hb hts inT_X12 tyX12 tyX12_ok nmX12 hown hK hP hD hS 0 rfl rfl 4 (by decide) tf_X12_63 rfl (by decide +kernel) (Nat.le_of_ble_eq_true rfl) (o_X12 r_t) (o_X12_s4 _ _ _) (fun z => w_X12_word h_t r_t z cI a_rows) (fun _ => rfl) dX12_word_2 hf (fun F1 H locs hf hP hD hS => ?_)
  refine lv_aload_n hx hb dX12_word_5 rfl (lv_at hl 0 rfl) ?_
  refine lv_iload_n hx hb dX12_word_6 rfl (lv_at hl 1 rfl) ?_
  obtain ⟨u2, hu2, hf⟩ := bd_some hf
  refine z_ci (ws1 := w_X12_word h_t r_t u2.2 cI a_rows) (wr := List.filterMap (fun i : Nat => (w_X12_word h_t r_t F1 cI a_rows)[i]?) [1]) (z_rV (rest := []) hx hb hml hown hcx hl.1 (c_X12_isWord l D cI h_t r_t F1 p1 u2 hu2 _) tl_X12_342 ti_X12_isWord tz_X12_isWord tn_X12 tc_X12_isWord tm_X12_isWord rfl rfl ⟨Nat.le_of_ble_eq_true rfl, Nat.le_of_ble_eq_true rfl⟩ hK hP hD [0] rfl rfl 0 rfl rfl rfl rfl (Nat.le_of_ble_eq_true rfl) dX12_word_7 ⟨Nat.zero_le _, Nat.zero_le _⟩) hP hD hS hA [0] [1] [1, 0] rfl rfl rfl (by decide) rfl rfl (fun H locs hP hD hS => ?_)
  refine z_if_ne (tgt := 17) hx hb dX12_word_10 (by decide) hf (fun hf => ?_) (fun hf => ?_)
  · refine lv_iload_n hx hb dX12_word_17 rfl (lv_at hl 2 rfl) ?_
    refine z_if_eq (tgt := 30) hx hb dX12_word_18 (by decide) hf (fun hf => ?_) (fun hf => ?_)
    · refine lv_aload_n hx hb dX12_word_30 rfl (lv_at hl 0 rfl) ?_
      refine lv_iconst (v := 0) hx hb dX12_word_31 (by decide) ?_
      refine lv_iload_n hx hb dX12_word_32 rfl (lv_at hl 1 rfl) ?_
      obtain ⟨u3, hu3, hf⟩ := bd_some hf
      refine z_ci (ws1 := w_X12_word h_t r_t u2.2 cI a_rows) (wr := List.filterMap (fun i : Nat => (w_X12_word h_t r_t u2.2 cI a_rows)[i]?) []) (z_rV (rest := []) hx hb hml hown hcx hl.1 (c_X12_wordOf l D cI h_t r_t u2.2 a_rows 0 p1 u3 hu3 _) tl_X12_118 ti_X12_wordOf tz_X12_wordOf tn_X12 tc_X12_wordOf tm_X12_wordOf rfl rfl ⟨Nat.le_of_ble_eq_true rfl, Nat.le_of_ble_eq_true rfl⟩ hK hP hD [0, 1] rfl rfl 0 rfl rfl rfl rfl (Nat.le_of_ble_eq_true rfl) dX12_word_33 ⟨Nat.zero_le _, Nat.zero_le _⟩) hP hD hS hA [0, 1] [] [0, 1] rfl rfl rfl (by decide) rfl rfl (fun H locs hP hD hS => ?_)
      exact hret (u3, u2.2) _ _ _ _ hf hP hD hS dX12_word_36
    · refine lv_aload_n hx hb dX12_word_21 rfl (lv_at hl 0 rfl) ?_
      refine z_get (ci := 12) (C := RX12) (T := TX12) (N := 51) (v := .ref (r_t 0)) hx hb hts inT_X12 hown hK hP 0 rfl rfl 0 (by decide) tf_X12_10 rfl dX12_word_22 ?_
      refine lv_iload_n hx hb dX12_word_25 rfl (lv_at hl 1 rfl) ?_
      refine z_iald hx hb hK hP 1 rfl dX12_word_26 hf (fun y4 hf => ?_)
      refine lv_goto (tgt := 36) hx hb dX12_word_27 (by decide) ?_
      exact hret (y4, u2.2) _ _ _ _ hf hP hD hS dX12_word_36
  · refine lv_iconst (v := 0) hx hb dX12_word_13 (by decide) ?_
    refine lv_goto (tgt := 36) hx hb dX12_word_14 (by decide) ?_
    exact hret (0, u2.2) _ _ _ _ hf hP hD hS dX12_word_36
abbrev w_X12_line (h_t : Nat) (r_t : Nat → Nat) (F_t : Nat → Int32) (cI : ClassId) (a_rows : Nat → Int32) : va_W := [(h_t, .inr (12, o_X12 r_t F_t)), ((r_t 0), .inl (cI, 66100, .inl a_rows))]
abbrev rm_X12_line : Room := { frames := 1, cells := 0, slots := 0, locals := 22 }
def m_X12_line_j76 (a_rows : Nat → Int32) (p1 : Int32) (p2 : Int32) (s1 : Int32) (F_t : Nat → Int32) : Option (Int32 × (Nat → Int32)) :=
  bd (m_X12_right F_t s1 1) fun u4 =>
  if u4.1 = 0 then (
  some (0, u4.2))
  else (
  rd a_rows 66100 ((96 + (12 * p1)) + (2 * p2)) fun y5 =>
  rd a_rows 66100 (((96 + (12 * p1)) + (2 * p2)) + 1) fun y6 =>
  some (((100 * y5) + y6), u4.2))
def m_X12_line_j75 (a_rows : Nat → Int32) (p1 : Int32) (p2 : Int32) (F_t : Nat → Int32) : Option (Int32 × (Nat → Int32)) :=
  m_X12_line_j76 a_rows p1 p2 0 F_t
def m_X12_line (F_t : Nat → Int32) (a_rows : Nat → Int32) (p1 : Int32) (p2 : Int32) : Option (Int32 × (Nat → Int32)) :=
  nm (upd F_t 4 0) fun F1 =>
  bd (m_X12_within p1 0 15) fun u2 =>
  bd (m_X12_right F1 u2 1) fun u3 =>
  if u3.1 = 0 then (
  some (0, u3.2))
  else (
  if p2 = (-1) then (
  rd a_rows 66100 (64 + p1) fun y9 =>
  some (y9, u3.2))
  else (
  if p2 = (-2) then (
  rd a_rows 66100 (80 + p1) fun y8 =>
  some (y8, u3.2))
  else (
  if p2 < 0 then (
  m_X12_line_j75 a_rows p1 p2 u3.2)
  else (
  rd a_rows 66100 (64 + p1) fun y7 =>
  if y7 ≤ p2 then (
  m_X12_line_j75 a_rows p1 p2 u3.2)
  else (
  m_X12_line_j76 a_rows p1 p2 1 u3.2)))))
set_option maxHeartbeats 4000000 in
set_option maxRecDepth 100000 in
theorem c_X12_line (l : Launch) (D : va_G) (cI : ClassId) (h_t : Nat) (r_t : Nat → Nat) (F_t : Nat → Int32) (a_rows : Nat → Int32) (p1 : Int32) (p2 : Int32) (Rr : Int32 × (Nat → Int32)) (hf : m_X12_line F_t a_rows p1 p2 = some Rr) : CTi l yX12_line (Cond.code yX12_line cX12_line 3 (some .int)) rm_X12_line D cI [.ref h_t, .int p1, .int p2] (w_X12_line h_t r_t F_t cI a_rows) Rr.1 (w_X12_line h_t r_t Rr.2 cI a_rows) := by
  refine z_begin_i (own := RX12) (ρ := Int32 × (Nat → Int32)) (fun u => w_X12_line h_t r_t u.2 cI a_rows) (fun u => u.1) (by decide +kernel) rfl (Nat.le_of_ble_eq_true rfl) ?_
  intro p e s m args below meth c ls Q A hx hb hml hts hcx hown hK hA hP hD hS hl hret
  have hl : lv_has ls 3 [(0, .ref h_t), (1, .int p1), (2, .int p2)] := hl
  have hf := (m_X12_line.eq_1 _ _ _ _).symm.trans hf
  have L76 : ∀ (s1 : Int32) (F_t : Nat → Int32) (H : Heap) (locs : List Loc) (ls : Array Slot), m_X12_line_j76 a_rows p1 p2 s1 F_t = some Rr → va_P D vwCl (w_X12_line h_t r_t F_t cI a_rows) H → va_D A (w_X12_line h_t r_t F_t cI a_rows) → va_S A s.heap H locs → lv_has ls 3 [(0, .ref h_t), (1, .int p1), (2, .int p2)] → W p l e rm_X12_line s m args below meth c H locs 0 0 Q (F0 m 76 ls [.int s1, .ref h_t]) := by
    intro s1 F_t H locs ls hf hP hD hS hl
    have hf := (m_X12_line_j76.eq_1 _ _ _ _ _).symm.trans hf
    refine lv_iconst (v := 1) hx hb dX12_line_76 (by decide) ?_
    obtain ⟨u4, hu4, hf⟩ := bd_some hf
    refine z_ci (ws1 := w_X12_line h_t r_t u4.2 cI a_rows) (wr := List.filterMap (fun i : Nat => (w_X12_line h_t r_t F_t cI a_rows)[i]?) [1]) (z_rV (rest := []) hx hb hml hown hcx hl.1 (c_X12_right l D cI h_t r_t F_t s1 1 u4 hu4 _) tl_X12_321 ti_X12_right tz_X12_right tn_X12 tc_X12_right tm_X12_right rfl rfl ⟨Nat.le_of_ble_eq_true rfl, Nat.le_of_ble_eq_true rfl⟩ hK hP hD [0] rfl rfl 0 rfl rfl rfl rfl (Nat.le_of_ble_eq_true rfl) dX12_line_77 ⟨Nat.zero_le _, Nat.zero_le _⟩) hP hD hS hA [0] [1] [1, 0] rfl rfl rfl (by decide) rfl rfl (fun H locs hP hD hS => ?_)
    refine z_if_ne (tgt := 85) hx hb dX12_line_80 (by decide) hf (fun hf => ?_) (fun hf => ?_)
    · refine lv_bipush (v := 100) hx hb dX12_line_85 (by decide) ?_
      refine lv_aload_n hx hb dX12_line_87 rfl (lv_at hl 0 rfl) ?_
      refine z_get (ci := 12) (C := RX12) (T := TX12) (N := 51) (v := .ref (r_t 0)) hx hb hts inT_X12 hown hK hP 0 rfl rfl 0 (by decide) tf_X12_10 rfl dX12_line_88 ?_
      refine lv_bipush (v := 96) hx hb dX12_line_91 (by decide) ?_
      refine lv_bipush (v := 12) hx hb dX12_line_93 (by decide) ?_
      refine lv_iload_n hx hb dX12_line_95 rfl (lv_at hl 1 rfl) ?_
      refine lv_imul hx hb dX12_line_96 ?_
      refine lv_iadd hx hb dX12_line_97 ?_
      refine lv_iconst (v := 2) hx hb dX12_line_98 (by decide) ?_
      refine lv_iload_n hx hb dX12_line_99 rfl (lv_at hl 2 rfl) ?_
      refine lv_imul hx hb dX12_line_100 ?_
      refine lv_iadd hx hb dX12_line_101 ?_
      refine z_iald hx hb hK hP 1 rfl dX12_line_102 hf (fun y5 hf => ?_)
      refine lv_imul hx hb dX12_line_103 ?_
      refine lv_aload_n hx hb dX12_line_104 rfl (lv_at hl 0 rfl) ?_
      refine z_get (ci := 12) (C := RX12) (T := TX12) (N := 51) (v := .ref (r_t 0)) hx hb hts inT_X12 hown hK hP 0 rfl rfl 0 (by decide) tf_X12_10 rfl dX12_line_105 ?_
      refine lv_bipush (v := 96) hx hb dX12_line_108 (by decide) ?_
      refine lv_bipush (v := 12) hx hb dX12_line_110 (by decide) ?_
      refine lv_iload_n hx hb dX12_line_112 rfl (lv_at hl 1 rfl) ?_
      refine lv_imul hx hb dX12_line_113 ?_
      refine lv_iadd hx hb dX12_line_114 ?_
      refine lv_iconst (v := 2) hx hb dX12_line_115 (by decide) ?_
      refine lv_iload_n hx hb dX12_line_116 rfl (lv_at hl 2 rfl) ?_
      refine lv_imul hx hb dX12_line_117 ?_
      refine lv_iadd hx hb dX12_line_118 ?_
      refine lv_iconst (v := 1) hx hb dX12_line_119 (by decide) ?_
      refine lv_iadd hx hb dX12_line_120 ?_
      refine z_iald hx hb hK hP 1 rfl dX12_line_121 hf (fun y6 hf => ?_)
      refine lv_iadd hx hb dX12_line_122 ?_
      exact hret (((100 * y5) + y6), u4.2) _ _ _ _ hf hP hD hS dX12_line_123
    · refine lv_iconst (v := 0) hx hb dX12_line_83 (by decide) ?_
      exact hret (0, u4.2) _ _ _ _ hf hP hD hS dX12_line_84
  have L75 : ∀ (F_t : Nat → Int32) (H : Heap) (locs : List Loc) (ls : Array Slot), m_X12_line_j75 a_rows p1 p2 F_t = some Rr → va_P D vwCl (w_X12_line h_t r_t F_t cI a_rows) H → va_D A (w_X12_line h_t r_t F_t cI a_rows) → va_S A s.heap H locs → lv_has ls 3 [(0, .ref h_t), (1, .int p1), (2, .int p2)] → W p l e rm_X12_line s m args below meth c H locs 0 0 Q (F0 m 75 ls [.ref h_t]) := by
    intro F_t H locs ls hf hP hD hS hl
    have hf := (m_X12_line_j75.eq_1 _ _ _ _).symm.trans hf
    refine lv_iconst (v := 0) hx hb dX12_line_75 (by decide) ?_
    exact L76 0 F_t _ _ _ hf hP hD hS (lv_sub hl [0, 1, 2] rfl)
  refine lv_aload_n hx hb dX12_line_0 rfl (lv_at hl 0 rfl) ?_
  refine lv_iconst (v := 0) hx hb dX12_line_1 (by decide) ?_
  refine z_put (ci := 12) (C := RX12) (T := TX12) (N := 51) hx hb hts inT_X12 tyX12 tyX12_ok nmX12 hown hK hP hD hS 0 rfl rfl 4 (by decide) tf_X12_63 rfl (by decide +kernel) (Nat.le_of_ble_eq_true rfl) (o_X12 r_t) (o_X12_s4 _ _ _) (fun z => w_X12_line h_t r_t z cI a_rows) (fun _ => rfl) dX12_line_2 hf (fun F1 H locs hf hP hD hS => ?_)
  refine lv_aload_n hx hb dX12_line_5 rfl (lv_at hl 0 rfl) ?_
  refine lv_iload_n hx hb dX12_line_6 rfl (lv_at hl 1 rfl) ?_
  refine lv_iconst (v := 0) hx hb dX12_line_7 (by decide) ?_
  refine lv_bipush (v := 15) hx hb dX12_line_8 (by decide) ?_
  obtain ⟨u2, hu2, hf⟩ := bd_some hf
  refine z_ci (ws1 := w_X12_line h_t r_t F1 cI a_rows) (wr := List.filterMap (fun i : Nat => (w_X12_line h_t r_t F1 cI a_rows)[i]?) [0, 1]) (z_rS (rest := [.ref h_t]) hx hb hml hown hcx hl.1 (c_X12_within l D cI p1 0 15 u2 hu2 _) tl_X12_172 ts_X12_within tn_X12 tc_X12_within tm_X12_within rfl rfl ⟨Nat.le_of_ble_eq_true rfl, Nat.le_of_ble_eq_true rfl⟩ hK hP hD [] rfl rfl rfl rfl (Nat.le_of_ble_eq_true rfl) dX12_line_10 ⟨Nat.zero_le _, Nat.zero_le _⟩) hP hD hS hA [] [0, 1] [0, 1] rfl rfl rfl (by decide) rfl rfl (fun H locs hP hD hS => ?_)
  refine lv_iconst (v := 1) hx hb dX12_line_13 (by decide) ?_
  obtain ⟨u3, hu3, hf⟩ := bd_some hf
  refine z_ci (ws1 := w_X12_line h_t r_t u3.2 cI a_rows) (wr := List.filterMap (fun i : Nat => (w_X12_line h_t r_t F1 cI a_rows)[i]?) [1]) (z_rV (rest := []) hx hb hml hown hcx hl.1 (c_X12_right l D cI h_t r_t F1 u2 1 u3 hu3 _) tl_X12_321 ti_X12_right tz_X12_right tn_X12 tc_X12_right tm_X12_right rfl rfl ⟨Nat.le_of_ble_eq_true rfl, Nat.le_of_ble_eq_true rfl⟩ hK hP hD [0] rfl rfl 0 rfl rfl rfl rfl (Nat.le_of_ble_eq_true rfl) dX12_line_14 ⟨Nat.zero_le _, Nat.zero_le _⟩) hP hD hS hA [0] [1] [1, 0] rfl rfl rfl (by decide) rfl rfl (fun H locs hP hD hS => ?_)
  refine z_if_ne (tgt := 22) hx hb dX12_line_17 (by decide) hf (fun hf => ?_) (fun hf => ?_)
  · refine lv_iload_n hx hb dX12_line_22 rfl (lv_at hl 2 rfl) ?_
    refine lv_iconst (v := (-1)) hx hb dX12_line_23 (by decide) ?_
    refine z_icmp_ne (tgt := 37) hx hb dX12_line_24 (by decide) hf (fun hf => ?_) (fun hf => ?_)
    · refine lv_iload_n hx hb dX12_line_37 rfl (lv_at hl 2 rfl) ?_
      refine lv_bipush (v := (-2)) hx hb dX12_line_38 (by decide) ?_
      refine z_icmp_ne (tgt := 53) hx hb dX12_line_40 (by decide) hf (fun hf => ?_) (fun hf => ?_)
      · refine lv_aload_n hx hb dX12_line_53 rfl (lv_at hl 0 rfl) ?_
        refine lv_iload_n hx hb dX12_line_54 rfl (lv_at hl 2 rfl) ?_
        refine z_if_lt (tgt := 75) hx hb dX12_line_55 (by decide) hf (fun hf => ?_) (fun hf => ?_)
        · exact L75 u3.2 _ _ _ hf hP hD hS (lv_sub hl [0, 1, 2] rfl)
        · refine lv_iload_n hx hb dX12_line_58 rfl (lv_at hl 2 rfl) ?_
          refine lv_aload_n hx hb dX12_line_59 rfl (lv_at hl 0 rfl) ?_
          refine z_get (ci := 12) (C := RX12) (T := TX12) (N := 51) (v := .ref (r_t 0)) hx hb hts inT_X12 hown hK hP 0 rfl rfl 0 (by decide) tf_X12_10 rfl dX12_line_60 ?_
          refine lv_bipush (v := 64) hx hb dX12_line_63 (by decide) ?_
          refine lv_iload_n hx hb dX12_line_65 rfl (lv_at hl 1 rfl) ?_
          refine lv_iadd hx hb dX12_line_66 ?_
          refine z_iald hx hb hK hP 1 rfl dX12_line_67 hf (fun y7 hf => ?_)
          refine z_icmp_ge (tgt := 75) hx hb dX12_line_68 (by decide) hf (fun hf => ?_) (fun hf => ?_)
          · exact L75 u3.2 _ _ _ hf hP hD hS (lv_sub hl [0, 1, 2] rfl)
          · refine lv_iconst (v := 1) hx hb dX12_line_71 (by decide) ?_
            refine lv_goto (tgt := 76) hx hb dX12_line_72 (by decide) ?_
            exact L76 1 u3.2 _ _ _ hf hP hD hS (lv_sub hl [0, 1, 2] rfl)
      · refine lv_aload_n hx hb dX12_line_43 rfl (lv_at hl 0 rfl) ?_
        refine z_get (ci := 12) (C := RX12) (T := TX12) (N := 51) (v := .ref (r_t 0)) hx hb hts inT_X12 hown hK hP 0 rfl rfl 0 (by decide) tf_X12_10 rfl dX12_line_44 ?_
        refine lv_bipush (v := 80) hx hb dX12_line_47 (by decide) ?_
        refine lv_iload_n hx hb dX12_line_49 rfl (lv_at hl 1 rfl) ?_
        refine lv_iadd hx hb dX12_line_50 ?_
        refine z_iald hx hb hK hP 1 rfl dX12_line_51 hf (fun y8 hf => ?_)
        exact hret (y8, u3.2) _ _ _ _ hf hP hD hS dX12_line_52
    · refine lv_aload_n hx hb dX12_line_27 rfl (lv_at hl 0 rfl) ?_
      refine z_get (ci := 12) (C := RX12) (T := TX12) (N := 51) (v := .ref (r_t 0)) hx hb hts inT_X12 hown hK hP 0 rfl rfl 0 (by decide) tf_X12_10 rfl dX12_line_28 ?_
      refine lv_bipush (v := 64) hx hb dX12_line_31 (by decide) ?_
      refine lv_iload_n hx hb dX12_line_33 rfl (lv_at hl 1 rfl) ?_
      refine lv_iadd hx hb dX12_line_34 ?_
      refine z_iald hx hb hK hP 1 rfl dX12_line_35 hf (fun y9 hf => ?_)
      exact hret (y9, u3.2) _ _ _ _ hf hP hD hS dX12_line_36
  · refine lv_iconst (v := 0) hx hb dX12_line_20 (by decide) ?_
    exact hret (0, u3.2) _ _ _ _ hf hP hD hS dX12_line_21
abbrev w_X12_micro (h_t : Nat) (r_t : Nat → Nat) (F_t : Nat → Int32) (cI : ClassId) (a_rows : Nat → Int32) : va_W := [(h_t, .inr (12, o_X12 r_t F_t)), ((r_t 0), .inl (cI, 66100, .inl a_rows))]
abbrev rm_X12_micro : Room := { frames := 1, cells := 0, slots := 0, locals := 22 }
def m_X12_micro_j45 (a_rows : Nat → Int32) (p1 : Int32) (p2 : Int32) (s1 : Int32) (F_t : Nat → Int32) : Option (Int32 × (Nat → Int32)) :=
  bd (m_X12_right F_t s1 1) fun u2 =>
  if u2.1 = 0 then (
  some (0, u2.2))
  else (
  rd a_rows 66100 775 fun y3 =>
  rd a_rows 66100 ((288 + (3 * (y3 + p1))) + p2) fun y4 =>
  some (y4, u2.2))
def m_X12_micro_j44 (a_rows : Nat → Int32) (p1 : Int32) (p2 : Int32) (F_t : Nat → Int32) : Option (Int32 × (Nat → Int32)) :=
  m_X12_micro_j45 a_rows p1 p2 0 F_t
def m_X12_micro (F_t : Nat → Int32) (a_rows : Nat → Int32) (p1 : Int32) (p2 : Int32) : Option (Int32 × (Nat → Int32)) :=
  nm (upd F_t 4 0) fun F1 =>
  if p1 < 0 then (
  m_X12_micro_j44 a_rows p1 p2 F1)
  else (
  rd a_rows 66100 774 fun y5 =>
  rd a_rows 66100 775 fun y6 =>
  if (y5 - y6) ≤ p1 then (
  m_X12_micro_j44 a_rows p1 p2 F1)
  else (
  bd (m_X12_within p2 0 2) fun u7 =>
  if u7 = 0 then (
  m_X12_micro_j44 a_rows p1 p2 F1)
  else (
  m_X12_micro_j45 a_rows p1 p2 1 F1)))
set_option maxHeartbeats 4000000 in
set_option maxRecDepth 100000 in
theorem c_X12_micro (l : Launch) (D : va_G) (cI : ClassId) (h_t : Nat) (r_t : Nat → Nat) (F_t : Nat → Int32) (a_rows : Nat → Int32) (p1 : Int32) (p2 : Int32) (Rr : Int32 × (Nat → Int32)) (hf : m_X12_micro F_t a_rows p1 p2 = some Rr) : CTi l yX12_micro (Cond.code yX12_micro cX12_micro 3 (some .int)) rm_X12_micro D cI [.ref h_t, .int p1, .int p2] (w_X12_micro h_t r_t F_t cI a_rows) Rr.1 (w_X12_micro h_t r_t Rr.2 cI a_rows) := by
  refine z_begin_i (own := RX12) (ρ := Int32 × (Nat → Int32)) (fun u => w_X12_micro h_t r_t u.2 cI a_rows) (fun u => u.1) (by decide +kernel) rfl (Nat.le_of_ble_eq_true rfl) ?_
  intro p e s m args below meth c ls Q A hx hb hml hts hcx hown hK hA hP hD hS hl hret
  have hl : lv_has ls 3 [(0, .ref h_t), (1, .int p1), (2, .int p2)] := hl
  have hf := (m_X12_micro.eq_1 _ _ _ _).symm.trans hf
  have L45 : ∀ (s1 : Int32) (F_t : Nat → Int32) (H : Heap) (locs : List Loc) (ls : Array Slot), m_X12_micro_j45 a_rows p1 p2 s1 F_t = some Rr → va_P D vwCl (w_X12_micro h_t r_t F_t cI a_rows) H → va_D A (w_X12_micro h_t r_t F_t cI a_rows) → va_S A s.heap H locs → lv_has ls 3 [(0, .ref h_t), (1, .int p1), (2, .int p2)] → W p l e rm_X12_micro s m args below meth c H locs 0 0 Q (F0 m 45 ls [.int s1, .ref h_t]) := by
    intro s1 F_t H locs ls hf hP hD hS hl
    have hf := (m_X12_micro_j45.eq_1 _ _ _ _ _).symm.trans hf
    refine lv_iconst (v := 1) hx hb dX12_micro_45 (by decide) ?_
    obtain ⟨u2, hu2, hf⟩ := bd_some hf
    refine z_ci (ws1 := w_X12_micro h_t r_t u2.2 cI a_rows) (wr := List.filterMap (fun i : Nat => (w_X12_micro h_t r_t F_t cI a_rows)[i]?) [1]) (z_rV (rest := []) hx hb hml hown hcx hl.1 (c_X12_right l D cI h_t r_t F_t s1 1 u2 hu2 _) tl_X12_321 ti_X12_right tz_X12_right tn_X12 tc_X12_right tm_X12_right rfl rfl ⟨Nat.le_of_ble_eq_true rfl, Nat.le_of_ble_eq_true rfl⟩ hK hP hD [0] rfl rfl 0 rfl rfl rfl rfl (Nat.le_of_ble_eq_true rfl) dX12_micro_46 ⟨Nat.zero_le _, Nat.zero_le _⟩) hP hD hS hA [0] [1] [1, 0] rfl rfl rfl (by decide) rfl rfl (fun H locs hP hD hS => ?_)
    refine z_if_ne (tgt := 54) hx hb dX12_micro_49 (by decide) hf (fun hf => ?_) (fun hf => ?_)
    · refine lv_aload_n hx hb dX12_micro_54 rfl (lv_at hl 0 rfl) ?_
      refine z_get (ci := 12) (C := RX12) (T := TX12) (N := 51) (v := .ref (r_t 0)) hx hb hts inT_X12 hown hK hP 0 rfl rfl 0 (by decide) tf_X12_10 rfl dX12_micro_55 ?_
      refine lv_sipush (v := 288) hx hb dX12_micro_58 (by decide) ?_
      refine lv_iconst (v := 3) hx hb dX12_micro_61 (by decide) ?_
      refine lv_aload_n hx hb dX12_micro_62 rfl (lv_at hl 0 rfl) ?_
      refine z_get (ci := 12) (C := RX12) (T := TX12) (N := 51) (v := .ref (r_t 0)) hx hb hts inT_X12 hown hK hP 0 rfl rfl 0 (by decide) tf_X12_10 rfl dX12_micro_63 ?_
      refine lv_sipush (v := 775) hx hb dX12_micro_66 (by decide) ?_
      refine z_iald hx hb hK hP 1 rfl dX12_micro_69 hf (fun y3 hf => ?_)
      refine lv_iload_n hx hb dX12_micro_70 rfl (lv_at hl 1 rfl) ?_
      refine lv_iadd hx hb dX12_micro_71 ?_
      refine lv_imul hx hb dX12_micro_72 ?_
      refine lv_iadd hx hb dX12_micro_73 ?_
      refine lv_iload_n hx hb dX12_micro_74 rfl (lv_at hl 2 rfl) ?_
      refine lv_iadd hx hb dX12_micro_75 ?_
      refine z_iald hx hb hK hP 1 rfl dX12_micro_76 hf (fun y4 hf => ?_)
      exact hret (y4, u2.2) _ _ _ _ hf hP hD hS dX12_micro_77
    · refine lv_iconst (v := 0) hx hb dX12_micro_52 (by decide) ?_
      exact hret (0, u2.2) _ _ _ _ hf hP hD hS dX12_micro_53
  have L44 : ∀ (F_t : Nat → Int32) (H : Heap) (locs : List Loc) (ls : Array Slot), m_X12_micro_j44 a_rows p1 p2 F_t = some Rr → va_P D vwCl (w_X12_micro h_t r_t F_t cI a_rows) H → va_D A (w_X12_micro h_t r_t F_t cI a_rows) → va_S A s.heap H locs → lv_has ls 3 [(0, .ref h_t), (1, .int p1), (2, .int p2)] → W p l e rm_X12_micro s m args below meth c H locs 0 0 Q (F0 m 44 ls [.ref h_t]) := by
    intro F_t H locs ls hf hP hD hS hl
    have hf := (m_X12_micro_j44.eq_1 _ _ _ _).symm.trans hf
    refine lv_iconst (v := 0) hx hb dX12_micro_44 (by decide) ?_
    exact L45 0 F_t _ _ _ hf hP hD hS (lv_sub hl [0, 1, 2] rfl)
  refine lv_aload_n hx hb dX12_micro_0 rfl (lv_at hl 0 rfl) ?_
  refine lv_iconst (v := 0) hx hb dX12_micro_1 (by decide) ?_
  refine z_put (ci := 12) (C := RX12) (T := TX12) (N := 51) hx hb hts inT_X12 tyX12 tyX12_ok nmX12 hown hK hP hD hS 0 rfl rfl 4 (by decide) tf_X12_63 rfl (by decide +kernel) (Nat.le_of_ble_eq_true rfl) (o_X12 r_t) (o_X12_s4 _ _ _) (fun z => w_X12_micro h_t r_t z cI a_rows) (fun _ => rfl) dX12_micro_2 hf (fun F1 H locs hf hP hD hS => ?_)
  refine lv_aload_n hx hb dX12_micro_5 rfl (lv_at hl 0 rfl) ?_
  refine lv_iload_n hx hb dX12_micro_6 rfl (lv_at hl 1 rfl) ?_
  refine z_if_lt (tgt := 44) hx hb dX12_micro_7 (by decide) hf (fun hf => ?_) (fun hf => ?_)
  · exact L44 F1 _ _ _ hf hP hD hS (lv_sub hl [0, 1, 2] rfl)
  · refine lv_iload_n hx hb dX12_micro_10 rfl (lv_at hl 1 rfl) ?_
    refine lv_aload_n hx hb dX12_micro_11 rfl (lv_at hl 0 rfl) ?_
    refine z_get (ci := 12) (C := RX12) (T := TX12) (N := 51) (v := .ref (r_t 0)) hx hb hts inT_X12 hown hK hP 0 rfl rfl 0 (by decide) tf_X12_10 rfl dX12_micro_12 ?_
    refine lv_sipush (v := 774) hx hb dX12_micro_15 (by decide) ?_
    refine z_iald hx hb hK hP 1 rfl dX12_micro_18 hf (fun y5 hf => ?_)
    refine lv_aload_n hx hb dX12_micro_19 rfl (lv_at hl 0 rfl) ?_
    refine z_get (ci := 12) (C := RX12) (T := TX12) (N := 51) (v := .ref (r_t 0)) hx hb hts inT_X12 hown hK hP 0 rfl rfl 0 (by decide) tf_X12_10 rfl dX12_micro_20 ?_
    refine lv_sipush (v := 775) hx hb dX12_micro_23 (by decide) ?_
    refine z_iald hx hb hK hP 1 rfl dX12_micro_26 hf (fun y6 hf => ?_)
    refine lv_isub hx hb dX12_micro_27 ?_
    refine z_icmp_ge (tgt := 44) hx hb dX12_micro_28 (by decide) hf (fun hf => ?_) (fun hf => ?_)
    · exact L44 F1 _ _ _ hf hP hD hS (lv_sub hl [0, 1, 2] rfl)
    · refine lv_iload_n hx hb dX12_micro_31 rfl (lv_at hl 2 rfl) ?_
      refine lv_iconst (v := 0) hx hb dX12_micro_32 (by decide) ?_
      refine lv_iconst (v := 2) hx hb dX12_micro_33 (by decide) ?_
      obtain ⟨u7, hu7, hf⟩ := bd_some hf
      refine z_ci (ws1 := w_X12_micro h_t r_t F1 cI a_rows) (wr := List.filterMap (fun i : Nat => (w_X12_micro h_t r_t F1 cI a_rows)[i]?) [0, 1]) (z_rS (rest := [.ref h_t]) hx hb hml hown hcx hl.1 (c_X12_within l D cI p2 0 2 u7 hu7 _) tl_X12_172 ts_X12_within tn_X12 tc_X12_within tm_X12_within rfl rfl ⟨Nat.le_of_ble_eq_true rfl, Nat.le_of_ble_eq_true rfl⟩ hK hP hD [] rfl rfl rfl rfl (Nat.le_of_ble_eq_true rfl) dX12_micro_34 ⟨Nat.zero_le _, Nat.zero_le _⟩) hP hD hS hA [] [0, 1] [0, 1] rfl rfl rfl (by decide) rfl rfl (fun H locs hP hD hS => ?_)
      refine z_if_eq (tgt := 44) hx hb dX12_micro_37 (by decide) hf (fun hf => ?_) (fun hf => ?_)
      · exact L44 F1 _ _ _ hf hP hD hS (lv_sub hl [0, 1, 2] rfl)
      · refine lv_iconst (v := 1) hx hb dX12_micro_40 (by decide) ?_
        refine lv_goto (tgt := 45) hx hb dX12_micro_41 (by decide) ?_
        exact L45 1 F1 _ _ _ hf hP hD hS (lv_sub hl [0, 1, 2] rfl)
abbrev w_X12_orders (h_t : Nat) (r_t : Nat → Nat) (F_t : Nat → Int32) (cI : ClassId) (a_rows : Nat → Int32) : va_W := [(h_t, .inr (12, o_X12 r_t F_t)), ((r_t 0), .inl (cI, 66100, .inl a_rows))]
abbrev rm_X12_orders : Room := { frames := 1, cells := 0, slots := 0, locals := 24 }
def m_X12_orders (F_t : Nat → Int32) (a_rows : Nat → Int32) : Option (Int64 × (Nat → Int32)) :=
  nm (upd F_t 4 0) fun F1 =>
  bd (m_X12_ordersOf a_rows 0) fun u2 =>
  some (u2, F1)
set_option maxHeartbeats 4000000 in
set_option maxRecDepth 100000 in
theorem c_X12_orders (l : Launch) (D : va_G) (cI : ClassId) (h_t : Nat) (r_t : Nat → Nat) (F_t : Nat → Int32) (a_rows : Nat → Int32) (Rr : Int64 × (Nat → Int32)) (hf : m_X12_orders F_t a_rows = some Rr) : CTl l yX12_orders (Cond.code yX12_orders cX12_orders 1 (some .long)) rm_X12_orders D cI [.ref h_t] (w_X12_orders h_t r_t F_t cI a_rows) Rr.1 (w_X12_orders h_t r_t Rr.2 cI a_rows) := by
  refine z_begin_l (own := RX12) (ρ := Int64 × (Nat → Int32)) (fun u => w_X12_orders h_t r_t u.2 cI a_rows) (fun u => u.1) (by decide +kernel) rfl (Nat.le_of_ble_eq_true rfl) ?_
  intro p e s m args below meth c ls Q A hx hb hml hts hcx hown hK hA hP hD hS hl hret
  have hl : lv_has ls 1 [(0, .ref h_t)] := hl
  have hf := (m_X12_orders.eq_1 _ _).symm.trans hf
  refine lv_aload_n hx hb dX12_orders_0 rfl (lv_at hl 0 rfl) ?_
  refine lv_iconst (v := 0) hx hb dX12_orders_1 (by decide) ?_
  refine z_put (ci := 12) (C := RX12) (T := TX12) (N := 51) hx hb hts inT_X12 tyX12 tyX12_ok nmX12 hown hK hP hD hS 0 rfl rfl 4 (by decide) tf_X12_63 rfl (by decide +kernel) (Nat.le_of_ble_eq_true rfl) (o_X12 r_t) (o_X12_s4 _ _ _) (fun z => w_X12_orders h_t r_t z cI a_rows) (fun _ => rfl) dX12_orders_2 hf (fun F1 H locs hf hP hD hS => ?_)
  refine lv_aload_n hx hb dX12_orders_5 rfl (lv_at hl 0 rfl) ?_
  refine lv_iconst (v := 0) hx hb dX12_orders_6 (by decide) ?_
  obtain ⟨u2, hu2, hf⟩ := bd_some hf
  refine z_cl (ws1 := w_X12_orders h_t r_t F1 cI a_rows) (wr := List.filterMap (fun i : Nat => (w_X12_orders h_t r_t F1 cI a_rows)[i]?) []) (z_rV (rest := []) hx hb hml hown hcx hl.1 (c_X12_ordersOf l D cI h_t r_t F1 a_rows 0 u2 hu2 _) tl_X12_188 ti_X12_ordersOf tz_X12_ordersOf tn_X12 tc_X12_ordersOf tm_X12_ordersOf rfl rfl ⟨Nat.le_of_ble_eq_true rfl, Nat.le_of_ble_eq_true rfl⟩ hK hP hD [0, 1] rfl rfl 0 rfl rfl rfl rfl (Nat.le_of_ble_eq_true rfl) dX12_orders_7 ⟨Nat.zero_le _, Nat.zero_le _⟩) hP hD hS hA [0, 1] [] [0, 1] rfl rfl rfl (by decide) rfl rfl (fun H locs hP hD hS => ?_)
  exact hret (u2, F1) _ _ _ _ hf hP hD hS dX12_orders_10
abbrev w_X12_shape (h_t : Nat) (r_t : Nat → Nat) (F_t : Nat → Int32) (cI : ClassId) (a_rows : Nat → Int32) (a_memory : Nat → Int32) : va_W := [(h_t, .inr (12, o_X12 r_t F_t)), ((r_t 0), .inl (cI, 66100, .inl a_rows)), ((r_t 23), .inl (cI, 64, .inl a_memory))]
abbrev rm_X12_shape : Room := { frames := 4, cells := 0, slots := 0, locals := 89 }
def m_X12_shape_j86 (a_rows : Nat → Int32) (p1 : Int32) (p2 : Int32) (F_t : Nat → Int32) (a_memory : Nat → Int32) : Option (Int32 × (Nat → Int32) × (Nat → Int32)) :=
  bd (m_X12_shapes F_t a_memory) fun u5 =>
  bd (m_X12_usedBlocks a_memory) fun u6 =>
  if p2 = 0 then (
  some ((u5 20), u5, a_memory))
  else (
  if p2 = 1 then (
  some ((u6 &&& ((u5 20) ^^^ (-1))), u5, a_memory))
  else (
  if p2 = 2 then (
  some (u6, u5, a_memory))
  else (
  if p2 = 3 then (
  some ((u5 21), u5, a_memory))
  else (
  some ((u5 22), u5, a_memory)))))
def m_X12_shape_j73 (a_rows : Nat → Int32) (p1 : Int32) (p2 : Int32) (F_t : Nat → Int32) (a_memory : Nat → Int32) : Option (Int32 × (Nat → Int32) × (Nat → Int32)) :=
  if p1 = 2 then (
  bd (m_X12_recovers F_t a_memory) fun u7 =>
  m_X12_shape_j86 a_rows p1 p2 F_t u7)
  else (
  m_X12_shape_j86 a_rows p1 p2 F_t a_memory)
def m_X12_shape_w49 (a_rows : Nat → Int32) (p1 : Int32) (p2 : Int32) (k73 : (Nat → Int32) → (Nat → Int32) → Option (Int32 × (Nat → Int32) × (Nat → Int32))) : Nat → Int32 → (Nat → Int32) → (Nat → Int32) → Option (Int32 × (Nat → Int32) × (Nat → Int32))
  | 0, _, _, _ => none
  | n49 + 1, x3, F_t, a_memory =>
    if 64 ≤ x3 then (
    k73 F_t a_memory)
    else (
    bd (m_X12_wordOf a_rows 0 x3) fun u8 =>
    wr a_memory 64 x3 u8 fun a9 =>
    nm (x3 + 1) fun v10 =>
    m_X12_shape_w49 a_rows p1 p2 k73 n49 v10 F_t a9)
def m_X12_shape_j29 (a_rows : Nat → Int32) (p1 : Int32) (p2 : Int32) (s1 : Int32) (F_t : Nat → Int32) (a_memory : Nat → Int32) : Option (Int32 × (Nat → Int32) × (Nat → Int32)) :=
  bd (m_X12_right F_t s1 1) fun u3 =>
  if u3.1 = 0 then (
  some (0, u3.2, a_memory))
  else (
  bd (m_X12_laysMemory a_rows a_memory 0) fun u4 =>
  if p1 = 0 then (
  m_X12_shape_w49 a_rows p1 p2 (m_X12_shape_j73 a_rows p1 p2) fuelN 0 u3.2 u4)
  else (
  m_X12_shape_j73 a_rows p1 p2 u3.2 u4))
def m_X12_shape_j28 (a_rows : Nat → Int32) (p1 : Int32) (p2 : Int32) (F_t : Nat → Int32) (a_memory : Nat → Int32) : Option (Int32 × (Nat → Int32) × (Nat → Int32)) :=
  m_X12_shape_j29 a_rows p1 p2 0 F_t a_memory
def m_X12_shape (F_t : Nat → Int32) (a_rows : Nat → Int32) (a_memory : Nat → Int32) (p1 : Int32) (p2 : Int32) : Option (Int32 × (Nat → Int32) × (Nat → Int32)) :=
  nm (upd F_t 4 0) fun F1 =>
  bd (m_X12_within p1 0 2) fun u2 =>
  if u2 = 0 then (
  m_X12_shape_j28 a_rows p1 p2 F1 a_memory)
  else (
  bd (m_X12_within p2 0 4) fun u11 =>
  if u11 = 0 then (
  m_X12_shape_j28 a_rows p1 p2 F1 a_memory)
  else (
  m_X12_shape_j29 a_rows p1 p2 1 F1 a_memory))
set_option maxHeartbeats 4000000 in
set_option maxRecDepth 100000 in
theorem c_X12_shape (l : Launch) (D : va_G) (cI : ClassId) (h_t : Nat) (r_t : Nat → Nat) (F_t : Nat → Int32) (a_rows : Nat → Int32) (a_memory : Nat → Int32) (p1 : Int32) (p2 : Int32) (Rr : Int32 × (Nat → Int32) × (Nat → Int32)) (hf : m_X12_shape F_t a_rows a_memory p1 p2 = some Rr) : CTi l yX12_shape (Cond.code yX12_shape cX12_shape 4 (some .int)) rm_X12_shape D cI [.ref h_t, .int p1, .int p2] (w_X12_shape h_t r_t F_t cI a_rows a_memory) Rr.1 (w_X12_shape h_t r_t Rr.2.1 cI a_rows Rr.2.2) := by
  refine z_begin_i (own := RX12) (ρ := Int32 × (Nat → Int32) × (Nat → Int32)) (fun u => w_X12_shape h_t r_t u.2.1 cI a_rows u.2.2) (fun u => u.1) (by decide +kernel) rfl (Nat.le_of_ble_eq_true rfl) ?_
  intro p e s m args below meth c ls Q A hx hb hml hts hcx hown hK hA hP hD hS hl hret
  have hl : lv_has ls 4 [(0, .ref h_t), (1, .int p1), (2, .int p2)] := hl
  have hf := (m_X12_shape.eq_1 _ _ _ _ _).symm.trans hf
  have L86 : ∀ (F_t : Nat → Int32) (a_memory : Nat → Int32) (H : Heap) (locs : List Loc) (ls : Array Slot), m_X12_shape_j86 a_rows p1 p2 F_t a_memory = some Rr → va_P D vwCl (w_X12_shape h_t r_t F_t cI a_rows a_memory) H → va_D A (w_X12_shape h_t r_t F_t cI a_rows a_memory) → va_S A s.heap H locs → lv_has ls 4 [(0, .ref h_t), (2, .int p2)] → W p l e rm_X12_shape s m args below meth c H locs 0 0 Q (F0 m 86 ls []) := by
    intro F_t a_memory H locs ls hf hP hD hS hl
    have hf := (m_X12_shape_j86.eq_1 _ _ _ _ _).symm.trans hf
    refine lv_aload_n hx hb dX12_shape_86 rfl (lv_at hl 0 rfl) ?_
    refine lv_aload_n hx hb dX12_shape_87 rfl (lv_at hl 0 rfl) ?_
    refine z_get (ci := 12) (C := RX12) (T := TX12) (N := 51) (v := .ref (r_t 23)) hx hb hts inT_X12 hown hK hP 0 rfl rfl 23 (by decide) tf_X12_39 rfl dX12_shape_88 ?_
    obtain ⟨u5, hu5, hf⟩ := bd_some hf
    refine z_cv (ws1 := w_X12_shape h_t r_t u5 cI a_rows a_memory) (wr := List.filterMap (fun i : Nat => (w_X12_shape h_t r_t F_t cI a_rows a_memory)[i]?) [1]) (z_rV (rest := []) hx hb hml hown hcx hl.1 (c_X12_shapes l D cI h_t (r_t 23) r_t F_t a_memory u5 hu5 _) tl_X12_100 ti_X12_shapes tz_X12_shapes tn_X12 tc_X12_shapes tm_X12_shapes rfl rfl ⟨Nat.le_of_ble_eq_true rfl, Nat.le_of_ble_eq_true rfl⟩ hK hP hD [0, 2] rfl rfl 0 rfl rfl rfl rfl (Nat.le_of_ble_eq_true rfl) dX12_shape_91 ⟨Nat.zero_le _, Nat.zero_le _⟩) hP hD hS hA [0, 2] [1] [1, 0, 2] rfl rfl rfl (by decide) rfl rfl (fun H locs hP hD hS => ?_)
    refine lv_aload_n hx hb dX12_shape_94 rfl (lv_at hl 0 rfl) ?_
    refine z_get (ci := 12) (C := RX12) (T := TX12) (N := 51) (v := .ref (r_t 23)) hx hb hts inT_X12 hown hK hP 0 rfl rfl 23 (by decide) tf_X12_39 rfl dX12_shape_95 ?_
    obtain ⟨u6, hu6, hf⟩ := bd_some hf
    refine z_ci (ws1 := w_X12_shape h_t r_t u5 cI a_rows a_memory) (wr := List.filterMap (fun i : Nat => (w_X12_shape h_t r_t u5 cI a_rows a_memory)[i]?) [0, 1]) (z_rS (rest := []) hx hb hml hown hcx hl.1 (c_X12_usedBlocks l D cI (r_t 23) a_memory u6 hu6 _) tl_X12_104 ts_X12_usedBlocks tn_X12 tc_X12_usedBlocks tm_X12_usedBlocks rfl rfl ⟨Nat.le_of_ble_eq_true rfl, Nat.le_of_ble_eq_true rfl⟩ hK hP hD [2] rfl rfl rfl rfl (Nat.le_of_ble_eq_true rfl) dX12_shape_98 ⟨Nat.zero_le _, Nat.zero_le _⟩) hP hD hS hA [2] [0, 1] [0, 1, 2] rfl rfl rfl (by decide) rfl rfl (fun H locs hP hD hS => ?_)
    refine lv_istore_n (lv' := [(3, .int u6), (0, .ref h_t), (2, .int p2)]) hx hb dX12_shape_101 rfl hl (by decide) rfl (fun ls hl => ?_)
    refine lv_iload_n hx hb dX12_shape_102 rfl (lv_at hl 2 rfl) ?_
    refine z_if_ne (tgt := 113) hx hb dX12_shape_103 (by decide) hf (fun hf => ?_) (fun hf => ?_)
    · refine lv_iload_n hx hb dX12_shape_113 rfl (lv_at hl 2 rfl) ?_
      refine lv_iconst (v := 1) hx hb dX12_shape_114 (by decide) ?_
      refine z_icmp_ne (tgt := 129) hx hb dX12_shape_115 (by decide) hf (fun hf => ?_) (fun hf => ?_)
      · refine lv_iload_n hx hb dX12_shape_129 rfl (lv_at hl 2 rfl) ?_
        refine lv_iconst (v := 2) hx hb dX12_shape_130 (by decide) ?_
        refine z_icmp_ne (tgt := 138) hx hb dX12_shape_131 (by decide) hf (fun hf => ?_) (fun hf => ?_)
        · refine lv_iload_n hx hb dX12_shape_138 rfl (lv_at hl 2 rfl) ?_
          refine lv_iconst (v := 3) hx hb dX12_shape_139 (by decide) ?_
          refine z_icmp_ne (tgt := 150) hx hb dX12_shape_140 (by decide) hf (fun hf => ?_) (fun hf => ?_)
          · refine lv_aload_n hx hb dX12_shape_150 rfl (lv_at hl 1 rfl) ?_
            refine z_get (ci := 12) (C := RX12) (T := TX12) (N := 51) (v := .int (u5 22)) hx hb hts inT_X12 hown hK hP 0 rfl rfl 22 (by decide) tf_X12_87 rfl dX12_shape_151 ?_
            exact hret ((u5 22), u5, a_memory) _ _ _ _ hf hP hD hS dX12_shape_154
          · refine lv_aload_n hx hb dX12_shape_143 rfl (lv_at hl 1 rfl) ?_
            refine z_get (ci := 12) (C := RX12) (T := TX12) (N := 51) (v := .int (u5 21)) hx hb hts inT_X12 hown hK hP 0 rfl rfl 21 (by decide) tf_X12_90 rfl dX12_shape_144 ?_
            refine lv_goto (tgt := 154) hx hb dX12_shape_147 (by decide) ?_
            exact hret ((u5 21), u5, a_memory) _ _ _ _ hf hP hD hS dX12_shape_154
        · refine lv_iload_n hx hb dX12_shape_134 rfl (lv_at hl 0 rfl) ?_
          refine lv_goto (tgt := 154) hx hb dX12_shape_135 (by decide) ?_
          exact hret (u6, u5, a_memory) _ _ _ _ hf hP hD hS dX12_shape_154
      · refine lv_iload_n hx hb dX12_shape_118 rfl (lv_at hl 0 rfl) ?_
        refine lv_aload_n hx hb dX12_shape_119 rfl (lv_at hl 1 rfl) ?_
        refine z_get (ci := 12) (C := RX12) (T := TX12) (N := 51) (v := .int (u5 20)) hx hb hts inT_X12 hown hK hP 0 rfl rfl 20 (by decide) tf_X12_93 rfl dX12_shape_120 ?_
        refine lv_iconst (v := (-1)) hx hb dX12_shape_123 (by decide) ?_
        refine lv_ixor hx hb dX12_shape_124 ?_
        refine lv_iand hx hb dX12_shape_125 ?_
        refine lv_goto (tgt := 154) hx hb dX12_shape_126 (by decide) ?_
        exact hret ((u6 &&& ((u5 20) ^^^ (-1))), u5, a_memory) _ _ _ _ hf hP hD hS dX12_shape_154
    · refine lv_aload_n hx hb dX12_shape_106 rfl (lv_at hl 1 rfl) ?_
      refine z_get (ci := 12) (C := RX12) (T := TX12) (N := 51) (v := .int (u5 20)) hx hb hts inT_X12 hown hK hP 0 rfl rfl 20 (by decide) tf_X12_93 rfl dX12_shape_107 ?_
      refine lv_goto (tgt := 154) hx hb dX12_shape_110 (by decide) ?_
      exact hret ((u5 20), u5, a_memory) _ _ _ _ hf hP hD hS dX12_shape_154
  have L73 : ∀ (F_t : Nat → Int32) (a_memory : Nat → Int32) (H : Heap) (locs : List Loc) (ls : Array Slot), m_X12_shape_j73 a_rows p1 p2 F_t a_memory = some Rr → va_P D vwCl (w_X12_shape h_t r_t F_t cI a_rows a_memory) H → va_D A (w_X12_shape h_t r_t F_t cI a_rows a_memory) → va_S A s.heap H locs → lv_has ls 4 [(0, .ref h_t), (1, .int p1), (2, .int p2)] → W p l e rm_X12_shape s m args below meth c H locs 0 0 Q (F0 m 73 ls []) := by
    intro F_t a_memory H locs ls hf hP hD hS hl
    have hf := (m_X12_shape_j73.eq_1 _ _ _ _ _).symm.trans hf
    refine lv_iload_n hx hb dX12_shape_73 rfl (lv_at hl 1 rfl) ?_
    refine lv_iconst (v := 2) hx hb dX12_shape_74 (by decide) ?_
    refine z_icmp_ne (tgt := 86) hx hb dX12_shape_75 (by decide) hf (fun hf => ?_) (fun hf => ?_)
    · exact L86 F_t a_memory _ _ _ hf hP hD hS (lv_sub hl [0, 2] rfl)
    · refine lv_aload_n hx hb dX12_shape_78 rfl (lv_at hl 0 rfl) ?_
      refine lv_aload_n hx hb dX12_shape_79 rfl (lv_at hl 0 rfl) ?_
      refine z_get (ci := 12) (C := RX12) (T := TX12) (N := 51) (v := .ref (r_t 23)) hx hb hts inT_X12 hown hK hP 0 rfl rfl 23 (by decide) tf_X12_39 rfl dX12_shape_80 ?_
      obtain ⟨u7, hu7, hf⟩ := bd_some hf
      refine z_cv (ws1 := w_X12_shape h_t r_t F_t cI a_rows u7) (wr := List.filterMap (fun i : Nat => (w_X12_shape h_t r_t F_t cI a_rows a_memory)[i]?) [1]) (z_rV (rest := []) hx hb hml hown hcx hl.1 (c_X12_recovers l D cI h_t (r_t 23) r_t F_t a_memory u7 hu7 _) tl_X12_178 ti_X12_recovers tz_X12_recovers tn_X12 tc_X12_recovers tm_X12_recovers rfl rfl ⟨Nat.le_of_ble_eq_true rfl, Nat.le_of_ble_eq_true rfl⟩ hK hP hD [0, 2] rfl rfl 0 rfl rfl rfl rfl (Nat.le_of_ble_eq_true rfl) dX12_shape_83 ⟨Nat.zero_le _, Nat.zero_le _⟩) hP hD hS hA [0, 2] [1] [1, 0, 2] rfl rfl rfl (by decide) rfl rfl (fun H locs hP hD hS => ?_)
      exact L86 F_t u7 _ _ _ hf hP hD hS (lv_sub hl [0, 2] rfl)
  have L49 : ∀ (n49 : Nat) (x3 : Int32) (F_t : Nat → Int32) (a_memory : Nat → Int32) (H : Heap) (locs : List Loc) (ls : Array Slot), m_X12_shape_w49 a_rows p1 p2 (m_X12_shape_j73 a_rows p1 p2) n49 x3 F_t a_memory = some Rr → va_P D vwCl (w_X12_shape h_t r_t F_t cI a_rows a_memory) H → va_D A (w_X12_shape h_t r_t F_t cI a_rows a_memory) → va_S A s.heap H locs → lv_has ls 4 [(0, .ref h_t), (1, .int p1), (2, .int p2), (3, .int x3)] → W p l e rm_X12_shape s m args below meth c H locs 0 0 Q (F0 m 49 ls []) := by
    intro n49
    induction n49 with
    | zero => intro x3 F_t a_memory H locs ls hf; cases (show (none : Option _) = some Rr from hf)
    | succ n49 ih49 =>
      intro x3 F_t a_memory H locs ls hf hP hD hS hl
      have hf := (m_X12_shape_w49.eq_2 _ _ _ _ _ _ _ _).symm.trans hf
      refine lv_iload_n hx hb dX12_shape_49 rfl (lv_at hl 3 rfl) ?_
      refine lv_bipush (v := 64) hx hb dX12_shape_50 (by decide) ?_
      refine z_icmp_ge (tgt := 73) hx hb dX12_shape_52 (by decide) hf (fun hf => ?_) (fun hf => ?_)
      · exact L73 F_t a_memory _ _ _ hf hP hD hS (lv_sub hl [0, 1, 2] rfl)
      · refine lv_aload_n hx hb dX12_shape_55 rfl (lv_at hl 0 rfl) ?_
        refine z_get (ci := 12) (C := RX12) (T := TX12) (N := 51) (v := .ref (r_t 23)) hx hb hts inT_X12 hown hK hP 0 rfl rfl 23 (by decide) tf_X12_39 rfl dX12_shape_56 ?_
        refine lv_iload_n hx hb dX12_shape_59 rfl (lv_at hl 3 rfl) ?_
        refine lv_aload_n hx hb dX12_shape_60 rfl (lv_at hl 0 rfl) ?_
        refine lv_iconst (v := 0) hx hb dX12_shape_61 (by decide) ?_
        refine lv_iload_n hx hb dX12_shape_62 rfl (lv_at hl 3 rfl) ?_
        obtain ⟨u8, hu8, hf⟩ := bd_some hf
        refine z_ci (ws1 := w_X12_shape h_t r_t F_t cI a_rows a_memory) (wr := List.filterMap (fun i : Nat => (w_X12_shape h_t r_t F_t cI a_rows a_memory)[i]?) [2]) (z_rV (rest := [.int x3, .ref (r_t 23)]) hx hb hml hown hcx hl.1 (c_X12_wordOf l D cI h_t r_t F_t a_rows 0 x3 u8 hu8 _) tl_X12_118 ti_X12_wordOf tz_X12_wordOf tn_X12 tc_X12_wordOf tm_X12_wordOf rfl rfl ⟨Nat.le_of_ble_eq_true rfl, Nat.le_of_ble_eq_true rfl⟩ hK hP hD [0, 1] rfl rfl 0 rfl rfl rfl rfl (Nat.le_of_ble_eq_true rfl) dX12_shape_63 ⟨Nat.zero_le _, Nat.zero_le _⟩) hP hD hS hA [0, 1] [2] [1, 2, 0] rfl rfl rfl (by decide) rfl rfl (fun H locs hP hD hS => ?_)
        refine z_iast hx hb hK hP hD hS 2 rfl (fun z => w_X12_shape h_t r_t F_t cI a_rows z) (fun _ => rfl) dX12_shape_66 hf (fun a9 H locs hf hP hD hS => ?_)
        refine z_iinc (k0 := 3) (fun z => [(3, .int z), (0, .ref h_t), (1, .int p1), (2, .int p2)]) hx hb dX12_shape_67 hl rfl (by decide) (by decide) (fun _ => rfl) hf (fun v10 ls hf hl => ?_)
        refine lv_goto (tgt := 49) hx hb dX12_shape_70 (by decide) ?_
        exact ih49 v10 F_t a9 _ _ _ hf hP hD hS (lv_sub hl [1, 2, 3, 0] rfl)
  have L29 : ∀ (s1 : Int32) (F_t : Nat → Int32) (a_memory : Nat → Int32) (H : Heap) (locs : List Loc) (ls : Array Slot), m_X12_shape_j29 a_rows p1 p2 s1 F_t a_memory = some Rr → va_P D vwCl (w_X12_shape h_t r_t F_t cI a_rows a_memory) H → va_D A (w_X12_shape h_t r_t F_t cI a_rows a_memory) → va_S A s.heap H locs → lv_has ls 4 [(0, .ref h_t), (1, .int p1), (2, .int p2)] → W p l e rm_X12_shape s m args below meth c H locs 0 0 Q (F0 m 29 ls [.int s1, .ref h_t]) := by
    intro s1 F_t a_memory H locs ls hf hP hD hS hl
    have hf := (m_X12_shape_j29.eq_1 _ _ _ _ _ _).symm.trans hf
    refine lv_iconst (v := 1) hx hb dX12_shape_29 (by decide) ?_
    obtain ⟨u3, hu3, hf⟩ := bd_some hf
    refine z_ci (ws1 := w_X12_shape h_t r_t u3.2 cI a_rows a_memory) (wr := List.filterMap (fun i : Nat => (w_X12_shape h_t r_t F_t cI a_rows a_memory)[i]?) [1, 2]) (z_rV (rest := []) hx hb hml hown hcx hl.1 (c_X12_right l D cI h_t r_t F_t s1 1 u3 hu3 _) tl_X12_321 ti_X12_right tz_X12_right tn_X12 tc_X12_right tm_X12_right rfl rfl ⟨Nat.le_of_ble_eq_true rfl, Nat.le_of_ble_eq_true rfl⟩ hK hP hD [0] rfl rfl 0 rfl rfl rfl rfl (Nat.le_of_ble_eq_true rfl) dX12_shape_30 ⟨Nat.zero_le _, Nat.zero_le _⟩) hP hD hS hA [0] [1, 2] [2, 0, 1] rfl rfl rfl (by decide) rfl rfl (fun H locs hP hD hS => ?_)
    refine z_if_ne (tgt := 38) hx hb dX12_shape_33 (by decide) hf (fun hf => ?_) (fun hf => ?_)
    · refine lv_aload_n hx hb dX12_shape_38 rfl (lv_at hl 0 rfl) ?_
      refine lv_iconst (v := 0) hx hb dX12_shape_39 (by decide) ?_
      obtain ⟨u4, hu4, hf⟩ := bd_some hf
      refine z_cv (ws1 := w_X12_shape h_t r_t u3.2 cI a_rows u4) (wr := List.filterMap (fun i : Nat => (w_X12_shape h_t r_t u3.2 cI a_rows a_memory)[i]?) []) (z_rV (rest := []) hx hb hml hown hcx hl.1 (c_X12_laysMemory l D cI h_t r_t u3.2 a_rows a_memory 0 u4 hu4 _) tl_X12_175 ti_X12_laysMemory tz_X12_laysMemory tn_X12 tc_X12_laysMemory tm_X12_laysMemory rfl rfl ⟨Nat.le_of_ble_eq_true rfl, Nat.le_of_ble_eq_true rfl⟩ hK hP hD [0, 1, 2] rfl rfl 0 rfl rfl rfl rfl (Nat.le_of_ble_eq_true rfl) dX12_shape_40 ⟨Nat.zero_le _, Nat.zero_le _⟩) hP hD hS hA [0, 1, 2] [] [0, 1, 2] rfl rfl rfl (by decide) rfl rfl (fun H locs hP hD hS => ?_)
      refine lv_iload_n hx hb dX12_shape_43 rfl (lv_at hl 1 rfl) ?_
      refine z_if_ne (tgt := 73) hx hb dX12_shape_44 (by decide) hf (fun hf => ?_) (fun hf => ?_)
      · exact L73 u3.2 u4 _ _ _ hf hP hD hS (lv_sub hl [0, 1, 2] rfl)
      · refine lv_iconst (v := 0) hx hb dX12_shape_47 (by decide) ?_
        refine lv_istore_n (lv' := [(3, .int 0), (0, .ref h_t), (1, .int p1), (2, .int p2)]) hx hb dX12_shape_48 rfl hl (by decide) rfl (fun ls hl => ?_)
        exact L49 fuelN 0 u3.2 u4 _ _ _ hf hP hD hS (lv_sub hl [1, 2, 3, 0] rfl)
    · refine lv_iconst (v := 0) hx hb dX12_shape_36 (by decide) ?_
      exact hret (0, u3.2, a_memory) _ _ _ _ hf hP hD hS dX12_shape_37
  have L28 : ∀ (F_t : Nat → Int32) (a_memory : Nat → Int32) (H : Heap) (locs : List Loc) (ls : Array Slot), m_X12_shape_j28 a_rows p1 p2 F_t a_memory = some Rr → va_P D vwCl (w_X12_shape h_t r_t F_t cI a_rows a_memory) H → va_D A (w_X12_shape h_t r_t F_t cI a_rows a_memory) → va_S A s.heap H locs → lv_has ls 4 [(0, .ref h_t), (1, .int p1), (2, .int p2)] → W p l e rm_X12_shape s m args below meth c H locs 0 0 Q (F0 m 28 ls [.ref h_t]) := by
    intro F_t a_memory H locs ls hf hP hD hS hl
    have hf := (m_X12_shape_j28.eq_1 _ _ _ _ _).symm.trans hf
    refine lv_iconst (v := 0) hx hb dX12_shape_28 (by decide) ?_
    exact L29 0 F_t a_memory _ _ _ hf hP hD hS (lv_sub hl [0, 1, 2] rfl)
  refine lv_aload_n hx hb dX12_shape_0 rfl (lv_at hl 0 rfl) ?_
  refine lv_iconst (v := 0) hx hb dX12_shape_1 (by decide) ?_
  refine z_put (ci := 12) (C := RX12) (T := TX12) (N := 51) hx hb hts inT_X12 tyX12 tyX12_ok nmX12 hown hK hP hD hS 0 rfl rfl 4 (by decide) tf_X12_63 rfl (by decide +kernel) (Nat.le_of_ble_eq_true rfl) (o_X12 r_t) (o_X12_s4 _ _ _) (fun z => w_X12_shape h_t r_t z cI a_rows a_memory) (fun _ => rfl) dX12_shape_2 hf (fun F1 H locs hf hP hD hS => ?_)
  refine lv_aload_n hx hb dX12_shape_5 rfl (lv_at hl 0 rfl) ?_
  refine lv_iload_n hx hb dX12_shape_6 rfl (lv_at hl 1 rfl) ?_
  refine lv_iconst (v := 0) hx hb dX12_shape_7 (by decide) ?_
  refine lv_iconst (v := 2) hx hb dX12_shape_8 (by decide) ?_
  obtain ⟨u2, hu2, hf⟩ := bd_some hf
  refine z_ci (ws1 := w_X12_shape h_t r_t F1 cI a_rows a_memory) (wr := List.filterMap (fun i : Nat => (w_X12_shape h_t r_t F1 cI a_rows a_memory)[i]?) [0, 1, 2]) (z_rS (rest := [.ref h_t]) hx hb hml hown hcx hl.1 (c_X12_within l D cI p1 0 2 u2 hu2 _) tl_X12_172 ts_X12_within tn_X12 tc_X12_within tm_X12_within rfl rfl ⟨Nat.le_of_ble_eq_true rfl, Nat.le_of_ble_eq_true rfl⟩ hK hP hD [] rfl rfl rfl rfl (Nat.le_of_ble_eq_true rfl) dX12_shape_9 ⟨Nat.zero_le _, Nat.zero_le _⟩) hP hD hS hA [] [0, 1, 2] [0, 1, 2] rfl rfl rfl (by decide) rfl rfl (fun H locs hP hD hS => ?_)
  refine z_if_eq (tgt := 28) hx hb dX12_shape_12 (by decide) hf (fun hf => ?_) (fun hf => ?_)
  · exact L28 F1 a_memory _ _ _ hf hP hD hS (lv_sub hl [0, 1, 2] rfl)
  · refine lv_iload_n hx hb dX12_shape_15 rfl (lv_at hl 2 rfl) ?_
    refine lv_iconst (v := 0) hx hb dX12_shape_16 (by decide) ?_
    refine lv_iconst (v := 4) hx hb dX12_shape_17 (by decide) ?_
    obtain ⟨u11, hu11, hf⟩ := bd_some hf
    refine z_ci (ws1 := w_X12_shape h_t r_t F1 cI a_rows a_memory) (wr := List.filterMap (fun i : Nat => (w_X12_shape h_t r_t F1 cI a_rows a_memory)[i]?) [0, 1, 2]) (z_rS (rest := [.ref h_t]) hx hb hml hown hcx hl.1 (c_X12_within l D cI p2 0 4 u11 hu11 _) tl_X12_172 ts_X12_within tn_X12 tc_X12_within tm_X12_within rfl rfl ⟨Nat.le_of_ble_eq_true rfl, Nat.le_of_ble_eq_true rfl⟩ hK hP hD [] rfl rfl rfl rfl (Nat.le_of_ble_eq_true rfl) dX12_shape_18 ⟨Nat.zero_le _, Nat.zero_le _⟩) hP hD hS hA [] [0, 1, 2] [0, 1, 2] rfl rfl rfl (by decide) rfl rfl (fun H locs hP hD hS => ?_)
    refine z_if_eq (tgt := 28) hx hb dX12_shape_21 (by decide) hf (fun hf => ?_) (fun hf => ?_)
    · exact L28 F1 a_memory _ _ _ hf hP hD hS (lv_sub hl [0, 1, 2] rfl)
    · refine lv_iconst (v := 1) hx hb dX12_shape_24 (by decide) ?_
      refine lv_goto (tgt := 29) hx hb dX12_shape_25 (by decide) ?_
      exact L29 1 F1 a_memory _ _ _ hf hP hD hS (lv_sub hl [0, 1, 2] rfl)
abbrev w_X12_keptAt (cI : ClassId) : va_W := []
abbrev rm_X12_keptAt : Room := { frames := 0, cells := 0, slots := 0, locals := 0 }
def m_X12_keptAt (p0 : Int32) (p1 : Int32) : Option (Int32) :=
  some (2358 + (786 * ((p0 + p1) - (p0 + p1) / 40 * 40)))
set_option maxHeartbeats 4000000 in
set_option maxRecDepth 100000 in
theorem c_X12_keptAt (l : Launch) (D : va_G) (cI : ClassId) (p0 : Int32) (p1 : Int32) (Rr : Int32) (hf : m_X12_keptAt p0 p1 = some Rr) : CTi l yX12_keptAt (Cond.code yX12_keptAt cX12_keptAt 2 (some .int)) rm_X12_keptAt D cI [.int p0, .int p1] (w_X12_keptAt cI) Rr (w_X12_keptAt cI) := by
  refine z_begin_i (own := RX12) (ρ := Int32) (fun u => w_X12_keptAt cI) (fun u => u) (by decide +kernel) rfl (Nat.le_of_ble_eq_true rfl) ?_
  intro p e s m args below meth c ls Q A hx hb hml hts hcx hown hK hA hP hD hS hl hret
  have hl : lv_has ls 2 [(0, .int p0), (1, .int p1)] := hl
  have hf := (m_X12_keptAt.eq_1 _ _).symm.trans hf
  refine lv_sipush (v := 2358) hx hb dX12_keptAt_0 (by decide) ?_
  refine lv_sipush (v := 786) hx hb dX12_keptAt_3 (by decide) ?_
  refine lv_iload_n hx hb dX12_keptAt_6 rfl (lv_at hl 0 rfl) ?_
  refine lv_iload_n hx hb dX12_keptAt_7 rfl (lv_at hl 1 rfl) ?_
  refine lv_iadd hx hb dX12_keptAt_8 ?_
  refine lv_bipush (v := 40) hx hb dX12_keptAt_9 (by decide) ?_
  refine lv_irem hx hb dX12_keptAt_11 (by decide) ?_
  refine lv_imul hx hb dX12_keptAt_12 ?_
  refine lv_iadd hx hb dX12_keptAt_13 ?_
  exact hret (2358 + (786 * ((p0 + p1) - (p0 + p1) / 40 * 40))) _ _ _ _ hf hP hD hS dX12_keptAt_14
abbrev w_X12_refuses (h_t : Nat) (r_t : Nat → Nat) (F_t : Nat → Int32) (cI : ClassId) (a_refused : Nat → Int32) : va_W := [(h_t, .inr (12, o_X12 r_t F_t)), ((r_t 3), .inl (cI, 6, .inl a_refused))]
abbrev rm_X12_refuses : Room := { frames := 0, cells := 0, slots := 0, locals := 0 }
def m_X12_refuses (a_refused : Nat → Int32) (p1 : Int32) : Option (Int32 × (Nat → Int32)) :=
  rd a_refused 6 p1 fun y1 =>
  wr a_refused 6 p1 (y1 + 1) fun a2 =>
  some ((-1), a2)
set_option maxHeartbeats 4000000 in
set_option maxRecDepth 100000 in
theorem c_X12_refuses (l : Launch) (D : va_G) (cI : ClassId) (h_t : Nat) (r_t : Nat → Nat) (F_t : Nat → Int32) (a_refused : Nat → Int32) (p1 : Int32) (Rr : Int32 × (Nat → Int32)) (hf : m_X12_refuses a_refused p1 = some Rr) : CTi l yX12_refuses (Cond.code yX12_refuses cX12_refuses 2 (some .int)) rm_X12_refuses D cI [.ref h_t, .int p1] (w_X12_refuses h_t r_t F_t cI a_refused) Rr.1 (w_X12_refuses h_t r_t F_t cI Rr.2) := by
  refine z_begin_i (own := RX12) (ρ := Int32 × (Nat → Int32)) (fun u => w_X12_refuses h_t r_t F_t cI u.2) (fun u => u.1) (by decide +kernel) rfl (Nat.le_of_ble_eq_true rfl) ?_
  intro p e s m args below meth c ls Q A hx hb hml hts hcx hown hK hA hP hD hS hl hret
  have hl : lv_has ls 2 [(0, .ref h_t), (1, .int p1)] := hl
  have hf := (m_X12_refuses.eq_1 _ _).symm.trans hf
  refine lv_aload_n hx hb dX12_refuses_0 rfl (lv_at hl 0 rfl) ?_
  refine z_get (ci := 12) (C := RX12) (T := TX12) (N := 51) (v := .ref (r_t 3)) hx hb hts inT_X12 hown hK hP 0 rfl rfl 3 (by decide) tf_X12_20 rfl dX12_refuses_1 ?_
  refine lv_iload_n hx hb dX12_refuses_4 rfl (lv_at hl 1 rfl) ?_
  refine lv_dup2_11 hx hb dX12_refuses_5 rfl rfl ?_
  refine z_iald hx hb hK hP 1 rfl dX12_refuses_6 hf (fun y1 hf => ?_)
  refine lv_iconst (v := 1) hx hb dX12_refuses_7 (by decide) ?_
  refine lv_iadd hx hb dX12_refuses_8 ?_
  refine z_iast hx hb hK hP hD hS 1 rfl (fun z => w_X12_refuses h_t r_t F_t cI z) (fun _ => rfl) dX12_refuses_9 hf (fun a2 H locs hf hP hD hS => ?_)
  refine lv_iconst (v := (-1)) hx hb dX12_refuses_10 (by decide) ?_
  exact hret ((-1), a2) _ _ _ _ hf hP hD hS dX12_refuses_11
abbrev w_X12_isDone (h_t : Nat) (r_t : Nat → Nat) (F_t : Nat → Int32) (cI : ClassId) (a_rows : Nat → Int32) (a_refused : Nat → Int32) : va_W := [(h_t, .inr (12, o_X12 r_t F_t)), ((r_t 0), .inl (cI, 66100, .inl a_rows)), ((r_t 3), .inl (cI, 6, .inl a_refused))]
abbrev rm_X12_isDone : Room := { frames := 1, cells := 0, slots := 0, locals := 24 }
def m_X12_isDone_j43 (p1 : Int32) (F_t : Nat → Int32) (a_rows : Nat → Int32) (a_refused : Nat → Int32) : Option (Int32 × (Nat → Int32) × (Nat → Int32) × (Nat → Int32)) :=
  bd (m_X12_keptAt (F_t 6) (F_t 5)) fun u1 =>
  bd (m_X12_copies a_rows 0 u1 786) fun u2 =>
  nm (upd F_t 5 ((F_t 5) + 1)) fun F3 =>
  bd (m_X12_copies u2 786 0 786) fun u4 =>
  some (p1, F3, u4, a_refused)
def m_X12_isDone (F_t : Nat → Int32) (a_rows : Nat → Int32) (a_refused : Nat → Int32) (p1 : Int32) : Option (Int32 × (Nat → Int32) × (Nat → Int32) × (Nat → Int32)) :=
  if p1 = (-1) then (
  bd (m_X12_refuses a_refused 1) fun u7 =>
  some (u7.1, F_t, a_rows, u7.2))
  else (
  if (F_t 5) = 40 then (
  nm (upd F_t 6 (((F_t 6) + 1) - ((F_t 6) + 1) / 40 * 40)) fun F5 =>
  nm (upd F5 5 ((F5 5) - 1)) fun F6 =>
  m_X12_isDone_j43 p1 F6 a_rows a_refused)
  else (
  m_X12_isDone_j43 p1 F_t a_rows a_refused))
set_option maxHeartbeats 4000000 in
set_option maxRecDepth 100000 in
theorem c_X12_isDone (l : Launch) (D : va_G) (cI : ClassId) (h_t : Nat) (r_t : Nat → Nat) (F_t : Nat → Int32) (a_rows : Nat → Int32) (a_refused : Nat → Int32) (p1 : Int32) (Rr : Int32 × (Nat → Int32) × (Nat → Int32) × (Nat → Int32)) (hf : m_X12_isDone F_t a_rows a_refused p1 = some Rr) : CTi l yX12_isDone (Cond.code yX12_isDone cX12_isDone 2 (some .int)) rm_X12_isDone D cI [.ref h_t, .int p1] (w_X12_isDone h_t r_t F_t cI a_rows a_refused) Rr.1 (w_X12_isDone h_t r_t Rr.2.1 cI Rr.2.2.1 Rr.2.2.2) := by
  refine z_begin_i (own := RX12) (ρ := Int32 × (Nat → Int32) × (Nat → Int32) × (Nat → Int32)) (fun u => w_X12_isDone h_t r_t u.2.1 cI u.2.2.1 u.2.2.2) (fun u => u.1) (by decide +kernel) rfl (Nat.le_of_ble_eq_true rfl) ?_
  intro p e s m args below meth c ls Q A hx hb hml hts hcx hown hK hA hP hD hS hl hret
  have hl : lv_has ls 2 [(0, .ref h_t), (1, .int p1)] := hl
  have hf := (m_X12_isDone.eq_1 _ _ _ _).symm.trans hf
  have L43 : ∀ (F_t : Nat → Int32) (a_rows : Nat → Int32) (a_refused : Nat → Int32) (H : Heap) (locs : List Loc) (ls : Array Slot), m_X12_isDone_j43 p1 F_t a_rows a_refused = some Rr → va_P D vwCl (w_X12_isDone h_t r_t F_t cI a_rows a_refused) H → va_D A (w_X12_isDone h_t r_t F_t cI a_rows a_refused) → va_S A s.heap H locs → lv_has ls 2 [(0, .ref h_t), (1, .int p1)] → W p l e rm_X12_isDone s m args below meth c H locs 0 0 Q (F0 m 43 ls []) := by
    intro F_t a_rows a_refused H locs ls hf hP hD hS hl
    have hf := (m_X12_isDone_j43.eq_1 _ _ _ _).symm.trans hf
    refine lv_aload_n hx hb dX12_isDone_43 rfl (lv_at hl 0 rfl) ?_
    refine lv_iconst (v := 0) hx hb dX12_isDone_44 (by decide) ?_
    refine lv_aload_n hx hb dX12_isDone_45 rfl (lv_at hl 0 rfl) ?_
    refine z_get (ci := 12) (C := RX12) (T := TX12) (N := 51) (v := .int (F_t 6)) hx hb hts inT_X12 hown hK hP 0 rfl rfl 6 (by decide) tf_X12_333 rfl dX12_isDone_46 ?_
    refine lv_aload_n hx hb dX12_isDone_49 rfl (lv_at hl 0 rfl) ?_
    refine z_get (ci := 12) (C := RX12) (T := TX12) (N := 51) (v := .int (F_t 5)) hx hb hts inT_X12 hown hK hP 0 rfl rfl 5 (by decide) tf_X12_336 rfl dX12_isDone_50 ?_
    obtain ⟨u1, hu1, hf⟩ := bd_some hf
    refine z_ci (ws1 := w_X12_isDone h_t r_t F_t cI a_rows a_refused) (wr := List.filterMap (fun i : Nat => (w_X12_isDone h_t r_t F_t cI a_rows a_refused)[i]?) [0, 1, 2]) (z_rS (rest := [.int 0, .ref h_t]) hx hb hml hown hcx hl.1 (c_X12_keptAt l D cI (F_t 6) (F_t 5) u1 hu1 _) tl_X12_348 ts_X12_keptAt tn_X12 tc_X12_keptAt tm_X12_keptAt rfl rfl ⟨Nat.le_of_ble_eq_true rfl, Nat.le_of_ble_eq_true rfl⟩ hK hP hD [] rfl rfl rfl rfl (Nat.le_of_ble_eq_true rfl) dX12_isDone_53 ⟨Nat.zero_le _, Nat.zero_le _⟩) hP hD hS hA [] [0, 1, 2] [0, 1, 2] rfl rfl rfl (by decide) rfl rfl (fun H locs hP hD hS => ?_)
    refine lv_sipush (v := 786) hx hb dX12_isDone_56 (by decide) ?_
    obtain ⟨u2, hu2, hf⟩ := bd_some hf
    refine z_cv (ws1 := w_X12_isDone h_t r_t F_t cI u2 a_refused) (wr := List.filterMap (fun i : Nat => (w_X12_isDone h_t r_t F_t cI a_rows a_refused)[i]?) [2]) (z_rV (rest := []) hx hb hml hown hcx hl.1 (c_X12_copies l D cI h_t r_t F_t a_rows 0 u1 786 u2 hu2 _) tl_X12_224 ti_X12_copies tz_X12_copies tn_X12 tc_X12_copies tm_X12_copies rfl rfl ⟨Nat.le_of_ble_eq_true rfl, Nat.le_of_ble_eq_true rfl⟩ hK hP hD [0, 1] rfl rfl 0 rfl rfl rfl rfl (Nat.le_of_ble_eq_true rfl) dX12_isDone_59 ⟨Nat.zero_le _, Nat.zero_le _⟩) hP hD hS hA [0, 1] [2] [1, 2, 0] rfl rfl rfl (by decide) rfl rfl (fun H locs hP hD hS => ?_)
    refine lv_aload_n hx hb dX12_isDone_62 rfl (lv_at hl 0 rfl) ?_
    refine lv_dup hx hb dX12_isDone_63 rfl ?_
    refine z_get (ci := 12) (C := RX12) (T := TX12) (N := 51) (v := .int (F_t 5)) hx hb hts inT_X12 hown hK hP 0 rfl rfl 5 (by decide) tf_X12_336 rfl dX12_isDone_64 ?_
    refine lv_iconst (v := 1) hx hb dX12_isDone_67 (by decide) ?_
    refine lv_iadd hx hb dX12_isDone_68 ?_
    refine z_put (ci := 12) (C := RX12) (T := TX12) (N := 51) hx hb hts inT_X12 tyX12 tyX12_ok nmX12 hown hK hP hD hS 0 rfl rfl 5 (by decide) tf_X12_336 rfl (by decide +kernel) (Nat.le_of_ble_eq_true rfl) (o_X12 r_t) (o_X12_s5 _ _ _) (fun z => w_X12_isDone h_t r_t z cI u2 a_refused) (fun _ => rfl) dX12_isDone_69 hf (fun F3 H locs hf hP hD hS => ?_)
    refine lv_aload_n hx hb dX12_isDone_72 rfl (lv_at hl 0 rfl) ?_
    refine lv_sipush (v := 786) hx hb dX12_isDone_73 (by decide) ?_
    refine lv_iconst (v := 0) hx hb dX12_isDone_76 (by decide) ?_
    refine lv_sipush (v := 786) hx hb dX12_isDone_77 (by decide) ?_
    obtain ⟨u4, hu4, hf⟩ := bd_some hf
    refine z_cv (ws1 := w_X12_isDone h_t r_t F3 cI u4 a_refused) (wr := List.filterMap (fun i : Nat => (w_X12_isDone h_t r_t F3 cI u2 a_refused)[i]?) [2]) (z_rV (rest := []) hx hb hml hown hcx hl.1 (c_X12_copies l D cI h_t r_t F3 u2 786 0 786 u4 hu4 _) tl_X12_224 ti_X12_copies tz_X12_copies tn_X12 tc_X12_copies tm_X12_copies rfl rfl ⟨Nat.le_of_ble_eq_true rfl, Nat.le_of_ble_eq_true rfl⟩ hK hP hD [0, 1] rfl rfl 0 rfl rfl rfl rfl (Nat.le_of_ble_eq_true rfl) dX12_isDone_80 ⟨Nat.zero_le _, Nat.zero_le _⟩) hP hD hS hA [0, 1] [2] [1, 2, 0] rfl rfl rfl (by decide) rfl rfl (fun H locs hP hD hS => ?_)
    refine lv_iload_n hx hb dX12_isDone_83 rfl (lv_at hl 1 rfl) ?_
    exact hret (p1, F3, u4, a_refused) _ _ _ _ hf hP hD hS dX12_isDone_84
  refine lv_iload_n hx hb dX12_isDone_0 rfl (lv_at hl 1 rfl) ?_
  refine lv_iconst (v := (-1)) hx hb dX12_isDone_1 (by decide) ?_
  refine z_icmp_ne (tgt := 11) hx hb dX12_isDone_2 (by decide) hf (fun hf => ?_) (fun hf => ?_)
  · refine lv_aload_n hx hb dX12_isDone_11 rfl (lv_at hl 0 rfl) ?_
    refine z_get (ci := 12) (C := RX12) (T := TX12) (N := 51) (v := .int (F_t 5)) hx hb hts inT_X12 hown hK hP 0 rfl rfl 5 (by decide) tf_X12_336 rfl dX12_isDone_12 ?_
    refine lv_bipush (v := 40) hx hb dX12_isDone_15 (by decide) ?_
    refine z_icmp_ne (tgt := 43) hx hb dX12_isDone_17 (by decide) hf (fun hf => ?_) (fun hf => ?_)
    · exact L43 F_t a_rows a_refused _ _ _ hf hP hD hS (lv_sub hl [0, 1] rfl)
    · refine lv_aload_n hx hb dX12_isDone_20 rfl (lv_at hl 0 rfl) ?_
      refine lv_aload_n hx hb dX12_isDone_21 rfl (lv_at hl 0 rfl) ?_
      refine z_get (ci := 12) (C := RX12) (T := TX12) (N := 51) (v := .int (F_t 6)) hx hb hts inT_X12 hown hK hP 0 rfl rfl 6 (by decide) tf_X12_333 rfl dX12_isDone_22 ?_
      refine lv_iconst (v := 1) hx hb dX12_isDone_25 (by decide) ?_
      refine lv_iadd hx hb dX12_isDone_26 ?_
      refine lv_bipush (v := 40) hx hb dX12_isDone_27 (by decide) ?_
      refine lv_irem hx hb dX12_isDone_29 (by decide) ?_
      refine z_put (ci := 12) (C := RX12) (T := TX12) (N := 51) hx hb hts inT_X12 tyX12 tyX12_ok nmX12 hown hK hP hD hS 0 rfl rfl 6 (by decide) tf_X12_333 rfl (by decide +kernel) (Nat.le_of_ble_eq_true rfl) (o_X12 r_t) (o_X12_s6 _ _ _) (fun z => w_X12_isDone h_t r_t z cI a_rows a_refused) (fun _ => rfl) dX12_isDone_30 hf (fun F5 H locs hf hP hD hS => ?_)
      refine lv_aload_n hx hb dX12_isDone_33 rfl (lv_at hl 0 rfl) ?_
      refine lv_dup hx hb dX12_isDone_34 rfl ?_
      refine z_get (ci := 12) (C := RX12) (T := TX12) (N := 51) (v := .int (F5 5)) hx hb hts inT_X12 hown hK hP 0 rfl rfl 5 (by decide) tf_X12_336 rfl dX12_isDone_35 ?_
      refine lv_iconst (v := 1) hx hb dX12_isDone_38 (by decide) ?_
      refine lv_isub hx hb dX12_isDone_39 ?_
      refine z_put (ci := 12) (C := RX12) (T := TX12) (N := 51) hx hb hts inT_X12 tyX12 tyX12_ok nmX12 hown hK hP hD hS 0 rfl rfl 5 (by decide) tf_X12_336 rfl (by decide +kernel) (Nat.le_of_ble_eq_true rfl) (o_X12 r_t) (o_X12_s5 _ _ _) (fun z => w_X12_isDone h_t r_t z cI a_rows a_refused) (fun _ => rfl) dX12_isDone_40 hf (fun F6 H locs hf hP hD hS => ?_)
      exact L43 F6 a_rows a_refused _ _ _ hf hP hD hS (lv_sub hl [0, 1] rfl)
  · refine lv_aload_n hx hb dX12_isDone_5 rfl (lv_at hl 0 rfl) ?_
    refine lv_iconst (v := 1) hx hb dX12_isDone_6 (by decide) ?_
    obtain ⟨u7, hu7, hf⟩ := bd_some hf
    refine z_ci (ws1 := w_X12_isDone h_t r_t F_t cI a_rows u7.2) (wr := List.filterMap (fun i : Nat => (w_X12_isDone h_t r_t F_t cI a_rows a_refused)[i]?) [1]) (z_rV (rest := []) hx hb hml hown hcx hl.1 (c_X12_refuses l D cI h_t r_t F_t a_refused 1 u7 hu7 _) tl_X12_345 ti_X12_refuses tz_X12_refuses tn_X12 tc_X12_refuses tm_X12_refuses rfl rfl ⟨Nat.le_of_ble_eq_true rfl, Nat.le_of_ble_eq_true rfl⟩ hK hP hD [0, 2] rfl rfl 0 rfl rfl rfl rfl (Nat.le_of_ble_eq_true rfl) dX12_isDone_7 ⟨Nat.zero_le _, Nat.zero_le _⟩) hP hD hS hA [0, 2] [1] [1, 0, 2] rfl rfl rfl (by decide) rfl rfl (fun H locs hP hD hS => ?_)
    exact hret (u7.1, F_t, a_rows, u7.2) _ _ _ _ hf hP hD hS dX12_isDone_10
abbrev w_X12_goes (h_t : Nat) (r_t : Nat → Nat) (F_t : Nat → Int32) (cI : ClassId) (a_rows : Nat → Int32) (a_words : Nat → Int32) (a_address : Nat → Int32) (a_number : Nat → Int32) : va_W := [(h_t, .inr (12, o_X12 r_t F_t)), ((r_t 0), .inl (cI, 66100, .inl a_rows)), ((r_t 16), .inl (cI, 64, .inl a_words)), ((r_t 17), .inl (cI, 64, .inl a_address)), ((r_t 18), .inl (cI, 64, .inl a_number))]
abbrev rm_X12_goes : Room := { frames := 9, cells := 0, slots := 0, locals := 205 }
def m_X12_goes_w2 (p1 : Int32) (p2 : Int32) : Nat → Int32 → (Nat → Int32) → (Nat → Int32) → (Nat → Int32) → (Nat → Int32) → (Nat → Int32) → Option (Int32 × (Nat → Int32) × (Nat → Int32) × (Nat → Int32) × (Nat → Int32) × (Nat → Int32))
  | 0, _, _, _, _, _, _ => none
  | n2 + 1, x3, F_t, a_rows, a_words, a_address, a_number =>
    if p2 ≤ x3 then (
    some (x3, F_t, a_rows, a_words, a_address, a_number))
    else (
    bd (m_X12_isStep F_t a_rows a_words a_address a_number p1) fun u1 =>
    if u1.1 = 0 then (
    some (x3, u1.2.1, u1.2.2.1, u1.2.2.2.1, u1.2.2.2.2.1, u1.2.2.2.2.2))
    else (
    nm (x3 + 1) fun v2 =>
    m_X12_goes_w2 p1 p2 n2 v2 u1.2.1 u1.2.2.1 u1.2.2.2.1 u1.2.2.2.2.1 u1.2.2.2.2.2))
def m_X12_goes (F_t : Nat → Int32) (a_rows : Nat → Int32) (a_words : Nat → Int32) (a_address : Nat → Int32) (a_number : Nat → Int32) (p1 : Int32) (p2 : Int32) : Option (Int32 × (Nat → Int32) × (Nat → Int32) × (Nat → Int32) × (Nat → Int32) × (Nat → Int32)) :=
  m_X12_goes_w2 p1 p2 fuelN 0 F_t a_rows a_words a_address a_number
set_option maxHeartbeats 4000000 in
set_option maxRecDepth 100000 in
theorem c_X12_goes (l : Launch) (D : va_G) (cI : ClassId) (h_t : Nat) (r_t : Nat → Nat) (F_t : Nat → Int32) (a_rows : Nat → Int32) (a_words : Nat → Int32) (a_address : Nat → Int32) (a_number : Nat → Int32) (p1 : Int32) (p2 : Int32) (Rr : Int32 × (Nat → Int32) × (Nat → Int32) × (Nat → Int32) × (Nat → Int32) × (Nat → Int32)) (hf : m_X12_goes F_t a_rows a_words a_address a_number p1 p2 = some Rr) : CTi l yX12_goes (Cond.code yX12_goes cX12_goes 4 (some .int)) rm_X12_goes D cI [.ref h_t, .int p1, .int p2] (w_X12_goes h_t r_t F_t cI a_rows a_words a_address a_number) Rr.1 (w_X12_goes h_t r_t Rr.2.1 cI Rr.2.2.1 Rr.2.2.2.1 Rr.2.2.2.2.1 Rr.2.2.2.2.2) := by
  refine z_begin_i (own := RX12) (ρ := Int32 × (Nat → Int32) × (Nat → Int32) × (Nat → Int32) × (Nat → Int32) × (Nat → Int32)) (fun u => w_X12_goes h_t r_t u.2.1 cI u.2.2.1 u.2.2.2.1 u.2.2.2.2.1 u.2.2.2.2.2) (fun u => u.1) (by decide +kernel) rfl (Nat.le_of_ble_eq_true rfl) ?_
  intro p e s m args below meth c ls Q A hx hb hml hts hcx hown hK hA hP hD hS hl hret
  have hl : lv_has ls 4 [(0, .ref h_t), (1, .int p1), (2, .int p2)] := hl
  have hf := (m_X12_goes.eq_1 _ _ _ _ _ _ _).symm.trans hf
  have L2 : ∀ (n2 : Nat) (x3 : Int32) (F_t : Nat → Int32) (a_rows : Nat → Int32) (a_words : Nat → Int32) (a_address : Nat → Int32) (a_number : Nat → Int32) (H : Heap) (locs : List Loc) (ls : Array Slot), m_X12_goes_w2 p1 p2 n2 x3 F_t a_rows a_words a_address a_number = some Rr → va_P D vwCl (w_X12_goes h_t r_t F_t cI a_rows a_words a_address a_number) H → va_D A (w_X12_goes h_t r_t F_t cI a_rows a_words a_address a_number) → va_S A s.heap H locs → lv_has ls 4 [(0, .ref h_t), (1, .int p1), (2, .int p2), (3, .int x3)] → W p l e rm_X12_goes s m args below meth c H locs 0 0 Q (F0 m 2 ls []) := by
    intro n2
    induction n2 with
    | zero => intro x3 F_t a_rows a_words a_address a_number H locs ls hf; cases (show (none : Option _) = some Rr from hf)
    | succ n2 ih2 =>
      intro x3 F_t a_rows a_words a_address a_number H locs ls hf hP hD hS hl
      have hf := (m_X12_goes_w2.eq_2 _ _ _ _ _ _ _ _ _).symm.trans hf
      refine lv_iload_n hx hb dX12_goes_2 rfl (lv_at hl 3 rfl) ?_
      refine lv_iload_n hx hb dX12_goes_3 rfl (lv_at hl 2 rfl) ?_
      refine z_icmp_ge (tgt := 21) hx hb dX12_goes_4 (by decide) hf (fun hf => ?_) (fun hf => ?_)
      · refine lv_iload_n hx hb dX12_goes_21 rfl (lv_at hl 3 rfl) ?_
        exact hret (x3, F_t, a_rows, a_words, a_address, a_number) _ _ _ _ hf hP hD hS dX12_goes_22
      · refine lv_aload_n hx hb dX12_goes_7 rfl (lv_at hl 0 rfl) ?_
        refine lv_iload_n hx hb dX12_goes_8 rfl (lv_at hl 1 rfl) ?_
        obtain ⟨u1, hu1, hf⟩ := bd_some hf
        refine z_ci (ws1 := w_X12_goes h_t r_t u1.2.1 cI u1.2.2.1 u1.2.2.2.1 u1.2.2.2.2.1 u1.2.2.2.2.2) (wr := List.filterMap (fun i : Nat => (w_X12_goes h_t r_t F_t cI a_rows a_words a_address a_number)[i]?) []) (z_rV (rest := []) hx hb hml hown hcx hl.1 (c_X12_isStep l D cI h_t r_t F_t a_rows a_words a_address a_number p1 u1 hu1 _) tl_X12_230 ti_X12_isStep tz_X12_isStep tn_X12 tc_X12_isStep tm_X12_isStep rfl rfl ⟨Nat.le_of_ble_eq_true rfl, Nat.le_of_ble_eq_true rfl⟩ hK hP hD [0, 1, 2, 3, 4] rfl rfl 0 rfl rfl rfl rfl (Nat.le_of_ble_eq_true rfl) dX12_goes_9 ⟨Nat.zero_le _, Nat.zero_le _⟩) hP hD hS hA [0, 1, 2, 3, 4] [] [0, 1, 2, 3, 4] rfl rfl rfl (by decide) rfl rfl (fun H locs hP hD hS => ?_)
        refine z_if_eq (tgt := 21) hx hb dX12_goes_12 (by decide) hf (fun hf => ?_) (fun hf => ?_)
        · refine lv_iload_n hx hb dX12_goes_21 rfl (lv_at hl 3 rfl) ?_
          exact hret (x3, u1.2.1, u1.2.2.1, u1.2.2.2.1, u1.2.2.2.2.1, u1.2.2.2.2.2) _ _ _ _ hf hP hD hS dX12_goes_22
        · refine z_iinc (k0 := 3) (fun z => [(3, .int z), (0, .ref h_t), (1, .int p1), (2, .int p2)]) hx hb dX12_goes_15 hl rfl (by decide) (by decide) (fun _ => rfl) hf (fun v2 ls hf hl => ?_)
          refine lv_goto (tgt := 2) hx hb dX12_goes_18 (by decide) ?_
          exact ih2 v2 u1.2.1 u1.2.2.1 u1.2.2.2.1 u1.2.2.2.2.1 u1.2.2.2.2.2 _ _ _ hf hP hD hS (lv_sub hl [1, 2, 3, 0] rfl)
  refine lv_iconst (v := 0) hx hb dX12_goes_0 (by decide) ?_
  refine lv_istore_n (lv' := [(3, .int 0), (0, .ref h_t), (1, .int p1), (2, .int p2)]) hx hb dX12_goes_1 rfl hl (by decide) rfl (fun ls hl => ?_)
  exact L2 fuelN 0 F_t a_rows a_words a_address a_number _ _ _ hf hP hD hS (lv_sub hl [1, 2, 3, 0] rfl)
abbrev w_X12_steps (h_t : Nat) (r_t : Nat → Nat) (F_t : Nat → Int32) (cI : ClassId) (a_rows : Nat → Int32) (a_refused : Nat → Int32) (a_words : Nat → Int32) (a_address : Nat → Int32) (a_number : Nat → Int32) : va_W := [(h_t, .inr (12, o_X12 r_t F_t)), ((r_t 0), .inl (cI, 66100, .inl a_rows)), ((r_t 3), .inl (cI, 6, .inl a_refused)), ((r_t 16), .inl (cI, 64, .inl a_words)), ((r_t 17), .inl (cI, 64, .inl a_address)), ((r_t 18), .inl (cI, 64, .inl a_number))]
abbrev rm_X12_steps : Room := { frames := 10, cells := 0, slots := 0, locals := 228 }
def m_X12_steps_j44 (p1 : Int32) (s1 : Int32) (F_t : Nat → Int32) (a_rows : Nat → Int32) (a_refused : Nat → Int32) (a_words : Nat → Int32) (a_address : Nat → Int32) (a_number : Nat → Int32) : Option (Int32 × (Nat → Int32) × (Nat → Int32) × (Nat → Int32) × (Nat → Int32) × (Nat → Int32) × (Nat → Int32)) :=
  bd (m_X12_isDone F_t a_rows a_refused s1) fun u5 =>
  some (u5.1, u5.2.1, u5.2.2.1, u5.2.2.2, a_words, a_address, a_number)
def m_X12_steps (F_t : Nat → Int32) (a_rows : Nat → Int32) (a_refused : Nat → Int32) (a_words : Nat → Int32) (a_address : Nat → Int32) (a_number : Nat → Int32) (p1 : Int32) : Option (Int32 × (Nat → Int32) × (Nat → Int32) × (Nat → Int32) × (Nat → Int32) × (Nat → Int32) × (Nat → Int32)) :=
  nm (upd F_t 4 0) fun F1 =>
  bd (m_X12_within p1 1 50) fun u2 =>
  if u2 = 0 then (
  bd (m_X12_refuses a_refused 1) fun u6 =>
  some (u6.1, F1, a_rows, u6.2, a_words, a_address, a_number))
  else (
  bd (m_X12_tries a_rows) fun u3 =>
  bd (m_X12_goes F1 u3 a_words a_address a_number 786 p1) fun u4 =>
  if u4.1 = 0 then (
  m_X12_steps_j44 p1 (-1) u4.2.1 u4.2.2.1 a_refused u4.2.2.2.1 u4.2.2.2.2.1 u4.2.2.2.2.2)
  else (
  m_X12_steps_j44 p1 u4.1 u4.2.1 u4.2.2.1 a_refused u4.2.2.2.1 u4.2.2.2.2.1 u4.2.2.2.2.2))
set_option maxHeartbeats 4000000 in
set_option maxRecDepth 100000 in
theorem c_X12_steps (l : Launch) (D : va_G) (cI : ClassId) (h_t : Nat) (r_t : Nat → Nat) (F_t : Nat → Int32) (a_rows : Nat → Int32) (a_refused : Nat → Int32) (a_words : Nat → Int32) (a_address : Nat → Int32) (a_number : Nat → Int32) (p1 : Int32) (Rr : Int32 × (Nat → Int32) × (Nat → Int32) × (Nat → Int32) × (Nat → Int32) × (Nat → Int32) × (Nat → Int32)) (hf : m_X12_steps F_t a_rows a_refused a_words a_address a_number p1 = some Rr) : CTi l yX12_steps (Cond.code yX12_steps cX12_steps 3 (some .int)) rm_X12_steps D cI [.ref h_t, .int p1] (w_X12_steps h_t r_t F_t cI a_rows a_refused a_words a_address a_number) Rr.1 (w_X12_steps h_t r_t Rr.2.1 cI Rr.2.2.1 Rr.2.2.2.1 Rr.2.2.2.2.1 Rr.2.2.2.2.2.1 Rr.2.2.2.2.2.2) := by
  refine z_begin_i (own := RX12) (ρ := Int32 × (Nat → Int32) × (Nat → Int32) × (Nat → Int32) × (Nat → Int32) × (Nat → Int32) × (Nat → Int32)) (fun u => w_X12_steps h_t r_t u.2.1 cI u.2.2.1 u.2.2.2.1 u.2.2.2.2.1 u.2.2.2.2.2.1 u.2.2.2.2.2.2) (fun u => u.1) (by decide +kernel) rfl (Nat.le_of_ble_eq_true rfl) ?_
  intro p e s m args below meth c ls Q A hx hb hml hts hcx hown hK hA hP hD hS hl hret
  have hl : lv_has ls 3 [(0, .ref h_t), (1, .int p1)] := hl
  have hf := (m_X12_steps.eq_1 _ _ _ _ _ _ _).symm.trans hf
  have L44 : ∀ (s1 : Int32) (F_t : Nat → Int32) (a_rows : Nat → Int32) (a_refused : Nat → Int32) (a_words : Nat → Int32) (a_address : Nat → Int32) (a_number : Nat → Int32) (H : Heap) (locs : List Loc) (ls : Array Slot), m_X12_steps_j44 p1 s1 F_t a_rows a_refused a_words a_address a_number = some Rr → va_P D vwCl (w_X12_steps h_t r_t F_t cI a_rows a_refused a_words a_address a_number) H → va_D A (w_X12_steps h_t r_t F_t cI a_rows a_refused a_words a_address a_number) → va_S A s.heap H locs → lv_has ls 3 [] → W p l e rm_X12_steps s m args below meth c H locs 0 0 Q (F0 m 44 ls [.int s1, .ref h_t]) := by
    intro s1 F_t a_rows a_refused a_words a_address a_number H locs ls hf hP hD hS hl
    have hf := (m_X12_steps_j44.eq_1 _ _ _ _ _ _ _ _).symm.trans hf
    obtain ⟨u5, hu5, hf⟩ := bd_some hf
    refine z_ci (ws1 := w_X12_steps h_t r_t u5.2.1 cI u5.2.2.1 u5.2.2.2 a_words a_address a_number) (wr := List.filterMap (fun i : Nat => (w_X12_steps h_t r_t F_t cI a_rows a_refused a_words a_address a_number)[i]?) [3, 4, 5]) (z_rV (rest := []) hx hb hml hown hcx hl.1 (c_X12_isDone l D cI h_t r_t F_t a_rows a_refused s1 u5 hu5 _) tl_X12_354 ti_X12_isDone tz_X12_isDone tn_X12 tc_X12_isDone tm_X12_isDone rfl rfl ⟨Nat.le_of_ble_eq_true rfl, Nat.le_of_ble_eq_true rfl⟩ hK hP hD [0, 1, 2] rfl rfl 0 rfl rfl rfl rfl (Nat.le_of_ble_eq_true rfl) dX12_steps_44 ⟨Nat.zero_le _, Nat.zero_le _⟩) hP hD hS hA [0, 1, 2] [3, 4, 5] [3, 4, 5, 0, 1, 2] rfl rfl rfl (by decide) rfl rfl (fun H locs hP hD hS => ?_)
    exact hret (u5.1, u5.2.1, u5.2.2.1, u5.2.2.2, a_words, a_address, a_number) _ _ _ _ hf hP hD hS dX12_steps_47
  refine lv_aload_n hx hb dX12_steps_0 rfl (lv_at hl 0 rfl) ?_
  refine lv_iconst (v := 0) hx hb dX12_steps_1 (by decide) ?_
  refine z_put (ci := 12) (C := RX12) (T := TX12) (N := 51) hx hb hts inT_X12 tyX12 tyX12_ok nmX12 hown hK hP hD hS 0 rfl rfl 4 (by decide) tf_X12_63 rfl (by decide +kernel) (Nat.le_of_ble_eq_true rfl) (o_X12 r_t) (o_X12_s4 _ _ _) (fun z => w_X12_steps h_t r_t z cI a_rows a_refused a_words a_address a_number) (fun _ => rfl) dX12_steps_2 hf (fun F1 H locs hf hP hD hS => ?_)
  refine lv_iload_n hx hb dX12_steps_5 rfl (lv_at hl 1 rfl) ?_
  refine lv_iconst (v := 1) hx hb dX12_steps_6 (by decide) ?_
  refine lv_bipush (v := 50) hx hb dX12_steps_7 (by decide) ?_
  obtain ⟨u2, hu2, hf⟩ := bd_some hf
  refine z_ci (ws1 := w_X12_steps h_t r_t F1 cI a_rows a_refused a_words a_address a_number) (wr := List.filterMap (fun i : Nat => (w_X12_steps h_t r_t F1 cI a_rows a_refused a_words a_address a_number)[i]?) [0, 1, 2, 3, 4, 5]) (z_rS (rest := []) hx hb hml hown hcx hl.1 (c_X12_within l D cI p1 1 50 u2 hu2 _) tl_X12_172 ts_X12_within tn_X12 tc_X12_within tm_X12_within rfl rfl ⟨Nat.le_of_ble_eq_true rfl, Nat.le_of_ble_eq_true rfl⟩ hK hP hD [] rfl rfl rfl rfl (Nat.le_of_ble_eq_true rfl) dX12_steps_9 ⟨Nat.zero_le _, Nat.zero_le _⟩) hP hD hS hA [] [0, 1, 2, 3, 4, 5] [0, 1, 2, 3, 4, 5] rfl rfl rfl (by decide) rfl rfl (fun H locs hP hD hS => ?_)
  refine z_if_ne (tgt := 21) hx hb dX12_steps_12 (by decide) hf (fun hf => ?_) (fun hf => ?_)
  · refine lv_aload_n hx hb dX12_steps_21 rfl (lv_at hl 0 rfl) ?_
    obtain ⟨u3, hu3, hf⟩ := bd_some hf
    refine z_cv (ws1 := w_X12_steps h_t r_t F1 cI u3 a_refused a_words a_address a_number) (wr := List.filterMap (fun i : Nat => (w_X12_steps h_t r_t F1 cI a_rows a_refused a_words a_address a_number)[i]?) [2, 3, 4, 5]) (z_rV (rest := []) hx hb hml hown hcx hl.1 (c_X12_tries l D cI h_t r_t F1 a_rows u3 hu3 _) tl_X12_218 ti_X12_tries tz_X12_tries tn_X12 tc_X12_tries tm_X12_tries rfl rfl ⟨Nat.le_of_ble_eq_true rfl, Nat.le_of_ble_eq_true rfl⟩ hK hP hD [0, 1] rfl rfl 0 rfl rfl rfl rfl (Nat.le_of_ble_eq_true rfl) dX12_steps_22 ⟨Nat.zero_le _, Nat.zero_le _⟩) hP hD hS hA [0, 1] [2, 3, 4, 5] [4, 5, 0, 1, 2, 3] rfl rfl rfl (by decide) rfl rfl (fun H locs hP hD hS => ?_)
    refine lv_aload_n hx hb dX12_steps_25 rfl (lv_at hl 0 rfl) ?_
    refine lv_sipush (v := 786) hx hb dX12_steps_26 (by decide) ?_
    refine lv_iload_n hx hb dX12_steps_29 rfl (lv_at hl 1 rfl) ?_
    obtain ⟨u4, hu4, hf⟩ := bd_some hf
    refine z_ci (ws1 := w_X12_steps h_t r_t u4.2.1 cI u4.2.2.1 a_refused u4.2.2.2.1 u4.2.2.2.2.1 u4.2.2.2.2.2) (wr := List.filterMap (fun i : Nat => (w_X12_steps h_t r_t F1 cI u3 a_refused a_words a_address a_number)[i]?) [2]) (z_rV (rest := []) hx hb hml hown hcx hl.1 (c_X12_goes l D cI h_t r_t F1 u3 a_words a_address a_number 786 p1 u4 hu4 _) tl_X12_351 ti_X12_goes tz_X12_goes tn_X12 tc_X12_goes tm_X12_goes rfl rfl ⟨Nat.le_of_ble_eq_true rfl, Nat.le_of_ble_eq_true rfl⟩ hK hP hD [0, 1, 3, 4, 5] rfl rfl 0 rfl rfl rfl rfl (Nat.le_of_ble_eq_true rfl) dX12_steps_30 ⟨Nat.zero_le _, Nat.zero_le _⟩) hP hD hS hA [0, 1, 3, 4, 5] [2] [1, 2, 0, 3, 4, 5] rfl rfl rfl (by decide) rfl rfl (fun H locs hP hD hS => ?_)
    refine lv_istore_n (lv' := [(2, .int u4.1), (0, .ref h_t), (1, .int p1)]) hx hb dX12_steps_33 rfl hl (by decide) rfl (fun ls hl => ?_)
    refine lv_aload_n hx hb dX12_steps_34 rfl (lv_at hl 1 rfl) ?_
    refine lv_iload_n hx hb dX12_steps_35 rfl (lv_at hl 0 rfl) ?_
    refine z_if_ne (tgt := 43) hx hb dX12_steps_36 (by decide) hf (fun hf => ?_) (fun hf => ?_)
    · refine lv_iload_n hx hb dX12_steps_43 rfl (lv_at hl 0 rfl) ?_
      exact L44 u4.1 u4.2.1 u4.2.2.1 a_refused u4.2.2.2.1 u4.2.2.2.2.1 u4.2.2.2.2.2 _ _ _ hf hP hD hS (lv_sub hl [] rfl)
    · refine lv_iconst (v := (-1)) hx hb dX12_steps_39 (by decide) ?_
      refine lv_goto (tgt := 44) hx hb dX12_steps_40 (by decide) ?_
      exact L44 (-1) u4.2.1 u4.2.2.1 a_refused u4.2.2.2.1 u4.2.2.2.2.1 u4.2.2.2.2.2 _ _ _ hf hP hD hS (lv_sub hl [] rfl)
  · refine lv_aload_n hx hb dX12_steps_15 rfl (lv_at hl 0 rfl) ?_
    refine lv_iconst (v := 1) hx hb dX12_steps_16 (by decide) ?_
    obtain ⟨u6, hu6, hf⟩ := bd_some hf
    refine z_ci (ws1 := w_X12_steps h_t r_t F1 cI a_rows u6.2 a_words a_address a_number) (wr := List.filterMap (fun i : Nat => (w_X12_steps h_t r_t F1 cI a_rows a_refused a_words a_address a_number)[i]?) [1, 3, 4, 5]) (z_rV (rest := []) hx hb hml hown hcx hl.1 (c_X12_refuses l D cI h_t r_t F1 a_refused 1 u6 hu6 _) tl_X12_345 ti_X12_refuses tz_X12_refuses tn_X12 tc_X12_refuses tm_X12_refuses rfl rfl ⟨Nat.le_of_ble_eq_true rfl, Nat.le_of_ble_eq_true rfl⟩ hK hP hD [0, 2] rfl rfl 0 rfl rfl rfl rfl (Nat.le_of_ble_eq_true rfl) dX12_steps_17 ⟨Nat.zero_le _, Nat.zero_le _⟩) hP hD hS hA [0, 2] [1, 3, 4, 5] [4, 0, 5, 1, 2, 3] rfl rfl rfl (by decide) rfl rfl (fun H locs hP hD hS => ?_)
    exact hret (u6.1, F1, a_rows, u6.2, a_words, a_address, a_number) _ _ _ _ hf hP hD hS dX12_steps_20
abbrev w_X12_evict (h_t : Nat) (r_t : Nat → Nat) (F_t : Nat → Int32) (cI : ClassId) (a_rows : Nat → Int32) (a_refused : Nat → Int32) : va_W := [(h_t, .inr (12, o_X12 r_t F_t)), ((r_t 0), .inl (cI, 66100, .inl a_rows)), ((r_t 3), .inl (cI, 6, .inl a_refused))]
abbrev rm_X12_evict : Room := { frames := 2, cells := 0, slots := 0, locals := 45 }
def m_X12_evict (F_t : Nat → Int32) (a_rows : Nat → Int32) (a_refused : Nat → Int32) (p1 : Int32) (p2 : Int32) : Option (Int32 × (Nat → Int32) × (Nat → Int32) × (Nat → Int32)) :=
  nm (upd F_t 4 0) fun F1 =>
  bd (m_X12_within p1 0 15) fun u2 =>
  bd (m_X12_right F1 u2 1) fun u3 =>
  if u3.1 = 0 then (
  some (0, u3.2, a_rows, a_refused))
  else (
  rd a_rows 66100 (64 + p1) fun y4 =>
  bd (m_X12_within p2 1 y4) fun u5 =>
  if u5 = 0 then (
  bd (m_X12_refuses a_refused 1) fun u10 =>
  some (u10.1, u3.2, a_rows, u10.2))
  else (
  bd (m_X12_tries a_rows) fun u6 =>
  bd (m_X12_reaches u6 786 p1 p2) fun u7 =>
  rd u7 66100 (850 + p1) fun y8 =>
  bd (m_X12_isDone u3.2 u7 a_refused y8) fun u9 =>
  some (u9.1, u9.2.1, u9.2.2.1, u9.2.2.2)))
set_option maxHeartbeats 4000000 in
set_option maxRecDepth 100000 in
theorem c_X12_evict (l : Launch) (D : va_G) (cI : ClassId) (h_t : Nat) (r_t : Nat → Nat) (F_t : Nat → Int32) (a_rows : Nat → Int32) (a_refused : Nat → Int32) (p1 : Int32) (p2 : Int32) (Rr : Int32 × (Nat → Int32) × (Nat → Int32) × (Nat → Int32)) (hf : m_X12_evict F_t a_rows a_refused p1 p2 = some Rr) : CTi l yX12_evict (Cond.code yX12_evict cX12_evict 3 (some .int)) rm_X12_evict D cI [.ref h_t, .int p1, .int p2] (w_X12_evict h_t r_t F_t cI a_rows a_refused) Rr.1 (w_X12_evict h_t r_t Rr.2.1 cI Rr.2.2.1 Rr.2.2.2) := by
  refine z_begin_i (own := RX12) (ρ := Int32 × (Nat → Int32) × (Nat → Int32) × (Nat → Int32)) (fun u => w_X12_evict h_t r_t u.2.1 cI u.2.2.1 u.2.2.2) (fun u => u.1) (by decide +kernel) rfl (Nat.le_of_ble_eq_true rfl) ?_
  intro p e s m args below meth c ls Q A hx hb hml hts hcx hown hK hA hP hD hS hl hret
  have hl : lv_has ls 3 [(0, .ref h_t), (1, .int p1), (2, .int p2)] := hl
  have hf := (m_X12_evict.eq_1 _ _ _ _ _).symm.trans hf
  refine lv_aload_n hx hb dX12_evict_0 rfl (lv_at hl 0 rfl) ?_
  refine lv_iconst (v := 0) hx hb dX12_evict_1 (by decide) ?_
  refine z_put (ci := 12) (C := RX12) (T := TX12) (N := 51) hx hb hts inT_X12 tyX12 tyX12_ok nmX12 hown hK hP hD hS 0 rfl rfl 4 (by decide) tf_X12_63 rfl (by decide +kernel) (Nat.le_of_ble_eq_true rfl) (o_X12 r_t) (o_X12_s4 _ _ _) (fun z => w_X12_evict h_t r_t z cI a_rows a_refused) (fun _ => rfl) dX12_evict_2 hf (fun F1 H locs hf hP hD hS => ?_)
  refine lv_aload_n hx hb dX12_evict_5 rfl (lv_at hl 0 rfl) ?_
  refine lv_iload_n hx hb dX12_evict_6 rfl (lv_at hl 1 rfl) ?_
  refine lv_iconst (v := 0) hx hb dX12_evict_7 (by decide) ?_
  refine lv_bipush (v := 15) hx hb dX12_evict_8 (by decide) ?_
  obtain ⟨u2, hu2, hf⟩ := bd_some hf
  refine z_ci (ws1 := w_X12_evict h_t r_t F1 cI a_rows a_refused) (wr := List.filterMap (fun i : Nat => (w_X12_evict h_t r_t F1 cI a_rows a_refused)[i]?) [0, 1, 2]) (z_rS (rest := [.ref h_t]) hx hb hml hown hcx hl.1 (c_X12_within l D cI p1 0 15 u2 hu2 _) tl_X12_172 ts_X12_within tn_X12 tc_X12_within tm_X12_within rfl rfl ⟨Nat.le_of_ble_eq_true rfl, Nat.le_of_ble_eq_true rfl⟩ hK hP hD [] rfl rfl rfl rfl (Nat.le_of_ble_eq_true rfl) dX12_evict_10 ⟨Nat.zero_le _, Nat.zero_le _⟩) hP hD hS hA [] [0, 1, 2] [0, 1, 2] rfl rfl rfl (by decide) rfl rfl (fun H locs hP hD hS => ?_)
  refine lv_iconst (v := 1) hx hb dX12_evict_13 (by decide) ?_
  obtain ⟨u3, hu3, hf⟩ := bd_some hf
  refine z_ci (ws1 := w_X12_evict h_t r_t u3.2 cI a_rows a_refused) (wr := List.filterMap (fun i : Nat => (w_X12_evict h_t r_t F1 cI a_rows a_refused)[i]?) [1, 2]) (z_rV (rest := []) hx hb hml hown hcx hl.1 (c_X12_right l D cI h_t r_t F1 u2 1 u3 hu3 _) tl_X12_321 ti_X12_right tz_X12_right tn_X12 tc_X12_right tm_X12_right rfl rfl ⟨Nat.le_of_ble_eq_true rfl, Nat.le_of_ble_eq_true rfl⟩ hK hP hD [0] rfl rfl 0 rfl rfl rfl rfl (Nat.le_of_ble_eq_true rfl) dX12_evict_14 ⟨Nat.zero_le _, Nat.zero_le _⟩) hP hD hS hA [0] [1, 2] [2, 0, 1] rfl rfl rfl (by decide) rfl rfl (fun H locs hP hD hS => ?_)
  refine z_if_ne (tgt := 22) hx hb dX12_evict_17 (by decide) hf (fun hf => ?_) (fun hf => ?_)
  · refine lv_iload_n hx hb dX12_evict_22 rfl (lv_at hl 2 rfl) ?_
    refine lv_iconst (v := 1) hx hb dX12_evict_23 (by decide) ?_
    refine lv_aload_n hx hb dX12_evict_24 rfl (lv_at hl 0 rfl) ?_
    refine z_get (ci := 12) (C := RX12) (T := TX12) (N := 51) (v := .ref (r_t 0)) hx hb hts inT_X12 hown hK hP 0 rfl rfl 0 (by decide) tf_X12_10 rfl dX12_evict_25 ?_
    refine lv_bipush (v := 64) hx hb dX12_evict_28 (by decide) ?_
    refine lv_iload_n hx hb dX12_evict_30 rfl (lv_at hl 1 rfl) ?_
    refine lv_iadd hx hb dX12_evict_31 ?_
    refine z_iald hx hb hK hP 1 rfl dX12_evict_32 hf (fun y4 hf => ?_)
    obtain ⟨u5, hu5, hf⟩ := bd_some hf
    refine z_ci (ws1 := w_X12_evict h_t r_t u3.2 cI a_rows a_refused) (wr := List.filterMap (fun i : Nat => (w_X12_evict h_t r_t u3.2 cI a_rows a_refused)[i]?) [0, 1, 2]) (z_rS (rest := []) hx hb hml hown hcx hl.1 (c_X12_within l D cI p2 1 y4 u5 hu5 _) tl_X12_172 ts_X12_within tn_X12 tc_X12_within tm_X12_within rfl rfl ⟨Nat.le_of_ble_eq_true rfl, Nat.le_of_ble_eq_true rfl⟩ hK hP hD [] rfl rfl rfl rfl (Nat.le_of_ble_eq_true rfl) dX12_evict_33 ⟨Nat.zero_le _, Nat.zero_le _⟩) hP hD hS hA [] [0, 1, 2] [0, 1, 2] rfl rfl rfl (by decide) rfl rfl (fun H locs hP hD hS => ?_)
    refine z_if_ne (tgt := 45) hx hb dX12_evict_36 (by decide) hf (fun hf => ?_) (fun hf => ?_)
    · refine lv_aload_n hx hb dX12_evict_45 rfl (lv_at hl 0 rfl) ?_
      obtain ⟨u6, hu6, hf⟩ := bd_some hf
      refine z_cv (ws1 := w_X12_evict h_t r_t u3.2 cI u6 a_refused) (wr := List.filterMap (fun i : Nat => (w_X12_evict h_t r_t u3.2 cI a_rows a_refused)[i]?) [2]) (z_rV (rest := []) hx hb hml hown hcx hl.1 (c_X12_tries l D cI h_t r_t u3.2 a_rows u6 hu6 _) tl_X12_218 ti_X12_tries tz_X12_tries tn_X12 tc_X12_tries tm_X12_tries rfl rfl ⟨Nat.le_of_ble_eq_true rfl, Nat.le_of_ble_eq_true rfl⟩ hK hP hD [0, 1] rfl rfl 0 rfl rfl rfl rfl (Nat.le_of_ble_eq_true rfl) dX12_evict_46 ⟨Nat.zero_le _, Nat.zero_le _⟩) hP hD hS hA [0, 1] [2] [1, 2, 0] rfl rfl rfl (by decide) rfl rfl (fun H locs hP hD hS => ?_)
      refine lv_aload_n hx hb dX12_evict_49 rfl (lv_at hl 0 rfl) ?_
      refine lv_sipush (v := 786) hx hb dX12_evict_50 (by decide) ?_
      refine lv_iload_n hx hb dX12_evict_53 rfl (lv_at hl 1 rfl) ?_
      refine lv_iload_n hx hb dX12_evict_54 rfl (lv_at hl 2 rfl) ?_
      obtain ⟨u7, hu7, hf⟩ := bd_some hf
      refine z_cv (ws1 := w_X12_evict h_t r_t u3.2 cI u7 a_refused) (wr := List.filterMap (fun i : Nat => (w_X12_evict h_t r_t u3.2 cI u6 a_refused)[i]?) [2]) (z_rV (rest := []) hx hb hml hown hcx hl.1 (c_X12_reaches l D cI h_t r_t u3.2 u6 786 p1 p2 u7 hu7 _) tl_X12_66 ti_X12_reaches tz_X12_reaches tn_X12 tc_X12_reaches tm_X12_reaches rfl rfl ⟨Nat.le_of_ble_eq_true rfl, Nat.le_of_ble_eq_true rfl⟩ hK hP hD [0, 1] rfl rfl 0 rfl rfl rfl rfl (Nat.le_of_ble_eq_true rfl) dX12_evict_55 ⟨Nat.zero_le _, Nat.zero_le _⟩) hP hD hS hA [0, 1] [2] [1, 2, 0] rfl rfl rfl (by decide) rfl rfl (fun H locs hP hD hS => ?_)
      refine lv_aload_n hx hb dX12_evict_58 rfl (lv_at hl 0 rfl) ?_
      refine lv_aload_n hx hb dX12_evict_59 rfl (lv_at hl 0 rfl) ?_
      refine z_get (ci := 12) (C := RX12) (T := TX12) (N := 51) (v := .ref (r_t 0)) hx hb hts inT_X12 hown hK hP 0 rfl rfl 0 (by decide) tf_X12_10 rfl dX12_evict_60 ?_
      refine lv_sipush (v := 850) hx hb dX12_evict_63 (by decide) ?_
      refine lv_iload_n hx hb dX12_evict_66 rfl (lv_at hl 1 rfl) ?_
      refine lv_iadd hx hb dX12_evict_67 ?_
      refine z_iald hx hb hK hP 1 rfl dX12_evict_68 hf (fun y8 hf => ?_)
      obtain ⟨u9, hu9, hf⟩ := bd_some hf
      refine z_ci (ws1 := w_X12_evict h_t r_t u9.2.1 cI u9.2.2.1 u9.2.2.2) (wr := List.filterMap (fun i : Nat => (w_X12_evict h_t r_t u3.2 cI u7 a_refused)[i]?) []) (z_rV (rest := []) hx hb hml hown hcx hl.1 (c_X12_isDone l D cI h_t r_t u3.2 u7 a_refused y8 u9 hu9 _) tl_X12_354 ti_X12_isDone tz_X12_isDone tn_X12 tc_X12_isDone tm_X12_isDone rfl rfl ⟨Nat.le_of_ble_eq_true rfl, Nat.le_of_ble_eq_true rfl⟩ hK hP hD [0, 1, 2] rfl rfl 0 rfl rfl rfl rfl (Nat.le_of_ble_eq_true rfl) dX12_evict_69 ⟨Nat.zero_le _, Nat.zero_le _⟩) hP hD hS hA [0, 1, 2] [] [0, 1, 2] rfl rfl rfl (by decide) rfl rfl (fun H locs hP hD hS => ?_)
      exact hret (u9.1, u9.2.1, u9.2.2.1, u9.2.2.2) _ _ _ _ hf hP hD hS dX12_evict_72
    · refine lv_aload_n hx hb dX12_evict_39 rfl (lv_at hl 0 rfl) ?_
      refine lv_iconst (v := 1) hx hb dX12_evict_40 (by decide) ?_
      obtain ⟨u10, hu10, hf⟩ := bd_some hf
      refine z_ci (ws1 := w_X12_evict h_t r_t u3.2 cI a_rows u10.2) (wr := List.filterMap (fun i : Nat => (w_X12_evict h_t r_t u3.2 cI a_rows a_refused)[i]?) [1]) (z_rV (rest := []) hx hb hml hown hcx hl.1 (c_X12_refuses l D cI h_t r_t u3.2 a_refused 1 u10 hu10 _) tl_X12_345 ti_X12_refuses tz_X12_refuses tn_X12 tc_X12_refuses tm_X12_refuses rfl rfl ⟨Nat.le_of_ble_eq_true rfl, Nat.le_of_ble_eq_true rfl⟩ hK hP hD [0, 2] rfl rfl 0 rfl rfl rfl rfl (Nat.le_of_ble_eq_true rfl) dX12_evict_41 ⟨Nat.zero_le _, Nat.zero_le _⟩) hP hD hS hA [0, 2] [1] [1, 0, 2] rfl rfl rfl (by decide) rfl rfl (fun H locs hP hD hS => ?_)
      exact hret (u10.1, u3.2, a_rows, u10.2) _ _ _ _ hf hP hD hS dX12_evict_44
  · refine lv_iconst (v := 0) hx hb dX12_evict_20 (by decide) ?_
    exact hret (0, u3.2, a_rows, a_refused) _ _ _ _ hf hP hD hS dX12_evict_21
abbrev w_X12_crashes (h_t : Nat) (r_t : Nat → Nat) (F_t : Nat → Int32) (cI : ClassId) (a_rows : Nat → Int32) (a_memory : Nat → Int32) (a_order : Nat → Int32) (a_image : Nat → Int32) (a_well : Nat → Int32) : va_W := [(h_t, .inr (12, o_X12 r_t F_t)), ((r_t 0), .inl (cI, 66100, .inl a_rows)), ((r_t 23), .inl (cI, 64, .inl a_memory)), ((r_t 24), .inl (cI, 16, .inl a_order)), ((r_t 25), .inl (cI, 64, .inl a_image)), ((r_t 26), .inl (cI, 88, .inl a_well))]
abbrev rm_X12_crashes : Room := { frames := 3, cells := 0, slots := 0, locals := 70 }
def m_X12_crashes_j82 (a_order : Nat → Int32) (p1 : Int32) (x2 : Int32) (F_t : Nat → Int32) (a_rows : Nat → Int32) (a_memory : Nat → Int32) (a_image : Nat → Int32) (a_well : Nat → Int32) : Option (Int32 × (Nat → Int32) × (Nat → Int32) × (Nat → Int32) × (Nat → Int32) × (Nat → Int32)) :=
  wr a_rows 66100 (p1 + 776) 0 fun a4 =>
  wr a4 66100 (p1 + 774) 0 fun a5 =>
  wr a5 66100 (p1 + 775) 0 fun a6 =>
  wr a6 66100 (p1 + 772) 1 fun a7 =>
  rd a7 66100 (p1 + 780) fun y8 =>
  wr a7 66100 (p1 + 780) (y8 + 1) fun a9 =>
  some (x2, F_t, a9, a_memory, a_image, a_well)
def m_X12_crashes_w46 (a_order : Nat → Int32) (p1 : Int32) (k82 : Int32 → (Nat → Int32) → (Nat → Int32) → (Nat → Int32) → (Nat → Int32) → (Nat → Int32) → Option (Int32 × (Nat → Int32) × (Nat → Int32) × (Nat → Int32) × (Nat → Int32) × (Nat → Int32))) : Nat → Int32 → Int32 → (Nat → Int32) → (Nat → Int32) → (Nat → Int32) → (Nat → Int32) → (Nat → Int32) → Option (Int32 × (Nat → Int32) × (Nat → Int32) × (Nat → Int32) × (Nat → Int32) × (Nat → Int32))
  | 0, _, _, _, _, _, _, _ => none
  | n46 + 1, x2, x3, F_t, a_rows, a_memory, a_image, a_well =>
    if 16 ≤ x3 then (
    k82 x2 F_t a_rows a_memory a_image a_well)
    else (
    wr a_rows 66100 ((p1 + 64) + x3) 0 fun a10 =>
    wr a10 66100 ((p1 + 80) + x3) 0 fun a11 =>
    nm (x3 + 1) fun v12 =>
    m_X12_crashes_w46 a_order p1 k82 n46 x2 v12 F_t a11 a_memory a_image a_well)
def m_X12_crashes_j44 (a_order : Nat → Int32) (p1 : Int32) (x2 : Int32) (F_t : Nat → Int32) (a_rows : Nat → Int32) (a_memory : Nat → Int32) (a_image : Nat → Int32) (a_well : Nat → Int32) : Option (Int32 × (Nat → Int32) × (Nat → Int32) × (Nat → Int32) × (Nat → Int32) × (Nat → Int32)) :=
  m_X12_crashes_w46 a_order p1 (m_X12_crashes_j82 a_order p1) fuelN x2 0 F_t a_rows a_memory a_image a_well
def m_X12_crashes_w18 (a_order : Nat → Int32) (p1 : Int32) (k44 : Int32 → (Nat → Int32) → (Nat → Int32) → (Nat → Int32) → (Nat → Int32) → (Nat → Int32) → Option (Int32 × (Nat → Int32) × (Nat → Int32) × (Nat → Int32) × (Nat → Int32) × (Nat → Int32))) : Nat → Int32 → Int32 → (Nat → Int32) → (Nat → Int32) → (Nat → Int32) → (Nat → Int32) → (Nat → Int32) → Option (Int32 × (Nat → Int32) × (Nat → Int32) × (Nat → Int32) × (Nat → Int32) × (Nat → Int32))
  | 0, _, _, _, _, _, _, _ => none
  | n18 + 1, x2, x3, F_t, a_rows, a_memory, a_image, a_well =>
    if 64 ≤ x3 then (
    k44 x2 F_t a_rows a_memory a_image a_well)
    else (
    rd a_image 64 x3 fun y13 =>
    wr a_rows 66100 (p1 + x3) y13 fun a14 =>
    nm (x3 + 1) fun v15 =>
    m_X12_crashes_w18 a_order p1 k44 n18 x2 v15 F_t a14 a_memory a_image a_well)
def m_X12_crashes (F_t : Nat → Int32) (a_rows : Nat → Int32) (a_memory : Nat → Int32) (a_order : Nat → Int32) (a_image : Nat → Int32) (a_well : Nat → Int32) (p1 : Int32) : Option (Int32 × (Nat → Int32) × (Nat → Int32) × (Nat → Int32) × (Nat → Int32) × (Nat → Int32)) :=
  bd (m_X12_laysWell F_t a_rows a_memory a_well p1) fun u1 =>
  bd (m_X12_fateHere u1.1 a_rows a_order a_image u1.2.2 p1) fun u2 =>
  bd (m_X12_laysImage a_rows a_order u2.2 p1) fun u3 =>
  m_X12_crashes_w18 a_order p1 (m_X12_crashes_j44 a_order p1) fuelN u2.1 0 u1.1 a_rows u1.2.1 u3 u1.2.2
set_option maxHeartbeats 4000000 in
set_option maxRecDepth 100000 in
theorem c_X12_crashes (l : Launch) (D : va_G) (cI : ClassId) (h_t : Nat) (r_t : Nat → Nat) (F_t : Nat → Int32) (a_rows : Nat → Int32) (a_memory : Nat → Int32) (a_order : Nat → Int32) (a_image : Nat → Int32) (a_well : Nat → Int32) (p1 : Int32) (Rr : Int32 × (Nat → Int32) × (Nat → Int32) × (Nat → Int32) × (Nat → Int32) × (Nat → Int32)) (hf : m_X12_crashes F_t a_rows a_memory a_order a_image a_well p1 = some Rr) : CTi l yX12_crashes (Cond.code yX12_crashes cX12_crashes 4 (some .int)) rm_X12_crashes D cI [.ref h_t, .int p1] (w_X12_crashes h_t r_t F_t cI a_rows a_memory a_order a_image a_well) Rr.1 (w_X12_crashes h_t r_t Rr.2.1 cI Rr.2.2.1 Rr.2.2.2.1 a_order Rr.2.2.2.2.1 Rr.2.2.2.2.2) := by
  refine z_begin_i (own := RX12) (ρ := Int32 × (Nat → Int32) × (Nat → Int32) × (Nat → Int32) × (Nat → Int32) × (Nat → Int32)) (fun u => w_X12_crashes h_t r_t u.2.1 cI u.2.2.1 u.2.2.2.1 a_order u.2.2.2.2.1 u.2.2.2.2.2) (fun u => u.1) (by decide +kernel) rfl (Nat.le_of_ble_eq_true rfl) ?_
  intro p e s m args below meth c ls Q A hx hb hml hts hcx hown hK hA hP hD hS hl hret
  have hl : lv_has ls 4 [(0, .ref h_t), (1, .int p1)] := hl
  have hf := (m_X12_crashes.eq_1 _ _ _ _ _ _ _).symm.trans hf
  have L82 : ∀ (x2 : Int32) (F_t : Nat → Int32) (a_rows : Nat → Int32) (a_memory : Nat → Int32) (a_image : Nat → Int32) (a_well : Nat → Int32) (H : Heap) (locs : List Loc) (ls : Array Slot), m_X12_crashes_j82 a_order p1 x2 F_t a_rows a_memory a_image a_well = some Rr → va_P D vwCl (w_X12_crashes h_t r_t F_t cI a_rows a_memory a_order a_image a_well) H → va_D A (w_X12_crashes h_t r_t F_t cI a_rows a_memory a_order a_image a_well) → va_S A s.heap H locs → lv_has ls 4 [(0, .ref h_t), (1, .int p1), (2, .int x2)] → W p l e rm_X12_crashes s m args below meth c H locs 0 0 Q (F0 m 82 ls []) := by
    intro x2 F_t a_rows a_memory a_image a_well H locs ls hf hP hD hS hl
    have hf := (m_X12_crashes_j82.eq_1 _ _ _ _ _ _ _ _).symm.trans hf
    refine lv_aload_n hx hb dX12_crashes_82 rfl (lv_at hl 0 rfl) ?_
    refine z_get (ci := 12) (C := RX12) (T := TX12) (N := 51) (v := .ref (r_t 0)) hx hb hts inT_X12 hown hK hP 0 rfl rfl 0 (by decide) tf_X12_10 rfl dX12_crashes_83 ?_
    refine lv_iload_n hx hb dX12_crashes_86 rfl (lv_at hl 1 rfl) ?_
    refine lv_sipush (v := 776) hx hb dX12_crashes_87 (by decide) ?_
    refine lv_iadd hx hb dX12_crashes_90 ?_
    refine lv_iconst (v := 0) hx hb dX12_crashes_91 (by decide) ?_
    refine z_iast hx hb hK hP hD hS 1 rfl (fun z => w_X12_crashes h_t r_t F_t cI z a_memory a_order a_image a_well) (fun _ => rfl) dX12_crashes_92 hf (fun a4 H locs hf hP hD hS => ?_)
    refine lv_aload_n hx hb dX12_crashes_93 rfl (lv_at hl 0 rfl) ?_
    refine z_get (ci := 12) (C := RX12) (T := TX12) (N := 51) (v := .ref (r_t 0)) hx hb hts inT_X12 hown hK hP 0 rfl rfl 0 (by decide) tf_X12_10 rfl dX12_crashes_94 ?_
    refine lv_iload_n hx hb dX12_crashes_97 rfl (lv_at hl 1 rfl) ?_
    refine lv_sipush (v := 774) hx hb dX12_crashes_98 (by decide) ?_
    refine lv_iadd hx hb dX12_crashes_101 ?_
    refine lv_iconst (v := 0) hx hb dX12_crashes_102 (by decide) ?_
    refine z_iast hx hb hK hP hD hS 1 rfl (fun z => w_X12_crashes h_t r_t F_t cI z a_memory a_order a_image a_well) (fun _ => rfl) dX12_crashes_103 hf (fun a5 H locs hf hP hD hS => ?_)
    refine lv_aload_n hx hb dX12_crashes_104 rfl (lv_at hl 0 rfl) ?_
    refine z_get (ci := 12) (C := RX12) (T := TX12) (N := 51) (v := .ref (r_t 0)) hx hb hts inT_X12 hown hK hP 0 rfl rfl 0 (by decide) tf_X12_10 rfl dX12_crashes_105 ?_
    refine lv_iload_n hx hb dX12_crashes_108 rfl (lv_at hl 1 rfl) ?_
    refine lv_sipush (v := 775) hx hb dX12_crashes_109 (by decide) ?_
    refine lv_iadd hx hb dX12_crashes_112 ?_
    refine lv_iconst (v := 0) hx hb dX12_crashes_113 (by decide) ?_
    refine z_iast hx hb hK hP hD hS 1 rfl (fun z => w_X12_crashes h_t r_t F_t cI z a_memory a_order a_image a_well) (fun _ => rfl) dX12_crashes_114 hf (fun a6 H locs hf hP hD hS => ?_)
    refine lv_aload_n hx hb dX12_crashes_115 rfl (lv_at hl 0 rfl) ?_
    refine z_get (ci := 12) (C := RX12) (T := TX12) (N := 51) (v := .ref (r_t 0)) hx hb hts inT_X12 hown hK hP 0 rfl rfl 0 (by decide) tf_X12_10 rfl dX12_crashes_116 ?_
    refine lv_iload_n hx hb dX12_crashes_119 rfl (lv_at hl 1 rfl) ?_
    refine lv_sipush (v := 772) hx hb dX12_crashes_120 (by decide) ?_
    refine lv_iadd hx hb dX12_crashes_123 ?_
    refine lv_iconst (v := 1) hx hb dX12_crashes_124 (by decide) ?_
    refine z_iast hx hb hK hP hD hS 1 rfl (fun z => w_X12_crashes h_t r_t F_t cI z a_memory a_order a_image a_well) (fun _ => rfl) dX12_crashes_125 hf (fun a7 H locs hf hP hD hS => ?_)
    refine lv_aload_n hx hb dX12_crashes_126 rfl (lv_at hl 0 rfl) ?_
    refine z_get (ci := 12) (C := RX12) (T := TX12) (N := 51) (v := .ref (r_t 0)) hx hb hts inT_X12 hown hK hP 0 rfl rfl 0 (by decide) tf_X12_10 rfl dX12_crashes_127 ?_
    refine lv_iload_n hx hb dX12_crashes_130 rfl (lv_at hl 1 rfl) ?_
    refine lv_sipush (v := 780) hx hb dX12_crashes_131 (by decide) ?_
    refine lv_iadd hx hb dX12_crashes_134 ?_
    refine lv_dup2_11 hx hb dX12_crashes_135 rfl rfl ?_
    refine z_iald hx hb hK hP 1 rfl dX12_crashes_136 hf (fun y8 hf => ?_)
    refine lv_iconst (v := 1) hx hb dX12_crashes_137 (by decide) ?_
    refine lv_iadd hx hb dX12_crashes_138 ?_
    refine z_iast hx hb hK hP hD hS 1 rfl (fun z => w_X12_crashes h_t r_t F_t cI z a_memory a_order a_image a_well) (fun _ => rfl) dX12_crashes_139 hf (fun a9 H locs hf hP hD hS => ?_)
    refine lv_iload_n hx hb dX12_crashes_140 rfl (lv_at hl 2 rfl) ?_
    exact hret (x2, F_t, a9, a_memory, a_image, a_well) _ _ _ _ hf hP hD hS dX12_crashes_141
  have L46 : ∀ (n46 : Nat) (x2 : Int32) (x3 : Int32) (F_t : Nat → Int32) (a_rows : Nat → Int32) (a_memory : Nat → Int32) (a_image : Nat → Int32) (a_well : Nat → Int32) (H : Heap) (locs : List Loc) (ls : Array Slot), m_X12_crashes_w46 a_order p1 (m_X12_crashes_j82 a_order p1) n46 x2 x3 F_t a_rows a_memory a_image a_well = some Rr → va_P D vwCl (w_X12_crashes h_t r_t F_t cI a_rows a_memory a_order a_image a_well) H → va_D A (w_X12_crashes h_t r_t F_t cI a_rows a_memory a_order a_image a_well) → va_S A s.heap H locs → lv_has ls 4 [(0, .ref h_t), (1, .int p1), (2, .int x2), (3, .int x3)] → W p l e rm_X12_crashes s m args below meth c H locs 0 0 Q (F0 m 46 ls []) := by
    intro n46
    induction n46 with
    | zero => intro x2 x3 F_t a_rows a_memory a_image a_well H locs ls hf; cases (show (none : Option _) = some Rr from hf)
    | succ n46 ih46 =>
      intro x2 x3 F_t a_rows a_memory a_image a_well H locs ls hf hP hD hS hl
      have hf := (m_X12_crashes_w46.eq_2 _ _ _ _ _ _ _ _ _ _ _).symm.trans hf
      refine lv_iload_n hx hb dX12_crashes_46 rfl (lv_at hl 3 rfl) ?_
      refine lv_bipush (v := 16) hx hb dX12_crashes_47 (by decide) ?_
      refine z_icmp_ge (tgt := 82) hx hb dX12_crashes_49 (by decide) hf (fun hf => ?_) (fun hf => ?_)
      · exact L82 x2 F_t a_rows a_memory a_image a_well _ _ _ hf hP hD hS (lv_sub hl [0, 1, 2] rfl)
      · refine lv_aload_n hx hb dX12_crashes_52 rfl (lv_at hl 0 rfl) ?_
        refine z_get (ci := 12) (C := RX12) (T := TX12) (N := 51) (v := .ref (r_t 0)) hx hb hts inT_X12 hown hK hP 0 rfl rfl 0 (by decide) tf_X12_10 rfl dX12_crashes_53 ?_
        refine lv_iload_n hx hb dX12_crashes_56 rfl (lv_at hl 1 rfl) ?_
        refine lv_bipush (v := 64) hx hb dX12_crashes_57 (by decide) ?_
        refine lv_iadd hx hb dX12_crashes_59 ?_
        refine lv_iload_n hx hb dX12_crashes_60 rfl (lv_at hl 3 rfl) ?_
        refine lv_iadd hx hb dX12_crashes_61 ?_
        refine lv_iconst (v := 0) hx hb dX12_crashes_62 (by decide) ?_
        refine z_iast hx hb hK hP hD hS 1 rfl (fun z => w_X12_crashes h_t r_t F_t cI z a_memory a_order a_image a_well) (fun _ => rfl) dX12_crashes_63 hf (fun a10 H locs hf hP hD hS => ?_)
        refine lv_aload_n hx hb dX12_crashes_64 rfl (lv_at hl 0 rfl) ?_
        refine z_get (ci := 12) (C := RX12) (T := TX12) (N := 51) (v := .ref (r_t 0)) hx hb hts inT_X12 hown hK hP 0 rfl rfl 0 (by decide) tf_X12_10 rfl dX12_crashes_65 ?_
        refine lv_iload_n hx hb dX12_crashes_68 rfl (lv_at hl 1 rfl) ?_
        refine lv_bipush (v := 80) hx hb dX12_crashes_69 (by decide) ?_
        refine lv_iadd hx hb dX12_crashes_71 ?_
        refine lv_iload_n hx hb dX12_crashes_72 rfl (lv_at hl 3 rfl) ?_
        refine lv_iadd hx hb dX12_crashes_73 ?_
        refine lv_iconst (v := 0) hx hb dX12_crashes_74 (by decide) ?_
        refine z_iast hx hb hK hP hD hS 1 rfl (fun z => w_X12_crashes h_t r_t F_t cI z a_memory a_order a_image a_well) (fun _ => rfl) dX12_crashes_75 hf (fun a11 H locs hf hP hD hS => ?_)
        refine z_iinc (k0 := 3) (fun z => [(3, .int z), (0, .ref h_t), (1, .int p1), (2, .int x2)]) hx hb dX12_crashes_76 hl rfl (by decide) (by decide) (fun _ => rfl) hf (fun v12 ls hf hl => ?_)
        refine lv_goto (tgt := 46) hx hb dX12_crashes_79 (by decide) ?_
        exact ih46 x2 v12 F_t a11 a_memory a_image a_well _ _ _ hf hP hD hS (lv_sub hl [1, 2, 3, 0] rfl)
  have L44 : ∀ (x2 : Int32) (F_t : Nat → Int32) (a_rows : Nat → Int32) (a_memory : Nat → Int32) (a_image : Nat → Int32) (a_well : Nat → Int32) (H : Heap) (locs : List Loc) (ls : Array Slot), m_X12_crashes_j44 a_order p1 x2 F_t a_rows a_memory a_image a_well = some Rr → va_P D vwCl (w_X12_crashes h_t r_t F_t cI a_rows a_memory a_order a_image a_well) H → va_D A (w_X12_crashes h_t r_t F_t cI a_rows a_memory a_order a_image a_well) → va_S A s.heap H locs → lv_has ls 4 [(0, .ref h_t), (1, .int p1), (2, .int x2)] → W p l e rm_X12_crashes s m args below meth c H locs 0 0 Q (F0 m 44 ls []) := by
    intro x2 F_t a_rows a_memory a_image a_well H locs ls hf hP hD hS hl
    have hf := (m_X12_crashes_j44.eq_1 _ _ _ _ _ _ _ _).symm.trans hf
    refine lv_iconst (v := 0) hx hb dX12_crashes_44 (by decide) ?_
    refine lv_istore_n (lv' := [(3, .int 0), (0, .ref h_t), (1, .int p1), (2, .int x2)]) hx hb dX12_crashes_45 rfl hl (by decide) rfl (fun ls hl => ?_)
    exact L46 fuelN x2 0 F_t a_rows a_memory a_image a_well _ _ _ hf hP hD hS (lv_sub hl [1, 2, 3, 0] rfl)
  have L18 : ∀ (n18 : Nat) (x2 : Int32) (x3 : Int32) (F_t : Nat → Int32) (a_rows : Nat → Int32) (a_memory : Nat → Int32) (a_image : Nat → Int32) (a_well : Nat → Int32) (H : Heap) (locs : List Loc) (ls : Array Slot), m_X12_crashes_w18 a_order p1 (m_X12_crashes_j44 a_order p1) n18 x2 x3 F_t a_rows a_memory a_image a_well = some Rr → va_P D vwCl (w_X12_crashes h_t r_t F_t cI a_rows a_memory a_order a_image a_well) H → va_D A (w_X12_crashes h_t r_t F_t cI a_rows a_memory a_order a_image a_well) → va_S A s.heap H locs → lv_has ls 4 [(0, .ref h_t), (1, .int p1), (2, .int x2), (3, .int x3)] → W p l e rm_X12_crashes s m args below meth c H locs 0 0 Q (F0 m 18 ls []) := by
    intro n18
    induction n18 with
    | zero => intro x2 x3 F_t a_rows a_memory a_image a_well H locs ls hf; cases (show (none : Option _) = some Rr from hf)
    | succ n18 ih18 =>
      intro x2 x3 F_t a_rows a_memory a_image a_well H locs ls hf hP hD hS hl
      have hf := (m_X12_crashes_w18.eq_2 _ _ _ _ _ _ _ _ _ _ _).symm.trans hf
      refine lv_iload_n hx hb dX12_crashes_18 rfl (lv_at hl 3 rfl) ?_
      refine lv_bipush (v := 64) hx hb dX12_crashes_19 (by decide) ?_
      refine z_icmp_ge (tgt := 44) hx hb dX12_crashes_21 (by decide) hf (fun hf => ?_) (fun hf => ?_)
      · exact L44 x2 F_t a_rows a_memory a_image a_well _ _ _ hf hP hD hS (lv_sub hl [0, 1, 2] rfl)
      · refine lv_aload_n hx hb dX12_crashes_24 rfl (lv_at hl 0 rfl) ?_
        refine z_get (ci := 12) (C := RX12) (T := TX12) (N := 51) (v := .ref (r_t 0)) hx hb hts inT_X12 hown hK hP 0 rfl rfl 0 (by decide) tf_X12_10 rfl dX12_crashes_25 ?_
        refine lv_iload_n hx hb dX12_crashes_28 rfl (lv_at hl 1 rfl) ?_
        refine lv_iload_n hx hb dX12_crashes_29 rfl (lv_at hl 3 rfl) ?_
        refine lv_iadd hx hb dX12_crashes_30 ?_
        refine lv_aload_n hx hb dX12_crashes_31 rfl (lv_at hl 0 rfl) ?_
        refine z_get (ci := 12) (C := RX12) (T := TX12) (N := 51) (v := .ref (r_t 25)) hx hb hts inT_X12 hown hK hP 0 rfl rfl 25 (by decide) tf_X12_45 rfl dX12_crashes_32 ?_
        refine lv_iload_n hx hb dX12_crashes_35 rfl (lv_at hl 3 rfl) ?_
        refine z_iald hx hb hK hP 4 rfl dX12_crashes_36 hf (fun y13 hf => ?_)
        refine z_iast hx hb hK hP hD hS 1 rfl (fun z => w_X12_crashes h_t r_t F_t cI z a_memory a_order a_image a_well) (fun _ => rfl) dX12_crashes_37 hf (fun a14 H locs hf hP hD hS => ?_)
        refine z_iinc (k0 := 3) (fun z => [(3, .int z), (0, .ref h_t), (1, .int p1), (2, .int x2)]) hx hb dX12_crashes_38 hl rfl (by decide) (by decide) (fun _ => rfl) hf (fun v15 ls hf hl => ?_)
        refine lv_goto (tgt := 18) hx hb dX12_crashes_41 (by decide) ?_
        exact ih18 x2 v15 F_t a14 a_memory a_image a_well _ _ _ hf hP hD hS (lv_sub hl [1, 2, 3, 0] rfl)
  refine lv_aload_n hx hb dX12_crashes_0 rfl (lv_at hl 0 rfl) ?_
  refine lv_iload_n hx hb dX12_crashes_1 rfl (lv_at hl 1 rfl) ?_
  obtain ⟨u1, hu1, hf⟩ := bd_some hf
  refine z_cv (ws1 := w_X12_crashes h_t r_t u1.1 cI a_rows u1.2.1 a_order a_image u1.2.2) (wr := List.filterMap (fun i : Nat => (w_X12_crashes h_t r_t F_t cI a_rows a_memory a_order a_image a_well)[i]?) [3, 4]) (z_rV (rest := []) hx hb hml hown hcx hl.1 (c_X12_laysWell l D cI h_t r_t F_t a_rows a_memory a_well p1 u1 hu1 _) tl_X12_197 ti_X12_laysWell tz_X12_laysWell tn_X12 tc_X12_laysWell tm_X12_laysWell rfl rfl ⟨Nat.le_of_ble_eq_true rfl, Nat.le_of_ble_eq_true rfl⟩ hK hP hD [0, 1, 2, 5] rfl rfl 0 rfl rfl rfl rfl (Nat.le_of_ble_eq_true rfl) dX12_crashes_2 ⟨Nat.zero_le _, Nat.zero_le _⟩) hP hD hS hA [0, 1, 2, 5] [3, 4] [2, 3, 4, 0, 1, 5] rfl rfl rfl (by decide) rfl rfl (fun H locs hP hD hS => ?_)
  refine lv_aload_n hx hb dX12_crashes_5 rfl (lv_at hl 0 rfl) ?_
  refine lv_iload_n hx hb dX12_crashes_6 rfl (lv_at hl 1 rfl) ?_
  obtain ⟨u2, hu2, hf⟩ := bd_some hf
  refine z_ci (ws1 := w_X12_crashes h_t r_t u1.1 cI a_rows u1.2.1 a_order u2.2 u1.2.2) (wr := List.filterMap (fun i : Nat => (w_X12_crashes h_t r_t u1.1 cI a_rows u1.2.1 a_order a_image u1.2.2)[i]?) [2]) (z_rV (rest := []) hx hb hml hown hcx hl.1 (c_X12_fateHere l D cI h_t r_t u1.1 a_rows a_order a_image u1.2.2 p1 u2 hu2 _) tl_X12_203 ti_X12_fateHere tz_X12_fateHere tn_X12 tc_X12_fateHere tm_X12_fateHere rfl rfl ⟨Nat.le_of_ble_eq_true rfl, Nat.le_of_ble_eq_true rfl⟩ hK hP hD [0, 1, 3, 4, 5] rfl rfl 0 rfl rfl rfl rfl (Nat.le_of_ble_eq_true rfl) dX12_crashes_7 ⟨Nat.zero_le _, Nat.zero_le _⟩) hP hD hS hA [0, 1, 3, 4, 5] [2] [1, 2, 0, 3, 4, 5] rfl rfl rfl (by decide) rfl rfl (fun H locs hP hD hS => ?_)
  refine lv_istore_n (lv' := [(2, .int u2.1), (0, .ref h_t), (1, .int p1)]) hx hb dX12_crashes_10 rfl hl (by decide) rfl (fun ls hl => ?_)
  refine lv_aload_n hx hb dX12_crashes_11 rfl (lv_at hl 1 rfl) ?_
  refine lv_iload_n hx hb dX12_crashes_12 rfl (lv_at hl 2 rfl) ?_
  obtain ⟨u3, hu3, hf⟩ := bd_some hf
  refine z_cv (ws1 := w_X12_crashes h_t r_t u1.1 cI a_rows u1.2.1 a_order u3 u1.2.2) (wr := List.filterMap (fun i : Nat => (w_X12_crashes h_t r_t u1.1 cI a_rows u1.2.1 a_order u2.2 u1.2.2)[i]?) [2, 5]) (z_rV (rest := []) hx hb hml hown hcx hl.1 (c_X12_laysImage l D cI h_t r_t u1.1 a_rows a_order u2.2 p1 u3 hu3 _) tl_X12_185 ti_X12_laysImage tz_X12_laysImage tn_X12 tc_X12_laysImage tm_X12_laysImage rfl rfl ⟨Nat.le_of_ble_eq_true rfl, Nat.le_of_ble_eq_true rfl⟩ hK hP hD [0, 1, 3, 4] rfl rfl 0 rfl rfl rfl rfl (Nat.le_of_ble_eq_true rfl) dX12_crashes_13 ⟨Nat.zero_le _, Nat.zero_le _⟩) hP hD hS hA [0, 1, 3, 4] [2, 5] [2, 3, 0, 4, 5, 1] rfl rfl rfl (by decide) rfl rfl (fun H locs hP hD hS => ?_)
  refine lv_iconst (v := 0) hx hb dX12_crashes_16 (by decide) ?_
  refine lv_istore_n (lv' := [(3, .int 0), (2, .int u2.1), (0, .ref h_t), (1, .int p1)]) hx hb dX12_crashes_17 rfl hl (by decide) rfl (fun ls hl => ?_)
  exact L18 fuelN u2.1 0 u1.1 a_rows u1.2.1 u3 u1.2.2 _ _ _ hf hP hD hS (lv_sub hl [2, 3, 1, 0] rfl)
abbrev w_X12_isOrder (h_t : Nat) (r_t : Nat → Nat) (F_t : Nat → Int32) (cI : ClassId) (a_rows : Nat → Int32) : va_W := [(h_t, .inr (12, o_X12 r_t F_t)), ((r_t 0), .inl (cI, 66100, .inl a_rows))]
abbrev rm_X12_isOrder : Room := { frames := 1, cells := 0, slots := 0, locals := 24 }
def m_X12_isOrder (a_rows : Nat → Int32) (p1 : Int32) : Option (Int32) :=
  if p1 < 0 then (
  some 0)
  else (
  bd (m_X12_ordersOf a_rows 0) fun u1 =>
  if 0 ≤ (lg_cmp p1.toInt64 u1) then (
  some 0)
  else (
  some 1))
set_option maxHeartbeats 4000000 in
set_option maxRecDepth 100000 in
theorem c_X12_isOrder (l : Launch) (D : va_G) (cI : ClassId) (h_t : Nat) (r_t : Nat → Nat) (F_t : Nat → Int32) (a_rows : Nat → Int32) (p1 : Int32) (Rr : Int32) (hf : m_X12_isOrder a_rows p1 = some Rr) : CTi l yX12_isOrder (Cond.code yX12_isOrder cX12_isOrder 2 (some .boolean)) rm_X12_isOrder D cI [.ref h_t, .int p1] (w_X12_isOrder h_t r_t F_t cI a_rows) Rr (w_X12_isOrder h_t r_t F_t cI a_rows) := by
  refine z_begin_z (own := RX12) (ρ := Int32) (fun u => w_X12_isOrder h_t r_t F_t cI a_rows) (fun u => u) (by decide +kernel) rfl (Nat.le_of_ble_eq_true rfl) ?_
  intro p e s m args below meth c ls Q A hx hb hml hts hcx hown hK hA hP hD hS hl hret
  have hl : lv_has ls 2 [(0, .ref h_t), (1, .int p1)] := hl
  have hf := (m_X12_isOrder.eq_1 _ _).symm.trans hf
  refine lv_iload_n hx hb dX12_isOrder_0 rfl (lv_at hl 1 rfl) ?_
  refine z_if_lt (tgt := 19) hx hb dX12_isOrder_1 (by decide) hf (fun hf => ?_) (fun hf => ?_)
  · refine lv_iconst (v := 0) hx hb dX12_isOrder_19 (by decide) ?_
    exact hret 0 _ _ _ _ (Or.inl rfl) hf hP hD hS dX12_isOrder_20
  · refine lv_iload_n hx hb dX12_isOrder_4 rfl (lv_at hl 1 rfl) ?_
    refine lv_i2l hx hb dX12_isOrder_5 rfl ?_
    refine lv_aload_n hx hb dX12_isOrder_6 rfl (lv_at hl 0 rfl) ?_
    refine lv_iconst (v := 0) hx hb dX12_isOrder_7 (by decide) ?_
    obtain ⟨u1, hu1, hf⟩ := bd_some hf
    refine z_cl (ws1 := w_X12_isOrder h_t r_t F_t cI a_rows) (wr := List.filterMap (fun i : Nat => (w_X12_isOrder h_t r_t F_t cI a_rows)[i]?) []) (z_rV (rest := [.long p1.toInt64]) hx hb hml hown hcx hl.1 (c_X12_ordersOf l D cI h_t r_t F_t a_rows 0 u1 hu1 _) tl_X12_188 ti_X12_ordersOf tz_X12_ordersOf tn_X12 tc_X12_ordersOf tm_X12_ordersOf rfl rfl ⟨Nat.le_of_ble_eq_true rfl, Nat.le_of_ble_eq_true rfl⟩ hK hP hD [0, 1] rfl rfl 0 rfl rfl rfl rfl (Nat.le_of_ble_eq_true rfl) dX12_isOrder_8 ⟨Nat.zero_le _, Nat.zero_le _⟩) hP hD hS hA [0, 1] [] [0, 1] rfl rfl rfl (by decide) rfl rfl (fun H locs hP hD hS => ?_)
    refine W.lcmp hx hb dX12_isOrder_11 ?_
    refine z_if_ge (tgt := 19) hx hb dX12_isOrder_12 (by decide) hf (fun hf => ?_) (fun hf => ?_)
    · refine lv_iconst (v := 0) hx hb dX12_isOrder_19 (by decide) ?_
      exact hret 0 _ _ _ _ (Or.inl rfl) hf hP hD hS dX12_isOrder_20
    · refine lv_iconst (v := 1) hx hb dX12_isOrder_15 (by decide) ?_
      refine lv_goto (tgt := 20) hx hb dX12_isOrder_16 (by decide) ?_
      exact hret 1 _ _ _ _ (Or.inr rfl) hf hP hD hS dX12_isOrder_20
abbrev w_X12_crash (h_t : Nat) (r_t : Nat → Nat) (F_t : Nat → Int32) (cI : ClassId) (a_rows : Nat → Int32) (a_refused : Nat → Int32) (a_memory : Nat → Int32) (a_order : Nat → Int32) (a_image : Nat → Int32) (a_well : Nat → Int32) : va_W := [(h_t, .inr (12, o_X12 r_t F_t)), ((r_t 0), .inl (cI, 66100, .inl a_rows)), ((r_t 3), .inl (cI, 6, .inl a_refused)), ((r_t 23), .inl (cI, 64, .inl a_memory)), ((r_t 24), .inl (cI, 16, .inl a_order)), ((r_t 25), .inl (cI, 64, .inl a_image)), ((r_t 26), .inl (cI, 88, .inl a_well))]
abbrev rm_X12_crash : Room := { frames := 4, cells := 0, slots := 0, locals := 93 }
def m_X12_crash_j25 (p1 : Int32) (F_t : Nat → Int32) (a_rows : Nat → Int32) (a_refused : Nat → Int32) (a_memory : Nat → Int32) (a_order : Nat → Int32) (a_image : Nat → Int32) (a_well : Nat → Int32) : Option (Int32 × (Nat → Int32) × (Nat → Int32) × (Nat → Int32) × (Nat → Int32) × (Nat → Int32) × (Nat → Int32) × (Nat → Int32)) :=
  bd (m_X12_refuses a_refused 1) fun u3 =>
  some (u3.1, F_t, a_rows, u3.2, a_memory, a_order, a_image, a_well)
def m_X12_crash (F_t : Nat → Int32) (a_rows : Nat → Int32) (a_refused : Nat → Int32) (a_memory : Nat → Int32) (a_order : Nat → Int32) (a_image : Nat → Int32) (a_well : Nat → Int32) (p1 : Int32) : Option (Int32 × (Nat → Int32) × (Nat → Int32) × (Nat → Int32) × (Nat → Int32) × (Nat → Int32) × (Nat → Int32) × (Nat → Int32)) :=
  nm (upd F_t 4 0) fun F1 =>
  rd a_rows 66100 772 fun y2 =>
  if y2 = 1 then (
  m_X12_crash_j25 p1 F1 a_rows a_refused a_memory a_order a_image a_well)
  else (
  bd (m_X12_isOrder a_rows p1) fun u4 =>
  if u4 = 0 then (
  m_X12_crash_j25 p1 F1 a_rows a_refused a_memory a_order a_image a_well)
  else (
  bd (m_X12_tries a_rows) fun u5 =>
  bd (m_X12_laysOrder u5 a_order 786 p1) fun u6 =>
  bd (m_X12_crashes F1 u5 a_memory u6 a_image a_well 786) fun u7 =>
  bd (m_X12_isDone u7.2.1 u7.2.2.1 a_refused u7.1) fun u8 =>
  some (u8.1, u8.2.1, u8.2.2.1, u8.2.2.2, u7.2.2.2.1, u6, u7.2.2.2.2.1, u7.2.2.2.2.2)))
set_option maxHeartbeats 4000000 in
set_option maxRecDepth 100000 in
theorem c_X12_crash (l : Launch) (D : va_G) (cI : ClassId) (h_t : Nat) (r_t : Nat → Nat) (F_t : Nat → Int32) (a_rows : Nat → Int32) (a_refused : Nat → Int32) (a_memory : Nat → Int32) (a_order : Nat → Int32) (a_image : Nat → Int32) (a_well : Nat → Int32) (p1 : Int32) (Rr : Int32 × (Nat → Int32) × (Nat → Int32) × (Nat → Int32) × (Nat → Int32) × (Nat → Int32) × (Nat → Int32) × (Nat → Int32)) (hf : m_X12_crash F_t a_rows a_refused a_memory a_order a_image a_well p1 = some Rr) : CTi l yX12_crash (Cond.code yX12_crash cX12_crash 2 (some .int)) rm_X12_crash D cI [.ref h_t, .int p1] (w_X12_crash h_t r_t F_t cI a_rows a_refused a_memory a_order a_image a_well) Rr.1 (w_X12_crash h_t r_t Rr.2.1 cI Rr.2.2.1 Rr.2.2.2.1 Rr.2.2.2.2.1 Rr.2.2.2.2.2.1 Rr.2.2.2.2.2.2.1 Rr.2.2.2.2.2.2.2) := by
  refine z_begin_i (own := RX12) (ρ := Int32 × (Nat → Int32) × (Nat → Int32) × (Nat → Int32) × (Nat → Int32) × (Nat → Int32) × (Nat → Int32) × (Nat → Int32)) (fun u => w_X12_crash h_t r_t u.2.1 cI u.2.2.1 u.2.2.2.1 u.2.2.2.2.1 u.2.2.2.2.2.1 u.2.2.2.2.2.2.1 u.2.2.2.2.2.2.2) (fun u => u.1) (by decide +kernel) rfl (Nat.le_of_ble_eq_true rfl) ?_
  intro p e s m args below meth c ls Q A hx hb hml hts hcx hown hK hA hP hD hS hl hret
  have hl : lv_has ls 2 [(0, .ref h_t), (1, .int p1)] := hl
  have hf := (m_X12_crash.eq_1 _ _ _ _ _ _ _ _).symm.trans hf
  have L25 : ∀ (F_t : Nat → Int32) (a_rows : Nat → Int32) (a_refused : Nat → Int32) (a_memory : Nat → Int32) (a_order : Nat → Int32) (a_image : Nat → Int32) (a_well : Nat → Int32) (H : Heap) (locs : List Loc) (ls : Array Slot), m_X12_crash_j25 p1 F_t a_rows a_refused a_memory a_order a_image a_well = some Rr → va_P D vwCl (w_X12_crash h_t r_t F_t cI a_rows a_refused a_memory a_order a_image a_well) H → va_D A (w_X12_crash h_t r_t F_t cI a_rows a_refused a_memory a_order a_image a_well) → va_S A s.heap H locs → lv_has ls 2 [(0, .ref h_t)] → W p l e rm_X12_crash s m args below meth c H locs 0 0 Q (F0 m 25 ls []) := by
    intro F_t a_rows a_refused a_memory a_order a_image a_well H locs ls hf hP hD hS hl
    have hf := (m_X12_crash_j25.eq_1 _ _ _ _ _ _ _ _).symm.trans hf
    refine lv_aload_n hx hb dX12_crash_25 rfl (lv_at hl 0 rfl) ?_
    refine lv_iconst (v := 1) hx hb dX12_crash_26 (by decide) ?_
    obtain ⟨u3, hu3, hf⟩ := bd_some hf
    refine z_ci (ws1 := w_X12_crash h_t r_t F_t cI a_rows u3.2 a_memory a_order a_image a_well) (wr := List.filterMap (fun i : Nat => (w_X12_crash h_t r_t F_t cI a_rows a_refused a_memory a_order a_image a_well)[i]?) [1, 3, 4, 5, 6]) (z_rV (rest := []) hx hb hml hown hcx hl.1 (c_X12_refuses l D cI h_t r_t F_t a_refused 1 u3 hu3 _) tl_X12_345 ti_X12_refuses tz_X12_refuses tn_X12 tc_X12_refuses tm_X12_refuses rfl rfl ⟨Nat.le_of_ble_eq_true rfl, Nat.le_of_ble_eq_true rfl⟩ hK hP hD [0, 2] rfl rfl 0 rfl rfl rfl rfl (Nat.le_of_ble_eq_true rfl) dX12_crash_27 ⟨Nat.zero_le _, Nat.zero_le _⟩) hP hD hS hA [0, 2] [1, 3, 4, 5, 6] [5, 0, 6, 1, 2, 3, 4] rfl rfl rfl (by decide) rfl rfl (fun H locs hP hD hS => ?_)
    exact hret (u3.1, F_t, a_rows, u3.2, a_memory, a_order, a_image, a_well) _ _ _ _ hf hP hD hS dX12_crash_30
  refine lv_aload_n hx hb dX12_crash_0 rfl (lv_at hl 0 rfl) ?_
  refine lv_iconst (v := 0) hx hb dX12_crash_1 (by decide) ?_
  refine z_put (ci := 12) (C := RX12) (T := TX12) (N := 51) hx hb hts inT_X12 tyX12 tyX12_ok nmX12 hown hK hP hD hS 0 rfl rfl 4 (by decide) tf_X12_63 rfl (by decide +kernel) (Nat.le_of_ble_eq_true rfl) (o_X12 r_t) (o_X12_s4 _ _ _) (fun z => w_X12_crash h_t r_t z cI a_rows a_refused a_memory a_order a_image a_well) (fun _ => rfl) dX12_crash_2 hf (fun F1 H locs hf hP hD hS => ?_)
  refine lv_aload_n hx hb dX12_crash_5 rfl (lv_at hl 0 rfl) ?_
  refine z_get (ci := 12) (C := RX12) (T := TX12) (N := 51) (v := .ref (r_t 0)) hx hb hts inT_X12 hown hK hP 0 rfl rfl 0 (by decide) tf_X12_10 rfl dX12_crash_6 ?_
  refine lv_sipush (v := 772) hx hb dX12_crash_9 (by decide) ?_
  refine z_iald hx hb hK hP 1 rfl dX12_crash_12 hf (fun y2 hf => ?_)
  refine lv_iconst (v := 1) hx hb dX12_crash_13 (by decide) ?_
  refine z_icmp_eq (tgt := 25) hx hb dX12_crash_14 (by decide) hf (fun hf => ?_) (fun hf => ?_)
  · exact L25 F1 a_rows a_refused a_memory a_order a_image a_well _ _ _ hf hP hD hS (lv_sub hl [0] rfl)
  · refine lv_aload_n hx hb dX12_crash_17 rfl (lv_at hl 0 rfl) ?_
    refine lv_iload_n hx hb dX12_crash_18 rfl (lv_at hl 1 rfl) ?_
    obtain ⟨u4, hu4, hf⟩ := bd_some hf
    refine z_ci (ws1 := w_X12_crash h_t r_t F1 cI a_rows a_refused a_memory a_order a_image a_well) (wr := List.filterMap (fun i : Nat => (w_X12_crash h_t r_t F1 cI a_rows a_refused a_memory a_order a_image a_well)[i]?) [2, 3, 4, 5, 6]) (z_rV (rest := []) hx hb hml hown hcx hl.1 (c_X12_isOrder l D cI h_t r_t F1 a_rows p1 u4 hu4 _) tl_X12_357 ti_X12_isOrder tz_X12_isOrder tn_X12 tc_X12_isOrder tm_X12_isOrder rfl rfl ⟨Nat.le_of_ble_eq_true rfl, Nat.le_of_ble_eq_true rfl⟩ hK hP hD [0, 1] rfl rfl 0 rfl rfl rfl rfl (Nat.le_of_ble_eq_true rfl) dX12_crash_19 ⟨Nat.zero_le _, Nat.zero_le _⟩) hP hD hS hA [0, 1] [2, 3, 4, 5, 6] [5, 6, 0, 1, 2, 3, 4] rfl rfl rfl (by decide) rfl rfl (fun H locs hP hD hS => ?_)
    refine z_if_ne (tgt := 31) hx hb dX12_crash_22 (by decide) hf (fun hf => ?_) (fun hf => ?_)
    · refine lv_aload_n hx hb dX12_crash_31 rfl (lv_at hl 0 rfl) ?_
      obtain ⟨u5, hu5, hf⟩ := bd_some hf
      refine z_cv (ws1 := w_X12_crash h_t r_t F1 cI u5 a_refused a_memory a_order a_image a_well) (wr := List.filterMap (fun i : Nat => (w_X12_crash h_t r_t F1 cI a_rows a_refused a_memory a_order a_image a_well)[i]?) [2, 3, 4, 5, 6]) (z_rV (rest := []) hx hb hml hown hcx hl.1 (c_X12_tries l D cI h_t r_t F1 a_rows u5 hu5 _) tl_X12_218 ti_X12_tries tz_X12_tries tn_X12 tc_X12_tries tm_X12_tries rfl rfl ⟨Nat.le_of_ble_eq_true rfl, Nat.le_of_ble_eq_true rfl⟩ hK hP hD [0, 1] rfl rfl 0 rfl rfl rfl rfl (Nat.le_of_ble_eq_true rfl) dX12_crash_32 ⟨Nat.zero_le _, Nat.zero_le _⟩) hP hD hS hA [0, 1] [2, 3, 4, 5, 6] [5, 6, 0, 1, 2, 3, 4] rfl rfl rfl (by decide) rfl rfl (fun H locs hP hD hS => ?_)
      refine lv_aload_n hx hb dX12_crash_35 rfl (lv_at hl 0 rfl) ?_
      refine lv_sipush (v := 786) hx hb dX12_crash_36 (by decide) ?_
      refine lv_iload_n hx hb dX12_crash_39 rfl (lv_at hl 1 rfl) ?_
      obtain ⟨u6, hu6, hf⟩ := bd_some hf
      refine z_cv (ws1 := w_X12_crash h_t r_t F1 cI u5 a_refused a_memory u6 a_image a_well) (wr := List.filterMap (fun i : Nat => (w_X12_crash h_t r_t F1 cI u5 a_refused a_memory a_order a_image a_well)[i]?) [2, 3, 5, 6]) (z_rV (rest := []) hx hb hml hown hcx hl.1 (c_X12_laysOrder l D cI h_t r_t F1 u5 a_order 786 p1 u6 hu6 _) tl_X12_360 ti_X12_laysOrder tz_X12_laysOrder tn_X12 tc_X12_laysOrder tm_X12_laysOrder rfl rfl ⟨Nat.le_of_ble_eq_true rfl, Nat.le_of_ble_eq_true rfl⟩ hK hP hD [0, 1, 4] rfl rfl 0 rfl rfl rfl rfl (Nat.le_of_ble_eq_true rfl) dX12_crash_40 ⟨Nat.zero_le _, Nat.zero_le _⟩) hP hD hS hA [0, 1, 4] [2, 3, 5, 6] [4, 5, 0, 1, 6, 2, 3] rfl rfl rfl (by decide) rfl rfl (fun H locs hP hD hS => ?_)
      refine lv_aload_n hx hb dX12_crash_43 rfl (lv_at hl 0 rfl) ?_
      refine lv_aload_n hx hb dX12_crash_44 rfl (lv_at hl 0 rfl) ?_
      refine lv_sipush (v := 786) hx hb dX12_crash_45 (by decide) ?_
      obtain ⟨u7, hu7, hf⟩ := bd_some hf
      refine z_ci (ws1 := w_X12_crash h_t r_t u7.2.1 cI u7.2.2.1 a_refused u7.2.2.2.1 u6 u7.2.2.2.2.1 u7.2.2.2.2.2) (wr := List.filterMap (fun i : Nat => (w_X12_crash h_t r_t F1 cI u5 a_refused a_memory u6 a_image a_well)[i]?) [2]) (z_rV (rest := [.ref h_t]) hx hb hml hown hcx hl.1 (c_X12_crashes l D cI h_t r_t F1 u5 a_memory u6 a_image a_well 786 u7 hu7 _) tl_X12_363 ti_X12_crashes tz_X12_crashes tn_X12 tc_X12_crashes tm_X12_crashes rfl rfl ⟨Nat.le_of_ble_eq_true rfl, Nat.le_of_ble_eq_true rfl⟩ hK hP hD [0, 1, 3, 4, 5, 6] rfl rfl 0 rfl rfl rfl rfl (Nat.le_of_ble_eq_true rfl) dX12_crash_48 ⟨Nat.zero_le _, Nat.zero_le _⟩) hP hD hS hA [0, 1, 3, 4, 5, 6] [2] [1, 2, 0, 3, 4, 5, 6] rfl rfl rfl (by decide) rfl rfl (fun H locs hP hD hS => ?_)
      obtain ⟨u8, hu8, hf⟩ := bd_some hf
      refine z_ci (ws1 := w_X12_crash h_t r_t u8.2.1 cI u8.2.2.1 u8.2.2.2 u7.2.2.2.1 u6 u7.2.2.2.2.1 u7.2.2.2.2.2) (wr := List.filterMap (fun i : Nat => (w_X12_crash h_t r_t u7.2.1 cI u7.2.2.1 a_refused u7.2.2.2.1 u6 u7.2.2.2.2.1 u7.2.2.2.2.2)[i]?) [3, 4, 5, 6]) (z_rV (rest := []) hx hb hml hown hcx hl.1 (c_X12_isDone l D cI h_t r_t u7.2.1 u7.2.2.1 a_refused u7.1 u8 hu8 _) tl_X12_354 ti_X12_isDone tz_X12_isDone tn_X12 tc_X12_isDone tm_X12_isDone rfl rfl ⟨Nat.le_of_ble_eq_true rfl, Nat.le_of_ble_eq_true rfl⟩ hK hP hD [0, 1, 2] rfl rfl 0 rfl rfl rfl rfl (Nat.le_of_ble_eq_true rfl) dX12_crash_51 ⟨Nat.zero_le _, Nat.zero_le _⟩) hP hD hS hA [0, 1, 2] [3, 4, 5, 6] [4, 5, 6, 0, 1, 2, 3] rfl rfl rfl (by decide) rfl rfl (fun H locs hP hD hS => ?_)
      exact hret (u8.1, u8.2.1, u8.2.2.1, u8.2.2.2, u7.2.2.2.1, u6, u7.2.2.2.2.1, u7.2.2.2.2.2) _ _ _ _ hf hP hD hS dX12_crash_54
    · exact L25 F1 a_rows a_refused a_memory a_order a_image a_well _ _ _ hf hP hD hS (lv_sub hl [0] rfl)
abbrev w_X12_recover (h_t : Nat) (r_t : Nat → Nat) (F_t : Nat → Int32) (cI : ClassId) (a_rows : Nat → Int32) (a_refused : Nat → Int32) (a_address : Nat → Int32) (a_number : Nat → Int32) (a_memory : Nat → Int32) : va_W := [(h_t, .inr (12, o_X12 r_t F_t)), ((r_t 0), .inl (cI, 66100, .inl a_rows)), ((r_t 3), .inl (cI, 6, .inl a_refused)), ((r_t 17), .inl (cI, 64, .inl a_address)), ((r_t 18), .inl (cI, 64, .inl a_number)), ((r_t 23), .inl (cI, 64, .inl a_memory))]
abbrev rm_X12_recover : Room := { frames := 5, cells := 0, slots := 0, locals := 118 }
def m_X12_recover (F_t : Nat → Int32) (a_rows : Nat → Int32) (a_refused : Nat → Int32) (a_address : Nat → Int32) (a_number : Nat → Int32) (a_memory : Nat → Int32) : Option (Int32 × (Nat → Int32) × (Nat → Int32) × (Nat → Int32) × (Nat → Int32) × (Nat → Int32) × (Nat → Int32)) :=
  nm (upd F_t 4 0) fun F1 =>
  rd a_rows 66100 772 fun y2 =>
  if y2 = 1 then (
  bd (m_X12_tries a_rows) fun u3 =>
  bd (m_X12_recovery F1 u3 a_address a_number a_memory 786) fun u4 =>
  rd u4.2.1 66100 1560 fun y5 =>
  bd (m_X12_isDone u4.1 u4.2.1 a_refused y5) fun u6 =>
  some (u6.1, u6.2.1, u6.2.2.1, u6.2.2.2, u4.2.2.1, u4.2.2.2.1, u4.2.2.2.2))
  else (
  bd (m_X12_refuses a_refused 1) fun u7 =>
  some (u7.1, F1, a_rows, u7.2, a_address, a_number, a_memory))
set_option maxHeartbeats 4000000 in
set_option maxRecDepth 100000 in
theorem c_X12_recover (l : Launch) (D : va_G) (cI : ClassId) (h_t : Nat) (r_t : Nat → Nat) (F_t : Nat → Int32) (a_rows : Nat → Int32) (a_refused : Nat → Int32) (a_address : Nat → Int32) (a_number : Nat → Int32) (a_memory : Nat → Int32) (Rr : Int32 × (Nat → Int32) × (Nat → Int32) × (Nat → Int32) × (Nat → Int32) × (Nat → Int32) × (Nat → Int32)) (hf : m_X12_recover F_t a_rows a_refused a_address a_number a_memory = some Rr) : CTi l yX12_recover (Cond.code yX12_recover cX12_recover 1 (some .int)) rm_X12_recover D cI [.ref h_t] (w_X12_recover h_t r_t F_t cI a_rows a_refused a_address a_number a_memory) Rr.1 (w_X12_recover h_t r_t Rr.2.1 cI Rr.2.2.1 Rr.2.2.2.1 Rr.2.2.2.2.1 Rr.2.2.2.2.2.1 Rr.2.2.2.2.2.2) := by
  refine z_begin_i (own := RX12) (ρ := Int32 × (Nat → Int32) × (Nat → Int32) × (Nat → Int32) × (Nat → Int32) × (Nat → Int32) × (Nat → Int32)) (fun u => w_X12_recover h_t r_t u.2.1 cI u.2.2.1 u.2.2.2.1 u.2.2.2.2.1 u.2.2.2.2.2.1 u.2.2.2.2.2.2) (fun u => u.1) (by decide +kernel) rfl (Nat.le_of_ble_eq_true rfl) ?_
  intro p e s m args below meth c ls Q A hx hb hml hts hcx hown hK hA hP hD hS hl hret
  have hl : lv_has ls 1 [(0, .ref h_t)] := hl
  have hf := (m_X12_recover.eq_1 _ _ _ _ _ _).symm.trans hf
  refine lv_aload_n hx hb dX12_recover_0 rfl (lv_at hl 0 rfl) ?_
  refine lv_iconst (v := 0) hx hb dX12_recover_1 (by decide) ?_
  refine z_put (ci := 12) (C := RX12) (T := TX12) (N := 51) hx hb hts inT_X12 tyX12 tyX12_ok nmX12 hown hK hP hD hS 0 rfl rfl 4 (by decide) tf_X12_63 rfl (by decide +kernel) (Nat.le_of_ble_eq_true rfl) (o_X12 r_t) (o_X12_s4 _ _ _) (fun z => w_X12_recover h_t r_t z cI a_rows a_refused a_address a_number a_memory) (fun _ => rfl) dX12_recover_2 hf (fun F1 H locs hf hP hD hS => ?_)
  refine lv_aload_n hx hb dX12_recover_5 rfl (lv_at hl 0 rfl) ?_
  refine z_get (ci := 12) (C := RX12) (T := TX12) (N := 51) (v := .ref (r_t 0)) hx hb hts inT_X12 hown hK hP 0 rfl rfl 0 (by decide) tf_X12_10 rfl dX12_recover_6 ?_
  refine lv_sipush (v := 772) hx hb dX12_recover_9 (by decide) ?_
  refine z_iald hx hb hK hP 1 rfl dX12_recover_12 hf (fun y2 hf => ?_)
  refine lv_iconst (v := 1) hx hb dX12_recover_13 (by decide) ?_
  refine z_icmp_eq (tgt := 23) hx hb dX12_recover_14 (by decide) hf (fun hf => ?_) (fun hf => ?_)
  · refine lv_aload_n hx hb dX12_recover_23 rfl (lv_at hl 0 rfl) ?_
    obtain ⟨u3, hu3, hf⟩ := bd_some hf
    refine z_cv (ws1 := w_X12_recover h_t r_t F1 cI u3 a_refused a_address a_number a_memory) (wr := List.filterMap (fun i : Nat => (w_X12_recover h_t r_t F1 cI a_rows a_refused a_address a_number a_memory)[i]?) [2, 3, 4, 5]) (z_rV (rest := []) hx hb hml hown hcx hl.1 (c_X12_tries l D cI h_t r_t F1 a_rows u3 hu3 _) tl_X12_218 ti_X12_tries tz_X12_tries tn_X12 tc_X12_tries tm_X12_tries rfl rfl ⟨Nat.le_of_ble_eq_true rfl, Nat.le_of_ble_eq_true rfl⟩ hK hP hD [0, 1] rfl rfl 0 rfl rfl rfl rfl (Nat.le_of_ble_eq_true rfl) dX12_recover_24 ⟨Nat.zero_le _, Nat.zero_le _⟩) hP hD hS hA [0, 1] [2, 3, 4, 5] [4, 5, 0, 1, 2, 3] rfl rfl rfl (by decide) rfl rfl (fun H locs hP hD hS => ?_)
    refine lv_aload_n hx hb dX12_recover_27 rfl (lv_at hl 0 rfl) ?_
    refine lv_sipush (v := 786) hx hb dX12_recover_28 (by decide) ?_
    obtain ⟨u4, hu4, hf⟩ := bd_some hf
    refine z_cv (ws1 := w_X12_recover h_t r_t u4.1 cI u4.2.1 a_refused u4.2.2.1 u4.2.2.2.1 u4.2.2.2.2) (wr := List.filterMap (fun i : Nat => (w_X12_recover h_t r_t F1 cI u3 a_refused a_address a_number a_memory)[i]?) [2]) (z_rV (rest := []) hx hb hml hown hcx hl.1 (c_X12_recovery l D cI h_t r_t F1 u3 a_address a_number a_memory 786 u4 hu4 _) tl_X12_221 ti_X12_recovery tz_X12_recovery tn_X12 tc_X12_recovery tm_X12_recovery rfl rfl ⟨Nat.le_of_ble_eq_true rfl, Nat.le_of_ble_eq_true rfl⟩ hK hP hD [0, 1, 3, 4, 5] rfl rfl 0 rfl rfl rfl rfl (Nat.le_of_ble_eq_true rfl) dX12_recover_31 ⟨Nat.zero_le _, Nat.zero_le _⟩) hP hD hS hA [0, 1, 3, 4, 5] [2] [1, 2, 0, 3, 4, 5] rfl rfl rfl (by decide) rfl rfl (fun H locs hP hD hS => ?_)
    refine lv_aload_n hx hb dX12_recover_34 rfl (lv_at hl 0 rfl) ?_
    refine lv_aload_n hx hb dX12_recover_35 rfl (lv_at hl 0 rfl) ?_
    refine z_get (ci := 12) (C := RX12) (T := TX12) (N := 51) (v := .ref (r_t 0)) hx hb hts inT_X12 hown hK hP 0 rfl rfl 0 (by decide) tf_X12_10 rfl dX12_recover_36 ?_
    refine lv_sipush (v := 1560) hx hb dX12_recover_39 (by decide) ?_
    refine z_iald hx hb hK hP 1 rfl dX12_recover_42 hf (fun y5 hf => ?_)
    obtain ⟨u6, hu6, hf⟩ := bd_some hf
    refine z_ci (ws1 := w_X12_recover h_t r_t u6.2.1 cI u6.2.2.1 u6.2.2.2 u4.2.2.1 u4.2.2.2.1 u4.2.2.2.2) (wr := List.filterMap (fun i : Nat => (w_X12_recover h_t r_t u4.1 cI u4.2.1 a_refused u4.2.2.1 u4.2.2.2.1 u4.2.2.2.2)[i]?) [3, 4, 5]) (z_rV (rest := []) hx hb hml hown hcx hl.1 (c_X12_isDone l D cI h_t r_t u4.1 u4.2.1 a_refused y5 u6 hu6 _) tl_X12_354 ti_X12_isDone tz_X12_isDone tn_X12 tc_X12_isDone tm_X12_isDone rfl rfl ⟨Nat.le_of_ble_eq_true rfl, Nat.le_of_ble_eq_true rfl⟩ hK hP hD [0, 1, 2] rfl rfl 0 rfl rfl rfl rfl (Nat.le_of_ble_eq_true rfl) dX12_recover_43 ⟨Nat.zero_le _, Nat.zero_le _⟩) hP hD hS hA [0, 1, 2] [3, 4, 5] [3, 4, 5, 0, 1, 2] rfl rfl rfl (by decide) rfl rfl (fun H locs hP hD hS => ?_)
    exact hret (u6.1, u6.2.1, u6.2.2.1, u6.2.2.2, u4.2.2.1, u4.2.2.2.1, u4.2.2.2.2) _ _ _ _ hf hP hD hS dX12_recover_46
  · refine lv_aload_n hx hb dX12_recover_17 rfl (lv_at hl 0 rfl) ?_
    refine lv_iconst (v := 1) hx hb dX12_recover_18 (by decide) ?_
    obtain ⟨u7, hu7, hf⟩ := bd_some hf
    refine z_ci (ws1 := w_X12_recover h_t r_t F1 cI a_rows u7.2 a_address a_number a_memory) (wr := List.filterMap (fun i : Nat => (w_X12_recover h_t r_t F1 cI a_rows a_refused a_address a_number a_memory)[i]?) [1, 3, 4, 5]) (z_rV (rest := []) hx hb hml hown hcx hl.1 (c_X12_refuses l D cI h_t r_t F1 a_refused 1 u7 hu7 _) tl_X12_345 ti_X12_refuses tz_X12_refuses tn_X12 tc_X12_refuses tm_X12_refuses rfl rfl ⟨Nat.le_of_ble_eq_true rfl, Nat.le_of_ble_eq_true rfl⟩ hK hP hD [0, 2] rfl rfl 0 rfl rfl rfl rfl (Nat.le_of_ble_eq_true rfl) dX12_recover_19 ⟨Nat.zero_le _, Nat.zero_le _⟩) hP hD hS hA [0, 2] [1, 3, 4, 5] [4, 0, 5, 1, 2, 3] rfl rfl rfl (by decide) rfl rfl (fun H locs hP hD hS => ?_)
    exact hret (u7.1, F1, a_rows, u7.2, a_address, a_number, a_memory) _ _ _ _ hf hP hD hS dX12_recover_22
abbrev w_X12_waits (h_t : Nat) (r_t : Nat → Nat) (F_t : Nat → Int32) (cI : ClassId) (a_rows : Nat → Int32) : va_W := [(h_t, .inr (12, o_X12 r_t F_t)), ((r_t 0), .inl (cI, 66100, .inl a_rows))]
abbrev rm_X12_waits : Room := { frames := 0, cells := 0, slots := 0, locals := 0 }
def m_X12_waits_j48 (p1 : Int32) (p2 : Int32) (p3 : Int32) (p4 : Int32) (x5 : Int32) (a_rows : Nat → Int32) : Option ((Nat → Int32)) :=
  wr a_rows 66100 x5 1 fun a3 =>
  wr a3 66100 (x5 + 1) p2 fun a4 =>
  wr a4 66100 (x5 + 2) p3 fun a5 =>
  wr a5 66100 (x5 + 3) p4 fun a6 =>
  rd a6 66100 (p1 + 777) fun y7 =>
  wr a6 66100 (p1 + 777) (y7 + 1) fun a8 =>
  some a8
def m_X12_waits_w24 (p1 : Int32) (p2 : Int32) (p3 : Int32) (p4 : Int32) (k48 : Int32 → (Nat → Int32) → Option ((Nat → Int32))) : Nat → Int32 → Int32 → (Nat → Int32) → Option ((Nat → Int32))
  | 0, _, _, _ => none
  | n24 + 1, x5, x6, a_rows =>
    if 13 ≤ x6 then (
    k48 x5 a_rows)
    else (
    wr a_rows 66100 (x5 + x6) 0 fun a9 =>
    nm (x6 + 1) fun v10 =>
    m_X12_waits_w24 p1 p2 p3 p4 k48 n24 x5 v10 a9)
def m_X12_waits (a_rows : Nat → Int32) (p1 : Int32) (p2 : Int32) (p3 : Int32) (p4 : Int32) : Option ((Nat → Int32)) :=
  rd a_rows 66100 (p1 + 777) fun y1 =>
  nm ((p1 + 616) + (13 * y1)) fun v2 =>
  m_X12_waits_w24 p1 p2 p3 p4 (m_X12_waits_j48 p1 p2 p3 p4) fuelN v2 0 a_rows
set_option maxHeartbeats 4000000 in
set_option maxRecDepth 100000 in
theorem c_X12_waits (l : Launch) (D : va_G) (cI : ClassId) (h_t : Nat) (r_t : Nat → Nat) (F_t : Nat → Int32) (a_rows : Nat → Int32) (p1 : Int32) (p2 : Int32) (p3 : Int32) (p4 : Int32) (Rr : (Nat → Int32)) (hf : m_X12_waits a_rows p1 p2 p3 p4 = some Rr) : CTv l yX12_waits (Cond.code yX12_waits cX12_waits 7 none) rm_X12_waits D cI [.ref h_t, .int p1, .int p2, .int p3, .int p4] (w_X12_waits h_t r_t F_t cI a_rows) (w_X12_waits h_t r_t F_t cI Rr) := by
  refine z_begin_v (own := RX12) (ρ := (Nat → Int32)) (fun u => w_X12_waits h_t r_t F_t cI u) (by decide +kernel) rfl (Nat.le_of_ble_eq_true rfl) ?_
  intro p e s m args below meth c ls Q A hx hb hml hts hcx hown hK hA hP hD hS hl hret
  have hl : lv_has ls 7 [(0, .ref h_t), (1, .int p1), (2, .int p2), (3, .int p3), (4, .int p4)] := hl
  have hf := (m_X12_waits.eq_1 _ _ _ _ _).symm.trans hf
  have L48 : ∀ (x5 : Int32) (a_rows : Nat → Int32) (H : Heap) (locs : List Loc) (ls : Array Slot), m_X12_waits_j48 p1 p2 p3 p4 x5 a_rows = some Rr → va_P D vwCl (w_X12_waits h_t r_t F_t cI a_rows) H → va_D A (w_X12_waits h_t r_t F_t cI a_rows) → va_S A s.heap H locs → lv_has ls 7 [(0, .ref h_t), (1, .int p1), (2, .int p2), (3, .int p3), (4, .int p4), (5, .int x5)] → W p l e rm_X12_waits s m args below meth c H locs 0 0 Q (F0 m 48 ls []) := by
    intro x5 a_rows H locs ls hf hP hD hS hl
    have hf := (m_X12_waits_j48.eq_1 _ _ _ _ _ _).symm.trans hf
    refine lv_aload_n hx hb dX12_waits_48 rfl (lv_at hl 0 rfl) ?_
    refine z_get (ci := 12) (C := RX12) (T := TX12) (N := 51) (v := .ref (r_t 0)) hx hb hts inT_X12 hown hK hP 0 rfl rfl 0 (by decide) tf_X12_10 rfl dX12_waits_49 ?_
    refine lv_iload hx hb dX12_waits_52 (lv_at hl 5 rfl) ?_
    refine lv_iconst (v := 1) hx hb dX12_waits_54 (by decide) ?_
    refine z_iast hx hb hK hP hD hS 1 rfl (fun z => w_X12_waits h_t r_t F_t cI z) (fun _ => rfl) dX12_waits_55 hf (fun a3 H locs hf hP hD hS => ?_)
    refine lv_aload_n hx hb dX12_waits_56 rfl (lv_at hl 0 rfl) ?_
    refine z_get (ci := 12) (C := RX12) (T := TX12) (N := 51) (v := .ref (r_t 0)) hx hb hts inT_X12 hown hK hP 0 rfl rfl 0 (by decide) tf_X12_10 rfl dX12_waits_57 ?_
    refine lv_iload hx hb dX12_waits_60 (lv_at hl 5 rfl) ?_
    refine lv_iconst (v := 1) hx hb dX12_waits_62 (by decide) ?_
    refine lv_iadd hx hb dX12_waits_63 ?_
    refine lv_iload_n hx hb dX12_waits_64 rfl (lv_at hl 2 rfl) ?_
    refine z_iast hx hb hK hP hD hS 1 rfl (fun z => w_X12_waits h_t r_t F_t cI z) (fun _ => rfl) dX12_waits_65 hf (fun a4 H locs hf hP hD hS => ?_)
    refine lv_aload_n hx hb dX12_waits_66 rfl (lv_at hl 0 rfl) ?_
    refine z_get (ci := 12) (C := RX12) (T := TX12) (N := 51) (v := .ref (r_t 0)) hx hb hts inT_X12 hown hK hP 0 rfl rfl 0 (by decide) tf_X12_10 rfl dX12_waits_67 ?_
    refine lv_iload hx hb dX12_waits_70 (lv_at hl 5 rfl) ?_
    refine lv_iconst (v := 2) hx hb dX12_waits_72 (by decide) ?_
    refine lv_iadd hx hb dX12_waits_73 ?_
    refine lv_iload_n hx hb dX12_waits_74 rfl (lv_at hl 3 rfl) ?_
    refine z_iast hx hb hK hP hD hS 1 rfl (fun z => w_X12_waits h_t r_t F_t cI z) (fun _ => rfl) dX12_waits_75 hf (fun a5 H locs hf hP hD hS => ?_)
    refine lv_aload_n hx hb dX12_waits_76 rfl (lv_at hl 0 rfl) ?_
    refine z_get (ci := 12) (C := RX12) (T := TX12) (N := 51) (v := .ref (r_t 0)) hx hb hts inT_X12 hown hK hP 0 rfl rfl 0 (by decide) tf_X12_10 rfl dX12_waits_77 ?_
    refine lv_iload hx hb dX12_waits_80 (lv_at hl 5 rfl) ?_
    refine lv_iconst (v := 3) hx hb dX12_waits_82 (by decide) ?_
    refine lv_iadd hx hb dX12_waits_83 ?_
    refine lv_iload hx hb dX12_waits_84 (lv_at hl 4 rfl) ?_
    refine z_iast hx hb hK hP hD hS 1 rfl (fun z => w_X12_waits h_t r_t F_t cI z) (fun _ => rfl) dX12_waits_86 hf (fun a6 H locs hf hP hD hS => ?_)
    refine lv_aload_n hx hb dX12_waits_87 rfl (lv_at hl 0 rfl) ?_
    refine z_get (ci := 12) (C := RX12) (T := TX12) (N := 51) (v := .ref (r_t 0)) hx hb hts inT_X12 hown hK hP 0 rfl rfl 0 (by decide) tf_X12_10 rfl dX12_waits_88 ?_
    refine lv_iload_n hx hb dX12_waits_91 rfl (lv_at hl 1 rfl) ?_
    refine lv_sipush (v := 777) hx hb dX12_waits_92 (by decide) ?_
    refine lv_iadd hx hb dX12_waits_95 ?_
    refine lv_dup2_11 hx hb dX12_waits_96 rfl rfl ?_
    refine z_iald hx hb hK hP 1 rfl dX12_waits_97 hf (fun y7 hf => ?_)
    refine lv_iconst (v := 1) hx hb dX12_waits_98 (by decide) ?_
    refine lv_iadd hx hb dX12_waits_99 ?_
    refine z_iast hx hb hK hP hD hS 1 rfl (fun z => w_X12_waits h_t r_t F_t cI z) (fun _ => rfl) dX12_waits_100 hf (fun a8 H locs hf hP hD hS => ?_)
    exact hret a8 _ _ _ _ hf hP hD hS dX12_waits_101
  have L24 : ∀ (n24 : Nat) (x5 : Int32) (x6 : Int32) (a_rows : Nat → Int32) (H : Heap) (locs : List Loc) (ls : Array Slot), m_X12_waits_w24 p1 p2 p3 p4 (m_X12_waits_j48 p1 p2 p3 p4) n24 x5 x6 a_rows = some Rr → va_P D vwCl (w_X12_waits h_t r_t F_t cI a_rows) H → va_D A (w_X12_waits h_t r_t F_t cI a_rows) → va_S A s.heap H locs → lv_has ls 7 [(0, .ref h_t), (1, .int p1), (2, .int p2), (3, .int p3), (4, .int p4), (5, .int x5), (6, .int x6)] → W p l e rm_X12_waits s m args below meth c H locs 0 0 Q (F0 m 24 ls []) := by
    intro n24
    induction n24 with
    | zero => intro x5 x6 a_rows H locs ls hf; cases (show (none : Option _) = some Rr from hf)
    | succ n24 ih24 =>
      intro x5 x6 a_rows H locs ls hf hP hD hS hl
      have hf := (m_X12_waits_w24.eq_2 _ _ _ _ _ _ _ _ _).symm.trans hf
      refine lv_iload hx hb dX12_waits_24 (lv_at hl 6 rfl) ?_
      refine lv_bipush (v := 13) hx hb dX12_waits_26 (by decide) ?_
      refine z_icmp_ge (tgt := 48) hx hb dX12_waits_28 (by decide) hf (fun hf => ?_) (fun hf => ?_)
      · exact L48 x5 a_rows _ _ _ hf hP hD hS (lv_sub hl [0, 1, 2, 3, 4, 5] rfl)
      · refine lv_aload_n hx hb dX12_waits_31 rfl (lv_at hl 0 rfl) ?_
        refine z_get (ci := 12) (C := RX12) (T := TX12) (N := 51) (v := .ref (r_t 0)) hx hb hts inT_X12 hown hK hP 0 rfl rfl 0 (by decide) tf_X12_10 rfl dX12_waits_32 ?_
        refine lv_iload hx hb dX12_waits_35 (lv_at hl 5 rfl) ?_
        refine lv_iload hx hb dX12_waits_37 (lv_at hl 6 rfl) ?_
        refine lv_iadd hx hb dX12_waits_39 ?_
        refine lv_iconst (v := 0) hx hb dX12_waits_40 (by decide) ?_
        refine z_iast hx hb hK hP hD hS 1 rfl (fun z => w_X12_waits h_t r_t F_t cI z) (fun _ => rfl) dX12_waits_41 hf (fun a9 H locs hf hP hD hS => ?_)
        refine z_iinc (k0 := 6) (fun z => [(6, .int z), (0, .ref h_t), (1, .int p1), (2, .int p2), (3, .int p3), (4, .int p4), (5, .int x5)]) hx hb dX12_waits_42 hl rfl (by decide) (by decide) (fun _ => rfl) hf (fun v10 ls hf hl => ?_)
        refine lv_goto (tgt := 24) hx hb dX12_waits_45 (by decide) ?_
        exact ih24 x5 v10 a9 _ _ _ hf hP hD hS (lv_sub hl [1, 2, 3, 4, 5, 6, 0] rfl)
  refine lv_iload_n hx hb dX12_waits_0 rfl (lv_at hl 1 rfl) ?_
  refine lv_sipush (v := 616) hx hb dX12_waits_1 (by decide) ?_
  refine lv_iadd hx hb dX12_waits_4 ?_
  refine lv_bipush (v := 13) hx hb dX12_waits_5 (by decide) ?_
  refine lv_aload_n hx hb dX12_waits_7 rfl (lv_at hl 0 rfl) ?_
  refine z_get (ci := 12) (C := RX12) (T := TX12) (N := 51) (v := .ref (r_t 0)) hx hb hts inT_X12 hown hK hP 0 rfl rfl 0 (by decide) tf_X12_10 rfl dX12_waits_8 ?_
  refine lv_iload_n hx hb dX12_waits_11 rfl (lv_at hl 1 rfl) ?_
  refine lv_sipush (v := 777) hx hb dX12_waits_12 (by decide) ?_
  refine lv_iadd hx hb dX12_waits_15 ?_
  refine z_iald hx hb hK hP 1 rfl dX12_waits_16 hf (fun y1 hf => ?_)
  refine lv_imul hx hb dX12_waits_17 ?_
  refine lv_iadd hx hb dX12_waits_18 ?_
  refine z_istore (fun z => [(5, .int z), (0, .ref h_t), (1, .int p1), (2, .int p2), (3, .int p3), (4, .int p4)]) hx hb dX12_waits_19 hl (by decide) (fun _ => rfl) hf (fun v2 ls hf hl => ?_)
  refine lv_iconst (v := 0) hx hb dX12_waits_21 (by decide) ?_
  refine lv_istore (lv' := [(6, .int 0), (5, .int v2), (0, .ref h_t), (1, .int p1), (2, .int p2), (3, .int p3), (4, .int p4)]) hx hb dX12_waits_22 hl (by decide) rfl (fun ls hl => ?_)
  exact L24 fuelN v2 0 a_rows _ _ _ hf hP hD hS (lv_sub hl [2, 3, 4, 5, 6, 1, 0] rfl)
