/-! ===== a text that is read: both sides, from the first byte to the end ===== -/
def tF0 (F : Nat → Int32) (p : Int32) : Nat → Int32 := upd (upd (upd (upd (upd (upd (upd (upd (upd (upd F 46 0) 45 0) 44 0) 43 0) 42 0) 41 0) 34 p) 32 0) 38 0) 15 (-1)
theorem tF0_lt {F : Nat → Int32} {p : Int32} : ∀ j, j < 32 → ¬ j = 15 → tF0 F p j = F j := by
  intro j a b
  unfold tF0
  rw [upd_ne (by omega), upd_ne (by omega), upd_ne (by omega), upd_ne (by omega), upd_ne (by omega), upd_ne (by omega), upd_ne (by omega), upd_ne (by omega), upd_ne (by omega), upd_ne (by omega)]
theorem hp_rd0 {α : Type} {f : Nat → Int32} {n : Nat} {k : Int32 → Option α} (h : 0 < n) (hn : n < 2 ^ 31) : rd f n 0 k = k (f 0) := rd_nI (j := 0) h hn
theorem hp_wr0 {α : Type} {f : Nat → Int32} {n : Nat} {x : Int32} {k : (Nat → Int32) → Option α} (h : 0 < n) (hn : n < 2 ^ 31) : wr f n 0 x k = k (upd f 0 x) := wr_nI (j := 0) h hn
theorem r_zero {tp F rows rf wt : Nat → Int32} {p : Int32} {K : (Nat → Int32) → (Nat → Int32) → (Nat → Int32) → (Nat → Int32) → (Nat → Int32) → Option (Int32 × (Nat → Int32) × (Nat → Int32) × (Nat → Int32) × (Nat → Int32) × (Nat → Int32))} (mem : Nat → Int32) : ∃ r, m_X12_heap_w39 tp p K fuelN 0 F rows rf mem wt = K F rows rf r wt ∧ ∀ w, w < 64 → r w = nI 0 := by
  obtain ⟨r, h1, h2⟩ := loop_up (fun n i (r : Nat → Int32) => m_X12_heap_w39 tp p K n i F rows rf r wt) (fun r => K F rows rf r wt) 64 (fun i r => ∀ j, j < i → r j = nI 0) (by
    intro n i r hi hI
    refine ⟨upd r i 0, fun j hj => ?_, ?_⟩
    · by_cases e : j = i
      · rw [e, upd_eq]; rfl
      · rw [upd_ne e]; exact hI j (by omega)
    · show m_X12_heap_w39 tp p K (n + 1) (nI i) F rows rf r wt = _
      rw [m_X12_heap_w39, if_neg (show ¬ (64 : Int32) ≤ nI i from nI_ge (b := 64) hi (by decide)), wr_nI hi (by decide), nm, nI_1]) (by
    intro n r _
    show m_X12_heap_w39 tp p K (n + 1) (nI 64) F rows rf r wt = _
    rw [m_X12_heap_w39, if_pos (show (64 : Int32) ≤ nI 64 from nI_le (a := 64) (Nat.le_refl _) (by decide))]) fuelN 0 mem (Nat.zero_le _) (by rw [fuel_is]; omega) (fun j hj => absurd hj (Nat.not_lt_zero j))
  exact ⟨r, h2, h1⟩
theorem hp_text {t : Nat → Nat} {N : Nat} {a tp Fc T be af wa md F rows rf mem wt : Nat → Int32} (hX : TX t N a) (hY : TX t N tp) :
    (∃ q Fc' T' wa' md' Fr' mem' wt', m_X6_readText Fc T be af wa md a 700 (nI N) = some (0, Fc', T', va_cpy md' be 20 0 44, va_cpy md' af 20 0 44, wa', md') ∧ m_X12_heap_w39 tp (nI N) (m_X12_heap_j58 tp (nI N)) fuelN 0 F rows rf mem wt = m_X12_heap_j158 tp (nI N) Fr' rows rf mem' wt' ∧ okQ q ∧ CP N Fc' T' wa' md' q ∧ RP N Fr' mem' wt' q ∧ Fr' 38 = 0 ∧ Fr' 15 = -1 ∧ (∀ j, ¬ (j = 7 ∨ j = 9 ∨ j = 10) → T' j = T j) ∧ ∀ j, j < 32 → ¬ j = 15 → Fr' j = F j)
    ∨ (∃ c s Fc' T' wa' md' Fr' mem' wt', 1 ≤ c ∧ c ≤ 4 ∧ m_X6_readText Fc T be af wa md a 700 (nI N) = some (nI c, Fc', T', be, af, wa', md') ∧ m_X12_heap_w39 tp (nI N) (m_X12_heap_j58 tp (nI N)) fuelN 0 F rows rf mem wt = m_X12_heap_j158 tp (nI N) Fr' rows rf mem' wt' ∧ Fc' 6 = nI s ∧ BAD Fr' c s ∧ (∀ j, ¬ (j = 7 ∨ j = 9 ∨ j = 10) → T' j = T j) ∧ ∀ j, j < 32 → ¬ j = 15 → Fr' j = F j) := by
  have hN : N ≤ 700 := hX.1
  obtain ⟨r1, a1, a2, -⟩ := c_fill (a := md) (N := 64) (by decide)
  obtain ⟨r2, b1, b2, -⟩ := c_fill (a := wa) (N := 48) (by decide)
  have cl : m_X6_clear (upd (upd Fc 3 (nI N)) 4 0) T wa md = some (upd (upd (upd (upd (upd Fc 3 (nI N)) 4 0) 8 0) 9 0) 10 0, upd (upd (upd T 7 0) 9 0) 10 0, r2, r1) := by
    rw [m_X6_clear, bd_ok a1, bd_ok b1, nm, nm, nm, cb_0, nm, nm, nm]
  obtain ⟨F1, g1, g2, g3⟩ := c_goOn6 (p := 0) (F := upd (upd (upd (upd (upd Fc 3 (nI N)) 4 0) 8 0) 9 0) 10 0) hX (Nat.zero_le _) rfl rfl
  have rt : m_X6_readText Fc T be af wa md a 700 (nI N) = m_X6_readText_w30 a 700 (nI N) (m_X6_readText_j69 a 700 (nI N)) fuelN (nI 0) F1 (upd (upd (upd T 7 0) 9 0) 10 0) be af r2 r1 := by
    rw [m_X6_readText, if_neg (show ¬ Int32.ofNat 700 < nI N from nI_nlt (a := 700) hN (by decide)), nm, nm, bd_ok cl, bd_ok g1]
    first | done | rfl
  obtain ⟨m1, z1, z2⟩ := r_zero (tp := tp) (F := F) (rows := rows) (rf := rf) (wt := wt) (p := nI N) (K := m_X12_heap_j58 tp (nI N)) mem
  obtain ⟨G1, y1, y2, y3⟩ := r_go (p := 0) (F := tF0 F (nI N)) hY (Nat.zero_le _) rfl rfl
  have rr : m_X12_heap_w39 tp (nI N) (m_X12_heap_j58 tp (nI N)) fuelN 0 F rows rf mem wt = m_X12_heap_w112 tp (nI N) (m_X12_heap_j158 tp (nI N)) fuelN G1 rows rf m1 wt := by
    rw [z1, m_X12_heap_j58]
    simp only [nm]
    exact bd_ok y1
  have ok := (tk_ok (t := t) (N := N) (p := 0) (Nat.zero_le _)).1
  have G38 : G1 38 = 0 := (y3 38 (by decide)).trans rfl
  have hq : okQ ((fun _ => 0, 0, 0, 0, 0, 0, []) : QS) := ⟨fun _ _ => Nat.zero_le _, fun _ _ => Nat.zero_le _, (by decide : 0 < 128), (by decide : 0 < 2), (by decide : 0 < 2), (by decide : 0 < 1024), (by decide : 0 < 1024)⟩
  have hc : CP N F1 (upd (upd (upd T 7 0) 9 0) 10 0) r2 r1 ((fun _ => 0, 0, 0, 0, 0, 0, []) : QS) := by
    refine ⟨(g3 3 (by decide) (by decide) (by decide)).trans rfl, (g3 8 (by decide) (by decide) (by decide)).trans rfl, (g3 9 (by decide) (by decide) (by decide)).trans rfl, (g3 10 (by decide) (by decide) (by decide)).trans rfl, rfl, rfl, ⟨rfl, (by decide : 0 ≤ 12), fun i ops hi => ?_⟩, fun j _ hj => b2 j hj, a2⟩
    have hi : ([] : List OPS)[i]? = some ops := hi
    rw [List.getElem?_nil] at hi; cases hi
  have hr : RP N G1 m1 wt ((fun _ => 0, 0, 0, 0, 0, 0, []) : QS) := by
    refine ⟨(y3 34 (by decide)).trans rfl, (y3 41 (by decide)).trans rfl, (y3 42 (by decide)).trans rfl, (y3 43 (by decide)).trans rfl, (y3 44 (by decide)).trans rfl, (y3 45 (by decide)).trans rfl, (y3 46 (by decide)).trans rfl, fun i ops hi => ?_, z2⟩
    have hi : ([] : List OPS)[i]? = some ops := hi
    rw [List.getElem?_nil] at hi; cases hi
  have hT : ∀ j, ¬ (j = 7 ∨ j = 9 ∨ j = 10) → upd (upd (upd T 7 0) 9 0) 10 0 j = T j := fun j hj => by rw [upd_ne (by omega), upd_ne (by omega), upd_ne (by omega)]
  have hF : ∀ j, j < 32 → ¬ j = 15 → G1 j = F j := fun j p q => (y3 j (by omega)).trans (tF0_lt j p q)
  rcases text_loop (be := be) (af := af) (rows := rows) (rf := rf) (p1 := nI N) (p2 := nI N) (K1 := m_X6_readText_j69 a 700 (nI N)) (K2 := m_X12_heap_j158 tp (nI N)) hX hY 701 0 fuelN fuelN (tkA t N 0) _ F1 _ r2 r1 G1 m1 wt (by omega) (by rw [fuel_is]; decide) (by rw [fuel_is]; decide) (Nat.zero_le _) ok g2 y2 G38 hq hc hr with ⟨q2, Fa, Ta, wb, mb, Fb, mc, wc, x1, x2, x3, x4, x5, x6, x7, x8⟩ | ⟨cc, s, Fa, Ta, wb, mb, Fb, mc, wc, x1, x2, x3, x4, x5, x6, x7⟩
  · refine Or.inl ⟨q2, Fa, Ta, wb, mb, Fb, mc, wc, ?_, rr.trans x2, x3, x4, x5, x6, x7.trans ((y3 15 (by decide)).trans rfl), fun j hj => (x8.1 j hj).trans (hT j hj), fun j p q => (x8.2 j p q).trans (hF j p q)⟩
    have e2 : m_X4_settle be af mb 64 = some (va_cpy mb be 20 0 44, va_cpy mb af 20 0 44) := by
      rw [m_X4_settle, show (0 : Int32) = nI 0 from rfl, show (20 : Int32) = nI 20 from rfl, show (44 : Int32) = nI 44 from rfl, cp_nI (by decide) (by decide) (by decide) (by decide), cp_nI (by decide) (by decide) (by decide) (by decide)]
    rw [rt, x1, m_X6_readText_j69, bd_ok e2]
  · exact Or.inr ⟨cc, s, Fa, Ta, wb, mb, Fb, mc, wc, x1, x2, rt.trans x3, rr.trans x4, x5, x6, fun j hj => (x7.1 j hj).trans (hT j hj), fun j p q => (x7.2 j p q).trans (hF j p q)⟩
/-- the machine that a text tells -/
def txA (f : Nat → Nat) (o : Nat) (W : List OPS) : MA := ((f, (fun _ => []), fun _ => 0), [], W, 0, o, (fun _ => nI 0), (fun k => f (20 + k)), fun k => f (20 + k))
theorem VM_tx {mode o : Nat} {f : Nat → Nat} {W : List OPS} (hf : ∀ w, w < 64 → f w ≤ 99) (ho : o < 128) (hW : W.length ≤ 12 ∧ ∀ ops ∈ W, ops.length ≤ 4 ∧ ∀ o ∈ ops, opOK o) : VM mode (txA f o W) :=
  ⟨⟨hf, fun l _ => ⟨Nat.zero_le _, Nat.le_refl _, fun st hs => (by cases hs)⟩⟩, fun q hq => (by cases hq), hW, (by decide : 0 ≤ 2), ho, fun e => (by cases e), fun e => (by cases e), fun _ k hk => rfl, fun e => (by cases e), fun _ k hk => rfl, fun k hk => ⟨hf _ (by omega), hf _ (by omega)⟩⟩
theorem CM_tx {N : Nat} {mode o td dt ch : Nat} {f : Nat → Nat} {W : List OPS} {Fc T wa md be af hd ak ta st mi : Nat → Int32} (hc : CP N Fc T wa md (f, o, mode, td, dt, ch, W)) (hR : RDm T hd ak ta) : CM T md st hd ak mi (va_cpy md be 20 0 44) (va_cpy md af 20 0 44) wa ta mode (txA f o W) := by
  obtain ⟨c1, c2, c3, c4, c5, c6, c7, c8, c9⟩ := hc
  obtain ⟨d1, d2, d3, d4, d5, d6⟩ := hR
  have c9 : ∀ w, w < 64 → md w = nI (f w) := c9
  have hse : ∀ (g : Nat → Int32) (k : Nat), k < 44 → va_cpy md g 20 0 44 k = nI (f (20 + k)) := by
    intro g k hk
    unfold va_cpy
    rw [if_pos (by omega), show 20 + (k - 0) = 20 + k by omega]; exact c9 _ (by omega)
  exact ⟨⟨c9, d4, d5, fun l hl k q hk => (by cases hk)⟩, ⟨0, d1, d2, (by decide : 0 + 0 ≤ 80), fun _ => rfl, fun k q hk => (by cases hk)⟩, c7, d3, c5, c6, d6, hse be, hse af⟩
/-- the reference's end of a text without a fault -/
theorem hp_fin {tp Fr rows rf mem wt : Nat → Int32} {p : Int32} {N o m td dt ch : Nat} {f : Nat → Nat} {W : List OPS} (hr : RP N Fr mem wt (f, o, m, td, dt, ch, W)) (h38 : Fr 38 = 0) (hW : W.length ≤ 12) :
    ∃ r F', m_X12_heap_j158 tp p Fr rows rf mem wt = some (0, F', r, rf, mem, wt) ∧ F' 5 = 0 ∧ F' 6 = 0 ∧ F' 7 = 0 ∧ F' 11 = 0 ∧ F' 12 = nI m ∧ (∀ j, ¬ (j = 5 ∨ j = 6 ∨ j = 7 ∨ j = 11 ∨ j = 12) → F' j = Fr j) ∧ RM r 0 (txA f o W) := by
  obtain ⟨c1, c2, c3, c4, c5, c6, c7, c8, c9⟩ := hr
  have c2 : Fr 41 = nI o := c2
  have c3 : Fr 42 = nI W.length := c3
  have c4 : Fr 43 = nI m := c4
  obtain ⟨r0, y1, y2, -⟩ := r_begins (rows := rows)
  obtain ⟨r1, ⟨a1, a2⟩, a3⟩ := loop_up (fun n i (r : Nat → Int32) => m_X12_heap_w194 tp p (m_X12_heap_j218 tp p) n i (upd Fr 12 (nI m)) r rf mem wt) (fun r => m_X12_heap_j218 tp p (upd Fr 12 (nI m)) r rf mem wt) 64 (fun i r => (∀ w, w < i → r w = mem w) ∧ ∀ j, 64 ≤ j → j < 786 → r j = nI 0) (by
    intro n i r hi hI
    refine ⟨upd r i (mem i), ⟨fun j hj => ?_, fun j h1 h2 => (upd_ne (by omega)).trans (hI.2 j h1 h2)⟩, ?_⟩
    · by_cases e : j = i
      · rw [e, upd_eq]
      · rw [upd_ne e]; exact hI.1 j (by omega)
    · show m_X12_heap_w194 tp p (m_X12_heap_j218 tp p) (n + 1) (nI i) (upd Fr 12 (nI m)) r rf mem wt = _
      rw [m_X12_heap_w194, if_neg (show ¬ (64 : Int32) ≤ nI i from nI_ge (b := 64) hi (by decide)), rd_nI hi (by decide), wr_nI (by omega) (by decide), nm, nI_1]) (by
    intro n r _
    show m_X12_heap_w194 tp p (m_X12_heap_j218 tp p) (n + 1) (nI 64) (upd Fr 12 (nI m)) r rf mem wt = _
    rw [m_X12_heap_w194, if_pos (show (64 : Int32) ≤ nI 64 from nI_le (a := 64) (Nat.le_refl _) (by decide))]) fuelN 0 r0 (Nat.zero_le _) (by rw [fuel_is]; omega) ⟨fun j hj => absurd hj (Nat.not_lt_zero j), fun j _ h2 => y2 j h2⟩
  have e42 : upd Fr 12 (nI m) 42 = nI W.length := (upd_ne (by decide)).trans c3
  have e41 : upd Fr 12 (nI m) 41 = nI o := (upd_ne (by decide)).trans c2
  have hz : ∀ j, 64 ≤ j → j < 786 → ¬ j = 773 → ¬ j = 777 → upd (upd r1 773 (nI o)) 777 (nI W.length) j = nI 0 := fun j a b c d => ((upd_ne d).trans (upd_ne c)).trans (a2 j a b)
  obtain ⟨r2, ⟨b1, b2⟩, b3⟩ := loop_up (fun n i (r : Nat → Int32) => m_X12_heap_w244 tp p (m_X12_heap_j277 tp p) n i (upd Fr 12 (nI m)) r rf mem wt) (fun r => m_X12_heap_j277 tp p (upd Fr 12 (nI m)) r rf mem wt) (13 * W.length) (fun i r => (∀ x, x < i → r (616 + x) = wt x) ∧ ∀ j, (j < 616 ∨ 772 ≤ j) → r j = upd (upd r1 773 (nI o)) 777 (nI W.length) j) (by
    intro n i r hi hI
    refine ⟨upd r (616 + i) (wt i), ⟨fun j hj => ?_, fun j h1 => (upd_ne (by omega)).trans (hI.2 j h1)⟩, ?_⟩
    · by_cases e : j = i
      · rw [e, upd_eq]
      · rw [upd_ne (by omega)]; exact hI.1 j (by omega)
    · show m_X12_heap_w244 tp p (m_X12_heap_j277 tp p) (n + 1) (nI i) (upd Fr 12 (nI m)) r rf mem wt = _
      rw [m_X12_heap_w244, e42, show (13 : Int32) * nI W.length = nI (13 * W.length) from nI_mulE 13 _, if_neg (nI_ge hi (by omega)), rd_nI (by omega) (by decide), show (616 : Int32) + nI i = nI (616 + i) from nI_add 616 i, wr_nI (by omega) (by decide), nm, nI_1]) (by
    intro n r _
    show m_X12_heap_w244 tp p (m_X12_heap_j277 tp p) (n + 1) (nI (13 * W.length)) (upd Fr 12 (nI m)) r rf mem wt = _
    rw [m_X12_heap_w244, e42, show (13 : Int32) * nI W.length = nI (13 * W.length) from nI_mulE 13 _, if_pos (nI_le (Nat.le_refl _) (by omega))]) fuelN 0 (upd (upd r1 773 (nI o)) 777 (nI W.length)) (Nat.zero_le _) (by rw [fuel_is]; omega) ⟨fun j hj => absurd hj (Nat.not_lt_zero j), fun _ _ => rfl⟩
  refine ⟨r2, upd (upd (upd (upd (upd Fr 12 (nI m)) 11 0) 7 0) 6 0) 5 0, ?_, rfl, rfl, rfl, rfl, rfl, fun j hj => by rw [upd_ne (by omega), upd_ne (by omega), upd_ne (by omega), upd_ne (by omega), upd_ne (by omega)], ?_⟩
  · rw [m_X12_heap_j158, if_pos h38, bd_ok y1, nm, c4]
    refine (show m_X12_heap_w194 tp p (m_X12_heap_j218 tp p) fuelN 0 (upd Fr 12 (nI m)) r0 rf mem wt = m_X12_heap_j218 tp p (upd Fr 12 (nI m)) r1 rf mem wt from a3).trans ?_
    rw [m_X12_heap_j218, e41, e42, show (773 : Int32) = nI 773 from rfl, show (777 : Int32) = nI 777 from rfl, wr_nI (by decide) (by decide), wr_nI (by decide) (by decide)]
    refine (show m_X12_heap_w244 tp p (m_X12_heap_j277 tp p) fuelN 0 (upd Fr 12 (nI m)) (upd (upd r1 773 (nI o)) 777 (nI W.length)) rf mem wt = m_X12_heap_j277 tp p (upd Fr 12 (nI m)) r2 rf mem wt from b3).trans ?_
    rw [m_X12_heap_j277]
    rfl
  · refine ⟨⟨fun w hw => ?_, fun l hl => ?_, fun l hl => ?_, fun l hl k q hk => (by cases hk)⟩, ⟨0, ?_, ?_, (by decide : 0 + 0 ≤ 80), fun _ => rfl, fun k q hk => (by cases hk)⟩, ⟨?_, hW, fun i ops hi => ?_⟩, ?_, ?_, ?_, fun k hk => ?_, fun e => absurd rfl e, fun e => absurd rfl e⟩
    · show r2 (0 + w) = nI (f w)
      rw [Nat.zero_add, b2 w (by omega), upd_ne (by omega), upd_ne (by omega), a1 w hw]; exact c9 w hw
    · show r2 (0 + 64 + l) = nI 0
      rw [b2 _ (by omega), hz _ (by omega) (by omega) (by omega) (by omega)]
    · show r2 (0 + 80 + l) = nI 0
      rw [b2 _ (by omega), hz _ (by omega) (by omega) (by omega) (by omega)]
    · show r2 (0 + 775) = nI 0
      rw [b2 _ (by omega), hz _ (by omega) (by omega) (by omega) (by omega)]
    · show r2 (0 + 774) = nI 0
      rw [b2 _ (by omega), hz _ (by omega) (by omega) (by omega) (by omega)]
    · show r2 (0 + 777) = nI W.length
      rw [b2 _ (by omega)]; exact upd_eq
    · have hi : W[i]? = some ops := hi
      have hlt := (List.getElem?_eq_some_iff.mp hi).1
      refine rOps_fr (fun j hj => ?_) (c8 i ops hi)
      have := b1 (13 * i + j) (by omega)
      rw [show 0 + 616 + 13 * i + j = 616 + (13 * i + j) by omega]; exact this
    · show r2 (0 + 772) = nI 0
      rw [b2 _ (by omega), hz _ (by omega) (by omega) (by omega) (by omega)]
    · show r2 (0 + 773) = nI o
      rw [b2 _ (by omega), upd_ne (by omega)]; exact upd_eq
    · show r2 (0 + 776) = nI (if ([] : MM).length = 0 then 0 else if (0 : Nat) = 2 then 2 else 1)
      rw [if_pos (show ([] : MM).length = 0 from rfl), b2 _ (by omega), hz _ (by omega) (by omega) (by omega) (by omega)]
    · show r2 (0 + 778 + k) = nI 0
      rw [b2 _ (by omega), hz _ (by omega) (by omega) (by omega) (by omega)]
