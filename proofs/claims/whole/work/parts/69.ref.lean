def pM_feed (M : Nat → Nat → Int32) (p1 : Int32) (p2 : Int32) (p3 : Int32) (p4 : Int32) (p5 : Int32) : Option (Int32 × (Nat → Nat → Int32)) := bd (m_X12_feed (M 0) (M 5) p1 p2 p3 p4 p5) fun u => some (u.1, (upC (upC M 0 u.2.1) 5 u.2.2))
set_option maxHeartbeats 4000000 in
set_option maxRecDepth 100000 in
theorem kM_feed (l : Launch) (D : va_G) (cI : ClassId) (B : Nat × (Nat → Nat)) (M : Nat → Nat → Int32) (p1 : Int32) (p2 : Int32) (p3 : Int32) (p4 : Int32) (p5 : Int32) (R : Int32 × (Nat → Nat → Int32)) (hf : pM_feed M p1 p2 p3 p4 p5 = some R) : CTi l yX12_feed (Cond.code yX12_feed cX12_feed 8 (some .int)) rm_X12_feed D cI [.ref B.1, .int p1, .int p2, .int p3, .int p4, .int p5] (rfw cI B M) R.1 (rfw cI B R.2) := by
  obtain ⟨u, hu, hf⟩ := bd_some hf
  obtain rfl := Option.some.inj hf
  exact lg_i (fr := (List.filterMap (fun i : Nat => (rfw cI B M)[i]?) [1, 2, 3, 4, 6, 7, 8, 9, 10, 11, 12, 13, 14, 15])) (c_X12_feed l D cI B.1 B.2 (M 0) (M 5) p1 p2 p3 p4 p5 u hu) (perm_idx0 [0, 5, 1, 2, 3, 4, 6, 7, 8, 9, 10, 11, 12, 13, 14, 15] 16 rfl (by decide +kernel) rfl) (perm_idx0 [0, 5, 1, 2, 3, 4, 6, 7, 8, 9, 10, 11, 12, 13, 14, 15] 16 rfl (by decide +kernel) rfl)
def pM_heap (M : Nat → Nat → Int32) (p1 : Int32) : Option (Int32 × (Nat → Nat → Int32)) := bd (m_X12_heap (M 0) (M 1) (M 4) (M 5) (M 13) (M 14) p1) fun u => some (u.1, (upC (upC (upC (upC (upC M 0 u.2.1) 1 u.2.2.1) 4 u.2.2.2.1) 13 u.2.2.2.2.1) 14 u.2.2.2.2.2))
set_option maxHeartbeats 4000000 in
set_option maxRecDepth 100000 in
theorem kM_heap (l : Launch) (D : va_G) (cI : ClassId) (B : Nat × (Nat → Nat)) (M : Nat → Nat → Int32) (p1 : Int32) (R : Int32 × (Nat → Nat → Int32)) (hf : pM_heap M p1 = some R) : CTi l yX12_heap (Cond.code yX12_heap cX12_heap 3 (some .int)) rm_X12_heap D cI [.ref B.1, .int p1] (rfw cI B M) R.1 (rfw cI B R.2) := by
  obtain ⟨u, hu, hf⟩ := bd_some hf
  obtain rfl := Option.some.inj hf
  exact lg_i (fr := (List.filterMap (fun i : Nat => (rfw cI B M)[i]?) [2, 3, 6, 7, 8, 9, 10, 11, 12, 15])) (c_X12_heap l D cI B.1 B.2 (M 0) (M 1) (M 4) (M 5) (M 13) (M 14) p1 u hu) (perm_idx0 [0, 1, 4, 5, 13, 14, 2, 3, 6, 7, 8, 9, 10, 11, 12, 15] 16 rfl (by decide +kernel) rfl) (perm_idx0 [0, 1, 4, 5, 13, 14, 2, 3, 6, 7, 8, 9, 10, 11, 12, 15] 16 rfl (by decide +kernel) rfl)
def pM_fault (M : Nat → Nat → Int32) : Option (Int32 × (Nat → Nat → Int32)) := bd (m_X12_fault (M 0)) fun u => some (u.1, (upC M 0 u.2))
set_option maxHeartbeats 4000000 in
set_option maxRecDepth 100000 in
theorem kM_fault (l : Launch) (D : va_G) (cI : ClassId) (B : Nat × (Nat → Nat)) (M : Nat → Nat → Int32) (R : Int32 × (Nat → Nat → Int32)) (hf : pM_fault M = some R) : CTi l yX12_fault (Cond.code yX12_fault cX12_fault 1 (some .int)) rm_X12_fault D cI [.ref B.1] (rfw cI B M) R.1 (rfw cI B R.2) := by
  obtain ⟨u, hu, hf⟩ := bd_some hf
  obtain rfl := Option.some.inj hf
  exact lg_i (fr := (List.filterMap (fun i : Nat => (rfw cI B M)[i]?) [1, 2, 3, 4, 5, 6, 7, 8, 9, 10, 11, 12, 13, 14, 15])) (c_X12_fault l D cI B.1 B.2 (M 0) u hu) (perm_idx0 [0, 1, 2, 3, 4, 5, 6, 7, 8, 9, 10, 11, 12, 13, 14, 15] 16 rfl (by decide +kernel) rfl) (perm_idx0 [0, 1, 2, 3, 4, 5, 6, 7, 8, 9, 10, 11, 12, 13, 14, 15] 16 rfl (by decide +kernel) rfl)
def pM_count (M : Nat → Nat → Int32) (p1 : Int32) : Option (Int32 × (Nat → Nat → Int32)) := bd (m_X12_count (M 0) (M 1) (M 4) p1) fun u => some (u.1, (upC M 0 u.2))
set_option maxHeartbeats 4000000 in
set_option maxRecDepth 100000 in
theorem kM_count (l : Launch) (D : va_G) (cI : ClassId) (B : Nat × (Nat → Nat)) (M : Nat → Nat → Int32) (p1 : Int32) (R : Int32 × (Nat → Nat → Int32)) (hf : pM_count M p1 = some R) : CTi l yX12_count (Cond.code yX12_count cX12_count 2 (some .int)) rm_X12_count D cI [.ref B.1, .int p1] (rfw cI B M) R.1 (rfw cI B R.2) := by
  obtain ⟨u, hu, hf⟩ := bd_some hf
  obtain rfl := Option.some.inj hf
  exact lg_i (fr := (List.filterMap (fun i : Nat => (rfw cI B M)[i]?) [2, 3, 5, 6, 7, 8, 9, 10, 11, 12, 13, 14, 15])) (c_X12_count l D cI B.1 B.2 (M 0) (M 1) (M 4) p1 u hu) (perm_idx0 [0, 1, 4, 2, 3, 5, 6, 7, 8, 9, 10, 11, 12, 13, 14, 15] 16 rfl (by decide +kernel) rfl) (perm_idx0 [0, 1, 4, 2, 3, 5, 6, 7, 8, 9, 10, 11, 12, 13, 14, 15] 16 rfl (by decide +kernel) rfl)
def pM_word (M : Nat → Nat → Int32) (p1 : Int32) (p2 : Int32) : Option (Int32 × (Nat → Nat → Int32)) := bd (m_X12_word (M 0) (M 1) p1 p2) fun u => some (u.1, (upC M 0 u.2))
set_option maxHeartbeats 4000000 in
set_option maxRecDepth 100000 in
theorem kM_word (l : Launch) (D : va_G) (cI : ClassId) (B : Nat × (Nat → Nat)) (M : Nat → Nat → Int32) (p1 : Int32) (p2 : Int32) (R : Int32 × (Nat → Nat → Int32)) (hf : pM_word M p1 p2 = some R) : CTi l yX12_word (Cond.code yX12_word cX12_word 3 (some .int)) rm_X12_word D cI [.ref B.1, .int p1, .int p2] (rfw cI B M) R.1 (rfw cI B R.2) := by
  obtain ⟨u, hu, hf⟩ := bd_some hf
  obtain rfl := Option.some.inj hf
  exact lg_i (fr := (List.filterMap (fun i : Nat => (rfw cI B M)[i]?) [2, 3, 4, 5, 6, 7, 8, 9, 10, 11, 12, 13, 14, 15])) (c_X12_word l D cI B.1 B.2 (M 0) (M 1) p1 p2 u hu) (perm_idx0 [0, 1, 2, 3, 4, 5, 6, 7, 8, 9, 10, 11, 12, 13, 14, 15] 16 rfl (by decide +kernel) rfl) (perm_idx0 [0, 1, 2, 3, 4, 5, 6, 7, 8, 9, 10, 11, 12, 13, 14, 15] 16 rfl (by decide +kernel) rfl)
def pM_line (M : Nat → Nat → Int32) (p1 : Int32) (p2 : Int32) : Option (Int32 × (Nat → Nat → Int32)) := bd (m_X12_line (M 0) (M 1) p1 p2) fun u => some (u.1, (upC M 0 u.2))
set_option maxHeartbeats 4000000 in
set_option maxRecDepth 100000 in
theorem kM_line (l : Launch) (D : va_G) (cI : ClassId) (B : Nat × (Nat → Nat)) (M : Nat → Nat → Int32) (p1 : Int32) (p2 : Int32) (R : Int32 × (Nat → Nat → Int32)) (hf : pM_line M p1 p2 = some R) : CTi l yX12_line (Cond.code yX12_line cX12_line 3 (some .int)) rm_X12_line D cI [.ref B.1, .int p1, .int p2] (rfw cI B M) R.1 (rfw cI B R.2) := by
  obtain ⟨u, hu, hf⟩ := bd_some hf
  obtain rfl := Option.some.inj hf
  exact lg_i (fr := (List.filterMap (fun i : Nat => (rfw cI B M)[i]?) [2, 3, 4, 5, 6, 7, 8, 9, 10, 11, 12, 13, 14, 15])) (c_X12_line l D cI B.1 B.2 (M 0) (M 1) p1 p2 u hu) (perm_idx0 [0, 1, 2, 3, 4, 5, 6, 7, 8, 9, 10, 11, 12, 13, 14, 15] 16 rfl (by decide +kernel) rfl) (perm_idx0 [0, 1, 2, 3, 4, 5, 6, 7, 8, 9, 10, 11, 12, 13, 14, 15] 16 rfl (by decide +kernel) rfl)
def pM_micro (M : Nat → Nat → Int32) (p1 : Int32) (p2 : Int32) : Option (Int32 × (Nat → Nat → Int32)) := bd (m_X12_micro (M 0) (M 1) p1 p2) fun u => some (u.1, (upC M 0 u.2))
set_option maxHeartbeats 4000000 in
set_option maxRecDepth 100000 in
theorem kM_micro (l : Launch) (D : va_G) (cI : ClassId) (B : Nat × (Nat → Nat)) (M : Nat → Nat → Int32) (p1 : Int32) (p2 : Int32) (R : Int32 × (Nat → Nat → Int32)) (hf : pM_micro M p1 p2 = some R) : CTi l yX12_micro (Cond.code yX12_micro cX12_micro 3 (some .int)) rm_X12_micro D cI [.ref B.1, .int p1, .int p2] (rfw cI B M) R.1 (rfw cI B R.2) := by
  obtain ⟨u, hu, hf⟩ := bd_some hf
  obtain rfl := Option.some.inj hf
  exact lg_i (fr := (List.filterMap (fun i : Nat => (rfw cI B M)[i]?) [2, 3, 4, 5, 6, 7, 8, 9, 10, 11, 12, 13, 14, 15])) (c_X12_micro l D cI B.1 B.2 (M 0) (M 1) p1 p2 u hu) (perm_idx0 [0, 1, 2, 3, 4, 5, 6, 7, 8, 9, 10, 11, 12, 13, 14, 15] 16 rfl (by decide +kernel) rfl) (perm_idx0 [0, 1, 2, 3, 4, 5, 6, 7, 8, 9, 10, 11, 12, 13, 14, 15] 16 rfl (by decide +kernel) rfl)
def pM_orders (M : Nat → Nat → Int32) : Option (Int64 × (Nat → Nat → Int32)) := bd (m_X12_orders (M 0) (M 1)) fun u => some (u.1, (upC M 0 u.2))
set_option maxHeartbeats 4000000 in
set_option maxRecDepth 100000 in
theorem kM_orders (l : Launch) (D : va_G) (cI : ClassId) (B : Nat × (Nat → Nat)) (M : Nat → Nat → Int32) (R : Int64 × (Nat → Nat → Int32)) (hf : pM_orders M = some R) : CTl l yX12_orders (Cond.code yX12_orders cX12_orders 1 (some .long)) rm_X12_orders D cI [.ref B.1] (rfw cI B M) R.1 (rfw cI B R.2) := by
  obtain ⟨u, hu, hf⟩ := bd_some hf
  obtain rfl := Option.some.inj hf
  exact lg_l (fr := (List.filterMap (fun i : Nat => (rfw cI B M)[i]?) [2, 3, 4, 5, 6, 7, 8, 9, 10, 11, 12, 13, 14, 15])) (c_X12_orders l D cI B.1 B.2 (M 0) (M 1) u hu) (perm_idx0 [0, 1, 2, 3, 4, 5, 6, 7, 8, 9, 10, 11, 12, 13, 14, 15] 16 rfl (by decide +kernel) rfl) (perm_idx0 [0, 1, 2, 3, 4, 5, 6, 7, 8, 9, 10, 11, 12, 13, 14, 15] 16 rfl (by decide +kernel) rfl)
def pM_shape (M : Nat → Nat → Int32) (p1 : Int32) (p2 : Int32) : Option (Int32 × (Nat → Nat → Int32)) := bd (m_X12_shape (M 0) (M 1) (M 9) p1 p2) fun u => some (u.1, (upC (upC M 0 u.2.1) 9 u.2.2))
set_option maxHeartbeats 4000000 in
set_option maxRecDepth 100000 in
theorem kM_shape (l : Launch) (D : va_G) (cI : ClassId) (B : Nat × (Nat → Nat)) (M : Nat → Nat → Int32) (p1 : Int32) (p2 : Int32) (R : Int32 × (Nat → Nat → Int32)) (hf : pM_shape M p1 p2 = some R) : CTi l yX12_shape (Cond.code yX12_shape cX12_shape 4 (some .int)) rm_X12_shape D cI [.ref B.1, .int p1, .int p2] (rfw cI B M) R.1 (rfw cI B R.2) := by
  obtain ⟨u, hu, hf⟩ := bd_some hf
  obtain rfl := Option.some.inj hf
  exact lg_i (fr := (List.filterMap (fun i : Nat => (rfw cI B M)[i]?) [2, 3, 4, 5, 6, 7, 8, 10, 11, 12, 13, 14, 15])) (c_X12_shape l D cI B.1 B.2 (M 0) (M 1) (M 9) p1 p2 u hu) (perm_idx0 [0, 1, 9, 2, 3, 4, 5, 6, 7, 8, 10, 11, 12, 13, 14, 15] 16 rfl (by decide +kernel) rfl) (perm_idx0 [0, 1, 9, 2, 3, 4, 5, 6, 7, 8, 10, 11, 12, 13, 14, 15] 16 rfl (by decide +kernel) rfl)
def pM_steps (M : Nat → Nat → Int32) (p1 : Int32) : Option (Int32 × (Nat → Nat → Int32)) := bd (m_X12_steps (M 0) (M 1) (M 4) (M 6) (M 7) (M 8) p1) fun u => some (u.1, (upC (upC (upC (upC (upC (upC M 0 u.2.1) 1 u.2.2.1) 4 u.2.2.2.1) 6 u.2.2.2.2.1) 7 u.2.2.2.2.2.1) 8 u.2.2.2.2.2.2))
set_option maxHeartbeats 4000000 in
set_option maxRecDepth 100000 in
theorem kM_steps (l : Launch) (D : va_G) (cI : ClassId) (B : Nat × (Nat → Nat)) (M : Nat → Nat → Int32) (p1 : Int32) (R : Int32 × (Nat → Nat → Int32)) (hf : pM_steps M p1 = some R) : CTi l yX12_steps (Cond.code yX12_steps cX12_steps 3 (some .int)) rm_X12_steps D cI [.ref B.1, .int p1] (rfw cI B M) R.1 (rfw cI B R.2) := by
  obtain ⟨u, hu, hf⟩ := bd_some hf
  obtain rfl := Option.some.inj hf
  exact lg_i (fr := (List.filterMap (fun i : Nat => (rfw cI B M)[i]?) [2, 3, 5, 9, 10, 11, 12, 13, 14, 15])) (c_X12_steps l D cI B.1 B.2 (M 0) (M 1) (M 4) (M 6) (M 7) (M 8) p1 u hu) (perm_idx0 [0, 1, 4, 6, 7, 8, 2, 3, 5, 9, 10, 11, 12, 13, 14, 15] 16 rfl (by decide +kernel) rfl) (perm_idx0 [0, 1, 4, 6, 7, 8, 2, 3, 5, 9, 10, 11, 12, 13, 14, 15] 16 rfl (by decide +kernel) rfl)
def pM_evict (M : Nat → Nat → Int32) (p1 : Int32) (p2 : Int32) : Option (Int32 × (Nat → Nat → Int32)) := bd (m_X12_evict (M 0) (M 1) (M 4) p1 p2) fun u => some (u.1, (upC (upC (upC M 0 u.2.1) 1 u.2.2.1) 4 u.2.2.2))
set_option maxHeartbeats 4000000 in
set_option maxRecDepth 100000 in
theorem kM_evict (l : Launch) (D : va_G) (cI : ClassId) (B : Nat × (Nat → Nat)) (M : Nat → Nat → Int32) (p1 : Int32) (p2 : Int32) (R : Int32 × (Nat → Nat → Int32)) (hf : pM_evict M p1 p2 = some R) : CTi l yX12_evict (Cond.code yX12_evict cX12_evict 3 (some .int)) rm_X12_evict D cI [.ref B.1, .int p1, .int p2] (rfw cI B M) R.1 (rfw cI B R.2) := by
  obtain ⟨u, hu, hf⟩ := bd_some hf
  obtain rfl := Option.some.inj hf
  exact lg_i (fr := (List.filterMap (fun i : Nat => (rfw cI B M)[i]?) [2, 3, 5, 6, 7, 8, 9, 10, 11, 12, 13, 14, 15])) (c_X12_evict l D cI B.1 B.2 (M 0) (M 1) (M 4) p1 p2 u hu) (perm_idx0 [0, 1, 4, 2, 3, 5, 6, 7, 8, 9, 10, 11, 12, 13, 14, 15] 16 rfl (by decide +kernel) rfl) (perm_idx0 [0, 1, 4, 2, 3, 5, 6, 7, 8, 9, 10, 11, 12, 13, 14, 15] 16 rfl (by decide +kernel) rfl)
def pM_crash (M : Nat → Nat → Int32) (p1 : Int32) : Option (Int32 × (Nat → Nat → Int32)) := bd (m_X12_crash (M 0) (M 1) (M 4) (M 9) (M 10) (M 11) (M 12) p1) fun u => some (u.1, (upC (upC (upC (upC (upC (upC (upC M 0 u.2.1) 1 u.2.2.1) 4 u.2.2.2.1) 9 u.2.2.2.2.1) 10 u.2.2.2.2.2.1) 11 u.2.2.2.2.2.2.1) 12 u.2.2.2.2.2.2.2))
set_option maxHeartbeats 4000000 in
set_option maxRecDepth 100000 in
theorem kM_crash (l : Launch) (D : va_G) (cI : ClassId) (B : Nat × (Nat → Nat)) (M : Nat → Nat → Int32) (p1 : Int32) (R : Int32 × (Nat → Nat → Int32)) (hf : pM_crash M p1 = some R) : CTi l yX12_crash (Cond.code yX12_crash cX12_crash 2 (some .int)) rm_X12_crash D cI [.ref B.1, .int p1] (rfw cI B M) R.1 (rfw cI B R.2) := by
  obtain ⟨u, hu, hf⟩ := bd_some hf
  obtain rfl := Option.some.inj hf
  exact lg_i (fr := (List.filterMap (fun i : Nat => (rfw cI B M)[i]?) [2, 3, 5, 6, 7, 8, 13, 14, 15])) (c_X12_crash l D cI B.1 B.2 (M 0) (M 1) (M 4) (M 9) (M 10) (M 11) (M 12) p1 u hu) (perm_idx0 [0, 1, 4, 9, 10, 11, 12, 2, 3, 5, 6, 7, 8, 13, 14, 15] 16 rfl (by decide +kernel) rfl) (perm_idx0 [0, 1, 4, 9, 10, 11, 12, 2, 3, 5, 6, 7, 8, 13, 14, 15] 16 rfl (by decide +kernel) rfl)
def pM_recover (M : Nat → Nat → Int32) : Option (Int32 × (Nat → Nat → Int32)) := bd (m_X12_recover (M 0) (M 1) (M 4) (M 7) (M 8) (M 9)) fun u => some (u.1, (upC (upC (upC (upC (upC (upC M 0 u.2.1) 1 u.2.2.1) 4 u.2.2.2.1) 7 u.2.2.2.2.1) 8 u.2.2.2.2.2.1) 9 u.2.2.2.2.2.2))
set_option maxHeartbeats 4000000 in
set_option maxRecDepth 100000 in
theorem kM_recover (l : Launch) (D : va_G) (cI : ClassId) (B : Nat × (Nat → Nat)) (M : Nat → Nat → Int32) (R : Int32 × (Nat → Nat → Int32)) (hf : pM_recover M = some R) : CTi l yX12_recover (Cond.code yX12_recover cX12_recover 1 (some .int)) rm_X12_recover D cI [.ref B.1] (rfw cI B M) R.1 (rfw cI B R.2) := by
  obtain ⟨u, hu, hf⟩ := bd_some hf
  obtain rfl := Option.some.inj hf
  exact lg_i (fr := (List.filterMap (fun i : Nat => (rfw cI B M)[i]?) [2, 3, 5, 6, 10, 11, 12, 13, 14, 15])) (c_X12_recover l D cI B.1 B.2 (M 0) (M 1) (M 4) (M 7) (M 8) (M 9) u hu) (perm_idx0 [0, 1, 4, 7, 8, 9, 2, 3, 5, 6, 10, 11, 12, 13, 14, 15] 16 rfl (by decide +kernel) rfl) (perm_idx0 [0, 1, 4, 7, 8, 9, 2, 3, 5, 6, 10, 11, 12, 13, 14, 15] 16 rfl (by decide +kernel) rfl)
def pM_later (M : Nat → Nat → Int32) (p1 : Int32) (p2 : Int32) (p3 : Int32) : Option (Int32 × (Nat → Nat → Int32)) := bd (m_X12_later (M 0) (M 1) (M 4) p1 p2 p3) fun u => some (u.1, (upC (upC (upC M 0 u.2.1) 1 u.2.2.1) 4 u.2.2.2))
set_option maxHeartbeats 4000000 in
set_option maxRecDepth 100000 in
theorem kM_later (l : Launch) (D : va_G) (cI : ClassId) (B : Nat × (Nat → Nat)) (M : Nat → Nat → Int32) (p1 : Int32) (p2 : Int32) (p3 : Int32) (R : Int32 × (Nat → Nat → Int32)) (hf : pM_later M p1 p2 p3 = some R) : CTi l yX12_later (Cond.code yX12_later cX12_later 4 (some .int)) rm_X12_later D cI [.ref B.1, .int p1, .int p2, .int p3] (rfw cI B M) R.1 (rfw cI B R.2) := by
  obtain ⟨u, hu, hf⟩ := bd_some hf
  obtain rfl := Option.some.inj hf
  exact lg_i (fr := (List.filterMap (fun i : Nat => (rfw cI B M)[i]?) [2, 3, 5, 6, 7, 8, 9, 10, 11, 12, 13, 14, 15])) (c_X12_later l D cI B.1 B.2 (M 0) (M 1) (M 4) p1 p2 p3 u hu) (perm_idx0 [0, 1, 4, 2, 3, 5, 6, 7, 8, 9, 10, 11, 12, 13, 14, 15] 16 rfl (by decide +kernel) rfl) (perm_idx0 [0, 1, 4, 2, 3, 5, 6, 7, 8, 9, 10, 11, 12, 13, 14, 15] 16 rfl (by decide +kernel) rfl)
def pM_site (M : Nat → Nat → Int32) (p1 : Int32) : Option (Int32 × (Nat → Nat → Int32)) := bd (m_X12_site (M 0) (M 1) (M 4) p1) fun u => some (u.1, (upC (upC (upC M 0 u.2.1) 1 u.2.2.1) 4 u.2.2.2))
set_option maxHeartbeats 4000000 in
set_option maxRecDepth 100000 in
theorem kM_site (l : Launch) (D : va_G) (cI : ClassId) (B : Nat × (Nat → Nat)) (M : Nat → Nat → Int32) (p1 : Int32) (R : Int32 × (Nat → Nat → Int32)) (hf : pM_site M p1 = some R) : CTi l yX12_site (Cond.code yX12_site cX12_site 2 (some .int)) rm_X12_site D cI [.ref B.1, .int p1] (rfw cI B M) R.1 (rfw cI B R.2) := by
  obtain ⟨u, hu, hf⟩ := bd_some hf
  obtain rfl := Option.some.inj hf
  exact lg_i (fr := (List.filterMap (fun i : Nat => (rfw cI B M)[i]?) [2, 3, 5, 6, 7, 8, 9, 10, 11, 12, 13, 14, 15])) (c_X12_site l D cI B.1 B.2 (M 0) (M 1) (M 4) p1 u hu) (perm_idx0 [0, 1, 4, 2, 3, 5, 6, 7, 8, 9, 10, 11, 12, 13, 14, 15] 16 rfl (by decide +kernel) rfl) (perm_idx0 [0, 1, 4, 2, 3, 5, 6, 7, 8, 9, 10, 11, 12, 13, 14, 15] 16 rfl (by decide +kernel) rfl)
def pM_undo (M : Nat → Nat → Int32) : Option (Int32 × (Nat → Nat → Int32)) := bd (m_X12_undo (M 0) (M 1)) fun u => some (u.1, (upC (upC M 0 u.2.1) 1 u.2.2))
set_option maxHeartbeats 4000000 in
set_option maxRecDepth 100000 in
theorem kM_undo (l : Launch) (D : va_G) (cI : ClassId) (B : Nat × (Nat → Nat)) (M : Nat → Nat → Int32) (R : Int32 × (Nat → Nat → Int32)) (hf : pM_undo M = some R) : CTi l yX12_undo (Cond.code yX12_undo cX12_undo 1 (some .int)) rm_X12_undo D cI [.ref B.1] (rfw cI B M) R.1 (rfw cI B R.2) := by
  obtain ⟨u, hu, hf⟩ := bd_some hf
  obtain rfl := Option.some.inj hf
  exact lg_i (fr := (List.filterMap (fun i : Nat => (rfw cI B M)[i]?) [2, 3, 4, 5, 6, 7, 8, 9, 10, 11, 12, 13, 14, 15])) (c_X12_undo l D cI B.1 B.2 (M 0) (M 1) u hu) (perm_idx0 [0, 1, 2, 3, 4, 5, 6, 7, 8, 9, 10, 11, 12, 13, 14, 15] 16 rfl (by decide +kernel) rfl) (perm_idx0 [0, 1, 2, 3, 4, 5, 6, 7, 8, 9, 10, 11, 12, 13, 14, 15] 16 rfl (by decide +kernel) rfl)
def pM_recovered (M : Nat → Nat → Int32) (p1 : Int32) (p2 : Int32) : Option (Int32 × (Nat → Nat → Int32)) := bd (m_X12_recovered (M 0) (M 1) (M 10) (M 11) p1 p2) fun u => some (u.1, (upC (upC (upC M 0 u.2.1) 10 u.2.2.1) 11 u.2.2.2))
set_option maxHeartbeats 4000000 in
set_option maxRecDepth 100000 in
theorem kM_recovered (l : Launch) (D : va_G) (cI : ClassId) (B : Nat × (Nat → Nat)) (M : Nat → Nat → Int32) (p1 : Int32) (p2 : Int32) (R : Int32 × (Nat → Nat → Int32)) (hf : pM_recovered M p1 p2 = some R) : CTi l yX12_recovered (Cond.code yX12_recovered cX12_recovered 3 (some .int)) rm_X12_recovered D cI [.ref B.1, .int p1, .int p2] (rfw cI B M) R.1 (rfw cI B R.2) := by
  obtain ⟨u, hu, hf⟩ := bd_some hf
  obtain rfl := Option.some.inj hf
  exact lg_i (fr := (List.filterMap (fun i : Nat => (rfw cI B M)[i]?) [2, 3, 4, 5, 6, 7, 8, 9, 12, 13, 14, 15])) (c_X12_recovered l D cI B.1 B.2 (M 0) (M 1) (M 10) (M 11) p1 p2 u hu) (perm_idx0 [0, 1, 10, 11, 2, 3, 4, 5, 6, 7, 8, 9, 12, 13, 14, 15] 16 rfl (by decide +kernel) rfl) (perm_idx0 [0, 1, 10, 11, 2, 3, 4, 5, 6, 7, 8, 9, 12, 13, 14, 15] 16 rfl (by decide +kernel) rfl)
def pM_fate (M : Nat → Nat → Int32) (p1 : Int32) : Option (Int32 × (Nat → Nat → Int32)) := bd (m_X12_fate (M 0) (M 1) (M 9) (M 10) (M 11) (M 12) p1) fun u => some (u.1, (upC (upC (upC (upC (upC M 0 u.2.1) 9 u.2.2.1) 10 u.2.2.2.1) 11 u.2.2.2.2.1) 12 u.2.2.2.2.2))
set_option maxHeartbeats 4000000 in
set_option maxRecDepth 100000 in
theorem kM_fate (l : Launch) (D : va_G) (cI : ClassId) (B : Nat × (Nat → Nat)) (M : Nat → Nat → Int32) (p1 : Int32) (R : Int32 × (Nat → Nat → Int32)) (hf : pM_fate M p1 = some R) : CTi l yX12_fate (Cond.code yX12_fate cX12_fate 2 (some .int)) rm_X12_fate D cI [.ref B.1, .int p1] (rfw cI B M) R.1 (rfw cI B R.2) := by
  obtain ⟨u, hu, hf⟩ := bd_some hf
  obtain rfl := Option.some.inj hf
  exact lg_i (fr := (List.filterMap (fun i : Nat => (rfw cI B M)[i]?) [2, 3, 4, 5, 6, 7, 8, 13, 14, 15])) (c_X12_fate l D cI B.1 B.2 (M 0) (M 1) (M 9) (M 10) (M 11) (M 12) p1 u hu) (perm_idx0 [0, 1, 9, 10, 11, 12, 2, 3, 4, 5, 6, 7, 8, 13, 14, 15] 16 rfl (by decide +kernel) rfl) (perm_idx0 [0, 1, 9, 10, 11, 12, 2, 3, 4, 5, 6, 7, 8, 13, 14, 15] 16 rfl (by decide +kernel) rfl)
def pM_check (M : Nat → Nat → Int32) (p1 : Int32) : Option (Int32 × (Nat → Nat → Int32)) := bd (m_X12_check (M 0) (M 1) (M 6) (M 7) (M 8) (M 9) (M 10) (M 11) (M 12) p1) fun u => some (u.1, (upC (upC (upC (upC (upC (upC (upC (upC (upC M 0 u.2.1) 1 u.2.2.1) 6 u.2.2.2.1) 7 u.2.2.2.2.1) 8 u.2.2.2.2.2.1) 9 u.2.2.2.2.2.2.1) 10 u.2.2.2.2.2.2.2.1) 11 u.2.2.2.2.2.2.2.2.1) 12 u.2.2.2.2.2.2.2.2.2))
set_option maxHeartbeats 4000000 in
set_option maxRecDepth 100000 in
theorem kM_check (l : Launch) (D : va_G) (cI : ClassId) (B : Nat × (Nat → Nat)) (M : Nat → Nat → Int32) (p1 : Int32) (R : Int32 × (Nat → Nat → Int32)) (hf : pM_check M p1 = some R) : CTi l yX12_check (Cond.code yX12_check cX12_check 2 (some .int)) rm_X12_check D cI [.ref B.1, .int p1] (rfw cI B M) R.1 (rfw cI B R.2) := by
  obtain ⟨u, hu, hf⟩ := bd_some hf
  obtain rfl := Option.some.inj hf
  exact lg_i (fr := (List.filterMap (fun i : Nat => (rfw cI B M)[i]?) [2, 3, 4, 5, 13, 14, 15])) (c_X12_check l D cI B.1 B.2 (M 0) (M 1) (M 6) (M 7) (M 8) (M 9) (M 10) (M 11) (M 12) p1 u hu) (perm_idx0 [0, 1, 6, 7, 8, 9, 10, 11, 12, 2, 3, 4, 5, 13, 14, 15] 16 rfl (by decide +kernel) rfl) (perm_idx0 [0, 1, 6, 7, 8, 9, 10, 11, 12, 2, 3, 4, 5, 13, 14, 15] 16 rfl (by decide +kernel) rfl)
def pM_needless (M : Nat → Nat → Int32) : Option (Int32 × (Nat → Nat → Int32)) := bd (m_X12_needless (M 0) (M 1) (M 6) (M 7) (M 8) (M 9) (M 10) (M 11) (M 12)) fun u => some (u.1, (upC (upC (upC (upC (upC (upC (upC (upC (upC M 0 u.2.1) 1 u.2.2.1) 6 u.2.2.2.1) 7 u.2.2.2.2.1) 8 u.2.2.2.2.2.1) 9 u.2.2.2.2.2.2.1) 10 u.2.2.2.2.2.2.2.1) 11 u.2.2.2.2.2.2.2.2.1) 12 u.2.2.2.2.2.2.2.2.2))
set_option maxHeartbeats 4000000 in
set_option maxRecDepth 100000 in
theorem kM_needless (l : Launch) (D : va_G) (cI : ClassId) (B : Nat × (Nat → Nat)) (M : Nat → Nat → Int32) (R : Int32 × (Nat → Nat → Int32)) (hf : pM_needless M = some R) : CTi l yX12_needless (Cond.code yX12_needless cX12_needless 3 (some .int)) rm_X12_needless D cI [.ref B.1] (rfw cI B M) R.1 (rfw cI B R.2) := by
  obtain ⟨u, hu, hf⟩ := bd_some hf
  obtain rfl := Option.some.inj hf
  exact lg_i (fr := (List.filterMap (fun i : Nat => (rfw cI B M)[i]?) [2, 3, 4, 5, 13, 14, 15])) (c_X12_needless l D cI B.1 B.2 (M 0) (M 1) (M 6) (M 7) (M 8) (M 9) (M 10) (M 11) (M 12) u hu) (perm_idx0 [0, 1, 6, 7, 8, 9, 10, 11, 12, 2, 3, 4, 5, 13, 14, 15] 16 rfl (by decide +kernel) rfl) (perm_idx0 [0, 1, 6, 7, 8, 9, 10, 11, 12, 2, 3, 4, 5, 13, 14, 15] 16 rfl (by decide +kernel) rfl)
def pM_least (M : Nat → Nat → Int32) (p1 : Int32) : Option (Int32 × (Nat → Nat → Int32)) := bd (m_X12_least (M 0) (M 1) (M 6) (M 7) (M 8) (M 9) (M 10) (M 11) (M 12) p1) fun u => some (u.1, (upC (upC (upC (upC (upC (upC (upC (upC (upC M 0 u.2.1) 1 u.2.2.1) 6 u.2.2.2.1) 7 u.2.2.2.2.1) 8 u.2.2.2.2.2.1) 9 u.2.2.2.2.2.2.1) 10 u.2.2.2.2.2.2.2.1) 11 u.2.2.2.2.2.2.2.2.1) 12 u.2.2.2.2.2.2.2.2.2))
set_option maxHeartbeats 4000000 in
set_option maxRecDepth 100000 in
theorem kM_least (l : Launch) (D : va_G) (cI : ClassId) (B : Nat × (Nat → Nat)) (M : Nat → Nat → Int32) (p1 : Int32) (R : Int32 × (Nat → Nat → Int32)) (hf : pM_least M p1 = some R) : CTi l yX12_least (Cond.code yX12_least cX12_least 4 (some .int)) rm_X12_least D cI [.ref B.1, .int p1] (rfw cI B M) R.1 (rfw cI B R.2) := by
  obtain ⟨u, hu, hf⟩ := bd_some hf
  obtain rfl := Option.some.inj hf
  exact lg_i (fr := (List.filterMap (fun i : Nat => (rfw cI B M)[i]?) [2, 3, 4, 5, 13, 14, 15])) (c_X12_least l D cI B.1 B.2 (M 0) (M 1) (M 6) (M 7) (M 8) (M 9) (M 10) (M 11) (M 12) p1 u hu) (perm_idx0 [0, 1, 6, 7, 8, 9, 10, 11, 12, 2, 3, 4, 5, 13, 14, 15] 16 rfl (by decide +kernel) rfl) (perm_idx0 [0, 1, 6, 7, 8, 9, 10, 11, 12, 2, 3, 4, 5, 13, 14, 15] 16 rfl (by decide +kernel) rfl)
def pM_chance (M : Nat → Nat → Int32) (p1 : Int32) : Option (Int32 × (Nat → Nat → Int32)) := bd (m_X12_chance (M 0) (M 1) (M 9) (M 10) (M 11) (M 12) p1) fun u => some (u.1, (upC (upC (upC (upC (upC M 0 u.2.1) 9 u.2.2.1) 10 u.2.2.2.1) 11 u.2.2.2.2.1) 12 u.2.2.2.2.2))
set_option maxHeartbeats 4000000 in
set_option maxRecDepth 100000 in
theorem kM_chance (l : Launch) (D : va_G) (cI : ClassId) (B : Nat × (Nat → Nat)) (M : Nat → Nat → Int32) (p1 : Int32) (R : Int32 × (Nat → Nat → Int32)) (hf : pM_chance M p1 = some R) : CTi l yX12_chance (Cond.code yX12_chance cX12_chance 7 (some .int)) rm_X12_chance D cI [.ref B.1, .int p1] (rfw cI B M) R.1 (rfw cI B R.2) := by
  obtain ⟨u, hu, hf⟩ := bd_some hf
  obtain rfl := Option.some.inj hf
  exact lg_i (fr := (List.filterMap (fun i : Nat => (rfw cI B M)[i]?) [2, 3, 4, 5, 6, 7, 8, 13, 14, 15])) (c_X12_chance l D cI B.1 B.2 (M 0) (M 1) (M 9) (M 10) (M 11) (M 12) p1 u hu) (perm_idx0 [0, 1, 9, 10, 11, 12, 2, 3, 4, 5, 6, 7, 8, 13, 14, 15] 16 rfl (by decide +kernel) rfl) (perm_idx0 [0, 1, 9, 10, 11, 12, 2, 3, 4, 5, 6, 7, 8, 13, 14, 15] 16 rfl (by decide +kernel) rfl)
def pM_see (M : Nat → Nat → Int32) (p1 : Int32) (p2 : Int32) : Option (Int32 × (Nat → Nat → Int32)) := bd (m_X12_see (M 0) (M 2) (M 3) (M 4) p1 p2) fun u => some (u.1, (upC (upC (upC (upC M 0 u.2.1) 2 u.2.2.1) 3 u.2.2.2.1) 4 u.2.2.2.2))
set_option maxHeartbeats 4000000 in
set_option maxRecDepth 100000 in
theorem kM_see (l : Launch) (D : va_G) (cI : ClassId) (B : Nat × (Nat → Nat)) (M : Nat → Nat → Int32) (p1 : Int32) (p2 : Int32) (R : Int32 × (Nat → Nat → Int32)) (hf : pM_see M p1 p2 = some R) : CTi l yX12_see (Cond.code yX12_see cX12_see 3 (some .int)) rm_X12_see D cI [.ref B.1, .int p1, .int p2] (rfw cI B M) R.1 (rfw cI B R.2) := by
  obtain ⟨u, hu, hf⟩ := bd_some hf
  obtain rfl := Option.some.inj hf
  exact lg_i (fr := (List.filterMap (fun i : Nat => (rfw cI B M)[i]?) [1, 5, 6, 7, 8, 9, 10, 11, 12, 13, 14, 15])) (c_X12_see l D cI B.1 B.2 (M 0) (M 2) (M 3) (M 4) p1 p2 u hu) (perm_idx0 [0, 2, 3, 4, 1, 5, 6, 7, 8, 9, 10, 11, 12, 13, 14, 15] 16 rfl (by decide +kernel) rfl) (perm_idx0 [0, 2, 3, 4, 1, 5, 6, 7, 8, 9, 10, 11, 12, 13, 14, 15] 16 rfl (by decide +kernel) rfl)
def pM_explained (M : Nat → Nat → Int32) (p1 : Int32) : Option (Int32 × (Nat → Nat → Int32)) := bd (m_X12_explained (M 0) (M 1) (M 2) (M 3) (M 10) (M 11) (M 15) p1) fun u => some (u.1, (upC (upC (upC (upC M 0 u.2.1) 10 u.2.2.1) 11 u.2.2.2.1) 15 u.2.2.2.2))
set_option maxHeartbeats 4000000 in
set_option maxRecDepth 100000 in
theorem kM_explained (l : Launch) (D : va_G) (cI : ClassId) (B : Nat × (Nat → Nat)) (M : Nat → Nat → Int32) (p1 : Int32) (R : Int32 × (Nat → Nat → Int32)) (hf : pM_explained M p1 = some R) : CTi l yX12_explained (Cond.code yX12_explained cX12_explained 3 (some .int)) rm_X12_explained D cI [.ref B.1, .int p1] (rfw cI B M) R.1 (rfw cI B R.2) := by
  obtain ⟨u, hu, hf⟩ := bd_some hf
  obtain rfl := Option.some.inj hf
  exact lg_i (fr := (List.filterMap (fun i : Nat => (rfw cI B M)[i]?) [4, 5, 6, 7, 8, 9, 12, 13, 14])) (c_X12_explained l D cI B.1 B.2 (M 0) (M 1) (M 2) (M 3) (M 10) (M 11) (M 15) p1 u hu) (perm_idx0 [0, 1, 2, 3, 10, 11, 15, 4, 5, 6, 7, 8, 9, 12, 13, 14] 16 rfl (by decide +kernel) rfl) (perm_idx0 [0, 1, 2, 3, 10, 11, 15, 4, 5, 6, 7, 8, 9, 12, 13, 14] 16 rfl (by decide +kernel) rfl)
def pM_look (M : Nat → Nat → Int32) (p1 : Int32) : Option (Int32 × (Nat → Nat → Int32)) := bd (m_X12_look (M 0) (M 1) (M 2) (M 3) (M 10) (M 11) (M 15) p1) fun u => some (u.1, (upC (upC (upC (upC M 0 u.2.1) 10 u.2.2.1) 11 u.2.2.2.1) 15 u.2.2.2.2))
set_option maxHeartbeats 4000000 in
set_option maxRecDepth 100000 in
theorem kM_look (l : Launch) (D : va_G) (cI : ClassId) (B : Nat × (Nat → Nat)) (M : Nat → Nat → Int32) (p1 : Int32) (R : Int32 × (Nat → Nat → Int32)) (hf : pM_look M p1 = some R) : CTi l yX12_look (Cond.code yX12_look cX12_look 6 (some .int)) rm_X12_look D cI [.ref B.1, .int p1] (rfw cI B M) R.1 (rfw cI B R.2) := by
  obtain ⟨u, hu, hf⟩ := bd_some hf
  obtain rfl := Option.some.inj hf
  exact lg_i (fr := (List.filterMap (fun i : Nat => (rfw cI B M)[i]?) [4, 5, 6, 7, 8, 9, 12, 13, 14])) (c_X12_look l D cI B.1 B.2 (M 0) (M 1) (M 2) (M 3) (M 10) (M 11) (M 15) p1 u hu) (perm_idx0 [0, 1, 2, 3, 10, 11, 15, 4, 5, 6, 7, 8, 9, 12, 13, 14] 16 rfl (by decide +kernel) rfl) (perm_idx0 [0, 1, 2, 3, 10, 11, 15, 4, 5, 6, 7, 8, 9, 12, 13, 14] 16 rfl (by decide +kernel) rfl)
def pM_forget (M : Nat → Nat → Int32) : Option ((Nat → Nat → Int32)) := bd (m_X12_forget (M 0)) fun u => some ((upC M 0 u))
set_option maxHeartbeats 4000000 in
set_option maxRecDepth 100000 in
theorem kM_forget (l : Launch) (D : va_G) (cI : ClassId) (B : Nat × (Nat → Nat)) (M : Nat → Nat → Int32) (R : (Nat → Nat → Int32)) (hf : pM_forget M = some R) : CTv l yX12_forget (Cond.code yX12_forget cX12_forget 1 none) rm_X12_forget D cI [.ref B.1] (rfw cI B M) (rfw cI B R) := by
  obtain ⟨u, hu, hf⟩ := bd_some hf
  obtain rfl := Option.some.inj hf
  exact lg_v (fr := (List.filterMap (fun i : Nat => (rfw cI B M)[i]?) [1, 2, 3, 4, 5, 6, 7, 8, 9, 10, 11, 12, 13, 14, 15])) (c_X12_forget l D cI B.1 B.2 (M 0) u hu) (perm_idx0 [0, 1, 2, 3, 4, 5, 6, 7, 8, 9, 10, 11, 12, 13, 14, 15] 16 rfl (by decide +kernel) rfl) (perm_idx0 [0, 1, 2, 3, 4, 5, 6, 7, 8, 9, 10, 11, 12, 13, 14, 15] 16 rfl (by decide +kernel) rfl)
def pM_years (M : Nat → Nat → Int32) (p1 : Int32) (p2 : Int32) (p3 : Int32) : Option (Int32 × (Nat → Nat → Int32)) := bd (m_X12_years (M 0) (M 1) (M 6) (M 7) (M 8) (M 9) (M 10) (M 11) (M 12) p1 p2 p3) fun u => some (u.1, (upC (upC (upC (upC (upC (upC (upC (upC (upC M 0 u.2.1) 1 u.2.2.1) 6 u.2.2.2.1) 7 u.2.2.2.2.1) 8 u.2.2.2.2.2.1) 9 u.2.2.2.2.2.2.1) 10 u.2.2.2.2.2.2.2.1) 11 u.2.2.2.2.2.2.2.2.1) 12 u.2.2.2.2.2.2.2.2.2))
set_option maxHeartbeats 4000000 in
set_option maxRecDepth 100000 in
theorem kM_years (l : Launch) (D : va_G) (cI : ClassId) (B : Nat × (Nat → Nat)) (M : Nat → Nat → Int32) (p1 : Int32) (p2 : Int32) (p3 : Int32) (R : Int32 × (Nat → Nat → Int32)) (hf : pM_years M p1 p2 p3 = some R) : CTi l yX12_years (Cond.code yX12_years cX12_years 5 (some .int)) rm_X12_years D cI [.ref B.1, .int p1, .int p2, .int p3] (rfw cI B M) R.1 (rfw cI B R.2) := by
  obtain ⟨u, hu, hf⟩ := bd_some hf
  obtain rfl := Option.some.inj hf
  exact lg_i (fr := (List.filterMap (fun i : Nat => (rfw cI B M)[i]?) [2, 3, 4, 5, 13, 14, 15])) (c_X12_years l D cI B.1 B.2 (M 0) (M 1) (M 6) (M 7) (M 8) (M 9) (M 10) (M 11) (M 12) p1 p2 p3 u hu) (perm_idx0 [0, 1, 6, 7, 8, 9, 10, 11, 12, 2, 3, 4, 5, 13, 14, 15] 16 rfl (by decide +kernel) rfl) (perm_idx0 [0, 1, 6, 7, 8, 9, 10, 11, 12, 2, 3, 4, 5, 13, 14, 15] 16 rfl (by decide +kernel) rfl)
def pM_image (M : Nat → Nat → Int32) : Option ((Nat → Nat → Int32)) := bd (m_X12_image (M 0) (M 1) (M 2) (M 3) (M 4)) fun u => some ((upC (upC (upC (upC (upC M 0 u.1) 1 u.2.1) 2 u.2.2.1) 3 u.2.2.2.1) 4 u.2.2.2.2))
set_option maxHeartbeats 4000000 in
set_option maxRecDepth 100000 in
theorem kM_image (l : Launch) (D : va_G) (cI : ClassId) (B : Nat × (Nat → Nat)) (M : Nat → Nat → Int32) (R : (Nat → Nat → Int32)) (hf : pM_image M = some R) : CTv l yX12_image (Cond.code yX12_image cX12_image 2 none) rm_X12_image D cI [.ref B.1] (rfw cI B M) (rfw cI B R) := by
  obtain ⟨u, hu, hf⟩ := bd_some hf
  obtain rfl := Option.some.inj hf
  exact lg_v (fr := (List.filterMap (fun i : Nat => (rfw cI B M)[i]?) [5, 6, 7, 8, 9, 10, 11, 12, 13, 14, 15])) (c_X12_image l D cI B.1 B.2 (M 0) (M 1) (M 2) (M 3) (M 4) u hu) (perm_idx0 [0, 1, 2, 3, 4, 5, 6, 7, 8, 9, 10, 11, 12, 13, 14, 15] 16 rfl (by decide +kernel) rfl) (perm_idx0 [0, 1, 2, 3, 4, 5, 6, 7, 8, 9, 10, 11, 12, 13, 14, 15] 16 rfl (by decide +kernel) rfl)
def pM_restore (M : Nat → Nat → Int32) : Option (Int32 × (Nat → Nat → Int32)) := bd (m_X12_restore (M 0) (M 1) (M 2) (M 3) (M 4)) fun u => some (u.1, (upC (upC (upC (upC (upC M 0 u.2.1) 1 u.2.2.1) 2 u.2.2.2.1) 3 u.2.2.2.2.1) 4 u.2.2.2.2.2))
set_option maxHeartbeats 4000000 in
set_option maxRecDepth 100000 in
theorem kM_restore (l : Launch) (D : va_G) (cI : ClassId) (B : Nat × (Nat → Nat)) (M : Nat → Nat → Int32) (R : Int32 × (Nat → Nat → Int32)) (hf : pM_restore M = some R) : CTi l yX12_restore (Cond.code yX12_restore cX12_restore 2 (some .boolean)) rm_X12_restore D cI [.ref B.1] (rfw cI B M) R.1 (rfw cI B R.2) := by
  obtain ⟨u, hu, hf⟩ := bd_some hf
  obtain rfl := Option.some.inj hf
  exact lg_i (fr := (List.filterMap (fun i : Nat => (rfw cI B M)[i]?) [5, 6, 7, 8, 9, 10, 11, 12, 13, 14, 15])) (c_X12_restore l D cI B.1 B.2 (M 0) (M 1) (M 2) (M 3) (M 4) u hu) (perm_idx0 [0, 1, 2, 3, 4, 5, 6, 7, 8, 9, 10, 11, 12, 13, 14, 15] 16 rfl (by decide +kernel) rfl) (perm_idx0 [0, 1, 2, 3, 4, 5, 6, 7, 8, 9, 10, 11, 12, 13, 14, 15] 16 rfl (by decide +kernel) rfl)
def pM_thrown (M : Nat → Nat → Int32) : Option (Int32 × (Nat → Nat → Int32)) := bd (m_X12_thrown (M 0)) fun u => some (u, M)
set_option maxHeartbeats 4000000 in
set_option maxRecDepth 100000 in
theorem kM_thrown (l : Launch) (D : va_G) (cI : ClassId) (B : Nat × (Nat → Nat)) (M : Nat → Nat → Int32) (R : Int32 × (Nat → Nat → Int32)) (hf : pM_thrown M = some R) : CTi l yX12_thrown (Cond.code yX12_thrown cX12_thrown 1 (some .int)) rm_X12_thrown D cI [.ref B.1] (rfw cI B M) R.1 (rfw cI B R.2) := by
  obtain ⟨u, hu, hf⟩ := bd_some hf
  obtain rfl := Option.some.inj hf
  exact lg_i (fr := (List.filterMap (fun i : Nat => (rfw cI B M)[i]?) [1, 2, 3, 4, 5, 6, 7, 8, 9, 10, 11, 12, 13, 14, 15])) (c_X12_thrown l D cI B.1 B.2 (M 0) u hu) (perm_idx0 [0, 1, 2, 3, 4, 5, 6, 7, 8, 9, 10, 11, 12, 13, 14, 15] 16 rfl (by decide +kernel) rfl) (perm_idx0 [0, 1, 2, 3, 4, 5, 6, 7, 8, 9, 10, 11, 12, 13, 14, 15] 16 rfl (by decide +kernel) rfl)
