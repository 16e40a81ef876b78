/-! ===== contracts of methods that answer an int or throw: x = 0 they answer v; x = 1, 2 they throw ===== -/
abbrev nNSE : String := "java/util/NoSuchElementException"
abbrev nIAE : String := "java/lang/IllegalArgumentException"
def exN (x : Int32) : String := if x = 1 then nNSE else nIAE
def Rx {σ : Type} (D : va_G) (wc : va_W) (x v : Int32) (w1 : σ → va_W) (sz : Nat) : Array Value → State → Outcome → State → Prop := va_Qi (fun (r : Int32) (_ : σ) => x = 0 ∧ r = v) (fun u t => va_P D vwCl (w1 u) t.heap ∧ va_D (va_A wc sz) (w1 u)) (va_A wc sz)
def Xx {σ : Type} (D : va_G) (wc : va_W) (x : Int32) (w1 : σ → va_W) (sz : Nat) : String → State → State → Prop := vx_X (fun (_ : σ) => ¬ x = 0) (fun E u t => E = exN x ∧ va_P D vwCl (w1 u) t.heap ∧ va_D (va_A wc sz) (w1 u)) (va_A wc sz)
def CTx {σ : Type} (l : Launch) (y : MethodName) (cy : Cond) (rm : Room) (D : va_G) (cI : ClassId) (As : List Value) (wc : va_W) (x v : Int32) (w1 : σ → va_W) (mc ms : Nat) : Prop := ∀ sz : Nat, vx_Met l y (cy :: TB) rm (Pz D cI As wc sz) (Rx D wc x v w1 sz) (Xx D wc x w1 sz) mc ms (va_A wc sz)
abbrev cNSE : ByteArray := prog_32_method_4_code
abbrev cIAE : ByteArray := prog_19_method_2_code
abbrev nRTE : String := "java/lang/RuntimeException"
theorem zx_in {ws : List Cond} (ps : List Nat) (hp : ws = ps.filterMap (fun i => lw_tbl[i]?)) (h : ws.all (fun w => goodWord w || isCast w) = true) : ∀ w ∈ ws, w ∈ lw_tbl ∧ (goodWord w || isCast w) = true := by
  intro w hw
  have h1 := List.all_eq_true.mp h w hw
  rw [hp] at hw
  obtain ⟨i, -, hi⟩ := List.mem_filterMap.mp hw
  exact ⟨List.mem_of_getElem? hi, h1⟩
theorem zx_w1 : ∀ w ∈ (zx_at RX11 159 nNSE nRTE 13 cNSE ["java/lang/Exception"]).filter vx_no, w ∈ lw_tbl ∧ (goodWord w || isCast w) = true := zx_in [124, 891, 900, 903, 906, 908, 892, 893, 144, 145, 894, 899, 904, 924, 881, 925, 883, 926, 885, 895, 897, 887, 920, 921, 923, 887, 1110, 1111, 1112, 914, 873, 914, 915, 916, 917, 875, 917, 918, 919, 920, 877, 1109, 1100, 1101, 1102, 902, 1103, 1104, 1105, 1106, 890, 889, 1107] (by decide +kernel) (by decide +kernel)
theorem zx_w2 : ∀ w ∈ (zx_at RX11 91 nIAE nRTE 7 cIAE ["java/lang/Exception"]).filter vx_no, w ∈ lw_tbl ∧ (goodWord w || isCast w) = true := zx_in [124, 891, 900, 903, 906, 908, 892, 893, 144, 145, 894, 899, 904, 924, 881, 925, 883, 926, 885, 895, 897, 887, 920, 921, 923, 887, 911, 912, 913, 914, 873, 914, 915, 916, 917, 875, 917, 918, 919, 920, 877, 910, 870, 871, 878, 879, 880, 882, 884, 886, 890, 889, 888] (by decide +kernel) (by decide +kernel)
theorem zx_hat {D : va_G} {cI : ClassId} {args : Array Value} {s : State} {L : List Cond} (hL : ∀ w ∈ L, w ∈ lw_tbl ∧ (goodWord w || isCast w) = true) (hts : ∀ w ∈ TB, w.before args s = true) (hK : KK D cI s) : ∀ w ∈ L, w.before args s = true ∧ vx_ot w = true := by
  intro w hw
  obtain ⟨h1, h2⟩ := hL w hw
  cases hg : goodWord w
  · rw [hg, Bool.false_or] at h2
    have hot : w.onTables = true := by cases w <;> first | rfl | (simp [isCast] at h2)
    exact ⟨(hK.2.2.2.1 w (List.mem_filter.mpr ⟨h1, h2⟩)).use hot, by unfold vx_ot; rw [hot]; rfl⟩
  · exact ⟨hts w (List.mem_filter.mpr ⟨h1, hg⟩), by unfold vx_ot; rw [hg, Bool.or_true]⟩
theorem tq_X11_155 : Cond.classLink RX11 155 nNSE ∈ TB := tb_of 1099 (by decide +kernel) (by decide +kernel)
theorem tq_X11_87 : Cond.classLink RX11 87 nIAE ∈ TB := tb_of 869 (by decide +kernel) (by decide +kernel)
theorem tn_NSE : Cond.initialized nNSE ∈ TB := tb_of 135 (by decide +kernel) (by decide +kernel)
theorem tn_IAE : Cond.initialized nIAE ∈ TB := tb_of 127 (by decide +kernel) (by decide +kernel)
theorem ot_good {w : Cond} (h : w ∈ TB) : vx_ot w = true := by unfold vx_ot; rw [tb_good w h, Bool.or_true]
