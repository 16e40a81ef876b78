/-! ===== the class's object with all that it holds: the contents of its 88 cells by their places, what its history and its image keep ===== -/
abbrev CAd : Type := Nat × (Nat → Nat → Nat)
abbrev CV : Type := (Nat → MAd) × AAd × (Nat → MAd)
abbrev CS : Type := (Nat → Nat → Int32) × (Nat → Option MSt) × Option ASt × Bool
def rdA (A : CAd) (b : Bool) : Nat → Nat := cond b (updR (A.2 76) 2 (A.2 0 0)) (A.2 76)
abbrev cwB (D : va_G) (cI : ClassId) (A : CAd) (V : CV) (C : CS) : va_W := [(A.1, .inr (11, o_X11 (A.2 0) (C.1 0) (C.2.2.1.map (fun _ => V.2.1.1)))),
  ((A.2 0 0), .inl (cI, 700, .inl (C.1 1))),
  ((A.2 0 3), .inr (0, o_X0 (A.2 2) (C.1 2))),
  ((A.2 2 0), .inr (4, o_X4 (A.2 3) (C.1 3))),
  ((A.2 3 0), .inr (1, o_X1 (A.2 4))),
  ((A.2 4 0), .inl (cI, 64, .inl (C.1 5))),
  ((A.2 4 1), .inl (cI, 96, .inl (C.1 6))),
  ((A.2 4 2), .inl (cI, 16, .inl (C.1 7))),
  ((A.2 4 3), .inl (cI, 16, .inl (C.1 8))),
  ((A.2 3 1), .inl (cI, 80, .inl (C.1 9))),
  ((A.2 3 4), .inl (cI, 44, .inl (C.1 10))),
  ((A.2 3 5), .inl (cI, 44, .inl (C.1 11))),
  ((A.2 3 6), .inl (cI, 48, .inl (C.1 12))),
  ((A.2 3 11), .inl (cI, 8, .inl (C.1 13))),
  ((A.2 2 1), .inr (3, o_X3 (A.2 14) (C.1 14))),
  ((A.2 14 0), .inl (D.1 100, 40, .inr (.inr (.inr (.inr (hsf V.1 C.2.1)))))),
  ((A.2 2 2), .inl (cI, 8, .inl (C.1 16))),
  ((A.2 2 4), .inl (cI, 3, .inl (C.1 17))),
  ((A.2 0 6), .inr (5, o_X5 (A.2 18) (C.1 18))),
  ((A.2 18 0), .inl (cI, 64, .inl (C.1 19))),
  ((A.2 18 1), .inl (cI, 8, .inl (C.1 20))),
  ((A.2 18 2), .inl (cI, 8, .inl (C.1 21))),
  ((A.2 18 3), .inl (cI, 8, .inl (C.1 22))),
  ((A.2 18 6), .inr (7, o_X7 (A.2 23) (C.1 23))),
  ((A.2 0 7), .inr (9, o_X9 (A.2 24))),
  ((A.2 24 0), .inl (cI, 16, .inl (C.1 25))),
  ((A.2 24 1), .inl (cI, 64, .inl (C.1 26))),
  ((A.2 24 2), .inl (cI, 64, .inl (C.1 27))),
  ((A.2 0 8), .inr (7, o_X7 (A.2 28) (C.1 28))),
  ((A.2 0 9), .inr (8, o_X8 (A.2 29))),
  ((A.2 29 0), .inl (cI, 16, .inl (C.1 30))),
  ((A.2 29 1), .inl (cI, 4, .inl (C.1 31))),
  ((A.2 0 10), .inr (2, o_X2 (A.2 32) (C.1 32))),
  ((A.2 32 0), .inr (4, o_X4 (A.2 33) (C.1 33))),
  ((A.2 33 0), .inr (1, o_X1 (A.2 34))),
  ((A.2 34 0), .inl (cI, 64, .inl (C.1 35))),
  ((A.2 34 1), .inl (cI, 96, .inl (C.1 36))),
  ((A.2 34 2), .inl (cI, 16, .inl (C.1 37))),
  ((A.2 34 3), .inl (cI, 16, .inl (C.1 38))),
  ((A.2 33 1), .inl (cI, 80, .inl (C.1 39))),
  ((A.2 33 4), .inl (cI, 44, .inl (C.1 40))),
  ((A.2 33 5), .inl (cI, 44, .inl (C.1 41))),
  ((A.2 33 6), .inl (cI, 48, .inl (C.1 42))),
  ((A.2 33 11), .inl (cI, 8, .inl (C.1 43))),
  ((A.2 32 1), .inr (5, o_X5 (A.2 44) (C.1 44))),
  ((A.2 44 0), .inl (cI, 64, .inl (C.1 45))),
  ((A.2 44 1), .inl (cI, 8, .inl (C.1 46))),
  ((A.2 44 2), .inl (cI, 8, .inl (C.1 47))),
  ((A.2 44 3), .inl (cI, 8, .inl (C.1 48))),
  ((A.2 44 6), .inr (7, o_X7 (A.2 49) (C.1 49))),
  ((A.2 32 2), .inr (9, o_X9 (A.2 50))),
  ((A.2 50 0), .inl (cI, 16, .inl (C.1 51))),
  ((A.2 50 1), .inl (cI, 64, .inl (C.1 52))),
  ((A.2 50 2), .inl (cI, 64, .inl (C.1 53))),
  ((A.2 0 11), .inr (10, o_X10 (A.2 54) (C.1 54))),
  ((A.2 54 0), .inr (4, o_X4 (A.2 55) (C.1 55))),
  ((A.2 55 0), .inr (1, o_X1 (A.2 56))),
  ((A.2 56 0), .inl (cI, 64, .inl (C.1 57))),
  ((A.2 56 1), .inl (cI, 96, .inl (C.1 58))),
  ((A.2 56 2), .inl (cI, 16, .inl (C.1 59))),
  ((A.2 56 3), .inl (cI, 16, .inl (C.1 60))),
  ((A.2 55 1), .inl (cI, 80, .inl (C.1 61))),
  ((A.2 55 4), .inl (cI, 44, .inl (C.1 62))),
  ((A.2 55 5), .inl (cI, 44, .inl (C.1 63))),
  ((A.2 55 6), .inl (cI, 48, .inl (C.1 64))),
  ((A.2 55 11), .inl (cI, 8, .inl (C.1 65))),
  ((A.2 54 1), .inr (5, o_X5 (A.2 66) (C.1 66))),
  ((A.2 66 0), .inl (cI, 64, .inl (C.1 67))),
  ((A.2 66 1), .inl (cI, 8, .inl (C.1 68))),
  ((A.2 66 2), .inl (cI, 8, .inl (C.1 69))),
  ((A.2 66 3), .inl (cI, 8, .inl (C.1 70))),
  ((A.2 66 6), .inr (7, o_X7 (A.2 71) (C.1 71))),
  ((A.2 54 2), .inr (9, o_X9 (A.2 72))),
  ((A.2 72 0), .inl (cI, 16, .inl (C.1 73))),
  ((A.2 72 1), .inl (cI, 64, .inl (C.1 74))),
  ((A.2 72 2), .inl (cI, 64, .inl (C.1 75))),
  ((A.2 0 12), .inr (6, o_X6 (alX6 (rdA A C.2.2.2) (A.2 78)) (C.1 76))),
  ((A.2 76 0), .inr (4, o_X4 (A.2 77) (C.1 77))),
  ((A.2 77 0), .inr (1, o_X1 (A.2 78))),
  ((A.2 78 0), .inl (cI, 64, .inl (C.1 79))),
  ((A.2 78 1), .inl (cI, 96, .inl (C.1 80))),
  ((A.2 78 2), .inl (cI, 16, .inl (C.1 81))),
  ((A.2 78 3), .inl (cI, 16, .inl (C.1 82))),
  ((A.2 77 1), .inl (cI, 80, .inl (C.1 83))),
  ((A.2 77 4), .inl (cI, 44, .inl (C.1 84))),
  ((A.2 77 5), .inl (cI, 44, .inl (C.1 85))),
  ((A.2 77 6), .inl (cI, 48, .inl (C.1 86))),
  ((A.2 77 11), .inl (cI, 8, .inl (C.1 87)))]
def cwIm (D : va_G) (cI : ClassId) (V : CV) : Option ASt → va_W
  | none => []
  | some T => aw D cI V.2.1 V.2.2 T ++ hw cI V.2.2 T.2.2.2.1
abbrev cwT (D : va_G) (cI : ClassId) (V : CV) (C : CS) : va_W := hw cI V.1 C.2.1 ++ cwIm D cI V C.2.2.1
abbrev cw (D : va_G) (cI : ClassId) (A : CAd) (V : CV) (C : CS) : va_W := cwB D cI A V C ++ cwT D cI V C
/-- what the image keeps of it -/
def allOf (C : CS) : ASt := (fun S hs => (S 2, (S 3, S 5, S 6, S 7, S 8, S 9, S 10, S 11, S 12, S 13), S 14, hs, S 16, S 17)) C.1 C.2.1
def setAll (C : CS) (T : ASt) : CS := ((upC (upC (upC (upC (upC (upC (upC (upC (upC (upC (upC (upC (upC (upC C.1 2 T.1) 3 T.2.1.1) 5 T.2.1.2.1) 6 T.2.1.2.2.1) 7 T.2.1.2.2.2.1) 8 T.2.1.2.2.2.2.1) 9 T.2.1.2.2.2.2.2.1) 10 T.2.1.2.2.2.2.2.2.1) 11 T.2.1.2.2.2.2.2.2.2.1) 12 T.2.1.2.2.2.2.2.2.2.2.1) 13 T.2.1.2.2.2.2.2.2.2.2.2) 14 T.2.2.1) 16 T.2.2.2.2.1) 17 T.2.2.2.2.2), T.2.2.2.1, C.2.2)
/-! ===== the reference's object ===== -/
abbrev rfw (cI : ClassId) (B : Nat × (Nat → Nat)) (M : Nat → Nat → Int32) : va_W := [(B.1, .inr (12, o_X12 B.2 (M 0))),
  ((B.2 0), .inl (cI, 66100, .inl (M 1))),
  ((B.2 1), .inl (cI, 16, .inl (M 2))),
  ((B.2 2), .inl (cI, 16, .inl (M 3))),
  ((B.2 3), .inl (cI, 6, .inl (M 4))),
  ((B.2 13), .inl (cI, 700, .inl (M 5))),
  ((B.2 16), .inl (cI, 64, .inl (M 6))),
  ((B.2 17), .inl (cI, 64, .inl (M 7))),
  ((B.2 18), .inl (cI, 64, .inl (M 8))),
  ((B.2 23), .inl (cI, 64, .inl (M 9))),
  ((B.2 24), .inl (cI, 16, .inl (M 10))),
  ((B.2 25), .inl (cI, 64, .inl (M 11))),
  ((B.2 26), .inl (cI, 88, .inl (M 12))),
  ((B.2 39), .inl (cI, 64, .inl (M 13))),
  ((B.2 40), .inl (cI, 156, .inl (M 14))),
  ((B.2 47), .inl (cI, 2000, .inl (M 15)))]
theorem perm_idx0 {α : Type} {S A B : List α} (idx : List Nat) (n : Nat) (hn : S.length = n) (h : idx.isPerm (List.range n) = true) (hm : idx.map (fun i => S[i]?) = (A ++ B).map some) : S.Perm (A ++ B) := by
  subst hn
  exact perm_idx idx h hm
section LG
variable {l : Launch} {y : MethodName} {cy : Cond} {rm : Room} {D : va_G} {cI : ClassId} {As : List Value} {wc fr ws : va_W}
theorem lg_i {v : Int32} {w1 ws1 : va_W} (h : CTi l y cy rm D cI As wc v w1) (hp : ws.Perm (wc ++ fr)) (hp1 : ws1.Perm (w1 ++ fr)) : CTi l y cy rm D cI As ws v ws1 := lf_i (τ := Unit) (ws1 := fun _ => ws1) h () hp hp1
theorem lg_l {v : Int64} {w1 ws1 : va_W} (h : CTl l y cy rm D cI As wc v w1) (hp : ws.Perm (wc ++ fr)) (hp1 : ws1.Perm (w1 ++ fr)) : CTl l y cy rm D cI As ws v ws1 := lf_l (τ := Unit) (ws1 := fun _ => ws1) h () hp hp1
theorem lg_v {w1 ws1 : va_W} (h : CTv l y cy rm D cI As wc w1) (hp : ws.Perm (wc ++ fr)) (hp1 : ws1.Perm (w1 ++ fr)) : CTv l y cy rm D cI As ws ws1 := lf_v (τ := Unit) (ws1 := fun _ => ws1) h () hp hp1
end LG
