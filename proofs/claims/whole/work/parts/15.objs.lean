def o_X0 (r : Nat → Nat) (F : Nat → Int32) : List Value := [.ref (r 0), .ref (r 1), .ref (r 2), .int (F 3), .ref (r 4)]
theorem o_X0_s3 (r : Nat → Nat) (F : Nat → Int32) (v : Int32) : (o_X0 r F).set 3 (.int v) = o_X0 r (upd F 3 v) := rfl
def o_X1 (r : Nat → Nat) : List Value := [.ref (r 0), .ref (r 1), .ref (r 2), .ref (r 3)]
def o_X2 (r : Nat → Nat) (F : Nat → Int32) : List Value := [.ref (r 0), .ref (r 1), .ref (r 2), .int (F 3), .int (F 4), .int (F 5), .int (F 6)]
theorem o_X2_s3 (r : Nat → Nat) (F : Nat → Int32) (v : Int32) : (o_X2 r F).set 3 (.int v) = o_X2 r (upd F 3 v) := rfl
theorem o_X2_s4 (r : Nat → Nat) (F : Nat → Int32) (v : Int32) : (o_X2 r F).set 4 (.int v) = o_X2 r (upd F 4 v) := rfl
theorem o_X2_s5 (r : Nat → Nat) (F : Nat → Int32) (v : Int32) : (o_X2 r F).set 5 (.int v) = o_X2 r (upd F 5 v) := rfl
theorem o_X2_s6 (r : Nat → Nat) (F : Nat → Int32) (v : Int32) : (o_X2 r F).set 6 (.int v) = o_X2 r (upd F 6 v) := rfl
def o_X3 (r : Nat → Nat) (F : Nat → Int32) : List Value := [.ref (r 0), .int (F 1), .int (F 2)]
theorem o_X3_s1 (r : Nat → Nat) (F : Nat → Int32) (v : Int32) : (o_X3 r F).set 1 (.int v) = o_X3 r (upd F 1 v) := rfl
theorem o_X3_s2 (r : Nat → Nat) (F : Nat → Int32) (v : Int32) : (o_X3 r F).set 2 (.int v) = o_X3 r (upd F 2 v) := rfl
def o_X4 (r : Nat → Nat) (F : Nat → Int32) : List Value := [.ref (r 0), .ref (r 1), .int (F 2), .int (F 3), .ref (r 4), .ref (r 5), .ref (r 6), .int (F 7), .int (F 8), .int (F 9), .int (F 10), .ref (r 11)]
theorem o_X4_s2 (r : Nat → Nat) (F : Nat → Int32) (v : Int32) : (o_X4 r F).set 2 (.int v) = o_X4 r (upd F 2 v) := rfl
theorem o_X4_s3 (r : Nat → Nat) (F : Nat → Int32) (v : Int32) : (o_X4 r F).set 3 (.int v) = o_X4 r (upd F 3 v) := rfl
theorem o_X4_s7 (r : Nat → Nat) (F : Nat → Int32) (v : Int32) : (o_X4 r F).set 7 (.int v) = o_X4 r (upd F 7 v) := rfl
theorem o_X4_s8 (r : Nat → Nat) (F : Nat → Int32) (v : Int32) : (o_X4 r F).set 8 (.int v) = o_X4 r (upd F 8 v) := rfl
theorem o_X4_s9 (r : Nat → Nat) (F : Nat → Int32) (v : Int32) : (o_X4 r F).set 9 (.int v) = o_X4 r (upd F 9 v) := rfl
theorem o_X4_s10 (r : Nat → Nat) (F : Nat → Int32) (v : Int32) : (o_X4 r F).set 10 (.int v) = o_X4 r (upd F 10 v) := rfl
def o_X5 (r : Nat → Nat) (F : Nat → Int32) : List Value := [.ref (r 0), .ref (r 1), .ref (r 2), .ref (r 3), .int (F 4), .int (F 5), .ref (r 6)]
theorem o_X5_s4 (r : Nat → Nat) (F : Nat → Int32) (v : Int32) : (o_X5 r F).set 4 (.int v) = o_X5 r (upd F 4 v) := rfl
theorem o_X5_s5 (r : Nat → Nat) (F : Nat → Int32) (v : Int32) : (o_X5 r F).set 5 (.int v) = o_X5 r (upd F 5 v) := rfl
def o_X6 (r : Nat → Nat) (F : Nat → Int32) : List Value := [.ref (r 0), .ref (r 1), .ref (r 2), .int (F 3), .int (F 4), .int (F 5), .int (F 6), .int (F 7), .int (F 8), .int (F 9), .int (F 10)]
theorem o_X6_s3 (r : Nat → Nat) (F : Nat → Int32) (v : Int32) : (o_X6 r F).set 3 (.int v) = o_X6 r (upd F 3 v) := rfl
theorem o_X6_s4 (r : Nat → Nat) (F : Nat → Int32) (v : Int32) : (o_X6 r F).set 4 (.int v) = o_X6 r (upd F 4 v) := rfl
theorem o_X6_s5 (r : Nat → Nat) (F : Nat → Int32) (v : Int32) : (o_X6 r F).set 5 (.int v) = o_X6 r (upd F 5 v) := rfl
theorem o_X6_s6 (r : Nat → Nat) (F : Nat → Int32) (v : Int32) : (o_X6 r F).set 6 (.int v) = o_X6 r (upd F 6 v) := rfl
theorem o_X6_s7 (r : Nat → Nat) (F : Nat → Int32) (v : Int32) : (o_X6 r F).set 7 (.int v) = o_X6 r (upd F 7 v) := rfl
theorem o_X6_s8 (r : Nat → Nat) (F : Nat → Int32) (v : Int32) : (o_X6 r F).set 8 (.int v) = o_X6 r (upd F 8 v) := rfl
theorem o_X6_s9 (r : Nat → Nat) (F : Nat → Int32) (v : Int32) : (o_X6 r F).set 9 (.int v) = o_X6 r (upd F 9 v) := rfl
theorem o_X6_s10 (r : Nat → Nat) (F : Nat → Int32) (v : Int32) : (o_X6 r F).set 10 (.int v) = o_X6 r (upd F 10 v) := rfl
def o_X7 (r : Nat → Nat) (F : Nat → Int32) : List Value := [.int (F 0), .int (F 1), .int (F 2), .int (F 3), .int (F 4)]
theorem o_X7_s0 (r : Nat → Nat) (F : Nat → Int32) (v : Int32) : (o_X7 r F).set 0 (.int v) = o_X7 r (upd F 0 v) := rfl
theorem o_X7_s1 (r : Nat → Nat) (F : Nat → Int32) (v : Int32) : (o_X7 r F).set 1 (.int v) = o_X7 r (upd F 1 v) := rfl
theorem o_X7_s2 (r : Nat → Nat) (F : Nat → Int32) (v : Int32) : (o_X7 r F).set 2 (.int v) = o_X7 r (upd F 2 v) := rfl
theorem o_X7_s3 (r : Nat → Nat) (F : Nat → Int32) (v : Int32) : (o_X7 r F).set 3 (.int v) = o_X7 r (upd F 3 v) := rfl
theorem o_X7_s4 (r : Nat → Nat) (F : Nat → Int32) (v : Int32) : (o_X7 r F).set 4 (.int v) = o_X7 r (upd F 4 v) := rfl
def o_X8 (r : Nat → Nat) : List Value := [.ref (r 0), .ref (r 1)]
def o_X9 (r : Nat → Nat) : List Value := [.ref (r 0), .ref (r 1), .ref (r 2)]
def o_X10 (r : Nat → Nat) (F : Nat → Int32) : List Value := [.ref (r 0), .ref (r 1), .ref (r 2), .int (F 3), .int (F 4), .int (F 5)]
theorem o_X10_s3 (r : Nat → Nat) (F : Nat → Int32) (v : Int32) : (o_X10 r F).set 3 (.int v) = o_X10 r (upd F 3 v) := rfl
theorem o_X10_s4 (r : Nat → Nat) (F : Nat → Int32) (v : Int32) : (o_X10 r F).set 4 (.int v) = o_X10 r (upd F 4 v) := rfl
theorem o_X10_s5 (r : Nat → Nat) (F : Nat → Int32) (v : Int32) : (o_X10 r F).set 5 (.int v) = o_X10 r (upd F 5 v) := rfl
def o_X11 (r : Nat → Nat) (F : Nat → Int32) (kq : Option Nat) : List Value := [.ref (r 0), .int (F 1), .int (F 2), .ref (r 3), va_rf kq, .int (F 5), .ref (r 6), .ref (r 7), .ref (r 8), .ref (r 9), .ref (r 10), .ref (r 11), .ref (r 12)]
theorem o_X11_s1 (r : Nat → Nat) (F : Nat → Int32) (kq : Option Nat) (v : Int32) : (o_X11 r F kq).set 1 (.int v) = o_X11 r (upd F 1 v) kq := rfl
theorem o_X11_s2 (r : Nat → Nat) (F : Nat → Int32) (kq : Option Nat) (v : Int32) : (o_X11 r F kq).set 2 (.int v) = o_X11 r (upd F 2 v) kq := rfl
theorem o_X11_s5 (r : Nat → Nat) (F : Nat → Int32) (kq : Option Nat) (v : Int32) : (o_X11 r F kq).set 5 (.int v) = o_X11 r (upd F 5 v) kq := rfl
def o_X12 (r : Nat → Nat) (F : Nat → Int32) : List Value := [.ref (r 0), .ref (r 1), .ref (r 2), .ref (r 3), .int (F 4), .int (F 5), .int (F 6), .int (F 7), .int (F 8), .int (F 9), .int (F 10), .int (F 11), .int (F 12), .ref (r 13), .int (F 14), .int (F 15), .ref (r 16), .ref (r 17), .ref (r 18), .int (F 19), .int (F 20), .int (F 21), .int (F 22), .ref (r 23), .ref (r 24), .ref (r 25), .ref (r 26), .int (F 27), .int (F 28), .int (F 29), .int (F 30), .int (F 31), .int (F 32), .int (F 33), .int (F 34), .int (F 35), .int (F 36), .int (F 37), .int (F 38), .ref (r 39), .ref (r 40), .int (F 41), .int (F 42), .int (F 43), .int (F 44), .int (F 45), .int (F 46), .ref (r 47), .int (F 48), .int (F 49), .int (F 50)]
theorem o_X12_s4 (r : Nat → Nat) (F : Nat → Int32) (v : Int32) : (o_X12 r F).set 4 (.int v) = o_X12 r (upd F 4 v) := rfl
theorem o_X12_s5 (r : Nat → Nat) (F : Nat → Int32) (v : Int32) : (o_X12 r F).set 5 (.int v) = o_X12 r (upd F 5 v) := rfl
theorem o_X12_s6 (r : Nat → Nat) (F : Nat → Int32) (v : Int32) : (o_X12 r F).set 6 (.int v) = o_X12 r (upd F 6 v) := rfl
theorem o_X12_s7 (r : Nat → Nat) (F : Nat → Int32) (v : Int32) : (o_X12 r F).set 7 (.int v) = o_X12 r (upd F 7 v) := rfl
theorem o_X12_s8 (r : Nat → Nat) (F : Nat → Int32) (v : Int32) : (o_X12 r F).set 8 (.int v) = o_X12 r (upd F 8 v) := rfl
theorem o_X12_s9 (r : Nat → Nat) (F : Nat → Int32) (v : Int32) : (o_X12 r F).set 9 (.int v) = o_X12 r (upd F 9 v) := rfl
theorem o_X12_s10 (r : Nat → Nat) (F : Nat → Int32) (v : Int32) : (o_X12 r F).set 10 (.int v) = o_X12 r (upd F 10 v) := rfl
theorem o_X12_s11 (r : Nat → Nat) (F : Nat → Int32) (v : Int32) : (o_X12 r F).set 11 (.int v) = o_X12 r (upd F 11 v) := rfl
theorem o_X12_s12 (r : Nat → Nat) (F : Nat → Int32) (v : Int32) : (o_X12 r F).set 12 (.int v) = o_X12 r (upd F 12 v) := rfl
theorem o_X12_s14 (r : Nat → Nat) (F : Nat → Int32) (v : Int32) : (o_X12 r F).set 14 (.int v) = o_X12 r (upd F 14 v) := rfl
theorem o_X12_s15 (r : Nat → Nat) (F : Nat → Int32) (v : Int32) : (o_X12 r F).set 15 (.int v) = o_X12 r (upd F 15 v) := rfl
theorem o_X12_s19 (r : Nat → Nat) (F : Nat → Int32) (v : Int32) : (o_X12 r F).set 19 (.int v) = o_X12 r (upd F 19 v) := rfl
theorem o_X12_s20 (r : Nat → Nat) (F : Nat → Int32) (v : Int32) : (o_X12 r F).set 20 (.int v) = o_X12 r (upd F 20 v) := rfl
theorem o_X12_s21 (r : Nat → Nat) (F : Nat → Int32) (v : Int32) : (o_X12 r F).set 21 (.int v) = o_X12 r (upd F 21 v) := rfl
theorem o_X12_s22 (r : Nat → Nat) (F : Nat → Int32) (v : Int32) : (o_X12 r F).set 22 (.int v) = o_X12 r (upd F 22 v) := rfl
theorem o_X12_s27 (r : Nat → Nat) (F : Nat → Int32) (v : Int32) : (o_X12 r F).set 27 (.int v) = o_X12 r (upd F 27 v) := rfl
theorem o_X12_s28 (r : Nat → Nat) (F : Nat → Int32) (v : Int32) : (o_X12 r F).set 28 (.int v) = o_X12 r (upd F 28 v) := rfl
theorem o_X12_s29 (r : Nat → Nat) (F : Nat → Int32) (v : Int32) : (o_X12 r F).set 29 (.int v) = o_X12 r (upd F 29 v) := rfl
theorem o_X12_s30 (r : Nat → Nat) (F : Nat → Int32) (v : Int32) : (o_X12 r F).set 30 (.int v) = o_X12 r (upd F 30 v) := rfl
theorem o_X12_s31 (r : Nat → Nat) (F : Nat → Int32) (v : Int32) : (o_X12 r F).set 31 (.int v) = o_X12 r (upd F 31 v) := rfl
theorem o_X12_s32 (r : Nat → Nat) (F : Nat → Int32) (v : Int32) : (o_X12 r F).set 32 (.int v) = o_X12 r (upd F 32 v) := rfl
theorem o_X12_s33 (r : Nat → Nat) (F : Nat → Int32) (v : Int32) : (o_X12 r F).set 33 (.int v) = o_X12 r (upd F 33 v) := rfl
theorem o_X12_s34 (r : Nat → Nat) (F : Nat → Int32) (v : Int32) : (o_X12 r F).set 34 (.int v) = o_X12 r (upd F 34 v) := rfl
theorem o_X12_s35 (r : Nat → Nat) (F : Nat → Int32) (v : Int32) : (o_X12 r F).set 35 (.int v) = o_X12 r (upd F 35 v) := rfl
theorem o_X12_s36 (r : Nat → Nat) (F : Nat → Int32) (v : Int32) : (o_X12 r F).set 36 (.int v) = o_X12 r (upd F 36 v) := rfl
theorem o_X12_s37 (r : Nat → Nat) (F : Nat → Int32) (v : Int32) : (o_X12 r F).set 37 (.int v) = o_X12 r (upd F 37 v) := rfl
theorem o_X12_s38 (r : Nat → Nat) (F : Nat → Int32) (v : Int32) : (o_X12 r F).set 38 (.int v) = o_X12 r (upd F 38 v) := rfl
theorem o_X12_s41 (r : Nat → Nat) (F : Nat → Int32) (v : Int32) : (o_X12 r F).set 41 (.int v) = o_X12 r (upd F 41 v) := rfl
theorem o_X12_s42 (r : Nat → Nat) (F : Nat → Int32) (v : Int32) : (o_X12 r F).set 42 (.int v) = o_X12 r (upd F 42 v) := rfl
theorem o_X12_s43 (r : Nat → Nat) (F : Nat → Int32) (v : Int32) : (o_X12 r F).set 43 (.int v) = o_X12 r (upd F 43 v) := rfl
theorem o_X12_s44 (r : Nat → Nat) (F : Nat → Int32) (v : Int32) : (o_X12 r F).set 44 (.int v) = o_X12 r (upd F 44 v) := rfl
theorem o_X12_s45 (r : Nat → Nat) (F : Nat → Int32) (v : Int32) : (o_X12 r F).set 45 (.int v) = o_X12 r (upd F 45 v) := rfl
theorem o_X12_s46 (r : Nat → Nat) (F : Nat → Int32) (v : Int32) : (o_X12 r F).set 46 (.int v) = o_X12 r (upd F 46 v) := rfl
theorem o_X12_s48 (r : Nat → Nat) (F : Nat → Int32) (v : Int32) : (o_X12 r F).set 48 (.int v) = o_X12 r (upd F 48 v) := rfl
theorem o_X12_s49 (r : Nat → Nat) (F : Nat → Int32) (v : Int32) : (o_X12 r F).set 49 (.int v) = o_X12 r (upd F 49 v) := rfl
theorem o_X12_s50 (r : Nat → Nat) (F : Nat → Int32) (v : Int32) : (o_X12 r F).set 50 (.int v) = o_X12 r (upd F 50 v) := rfl
