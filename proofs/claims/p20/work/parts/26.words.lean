/-! the methods in these words, laid by wip/p4/y/gen5.py -/
set_option linter.unusedVariables false
def w_X0_init (l0 : Option Nat) (l1 : Int32) (l2 : Int32) (l3 : Option Nat) (x : HS) (Q : HS → Prop) (_X : String → HS → Prop) : Prop :=
 wRef l0
 (wPutI x 0 0 l0 l1 fun x1 =>
 wPutI x1 0 1 l0 l2 fun x2 =>
 wPutF x2 0 2 l0 l3 fun x3 =>
 Q x3)

def w_X0_putAhead (l0 : Option Nat) (l1 : Option Nat) (x : HS) (Q : HS → Prop) (_X : String → HS → Prop) : Prop :=
 wGetF x 1 1 l1 fun v1 =>
 wGetI x 0 0 l0 fun v2 =>
 wGetF x 0 3 l0 fun v3 =>
 wAstG x 25 1 v1 v2 v3 fun x4 =>
 wPutF x4 0 3 l0 l1 fun x5 =>
 wGetF x5 0 4 l0 fun v6 =>
 wJoin (κ := HS → Prop) (fun  (x8 : HS) =>
 Q x8) (fun j7 =>
 wIf (v6 = none)
 (wPutF x5 0 4 l0 l1 fun x9 =>
 j7 x9)
 (j7 x5))

def w_X0_putAfter (l0 : Option Nat) (l1 : Option Nat) (l2 : Option Nat) (x : HS) (Q : HS → Prop) (_X : String → HS → Prop) : Prop :=
 wGetF x 1 1 l1 fun v1 =>
 wGetI x 0 0 l0 fun v2 =>
 wGetF x 1 1 l2 fun v3 =>
 wGetI x 0 0 l0 fun v4 =>
 wAldG x 25 v3 v4 fun v5 =>
 wAstG x 25 1 v1 v2 v5 fun x6 =>
 wGetF x6 1 1 l2 fun v7 =>
 wGetI x6 0 0 l0 fun v8 =>
 wAstG x6 25 1 v7 v8 l1 fun x9 =>
 wGetF x9 0 4 l0 fun v10 =>
 wJoin (κ := HS → Prop) (fun  (x12 : HS) =>
 Q x12) (fun j11 =>
 wIf (v10 = l2)
 (wPutF x9 0 4 l0 l1 fun x13 =>
 j11 x13)
 (j11 x9))

def w_X0_putBehind (l0 : Option Nat) (l1 : Option Nat) (x : HS) (Q : HS → Prop) (X : String → HS → Prop) : Prop :=
 wGetF x 0 4 l0 fun v1 =>
 wJoin (κ := HS → Prop) (fun  (x3 : HS) =>
 Q x3) (fun j2 =>
 wIf (v1 = none)
 (wRecv x 0 l0
 (w_X0_putAhead l0 l1 x (fun x4 =>
 j2 x4) X))
 (wGetF x 0 4 l0 fun v6 =>
 wRecv x 0 l0
 (w_X0_putAfter l0 l1 v6 x (fun x7 =>
 j2 x7) X)))

def w_X0_empty (l0 : Option Nat) (x : HS) (Q : HS → Prop) (_X : String → HS → Prop) : Prop :=
 wPutF x 0 3 l0 none fun x1 =>
 wPutF x1 0 4 l0 none fun x2 =>
 Q x2

def w_X0_factsAhead (l0 : Option Nat) (l1 : Option Nat) (x : HS) (Q : Int32 → HS → Prop) (_X : String → HS → Prop) : Prop :=
 wGetF x 0 3 l0 fun v1 =>
 wLoop (σ := Int32 × Option Nat) (fun v5 x4 again2 =>
 wJoin (κ := HS → Prop) (fun  (x7 : HS) =>
 Q v5.1 x7) (fun j6 =>
 wIf (v5.2 = none)
 (j6 x4)
 (wIf (v5.2 = l1)
 (j6 x4)
 (wGetF x4 1 1 v5.2 fun v8 =>
 wGetI x4 0 0 l0 fun v9 =>
 wAldG x4 25 v8 v9 fun v10 =>
 again2 ((v5.1 + 1), v10) x4)))) (0, v1) x

def w_X1_init (l0 : Option Nat) (x : HS) (Q : HS → Prop) (_X : String → HS → Prop) : Prop :=
 wRef l0
 (wNewJ x 20 4 fun q1 x2 =>
 wPutF x2 1 0 l0 q1 fun x3 =>
 wNewG x3 25 5 fun q4 x5 =>
 wPutF x5 1 1 l0 q4 fun x6 =>
 Q x6)

def w_X1_isThere (l0 : Option Nat) (l1 : Int32) (x : HS) (Q : Int32 → HS → Prop) (_X : String → HS → Prop) : Prop :=
 wGetI x 1 5 l0 fun v1 =>
 wJoin (κ := Int32 → HS → Prop) (fun (v4 : Int32) (x3 : HS) =>
 wBit v4 (Q v4 x3)) (fun j2 =>
 wJoin (κ := HS → Prop) (fun  (x6 : HS) =>
 j2 0 x6) (fun j5 =>
 wIf (l1 < v1)
 (j5 x)
 (wGetI x 1 6 l0 fun v7 =>
 wJoin (κ := HS → Prop) (fun  (x9 : HS) =>
 j2 1 x9) (fun j8 =>
 wIf (v7 = (-1))
 (j8 x)
 (wGetI x 1 6 l0 fun v10 =>
 wIf (v10 ≤ l1)
 (j5 x)
 (j8 x))))))

def w_X1_isThereNow (l0 : Option Nat) (x : HS) (Q : Int32 → HS → Prop) (_X : String → HS → Prop) : Prop :=
 wGetI x 1 6 l0 fun v1 =>
 wJoin (κ := Int32 → HS → Prop) (fun (v4 : Int32) (x3 : HS) =>
 wBit v4 (Q v4 x3)) (fun j2 =>
 wIf (v1 = (-1))
 (j2 1 x)
 (j2 0 x))

def w_X11_isIn (l0 : Int32) (l1 : Int32) (x : HS) (Q : Int32 → HS → Prop) (_X : String → HS → Prop) : Prop :=
 wJoin (κ := Int32 → HS → Prop) (fun (v3 : Int32) (x2 : HS) =>
 wBit v3 (Q v3 x2)) (fun j1 =>
 wIf (((l0 >>> (l1 &&& 31)) &&& 1) = 1)
 (j1 1 x)
 (j1 0 x))

def w_X1_fits (l0 : Option Nat) (l1 : Int32) (l2 : Option Nat) (x : HS) (Q : Int32 → HS → Prop) (_X : String → HS → Prop) : Prop :=
 wLoop (σ := Int32) (fun v4 x3 again1 =>
 wIf (4 ≤ v4)
 (wBit 1 (Q 1 x3))
 (w_X11_isIn l1 v4 x3 (fun v6 x5 =>
 wJoin (κ := HS → Prop) (fun  (x8 : HS) =>
 again1 (v4 + 1) x8) (fun j7 =>
 wIf (v6 = 0)
 (j7 x5)
 (wGetF x5 1 0 l0 fun v9 =>
 wAldJ x5 20 v9 v4 fun v10 =>
 wAldJ x5 20 l2 v4 fun v11 =>
 wIf (v10 = v11)
 (j7 x5)
 (wBit 0 (Q 0 x5))))) (fun _ _ => False))) 0 x

def w_X2_init (l0 : Option Nat) (x : HS) (Q : HS → Prop) (_X : String → HS → Prop) : Prop :=
 wRef l0
 (wNewJ x 20 4 fun q1 x2 =>
 wPutF x2 2 0 l0 q1 fun x3 =>
 wNewJ x3 20 4 fun q4 x5 =>
 wPutF x5 2 1 l0 q4 fun x6 =>
 Q x6)

def w_X3_init (l0 : Option Nat) (x : HS) (Q : HS → Prop) (_X : String → HS → Prop) : Prop :=
 wRef l0
 (wNewG x 25 6000 fun q1 x2 =>
 wPutF x2 3 0 l0 q1 fun x3 =>
 wNewJ x3 22 6000 fun q4 x5 =>
 wPutF x5 3 1 l0 q4 fun x6 =>
 wNewJ x6 20 8 fun q7 x8 =>
 wPutF x8 3 2 l0 q7 fun x9 =>
 Q x9)

def w_X3_note (l0 : Option Nat) (l1 : Option Nat) (l2 : Int32) (x : HS) (Q : HS → Prop) (_X : String → HS → Prop) : Prop :=
 wGetI x 3 4 l0 fun v1 =>
 wJoin (κ := HS → Prop) (fun  (x3 : HS) =>
 Q x3) (fun j2 =>
 wIf (v1 ≤ 0)
 (j2 x)
 (wGetI x 3 3 l0 fun v4 =>
 wGetF x 3 0 l0 fun v5 =>
 wLen x 25 v5 fun v6 =>
 wIf (v6 ≤ v4)
 (j2 x)
 (wGetF x 3 0 l0 fun v7 =>
 wGetI x 3 3 l0 fun v8 =>
 wAstG x 25 1 v7 v8 l1 fun x9 =>
 wGetF x9 3 1 l0 fun v10 =>
 wGetI x9 3 3 l0 fun v11 =>
 wAstZ x9 v10 v11 l2 fun x12 =>
 wGetI x12 3 3 l0 fun v13 =>
 wPutI x12 3 3 l0 (v13 + 1) fun x14 =>
 j2 x14)))

def w_X3_makeMark (l0 : Option Nat) (x : HS) (Q : Int32 → HS → Prop) (_X : String → HS → Prop) : Prop :=
 wGetI x 3 4 l0 fun v1 =>
 wIf (v1 < 8)
 (wGetF x 3 2 l0 fun v2 =>
 wGetI x 3 4 l0 fun v3 =>
 wGetI x 3 3 l0 fun v4 =>
 wAstI x v2 v3 v4 fun x5 =>
 wGetI x5 3 4 l0 fun v6 =>
 wPutI x5 3 4 l0 (v6 + 1) fun x7 =>
 wBit 1 (Q 1 x7))
 (wBit 0 (Q 0 x))

def w_X3_dropMark (l0 : Option Nat) (x : HS) (Q : Int32 → HS → Prop) (_X : String → HS → Prop) : Prop :=
 wGetI x 3 4 l0 fun v1 =>
 wIf (v1 = 0)
 (wGetI x 3 3 l0 fun v2 =>
 Q v2 x)
 (wGetI x 3 4 l0 fun v3 =>
 wPutI x 3 4 l0 (v3 - 1) fun x4 =>
 wGetF x4 3 2 l0 fun v5 =>
 wGetI x4 3 4 l0 fun v6 =>
 wAldJ x4 20 v5 v6 fun v7 =>
 Q v7 x4)

def w_X3_goneSinceMark (l0 : Option Nat) (x : HS) (Q : Int32 → HS → Prop) (_X : String → HS → Prop) : Prop :=
 wGetI x 3 4 l0 fun v1 =>
 wJoin (κ := Int32 → HS → Prop) (fun (v4 : Int32) (x3 : HS) =>
 Q v4 x3) (fun j2 =>
 wIf (v1 ≤ 0)
 (j2 0 x)
 (wGetF x 3 2 l0 fun v5 =>
 wGetI x 3 4 l0 fun v6 =>
 wAldJ x 20 v5 (v6 - 1) fun v7 =>
 wLoop (σ := Int32 × Int32) (fun v11 x10 again8 =>
 wGetI x10 3 3 l0 fun v12 =>
 wIf (v12 ≤ v11.2)
 (j2 v11.1 x10)
 (wGetF x10 3 1 l0 fun v13 =>
 wAldJ x10 22 v13 v11.2 fun v14 =>
 wJoin (κ := Int32 → HS → Prop) (fun (v17 : Int32) (x16 : HS) =>
 again8 ((v11.1 + v17), (v11.2 + 1)) x16) (fun j15 =>
 wIf (v14 = 0)
 (j15 0 x10)
 (j15 1 x10)))) (0, v7) x))

def w_X3_forgetWithoutMarks (l0 : Option Nat) (x : HS) (Q : HS → Prop) (_X : String → HS → Prop) : Prop :=
 wGetI x 3 4 l0 fun v1 =>
 wJoin (κ := HS → Prop) (fun  (x3 : HS) =>
 Q x3) (fun j2 =>
 wIf (v1 = 0)
 (wPutI x 3 3 l0 0 fun x4 =>
 j2 x4)
 (j2 x))

def w_X4_init (l0 : Option Nat) (l1 : Int32) (x : HS) (Q : HS → Prop) (_X : String → HS → Prop) : Prop :=
 wRef l0
 (wNewG x 29 64 fun q1 x2 =>
 wPutF x2 4 1 l0 q1 fun x3 =>
 wPutI x3 4 0 l0 l1 fun x4 =>
 Q x4)

def w_X4_chainWith (l0 : Option Nat) (l1 : Int32) (x : HS) (Q : Option Nat → HS → Prop) (_X : String → HS → Prop) : Prop :=
 wGetF x 4 1 l0 fun v1 =>
 wAldG x 29 v1 (l1 &&& 63) fun v2 =>
 wLoop (σ := Option Nat) (fun v6 x5 again3 =>
 wJoin (κ := HS → Prop) (fun  (x8 : HS) =>
 Q v6 x8) (fun j7 =>
 wIf (v6 = none)
 (j7 x5)
 (wGetI x5 0 1 v6 fun v9 =>
 wIf (v9 = l1)
 (j7 x5)
 (wGetF x5 0 2 v6 fun v10 =>
 again3 v10 x5)))) v2 x

def w_X4_chainFor (l0 : Option Nat) (l1 : Option Nat) (x : HS) (Q : Option Nat → HS → Prop) (X : String → HS → Prop) : Prop :=
 wGetF x 1 0 l1 fun v1 =>
 wGetI x 4 0 l0 fun v2 =>
 wAldJ x 20 v1 v2 fun v3 =>
 wRecv x 4 l0
 (w_X4_chainWith l0 v3 x (fun v5 x4 =>
 wJoin (κ := Option Nat → HS → Prop) (fun (v8 : Option Nat) (x7 : HS) =>
 Q v8 x7) (fun j6 =>
 wIf (v5 = none)
 (wNew x4 0 5 fun q9 x10 =>
 wGetI x10 4 0 l0 fun v11 =>
 wGetF x10 4 1 l0 fun v12 =>
 wAldG x10 29 v12 (v3 &&& 63) fun v13 =>
 w_X0_init q9 v11 v3 v13 x10 (fun x14 =>
 wGetF x14 4 1 l0 fun v16 =>
 wAstG x14 29 0 v16 (v3 &&& 63) q9 fun x17 =>
 j6 q9 x17) (fun _ _ => False))
 (j6 v5 x4))) X)

def w_X4_empty (l0 : Option Nat) (x : HS) (Q : HS → Prop) (X : String → HS → Prop) : Prop :=
 wLoop (σ := Int32) (fun v4 x3 again1 =>
 wIf (64 ≤ v4)
 (Q x3)
 (wGetF x3 4 1 l0 fun v5 =>
 wAldG x3 29 v5 v4 fun v6 =>
 wLoop (σ := Int32 × Option Nat) (fun v10 x9 again7 =>
 wIf (v10.2 = none)
 (again1 (v10.1 + 1) x9)
 (wRecv x9 0 v10.2
 (w_X0_empty v10.2 x9 (fun x11 =>
 wGetF x11 0 2 v10.2 fun v13 =>
 again7 (v10.1, v13) x11) X))) (v4, v6) x3)) 0 x

def w_X5_init (l0 : Option Nat) (x : HS) (Q : HS → Prop) (_X : String → HS → Prop) : Prop :=
 wRef l0
 (wNewJ x 20 4 fun q1 x2 =>
 wPutF x2 5 1 l0 q1 fun x3 =>
 Q x3)

def w_X10_allColumns (l0 : Option Nat) (x : HS) (Q : Int32 → HS → Prop) (_X : String → HS → Prop) : Prop :=
 wGetI x 10 1 l0 fun v1 =>
 Q (((1 : Int32) <<< (v1 &&& 31)) - 1) x

def w_X5_begin (l0 : Option Nat) (l1 : Option Nat) (l2 : Int32) (l3 : Option Nat) (l4 : Int32) (x : HS) (Q : HS → Prop) (X : String → HS → Prop) : Prop :=
 wPutF x 5 2 l0 l1 fun x1 =>
 wRecv x1 10 l1
 (w_X10_allColumns l1 x1 (fun v3 x2 =>
 wPutI x2 5 3 l0 (l2 &&& v3) fun x4 =>
 wPutI x4 5 4 l0 l4 fun x5 =>
 wPutF x5 5 5 l0 none fun x6 =>
 wPutZ x6 5 6 l0 0 fun x7 =>
 wPutI x7 5 0 l0 0 fun x8 =>
 wPutI x8 5 7 l0 0 fun x9 =>
 wLoop (σ := Int32) (fun v13 x12 again10 =>
 wIf (4 ≤ v13)
 (Q x12)
 (wGetF x12 5 1 l0 fun v14 =>
 wAldJ x12 20 l3 v13 fun v15 =>
 wAstI x12 v14 v13 v15 fun x16 =>
 again10 (v13 + 1) x16)) 0 x9) X)

def w_X10_laneFor (l0 : Option Nat) (l1 : Int32) (x : HS) (Q : Int32 → HS → Prop) (_X : String → HS → Prop) : Prop :=
 wLoop (σ := Int32) (fun v4 x3 again1 =>
 wGetI x3 10 1 l0 fun v5 =>
 wIf (v5 ≤ v4)
 (Q 4 x3)
 (w_X11_isIn l1 v4 x3 (fun v7 x6 =>
 wJoin (κ := HS → Prop) (fun  (x9 : HS) =>
 again1 (v4 + 1) x9) (fun j8 =>
 wIf (v7 = 0)
 (j8 x6)
 (wGetF x6 10 3 l0 fun v10 =>
 wAldG x6 28 v10 v4 fun v11 =>
 wIf (v11 = none)
 (j8 x6)
 (Q v4 x6)))) (fun _ _ => False))) 0 x

def w_X10_firstIn (l0 : Option Nat) (l1 : Int32) (l2 : Option Nat) (x : HS) (Q : Option Nat → HS → Prop) (X : String → HS → Prop) : Prop :=
 wJoin (κ := HS → Prop) (fun  (x2 : HS) =>
 wGetF x2 10 2 l0 fun v3 =>
 wGetF x2 0 3 v3 fun v4 =>
 Q v4 x2) (fun j1 =>
 wIf (l1 < 0)
 (j1 x)
 (wIf (4 ≤ l1)
 (j1 x)
 (wGetF x 10 3 l0 fun v5 =>
 wAldG x 28 v5 l1 fun v6 =>
 wIf (v6 = none)
 (j1 x)
 (wGetF x 10 3 l0 fun v7 =>
 wAldG x 28 v7 l1 fun v8 =>
 wAldJ x 20 l2 l1 fun v9 =>
 wRecv x 4 v8
 (w_X4_chainWith v8 v9 x (fun v11 x10 =>
 wJoin (κ := Option Nat → HS → Prop) (fun (v14 : Option Nat) (x13 : HS) =>
 Q v14 x13) (fun j12 =>
 wIf (v11 = none)
 (j12 none x10)
 (wGetF x10 0 3 v11 fun v15 =>
 j12 v15 x10))) X)))))

def w_X5_advance (l0 : Option Nat) (x : HS) (Q : Option Nat → HS → Prop) (X : String → HS → Prop) : Prop :=
 wGetI x 5 6 l0 fun v1 =>
 wJoin (κ := HS → Prop) (fun  (x3 : HS) =>
 Q none x3) (fun j2 =>
 wIf (v1 = 0)
 (wGetF x 5 2 l0 fun v4 =>
 wIf (v4 = none)
 (j2 x)
 (wGetF x 5 2 l0 fun v5 =>
 wGetI x 5 3 l0 fun v6 =>
 wRecv x 10 v5
 (w_X10_laneFor v5 v6 x (fun v8 x7 =>
 wGetF x7 5 5 l0 fun v9 =>
 wJoin (κ := Option Nat → HS → Prop) (fun (v12 : Option Nat) (x11 : HS) =>
 wLoop (σ := Option Nat) (fun v16 x15 again13 =>
 wIf (v16 = none)
 (wPutZ x15 5 6 l0 1 fun x17 =>
 Q none x17)
 (wGetI x15 5 7 l0 fun v18 =>
 wPutI x15 5 7 l0 (v18 + 1) fun x19 =>
 wGetI x19 5 4 l0 fun v20 =>
 wRecv x19 1 v16
 (w_X1_isThere v16 v20 x19 (fun v22 x21 =>
 wJoin (κ := HS → Prop) (fun  (x24 : HS) =>
 wGetF x24 1 1 v16 fun v25 =>
 wAldG x24 25 v25 v8 fun v26 =>
 again13 v26 x24) (fun j23 =>
 wIf (v22 = 0)
 (j23 x21)
 (wGetI x21 5 3 l0 fun v27 =>
 wGetF x21 5 1 l0 fun v28 =>
 wRecv x21 1 v16
 (w_X1_fits v16 v27 v28 x21 (fun v30 x29 =>
 wIf (v30 = 0)
 (j23 x29)
 (wPutF x29 5 5 l0 v16 fun x31 =>
 wGetI x31 5 0 l0 fun v32 =>
 wPutI x31 5 0 l0 (v32 + 1) fun x33 =>
 Q v16 x33)) X)))) X))) v12 x11) (fun j10 =>
 wIf (v9 = none)
 (wGetF x7 5 2 l0 fun v34 =>
 wGetF x7 5 1 l0 fun v35 =>
 wRecv x7 10 v34
 (w_X10_firstIn v34 v8 v35 x7 (fun v37 x36 =>
 j10 v37 x36) X))
 (wGetF x7 5 5 l0 fun v38 =>
 wGetF x7 1 1 v38 fun v39 =>
 wAldG x7 25 v39 v8 fun v40 =>
 j10 v40 x7))) X)))
 (j2 x))

def w_X5_takeLookedAt (l0 : Option Nat) (x : HS) (Q : Int32 → HS → Prop) (_X : String → HS → Prop) : Prop :=
 wGetI x 5 7 l0 fun v1 =>
 wPutI x 5 7 l0 0 fun x2 =>
 Q v1 x2

def w_X6_init (l0 : Option Nat) (x : HS) (Q : HS → Prop) (_X : String → HS → Prop) : Prop :=
 wRef l0
 (wNewG x 27 10 fun q1 x2 =>
 wPutF x2 6 0 l0 q1 fun x3 =>
 wPutI x3 6 3 l0 (-1) fun x4 =>
 wLoop (σ := Int32) (fun v8 x7 again5 =>
 wIf (10 ≤ v8)
 (Q x7)
 (wGetF x7 6 0 l0 fun v9 =>
 wNew x7 2 6 fun q10 x11 =>
 w_X2_init q10 x11 (fun x12 =>
 wAstG x12 27 2 v9 v8 q10 fun x14 =>
 again5 (v8 + 1) x14) (fun _ _ => False))) 0 x4)

def w_X6_here (l0 : Option Nat) (x : HS) (Q : Int32 → HS → Prop) (_X : String → HS → Prop) : Prop :=
 wGetI x 6 6 l0 fun v1 =>
 wJoin (κ := Int32 → HS → Prop) (fun (v4 : Int32) (x3 : HS) =>
 Q v4 x3) (fun j2 =>
 wJoin (κ := HS → Prop) (fun  (x6 : HS) =>
 j2 (-1) x6) (fun j5 =>
 wIf (v1 < 0)
 (j5 x)
 (wGetI x 6 6 l0 fun v7 =>
 wGetI x 6 5 l0 fun v8 =>
 wIf (v8 ≤ v7)
 (j5 x)
 (wGetI x 6 6 l0 fun v9 =>
 wGetF x 6 4 l0 fun v10 =>
 wLen x 21 v10 fun v11 =>
 wIf (v9 < v11)
 (wGetF x 6 4 l0 fun v12 =>
 wGetI x 6 6 l0 fun v13 =>
 wAldJ x 21 v12 v13 fun v14 =>
 j2 (v14 &&& 255) x)
 (j5 x)))))

def w_X6_skipBlanks (l0 : Option Nat) (x : HS) (Q : HS → Prop) (X : String → HS → Prop) : Prop :=
 wLoop (σ := Unit) (fun v4 x3 again1 =>
 wGetI x3 6 6 l0 fun v5 =>
 wGetI x3 6 5 l0 fun v6 =>
 wJoin (κ := HS → Prop) (fun  (x8 : HS) =>
 Q x8) (fun j7 =>
 wIf (v6 ≤ v5)
 (j7 x3)
 (wRecv x3 6 l0
 (w_X6_here l0 x3 (fun v10 x9 =>
 wIf (v10 = 32)
 (wGetI x9 6 6 l0 fun v11 =>
 wPutI x9 6 6 l0 (v11 + 1) fun x12 =>
 again1 () x12)
 (j7 x9)) X)))) () x

def w_X6_refuse (l0 : Option Nat) (l1 : Int32) (x : HS) (_Q : HS → Prop) (X : String → HS → Prop) : Prop :=
 wPutI x 6 3 l0 l1 fun x1 =>
 wThrow x1 eUO X

def w_X6_take (l0 : Option Nat) (l1 : Int32) (x : HS) (Q : HS → Prop) (X : String → HS → Prop) : Prop :=
 wRecv x 6 l0
 (w_X6_here l0 x (fun v2 x1 =>
 wJoin (κ := HS → Prop) (fun  (x4 : HS) =>
 wGetI x4 6 6 l0 fun v5 =>
 wPutI x4 6 6 l0 (v5 + 1) fun x6 =>
 Q x6) (fun j3 =>
 wIf (v2 = l1)
 (j3 x1)
 (wGetI x1 6 6 l0 fun v7 =>
 wRecv x1 6 l0
 (w_X6_refuse l0 v7 x1 (fun x8 =>
 j3 x8) X)))) X)

def w_X6_readDigits (l0 : Option Nat) (x : HS) (Q : Int32 → HS → Prop) (_X : String → HS → Prop) : Prop :=
 wLoop (σ := Int32) (fun v4 x3 again1 =>
 wGetI x3 6 6 l0 fun v5 =>
 wGetI x3 6 5 l0 fun v6 =>
 wJoin (κ := HS → Prop) (fun  (x8 : HS) =>
 Q v4 x8) (fun j7 =>
 wIf (v6 ≤ v5)
 (j7 x3)
 (wGetF x3 6 4 l0 fun v9 =>
 wGetI x3 6 6 l0 fun v10 =>
 wAldJ x3 21 v9 v10 fun v11 =>
 wIf (v11 < 48)
 (j7 x3)
 (wGetF x3 6 4 l0 fun v12 =>
 wGetI x3 6 6 l0 fun v13 =>
 wAldJ x3 21 v12 v13 fun v14 =>
 wIf (57 < v14)
 (j7 x3)
 (wGetF x3 6 4 l0 fun v15 =>
 wGetI x3 6 6 l0 fun v16 =>
 wAldJ x3 21 v15 v16 fun v17 =>
 wGetI x3 6 6 l0 fun v18 =>
 wPutI x3 6 6 l0 (v18 + 1) fun x19 =>
 again1 (((v4 * 10) + v17) - 48) x19))))) 0 x

def w_X9_tableAt (l0 : Option Nat) (l1 : Int32) (x : HS) (Q : Option Nat → HS → Prop) (_X : String → HS → Prop) : Prop :=
 wJoin (κ := Option Nat → HS → Prop) (fun (v3 : Option Nat) (x2 : HS) =>
 Q v3 x2) (fun j1 =>
 wJoin (κ := HS → Prop) (fun  (x5 : HS) =>
 j1 none x5) (fun j4 =>
 wIf (l1 < 0)
 (j4 x)
 (wGetI x 9 3 l0 fun v6 =>
 wIf (l1 < v6)
 (wGetF x 9 0 l0 fun v7 =>
 wAldG x 24 v7 l1 fun v8 =>
 j1 v8 x)
 (j4 x))))

def w_X6_readTable (l0 : Option Nat) (x : HS) (Q : Option Nat → HS → Prop) (X : String → HS → Prop) : Prop :=
 wGetI x 6 6 l0 fun v1 =>
 wRecv x 6 l0
 (w_X6_take l0 116 x (fun x2 =>
 wGetI x2 6 6 l0 fun v4 =>
 wRecv x2 6 l0
 (w_X6_readDigits l0 x2 (fun v6 x5 =>
 wGetI x5 6 6 l0 fun v7 =>
 wJoin (κ := HS → Prop) (fun  (x9 : HS) =>
 wGetF x9 6 7 l0 fun v10 =>
 wRecv x9 9 v10
 (w_X9_tableAt v10 v6 x9 (fun v12 x11 =>
 wJoin (κ := HS → Prop) (fun  (x14 : HS) =>
 Q v12 x14) (fun j13 =>
 wIf (v12 = none)
 (wRecv x11 6 l0
 (w_X6_refuse l0 v1 x11 (fun x15 =>
 j13 x15) X))
 (j13 x11))) X)) (fun j8 =>
 wJoin (κ := HS → Prop) (fun  (x18 : HS) =>
 wRecv x18 6 l0
 (w_X6_refuse l0 v4 x18 (fun x19 =>
 j8 x19) X)) (fun j17 =>
 wIf (v7 = v4)
 (j17 x5)
 (wGetI x5 6 6 l0 fun v21 =>
 wIf ((v21 - v4) ≤ 9)
 (j8 x5)
 (j17 x5))))) X)) X)

def w_X6_readNumber (l0 : Option Nat) (x : HS) (Q : Int32 → HS → Prop) (X : String → HS → Prop) : Prop :=
 wGetI x 6 6 l0 fun v1 =>
 wRecv x 6 l0
 (w_X6_here l0 x (fun v3 x2 =>
 wJoin (κ := Int32 → HS → Prop) (fun (v6 : Int32) (x5 : HS) =>
 wJoin (κ := HS → Prop) (fun  (x8 : HS) =>
 wGetI x8 6 6 l0 fun v9 =>
 wRecv x8 6 l0
 (w_X6_readDigits l0 x8 (fun v11 x10 =>
 wGetI x10 6 6 l0 fun v12 =>
 wJoin (κ := HS → Prop) (fun  (x14 : HS) =>
 wJoin (κ := Int32 → HS → Prop) (fun (v17 : Int32) (x16 : HS) =>
 Q v17 x16) (fun j15 =>
 wIf (v6 = 0)
 (j15 v11 x14)
 (j15 (-v11) x14))) (fun j13 =>
 wJoin (κ := HS → Prop) (fun  (x19 : HS) =>
 wRecv x19 6 l0
 (w_X6_refuse l0 v1 x19 (fun x20 =>
 j13 x20) X)) (fun j18 =>
 wIf (v12 = v9)
 (j18 x10)
 (wGetI x10 6 6 l0 fun v22 =>
 wIf ((v22 - v9) ≤ 9)
 (j13 x10)
 (j18 x10))))) X)) (fun j7 =>
 wIf (v6 = 0)
 (j7 x5)
 (wGetI x5 6 6 l0 fun v23 =>
 wPutI x5 6 6 l0 (v23 + 1) fun x24 =>
 j7 x24))) (fun j4 =>
 wIf (v3 = 45)
 (j4 1 x2)
 (j4 0 x2))) X)

def w_X6_readArg (l0 : Option Nat) (l1 : Option Nat) (l2 : Int32) (l3 : Int32) (x : HS) (Q : HS → Prop) (X : String → HS → Prop) : Prop :=
 wRecv x 6 l0
 (w_X6_here l0 x (fun v2 x1 =>
 wJoin (κ := HS → Prop) (fun  (x4 : HS) =>
 Q x4) (fun j3 =>
 wJoin (κ := HS → Prop) (fun  (x6 : HS) =>
 wJoin (κ := HS → Prop) (fun  (x8 : HS) =>
 wGetF x8 2 0 l1 fun v9 =>
 wAstI x8 v9 l2 0 fun x10 =>
 wGetF x10 2 1 l1 fun v11 =>
 wRecv x10 6 l0
 (w_X6_readNumber l0 x10 (fun v13 x12 =>
 wAstI x12 v11 l2 v13 fun x14 =>
 j3 x14) X)) (fun j7 =>
 wIf (v2 = 95)
 (wIf (l3 = 0)
 (j7 x6)
 (wGetF x6 2 0 l1 fun v15 =>
 wAstI x6 v15 l2 4 fun x16 =>
 wGetI x16 6 6 l0 fun v17 =>
 wPutI x16 6 6 l0 (v17 + 1) fun x18 =>
 j3 x18))
 (j7 x6))) (fun j5 =>
 wIf (v2 < 65)
 (j5 x1)
 (wIf (73 ≤ v2)
 (j5 x1)
 (wGetF x1 2 0 l1 fun v19 =>
 wAstI x1 v19 l2 2 fun x20 =>
 wGetF x20 2 1 l1 fun v21 =>
 wAstI x20 v21 l2 (v2 - 65) fun x22 =>
 wGetI x22 6 6 l0 fun v23 =>
 wPutI x22 6 6 l0 (v23 + 1) fun x24 =>
 j3 x24))))) X)

def w_X6_sortTableArg (l0 : Option Nat) (l1 : Option Nat) (l2 : Int32) (l3 : Int32) (x : HS) (Q : Int32 → HS → Prop) (_X : String → HS → Prop) : Prop :=
 wGetF x 2 0 l1 fun v1 =>
 wAldJ x 20 v1 l2 fun v2 =>
 wJoin (κ := Int32 → HS → Prop) (fun (v5 : Int32) (x4 : HS) =>
 wGetF x4 2 0 l1 fun v6 =>
 wAldJ x4 20 v6 l2 fun v7 =>
 wJoin (κ := HS → Prop) (fun  (x9 : HS) =>
 Q v5 x9) (fun j8 =>
 wJoin (κ := HS → Prop) (fun  (x11 : HS) =>
 wGetI x11 2 4 l1 fun v12 =>
 wPutI x11 2 4 l1 (v12 ||| ((1 : Int32) <<< (l2 &&& 31))) fun x13 =>
 j8 x13) (fun j10 =>
 wIf (v7 = 1)
 (j10 x4)
 (wGetF x4 2 0 l1 fun v14 =>
 wAldJ x4 20 v14 l2 fun v15 =>
 wIf (v15 = 0)
 (j10 x4)
 (j8 x4))))) (fun j3 =>
 wIf (v2 = 2)
 (wGetI x 6 2 l0 fun v16 =>
 wGetF x 2 1 l1 fun v17 =>
 wAldJ x 20 v17 l2 fun v18 =>
 w_X11_isIn v16 v18 x (fun v20 x19 =>
 wIf (v20 = 0)
 (wGetF x19 2 1 l1 fun v21 =>
 wAldJ x19 20 v21 l2 fun v22 =>
 w_X11_isIn l3 v22 x19 (fun v24 x23 =>
 wIf (v24 = 0)
 (wGetF x23 2 1 l1 fun v25 =>
 wAldJ x23 20 v25 l2 fun v26 =>
 j3 ((1 : Int32) <<< (v26 &&& 31)) x23)
 (wGetF x23 2 0 l1 fun v27 =>
 wAstI x23 v27 l2 3 fun x28 =>
 j3 0 x28)) (fun _ _ => False))
 (wGetF x19 2 0 l1 fun v29 =>
 wAstI x19 v29 l2 1 fun x30 =>
 j3 0 x30)) (fun _ _ => False))
 (j3 0 x))

def w_X6_refuseArgTooMuch (l0 : Option Nat) (x : HS) (Q : HS → Prop) (X : String → HS → Prop) : Prop :=
 wRecv x 6 l0
 (w_X6_here l0 x (fun v2 x1 =>
 wJoin (κ := HS → Prop) (fun  (x4 : HS) =>
 Q x4) (fun j3 =>
 wIf (v2 = 44)
 (wGetI x1 6 6 l0 fun v5 =>
 wPutI x1 6 6 l0 (v5 + 1) fun x6 =>
 wRecv x6 6 l0
 (w_X6_skipBlanks l0 x6 (fun x7 =>
 wGetI x7 6 6 l0 fun v9 =>
 wRecv x7 6 l0
 (w_X6_refuse l0 v9 x7 (fun x10 =>
 j3 x10) X)) X))
 (j3 x1))) X)

def w_X6_readTableGoal (l0 : Option Nat) (l1 : Option Nat) (x : HS) (Q : HS → Prop) (X : String → HS → Prop) : Prop :=
 wRecv x 6 l0
 (w_X6_here l0 x (fun v2 x1 =>
 wPutI x1 2 2 l1 v2 fun x3 =>
 wGetI x3 2 2 l1 fun v4 =>
 wJoin (κ := HS → Prop) (fun  (x6 : HS) =>
 wRecv x6 6 l0
 (w_X6_readTable l0 x6 (fun v8 x7 =>
 wPutF x7 2 3 l1 v8 fun x9 =>
 wPutI x9 2 4 l1 0 fun x10 =>
 wRecv x10 6 l0
 (w_X6_skipBlanks l0 x10 (fun x11 =>
 wRecv x11 6 l0
 (w_X6_take l0 40 x11 (fun x13 =>
 wLoop (σ := Int32 × Int32) (fun v18 x17 again15 =>
 wGetF x17 2 3 l1 fun v19 =>
 wGetI x17 10 1 v19 fun v20 =>
 wIf (v20 ≤ v18.2)
 (wRecv x17 6 l0
 (w_X6_refuseArgTooMuch l0 x17 (fun x21 =>
 wRecv x21 6 l0
 (w_X6_take l0 41 x21 (fun x23 =>
 wGetI x23 2 2 l1 fun v25 =>
 wJoin (κ := HS → Prop) (fun  (x27 : HS) =>
 Q x27) (fun j26 =>
 wIf (v25 = 116)
 (wGetI x23 6 2 l0 fun v28 =>
 wPutI x23 6 2 l0 (v28 ||| v18.1) fun x29 =>
 j26 x29)
 (j26 x23))) X)) X))
 (wJoin (κ := HS → Prop) (fun  (x31 : HS) =>
 wRecv x31 6 l0
 (w_X6_skipBlanks l0 x31 (fun x32 =>
 wRecv x32 6 l0
 (w_X6_readArg l0 l1 v18.2 1 x32 (fun x34 =>
 wRecv x34 6 l0
 (w_X6_sortTableArg l0 l1 v18.2 v18.1 x34 (fun v37 x36 =>
 wRecv x36 6 l0
 (w_X6_skipBlanks l0 x36 (fun x38 =>
 again15 ((v18.1 ||| v37), (v18.2 + 1)) x38) X)) X)) X)) X)) (fun j30 =>
 wIf (v18.2 ≤ 0)
 (j30 x17)
 (wRecv x17 6 l0
 (w_X6_take l0 44 x17 (fun x40 =>
 j30 x40) X))))) (0, 0) x13) X)) X)) X)) (fun j5 =>
 wIf (v4 = 33)
 (wGetI x3 6 6 l0 fun v42 =>
 wPutI x3 6 6 l0 (v42 + 1) fun x43 =>
 wRecv x43 6 l0
 (w_X6_skipBlanks l0 x43 (fun x44 =>
 j5 x44) X))
 (j5 x3))) X)

def w_X6_requireKnown (l0 : Option Nat) (l1 : Option Nat) (l2 : Int32) (l3 : Int32) (x : HS) (Q : HS → Prop) (X : String → HS → Prop) : Prop :=
 wGetF x 2 0 l1 fun v1 =>
 wAldJ x 20 v1 l2 fun v2 =>
 wJoin (κ := HS → Prop) (fun  (x4 : HS) =>
 Q x4) (fun j3 =>
 wIf (v2 = 2)
 (wGetI x 6 2 l0 fun v5 =>
 wGetF x 2 1 l1 fun v6 =>
 wAldJ x 20 v6 l2 fun v7 =>
 w_X11_isIn v5 v7 x (fun v9 x8 =>
 wJoin (κ := HS → Prop) (fun  (x11 : HS) =>
 wGetF x11 2 0 l1 fun v12 =>
 wAstI x11 v12 l2 1 fun x13 =>
 j3 x13) (fun j10 =>
 wIf (v9 = 0)
 (wRecv x8 6 l0
 (w_X6_refuse l0 l3 x8 (fun x14 =>
 j10 x14) X))
 (j10 x8))) (fun _ _ => False))
 (j3 x))

def w_X6_readKnownArg (l0 : Option Nat) (l1 : Option Nat) (l2 : Int32) (x : HS) (Q : HS → Prop) (X : String → HS → Prop) : Prop :=
 wRecv x 6 l0
 (w_X6_skipBlanks l0 x (fun x1 =>
 wGetI x1 6 6 l0 fun v3 =>
 wRecv x1 6 l0
 (w_X6_readArg l0 l1 l2 0 x1 (fun x4 =>
 wRecv x4 6 l0
 (w_X6_requireKnown l0 l1 l2 v3 x4 (fun x6 =>
 Q x6) X)) X)) X)

def w_X6_readSign (l0 : Option Nat) (l1 : Int32) (l2 : Int32) (l3 : Int32) (x : HS) (Q : Int32 → HS → Prop) (X : String → HS → Prop) : Prop :=
 wRecv x 6 l0
 (w_X6_here l0 x (fun v2 x1 =>
 wJoin (κ := HS → Prop) (fun  (x4 : HS) =>
 wGetI x4 6 6 l0 fun v5 =>
 wPutI x4 6 6 l0 (v5 + 1) fun x6 =>
 Q v2 x6) (fun j3 =>
 wIf (v2 = l1)
 (j3 x1)
 (wIf (v2 = l2)
 (j3 x1)
 (wIf (v2 = l3)
 (j3 x1)
 (wGetI x1 6 6 l0 fun v7 =>
 wRecv x1 6 l0
 (w_X6_refuse l0 v7 x1 (fun x8 =>
 j3 x8) X)))))) X)

def w_X6_readSignGoal (l0 : Option Nat) (l1 : Option Nat) (x : HS) (Q : HS → Prop) (X : String → HS → Prop) : Prop :=
 wGetI x 6 6 l0 fun v1 =>
 wRecv x 6 l0
 (w_X6_readArg l0 l1 0 0 x (fun x2 =>
 wRecv x2 6 l0
 (w_X6_skipBlanks l0 x2 (fun x4 =>
 wRecv x4 6 l0
 (w_X6_here l0 x4 (fun v7 x6 =>
 wJoin (κ := Int32 → HS → Prop) (fun (v10 : Int32) (x9 : HS) =>
 wRecv x9 6 l0
 (w_X6_readKnownArg l0 l1 1 x9 (fun x11 =>
 wGetI x11 6 2 l0 fun v13 =>
 wPutI x11 6 2 l0 (v13 ||| v10) fun x14 =>
 Q x14) X)) (fun j8 =>
 wJoin (κ := HS → Prop) (fun  (x16 : HS) =>
 wRecv x16 6 l0
 (w_X6_readSign l0 60 61 35 x16 (fun v18 x17 =>
 wPutI x17 2 2 l1 v18 fun x19 =>
 wRecv x19 6 l0
 (w_X6_requireKnown l0 l1 0 v1 x19 (fun x20 =>
 j8 0 x20) X)) X)) (fun j15 =>
 wIf (v7 = 58)
 (wGetF x6 2 0 l1 fun v22 =>
 wAldJ x6 20 v22 0 fun v23 =>
 wIf (v23 = 2)
 (wGetF x6 2 1 l1 fun v24 =>
 wAldJ x6 20 v24 0 fun v25 =>
 wPutI x6 2 5 l1 v25 fun x26 =>
 wGetI x26 2 5 l1 fun v27 =>
 wGetI x26 6 2 l0 fun v28 =>
 wJoin (κ := HS → Prop) (fun  (x30 : HS) =>
 wGetI x30 6 6 l0 fun v31 =>
 wPutI x30 6 6 l0 (v31 + 1) fun x32 =>
 wRecv x32 6 l0
 (w_X6_readKnownArg l0 l1 0 x32 (fun x33 =>
 wRecv x33 6 l0
 (w_X6_skipBlanks l0 x33 (fun x35 =>
 wRecv x35 6 l0
 (w_X6_readSign l0 43 45 42 x35 (fun v38 x37 =>
 wPutI x37 2 2 l1 v38 fun x39 =>
 j8 ((1 : Int32) <<< (v27 &&& 31)) x39) X)) X)) X)) (fun j29 =>
 wIf ((v28 &&& ((1 : Int32) <<< (v27 &&& 31))) = 0)
 (j29 x26)
 (wRecv x26 6 l0
 (w_X6_refuse l0 v1 x26 (fun x40 =>
 j29 x40) X))))
 (j15 x6))
 (j15 x6)))) X)) X)) X)

def w_X6_readQuestion (l0 : Option Nat) (l1 : Option Nat) (l2 : Int32) (l3 : Option Nat) (x : HS) (Q : HS → Prop) (X : String → HS → Prop) : Prop :=
 wPutF x 6 4 l0 l1 fun x1 =>
 wPutI x1 6 5 l0 l2 fun x2 =>
 wPutF x2 6 7 l0 l3 fun x3 =>
 wPutI x3 6 6 l0 0 fun x4 =>
 wPutI x4 6 2 l0 0 fun x5 =>
 wLoop (σ := Int32) (fun v9 x8 again6 =>
 wIf (10 ≤ v9)
 (wRecv x8 6 l0
 (w_X6_skipBlanks l0 x8 (fun x10 =>
 wGetI x10 6 6 l0 fun v12 =>
 wRecv x10 6 l0
 (w_X6_refuse l0 v12 x10 (fun x13 =>
 Q x13) X)) X))
 (wRecv x8 6 l0
 (w_X6_skipBlanks l0 x8 (fun x15 =>
 wRecv x15 6 l0
 (w_X6_here l0 x15 (fun v18 x17 =>
 wJoin (κ := HS → Prop) (fun  (x20 : HS) =>
 wPutI x20 6 1 l0 (v9 + 1) fun x21 =>
 wRecv x21 6 l0
 (w_X6_skipBlanks l0 x21 (fun x22 =>
 wGetI x22 6 6 l0 fun v24 =>
 wGetI x22 6 5 l0 fun v25 =>
 wIf (v24 < v25)
 (wRecv x22 6 l0
 (w_X6_take l0 44 x22 (fun x26 =>
 again6 (v9 + 1) x26) X))
 (Q x22)) X)) (fun j19 =>
 wJoin (κ := HS → Prop) (fun  (x29 : HS) =>
 wGetF x29 6 0 l0 fun v30 =>
 wAldG x29 27 v30 v9 fun v31 =>
 wRecv x29 6 l0
 (w_X6_readTableGoal l0 v31 x29 (fun x32 =>
 j19 x32) X)) (fun j28 =>
 wIf (v18 = 116)
 (j28 x17)
 (wRecv x17 6 l0
 (w_X6_here l0 x17 (fun v35 x34 =>
 wIf (v35 = 33)
 (j28 x34)
 (wGetF x34 6 0 l0 fun v36 =>
 wAldG x34 27 v36 v9 fun v37 =>
 wRecv x34 6 l0
 (w_X6_readSignGoal l0 v37 x34 (fun x38 =>
 j19 x38) X))) X))))) X)) X))) 0 x5

def w_X7_init (l0 : Option Nat) (x : HS) (Q : HS → Prop) (_X : String → HS → Prop) : Prop :=
 wRef l0
 (wNewJ x 20 800 fun q1 x2 =>
 wPutF x2 7 0 l0 q1 fun x3 =>
 Q x3)

def w_X7_keptCount (l0 : Option Nat) (x : HS) (Q : Int32 → HS → Prop) (_X : String → HS → Prop) : Prop :=
 wGetI x 7 2 l0 fun v1 =>
 Q (if (100 : Int32) < v1 then 100 else v1) x

def w_X7_keep (l0 : Option Nat) (l1 : Option Nat) (x : HS) (Q : HS → Prop) (_X : String → HS → Prop) : Prop :=
 wGetI x 7 2 l0 fun v1 =>
 wJoin (κ := HS → Prop) (fun  (x3 : HS) =>
 wGetI x3 7 2 l0 fun v4 =>
 wPutI x3 7 2 l0 (v4 + 1) fun x5 =>
 Q x5) (fun j2 =>
 wIf (100 ≤ v1)
 (j2 x)
 (wGetF x 7 0 l0 fun v6 =>
 wGetI x 7 2 l0 fun v7 =>
 wCopy x l1 0 v6 (v7 * 8) 8 fun x8 =>
 j2 x8))

def w_X8_init (l0 : Option Nat) (x : HS) (Q : HS → Prop) (_X : String → HS → Prop) : Prop :=
 wRef l0
 (wNew x 7 3 fun q1 x2 =>
 w_X7_init q1 x2 (fun x3 =>
 wPutF x3 8 0 l0 q1 fun x5 =>
 wNew x5 7 3 fun q6 x7 =>
 w_X7_init q6 x7 (fun x8 =>
 wPutF x8 8 2 l0 q6 fun x10 =>
 wNewG x10 26 10 fun q11 x12 =>
 wPutF x12 8 3 l0 q11 fun x13 =>
 wNewJ x13 20 8 fun q14 x15 =>
 wPutF x15 8 4 l0 q14 fun x16 =>
 wNewJ x16 20 4 fun q17 x18 =>
 wPutF x18 8 5 l0 q17 fun x19 =>
 wLoop (σ := Int32) (fun v23 x22 again20 =>
 wIf (10 ≤ v23)
 (Q x22)
 (wGetF x22 8 3 l0 fun v24 =>
 wNew x22 5 8 fun q25 x26 =>
 w_X5_init q25 x26 (fun x27 =>
 wAstG x27 26 5 v24 v23 q25 fun x29 =>
 again20 (v23 + 1) x29) (fun _ _ => False))) 0 x19) (fun _ _ => False)) (fun _ _ => False))

def w_X8_valueOf (l0 : Option Nat) (l1 : Option Nat) (l2 : Int32) (x : HS) (Q : Int32 → HS → Prop) (_X : String → HS → Prop) : Prop :=
 wGetF x 2 0 l1 fun v1 =>
 wAldJ x 20 v1 l2 fun v2 =>
 wJoin (κ := Int32 → HS → Prop) (fun (v5 : Int32) (x4 : HS) =>
 Q v5 x4) (fun j3 =>
 wIf (v2 = 1)
 (wGetF x 8 4 l0 fun v6 =>
 wGetF x 2 1 l1 fun v7 =>
 wAldJ x 20 v7 l2 fun v8 =>
 wAldJ x 20 v6 v8 fun v9 =>
 j3 v9 x)
 (wGetF x 2 1 l1 fun v10 =>
 wAldJ x 20 v10 l2 fun v11 =>
 j3 v11 x))

def w_X8_beginLook (l0 : Option Nat) (l1 : Option Nat) (l2 : Option Nat) (x : HS) (Q : HS → Prop) (X : String → HS → Prop) : Prop :=
 wLoop (σ := Int32) (fun v4 x3 again1 =>
 wIf (4 ≤ v4)
 (wGetF x3 2 3 l2 fun v5 =>
 wGetI x3 2 4 l2 fun v6 =>
 wGetF x3 8 5 l0 fun v7 =>
 wGetI x3 8 7 l0 fun v8 =>
 wRecv x3 5 l1
 (w_X5_begin l1 v5 v6 v7 v8 x3 (fun x9 =>
 Q x9) X))
 (wGetF x3 8 5 l0 fun v11 =>
 wGetI x3 2 4 l2 fun v12 =>
 w_X11_isIn v12 v4 x3 (fun v14 x13 =>
 wJoin (κ := Int32 → HS → Prop) (fun (v17 : Int32) (x16 : HS) =>
 wAstI x16 v11 v4 v17 fun x18 =>
 again1 (v4 + 1) x18) (fun j15 =>
 wIf (v14 = 0)
 (j15 0 x13)
 (wRecv x13 8 l0
 (w_X8_valueOf l0 l2 v4 x13 (fun v20 x19 =>
 j15 v20 x19) X)))) (fun _ _ => False))) 0 x

def w_X8_bind (l0 : Option Nat) (l1 : Option Nat) (l2 : Option Nat) (x : HS) (Q : Int32 → HS → Prop) (_X : String → HS → Prop) : Prop :=
 wLoop (σ := Int32) (fun v4 x3 again1 =>
 wGetF x3 2 3 l1 fun v5 =>
 wGetI x3 10 1 v5 fun v6 =>
 wIf (v6 ≤ v4)
 (wBit 1 (Q 1 x3))
 (wGetF x3 2 0 l1 fun v7 =>
 wAldJ x3 20 v7 v4 fun v8 =>
 wJoin (κ := HS → Prop) (fun  (x10 : HS) =>
 again1 (v4 + 1) x10) (fun j9 =>
 wIf (v8 = 2)
 (wGetF x3 8 4 l0 fun v11 =>
 wGetF x3 2 1 l1 fun v12 =>
 wAldJ x3 20 v12 v4 fun v13 =>
 wGetF x3 1 0 l2 fun v14 =>
 wAldJ x3 20 v14 v4 fun v15 =>
 wAstI x3 v11 v13 v15 fun x16 =>
 j9 x16)
 (wGetF x3 2 0 l1 fun v17 =>
 wAldJ x3 20 v17 v4 fun v18 =>
 wIf (v18 = 3)
 (wGetF x3 8 4 l0 fun v19 =>
 wGetF x3 2 1 l1 fun v20 =>
 wAldJ x3 20 v20 v4 fun v21 =>
 wAldJ x3 20 v19 v21 fun v22 =>
 wGetF x3 1 0 l2 fun v23 =>
 wAldJ x3 20 v23 v4 fun v24 =>
 wIf (v22 = v24)
 (j9 x3)
 (wBit 0 (Q 0 x3)))
 (j9 x3))))) 0 x

def w_X8_advanceTo (l0 : Option Nat) (l1 : Option Nat) (l2 : Option Nat) (x : HS) (Q : Int32 → HS → Prop) (X : String → HS → Prop) : Prop :=
 wLoop (σ := Int32) (fun v4 x3 again1 =>
 wIf (3000 ≤ v4)
 (wBit 0 (Q 0 x3))
 (wRecv x3 5 l1
 (w_X5_advance l1 x3 (fun v6 x5 =>
 wGetI x5 8 1 l0 fun v7 =>
 wRecv x5 5 l1
 (w_X5_takeLookedAt l1 x5 (fun v9 x8 =>
 wPutI x8 8 1 l0 (v7 + v9) fun x10 =>
 wGetI x10 8 1 l0 fun v11 =>
 wIf (v11 ≤ 50000)
 (wIf (v6 = none)
 (wBit 0 (Q 0 x10))
 (wRecv x10 8 l0
 (w_X8_bind l0 l2 v6 x10 (fun v13 x12 =>
 wIf (v13 = 0)
 (again1 (v4 + 1) x12)
 (wBit 1 (Q 1 x12))) X)))
 (wThrow x10 eAE X)) X)) X))) 0 x

def w_X8_holds (l0 : Option Nat) (l1 : Option Nat) (l2 : Int32) (x : HS) (Q : Int32 → HS → Prop) (X : String → HS → Prop) : Prop :=
 wGetI x 2 2 l1 fun v1 =>
 wIf (v1 = 33)
 (wGetF x 8 3 l0 fun v2 =>
 wAldG x 26 v2 l2 fun v3 =>
 wRecv x 8 l0
 (w_X8_beginLook l0 v3 l1 x (fun x4 =>
 wGetF x4 8 3 l0 fun v6 =>
 wAldG x4 26 v6 l2 fun v7 =>
 wRecv x4 8 l0
 (w_X8_advanceTo l0 v7 l1 x4 (fun v9 x8 =>
 wJoin (κ := Int32 → HS → Prop) (fun (v12 : Int32) (x11 : HS) =>
 wBit v12 (Q v12 x11)) (fun j10 =>
 wIf (v9 = 0)
 (j10 1 x8)
 (j10 0 x8))) X)) X))
 (wRecv x 8 l0
 (w_X8_valueOf l0 l1 0 x (fun v14 x13 =>
 wRecv x13 8 l0
 (w_X8_valueOf l0 l1 1 x13 (fun v16 x15 =>
 wGetI x15 2 2 l1 fun v17 =>
 wIf (v17 = 35)
 (wJoin (κ := Int32 → HS → Prop) (fun (v20 : Int32) (x19 : HS) =>
 wBit v20 (Q v20 x19)) (fun j18 =>
 wIf (v14 = v16)
 (j18 0 x15)
 (j18 1 x15)))
 (wIf (v17 = 43)
 (wGetF x15 8 4 l0 fun v21 =>
 wGetI x15 2 5 l1 fun v22 =>
 wAstI x15 v21 v22 (v14 + v16) fun x23 =>
 wBit 1 (Q 1 x23))
 (wIf (v17 = 45)
 (wGetF x15 8 4 l0 fun v24 =>
 wGetI x15 2 5 l1 fun v25 =>
 wAstI x15 v24 v25 (v14 - v16) fun x26 =>
 wBit 1 (Q 1 x26))
 (wIf (v17 = 60)
 (wJoin (κ := Int32 → HS → Prop) (fun (v29 : Int32) (x28 : HS) =>
 wBit v29 (Q v29 x28)) (fun j27 =>
 wIf (v16 ≤ v14)
 (j27 0 x15)
 (j27 1 x15)))
 (wIf (v17 = 61)
 (wJoin (κ := Int32 → HS → Prop) (fun (v32 : Int32) (x31 : HS) =>
 wBit v32 (Q v32 x31)) (fun j30 =>
 wIf (v14 = v16)
 (j30 1 x15)
 (j30 0 x15)))
 (wGetF x15 8 4 l0 fun v33 =>
 wGetI x15 2 5 l1 fun v34 =>
 wAstI x15 v33 v34 (v14 * v16) fun x35 =>
 wBit 1 (Q 1 x35))))))) X)) X))

def w_X8_solveEach (SV : Option Nat → Int32 → HS → (HS → Prop) → (String → HS → Prop) → Prop) (l0 : Option Nat) (l1 : Option Nat) (l2 : Int32) (x : HS) (Q : HS → Prop) (X : String → HS → Prop) : Prop :=
 wGetF x 8 3 l0 fun v1 =>
 wAldG x 26 v1 l2 fun v2 =>
 wRecv x 8 l0
 (w_X8_beginLook l0 v2 l1 x (fun x3 =>
 wLoop (σ := Int32) (fun v8 x7 again5 =>
 wIf (3000 ≤ v8)
 (Q x7)
 (wRecv x7 8 l0
 (w_X8_advanceTo l0 v2 l1 x7 (fun v10 x9 =>
 wIf (v10 = 0)
 (Q x9)
 (wRecv x9 8 l0
 (SV l0 (l2 + 1) x9 (fun x11 =>
 again5 (v8 + 1) x11) X))) X))) 0 x3) X)

def w_X8_solveB (SV : Option Nat → Int32 → HS → (HS → Prop) → (String → HS → Prop) → Prop) (l0 : Option Nat) (l1 : Int32) (x : HS) (Q : HS → Prop) (X : String → HS → Prop) : Prop :=
 wGetF x 8 6 l0 fun v1 =>
 wGetI x 6 1 v1 fun v2 =>
 wJoin (κ := HS → Prop) (fun  (x4 : HS) =>
 wGetF x4 8 2 l0 fun v5 =>
 wGetF x4 8 4 l0 fun v6 =>
 wRecv x4 7 v5
 (w_X7_keep v5 v6 x4 (fun x7 =>
 Q x7) X)) (fun j3 =>
 wIf (v2 ≤ l1)
 (j3 x)
 (wIf (l1 < 10)
 (wGetF x 8 6 l0 fun v9 =>
 wGetF x 6 0 v9 fun v10 =>
 wAldG x 27 v10 l1 fun v11 =>
 wGetI x 2 2 v11 fun v12 =>
 wJoin (κ := HS → Prop) (fun  (x14 : HS) =>
 Q x14) (fun j13 =>
 wIf (v12 = 116)
 (wRecv x 8 l0
 (w_X8_solveEach SV l0 v11 l1 x (fun x15 =>
 j13 x15) X))
 (wRecv x 8 l0
 (w_X8_holds l0 v11 l1 x (fun v18 x17 =>
 wIf (v18 = 0)
 (j13 x17)
 (wRecv x17 8 l0
 (SV l0 (l1 + 1) x17 (fun x19 =>
 j13 x19) X))) X))))
 (j3 x)))
def w_X8_solve : Nat → Option Nat → Int32 → HS → (HS → Prop) → (String → HS → Prop) → Prop
  | 0 => fun _ _ _ _ _ => False
  | n + 1 => w_X8_solveB (w_X8_solve n)

def w_X8_solveAll (l0 : Option Nat) (l1 : Option Nat) (l2 : Int32) (x : HS) (Q : Int32 → HS → Prop) (X : String → HS → Prop) : Prop :=
 wPutF x 8 6 l0 l1 fun x1 =>
 wPutI x1 8 7 l0 l2 fun x2 =>
 wPutI x2 8 1 l0 0 fun x3 =>
 wGetF x3 8 2 l0 fun v4 =>
 wGetI x3 6 2 l1 fun v5 =>
 wPutI x3 7 1 v4 v5 fun x6 =>
 wGetF x6 8 2 l0 fun v7 =>
 wPutI x6 7 2 v7 0 fun x8 =>
 wRecv x8 8 l0
 (w_X8_solve 12 l0 0 x8 (fun x9 =>
 wGetF x9 8 2 l0 fun v11 =>
 wGetF x9 8 0 l0 fun v12 =>
 wPutF x9 8 2 l0 v12 fun x13 =>
 wPutF x13 8 0 l0 v11 fun x14 =>
 wGetI x14 7 2 v11 fun v15 =>
 Q v15 x14) X)

def w_X9_init (l0 : Option Nat) (x : HS) (Q : HS → Prop) (_X : String → HS → Prop) : Prop :=
 wRef l0
 (wNewG x 24 12 fun q1 x2 =>
 wPutF x2 9 0 l0 q1 fun x3 =>
 wNewG x3 25 3000 fun q4 x5 =>
 wPutF x5 9 1 l0 q4 fun x6 =>
 wNew x6 3 5 fun q7 x8 =>
 w_X3_init q7 x8 (fun x9 =>
 wPutF x9 9 2 l0 q7 fun x11 =>
 Q x11) (fun _ _ => False))

def w_X10_init (l0 : Option Nat) (l1 : Int32) (l2 : Int32) (x : HS) (Q : HS → Prop) (_X : String → HS → Prop) : Prop :=
 wRef l0
 (wNew x 0 5 fun q1 x2 =>
 w_X0_init q1 4 0 none x2 (fun x3 =>
 wPutF x3 10 2 l0 q1 fun x5 =>
 wNewG x5 28 4 fun q6 x7 =>
 wPutF x7 10 3 l0 q6 fun x8 =>
 wNewJ x8 20 3 fun q9 x10 =>
 wPutF x10 10 4 l0 q9 fun x11 =>
 wPutI x11 10 0 l0 l1 fun x12 =>
 wPutI x12 10 1 l0 l2 fun x13 =>
 Q x13) (fun _ _ => False))

def w_X9_makeTable (l0 : Option Nat) (l1 : Int32) (x : HS) (Q : Int32 → HS → Prop) (_X : String → HS → Prop) : Prop :=
 wGetI x 9 3 l0 fun v1 =>
 wIf (v1 < 12)
 (wGetF x 9 0 l0 fun v2 =>
 wGetI x 9 3 l0 fun v3 =>
 wNew x 10 6 fun q4 x5 =>
 wGetI x5 9 3 l0 fun v6 =>
 w_X10_init q4 v6 l1 x5 (fun x7 =>
 wAstG x7 24 10 v2 v3 q4 fun x9 =>
 wGetI x9 9 3 l0 fun v10 =>
 wPutI x9 9 3 l0 (v10 + 1) fun x11 =>
 wGetI x11 9 3 l0 fun v12 =>
 Q (v12 - 1) x11) (fun _ _ => False))
 (Q (-1) x)

def w_X9_timeOf (l0 : Option Nat) (l1 : Int32) (x : HS) (Q : Int32 → HS → Prop) (_X : String → HS → Prop) : Prop :=
 wJoin (κ := Int32 → HS → Prop) (fun (v3 : Int32) (x2 : HS) =>
 Q v3 x2) (fun j1 =>
 wIf (l1 = (-1))
 (wGetI x 9 6 l0 fun v4 =>
 j1 v4 x)
 (j1 l1 x))

def w_X9_come (l0 : Option Nat) (l1 : Option Nat) (l2 : Option Nat) (x : HS) (Q : Option Nat → HS → Prop) (X : String → HS → Prop) : Prop :=
 wGetI x 9 4 l0 fun v1 =>
 wIf (v1 < 3000)
 (wGetF x 9 1 l0 fun v2 =>
 wGetI x 9 4 l0 fun v3 =>
 wAldG x 25 v2 v3 fun v4 =>
 wJoin (κ := HS → Prop) (fun  (x6 : HS) =>
 wGetF x6 9 1 l0 fun v7 =>
 wGetI x6 9 4 l0 fun v8 =>
 wAldG x6 25 v7 v8 fun v9 =>
 wGetI x6 9 4 l0 fun v10 =>
 wPutI x6 9 4 l0 (v10 + 1) fun x11 =>
 wGetI x11 9 6 l0 fun v12 =>
 wPutI x11 9 6 l0 (v12 + 1) fun x13 =>
 wPutF x13 1 2 v9 l1 fun x14 =>
 wPutF x14 1 3 v9 none fun x15 =>
 wGetI x15 9 5 l0 fun v16 =>
 wPutI x15 1 4 v9 v16 fun x17 =>
 wGetI x17 9 6 l0 fun v18 =>
 wPutI x17 1 5 v9 v18 fun x19 =>
 wPutI x19 1 6 v9 (-1) fun x20 =>
 wLoop (σ := Int32) (fun v24 x23 again21 =>
 wIf (4 ≤ v24)
 (wGetI x23 9 5 l0 fun v25 =>
 wPutI x23 9 5 l0 (v25 + 1) fun x26 =>
 wGetF x26 9 2 l0 fun v27 =>
 wRecv x26 3 v27
 (w_X3_note v27 v9 0 x26 (fun x28 =>
 Q v9 x28) X))
 (wGetF x23 1 0 v9 fun v30 =>
 wGetI x23 10 1 l1 fun v31 =>
 wJoin (κ := Int32 → HS → Prop) (fun (v34 : Int32) (x33 : HS) =>
 wAstI x33 v30 v24 v34 fun x35 =>
 again21 (v24 + 1) x35) (fun j32 =>
 wIf (v31 ≤ v24)
 (j32 0 x23)
 (wAldJ x23 20 l2 v24 fun v36 =>
 j32 v36 x23)))) 0 x20) (fun j5 =>
 wIf (v4 = none)
 (wGetF x 9 1 l0 fun v37 =>
 wGetI x 9 4 l0 fun v38 =>
 wNew x 1 7 fun q39 x40 =>
 w_X1_init q39 x40 (fun x41 =>
 wAstG x41 25 1 v37 v38 q39 fun x43 =>
 j5 x43) (fun _ _ => False))
 (j5 x)))
 (Q none x)

def w_X9_go (l0 : Option Nat) (l1 : Option Nat) (x : HS) (Q : HS → Prop) (X : String → HS → Prop) : Prop :=
 wGetI x 9 6 l0 fun v1 =>
 wPutI x 9 6 l0 (v1 + 1) fun x2 =>
 wGetI x2 9 6 l0 fun v3 =>
 wPutI x2 1 6 l1 v3 fun x4 =>
 wGetF x4 9 2 l0 fun v5 =>
 wRecv x4 3 v5
 (w_X3_note v5 l1 1 x4 (fun x6 =>
 Q x6) X)

def w_X9_withNumber (l0 : Option Nat) (l1 : Int32) (x : HS) (Q : Option Nat → HS → Prop) (_X : String → HS → Prop) : Prop :=
 wLoop (σ := Int32) (fun v4 x3 again1 =>
 wGetI x3 9 4 l0 fun v5 =>
 wIf (v5 ≤ v4)
 (Q none x3)
 (wGetF x3 9 1 l0 fun v6 =>
 wAldG x3 25 v6 v4 fun v7 =>
 wGetI x3 1 4 v7 fun v8 =>
 wIf (v8 = l1)
 (wGetF x3 9 1 l0 fun v9 =>
 wAldG x3 25 v9 v4 fun v10 =>
 Q v10 x3)
 (again1 (v4 + 1) x3))) 0 x

def w_X9_hasRoomToTurn (l0 : Option Nat) (x : HS) (Q : Int32 → HS → Prop) (X : String → HS → Prop) : Prop :=
 wGetF x 9 2 l0 fun v1 =>
 wRecv x 3 v1
 (w_X3_goneSinceMark v1 x (fun v3 x2 =>
 wGetI x2 9 4 l0 fun v4 =>
 wJoin (κ := Int32 → HS → Prop) (fun (v7 : Int32) (x6 : HS) =>
 wBit v7 (Q v7 x6)) (fun j5 =>
 wIf (((3000 : Int32) - v4) < v3)
 (j5 0 x2)
 (j5 1 x2))) X)

def w_X10_placeAfter (l0 : Option Nat) (l1 : Option Nat) (l2 : Option Nat) (x : HS) (Q : HS → Prop) (X : String → HS → Prop) : Prop :=
 wGetF x 10 2 l0 fun v1 =>
 wRecv x 0 v1
 (w_X0_putAfter v1 l1 l2 x (fun x2 =>
 wLoop (σ := Int32) (fun v7 x6 again4 =>
 wGetI x6 10 1 l0 fun v8 =>
 wIf (v8 ≤ v7)
 (Q x6)
 (wGetF x6 10 3 l0 fun v9 =>
 wAldG x6 28 v9 v7 fun v10 =>
 wJoin (κ := HS → Prop) (fun  (x12 : HS) =>
 again4 (v7 + 1) x12) (fun j11 =>
 wIf (v10 = none)
 (j11 x6)
 (wGetF x6 10 3 l0 fun v13 =>
 wAldG x6 28 v13 v7 fun v14 =>
 wRecv x6 4 v14
 (w_X4_chainFor v14 l1 x6 (fun v16 x15 =>
 wRecv x15 0 v16
 (w_X0_putAfter v16 l1 l2 x15 (fun x17 =>
 j11 x17) X)) X))))) 0 x2) X)

def w_X9_comeAgain (l0 : Option Nat) (l1 : Option Nat) (x : HS) (Q : HS → Prop) (X : String → HS → Prop) : Prop :=
 wGetF x 1 2 l1 fun v1 =>
 wGetF x 1 0 l1 fun v2 =>
 wRecv x 9 l0
 (w_X9_come l0 v1 v2 x (fun v4 x3 =>
 wJoin (κ := HS → Prop) (fun  (x6 : HS) =>
 Q x6) (fun j5 =>
 wIf (v4 = none)
 (j5 x3)
 (wGetF x3 1 2 l1 fun v7 =>
 wRecv x3 10 v7
 (w_X10_placeAfter v7 v4 l1 x3 (fun x8 =>
 wPutF x8 1 3 l1 v4 fun x10 =>
 j5 x10) X)))) X)

def w_X9_turn (l0 : Option Nat) (l1 : Int32) (x : HS) (Q : Int32 → HS → Prop) (X : String → HS → Prop) : Prop :=
 wGetF x 9 2 l0 fun v1 =>
 wGetI x 3 3 v1 fun v2 =>
 wLoop (σ := Int32) (fun v6 x5 again3 =>
 wJoin (κ := HS → Prop) (fun  (x8 : HS) =>
 Q (v2 - l1) x8) (fun j7 =>
 wIf (v6 < l1)
 (j7 x5)
 (wIf (v6 < 0)
 (j7 x5)
 (wGetF x5 9 2 l0 fun v9 =>
 wGetF x5 3 0 v9 fun v10 =>
 wAldG x5 25 v10 v6 fun v11 =>
 wGetF x5 9 2 l0 fun v12 =>
 wGetF x5 3 1 v12 fun v13 =>
 wAldJ x5 22 v13 v6 fun v14 =>
 wJoin (κ := HS → Prop) (fun  (x16 : HS) =>
 again3 (v6 + (-1)) x16) (fun j15 =>
 wIf (v14 = 0)
 (wGetF x5 1 3 v11 fun v17 =>
 wJoin (κ := Option Nat → HS → Prop) (fun (v20 : Option Nat) (x19 : HS) =>
 wRecv x19 9 l0
 (w_X9_go l0 v20 x19 (fun x21 =>
 j15 x21) X)) (fun j18 =>
 wIf (v17 = none)
 (j18 v11 x5)
 (wGetF x5 1 3 v11 fun v23 =>
 j18 v23 x5)))
 (wRecv x5 9 l0
 (w_X9_comeAgain l0 v11 x5 (fun x24 =>
 j15 x24) X))))))) (v2 - 1) x

def w_X10_placeIn (l0 : Option Nat) (l1 : Option Nat) (l2 : Int32) (x : HS) (Q : HS → Prop) (X : String → HS → Prop) : Prop :=
 wJoin (κ := HS → Prop) (fun  (x2 : HS) =>
 Q x2) (fun j1 =>
 wIf (l2 = 0)
 (wRecv x 0 l0
 (w_X0_putBehind l0 l1 x (fun x3 =>
 j1 x3) X))
 (wRecv x 0 l0
 (w_X0_putAhead l0 l1 x (fun x5 =>
 j1 x5) X)))

def w_X10_place (l0 : Option Nat) (l1 : Option Nat) (l2 : Int32) (x : HS) (Q : HS → Prop) (X : String → HS → Prop) : Prop :=
 wGetF x 10 2 l0 fun v1 =>
 w_X10_placeIn v1 l1 l2 x (fun x2 =>
 wLoop (σ := Int32) (fun v7 x6 again4 =>
 wGetI x6 10 1 l0 fun v8 =>
 wIf (v8 ≤ v7)
 (Q x6)
 (wGetF x6 10 3 l0 fun v9 =>
 wAldG x6 28 v9 v7 fun v10 =>
 wJoin (κ := HS → Prop) (fun  (x12 : HS) =>
 again4 (v7 + 1) x12) (fun j11 =>
 wIf (v10 = none)
 (j11 x6)
 (wGetF x6 10 3 l0 fun v13 =>
 wAldG x6 28 v13 v7 fun v14 =>
 wRecv x6 4 v14
 (w_X4_chainFor v14 l1 x6 (fun v16 x15 =>
 w_X10_placeIn v16 l1 l2 x15 (fun x17 =>
 j11 x17) X) X))))) 0 x2) X

def w_X10_dropDeadBy (l0 : Option Nat) (l1 : Int32) (x : HS) (Q : HS → Prop) (X : String → HS → Prop) : Prop :=
 wGetF x 10 2 l0 fun v1 =>
 wGetF x 0 3 v1 fun v2 =>
 wGetF x 10 2 l0 fun v3 =>
 wRecv x 0 v3
 (w_X0_empty v3 x (fun x4 =>
 wLoop (σ := Int32) (fun v9 x8 again6 =>
 wGetI x8 10 1 l0 fun v10 =>
 wIf (v10 ≤ v9)
 (wLoop (σ := Option Nat) (fun v14 x13 again11 =>
 wIf (v14 = none)
 (Q x13)
 (wGetF x13 1 1 v14 fun v15 =>
 wAldG x13 25 v15 4 fun v16 =>
 wRecv x13 1 v14
 (w_X1_isThereNow v14 x13 (fun v18 x17 =>
 wJoin (κ := HS → Prop) (fun  (x20 : HS) =>
 again11 v16 x20) (fun j19 =>
 wJoin (κ := HS → Prop) (fun  (x22 : HS) =>
 wRecv x22 10 l0
 (w_X10_place l0 v14 0 x22 (fun x23 =>
 j19 x23) X)) (fun j21 =>
 wIf (v18 = 0)
 (wGetI x17 1 6 v14 fun v25 =>
 wIf (v25 ≤ l1)
 (j19 x17)
 (j21 x17))
 (j21 x17)))) X))) v2 x8)
 (wGetF x8 10 3 l0 fun v26 =>
 wAldG x8 28 v26 v9 fun v27 =>
 wJoin (κ := HS → Prop) (fun  (x29 : HS) =>
 again6 (v9 + 1) x29) (fun j28 =>
 wIf (v27 = none)
 (j28 x8)
 (wGetF x8 10 3 l0 fun v30 =>
 wAldG x8 28 v30 v9 fun v31 =>
 wRecv x8 4 v31
 (w_X4_empty v31 x8 (fun x32 =>
 j28 x32) X))))) 0 x4) X)

def w_X9_forgetDead (l0 : Option Nat) (l1 : Int32) (x : HS) (Q : Int32 → HS → Prop) (X : String → HS → Prop) : Prop :=
 wGetI x 9 7 l0 fun v1 =>
 wPutI x 9 7 l0 (if v1 < l1 then l1 else v1) fun x2 =>
 wLoop (σ := Int32) (fun v6 x5 again3 =>
 wGetI x5 9 3 l0 fun v7 =>
 wIf (v7 ≤ v6)
 (wGetI x5 9 4 l0 fun v8 =>
 wPutI x5 9 4 l0 0 fun x9 =>
 wLoop (σ := Int32) (fun v13 x12 again10 =>
 wIf (v8 ≤ v13)
 (wGetI x12 9 4 l0 fun v14 =>
 Q (v8 - v14) x12)
 (wGetF x12 9 1 l0 fun v15 =>
 wAldG x12 25 v15 v13 fun v16 =>
 wRecv x12 1 v16
 (w_X1_isThereNow v16 x12 (fun v18 x17 =>
 wJoin (κ := HS → Prop) (fun  (x20 : HS) =>
 again10 (v13 + 1) x20) (fun j19 =>
 wJoin (κ := HS → Prop) (fun  (x22 : HS) =>
 wGetF x22 9 1 l0 fun v23 =>
 wGetF x22 9 1 l0 fun v24 =>
 wGetI x22 9 4 l0 fun v25 =>
 wAldG x22 25 v24 v25 fun v26 =>
 wAstG x22 25 1 v23 v13 v26 fun x27 =>
 wGetF x27 9 1 l0 fun v28 =>
 wGetI x27 9 4 l0 fun v29 =>
 wAstG x27 25 1 v28 v29 v16 fun x30 =>
 wGetI x30 9 4 l0 fun v31 =>
 wPutI x30 9 4 l0 (v31 + 1) fun x32 =>
 j19 x32) (fun j21 =>
 wIf (v18 = 0)
 (wGetI x17 1 6 v16 fun v33 =>
 wGetI x17 9 7 l0 fun v34 =>
 wIf (v33 ≤ v34)
 (j19 x17)
 (j21 x17))
 (j21 x17)))) X))) 0 x9)
 (wGetF x5 9 0 l0 fun v35 =>
 wAldG x5 24 v35 v6 fun v36 =>
 wGetI x5 9 7 l0 fun v37 =>
 wRecv x5 10 v36
 (w_X10_dropDeadBy v36 v37 x5 (fun x38 =>
 again3 (v6 + 1) x38) X))) 0 x2

def w_X10_makeIndex (l0 : Option Nat) (l1 : Int32) (x : HS) (Q : Int32 → HS → Prop) (X : String → HS → Prop) : Prop :=
 wJoin (κ := HS → Prop) (fun  (x2 : HS) =>
 wBit 0 (Q 0 x2)) (fun j1 =>
 wIf (l1 < 0)
 (j1 x)
 (wGetI x 10 1 l0 fun v3 =>
 wIf (v3 ≤ l1)
 (j1 x)
 (wGetF x 10 3 l0 fun v4 =>
 wAldG x 28 v4 l1 fun v5 =>
 wIf (v5 = none)
 (wNew x 4 2 fun q6 x7 =>
 w_X4_init q6 l1 x7 (fun x8 =>
 wGetF x8 10 2 l0 fun v10 =>
 wGetF x8 0 3 v10 fun v11 =>
 wLoop (σ := Option Nat) (fun v15 x14 again12 =>
 wIf (v15 = none)
 (wGetF x14 10 3 l0 fun v16 =>
 wAstG x14 28 4 v16 l1 q6 fun x17 =>
 wBit 1 (Q 1 x17))
 (wRecv x14 4 q6
 (w_X4_chainFor q6 v15 x14 (fun v19 x18 =>
 wRecv x18 0 v19
 (w_X0_putBehind v19 v15 x18 (fun x20 =>
 wGetF x20 1 1 v15 fun v22 =>
 wAldG x20 25 v22 4 fun v23 =>
 again12 v23 x20) X)) X))) v11 x8) (fun _ _ => False))
 (j1 x))))

def w_X10_hasKey (l0 : Option Nat) (l1 : Int32) (x : HS) (Q : Int32 → HS → Prop) (_X : String → HS → Prop) : Prop :=
 wLoop (σ := Int32) (fun v4 x3 again1 =>
 wGetI x3 10 5 l0 fun v5 =>
 wIf (v5 ≤ v4)
 (wBit 0 (Q 0 x3))
 (wGetF x3 10 4 l0 fun v6 =>
 wAldJ x3 20 v6 v4 fun v7 =>
 wIf (v7 = l1)
 (wBit 1 (Q 1 x3))
 (again1 (v4 + 1) x3))) 0 x

def w_X10_makeKey (l0 : Option Nat) (l1 : Int32) (x : HS) (Q : Int32 → HS → Prop) (_X : String → HS → Prop) : Prop :=
 wGetI x 10 5 l0 fun v1 =>
 wIf (v1 < 3)
 (wGetF x 10 4 l0 fun v2 =>
 wGetI x 10 5 l0 fun v3 =>
 wAstI x v2 v3 l1 fun x4 =>
 wGetI x4 10 5 l0 fun v5 =>
 wPutI x4 10 5 l0 (v5 + 1) fun x6 =>
 wBit 1 (Q 1 x6))
 (wBit 0 (Q 0 x))

def w_X10_isThereNowFrom (l0 : Option Nat) (l1 : Int32) (l2 : Option Nat) (x : HS) (Q : Int32 → HS → Prop) (X : String → HS → Prop) : Prop :=
 wLoop (σ := Option Nat) (fun v4 x3 again1 =>
 wIf (v4 = none)
 (wBit 0 (Q 0 x3))
 (wRecv x3 1 v4
 (w_X1_isThereNow v4 x3 (fun v6 x5 =>
 wJoin (κ := HS → Prop) (fun  (x8 : HS) =>
 wGetF x8 1 1 v4 fun v9 =>
 wAldG x8 25 v9 4 fun v10 =>
 again1 v10 x8) (fun j7 =>
 wIf (v6 = 0)
 (j7 x5)
 (wRecv x5 1 v4
 (w_X1_fits v4 l1 l2 x5 (fun v12 x11 =>
 wIf (v12 = 0)
 (j7 x11)
 (wBit 1 (Q 1 x11))) X)))) X))) l0 x

def w_X10_hasTwins (l0 : Option Nat) (l1 : Int32) (x : HS) (Q : Int32 → HS → Prop) (X : String → HS → Prop) : Prop :=
 wGetF x 10 2 l0 fun v1 =>
 wGetF x 0 3 v1 fun v2 =>
 wLoop (σ := Option Nat) (fun v6 x5 again3 =>
 wIf (v6 = none)
 (wBit 0 (Q 0 x5))
 (wRecv x5 1 v6
 (w_X1_isThereNow v6 x5 (fun v8 x7 =>
 wJoin (κ := HS → Prop) (fun  (x10 : HS) =>
 wGetF x10 1 1 v6 fun v11 =>
 wAldG x10 25 v11 4 fun v12 =>
 again3 v12 x10) (fun j9 =>
 wIf (v8 = 0)
 (j9 x7)
 (wGetF x7 1 1 v6 fun v13 =>
 wAldG x7 25 v13 4 fun v14 =>
 wGetF x7 1 0 v6 fun v15 =>
 w_X10_isThereNowFrom v14 l1 v15 x7 (fun v17 x16 =>
 wIf (v17 = 0)
 (j9 x16)
 (wBit 1 (Q 1 x16))) X))) X))) v2 x

def w_X10_breaksKey (l0 : Option Nat) (l1 : Option Nat) (x : HS) (Q : Int32 → HS → Prop) (X : String → HS → Prop) : Prop :=
 wLoop (σ := Int32) (fun v4 x3 again1 =>
 wGetI x3 10 5 l0 fun v5 =>
 wIf (v5 ≤ v4)
 (wBit 0 (Q 0 x3))
 (wGetF x3 10 2 l0 fun v6 =>
 wGetF x3 0 3 v6 fun v7 =>
 wGetF x3 10 4 l0 fun v8 =>
 wAldJ x3 20 v8 v4 fun v9 =>
 w_X10_isThereNowFrom v7 v9 l1 x3 (fun v11 x10 =>
 wIf (v11 = 0)
 (again1 (v4 + 1) x10)
 (wBit 1 (Q 1 x10))) X)) 0 x

def w_X10_factsThereNow (l0 : Option Nat) (x : HS) (Q : Int32 → HS → Prop) (X : String → HS → Prop) : Prop :=
 wGetF x 10 2 l0 fun v1 =>
 wGetF x 0 3 v1 fun v2 =>
 wLoop (σ := Int32 × Option Nat) (fun v6 x5 again3 =>
 wIf (v6.2 = none)
 (Q v6.1 x5)
 (wRecv x5 1 v6.2
 (w_X1_isThereNow v6.2 x5 (fun v8 x7 =>
 wJoin (κ := Int32 → HS → Prop) (fun (v11 : Int32) (x10 : HS) =>
 wGetF x10 1 1 v6.2 fun v12 =>
 wAldG x10 25 v12 4 fun v13 =>
 again3 (v11, v13) x10) (fun j9 =>
 wIf (v8 = 0)
 (j9 v6.1 x7)
 (j9 (v6.1 + 1) x7))) X))) (0, v2) x

def w_X11_init (l0 : Option Nat) (x : HS) (Q : HS → Prop) (_X : String → HS → Prop) : Prop :=
 wRef l0
 (wNewJ x 21 400 fun q1 x2 =>
 wPutF x2 11 0 l0 q1 fun x3 =>
 wNewJ x3 20 4 fun q4 x5 =>
 wPutF x5 11 1 l0 q4 fun x6 =>
 wNew x6 9 8 fun q7 x8 =>
 w_X9_init q7 x8 (fun x9 =>
 wPutF x9 11 2 l0 q7 fun x11 =>
 wNewG x11 26 10 fun q12 x13 =>
 wPutF x13 11 3 l0 q12 fun x14 =>
 wNewJ x14 22 10 fun q15 x16 =>
 wPutF x16 11 4 l0 q15 fun x17 =>
 wNewJ x17 20 3000 fun q18 x19 =>
 wPutF x19 11 5 l0 q18 fun x20 =>
 wNew x20 5 8 fun q21 x22 =>
 w_X5_init q21 x22 (fun x23 =>
 wPutF x23 11 6 l0 q21 fun x25 =>
 wNew x25 6 8 fun q26 x27 =>
 w_X6_init q26 x27 (fun x28 =>
 wPutF x28 11 7 l0 q26 fun x30 =>
 wNew x30 8 8 fun q31 x32 =>
 w_X8_init q31 x32 (fun x33 =>
 wPutF x33 11 8 l0 q31 fun x35 =>
 wLoop (σ := Int32) (fun v39 x38 again36 =>
 wIf (10 ≤ v39)
 (Q x38)
 (wGetF x38 11 3 l0 fun v40 =>
 wNew x38 5 8 fun q41 x42 =>
 w_X5_init q41 x42 (fun x43 =>
 wAstG x43 26 5 v40 v39 q41 fun x45 =>
 again36 (v39 + 1) x45) (fun _ _ => False))) 0 x35) (fun _ _ => False)) (fun _ _ => False)) (fun _ _ => False)) (fun _ _ => False))

def w_X11_putBytes (l0 : Option Nat) (l1 : Int32) (x : HS) (Q : HS → Prop) (_X : String → HS → Prop) : Prop :=
 wLoop (σ := Int32) (fun v4 x3 again1 =>
 wJoin (κ := HS → Prop) (fun  (x6 : HS) =>
 Q x6) (fun j5 =>
 wIf (v4 < 0)
 (j5 x3)
 (wGetI x3 11 9 l0 fun v7 =>
 wIf (400 ≤ v7)
 (j5 x3)
 (wGetF x3 11 0 l0 fun v8 =>
 wGetI x3 11 9 l0 fun v9 =>
 wAstB x3 v8 v9 ((l1 >>> (v4 &&& 31)).toInt8.toInt32) fun x10 =>
 wGetI x10 11 9 l0 fun v11 =>
 wPutI x10 11 9 l0 (v11 + 1) fun x12 =>
 again1 (v4 + (-8)) x12)))) 24 x

def w_X11_feed (l0 : Option Nat) (l1 : Int32) (l2 : Int32) (l3 : Int32) (l4 : Int32) (l5 : Int32) (x : HS) (Q : Int32 → HS → Prop) (X : String → HS → Prop) : Prop :=
 wGetI x 11 9 l0 fun v1 =>
 wIf (v1 ≤ 380)
 (wRecv x 11 l0
 (w_X11_putBytes l0 l1 x (fun x2 =>
 wRecv x2 11 l0
 (w_X11_putBytes l0 l2 x2 (fun x4 =>
 wRecv x4 11 l0
 (w_X11_putBytes l0 l3 x4 (fun x6 =>
 wRecv x6 11 l0
 (w_X11_putBytes l0 l4 x6 (fun x8 =>
 wRecv x8 11 l0
 (w_X11_putBytes l0 l5 x8 (fun x10 =>
 wGetI x10 11 9 l0 fun v12 =>
 Q v12 x10) X)) X)) X)) X)) X))
 (wThrow x eIB X)

def w_X11_requireRange (l0 : Int32) (l1 : Int32) (l2 : Int32) (x : HS) (Q : HS → Prop) (X : String → HS → Prop) : Prop :=
 wJoin (κ := HS → Prop) (fun  (x2 : HS) =>
 wThrow x2 eIA X) (fun j1 =>
 wIf (l0 < l1)
 (j1 x)
 (wIf (l0 ≤ l2)
 (Q x)
 (j1 x)))

def w_X11_end (l0 : Option Nat) (l1 : Int32) (x : HS) (Q : Int32 → HS → Prop) (X : String → HS → Prop) : Prop :=
 wGetI x 11 9 l0 fun v1 =>
 w_X11_requireRange l1 0 v1 x (fun x2 =>
 wPutI x2 11 9 l0 l1 fun x4 =>
 Q l1 x4) X

def w_X11_value (l0 : Option Nat) (l1 : Int32) (l2 : Int32) (x : HS) (Q : Int32 → HS → Prop) (X : String → HS → Prop) : Prop :=
 w_X11_requireRange l1 0 3 x (fun x1 =>
 wGetF x1 11 1 l0 fun v3 =>
 wAldJ x1 20 v3 l1 fun v4 =>
 wGetF x1 11 1 l0 fun v5 =>
 wAstI x1 v5 l1 l2 fun x6 =>
 Q v4 x6) X

def w_X11_table (l0 : Option Nat) (l1 : Int32) (x : HS) (Q : Int32 → HS → Prop) (X : String → HS → Prop) : Prop :=
 w_X11_requireRange l1 1 4 x (fun x1 =>
 wGetF x1 11 2 l0 fun v3 =>
 wRecv x1 9 v3
 (w_X9_makeTable v3 l1 x1 (fun v5 x4 =>
 wIf (v5 = (-1))
 (wThrow x4 eIS X)
 (Q v5 x4)) X)) X

def w_X11_tableOf (l0 : Option Nat) (l1 : Int32) (x : HS) (Q : Option Nat → HS → Prop) (X : String → HS → Prop) : Prop :=
 wGetF x 11 2 l0 fun v1 =>
 wRecv x 9 v1
 (w_X9_tableAt v1 l1 x (fun v3 x2 =>
 wIf (v3 = none)
 (wThrow x2 eNE X)
 (Q v3 x2)) X)

def w_X11_index (l0 : Option Nat) (l1 : Int32) (l2 : Int32) (x : HS) (Q : Int32 → HS → Prop) (X : String → HS → Prop) : Prop :=
 wRecv x 11 l0
 (w_X11_tableOf l0 l1 x (fun v2 x1 =>
 wGetI x1 10 1 v2 fun v3 =>
 w_X11_requireRange l2 0 (v3 - 1) x1 (fun x4 =>
 wRecv x4 10 v2
 (w_X10_makeIndex v2 l2 x4 (fun v7 x6 =>
 wJoin (κ := Int32 → HS → Prop) (fun (v10 : Int32) (x9 : HS) =>
 Q v10 x9) (fun j8 =>
 wIf (v7 = 0)
 (j8 0 x6)
 (j8 1 x6))) X)) X) X)

def w_X11_key (l0 : Option Nat) (l1 : Int32) (l2 : Int32) (x : HS) (Q : Int32 → HS → Prop) (X : String → HS → Prop) : Prop :=
 wRecv x 11 l0
 (w_X11_tableOf l0 l1 x (fun v2 x1 =>
 wRecv x1 10 v2
 (w_X10_allColumns v2 x1 (fun v4 x3 =>
 w_X11_requireRange l2 1 v4 x3 (fun x5 =>
 wRecv x5 10 v2
 (w_X10_hasTwins v2 l2 x5 (fun v8 x7 =>
 wIf (v8 = 0)
 (wRecv x7 10 v2
 (w_X10_hasKey v2 l2 x7 (fun v10 x9 =>
 wIf (v10 = 0)
 (wRecv x9 10 v2
 (w_X10_makeKey v2 l2 x9 (fun v12 x11 =>
 wIf (v12 = 0)
 (wThrow x11 eIB X)
 (Q 1 x11)) X))
 (Q 0 x9)) X))
 (wThrow x7 eIS X)) X)) X) X)) X)

def w_X11_add (l0 : Option Nat) (l1 : Int32) (l2 : Int32) (x : HS) (Q : Int32 → HS → Prop) (X : String → HS → Prop) : Prop :=
 w_X11_requireRange l2 0 1 x (fun x1 =>
 wRecv x1 11 l0
 (w_X11_tableOf l0 l1 x1 (fun v4 x3 =>
 wGetF x3 11 1 l0 fun v5 =>
 wRecv x3 10 v4
 (w_X10_breaksKey v4 v5 x3 (fun v7 x6 =>
 wIf (v7 = 0)
 (wGetF x6 11 2 l0 fun v8 =>
 wGetF x6 11 1 l0 fun v9 =>
 wRecv x6 9 v8
 (w_X9_come v8 v4 v9 x6 (fun v11 x10 =>
 wIf (v11 = none)
 (wThrow x10 eIS X)
 (wJoin (κ := Int32 → HS → Prop) (fun (v14 : Int32) (x13 : HS) =>
 wRecv x13 10 v4
 (w_X10_place v4 v11 v14 x13 (fun x15 =>
 wGetI x15 1 4 v11 fun v17 =>
 Q v17 x15) X)) (fun j12 =>
 wIf (l2 = 1)
 (j12 1 x10)
 (j12 0 x10)))) X))
 (wThrow x6 eUO X)) X)) X)) X

def w_X11_requireTime (l0 : Option Nat) (l1 : Int32) (x : HS) (Q : HS → Prop) (X : String → HS → Prop) : Prop :=
 wJoin (κ := HS → Prop) (fun  (x2 : HS) =>
 Q x2) (fun j1 =>
 wIf (l1 = (-1))
 (j1 x)
 (wGetF x 11 2 l0 fun v3 =>
 wGetI x 9 7 v3 fun v4 =>
 wGetF x 11 2 l0 fun v5 =>
 wGetI x 9 6 v5 fun v6 =>
 w_X11_requireRange l1 v4 v6 x (fun x7 =>
 j1 x7) X))

def w_X11_requireLook (l0 : Option Nat) (l1 : Int32) (l2 : Int32) (l3 : Int32) (x : HS) (Q : HS → Prop) (X : String → HS → Prop) : Prop :=
 w_X11_requireRange l2 0 15 x (fun x1 =>
 wRecv x1 11 l0
 (w_X11_requireTime l0 l3 x1 (fun x3 =>
 wRecv x3 11 l0
 (w_X11_tableOf l0 l1 x3 (fun v6 x5 =>
 Q x5) X)) X)) X

def w_X11_beginLook (l0 : Option Nat) (l1 : Option Nat) (l2 : Int32) (l3 : Int32) (l4 : Int32) (x : HS) (Q : HS → Prop) (X : String → HS → Prop) : Prop :=
 wRecv x 11 l0
 (w_X11_requireLook l0 l2 l3 l4 x (fun x1 =>
 wRecv x1 11 l0
 (w_X11_tableOf l0 l2 x1 (fun v4 x3 =>
 wGetF x3 11 1 l0 fun v5 =>
 wGetF x3 11 2 l0 fun v6 =>
 wRecv x3 9 v6
 (w_X9_timeOf v6 l4 x3 (fun v8 x7 =>
 wRecv x7 5 l1
 (w_X5_begin l1 v4 l3 v5 v8 x7 (fun x9 =>
 Q x9) X)) X)) X)) X)

def w_X11_numberOf (l0 : Option Nat) (x : HS) (Q : Int32 → HS → Prop) (_X : String → HS → Prop) : Prop :=
 wJoin (κ := Int32 → HS → Prop) (fun (v3 : Int32) (x2 : HS) =>
 Q v3 x2) (fun j1 =>
 wIf (l0 = none)
 (j1 (-1) x)
 (wGetI x 1 4 l0 fun v4 =>
 j1 v4 x))

def w_X11_removeFirst (l0 : Option Nat) (x : HS) (Q : Int32 → HS → Prop) (X : String → HS → Prop) : Prop :=
 wGetF x 11 6 l0 fun v1 =>
 wRecv x 5 v1
 (w_X5_advance v1 x (fun v3 x2 =>
 wJoin (κ := HS → Prop) (fun  (x5 : HS) =>
 w_X11_numberOf v3 x5 (fun v7 x6 =>
 Q v7 x6) X) (fun j4 =>
 wIf (v3 = none)
 (j4 x2)
 (wGetF x2 11 2 l0 fun v8 =>
 wRecv x2 9 v8
 (w_X9_go v8 v3 x2 (fun x9 =>
 j4 x9) X)))) X)

def w_X11_removeAll (l0 : Option Nat) (x : HS) (Q : Int32 → HS → Prop) (X : String → HS → Prop) : Prop :=
 wLoop (σ := Int32) (fun v4 x3 again1 =>
 wJoin (κ := HS → Prop) (fun  (x6 : HS) =>
 Q v4 x6) (fun j5 =>
 wIf (3000 ≤ v4)
 (j5 x3)
 (wGetF x3 11 6 l0 fun v7 =>
 wRecv x3 5 v7
 (w_X5_advance v7 x3 (fun v9 x8 =>
 wIf (v9 = none)
 (j5 x8)
 (wGetF x8 11 2 l0 fun v10 =>
 wRecv x8 9 v10
 (w_X9_go v10 v9 x8 (fun x11 =>
 again1 (v4 + 1) x11) X))) X)))) 0 x

def w_X11_remove (l0 : Option Nat) (l1 : Int32) (l2 : Int32) (l3 : Int32) (x : HS) (Q : Int32 → HS → Prop) (X : String → HS → Prop) : Prop :=
 w_X11_requireRange l3 0 1 x (fun x1 =>
 wGetF x1 11 6 l0 fun v3 =>
 wRecv x1 11 l0
 (w_X11_beginLook l0 v3 l1 l2 (-1) x1 (fun x4 =>
 wJoin (κ := Int32 → HS → Prop) (fun (v8 : Int32) (x7 : HS) =>
 wGetF x7 11 6 l0 fun v9 =>
 wRecv x7 5 v9
 (w_X5_takeLookedAt v9 x7 (fun v11 x10 =>
 wPutI x10 11 11 l0 v11 fun x12 =>
 Q v8 x12) X)) (fun j6 =>
 wIf (l3 = 0)
 (wRecv x4 11 l0
 (w_X11_removeFirst l0 x4 (fun v14 x13 =>
 j6 v14 x13) X))
 (wRecv x4 11 l0
 (w_X11_removeAll l0 x4 (fun v16 x15 =>
 j6 v16 x15) X)))) X)) X

def w_X11_find (l0 : Option Nat) (l1 : Int32) (l2 : Int32) (l3 : Int32) (x : HS) (Q : Int32 → HS → Prop) (X : String → HS → Prop) : Prop :=
 wGetF x 11 6 l0 fun v1 =>
 wRecv x 11 l0
 (w_X11_beginLook l0 v1 l1 l2 l3 x (fun x2 =>
 wGetF x2 11 6 l0 fun v4 =>
 wRecv x2 5 v4
 (w_X5_advance v4 x2 (fun v6 x5 =>
 wGetF x5 11 6 l0 fun v7 =>
 wRecv x5 5 v7
 (w_X5_takeLookedAt v7 x5 (fun v9 x8 =>
 wPutI x8 11 11 l0 v9 fun x10 =>
 w_X11_numberOf v6 x10 (fun v12 x11 =>
 Q v12 x11) X) X)) X)) X)

def w_X11_many (l0 : Option Nat) (l1 : Int32) (l2 : Int32) (l3 : Int32) (x : HS) (Q : Int32 → HS → Prop) (X : String → HS → Prop) : Prop :=
 wGetF x 11 6 l0 fun v1 =>
 wRecv x 11 l0
 (w_X11_beginLook l0 v1 l1 l2 l3 x (fun x2 =>
 wLoop (σ := Int32) (fun v7 x6 again4 =>
 wJoin (κ := HS → Prop) (fun  (x9 : HS) =>
 wGetF x9 11 6 l0 fun v10 =>
 wRecv x9 5 v10
 (w_X5_takeLookedAt v10 x9 (fun v12 x11 =>
 wPutI x11 11 11 l0 v12 fun x13 =>
 Q v7 x13) X)) (fun j8 =>
 wIf (3000 ≤ v7)
 (j8 x6)
 (wGetF x6 11 6 l0 fun v14 =>
 wRecv x6 5 v14
 (w_X5_advance v14 x6 (fun v16 x15 =>
 wIf (v16 = none)
 (j8 x15)
 (again4 (v7 + 1) x15)) X)))) 0 x2) X)

def w_X11_freeCursor (l0 : Option Nat) (x : HS) (Q : Int32 → HS → Prop) (_X : String → HS → Prop) : Prop :=
 wLoop (σ := Int32) (fun v4 x3 again1 =>
 wIf (10 ≤ v4)
 (Q (-1) x3)
 (wGetF x3 11 4 l0 fun v5 =>
 wAldJ x3 22 v5 v4 fun v6 =>
 wIf (v6 = 0)
 (Q v4 x3)
 (again1 (v4 + 1) x3))) 0 x

def w_X11_open (l0 : Option Nat) (l1 : Int32) (l2 : Int32) (l3 : Int32) (x : HS) (Q : Int32 → HS → Prop) (X : String → HS → Prop) : Prop :=
 wRecv x 11 l0
 (w_X11_requireLook l0 l1 l2 l3 x (fun x1 =>
 wRecv x1 11 l0
 (w_X11_freeCursor l0 x1 (fun v4 x3 =>
 wIf (v4 = (-1))
 (wThrow x3 eIS X)
 (wGetF x3 11 3 l0 fun v5 =>
 wAldG x3 26 v5 v4 fun v6 =>
 wRecv x3 11 l0
 (w_X11_beginLook l0 v6 l1 l2 l3 x3 (fun x7 =>
 wGetF x7 11 4 l0 fun v9 =>
 wAstZ x7 v9 v4 1 fun x10 =>
 Q v4 x10) X))) X)) X)

def w_X11_requireOpen (l0 : Option Nat) (l1 : Int32) (x : HS) (Q : HS → Prop) (X : String → HS → Prop) : Prop :=
 w_X11_requireRange l1 0 9 x (fun x1 =>
 wGetF x1 11 4 l0 fun v3 =>
 wAldJ x1 22 v3 l1 fun v4 =>
 wIf (v4 = 0)
 (wThrow x1 eNE X)
 (Q x1)) X

def w_X11_next (l0 : Option Nat) (l1 : Int32) (x : HS) (Q : Int32 → HS → Prop) (X : String → HS → Prop) : Prop :=
 wRecv x 11 l0
 (w_X11_requireOpen l0 l1 x (fun x1 =>
 wGetF x1 11 3 l0 fun v3 =>
 wAldG x1 26 v3 l1 fun v4 =>
 wRecv x1 5 v4
 (w_X5_advance v4 x1 (fun v6 x5 =>
 wGetF x5 11 3 l0 fun v7 =>
 wAldG x5 26 v7 l1 fun v8 =>
 wRecv x5 5 v8
 (w_X5_takeLookedAt v8 x5 (fun v10 x9 =>
 wPutI x9 11 11 l0 v10 fun x11 =>
 w_X11_numberOf v6 x11 (fun v13 x12 =>
 Q v13 x12) X) X)) X)) X)

def w_X11_close (l0 : Option Nat) (l1 : Int32) (x : HS) (Q : Int32 → HS → Prop) (X : String → HS → Prop) : Prop :=
 wRecv x 11 l0
 (w_X11_requireOpen l0 l1 x (fun x1 =>
 wGetF x1 11 4 l0 fun v3 =>
 wAstZ x1 v3 l1 0 fun x4 =>
 wGetF x4 11 3 l0 fun v5 =>
 wAldG x4 26 v5 l1 fun v6 =>
 wGetI x4 5 0 v6 fun v7 =>
 Q v7 x4) X)

def w_X11_fact (l0 : Option Nat) (l1 : Int32) (l2 : Int32) (x : HS) (Q : Int32 → HS → Prop) (X : String → HS → Prop) : Prop :=
 w_X11_requireRange l2 0 7 x (fun x1 =>
 wGetF x1 11 2 l0 fun v3 =>
 wRecv x1 9 v3
 (w_X9_withNumber v3 l1 x1 (fun v5 x4 =>
 wIf (v5 = none)
 (wThrow x4 eNE X)
 (wIf (l2 = 4)
 (wGetF x4 1 2 v5 fun v6 =>
 wGetI x4 10 0 v6 fun v7 =>
 Q v7 x4)
 (wIf (l2 = 5)
 (wGetI x4 1 5 v5 fun v8 =>
 Q v8 x4)
 (wIf (l2 = 6)
 (wGetI x4 1 6 v5 fun v9 =>
 Q v9 x4)
 (wIf (l2 = 7)
 (wGetF x4 1 2 v5 fun v10 =>
 wGetF x4 10 2 v10 fun v11 =>
 wRecv x4 0 v11
 (w_X0_factsAhead v11 v5 x4 (fun v13 x12 =>
 Q v13 x12) X))
 (wGetF x4 1 0 v5 fun v14 =>
 wAldJ x4 20 v14 l2 fun v15 =>
 Q v15 x4)))))) X)) X

def w_X11_mark (l0 : Option Nat) (x : HS) (Q : Int32 → HS → Prop) (X : String → HS → Prop) : Prop :=
 wGetF x 11 2 l0 fun v1 =>
 wGetF x 9 2 v1 fun v2 =>
 wRecv x 3 v2
 (w_X3_makeMark v2 x (fun v4 x3 =>
 wIf (v4 = 0)
 (wThrow x3 eIS X)
 (wGetF x3 11 2 l0 fun v5 =>
 wGetF x3 9 2 v5 fun v6 =>
 wGetI x3 3 4 v6 fun v7 =>
 Q v7 x3)) X)

def w_X11_back (l0 : Option Nat) (l1 : Int32) (x : HS) (Q : Int32 → HS → Prop) (X : String → HS → Prop) : Prop :=
 wGetF x 11 2 l0 fun v1 =>
 wGetF x 9 2 v1 fun v2 =>
 wGetI x 3 4 v2 fun v3 =>
 wIf (v3 = 0)
 (wThrow x eIS X)
 (wJoin (κ := HS → Prop) (fun  (x5 : HS) =>
 wGetF x5 11 2 l0 fun v6 =>
 wGetF x5 9 2 v6 fun v7 =>
 wRecv x5 3 v7
 (w_X3_dropMark v7 x5 (fun v9 x8 =>
 wJoin (κ := Int32 → HS → Prop) (fun (v12 : Int32) (x11 : HS) =>
 wGetF x11 11 2 l0 fun v13 =>
 wGetF x11 9 2 v13 fun v14 =>
 wRecv x11 3 v14
 (w_X3_forgetWithoutMarks v14 x11 (fun x15 =>
 Q v12 x15) X)) (fun j10 =>
 wIf (l1 = 0)
 (j10 0 x8)
 (wGetF x8 11 2 l0 fun v17 =>
 wRecv x8 9 v17
 (w_X9_turn v17 v9 x8 (fun v19 x18 =>
 j10 v19 x18) X)))) X)) (fun j4 =>
 wIf (l1 = 0)
 (j4 x)
 (wGetF x 11 2 l0 fun v20 =>
 wRecv x 9 v20
 (w_X9_hasRoomToTurn v20 x (fun v22 x21 =>
 wIf (v22 = 0)
 (wThrow x21 eIS X)
 (j4 x21)) X))))

def w_X11_openCursors (l0 : Option Nat) (x : HS) (Q : Int32 → HS → Prop) (_X : String → HS → Prop) : Prop :=
 wLoop (σ := Int32 × Int32) (fun v4 x3 again1 =>
 wIf (10 ≤ v4.2)
 (Q v4.1 x3)
 (wGetF x3 11 4 l0 fun v5 =>
 wAldJ x3 22 v5 v4.2 fun v6 =>
 wJoin (κ := Int32 → HS → Prop) (fun (v9 : Int32) (x8 : HS) =>
 again1 (v9, (v4.2 + 1)) x8) (fun j7 =>
 wIf (v6 = 0)
 (j7 v4.1 x3)
 (j7 (v4.1 + 1) x3)))) (0, 0) x

def w_X11_purge (l0 : Option Nat) (l1 : Int32) (x : HS) (Q : Int32 → HS → Prop) (X : String → HS → Prop) : Prop :=
 wRecv x 11 l0
 (w_X11_requireTime l0 l1 x (fun x1 =>
 wRecv x1 11 l0
 (w_X11_openCursors l0 x1 (fun v4 x3 =>
 wJoin (κ := HS → Prop) (fun  (x6 : HS) =>
 wThrow x6 eIS X) (fun j5 =>
 wIf (0 < v4)
 (j5 x3)
 (wGetF x3 11 2 l0 fun v7 =>
 wGetF x3 9 2 v7 fun v8 =>
 wGetI x3 3 4 v8 fun v9 =>
 wIf (v9 ≤ 0)
 (wGetF x3 11 2 l0 fun v10 =>
 wGetF x3 11 2 l0 fun v11 =>
 wRecv x3 9 v11
 (w_X9_timeOf v11 l1 x3 (fun v13 x12 =>
 wRecv x12 9 v10
 (w_X9_forgetDead v10 v13 x12 (fun v15 x14 =>
 Q v15 x14) X)) X))
 (j5 x3)))) X)) X)

def w_X11_putFound (l0 : Option Nat) (l1 : Int32) (x : HS) (Q : HS → Prop) (_X : String → HS → Prop) : Prop :=
 wGetI x 11 10 l0 fun v1 =>
 wJoin (κ := HS → Prop) (fun  (x3 : HS) =>
 Q x3) (fun j2 =>
 wIf (3000 ≤ v1)
 (j2 x)
 (wGetF x 11 5 l0 fun v4 =>
 wGetI x 11 10 l0 fun v5 =>
 wAstI x v4 v5 l1 fun x6 =>
 wGetI x6 11 10 l0 fun v7 =>
 wPutI x6 11 10 l0 (v7 + 1) fun x8 =>
 j2 x8))

def w_X11_changes (l0 : Option Nat) (l1 : Int32) (l2 : Int32) (l3 : Int32) (x : HS) (Q : Int32 → HS → Prop) (X : String → HS → Prop) : Prop :=
 wRecv x 11 l0
 (w_X11_requireTime l0 l2 x (fun x1 =>
 wRecv x1 11 l0
 (w_X11_requireTime l0 l3 x1 (fun x3 =>
 wRecv x3 11 l0
 (w_X11_tableOf l0 l1 x3 (fun v6 x5 =>
 wGetF x5 11 2 l0 fun v7 =>
 wRecv x5 9 v7
 (w_X9_timeOf v7 l2 x5 (fun v9 x8 =>
 wGetF x8 11 2 l0 fun v10 =>
 wRecv x8 9 v10
 (w_X9_timeOf v10 l3 x8 (fun v12 x11 =>
 wPutI x11 11 10 l0 0 fun x13 =>
 wGetF x13 10 2 v6 fun v14 =>
 wGetF x13 0 3 v14 fun v15 =>
 wLoop (σ := Option Nat) (fun v19 x18 again16 =>
 wIf (v19 = none)
 (wGetF x18 10 2 v6 fun v20 =>
 wGetF x18 0 3 v20 fun v21 =>
 wLoop (σ := Option Nat) (fun v25 x24 again22 =>
 wIf (v25 = none)
 (wGetI x24 11 10 l0 fun v26 =>
 Q v26 x24)
 (wRecv x24 1 v25
 (w_X1_isThere v25 v9 x24 (fun v28 x27 =>
 wJoin (κ := HS → Prop) (fun  (x30 : HS) =>
 wGetF x30 1 1 v25 fun v31 =>
 wAldG x30 25 v31 4 fun v32 =>
 again22 v32 x30) (fun j29 =>
 wIf (v28 = 0)
 (j29 x27)
 (wRecv x27 1 v25
 (w_X1_isThere v25 v12 x27 (fun v34 x33 =>
 wIf (v34 = 0)
 (wGetI x33 1 4 v25 fun v35 =>
 wRecv x33 11 l0
 (w_X11_putFound l0 (((-1) : Int32) - v35) x33 (fun x36 =>
 j29 x36) X))
 (j29 x33)) X)))) X))) v21 x18)
 (wRecv x18 1 v19
 (w_X1_isThere v19 v12 x18 (fun v39 x38 =>
 wJoin (κ := HS → Prop) (fun  (x41 : HS) =>
 wGetF x41 1 1 v19 fun v42 =>
 wAldG x41 25 v42 4 fun v43 =>
 again16 v43 x41) (fun j40 =>
 wIf (v39 = 0)
 (j40 x38)
 (wRecv x38 1 v19
 (w_X1_isThere v19 v9 x38 (fun v45 x44 =>
 wIf (v45 = 0)
 (wGetI x44 1 4 v19 fun v46 =>
 wRecv x44 11 l0
 (w_X11_putFound l0 v46 x44 (fun x47 =>
 j40 x47) X))
 (j40 x44)) X)))) X))) v15 x13) X)) X)) X)) X)) X)

def w_X11_found (l0 : Option Nat) (l1 : Int32) (x : HS) (Q : Int32 → HS → Prop) (X : String → HS → Prop) : Prop :=
 wJoin (κ := HS → Prop) (fun  (x2 : HS) =>
 wThrow x2 eIB X) (fun j1 =>
 wIf (l1 < 0)
 (j1 x)
 (wGetI x 11 10 l0 fun v3 =>
 wIf (l1 < v3)
 (wGetF x 11 5 l0 fun v4 =>
 wAldJ x 20 v4 l1 fun v5 =>
 Q v5 x)
 (j1 x)))

def w_X11_question (l0 : Option Nat) (l1 : Int32) (x : HS) (Q : Int32 → HS → Prop) (X : String → HS → Prop) : Prop :=
 wGetI x 11 9 l0 fun v1 =>
 wPutI x 11 9 l0 0 fun x2 =>
 wGetF x2 11 7 l0 fun v3 =>
 wPutI x2 6 3 v3 (-1) fun x4 =>
 wRecv x4 11 l0
 (w_X11_requireTime l0 l1 x4 (fun x5 =>
 wGetF x5 11 7 l0 fun v7 =>
 wGetF x5 11 0 l0 fun v8 =>
 wGetF x5 11 2 l0 fun v9 =>
 wRecv x5 6 v7
 (w_X6_readQuestion v7 v8 v1 v9 x5 (fun x10 =>
 wPutI x10 11 11 l0 50001 fun x12 =>
 wGetF x12 11 8 l0 fun v13 =>
 wGetF x12 11 7 l0 fun v14 =>
 wGetF x12 11 2 l0 fun v15 =>
 wRecv x12 9 v15
 (w_X9_timeOf v15 l1 x12 (fun v17 x16 =>
 wRecv x16 8 v13
 (w_X8_solveAll v13 v14 v17 x16 (fun v19 x18 =>
 wGetF x18 11 8 l0 fun v20 =>
 wGetI x18 8 1 v20 fun v21 =>
 wPutI x18 11 11 l0 v21 fun x22 =>
 Q v19 x22) X)) X)) X)) X)

def w_X11_solution (l0 : Option Nat) (l1 : Int32) (l2 : Int32) (x : HS) (Q : Int32 → HS → Prop) (X : String → HS → Prop) : Prop :=
 w_X11_requireRange l2 0 7 x (fun x1 =>
 wGetF x1 11 8 l0 fun v3 =>
 wGetF x1 8 0 v3 fun v4 =>
 wJoin (κ := HS → Prop) (fun  (x6 : HS) =>
 wThrow x6 eIB X) (fun j5 =>
 wIf (l1 < 0)
 (j5 x1)
 (wRecv x1 7 v4
 (w_X7_keptCount v4 x1 (fun v8 x7 =>
 wIf (v8 ≤ l1)
 (j5 x7)
 (wGetI x7 7 1 v4 fun v9 =>
 w_X11_isIn v9 l2 x7 (fun v11 x10 =>
 wIf (v11 = 0)
 (j5 x10)
 (wGetF x10 7 0 v4 fun v12 =>
 wAldJ x10 20 v12 ((l1 * 8) + l2) fun v13 =>
 Q v13 x10)) X)) X)))) X

def w_J6_bitCount_0f7a4 (l0 : Int32) (x : HS) (Q : Int32 → HS → Prop) (_X : String → HS → Prop) : Prop :=
 Q ((((((((l0 - ((wUshr l0 1) &&& 1431655765)) &&& 858993459) + ((wUshr (l0 - ((wUshr l0 1) &&& 1431655765)) 2) &&& 858993459)) + (wUshr (((l0 - ((wUshr l0 1) &&& 1431655765)) &&& 858993459) + ((wUshr (l0 - ((wUshr l0 1) &&& 1431655765)) 2) &&& 858993459)) 4)) &&& 252645135) + (wUshr (((((l0 - ((wUshr l0 1) &&& 1431655765)) &&& 858993459) + ((wUshr (l0 - ((wUshr l0 1) &&& 1431655765)) 2) &&& 858993459)) + (wUshr (((l0 - ((wUshr l0 1) &&& 1431655765)) &&& 858993459) + ((wUshr (l0 - ((wUshr l0 1) &&& 1431655765)) 2) &&& 858993459)) 4)) &&& 252645135) 8)) + (wUshr ((((((l0 - ((wUshr l0 1) &&& 1431655765)) &&& 858993459) + ((wUshr (l0 - ((wUshr l0 1) &&& 1431655765)) 2) &&& 858993459)) + (wUshr (((l0 - ((wUshr l0 1) &&& 1431655765)) &&& 858993459) + ((wUshr (l0 - ((wUshr l0 1) &&& 1431655765)) 2) &&& 858993459)) 4)) &&& 252645135) + (wUshr (((((l0 - ((wUshr l0 1) &&& 1431655765)) &&& 858993459) + ((wUshr (l0 - ((wUshr l0 1) &&& 1431655765)) 2) &&& 858993459)) + (wUshr (((l0 - ((wUshr l0 1) &&& 1431655765)) &&& 858993459) + ((wUshr (l0 - ((wUshr l0 1) &&& 1431655765)) 2) &&& 858993459)) 4)) &&& 252645135) 8)) 16)) &&& 63) x

def w_X11_factsThereNow (l0 : Option Nat) (l1 : Int32) (x : HS) (Q : Int32 → HS → Prop) (X : String → HS → Prop) : Prop :=
 wGetF x 11 2 l0 fun v1 =>
 wRecv x 9 v1
 (w_X9_tableAt v1 l1 x (fun v3 x2 =>
 wJoin (κ := Int32 → HS → Prop) (fun (v6 : Int32) (x5 : HS) =>
 Q v6 x5) (fun j4 =>
 wIf (v3 = none)
 (j4 (-1) x2)
 (wRecv x2 10 v3
 (w_X10_factsThereNow v3 x2 (fun v8 x7 =>
 j4 v8 x7) X)))) X)

def w_X11_count (l0 : Option Nat) (l1 : Int32) (x : HS) (Q : Int32 → HS → Prop) (X : String → HS → Prop) : Prop :=
 w_X11_requireRange l1 0 21 x (fun x1 =>
 wIf (l1 = 0)
 (wGetI x1 11 9 l0 fun v3 =>
 Q v3 x1)
 (wIf (l1 = 1)
 (wGetF x1 11 2 l0 fun v4 =>
 wGetI x1 9 3 v4 fun v5 =>
 Q v5 x1)
 (wIf (l1 = 2)
 (wGetF x1 11 2 l0 fun v6 =>
 wGetI x1 9 6 v6 fun v7 =>
 Q v7 x1)
 (wIf (l1 = 3)
 (wGetF x1 11 2 l0 fun v8 =>
 wGetI x1 9 4 v8 fun v9 =>
 Q v9 x1)
 (wIf (l1 = 4)
 (wGetF x1 11 2 l0 fun v10 =>
 wGetI x1 9 7 v10 fun v11 =>
 Q v11 x1)
 (wIf (l1 = 5)
 (wGetI x1 11 11 l0 fun v12 =>
 Q v12 x1)
 (wIf (l1 = 6)
 (wGetF x1 11 7 l0 fun v13 =>
 wGetI x1 6 3 v13 fun v14 =>
 Q v14 x1)
 (wIf (l1 = 7)
 (wRecv x1 11 l0
 (w_X11_openCursors l0 x1 (fun v16 x15 =>
 Q v16 x15) X))
 (wIf (l1 = 8)
 (wGetF x1 11 2 l0 fun v17 =>
 wGetF x1 9 2 v17 fun v18 =>
 wGetI x1 3 4 v18 fun v19 =>
 Q v19 x1)
 (wIf (l1 = 9)
 (wGetF x1 11 8 l0 fun v20 =>
 wGetF x1 8 0 v20 fun v21 =>
 wGetI x1 7 1 v21 fun v22 =>
 w_J6_bitCount_0f7a4 v22 x1 (fun v24 x23 =>
 Q v24 x23) X)
 (wRecv x1 11 l0
 (w_X11_factsThereNow l0 (l1 - 10) x1 (fun v26 x25 =>
 Q v26 x25) X)))))))))))) X

def w_X12_thrown (l0 : Option Nat) (x : HS) (Q : Int32 → HS → Prop) (_X : String → HS → Prop) : Prop :=
 wGetI x 12 0 l0 fun v1 =>
 Q v1 x

def w_X12_fails (l0 : Option Nat) (l1 : Int32) (x : HS) (Q : Int32 → HS → Prop) (_X : String → HS → Prop) : Prop :=
 wPutI x 12 0 l0 l1 fun x1 =>
 wJoin (κ := Int32 → HS → Prop) (fun (v4 : Int32) (x3 : HS) =>
 wBit v4 (Q v4 x3)) (fun j2 =>
 wIf (l1 = 0)
 (j2 0 x1)
 (j2 1 x1))

def w_X12_init (l0 : Option Nat) (x : HS) (Q : HS → Prop) (_X : String → HS → Prop) : Prop :=
 wRef l0
 (wNewJ x 21 400 fun q1 x2 =>
 wPutF x2 12 1 l0 q1 fun x3 =>
 wNewJ x3 20 4 fun q4 x5 =>
 wPutF x5 12 3 l0 q4 fun x6 =>
 wNewJ x6 20 12 fun q7 x8 =>
 wPutF x8 12 4 l0 q7 fun x9 =>
 wNewJ x9 20 12 fun q10 x11 =>
 wPutF x11 12 5 l0 q10 fun x12 =>
 wNewJ x12 20 12 fun q13 x14 =>
 wPutF x14 12 6 l0 q13 fun x15 =>
 wNewJ x15 20 12 fun q16 x17 =>
 wPutF x17 12 7 l0 q16 fun x18 =>
 wNewJ x18 20 12 fun q19 x20 =>
 wPutF x20 12 8 l0 q19 fun x21 =>
 wNewJ x21 20 36 fun q22 x23 =>
 wPutF x23 12 9 l0 q22 fun x24 =>
 wNewJ x24 22 3000 fun q25 x26 =>
 wPutF x26 12 11 l0 q25 fun x27 =>
 wNewJ x27 20 3000 fun q28 x29 =>
 wPutF x29 12 12 l0 q28 fun x30 =>
 wNewJ x30 20 12000 fun q31 x32 =>
 wPutF x32 12 13 l0 q31 fun x33 =>
 wNewJ x33 20 3000 fun q34 x35 =>
 wPutF x35 12 14 l0 q34 fun x36 =>
 wNewJ x36 20 3000 fun q37 x38 =>
 wPutF x38 12 15 l0 q37 fun x39 =>
 wNewJ x39 20 3000 fun q40 x41 =>
 wPutF x41 12 16 l0 q40 fun x42 =>
 wNewJ x42 20 3000 fun q43 x44 =>
 wPutF x44 12 17 l0 q43 fun x45 =>
 wNewJ x45 20 3000 fun q46 x47 =>
 wPutF x47 12 18 l0 q46 fun x48 =>
 wNewJ x48 20 3000 fun q49 x50 =>
 wPutF x50 12 19 l0 q49 fun x51 =>
 wNewJ x51 20 12000 fun q52 x53 =>
 wPutF x53 12 24 l0 q52 fun x54 =>
 wNewJ x54 20 8 fun q55 x56 =>
 wPutF x56 12 26 l0 q55 fun x57 =>
 wNewJ x57 22 10 fun q58 x59 =>
 wPutF x59 12 28 l0 q58 fun x60 =>
 wNewJ x60 22 10 fun q61 x62 =>
 wPutF x62 12 29 l0 q61 fun x63 =>
 wNewJ x63 20 10 fun q64 x65 =>
 wPutF x65 12 30 l0 q64 fun x66 =>
 wNewJ x66 20 10 fun q67 x68 =>
 wPutF x68 12 31 l0 q67 fun x69 =>
 wNewJ x69 20 10 fun q70 x71 =>
 wPutF x71 12 32 l0 q70 fun x72 =>
 wNewJ x72 20 10 fun q73 x74 =>
 wPutF x74 12 33 l0 q73 fun x75 =>
 wNewJ x75 20 10 fun q76 x77 =>
 wPutF x77 12 34 l0 q76 fun x78 =>
 wNewJ x78 20 40 fun q79 x80 =>
 wPutF x80 12 35 l0 q79 fun x81 =>
 wNewJ x81 20 6000 fun q82 x83 =>
 wPutF x83 12 36 l0 q82 fun x84 =>
 wPutI x84 12 42 l0 (-1) fun x85 =>
 wNewJ x85 20 11 fun q86 x87 =>
 wPutF x87 12 44 l0 q86 fun x88 =>
 wNewJ x88 20 11 fun q89 x90 =>
 wPutF x90 12 45 l0 q89 fun x91 =>
 wNewJ x91 20 55 fun q92 x93 =>
 wPutF x93 12 46 l0 q92 fun x94 =>
 wNewJ x94 20 55 fun q95 x96 =>
 wPutF x96 12 47 l0 q95 fun x97 =>
 wNewJ x97 20 12 fun q98 x99 =>
 wPutF x99 12 48 l0 q98 fun x100 =>
 wNewJ x100 20 8 fun q101 x102 =>
 wPutF x102 12 50 l0 q101 fun x103 =>
 wNewJ x103 20 11 fun q104 x105 =>
 wPutF x105 12 51 l0 q104 fun x106 =>
 wNewJ x106 20 5 fun q107 x108 =>
 wPutF x108 12 52 l0 q107 fun x109 =>
 wNewJ x109 20 800 fun q110 x111 =>
 wPutF x111 12 53 l0 q110 fun x112 =>
 wNewJ x112 20 800 fun q113 x114 =>
 wPutF x114 12 54 l0 q113 fun x115 =>
 Q x115)

def w_X12_four (l0 : Option Nat) (l1 : Int32) (x : HS) (Q : HS → Prop) (_X : String → HS → Prop) : Prop :=
 wLoop (σ := Int32) (fun v4 x3 again1 =>
 wIf (v4 < 0)
 (Q x3)
 (wGetF x3 12 1 l0 fun v5 =>
 wGetI x3 12 2 l0 fun v6 =>
 wAstB x3 v5 v6 ((l1 >>> (v4 &&& 31)).toInt8.toInt32) fun x7 =>
 wGetI x7 12 2 l0 fun v8 =>
 wPutI x7 12 2 l0 (v8 + 1) fun x9 =>
 again1 (v4 + (-8)) x9)) 24 x

def w_X12_feed (l0 : Option Nat) (l1 : Int32) (l2 : Int32) (l3 : Int32) (l4 : Int32) (l5 : Int32) (x : HS) (Q : Int32 → HS → Prop) (X : String → HS → Prop) : Prop :=
 wGetI x 12 2 l0 fun v1 =>
 wJoin (κ := Int32 → HS → Prop) (fun (v4 : Int32) (x3 : HS) =>
 wRecv x3 12 l0
 (w_X12_fails l0 v4 x3 (fun v6 x5 =>
 wIf (v6 = 0)
 (wRecv x5 12 l0
 (w_X12_four l0 l1 x5 (fun x7 =>
 wRecv x7 12 l0
 (w_X12_four l0 l2 x7 (fun x9 =>
 wRecv x9 12 l0
 (w_X12_four l0 l3 x9 (fun x11 =>
 wRecv x11 12 l0
 (w_X12_four l0 l4 x11 (fun x13 =>
 wRecv x13 12 l0
 (w_X12_four l0 l5 x13 (fun x15 =>
 wGetI x15 12 2 l0 fun v17 =>
 Q v17 x15) X)) X)) X)) X)) X))
 (Q 0 x5)) X)) (fun j2 =>
 wIf ((v1 + 20) ≤ 400)
 (j2 0 x)
 (j2 1 x))

def w_X12_end (l0 : Option Nat) (l1 : Int32) (x : HS) (Q : Int32 → HS → Prop) (X : String → HS → Prop) : Prop :=
 wJoin (κ := Int32 → HS → Prop) (fun (v3 : Int32) (x2 : HS) =>
 wRecv x2 12 l0
 (w_X12_fails l0 v3 x2 (fun v5 x4 =>
 wIf (v5 = 0)
 (wPutI x4 12 2 l0 l1 fun x6 =>
 Q l1 x6)
 (Q 0 x4)) X)) (fun j1 =>
 wJoin (κ := HS → Prop) (fun  (x8 : HS) =>
 j1 1 x8) (fun j7 =>
 wIf (l1 < 0)
 (j7 x)
 (wGetI x 12 2 l0 fun v9 =>
 wIf (l1 ≤ v9)
 (j1 0 x)
 (j7 x))))

def w_X12_value (l0 : Option Nat) (l1 : Int32) (l2 : Int32) (x : HS) (Q : Int32 → HS → Prop) (X : String → HS → Prop) : Prop :=
 wJoin (κ := Int32 → HS → Prop) (fun (v3 : Int32) (x2 : HS) =>
 wRecv x2 12 l0
 (w_X12_fails l0 v3 x2 (fun v5 x4 =>
 wIf (v5 = 0)
 (wGetF x4 12 3 l0 fun v6 =>
 wAldJ x4 20 v6 l1 fun v7 =>
 wGetF x4 12 3 l0 fun v8 =>
 wAstI x4 v8 l1 l2 fun x9 =>
 Q v7 x9)
 (Q 0 x4)) X)) (fun j1 =>
 wJoin (κ := HS → Prop) (fun  (x11 : HS) =>
 j1 1 x11) (fun j10 =>
 wIf (l1 < 0)
 (j10 x)
 (wIf (l1 ≤ 3)
 (j1 0 x)
 (j10 x))))

def w_X12_isTable (l0 : Option Nat) (l1 : Int32) (x : HS) (Q : Int32 → HS → Prop) (_X : String → HS → Prop) : Prop :=
 wJoin (κ := Int32 → HS → Prop) (fun (v3 : Int32) (x2 : HS) =>
 wBit v3 (Q v3 x2)) (fun j1 =>
 wJoin (κ := HS → Prop) (fun  (x5 : HS) =>
 j1 0 x5) (fun j4 =>
 wIf (l1 < 0)
 (j4 x)
 (wGetI x 12 10 l0 fun v6 =>
 wIf (v6 ≤ l1)
 (j4 x)
 (j1 1 x))))

def w_X12_isMask (l0 : Option Nat) (l1 : Int32) (x : HS) (Q : Int32 → HS → Prop) (_X : String → HS → Prop) : Prop :=
 wJoin (κ := Int32 → HS → Prop) (fun (v3 : Int32) (x2 : HS) =>
 wBit v3 (Q v3 x2)) (fun j1 =>
 wJoin (κ := HS → Prop) (fun  (x5 : HS) =>
 j1 0 x5) (fun j4 =>
 wIf (l1 < 0)
 (j4 x)
 (wIf (15 < l1)
 (j4 x)
 (j1 1 x))))

def w_X12_isTime (l0 : Option Nat) (l1 : Int32) (x : HS) (Q : Int32 → HS → Prop) (_X : String → HS → Prop) : Prop :=
 wJoin (κ := Int32 → HS → Prop) (fun (v3 : Int32) (x2 : HS) =>
 wBit v3 (Q v3 x2)) (fun j1 =>
 wJoin (κ := HS → Prop) (fun  (x5 : HS) =>
 j1 1 x5) (fun j4 =>
 wIf (l1 = (-1))
 (j4 x)
 (wGetI x 12 23 l0 fun v6 =>
 wJoin (κ := HS → Prop) (fun  (x8 : HS) =>
 j1 0 x8) (fun j7 =>
 wIf (l1 < v6)
 (j7 x)
 (wGetI x 12 22 l0 fun v9 =>
 wIf (v9 < l1)
 (j7 x)
 (j4 x))))))

def w_X12_timeOf (l0 : Option Nat) (l1 : Int32) (x : HS) (Q : Int32 → HS → Prop) (_X : String → HS → Prop) : Prop :=
 wJoin (κ := Int32 → HS → Prop) (fun (v3 : Int32) (x2 : HS) =>
 Q v3 x2) (fun j1 =>
 wIf (l1 = (-1))
 (wGetI x 12 22 l0 fun v4 =>
 j1 v4 x)
 (j1 l1 x))

def w_X12_isThere (l0 : Option Nat) (l1 : Int32) (l2 : Int32) (x : HS) (Q : Int32 → HS → Prop) (_X : String → HS → Prop) : Prop :=
 wGetF x 12 15 l0 fun v1 =>
 wAldJ x 20 v1 l1 fun v2 =>
 wJoin (κ := Int32 → HS → Prop) (fun (v5 : Int32) (x4 : HS) =>
 wBit v5 (Q v5 x4)) (fun j3 =>
 wJoin (κ := HS → Prop) (fun  (x7 : HS) =>
 j3 0 x7) (fun j6 =>
 wIf (l2 < v2)
 (j6 x)
 (wGetF x 12 16 l0 fun v8 =>
 wAldJ x 20 v8 l1 fun v9 =>
 wJoin (κ := HS → Prop) (fun  (x11 : HS) =>
 j3 1 x11) (fun j10 =>
 wIf (v9 < 0)
 (j10 x)
 (wGetF x 12 16 l0 fun v12 =>
 wAldJ x 20 v12 l1 fun v13 =>
 wIf (v13 ≤ l2)
 (j6 x)
 (j10 x))))))

def w_X12_table (l0 : Option Nat) (l1 : Int32) (x : HS) (Q : Int32 → HS → Prop) (X : String → HS → Prop) : Prop :=
 wJoin (κ := Int32 → HS → Prop) (fun (v3 : Int32) (x2 : HS) =>
 wRecv x2 12 l0
 (w_X12_fails l0 v3 x2 (fun v5 x4 =>
 wIf (v5 = 0)
 (wGetF x4 12 4 l0 fun v6 =>
 wGetI x4 12 10 l0 fun v7 =>
 wAstI x4 v6 v7 l1 fun x8 =>
 wGetF x8 12 5 l0 fun v9 =>
 wGetI x8 12 10 l0 fun v10 =>
 wAstI x8 v9 v10 0 fun x11 =>
 wGetF x11 12 6 l0 fun v12 =>
 wGetI x11 12 10 l0 fun v13 =>
 wAstI x11 v12 v13 0 fun x14 =>
 wGetF x14 12 7 l0 fun v15 =>
 wGetI x14 12 10 l0 fun v16 =>
 wAstI x14 v15 v16 (-1) fun x17 =>
 wGetF x17 12 8 l0 fun v18 =>
 wGetI x17 12 10 l0 fun v19 =>
 wAstI x17 v18 v19 (-1) fun x20 =>
 wGetI x20 12 10 l0 fun v21 =>
 wPutI x20 12 10 l0 (v21 + 1) fun x22 =>
 wGetI x22 12 10 l0 fun v23 =>
 Q (v23 - 1) x22)
 (Q 0 x4)) X)) (fun j1 =>
 wJoin (κ := HS → Prop) (fun  (x25 : HS) =>
 j1 1 x25) (fun j24 =>
 wIf (l1 < 1)
 (j24 x)
 (wIf (l1 ≤ 4)
 (wGetI x 12 10 l0 fun v26 =>
 wIf (v26 = 12)
 (j1 2 x)
 (j1 0 x))
 (j24 x))))

def w_X12_index (l0 : Option Nat) (l1 : Int32) (l2 : Int32) (x : HS) (Q : Int32 → HS → Prop) (X : String → HS → Prop) : Prop :=
 wRecv x 12 l0
 (w_X12_isTable l0 l1 x (fun v2 x1 =>
 wJoin (κ := Int32 → HS → Prop) (fun (v5 : Int32) (x4 : HS) =>
 wRecv x4 12 l0
 (w_X12_fails l0 v5 x4 (fun v7 x6 =>
 wIf (v7 = 0)
 (wGetF x6 12 5 l0 fun v8 =>
 wAldJ x6 20 v8 l1 fun v9 =>
 wGetF x6 12 5 l0 fun v10 =>
 wAldJ x6 20 v10 l1 fun v11 =>
 wAstI x6 v10 l1 (v11 ||| ((1 : Int32) <<< (l2 &&& 31))) fun x12 =>
 wGetF x12 12 5 l0 fun v13 =>
 wAldJ x12 20 v13 l1 fun v14 =>
 wJoin (κ := Int32 → HS → Prop) (fun (v17 : Int32) (x16 : HS) =>
 Q v17 x16) (fun j15 =>
 wIf (v9 = v14)
 (j15 0 x12)
 (j15 1 x12)))
 (Q 0 x6)) X)) (fun j3 =>
 wIf (v2 = 0)
 (j3 1 x1)
 (wJoin (κ := HS → Prop) (fun  (x19 : HS) =>
 j3 2 x19) (fun j18 =>
 wIf (l2 < 0)
 (j18 x1)
 (wGetF x1 12 4 l0 fun v20 =>
 wAldJ x1 20 v20 l1 fun v21 =>
 wIf (l2 < v21)
 (j3 0 x1)
 (j18 x1)))))) X)

def w_X12_alike (l0 : Option Nat) (l1 : Int32) (l2 : Int32) (l3 : Int32) (x : HS) (Q : Int32 → HS → Prop) (_X : String → HS → Prop) : Prop :=
 wLoop (σ := Int32) (fun v4 x3 again1 =>
 wIf (4 ≤ v4)
 (wBit 1 (Q 1 x3))
 (wJoin (κ := HS → Prop) (fun  (x6 : HS) =>
 again1 (v4 + 1) x6) (fun j5 =>
 wIf (((l3 >>> (v4 &&& 31)) &&& 1) = 1)
 (wGetF x3 12 13 l0 fun v7 =>
 wAldJ x3 20 v7 (((4 : Int32) * l1) + v4) fun v8 =>
 wGetF x3 12 13 l0 fun v9 =>
 wAldJ x3 20 v9 (((4 : Int32) * l2) + v4) fun v10 =>
 wIf (v8 = v10)
 (j5 x3)
 (wBit 0 (Q 0 x3)))
 (j5 x3)))) 0 x

def w_X12_key (l0 : Option Nat) (l1 : Int32) (l2 : Int32) (x : HS) (Q : Int32 → HS → Prop) (X : String → HS → Prop) : Prop :=
 wRecv x 12 l0
 (w_X12_isTable l0 l1 x (fun v2 x1 =>
 wJoin (κ := Int32 → HS → Prop) (fun (v5 : Int32) (x4 : HS) =>
 wRecv x4 12 l0
 (w_X12_fails l0 v5 x4 (fun v7 x6 =>
 wIf (v7 = 0)
 (wLoop (σ := Int32) (fun v11 x10 again8 =>
 wGetF x10 12 6 l0 fun v12 =>
 wAldJ x10 20 v12 l1 fun v13 =>
 wIf (v13 ≤ v11)
 (wGetF x10 12 7 l0 fun v14 =>
 wAldJ x10 20 v14 l1 fun v15 =>
 wLoop (σ := Int32 × Int32) (fun v19 x18 again16 =>
 wIf (v19.2 < 0)
 (wJoin (κ := Int32 → HS → Prop) (fun (v22 : Int32) (x21 : HS) =>
 wRecv x21 12 l0
 (w_X12_fails l0 v22 x21 (fun v24 x23 =>
 wIf (v24 = 0)
 (wGetF x23 12 9 l0 fun v25 =>
 wGetF x23 12 6 l0 fun v26 =>
 wAldJ x23 20 v26 l1 fun v27 =>
 wAstI x23 v25 (((3 : Int32) * l1) + v27) l2 fun x28 =>
 wGetF x28 12 6 l0 fun v29 =>
 wAldJ x28 20 v29 l1 fun v30 =>
 wAstI x28 v29 l1 (v30 + 1) fun x31 =>
 Q 1 x31)
 (Q 0 x23)) X)) (fun j20 =>
 wIf (v19.1 = 0)
 (wGetF x18 12 6 l0 fun v32 =>
 wAldJ x18 20 v32 l1 fun v33 =>
 wIf (v33 = 3)
 (j20 4 x18)
 (j20 0 x18))
 (j20 3 x18)))
 (wGetF x18 12 18 l0 fun v34 =>
 wAldJ x18 20 v34 v19.2 fun v35 =>
 wLoop (σ := Int32 × Int32 × Int32) (fun v39 x38 again36 =>
 wJoin (κ := HS → Prop) (fun  (x41 : HS) =>
 wGetF x41 12 18 l0 fun v42 =>
 wAldJ x41 20 v42 v39.2.1 fun v43 =>
 again16 (v39.1, v43) x41) (fun j40 =>
 wIf (v39.2.2 < 0)
 (j40 x38)
 (wGetI x38 12 22 l0 fun v44 =>
 wRecv x38 12 l0
 (w_X12_isThere l0 v39.2.1 v44 x38 (fun v46 x45 =>
 wIf (v46 = 0)
 (j40 x45)
 (wGetI x45 12 22 l0 fun v47 =>
 wRecv x45 12 l0
 (w_X12_isThere l0 v39.2.2 v47 x45 (fun v49 x48 =>
 wJoin (κ := Int32 → HS → Prop) (fun (v52 : Int32) (x51 : HS) =>
 wGetF x51 12 18 l0 fun v53 =>
 wAldJ x51 20 v53 v39.2.2 fun v54 =>
 again36 (v52, v39.2.1, v54) x51) (fun j50 =>
 wIf (v49 = 0)
 (j50 v39.1 x48)
 (wRecv x48 12 l0
 (w_X12_alike l0 v39.2.1 v39.2.2 l2 x48 (fun v56 x55 =>
 wIf (v56 = 0)
 (j50 v39.1 x55)
 (j50 1 x55)) X)))) X))) X)))) (v19.1, v19.2, v35) x18)) (0, v15) x10)
 (wGetF x10 12 9 l0 fun v57 =>
 wAldJ x10 20 v57 (((3 : Int32) * l1) + v11) fun v58 =>
 wIf (v58 = l2)
 (Q 0 x10)
 (again8 (v11 + 1) x10))) 0 x6)
 (Q 0 x6)) X)) (fun j3 =>
 wIf (v2 = 0)
 (j3 1 x1)
 (wJoin (κ := HS → Prop) (fun  (x60 : HS) =>
 j3 2 x60) (fun j59 =>
 wIf (l2 < 1)
 (j59 x1)
 (wGetF x1 12 4 l0 fun v61 =>
 wAldJ x1 20 v61 l1 fun v62 =>
 wIf (l2 < ((1 : Int32) <<< (v62 &&& 31)))
 (j3 0 x1)
 (j59 x1)))))) X)

def w_X12_fits (l0 : Option Nat) (l1 : Int32) (l2 : Int32) (l3 : Option Nat) (l4 : Int32) (x : HS) (Q : Int32 → HS → Prop) (_X : String → HS → Prop) : Prop :=
 wGetF x 12 4 l0 fun v1 =>
 wGetF x 12 12 l0 fun v2 =>
 wAldJ x 20 v2 l1 fun v3 =>
 wAldJ x 20 v1 v3 fun v4 =>
 wLoop (σ := Int32) (fun v8 x7 again5 =>
 wIf (v4 ≤ v8)
 (wBit 1 (Q 1 x7))
 (wJoin (κ := HS → Prop) (fun  (x10 : HS) =>
 again5 (v8 + 1) x10) (fun j9 =>
 wIf (((l2 >>> (v8 &&& 31)) &&& 1) = 1)
 (wGetF x7 12 13 l0 fun v11 =>
 wAldJ x7 20 v11 (((4 : Int32) * l1) + v8) fun v12 =>
 wAldJ x7 20 l3 (l4 + v8) fun v13 =>
 wIf (v12 = v13)
 (j9 x7)
 (wBit 0 (Q 0 x7)))
 (j9 x7)))) 0 x

def w_X12_indexOf (l0 : Option Nat) (l1 : Int32) (l2 : Int32) (x : HS) (Q : Int32 → HS → Prop) (_X : String → HS → Prop) : Prop :=
 wLoop (σ := Int32) (fun v4 x3 again1 =>
 wGetF x3 12 4 l0 fun v5 =>
 wAldJ x3 20 v5 l1 fun v6 =>
 wIf (v6 ≤ v4)
 (Q (-1) x3)
 (wJoin (κ := HS → Prop) (fun  (x8 : HS) =>
 again1 (v4 + 1) x8) (fun j7 =>
 wIf (((l2 >>> (v4 &&& 31)) &&& 1) = 1)
 (wGetF x3 12 5 l0 fun v9 =>
 wAldJ x3 20 v9 l1 fun v10 =>
 wIf (((v10 >>> (v4 &&& 31)) &&& 1) = 1)
 (Q v4 x3)
 (j7 x3))
 (j7 x3)))) 0 x

def w_X12_seek (l0 : Option Nat) (l1 : Int32) (l2 : Int32) (l3 : Int32) (l4 : Int32) (l5 : Option Nat) (l6 : Int32) (x : HS) (Q : Int32 → HS → Prop) (X : String → HS → Prop) : Prop :=
 wRecv x 12 l0
 (w_X12_indexOf l0 l1 l3 x (fun v2 x1 =>
 wLoop (σ := Int32) (fun v6 x5 again3 =>
 wIf (v6 < 0)
 (Q (-1) x5)
 (wJoin (κ := HS → Prop) (fun  (x8 : HS) =>
 wGetF x8 12 18 l0 fun v9 =>
 wAldJ x8 20 v9 v6 fun v10 =>
 again3 v10 x8) (fun j7 =>
 wJoin (κ := HS → Prop) (fun  (x12 : HS) =>
 wGetI x12 12 38 l0 fun v13 =>
 wPutI x12 12 38 l0 (v13 + 1) fun x14 =>
 wRecv x14 12 l0
 (w_X12_isThere l0 v6 l4 x14 (fun v16 x15 =>
 wJoin (κ := HS → Prop) (fun  (x18 : HS) =>
 wGetI x18 12 38 l0 fun v19 =>
 wIf (v19 ≤ 50000)
 (j7 x18)
 (wGetI x18 12 39 l0 fun v20 =>
 wIf (v20 = 0)
 (j7 x18)
 (Q (-1) x18))) (fun j17 =>
 wIf (v16 = 0)
 (j17 x15)
 (wRecv x15 12 l0
 (w_X12_fits l0 v6 l3 l5 l6 x15 (fun v22 x21 =>
 wIf (v22 = 0)
 (j17 x21)
 (Q v6 x21)) X)))) X)) (fun j11 =>
 wIf (v2 < 0)
 (j11 x5)
 (wGetF x5 12 13 l0 fun v23 =>
 wAldJ x5 20 v23 (((4 : Int32) * v6) + v2) fun v24 =>
 wAldJ x5 20 l5 (l6 + v2) fun v25 =>
 wIf (v24 = v25)
 (j11 x5)
 (j7 x5)))))) l2 x1) X)

def w_X12_free (l0 : Option Nat) (x : HS) (Q : Int32 → HS → Prop) (_X : String → HS → Prop) : Prop :=
 wLoop (σ := Int32) (fun v4 x3 again1 =>
 wGetF x3 12 11 l0 fun v5 =>
 wAldJ x3 22 v5 v4 fun v6 =>
 wIf (v6 = 0)
 (Q v4 x3)
 (again1 (v4 + 1) x3)) 0 x

def w_X12_note (l0 : Option Nat) (l1 : Int32) (x : HS) (Q : HS → Prop) (_X : String → HS → Prop) : Prop :=
 wGetI x 12 27 l0 fun v1 =>
 wIf (v1 = 0)
 (Q x)
 (wGetF x 12 24 l0 fun v2 =>
 wGetI x 12 25 l0 fun v3 =>
 wAstI x v2 v3 l1 fun x4 =>
 wGetI x4 12 25 l0 fun v5 =>
 wPutI x4 12 25 l0 (v5 + 1) fun x6 =>
 Q x6)

def w_X12_fresh (l0 : Option Nat) (l1 : Int32) (x : HS) (Q : Int32 → HS → Prop) (X : String → HS → Prop) : Prop :=
 wRecv x 12 l0
 (w_X12_free l0 x (fun v2 x1 =>
 wGetF x1 12 11 l0 fun v3 =>
 wAstZ x1 v3 v2 1 fun x4 =>
 wGetF x4 12 12 l0 fun v5 =>
 wAstI x4 v5 v2 l1 fun x6 =>
 wGetF x6 12 14 l0 fun v7 =>
 wGetI x6 12 21 l0 fun v8 =>
 wAstI x6 v7 v2 v8 fun x9 =>
 wGetI x9 12 21 l0 fun v10 =>
 wPutI x9 12 21 l0 (v10 + 1) fun x11 =>
 wGetI x11 12 20 l0 fun v12 =>
 wPutI x11 12 20 l0 (v12 + 1) fun x13 =>
 wGetI x13 12 22 l0 fun v14 =>
 wPutI x13 12 22 l0 (v14 + 1) fun x15 =>
 wGetF x15 12 15 l0 fun v16 =>
 wGetI x15 12 22 l0 fun v17 =>
 wAstI x15 v16 v2 v17 fun x18 =>
 wGetF x18 12 16 l0 fun v19 =>
 wAstI x18 v19 v2 (-1) fun x20 =>
 wGetF x20 12 19 l0 fun v21 =>
 wAstI x20 v21 v2 v2 fun x22 =>
 wRecv x22 12 l0
 (w_X12_note l0 v2 x22 (fun x23 =>
 Q v2 x23) X)) X)

def w_X12_link (l0 : Option Nat) (l1 : Int32) (l2 : Int32) (x : HS) (Q : HS → Prop) (_X : String → HS → Prop) : Prop :=
 wGetF x 12 12 l0 fun v1 =>
 wAldJ x 20 v1 l1 fun v2 =>
 wGetF x 12 17 l0 fun v3 =>
 wAstI x v3 l1 l2 fun x4 =>
 wGetF x4 12 18 l0 fun v5 =>
 wJoin (κ := Int32 → HS → Prop) (fun (v8 : Int32) (x7 : HS) =>
 wAstI x7 v5 l1 v8 fun x9 =>
 wJoin (κ := HS → Prop) (fun  (x11 : HS) =>
 wGetF x11 12 18 l0 fun v12 =>
 wAldJ x11 20 v12 l1 fun v13 =>
 wJoin (κ := HS → Prop) (fun  (x15 : HS) =>
 Q x15) (fun j14 =>
 wIf (0 ≤ v13)
 (wGetF x11 12 17 l0 fun v16 =>
 wGetF x11 12 18 l0 fun v17 =>
 wAldJ x11 20 v17 l1 fun v18 =>
 wAstI x11 v16 v18 l1 fun x19 =>
 j14 x19)
 (wGetF x11 12 8 l0 fun v20 =>
 wAstI x11 v20 v2 l1 fun x21 =>
 j14 x21))) (fun j10 =>
 wIf (0 ≤ l2)
 (wGetF x9 12 18 l0 fun v22 =>
 wAstI x9 v22 l2 l1 fun x23 =>
 j10 x23)
 (wGetF x9 12 7 l0 fun v24 =>
 wAstI x9 v24 v2 l1 fun x25 =>
 j10 x25))) (fun j6 =>
 wIf (0 ≤ l2)
 (wGetF x4 12 18 l0 fun v26 =>
 wAldJ x4 20 v26 l2 fun v27 =>
 j6 v27 x4)
 (wGetF x4 12 7 l0 fun v28 =>
 wAldJ x4 20 v28 v2 fun v29 =>
 j6 v29 x4))

def w_X12_go (l0 : Option Nat) (l1 : Int32) (x : HS) (Q : HS → Prop) (X : String → HS → Prop) : Prop :=
 wGetI x 12 22 l0 fun v1 =>
 wPutI x 12 22 l0 (v1 + 1) fun x2 =>
 wGetF x2 12 16 l0 fun v3 =>
 wGetI x2 12 22 l0 fun v4 =>
 wAstI x2 v3 l1 v4 fun x5 =>
 wRecv x5 12 l0
 (w_X12_note l0 (((-1) : Int32) - l1) x5 (fun x6 =>
 Q x6) X)

def w_X12_add (l0 : Option Nat) (l1 : Int32) (l2 : Int32) (x : HS) (Q : Int32 → HS → Prop) (X : String → HS → Prop) : Prop :=
 wJoin (κ := Int32 → HS → Prop) (fun (v3 : Int32) (x2 : HS) =>
 wRecv x2 12 l0
 (w_X12_fails l0 v3 x2 (fun v5 x4 =>
 wIf (v5 = 0)
 (wGetF x4 12 7 l0 fun v6 =>
 wAldJ x4 20 v6 l1 fun v7 =>
 wLoop (σ := Int32 × Int32) (fun v11 x10 again8 =>
 wIf (v11.2 < 0)
 (wJoin (κ := Int32 → HS → Prop) (fun (v14 : Int32) (x13 : HS) =>
 wRecv x13 12 l0
 (w_X12_fails l0 v14 x13 (fun v16 x15 =>
 wIf (v16 = 0)
 (wRecv x15 12 l0
 (w_X12_fresh l0 l1 x15 (fun v18 x17 =>
 wLoop (σ := Int32) (fun v22 x21 again19 =>
 wIf (4 ≤ v22)
 (wJoin (κ := Int32 → HS → Prop) (fun (v25 : Int32) (x24 : HS) =>
 wRecv x24 12 l0
 (w_X12_link l0 v18 v25 x24 (fun x26 =>
 wGetF x26 12 14 l0 fun v28 =>
 wAldJ x26 20 v28 v18 fun v29 =>
 Q v29 x26) X)) (fun j23 =>
 wIf (l2 = 1)
 (j23 (-1) x21)
 (wGetF x21 12 8 l0 fun v30 =>
 wAldJ x21 20 v30 l1 fun v31 =>
 j23 v31 x21)))
 (wGetF x21 12 13 l0 fun v32 =>
 wGetF x21 12 4 l0 fun v33 =>
 wAldJ x21 20 v33 l1 fun v34 =>
 wJoin (κ := Int32 → HS → Prop) (fun (v37 : Int32) (x36 : HS) =>
 wAstI x36 v32 (((4 : Int32) * v18) + v22) v37 fun x38 =>
 again19 (v22 + 1) x38) (fun j35 =>
 wIf (v34 ≤ v22)
 (j35 0 x21)
 (wGetF x21 12 3 l0 fun v39 =>
 wAldJ x21 20 v39 v22 fun v40 =>
 j35 v40 x21)))) 0 x17) X))
 (Q 0 x15)) X)) (fun j12 =>
 wIf (v11.1 = 0)
 (wGetI x10 12 20 l0 fun v41 =>
 wIf (v41 = 3000)
 (j12 4 x10)
 (j12 0 x10))
 (j12 3 x10)))
 (wLoop (σ := Int32 × Int32 × Int32) (fun v45 x44 again42 =>
 wGetF x44 12 6 l0 fun v46 =>
 wAldJ x44 20 v46 l1 fun v47 =>
 wJoin (κ := HS → Prop) (fun  (x49 : HS) =>
 wGetF x49 12 18 l0 fun v50 =>
 wAldJ x49 20 v50 v45.2.1 fun v51 =>
 again8 (v45.1, v51) x49) (fun j48 =>
 wIf (v47 ≤ v45.2.2)
 (j48 x44)
 (wGetI x44 12 22 l0 fun v52 =>
 wRecv x44 12 l0
 (w_X12_isThere l0 v45.2.1 v52 x44 (fun v54 x53 =>
 wIf (v54 = 0)
 (j48 x53)
 (wGetF x53 12 9 l0 fun v55 =>
 wAldJ x53 20 v55 (((3 : Int32) * l1) + v45.2.2) fun v56 =>
 wGetF x53 12 3 l0 fun v57 =>
 wRecv x53 12 l0
 (w_X12_fits l0 v45.2.1 v56 v57 0 x53 (fun v59 x58 =>
 wJoin (κ := Int32 → HS → Prop) (fun (v62 : Int32) (x61 : HS) =>
 again42 (v62, v45.2.1, (v45.2.2 + 1)) x61) (fun j60 =>
 wIf (v59 = 0)
 (j60 v45.1 x58)
 (j60 1 x58))) X))) X)))) (v11.1, v11.2, 0) x10)) (0, v7) x4)
 (Q 0 x4)) X)) (fun j1 =>
 wJoin (κ := HS → Prop) (fun  (x64 : HS) =>
 j1 1 x64) (fun j63 =>
 wIf (l2 < 0)
 (j63 x)
 (wIf (l2 ≤ 1)
 (wRecv x 12 l0
 (w_X12_isTable l0 l1 x (fun v66 x65 =>
 wIf (v66 = 0)
 (j1 2 x65)
 (j1 0 x65)) X))
 (j63 x))))

def w_X12_remove (l0 : Option Nat) (l1 : Int32) (l2 : Int32) (l3 : Int32) (x : HS) (Q : Int32 → HS → Prop) (X : String → HS → Prop) : Prop :=
 wRecv x 12 l0
 (w_X12_isMask l0 l2 x (fun v2 x1 =>
 wJoin (κ := Int32 → HS → Prop) (fun (v5 : Int32) (x4 : HS) =>
 wRecv x4 12 l0
 (w_X12_fails l0 v5 x4 (fun v7 x6 =>
 wIf (v7 = 0)
 (wPutI x6 12 38 l0 0 fun x8 =>
 wGetF x8 12 7 l0 fun v9 =>
 wAldJ x8 20 v9 l1 fun v10 =>
 wGetI x8 12 22 l0 fun v11 =>
 wGetF x8 12 3 l0 fun v12 =>
 wRecv x8 12 l0
 (w_X12_seek l0 l1 v10 l2 v11 v12 0 x8 (fun v14 x13 =>
 wIf (l3 = 0)
 (wIf (0 ≤ v14)
 (wRecv x13 12 l0
 (w_X12_go l0 v14 x13 (fun x15 =>
 wGetF x15 12 14 l0 fun v17 =>
 wAldJ x15 20 v17 v14 fun v18 =>
 Q v18 x15) X))
 (Q (-1) x13))
 (wLoop (σ := Int32 × Int32) (fun v22 x21 again19 =>
 wIf (v22.2 < 0)
 (Q v22.1 x21)
 (wRecv x21 12 l0
 (w_X12_go l0 v22.2 x21 (fun x23 =>
 wGetF x23 12 18 l0 fun v25 =>
 wAldJ x23 20 v25 v22.2 fun v26 =>
 wGetI x23 12 22 l0 fun v27 =>
 wGetF x23 12 3 l0 fun v28 =>
 wRecv x23 12 l0
 (w_X12_seek l0 l1 v26 l2 v27 v28 0 x23 (fun v30 x29 =>
 again19 ((v22.1 + 1), v30) x29) X)) X))) (0, v14) x13)) X))
 (Q 0 x6)) X)) (fun j3 =>
 wJoin (κ := HS → Prop) (fun  (x32 : HS) =>
 j3 1 x32) (fun j31 =>
 wIf (v2 = 0)
 (j31 x1)
 (wIf (l3 < 0)
 (j31 x1)
 (wIf (l3 ≤ 1)
 (wRecv x1 12 l0
 (w_X12_isTable l0 l1 x1 (fun v34 x33 =>
 wIf (v34 = 0)
 (j3 2 x33)
 (j3 0 x33)) X))
 (j31 x1)))))) X)

def w_X12_find (l0 : Option Nat) (l1 : Int32) (l2 : Int32) (l3 : Int32) (x : HS) (Q : Int32 → HS → Prop) (X : String → HS → Prop) : Prop :=
 wRecv x 12 l0
 (w_X12_isMask l0 l2 x (fun v2 x1 =>
 wJoin (κ := Int32 → HS → Prop) (fun (v5 : Int32) (x4 : HS) =>
 wRecv x4 12 l0
 (w_X12_fails l0 v5 x4 (fun v7 x6 =>
 wIf (v7 = 0)
 (wPutI x6 12 38 l0 0 fun x8 =>
 wGetF x8 12 7 l0 fun v9 =>
 wAldJ x8 20 v9 l1 fun v10 =>
 wRecv x8 12 l0
 (w_X12_timeOf l0 l3 x8 (fun v12 x11 =>
 wGetF x11 12 3 l0 fun v13 =>
 wRecv x11 12 l0
 (w_X12_seek l0 l1 v10 l2 v12 v13 0 x11 (fun v15 x14 =>
 wJoin (κ := Int32 → HS → Prop) (fun (v18 : Int32) (x17 : HS) =>
 Q v18 x17) (fun j16 =>
 wIf (0 ≤ v15)
 (wGetF x14 12 14 l0 fun v19 =>
 wAldJ x14 20 v19 v15 fun v20 =>
 j16 v20 x14)
 (j16 (-1) x14))) X)) X))
 (Q 0 x6)) X)) (fun j3 =>
 wJoin (κ := HS → Prop) (fun  (x22 : HS) =>
 j3 1 x22) (fun j21 =>
 wIf (v2 = 0)
 (j21 x1)
 (wRecv x1 12 l0
 (w_X12_isTime l0 l3 x1 (fun v24 x23 =>
 wIf (v24 = 0)
 (j21 x23)
 (wRecv x23 12 l0
 (w_X12_isTable l0 l1 x23 (fun v26 x25 =>
 wIf (v26 = 0)
 (j3 2 x25)
 (j3 0 x25)) X))) X))))) X)

def w_X12_many (l0 : Option Nat) (l1 : Int32) (l2 : Int32) (l3 : Int32) (x : HS) (Q : Int32 → HS → Prop) (X : String → HS → Prop) : Prop :=
 wRecv x 12 l0
 (w_X12_isMask l0 l2 x (fun v2 x1 =>
 wJoin (κ := Int32 → HS → Prop) (fun (v5 : Int32) (x4 : HS) =>
 wRecv x4 12 l0
 (w_X12_fails l0 v5 x4 (fun v7 x6 =>
 wIf (v7 = 0)
 (wPutI x6 12 38 l0 0 fun x8 =>
 wGetF x8 12 7 l0 fun v9 =>
 wAldJ x8 20 v9 l1 fun v10 =>
 wRecv x8 12 l0
 (w_X12_timeOf l0 l3 x8 (fun v12 x11 =>
 wGetF x11 12 3 l0 fun v13 =>
 wRecv x11 12 l0
 (w_X12_seek l0 l1 v10 l2 v12 v13 0 x11 (fun v15 x14 =>
 wLoop (σ := Int32 × Int32) (fun v19 x18 again16 =>
 wIf (v19.2 < 0)
 (Q v19.1 x18)
 (wGetF x18 12 18 l0 fun v20 =>
 wAldJ x18 20 v20 v19.2 fun v21 =>
 wRecv x18 12 l0
 (w_X12_timeOf l0 l3 x18 (fun v23 x22 =>
 wGetF x22 12 3 l0 fun v24 =>
 wRecv x22 12 l0
 (w_X12_seek l0 l1 v21 l2 v23 v24 0 x22 (fun v26 x25 =>
 again16 ((v19.1 + 1), v26) x25) X)) X))) (0, v15) x14) X)) X))
 (Q 0 x6)) X)) (fun j3 =>
 wJoin (κ := HS → Prop) (fun  (x28 : HS) =>
 j3 1 x28) (fun j27 =>
 wIf (v2 = 0)
 (j27 x1)
 (wRecv x1 12 l0
 (w_X12_isTime l0 l3 x1 (fun v30 x29 =>
 wIf (v30 = 0)
 (j27 x29)
 (wRecv x29 12 l0
 (w_X12_isTable l0 l1 x29 (fun v32 x31 =>
 wIf (v32 = 0)
 (j3 2 x31)
 (j3 0 x31)) X))) X))))) X)

def w_X12_open (l0 : Option Nat) (l1 : Int32) (l2 : Int32) (l3 : Int32) (x : HS) (Q : Int32 → HS → Prop) (X : String → HS → Prop) : Prop :=
 wLoop (σ := Int32) (fun v4 x3 again1 =>
 wJoin (κ := HS → Prop) (fun  (x6 : HS) =>
 wRecv x6 12 l0
 (w_X12_isMask l0 l2 x6 (fun v8 x7 =>
 wJoin (κ := Int32 → HS → Prop) (fun (v11 : Int32) (x10 : HS) =>
 wRecv x10 12 l0
 (w_X12_fails l0 v11 x10 (fun v13 x12 =>
 wIf (v13 = 0)
 (wGetF x12 12 28 l0 fun v14 =>
 wAstZ x12 v14 v4 1 fun x15 =>
 wGetF x15 12 29 l0 fun v16 =>
 wAstZ x15 v16 v4 0 fun x17 =>
 wGetF x17 12 30 l0 fun v18 =>
 wAstI x17 v18 v4 l1 fun x19 =>
 wGetF x19 12 31 l0 fun v20 =>
 wAstI x19 v20 v4 l2 fun x21 =>
 wGetF x21 12 32 l0 fun v22 =>
 wRecv x21 12 l0
 (w_X12_timeOf l0 l3 x21 (fun v24 x23 =>
 wAstI x23 v22 v4 v24 fun x25 =>
 wGetF x25 12 33 l0 fun v26 =>
 wAstI x25 v26 v4 (-1) fun x27 =>
 wGetF x27 12 34 l0 fun v28 =>
 wAstI x27 v28 v4 0 fun x29 =>
 wLoop (σ := Int32) (fun v33 x32 again30 =>
 wIf (4 ≤ v33)
 (Q v4 x32)
 (wGetF x32 12 35 l0 fun v34 =>
 wGetF x32 12 3 l0 fun v35 =>
 wAldJ x32 20 v35 v33 fun v36 =>
 wAstI x32 v34 (((4 : Int32) * v4) + v33) v36 fun x37 =>
 again30 (v33 + 1) x37)) 0 x29) X))
 (Q 0 x12)) X)) (fun j9 =>
 wJoin (κ := HS → Prop) (fun  (x39 : HS) =>
 j9 1 x39) (fun j38 =>
 wIf (v8 = 0)
 (j38 x7)
 (wRecv x7 12 l0
 (w_X12_isTime l0 l3 x7 (fun v41 x40 =>
 wIf (v41 = 0)
 (j38 x40)
 (wRecv x40 12 l0
 (w_X12_isTable l0 l1 x40 (fun v43 x42 =>
 wIf (v43 = 0)
 (j9 2 x42)
 (wIf (v4 = 10)
 (j9 3 x42)
 (j9 0 x42))) X))) X))))) X)) (fun j5 =>
 wIf (10 ≤ v4)
 (j5 x3)
 (wGetF x3 12 28 l0 fun v44 =>
 wAldJ x3 22 v44 v4 fun v45 =>
 wIf (v45 = 0)
 (j5 x3)
 (again1 (v4 + 1) x3)))) 0 x

def w_X12_wrongCursor (l0 : Option Nat) (l1 : Int32) (x : HS) (Q : Int32 → HS → Prop) (_X : String → HS → Prop) : Prop :=
 wJoin (κ := Int32 → HS → Prop) (fun (v3 : Int32) (x2 : HS) =>
 Q v3 x2) (fun j1 =>
 wJoin (κ := HS → Prop) (fun  (x5 : HS) =>
 j1 1 x5) (fun j4 =>
 wIf (l1 < 0)
 (j4 x)
 (wIf (l1 < 10)
 (wGetF x 12 28 l0 fun v6 =>
 wAldJ x 22 v6 l1 fun v7 =>
 wIf (v7 = 0)
 (j1 2 x)
 (j1 0 x))
 (j4 x))))

def w_X12_next (l0 : Option Nat) (l1 : Int32) (x : HS) (Q : Int32 → HS → Prop) (X : String → HS → Prop) : Prop :=
 wRecv x 12 l0
 (w_X12_wrongCursor l0 l1 x (fun v2 x1 =>
 wRecv x1 12 l0
 (w_X12_fails l0 v2 x1 (fun v4 x3 =>
 wIf (v4 = 0)
 (wPutI x3 12 38 l0 0 fun x5 =>
 wGetF x5 12 29 l0 fun v6 =>
 wAldJ x5 22 v6 l1 fun v7 =>
 wIf (v7 = 0)
 (wGetF x5 12 30 l0 fun v8 =>
 wAldJ x5 20 v8 l1 fun v9 =>
 wGetF x5 12 33 l0 fun v10 =>
 wAldJ x5 20 v10 l1 fun v11 =>
 wJoin (κ := Int32 → HS → Prop) (fun (v14 : Int32) (x13 : HS) =>
 wGetF x13 12 31 l0 fun v15 =>
 wAldJ x13 20 v15 l1 fun v16 =>
 wGetF x13 12 32 l0 fun v17 =>
 wAldJ x13 20 v17 l1 fun v18 =>
 wGetF x13 12 35 l0 fun v19 =>
 wRecv x13 12 l0
 (w_X12_seek l0 v9 v14 v16 v18 v19 ((4 : Int32) * l1) x13 (fun v21 x20 =>
 wIf (0 ≤ v21)
 (wGetF x20 12 33 l0 fun v22 =>
 wAstI x20 v22 l1 v21 fun x23 =>
 wGetF x23 12 34 l0 fun v24 =>
 wAldJ x23 20 v24 l1 fun v25 =>
 wAstI x23 v24 l1 (v25 + 1) fun x26 =>
 wGetF x26 12 14 l0 fun v27 =>
 wAldJ x26 20 v27 v21 fun v28 =>
 Q v28 x26)
 (wGetF x20 12 29 l0 fun v29 =>
 wAstZ x20 v29 l1 1 fun x30 =>
 Q (-1) x30)) X)) (fun j12 =>
 wIf (0 ≤ v11)
 (wGetF x5 12 18 l0 fun v31 =>
 wGetF x5 12 33 l0 fun v32 =>
 wAldJ x5 20 v32 l1 fun v33 =>
 wAldJ x5 20 v31 v33 fun v34 =>
 j12 v34 x5)
 (wGetF x5 12 7 l0 fun v35 =>
 wAldJ x5 20 v35 v9 fun v36 =>
 j12 v36 x5)))
 (Q (-1) x5))
 (Q 0 x3)) X)) X)

def w_X12_close (l0 : Option Nat) (l1 : Int32) (x : HS) (Q : Int32 → HS → Prop) (X : String → HS → Prop) : Prop :=
 wRecv x 12 l0
 (w_X12_wrongCursor l0 l1 x (fun v2 x1 =>
 wRecv x1 12 l0
 (w_X12_fails l0 v2 x1 (fun v4 x3 =>
 wIf (v4 = 0)
 (wGetF x3 12 28 l0 fun v5 =>
 wAstZ x3 v5 l1 0 fun x6 =>
 wGetF x6 12 34 l0 fun v7 =>
 wAldJ x6 20 v7 l1 fun v8 =>
 Q v8 x6)
 (Q 0 x3)) X)) X)

def w_X12_byNumber (l0 : Option Nat) (l1 : Int32) (x : HS) (Q : Int32 → HS → Prop) (_X : String → HS → Prop) : Prop :=
 wLoop (σ := Int32) (fun v4 x3 again1 =>
 wIf (3000 ≤ v4)
 (Q (-1) x3)
 (wGetF x3 12 11 l0 fun v5 =>
 wAldJ x3 22 v5 v4 fun v6 =>
 wJoin (κ := HS → Prop) (fun  (x8 : HS) =>
 again1 (v4 + 1) x8) (fun j7 =>
 wIf (v6 = 0)
 (j7 x3)
 (wGetF x3 12 14 l0 fun v9 =>
 wAldJ x3 20 v9 v4 fun v10 =>
 wIf (v10 = l1)
 (Q v4 x3)
 (j7 x3))))) 0 x

def w_X12_ahead (l0 : Option Nat) (l1 : Int32) (x : HS) (Q : Int32 → HS → Prop) (_X : String → HS → Prop) : Prop :=
 wGetF x 12 17 l0 fun v1 =>
 wAldJ x 20 v1 l1 fun v2 =>
 wLoop (σ := Int32 × Int32) (fun v6 x5 again3 =>
 wIf (v6.2 < 0)
 (Q v6.1 x5)
 (wGetF x5 12 17 l0 fun v7 =>
 wAldJ x5 20 v7 v6.2 fun v8 =>
 again3 ((v6.1 + 1), v8) x5)) (0, v2) x

def w_X12_fact (l0 : Option Nat) (l1 : Int32) (l2 : Int32) (x : HS) (Q : Int32 → HS → Prop) (X : String → HS → Prop) : Prop :=
 wJoin (κ := Int32 → HS → Prop) (fun (v3 : Int32) (x2 : HS) =>
 wRecv x2 12 l0
 (w_X12_fails l0 v3 x2 (fun v5 x4 =>
 wIf (v5 = 0)
 (wRecv x4 12 l0
 (w_X12_byNumber l0 l1 x4 (fun v7 x6 =>
 wIf (l2 = 4)
 (wGetF x6 12 12 l0 fun v8 =>
 wAldJ x6 20 v8 v7 fun v9 =>
 Q v9 x6)
 (wIf (l2 = 5)
 (wGetF x6 12 15 l0 fun v10 =>
 wAldJ x6 20 v10 v7 fun v11 =>
 Q v11 x6)
 (wIf (l2 = 6)
 (wGetF x6 12 16 l0 fun v12 =>
 wAldJ x6 20 v12 v7 fun v13 =>
 Q v13 x6)
 (wIf (l2 = 7)
 (wRecv x6 12 l0
 (w_X12_ahead l0 v7 x6 (fun v15 x14 =>
 Q v15 x14) X))
 (wGetF x6 12 13 l0 fun v16 =>
 wAldJ x6 20 v16 (((4 : Int32) * v7) + l2) fun v17 =>
 Q v17 x6))))) X))
 (Q 0 x4)) X)) (fun j1 =>
 wJoin (κ := HS → Prop) (fun  (x19 : HS) =>
 j1 1 x19) (fun j18 =>
 wIf (l2 < 0)
 (j18 x)
 (wIf (l2 ≤ 7)
 (wRecv x 12 l0
 (w_X12_byNumber l0 l1 x (fun v21 x20 =>
 wIf (0 ≤ v21)
 (j1 0 x20)
 (j1 2 x20)) X))
 (j18 x))))

def w_X12_mark (l0 : Option Nat) (x : HS) (Q : Int32 → HS → Prop) (X : String → HS → Prop) : Prop :=
 wGetI x 12 27 l0 fun v1 =>
 wJoin (κ := Int32 → HS → Prop) (fun (v4 : Int32) (x3 : HS) =>
 wRecv x3 12 l0
 (w_X12_fails l0 v4 x3 (fun v6 x5 =>
 wIf (v6 = 0)
 (wGetI x5 12 27 l0 fun v7 =>
 wJoin (κ := HS → Prop) (fun  (x9 : HS) =>
 wGetF x9 12 26 l0 fun v10 =>
 wGetI x9 12 27 l0 fun v11 =>
 wGetI x9 12 25 l0 fun v12 =>
 wAstI x9 v10 v11 v12 fun x13 =>
 wGetI x13 12 27 l0 fun v14 =>
 wPutI x13 12 27 l0 (v14 + 1) fun x15 =>
 wGetI x15 12 27 l0 fun v16 =>
 Q v16 x15) (fun j8 =>
 wIf (v7 = 0)
 (wPutI x5 12 25 l0 0 fun x17 =>
 j8 x17)
 (j8 x5)))
 (Q 0 x5)) X)) (fun j2 =>
 wIf (v1 = 8)
 (j2 1 x)
 (j2 0 x))

def w_X12_turn (l0 : Option Nat) (l1 : Int32) (x : HS) (Q : HS → Prop) (X : String → HS → Prop) : Prop :=
 wIf (l1 < 0)
 (wGetF x 12 12 l0 fun v1 =>
 wAldJ x 20 v1 (((-1) : Int32) - l1) fun v2 =>
 wRecv x 12 l0
 (w_X12_fresh l0 v2 x (fun v4 x3 =>
 wLoop (σ := Int32) (fun v8 x7 again5 =>
 wIf (4 ≤ v8)
 (wRecv x7 12 l0
 (w_X12_link l0 v4 (((-1) : Int32) - l1) x7 (fun x9 =>
 wGetF x9 12 19 l0 fun v11 =>
 wAstI x9 v11 (((-1) : Int32) - l1) v4 fun x12 =>
 Q x12) X))
 (wGetF x7 12 13 l0 fun v13 =>
 wGetF x7 12 13 l0 fun v14 =>
 wAldJ x7 20 v14 (((4 : Int32) * (((-1) : Int32) - l1)) + v8) fun v15 =>
 wAstI x7 v13 (((4 : Int32) * v4) + v8) v15 fun x16 =>
 again5 (v8 + 1) x16)) 0 x3) X))
 (wLoop (σ := Int32) (fun v20 x19 again17 =>
 wGetF x19 12 19 l0 fun v21 =>
 wAldJ x19 20 v21 v20 fun v22 =>
 wIf (v22 = v20)
 (wRecv x19 12 l0
 (w_X12_go l0 v20 x19 (fun x23 =>
 Q x23) X))
 (wGetF x19 12 19 l0 fun v25 =>
 wAldJ x19 20 v25 v20 fun v26 =>
 again17 v26 x19)) l1 x)

def w_X12_back (l0 : Option Nat) (l1 : Int32) (x : HS) (Q : Int32 → HS → Prop) (X : String → HS → Prop) : Prop :=
 wGetI x 12 27 l0 fun v1 =>
 wJoin (κ := Int32 → HS → Prop) (fun (v4 : Int32) (x3 : HS) =>
 wRecv x3 12 l0
 (w_X12_fails l0 v4 x3 (fun v6 x5 =>
 wIf (v6 = 0)
 (wGetF x5 12 26 l0 fun v7 =>
 wGetI x5 12 27 l0 fun v8 =>
 wAldJ x5 20 v7 (v8 - 1) fun v9 =>
 wGetI x5 12 25 l0 fun v10 =>
 wLoop (σ := Int32 × Int32) (fun v14 x13 again11 =>
 wIf (v10 ≤ v14.2)
 (wJoin (κ := Int32 → HS → Prop) (fun (v17 : Int32) (x16 : HS) =>
 wRecv x16 12 l0
 (w_X12_fails l0 v17 x16 (fun v19 x18 =>
 wIf (v19 = 0)
 (wGetI x18 12 27 l0 fun v20 =>
 wPutI x18 12 27 l0 (v20 - 1) fun x21 =>
 wIf (l1 = 0)
 (Q 0 x21)
 (wLoop (σ := Int32) (fun v25 x24 again22 =>
 wIf (v25 < v9)
 (Q (v10 - v9) x24)
 (wGetF x24 12 24 l0 fun v26 =>
 wAldJ x24 20 v26 v25 fun v27 =>
 wRecv x24 12 l0
 (w_X12_turn l0 v27 x24 (fun x28 =>
 again22 (v25 + (-1)) x28) X))) (v10 - 1) x21))
 (Q 0 x18)) X)) (fun j15 =>
 wJoin (κ := HS → Prop) (fun  (x31 : HS) =>
 j15 0 x31) (fun j30 =>
 wIf (l1 = 0)
 (j30 x13)
 (wGetI x13 12 20 l0 fun v32 =>
 wIf ((v32 + v14.1) ≤ 3000)
 (j30 x13)
 (j15 1 x13)))))
 (wGetF x13 12 24 l0 fun v33 =>
 wAldJ x13 20 v33 v14.2 fun v34 =>
 wJoin (κ := Int32 → HS → Prop) (fun (v37 : Int32) (x36 : HS) =>
 again11 (v37, (v14.2 + 1)) x36) (fun j35 =>
 wIf (0 ≤ v34)
 (j35 v14.1 x13)
 (j35 (v14.1 + 1) x13)))) (0, v9) x5)
 (Q 0 x5)) X)) (fun j2 =>
 wIf (v1 = 0)
 (j2 1 x)
 (j2 0 x))

def w_X12_purge (l0 : Option Nat) (l1 : Int32) (x : HS) (Q : Int32 → HS → Prop) (X : String → HS → Prop) : Prop :=
 wGetI x 12 27 l0 fun v1 =>
 wJoin (κ := Int32 → HS → Prop) (fun (v4 : Int32) (x3 : HS) =>
 wLoop (σ := Int32 × Int32) (fun v8 x7 again5 =>
 wIf (10 ≤ v8.2)
 (wRecv x7 12 l0
 (w_X12_isTime l0 l1 x7 (fun v10 x9 =>
 wJoin (κ := Int32 → HS → Prop) (fun (v13 : Int32) (x12 : HS) =>
 wRecv x12 12 l0
 (w_X12_fails l0 v13 x12 (fun v15 x14 =>
 wIf (v15 = 0)
 (wRecv x14 12 l0
 (w_X12_timeOf l0 l1 x14 (fun v17 x16 =>
 wGetI x16 12 23 l0 fun v18 =>
 wJoin (κ := HS → Prop) (fun  (x20 : HS) =>
 wLoop (σ := Int32 × Int32) (fun v24 x23 again21 =>
 wIf (3000 ≤ v24.2)
 (Q v24.1 x23)
 (wGetF x23 12 11 l0 fun v25 =>
 wAldJ x23 22 v25 v24.2 fun v26 =>
 wJoin (κ := Int32 → HS → Prop) (fun (v29 : Int32) (x28 : HS) =>
 again21 (v29, (v24.2 + 1)) x28) (fun j27 =>
 wIf (v26 = 0)
 (j27 v24.1 x23)
 (wGetF x23 12 16 l0 fun v30 =>
 wAldJ x23 20 v30 v24.2 fun v31 =>
 wIf (v31 < 0)
 (j27 v24.1 x23)
 (wGetF x23 12 16 l0 fun v32 =>
 wAldJ x23 20 v32 v24.2 fun v33 =>
 wIf (v33 ≤ v17)
 (wGetF x23 12 17 l0 fun v34 =>
 wAldJ x23 20 v34 v24.2 fun v35 =>
 wJoin (κ := HS → Prop) (fun  (x37 : HS) =>
 wGetF x37 12 18 l0 fun v38 =>
 wAldJ x37 20 v38 v24.2 fun v39 =>
 wJoin (κ := HS → Prop) (fun  (x41 : HS) =>
 wGetF x41 12 11 l0 fun v42 =>
 wAstZ x41 v42 v24.2 0 fun x43 =>
 wGetI x43 12 20 l0 fun v44 =>
 wPutI x43 12 20 l0 (v44 - 1) fun x45 =>
 j27 (v24.1 + 1) x45) (fun j40 =>
 wIf (0 ≤ v39)
 (wGetF x37 12 17 l0 fun v46 =>
 wGetF x37 12 18 l0 fun v47 =>
 wAldJ x37 20 v47 v24.2 fun v48 =>
 wGetF x37 12 17 l0 fun v49 =>
 wAldJ x37 20 v49 v24.2 fun v50 =>
 wAstI x37 v46 v48 v50 fun x51 =>
 j40 x51)
 (wGetF x37 12 8 l0 fun v52 =>
 wGetF x37 12 12 l0 fun v53 =>
 wAldJ x37 20 v53 v24.2 fun v54 =>
 wGetF x37 12 17 l0 fun v55 =>
 wAldJ x37 20 v55 v24.2 fun v56 =>
 wAstI x37 v52 v54 v56 fun x57 =>
 j40 x57))) (fun j36 =>
 wIf (0 ≤ v35)
 (wGetF x23 12 18 l0 fun v58 =>
 wGetF x23 12 17 l0 fun v59 =>
 wAldJ x23 20 v59 v24.2 fun v60 =>
 wGetF x23 12 18 l0 fun v61 =>
 wAldJ x23 20 v61 v24.2 fun v62 =>
 wAstI x23 v58 v60 v62 fun x63 =>
 j36 x63)
 (wGetF x23 12 7 l0 fun v64 =>
 wGetF x23 12 12 l0 fun v65 =>
 wAldJ x23 20 v65 v24.2 fun v66 =>
 wGetF x23 12 18 l0 fun v67 =>
 wAldJ x23 20 v67 v24.2 fun v68 =>
 wAstI x23 v64 v66 v68 fun x69 =>
 j36 x69)))
 (j27 v24.1 x23)))))) (0, 0) x20) (fun j19 =>
 wIf (v17 ≤ v18)
 (j19 x16)
 (wPutI x16 12 23 l0 v17 fun x70 =>
 j19 x70))) X))
 (Q 0 x14)) X)) (fun j11 =>
 wIf (v10 = 0)
 (j11 1 x9)
 (wIf (v8.1 = 0)
 (j11 0 x9)
 (j11 2 x9)))) X))
 (wGetF x7 12 28 l0 fun v71 =>
 wAldJ x7 22 v71 v8.2 fun v72 =>
 wJoin (κ := Int32 → HS → Prop) (fun (v75 : Int32) (x74 : HS) =>
 again5 (v75, (v8.2 + 1)) x74) (fun j73 =>
 wIf (v72 = 0)
 (j73 v8.1 x7)
 (j73 1 x7)))) (v4, 0) x3) (fun j2 =>
 wIf (v1 ≤ 0)
 (j2 0 x)
 (j2 1 x))

def w_X12_find0 (l0 : Option Nat) (l1 : Int32) (x : HS) (Q : HS → Prop) (_X : String → HS → Prop) : Prop :=
 wGetF x 12 36 l0 fun v1 =>
 wGetI x 12 37 l0 fun v2 =>
 wAstI x v1 v2 l1 fun x3 =>
 wGetI x3 12 37 l0 fun v4 =>
 wPutI x3 12 37 l0 (v4 + 1) fun x5 =>
 Q x5

def w_X12_changes (l0 : Option Nat) (l1 : Int32) (l2 : Int32) (l3 : Int32) (x : HS) (Q : Int32 → HS → Prop) (X : String → HS → Prop) : Prop :=
 wRecv x 12 l0
 (w_X12_isTime l0 l2 x (fun v2 x1 =>
 wJoin (κ := Int32 → HS → Prop) (fun (v5 : Int32) (x4 : HS) =>
 wRecv x4 12 l0
 (w_X12_fails l0 v5 x4 (fun v7 x6 =>
 wIf (v7 = 0)
 (wRecv x6 12 l0
 (w_X12_timeOf l0 l2 x6 (fun v9 x8 =>
 wRecv x8 12 l0
 (w_X12_timeOf l0 l3 x8 (fun v11 x10 =>
 wPutI x10 12 37 l0 0 fun x12 =>
 wGetF x12 12 7 l0 fun v13 =>
 wAldJ x12 20 v13 l1 fun v14 =>
 wLoop (σ := Int32) (fun v18 x17 again15 =>
 wIf (v18 < 0)
 (wGetF x17 12 7 l0 fun v19 =>
 wAldJ x17 20 v19 l1 fun v20 =>
 wLoop (σ := Int32) (fun v24 x23 again21 =>
 wIf (v24 < 0)
 (wGetI x23 12 37 l0 fun v25 =>
 Q v25 x23)
 (wRecv x23 12 l0
 (w_X12_isThere l0 v24 v9 x23 (fun v27 x26 =>
 wJoin (κ := HS → Prop) (fun  (x29 : HS) =>
 wGetF x29 12 18 l0 fun v30 =>
 wAldJ x29 20 v30 v24 fun v31 =>
 again21 v31 x29) (fun j28 =>
 wIf (v27 = 0)
 (j28 x26)
 (wRecv x26 12 l0
 (w_X12_isThere l0 v24 v11 x26 (fun v33 x32 =>
 wIf (v33 = 0)
 (wGetF x32 12 14 l0 fun v34 =>
 wAldJ x32 20 v34 v24 fun v35 =>
 wRecv x32 12 l0
 (w_X12_find0 l0 (((-1) : Int32) - v35) x32 (fun x36 =>
 j28 x36) X))
 (j28 x32)) X)))) X))) v20 x17)
 (wRecv x17 12 l0
 (w_X12_isThere l0 v18 v11 x17 (fun v39 x38 =>
 wJoin (κ := HS → Prop) (fun  (x41 : HS) =>
 wGetF x41 12 18 l0 fun v42 =>
 wAldJ x41 20 v42 v18 fun v43 =>
 again15 v43 x41) (fun j40 =>
 wIf (v39 = 0)
 (j40 x38)
 (wRecv x38 12 l0
 (w_X12_isThere l0 v18 v9 x38 (fun v45 x44 =>
 wIf (v45 = 0)
 (wGetF x44 12 14 l0 fun v46 =>
 wAldJ x44 20 v46 v18 fun v47 =>
 wRecv x44 12 l0
 (w_X12_find0 l0 v47 x44 (fun x48 =>
 j40 x48) X))
 (j40 x44)) X)))) X))) v14 x12) X)) X))
 (Q 0 x6)) X)) (fun j3 =>
 wJoin (κ := HS → Prop) (fun  (x51 : HS) =>
 j3 1 x51) (fun j50 =>
 wIf (v2 = 0)
 (j50 x1)
 (wRecv x1 12 l0
 (w_X12_isTime l0 l3 x1 (fun v53 x52 =>
 wIf (v53 = 0)
 (j50 x52)
 (wRecv x52 12 l0
 (w_X12_isTable l0 l1 x52 (fun v55 x54 =>
 wIf (v55 = 0)
 (j3 2 x54)
 (j3 0 x54)) X))) X))))) X)

def w_X12_found (l0 : Option Nat) (l1 : Int32) (x : HS) (Q : Int32 → HS → Prop) (X : String → HS → Prop) : Prop :=
 wJoin (κ := Int32 → HS → Prop) (fun (v3 : Int32) (x2 : HS) =>
 wRecv x2 12 l0
 (w_X12_fails l0 v3 x2 (fun v5 x4 =>
 wIf (v5 = 0)
 (wGetF x4 12 36 l0 fun v6 =>
 wAldJ x4 20 v6 l1 fun v7 =>
 Q v7 x4)
 (Q 0 x4)) X)) (fun j1 =>
 wJoin (κ := HS → Prop) (fun  (x9 : HS) =>
 j1 1 x9) (fun j8 =>
 wIf (l1 < 0)
 (j8 x)
 (wGetI x 12 37 l0 fun v10 =>
 wIf (l1 < v10)
 (j1 0 x)
 (j8 x))))

def w_X12_byteAt (l0 : Option Nat) (l1 : Int32) (x : HS) (Q : Int32 → HS → Prop) (_X : String → HS → Prop) : Prop :=
 wGetI x 12 40 l0 fun v1 =>
 wJoin (κ := Int32 → HS → Prop) (fun (v4 : Int32) (x3 : HS) =>
 Q v4 x3) (fun j2 =>
 wIf (v1 ≤ l1)
 (j2 (-1) x)
 (wGetF x 12 1 l0 fun v5 =>
 wAldJ x 21 v5 l1 fun v6 =>
 j2 v6 x))

def w_X12_blanks (l0 : Option Nat) (x : HS) (Q : HS → Prop) (X : String → HS → Prop) : Prop :=
 wLoop (σ := Unit) (fun v4 x3 again1 =>
 wGetI x3 12 41 l0 fun v5 =>
 wRecv x3 12 l0
 (w_X12_byteAt l0 v5 x3 (fun v7 x6 =>
 wIf (v7 = 32)
 (wGetI x6 12 41 l0 fun v8 =>
 wPutI x6 12 41 l0 (v8 + 1) fun x9 =>
 again1 () x9)
 (Q x6)) X)) () x

def w_X12_isDigit (l0 : Option Nat) (l1 : Int32) (x : HS) (Q : Int32 → HS → Prop) (_X : String → HS → Prop) : Prop :=
 wJoin (κ := Int32 → HS → Prop) (fun (v3 : Int32) (x2 : HS) =>
 wBit v3 (Q v3 x2)) (fun j1 =>
 wJoin (κ := HS → Prop) (fun  (x5 : HS) =>
 j1 0 x5) (fun j4 =>
 wIf (l1 < 48)
 (j4 x)
 (wIf (57 < l1)
 (j4 x)
 (j1 1 x))))

def w_X12_take (l0 : Option Nat) (l1 : Int32) (x : HS) (Q : Int32 → HS → Prop) (X : String → HS → Prop) : Prop :=
 wRecv x 12 l0
 (w_X12_blanks l0 x (fun x1 =>
 wGetI x1 12 41 l0 fun v3 =>
 wRecv x1 12 l0
 (w_X12_byteAt l0 v3 x1 (fun v5 x4 =>
 wIf (v5 = l1)
 (wGetI x4 12 41 l0 fun v6 =>
 wPutI x4 12 41 l0 (v6 + 1) fun x7 =>
 wBit 1 (Q 1 x7))
 (wBit 0 (Q 0 x4))) X)) X)

def w_X12_digits (l0 : Option Nat) (l1 : Int32) (x : HS) (Q : Int32 → HS → Prop) (X : String → HS → Prop) : Prop :=
 wLoop (σ := Int32) (fun v4 x3 again1 =>
 wRecv x3 12 l0
 (w_X12_byteAt l0 v4 x3 (fun v6 x5 =>
 wRecv x5 12 l0
 (w_X12_isDigit l0 v6 x5 (fun v8 x7 =>
 wIf (v8 = 0)
 (Q (v4 - l1) x7)
 (again1 (v4 + 1) x7)) X)) X)) l1 x

def w_X12_digits0 (l0 : Option Nat) (x : HS) (Q : Int32 → HS → Prop) (X : String → HS → Prop) : Prop :=
 wGetI x 12 41 l0 fun v1 =>
 wRecv x 12 l0
 (w_X12_byteAt l0 v1 x (fun v3 x2 =>
 wJoin (κ := Int32 → HS → Prop) (fun (v6 : Int32) (x5 : HS) =>
 wJoin (κ := Int32 → HS → Prop) (fun (v9 : Int32) (x8 : HS) =>
 wRecv x8 12 l0
 (w_X12_digits l0 v9 x8 (fun v11 x10 =>
 wJoin (κ := HS → Prop) (fun  (x13 : HS) =>
 wBit 0 (Q 0 x13)) (fun j12 =>
 wIf (v11 < 1)
 (j12 x10)
 (wIf (v11 ≤ 9)
 (wLoop (σ := Int32 × Int32) (fun v17 x16 again14 =>
 wIf ((v9 + v11) ≤ v17.2)
 (wJoin (κ := Int32 → HS → Prop) (fun (v20 : Int32) (x19 : HS) =>
 wPutI x19 12 43 l0 v20 fun x21 =>
 wPutI x21 12 41 l0 (v9 + v11) fun x22 =>
 wBit 1 (Q 1 x22)) (fun j18 =>
 wIf (v6 = 0)
 (j18 v17.1 x16)
 (j18 (-v17.1) x16)))
 (wRecv x16 12 l0
 (w_X12_byteAt l0 v17.2 x16 (fun v24 x23 =>
 again14 (((((10 : Int32) * v17.1) + v24) - 48), (v17.2 + 1)) x23) X))) (0, v9) x10)
 (j12 x10)))) X)) (fun j7 =>
 wIf (v6 = 0)
 (wGetI x5 12 41 l0 fun v25 =>
 j7 v25 x5)
 (wGetI x5 12 41 l0 fun v26 =>
 j7 (v26 + 1) x5))) (fun j4 =>
 wIf (v3 = 45)
 (j4 1 x2)
 (j4 0 x2))) X)

def w_X12_argument (l0 : Option Nat) (l1 : Int32) (l2 : Int32) (x : HS) (Q : Int32 → HS → Prop) (X : String → HS → Prop) : Prop :=
 wRecv x 12 l0
 (w_X12_blanks l0 x (fun x1 =>
 wGetI x1 12 41 l0 fun v3 =>
 wRecv x1 12 l0
 (w_X12_byteAt l0 v3 x1 (fun v5 x4 =>
 wJoin (κ := HS → Prop) (fun  (x7 : HS) =>
 wJoin (κ := HS → Prop) (fun  (x9 : HS) =>
 wJoin (κ := HS → Prop) (fun  (x11 : HS) =>
 wBit 0 (Q 0 x11)) (fun j10 =>
 wJoin (κ := HS → Prop) (fun  (x13 : HS) =>
 wRecv x13 12 l0
 (w_X12_digits0 l0 x13 (fun v15 x14 =>
 wIf (v15 = 0)
 (j10 x14)
 (wGetF x14 12 46 l0 fun v16 =>
 wAstI x14 v16 l1 0 fun x17 =>
 wGetF x17 12 47 l0 fun v18 =>
 wGetI x17 12 43 l0 fun v19 =>
 wAstI x17 v18 l1 v19 fun x20 =>
 wBit 1 (Q 1 x20))) X)) (fun j12 =>
 wIf (v5 = 45)
 (j12 x9)
 (wRecv x9 12 l0
 (w_X12_isDigit l0 v5 x9 (fun v22 x21 =>
 wIf (v22 = 0)
 (j10 x21)
 (j12 x21)) X))))) (fun j8 =>
 wIf (l2 = 0)
 (j8 x7)
 (wIf (v5 = 95)
 (wGetF x7 12 46 l0 fun v23 =>
 wAstI x7 v23 l1 2 fun x24 =>
 wGetF x24 12 47 l0 fun v25 =>
 wAstI x24 v25 l1 0 fun x26 =>
 wGetI x26 12 41 l0 fun v27 =>
 wPutI x26 12 41 l0 (v27 + 1) fun x28 =>
 wBit 1 (Q 1 x28))
 (j8 x7)))) (fun j6 =>
 wIf (v5 < 65)
 (j6 x4)
 (wIf (72 < v5)
 (j6 x4)
 (wGetF x4 12 46 l0 fun v29 =>
 wAstI x4 v29 l1 1 fun x30 =>
 wGetF x30 12 47 l0 fun v31 =>
 wAstI x30 v31 l1 (v5 - 65) fun x32 =>
 wGetI x32 12 41 l0 fun v33 =>
 wPutI x32 12 41 l0 (v33 + 1) fun x34 =>
 wBit 1 (Q 1 x34))))) X)) X)

def w_X12_isKnown (l0 : Option Nat) (l1 : Int32) (l2 : Int32) (x : HS) (Q : Int32 → HS → Prop) (_X : String → HS → Prop) : Prop :=
 wGetF x 12 46 l0 fun v1 =>
 wAldJ x 20 v1 l2 fun v2 =>
 wJoin (κ := Int32 → HS → Prop) (fun (v5 : Int32) (x4 : HS) =>
 wBit v5 (Q v5 x4)) (fun j3 =>
 wJoin (κ := HS → Prop) (fun  (x7 : HS) =>
 j3 1 x7) (fun j6 =>
 wIf (v2 = 1)
 (wGetF x 12 48 l0 fun v8 =>
 wAldJ x 20 v8 l1 fun v9 =>
 wGetF x 12 47 l0 fun v10 =>
 wAldJ x 20 v10 l2 fun v11 =>
 wIf (((v9 >>> (v11 &&& 31)) &&& 1) = 1)
 (j6 x)
 (j3 0 x))
 (j6 x)))

def w_X12_wrong (l0 : Option Nat) (l1 : Int32) (x : HS) (Q : Int32 → HS → Prop) (_X : String → HS → Prop) : Prop :=
 wGetI x 12 40 l0 fun v1 =>
 wJoin (κ := Int32 → HS → Prop) (fun (v4 : Int32) (x3 : HS) =>
 wPutI x3 12 42 l0 v4 fun x5 =>
 wBit 0 (Q 0 x5)) (fun j2 =>
 wIf (v1 ≤ l1)
 (wGetI x 12 40 l0 fun v6 =>
 j2 v6 x)
 (j2 l1 x))

def w_X12_tableGoal (l0 : Option Nat) (l1 : Int32) (x : HS) (Q : Int32 → HS → Prop) (X : String → HS → Prop) : Prop :=
 wGetI x 12 41 l0 fun v1 =>
 wGetI x 12 41 l0 fun v2 =>
 wPutI x 12 41 l0 (v2 + 1) fun x3 =>
 wGetI x3 12 41 l0 fun v4 =>
 wRecv x3 12 l0
 (w_X12_digits l0 v4 x3 (fun v6 x5 =>
 wIf (v6 = 0)
 (wGetI x5 12 41 l0 fun v7 =>
 wRecv x5 12 l0
 (w_X12_wrong l0 v7 x5 (fun v9 x8 =>
 wBit v9 (Q v9 x8)) X))
 (wIf (v6 ≤ 9)
 (wRecv x5 12 l0
 (w_X12_digits0 l0 x5 (fun v11 x10 =>
 wGetF x10 12 45 l0 fun v12 =>
 wGetI x10 12 43 l0 fun v13 =>
 wAstI x10 v12 l1 v13 fun x14 =>
 wGetI x14 12 43 l0 fun v15 =>
 wRecv x14 12 l0
 (w_X12_isTable l0 v15 x14 (fun v17 x16 =>
 wIf (v17 = 0)
 (wRecv x16 12 l0
 (w_X12_wrong l0 v1 x16 (fun v19 x18 =>
 wBit v19 (Q v19 x18)) X))
 (wRecv x16 12 l0
 (w_X12_take l0 40 x16 (fun v21 x20 =>
 wIf (v21 = 0)
 (wGetI x20 12 41 l0 fun v22 =>
 wRecv x20 12 l0
 (w_X12_wrong l0 v22 x20 (fun v24 x23 =>
 wBit v24 (Q v24 x23)) X))
 (wLoop (σ := Int32 × Int32) (fun v28 x27 again25 =>
 wIf (v28.2 = 0)
 (wRecv x27 12 l0
 (w_X12_blanks l0 x27 (fun x29 =>
 wGetI x29 12 41 l0 fun v31 =>
 wRecv x29 12 l0
 (w_X12_byteAt l0 v31 x29 (fun v33 x32 =>
 wJoin (κ := HS → Prop) (fun  (x35 : HS) =>
 wGetI x35 12 41 l0 fun v36 =>
 wRecv x35 12 l0
 (w_X12_wrong l0 v36 x35 (fun v38 x37 =>
 wBit v38 (Q v38 x37)) X)) (fun j34 =>
 wIf (v33 = 41)
 (wGetF x32 12 4 l0 fun v39 =>
 wGetF x32 12 45 l0 fun v40 =>
 wAldJ x32 20 v40 l1 fun v41 =>
 wAldJ x32 20 v39 v41 fun v42 =>
 wIf (v42 ≤ v28.1)
 (wGetI x32 12 41 l0 fun v43 =>
 wPutI x32 12 41 l0 (v43 + 1) fun x44 =>
 wGetF x44 12 48 l0 fun v45 =>
 wGetF x44 12 48 l0 fun v46 =>
 wAldJ x44 20 v46 l1 fun v47 =>
 wAstI x44 v45 (l1 + 1) v47 fun x48 =>
 wLoop (σ := Int32) (fun v52 x51 again49 =>
 wJoin (κ := HS → Prop) (fun  (x54 : HS) =>
 wBit 1 (Q 1 x54)) (fun j53 =>
 wIf (v28.1 ≤ v52)
 (j53 x51)
 (wGetF x51 12 44 l0 fun v55 =>
 wAldJ x51 20 v55 l1 fun v56 =>
 wIf (v56 = 0)
 (wGetF x51 12 46 l0 fun v57 =>
 wAldJ x51 20 v57 (((5 : Int32) * l1) + v52) fun v58 =>
 wJoin (κ := HS → Prop) (fun  (x60 : HS) =>
 again49 (v52 + 1) x60) (fun j59 =>
 wIf (v58 = 1)
 (wGetF x51 12 48 l0 fun v61 =>
 wAldJ x51 20 v61 (l1 + 1) fun v62 =>
 wGetF x51 12 47 l0 fun v63 =>
 wAldJ x51 20 v63 (((5 : Int32) * l1) + v52) fun v64 =>
 wAstI x51 v61 (l1 + 1) (v62 ||| ((1 : Int32) <<< (v64 &&& 31))) fun x65 =>
 j59 x65)
 (j59 x51)))
 (j53 x51)))) 0 x48)
 (j34 x32))
 (j34 x32))) X)) X))
 (wRecv x27 12 l0
 (w_X12_blanks l0 x27 (fun x66 =>
 wGetF x66 12 4 l0 fun v68 =>
 wGetF x66 12 45 l0 fun v69 =>
 wAldJ x66 20 v69 l1 fun v70 =>
 wAldJ x66 20 v68 v70 fun v71 =>
 wIf (v28.1 = v71)
 (wGetI x66 12 41 l0 fun v72 =>
 wRecv x66 12 l0
 (w_X12_wrong l0 v72 x66 (fun v74 x73 =>
 wBit v74 (Q v74 x73)) X))
 (wGetI x66 12 41 l0 fun v75 =>
 wRecv x66 12 l0
 (w_X12_argument l0 (((5 : Int32) * l1) + v28.1) 1 x66 (fun v77 x76 =>
 wIf (v77 = 0)
 (wRecv x76 12 l0
 (w_X12_wrong l0 v75 x76 (fun v79 x78 =>
 wBit v79 (Q v79 x78)) X))
 (wRecv x76 12 l0
 (w_X12_take l0 44 x76 (fun v81 x80 =>
 again25 ((v28.1 + 1), v81) x80) X))) X))) X))) (0, 1) x20)) X))) X)) X))
 (wRecv x5 12 l0
 (w_X12_wrong l0 v1 x5 (fun v83 x82 =>
 wBit v83 (Q v83 x82)) X)))) X)

def w_X12_knownArgument (l0 : Option Nat) (l1 : Int32) (l2 : Int32) (x : HS) (Q : Int32 → HS → Prop) (X : String → HS → Prop) : Prop :=
 wRecv x 12 l0
 (w_X12_blanks l0 x (fun x1 =>
 wGetI x1 12 41 l0 fun v3 =>
 wRecv x1 12 l0
 (w_X12_argument l0 l2 0 x1 (fun v5 x4 =>
 wJoin (κ := HS → Prop) (fun  (x7 : HS) =>
 wRecv x7 12 l0
 (w_X12_wrong l0 v3 x7 (fun v9 x8 =>
 wBit v9 (Q v9 x8)) X)) (fun j6 =>
 wIf (v5 = 0)
 (j6 x4)
 (wRecv x4 12 l0
 (w_X12_isKnown l0 l1 l2 x4 (fun v11 x10 =>
 wIf (v11 = 0)
 (j6 x10)
 (wBit 1 (Q 1 x10))) X)))) X)) X)

def w_X12_otherGoal (l0 : Option Nat) (l1 : Int32) (x : HS) (Q : Int32 → HS → Prop) (X : String → HS → Prop) : Prop :=
 wGetI x 12 41 l0 fun v1 =>
 wRecv x 12 l0
 (w_X12_argument l0 ((5 : Int32) * l1) 0 x (fun v3 x2 =>
 wIf (v3 = 0)
 (wRecv x2 12 l0
 (w_X12_wrong l0 v1 x2 (fun v5 x4 =>
 wBit v5 (Q v5 x4)) X))
 (wGetF x2 12 48 l0 fun v6 =>
 wGetF x2 12 48 l0 fun v7 =>
 wAldJ x2 20 v7 l1 fun v8 =>
 wAstI x2 v6 (l1 + 1) v8 fun x9 =>
 wRecv x9 12 l0
 (w_X12_blanks l0 x9 (fun x10 =>
 wGetI x10 12 41 l0 fun v12 =>
 wRecv x10 12 l0
 (w_X12_byteAt l0 v12 x10 (fun v14 x13 =>
 wJoin (κ := HS → Prop) (fun  (x16 : HS) =>
 wJoin (κ := HS → Prop) (fun  (x18 : HS) =>
 wRecv x18 12 l0
 (w_X12_isKnown l0 l1 ((5 : Int32) * l1) x18 (fun v20 x19 =>
 wIf (v20 = 0)
 (wRecv x19 12 l0
 (w_X12_wrong l0 v1 x19 (fun v22 x21 =>
 wBit v22 (Q v22 x21)) X))
 (wGetF x19 12 44 l0 fun v23 =>
 wJoin (κ := Int32 → HS → Prop) (fun (v26 : Int32) (x25 : HS) =>
 wAstI x25 v23 l1 v26 fun x27 =>
 wGetI x27 12 41 l0 fun v28 =>
 wPutI x27 12 41 l0 (v28 + 1) fun x29 =>
 wRecv x29 12 l0
 (w_X12_knownArgument l0 l1 (((5 : Int32) * l1) + 1) x29 (fun v31 x30 =>
 wBit v31 (Q v31 x30)) X)) (fun j24 =>
 wIf (v14 = 60)
 (j24 2 x19)
 (wIf (v14 = 61)
 (j24 3 x19)
 (j24 4 x19))))) X)) (fun j17 =>
 wIf (v14 = 60)
 (j17 x16)
 (wIf (v14 = 61)
 (j17 x16)
 (wIf (v14 = 35)
 (j17 x16)
 (wGetI x16 12 41 l0 fun v32 =>
 wRecv x16 12 l0
 (w_X12_wrong l0 v32 x16 (fun v34 x33 =>
 wBit v34 (Q v34 x33)) X)))))) (fun j15 =>
 wIf (v14 = 58)
 (wGetF x13 12 46 l0 fun v35 =>
 wAldJ x13 20 v35 ((5 : Int32) * l1) fun v36 =>
 wIf (v36 = 1)
 (wRecv x13 12 l0
 (w_X12_isKnown l0 l1 ((5 : Int32) * l1) x13 (fun v38 x37 =>
 wIf (v38 = 0)
 (wGetI x37 12 41 l0 fun v39 =>
 wPutI x37 12 41 l0 (v39 + 1) fun x40 =>
 wRecv x40 12 l0
 (w_X12_knownArgument l0 l1 (((5 : Int32) * l1) + 1) x40 (fun v42 x41 =>
 wIf (v42 = 0)
 (wBit 0 (Q 0 x41))
 (wRecv x41 12 l0
 (w_X12_blanks l0 x41 (fun x43 =>
 wGetI x43 12 41 l0 fun v45 =>
 wRecv x43 12 l0
 (w_X12_byteAt l0 v45 x43 (fun v47 x46 =>
 wJoin (κ := HS → Prop) (fun  (x49 : HS) =>
 wGetF x49 12 44 l0 fun v50 =>
 wJoin (κ := Int32 → HS → Prop) (fun (v53 : Int32) (x52 : HS) =>
 wAstI x52 v50 l1 v53 fun x54 =>
 wGetI x54 12 41 l0 fun v55 =>
 wPutI x54 12 41 l0 (v55 + 1) fun x56 =>
 wRecv x56 12 l0
 (w_X12_knownArgument l0 l1 (((5 : Int32) * l1) + 2) x56 (fun v58 x57 =>
 wIf (v58 = 0)
 (wBit 0 (Q 0 x57))
 (wGetF x57 12 48 l0 fun v59 =>
 wAldJ x57 20 v59 (l1 + 1) fun v60 =>
 wGetF x57 12 47 l0 fun v61 =>
 wAldJ x57 20 v61 ((5 : Int32) * l1) fun v62 =>
 wAstI x57 v59 (l1 + 1) (v60 ||| ((1 : Int32) <<< (v62 &&& 31))) fun x63 =>
 wBit 1 (Q 1 x63))) X)) (fun j51 =>
 wIf (v47 = 43)
 (j51 5 x49)
 (wIf (v47 = 45)
 (j51 6 x49)
 (j51 7 x49)))) (fun j48 =>
 wIf (v47 = 43)
 (j48 x46)
 (wIf (v47 = 45)
 (j48 x46)
 (wIf (v47 = 42)
 (j48 x46)
 (wGetI x46 12 41 l0 fun v64 =>
 wRecv x46 12 l0
 (w_X12_wrong l0 v64 x46 (fun v66 x65 =>
 wBit v66 (Q v66 x65)) X)))))) X)) X))) X))
 (wRecv x37 12 l0
 (w_X12_wrong l0 v1 x37 (fun v68 x67 =>
 wBit v68 (Q v68 x67)) X))) X))
 (j15 x13))
 (j15 x13))) X)) X))) X)

def w_X12_isQuestion (l0 : Option Nat) (l1 : Int32) (x : HS) (Q : Int32 → HS → Prop) (X : String → HS → Prop) : Prop :=
 wPutI x 12 40 l0 l1 fun x1 =>
 wPutI x1 12 41 l0 0 fun x2 =>
 wPutI x2 12 49 l0 0 fun x3 =>
 wGetF x3 12 48 l0 fun v4 =>
 wAstI x3 v4 0 0 fun x5 =>
 wLoop (σ := Int32) (fun v9 x8 again6 =>
 wIf (v9 = 0)
 (wRecv x8 12 l0
 (w_X12_blanks l0 x8 (fun x10 =>
 wGetI x10 12 41 l0 fun v12 =>
 wGetI x10 12 40 l0 fun v13 =>
 wJoin (κ := Int32 → HS → Prop) (fun (v16 : Int32) (x15 : HS) =>
 wBit v16 (Q v16 x15)) (fun j14 =>
 wJoin (κ := HS → Prop) (fun  (x18 : HS) =>
 j14 1 x18) (fun j17 =>
 wIf (v12 = v13)
 (j17 x10)
 (wGetI x10 12 41 l0 fun v19 =>
 wRecv x10 12 l0
 (w_X12_wrong l0 v19 x10 (fun v21 x20 =>
 wIf (v21 = 0)
 (j14 0 x20)
 (j17 x20)) X))))) X))
 (wRecv x8 12 l0
 (w_X12_blanks l0 x8 (fun x22 =>
 wGetI x22 12 49 l0 fun v24 =>
 wIf (v24 = 10)
 (wGetI x22 12 41 l0 fun v25 =>
 wRecv x22 12 l0
 (w_X12_wrong l0 v25 x22 (fun v27 x26 =>
 wBit v27 (Q v27 x26)) X))
 (wGetF x22 12 44 l0 fun v28 =>
 wGetI x22 12 49 l0 fun v29 =>
 wAstI x22 v28 v29 0 fun x30 =>
 wGetI x30 12 41 l0 fun v31 =>
 wRecv x30 12 l0
 (w_X12_byteAt l0 v31 x30 (fun v33 x32 =>
 wJoin (κ := Int32 → HS → Prop) (fun (v36 : Int32) (x35 : HS) =>
 wIf (v36 = 0)
 (wBit 0 (Q 0 x35))
 (wGetI x35 12 49 l0 fun v37 =>
 wPutI x35 12 49 l0 (v37 + 1) fun x38 =>
 wRecv x38 12 l0
 (w_X12_take l0 44 x38 (fun v40 x39 =>
 again6 v40 x39) X))) (fun j34 =>
 wIf (v33 = 116)
 (wGetI x32 12 49 l0 fun v41 =>
 wRecv x32 12 l0
 (w_X12_tableGoal l0 v41 x32 (fun v43 x42 =>
 j34 v43 x42) X))
 (wGetI x32 12 41 l0 fun v44 =>
 wRecv x32 12 l0
 (w_X12_byteAt l0 v44 x32 (fun v46 x45 =>
 wIf (v46 = 33)
 (wGetI x45 12 41 l0 fun v47 =>
 wPutI x45 12 41 l0 (v47 + 1) fun x48 =>
 wRecv x48 12 l0
 (w_X12_blanks l0 x48 (fun x49 =>
 wGetF x49 12 44 l0 fun v51 =>
 wGetI x49 12 49 l0 fun v52 =>
 wAstI x49 v51 v52 1 fun x53 =>
 wGetI x53 12 41 l0 fun v54 =>
 wRecv x53 12 l0
 (w_X12_byteAt l0 v54 x53 (fun v56 x55 =>
 wJoin (κ := Int32 → HS → Prop) (fun (v59 : Int32) (x58 : HS) =>
 j34 v59 x58) (fun j57 =>
 wIf (v56 = 116)
 (wGetI x55 12 49 l0 fun v60 =>
 wRecv x55 12 l0
 (w_X12_tableGoal l0 v60 x55 (fun v62 x61 =>
 j57 v62 x61) X))
 (wGetI x55 12 41 l0 fun v63 =>
 wRecv x55 12 l0
 (w_X12_wrong l0 v63 x55 (fun v65 x64 =>
 j57 v65 x64) X)))) X)) X))
 (wGetI x45 12 49 l0 fun v66 =>
 wRecv x45 12 l0
 (w_X12_otherGoal l0 v66 x45 (fun v68 x67 =>
 j34 v68 x67) X))) X)))) X))) X))) 1 x5

def w_X12_worth (l0 : Option Nat) (l1 : Int32) (x : HS) (Q : Int32 → HS → Prop) (_X : String → HS → Prop) : Prop :=
 wGetF x 12 46 l0 fun v1 =>
 wAldJ x 20 v1 l1 fun v2 =>
 wJoin (κ := Int32 → HS → Prop) (fun (v5 : Int32) (x4 : HS) =>
 Q v5 x4) (fun j3 =>
 wIf (v2 = 1)
 (wGetF x 12 50 l0 fun v6 =>
 wGetF x 12 47 l0 fun v7 =>
 wAldJ x 20 v7 l1 fun v8 =>
 wAldJ x 20 v6 v8 fun v9 =>
 j3 v9 x)
 (wGetF x 12 47 l0 fun v10 =>
 wAldJ x 20 v10 l1 fun v11 =>
 j3 v11 x))

def w_X12_isOne (l0 : Option Nat) (l1 : Int32) (l2 : Int32) (x : HS) (Q : Int32 → HS → Prop) (_X : String → HS → Prop) : Prop :=
 wGetF x 12 4 l0 fun v1 =>
 wGetF x 12 45 l0 fun v2 =>
 wAldJ x 20 v2 l1 fun v3 =>
 wAldJ x 20 v1 v3 fun v4 =>
 wLoop (σ := Int32) (fun v8 x7 again5 =>
 wIf (v4 ≤ v8)
 (wBit 1 (Q 1 x7))
 (wLoop (σ := Int32 × Int32) (fun v12 x11 again9 =>
 wIf (v12.1 ≤ v12.2)
 (again5 (v12.1 + 1) x11)
 (wGetF x11 12 46 l0 fun v13 =>
 wAldJ x11 20 v13 (((5 : Int32) * l1) + v12.1) fun v14 =>
 wJoin (κ := HS → Prop) (fun  (x16 : HS) =>
 again9 (v12.1, (v12.2 + 1)) x16) (fun j15 =>
 wIf (v14 = 1)
 (wGetF x11 12 46 l0 fun v17 =>
 wAldJ x11 20 v17 (((5 : Int32) * l1) + v12.2) fun v18 =>
 wIf (v18 = 1)
 (wGetF x11 12 47 l0 fun v19 =>
 wAldJ x11 20 v19 (((5 : Int32) * l1) + v12.1) fun v20 =>
 wGetF x11 12 47 l0 fun v21 =>
 wAldJ x11 20 v21 (((5 : Int32) * l1) + v12.2) fun v22 =>
 wIf (v20 = v22)
 (wGetF x11 12 13 l0 fun v23 =>
 wAldJ x11 20 v23 (((4 : Int32) * l2) + v12.1) fun v24 =>
 wGetF x11 12 13 l0 fun v25 =>
 wAldJ x11 20 v25 (((4 : Int32) * l2) + v12.2) fun v26 =>
 wIf (v24 = v26)
 (j15 x11)
 (wBit 0 (Q 0 x11)))
 (j15 x11))
 (j15 x11))
 (j15 x11)))) (v8, 0) x7)) 0 x

def w_X12_match (l0 : Option Nat) (l1 : Int32) (l2 : Int32) (l3 : Int32) (x : HS) (Q : Int32 → HS → Prop) (X : String → HS → Prop) : Prop :=
 wGetF x 12 45 l0 fun v1 =>
 wAldJ x 20 v1 l1 fun v2 =>
 wLoop (σ := Int32 × Int32) (fun v6 x5 again3 =>
 wGetF x5 12 4 l0 fun v7 =>
 wAldJ x5 20 v7 v2 fun v8 =>
 wIf (v8 ≤ v6.2)
 (wGetF x5 12 52 l0 fun v9 =>
 wRecv x5 12 l0
 (w_X12_seek l0 v2 l2 v6.1 l3 v9 0 x5 (fun v11 x10 =>
 wLoop (σ := Int32) (fun v15 x14 again12 =>
 wJoin (κ := HS → Prop) (fun  (x17 : HS) =>
 Q v15 x17) (fun j16 =>
 wIf (v15 < 0)
 (j16 x14)
 (wRecv x14 12 l0
 (w_X12_isOne l0 l1 v15 x14 (fun v19 x18 =>
 wIf (v19 = 0)
 (wGetI x18 12 38 l0 fun v20 =>
 wJoin (κ := Int32 → HS → Prop) (fun (v23 : Int32) (x22 : HS) =>
 again12 v23 x22) (fun j21 =>
 wIf (v20 ≤ 50000)
 (wGetF x18 12 18 l0 fun v24 =>
 wAldJ x18 20 v24 v15 fun v25 =>
 wGetF x18 12 52 l0 fun v26 =>
 wRecv x18 12 l0
 (w_X12_seek l0 v2 v25 v6.1 l3 v26 0 x18 (fun v28 x27 =>
 j21 v28 x27) X))
 (j21 (-1) x18)))
 (j16 x18)) X)))) v11 x10) X))
 (wGetF x5 12 46 l0 fun v29 =>
 wAldJ x5 20 v29 (((5 : Int32) * l1) + v6.2) fun v30 =>
 wJoin (κ := Int32 → HS → Prop) (fun (v33 : Int32) (x32 : HS) =>
 again3 (v33, (v6.2 + 1)) x32) (fun j31 =>
 wIf (v30 = 2)
 (j31 v6.1 x5)
 (wRecv x5 12 l0
 (w_X12_isKnown l0 l1 (((5 : Int32) * l1) + v6.2) x5 (fun v35 x34 =>
 wIf (v35 = 0)
 (j31 v6.1 x34)
 (wGetF x34 12 52 l0 fun v36 =>
 wRecv x34 12 l0
 (w_X12_worth l0 (((5 : Int32) * l1) + v6.2) x34 (fun v38 x37 =>
 wAstI x37 v36 v6.2 v38 fun x39 =>
 j31 (v6.1 ||| ((1 : Int32) <<< (v6.2 &&& 31))) x39) X))) X))))) (0, 0) x

def w_X12_give (l0 : Option Nat) (l1 : Int32) (l2 : Int32) (x : HS) (Q : HS → Prop) (_X : String → HS → Prop) : Prop :=
 wGetF x 12 4 l0 fun v1 =>
 wGetF x 12 45 l0 fun v2 =>
 wAldJ x 20 v2 l1 fun v3 =>
 wAldJ x 20 v1 v3 fun v4 =>
 wLoop (σ := Int32) (fun v8 x7 again5 =>
 wIf (v4 ≤ v8)
 (Q x7)
 (wGetF x7 12 46 l0 fun v9 =>
 wAldJ x7 20 v9 (((5 : Int32) * l1) + v8) fun v10 =>
 wJoin (κ := HS → Prop) (fun  (x12 : HS) =>
 again5 (v8 + 1) x12) (fun j11 =>
 wIf (v10 = 1)
 (wGetF x7 12 50 l0 fun v13 =>
 wGetF x7 12 47 l0 fun v14 =>
 wAldJ x7 20 v14 (((5 : Int32) * l1) + v8) fun v15 =>
 wGetF x7 12 13 l0 fun v16 =>
 wAldJ x7 20 v16 (((4 : Int32) * l2) + v8) fun v17 =>
 wAstI x7 v13 v15 v17 fun x18 =>
 j11 x18)
 (j11 x7)))) 0 x

def w_X12_holds (l0 : Option Nat) (l1 : Int32) (l2 : Int32) (x : HS) (Q : Int32 → HS → Prop) (X : String → HS → Prop) : Prop :=
 wGetF x 12 44 l0 fun v1 =>
 wAldJ x 20 v1 l1 fun v2 =>
 wIf (v2 = 1)
 (wGetF x 12 7 l0 fun v3 =>
 wGetF x 12 45 l0 fun v4 =>
 wAldJ x 20 v4 l1 fun v5 =>
 wAldJ x 20 v3 v5 fun v6 =>
 wRecv x 12 l0
 (w_X12_match l0 l1 v6 l2 x (fun v8 x7 =>
 wJoin (κ := Int32 → HS → Prop) (fun (v11 : Int32) (x10 : HS) =>
 wBit v11 (Q v11 x10)) (fun j9 =>
 wIf (0 ≤ v8)
 (j9 0 x7)
 (j9 1 x7))) X))
 (wRecv x 12 l0
 (w_X12_worth l0 ((5 : Int32) * l1) x (fun v13 x12 =>
 wRecv x12 12 l0
 (w_X12_worth l0 (((5 : Int32) * l1) + 1) x12 (fun v15 x14 =>
 wGetF x14 12 44 l0 fun v16 =>
 wAldJ x14 20 v16 l1 fun v17 =>
 wIf (v17 = 2)
 (wJoin (κ := Int32 → HS → Prop) (fun (v20 : Int32) (x19 : HS) =>
 wBit v20 (Q v20 x19)) (fun j18 =>
 wIf (v15 ≤ v13)
 (j18 0 x14)
 (j18 1 x14)))
 (wGetF x14 12 44 l0 fun v21 =>
 wAldJ x14 20 v21 l1 fun v22 =>
 wIf (v22 = 3)
 (wJoin (κ := Int32 → HS → Prop) (fun (v25 : Int32) (x24 : HS) =>
 wBit v25 (Q v25 x24)) (fun j23 =>
 wIf (v13 = v15)
 (j23 1 x14)
 (j23 0 x14)))
 (wGetF x14 12 44 l0 fun v26 =>
 wAldJ x14 20 v26 l1 fun v27 =>
 wIf (v27 = 4)
 (wJoin (κ := Int32 → HS → Prop) (fun (v30 : Int32) (x29 : HS) =>
 wBit v30 (Q v30 x29)) (fun j28 =>
 wIf (v13 = v15)
 (j28 0 x14)
 (j28 1 x14)))
 (wRecv x14 12 l0
 (w_X12_worth l0 (((5 : Int32) * l1) + 2) x14 (fun v32 x31 =>
 wGetF x31 12 50 l0 fun v33 =>
 wGetF x31 12 47 l0 fun v34 =>
 wAldJ x31 20 v34 ((5 : Int32) * l1) fun v35 =>
 wGetF x31 12 44 l0 fun v36 =>
 wAldJ x31 20 v36 l1 fun v37 =>
 wJoin (κ := Int32 → HS → Prop) (fun (v40 : Int32) (x39 : HS) =>
 wAstI x39 v33 v35 v40 fun x41 =>
 wBit 1 (Q 1 x41)) (fun j38 =>
 wIf (v37 = 5)
 (j38 (v15 + v32) x31)
 (wGetF x31 12 44 l0 fun v42 =>
 wAldJ x31 20 v42 l1 fun v43 =>
 wIf (v43 = 6)
 (j38 (v15 - v32) x31)
 (j38 (v15 * v32) x31)))) X))))) X)) X))

def w_X12_solve (l0 : Option Nat) (l1 : Int32) (x : HS) (Q : Int32 → HS → Prop) (X : String → HS → Prop) : Prop :=
 wLoop (σ := Int32 × Int32 × Int32) (fun v4 x3 again1 =>
 wJoin (κ := HS → Prop) (fun  (x6 : HS) =>
 Q v4.1 x6) (fun j5 =>
 wIf (v4.2.1 < 0)
 (j5 x3)
 (wGetI x3 12 38 l0 fun v7 =>
 wIf (50000 < v7)
 (j5 x3)
 (wGetI x3 12 49 l0 fun v8 =>
 wIf (v4.2.1 = v8)
 (wLoop (σ := Int32 × Int32 × Int32) (fun v12 x11 again9 =>
 wJoin (κ := HS → Prop) (fun  (x14 : HS) =>
 again1 ((v12.1 + 1), (v12.2.1 + (-1)), 1) x14) (fun j13 =>
 wIf (8 ≤ v12.2.2)
 (j13 x11)
 (wIf (100 ≤ v12.1)
 (j13 x11)
 (wGetF x11 12 54 l0 fun v15 =>
 wGetF x11 12 50 l0 fun v16 =>
 wAldJ x11 20 v16 v12.2.2 fun v17 =>
 wAstI x11 v15 (((8 : Int32) * v12.1) + v12.2.2) v17 fun x18 =>
 again9 (v12.1, v12.2.1, (v12.2.2 + 1)) x18)))) (v4.1, v4.2.1, 0) x3)
 (wGetF x3 12 44 l0 fun v19 =>
 wAldJ x3 20 v19 v4.2.1 fun v20 =>
 wIf (v20 = 0)
 (wJoin (κ := Int32 → HS → Prop) (fun (v23 : Int32) (x22 : HS) =>
 wRecv x22 12 l0
 (w_X12_match l0 v4.2.1 v23 l1 x22 (fun v25 x24 =>
 wJoin (κ := Int32 → HS → Prop) (fun (v28 : Int32) (x27 : HS) =>
 wJoin (κ := Int32 → HS → Prop) (fun (v31 : Int32) (x30 : HS) =>
 again1 (v4.1, v31, v28) x30) (fun j29 =>
 wIf (v28 = 0)
 (wGetF x27 12 51 l0 fun v32 =>
 wAstI x27 v32 v4.2.1 v25 fun x33 =>
 wRecv x33 12 l0
 (w_X12_give l0 v4.2.1 v25 x33 (fun x34 =>
 j29 (v4.2.1 + 1) x34) X))
 (j29 (v4.2.1 + (-1)) x27))) (fun j26 =>
 wIf (0 ≤ v25)
 (j26 0 x24)
 (j26 1 x24))) X)) (fun j21 =>
 wIf (v4.2.2 = 0)
 (wGetF x3 12 7 l0 fun v36 =>
 wGetF x3 12 45 l0 fun v37 =>
 wAldJ x3 20 v37 v4.2.1 fun v38 =>
 wAldJ x3 20 v36 v38 fun v39 =>
 j21 v39 x3)
 (wGetF x3 12 18 l0 fun v40 =>
 wGetF x3 12 51 l0 fun v41 =>
 wAldJ x3 20 v41 v4.2.1 fun v42 =>
 wAldJ x3 20 v40 v42 fun v43 =>
 j21 v43 x3)))
 (wJoin (κ := Int32 → HS → Prop) (fun (v46 : Int32) (x45 : HS) =>
 wJoin (κ := Int32 → HS → Prop) (fun (v49 : Int32) (x48 : HS) =>
 again1 (v4.1, (v4.2.1 + v49), v46) x48) (fun j47 =>
 wIf (v46 = 0)
 (j47 1 x45)
 (j47 (-1) x45))) (fun j44 =>
 wJoin (κ := HS → Prop) (fun  (x51 : HS) =>
 j44 1 x51) (fun j50 =>
 wIf (v4.2.2 = 0)
 (wRecv x3 12 l0
 (w_X12_holds l0 v4.2.1 l1 x3 (fun v53 x52 =>
 wIf (v53 = 0)
 (j50 x52)
 (j44 0 x52)) X))
 (j50 x3))))))))) (0, 0, 0) x

def w_X12_question (l0 : Option Nat) (l1 : Int32) (x : HS) (Q : Int32 → HS → Prop) (X : String → HS → Prop) : Prop :=
 wGetI x 12 2 l0 fun v1 =>
 wPutI x 12 2 l0 0 fun x2 =>
 wPutI x2 12 42 l0 (-1) fun x3 =>
 wRecv x3 12 l0
 (w_X12_isTime l0 l1 x3 (fun v5 x4 =>
 wJoin (κ := Int32 → HS → Prop) (fun (v8 : Int32) (x7 : HS) =>
 wRecv x7 12 l0
 (w_X12_fails l0 v8 x7 (fun v10 x9 =>
 wIf (v10 = 0)
 (wRecv x9 12 l0
 (w_X12_isQuestion l0 v1 x9 (fun v12 x11 =>
 wJoin (κ := Int32 → HS → Prop) (fun (v15 : Int32) (x14 : HS) =>
 wRecv x14 12 l0
 (w_X12_fails l0 v15 x14 (fun v17 x16 =>
 wIf (v17 = 0)
 (wPutI x16 12 38 l0 0 fun x18 =>
 wPutZ x18 12 39 l0 1 fun x19 =>
 wRecv x19 12 l0
 (w_X12_timeOf l0 l1 x19 (fun v21 x20 =>
 wRecv x20 12 l0
 (w_X12_solve l0 v21 x20 (fun v23 x22 =>
 wPutZ x22 12 39 l0 0 fun x24 =>
 wGetI x24 12 38 l0 fun v25 =>
 wIf (v25 ≤ 50000)
 (wPutI x24 12 55 l0 v23 fun x26 =>
 wGetF x26 12 48 l0 fun v27 =>
 wGetI x26 12 49 l0 fun v28 =>
 wAldJ x26 20 v27 v28 fun v29 =>
 wPutI x26 12 56 l0 v29 fun x30 =>
 wLoop (σ := Int32) (fun v34 x33 again31 =>
 wIf (800 ≤ v34)
 (Q v23 x33)
 (wGetF x33 12 53 l0 fun v35 =>
 wGetF x33 12 54 l0 fun v36 =>
 wAldJ x33 20 v36 v34 fun v37 =>
 wAstI x33 v35 v34 v37 fun x38 =>
 again31 (v34 + 1) x38)) 0 x30)
 (wPutI x24 12 38 l0 50001 fun x39 =>
 wPutI x39 12 0 l0 3 fun x40 =>
 Q 0 x40)) X)) X))
 (Q 0 x16)) X)) (fun j13 =>
 wIf (v12 = 0)
 (j13 2 x11)
 (j13 0 x11))) X))
 (Q 0 x9)) X)) (fun j6 =>
 wIf (v5 = 0)
 (j6 1 x4)
 (j6 0 x4))) X)

def w_X12_solution (l0 : Option Nat) (l1 : Int32) (l2 : Int32) (x : HS) (Q : Int32 → HS → Prop) (X : String → HS → Prop) : Prop :=
 wJoin (κ := Int32 → HS → Prop) (fun (v3 : Int32) (x2 : HS) =>
 wRecv x2 12 l0
 (w_X12_fails l0 v3 x2 (fun v5 x4 =>
 wIf (v5 = 0)
 (wGetF x4 12 53 l0 fun v6 =>
 wAldJ x4 20 v6 (((8 : Int32) * l1) + l2) fun v7 =>
 Q v7 x4)
 (Q 0 x4)) X)) (fun j1 =>
 wJoin (κ := HS → Prop) (fun  (x9 : HS) =>
 j1 1 x9) (fun j8 =>
 wIf (l2 < 0)
 (j8 x)
 (wIf (l2 ≤ 7)
 (wJoin (κ := HS → Prop) (fun  (x11 : HS) =>
 j1 2 x11) (fun j10 =>
 wIf (l1 < 0)
 (j10 x)
 (wGetI x 12 55 l0 fun v12 =>
 wIf (v12 ≤ l1)
 (j10 x)
 (wIf (100 ≤ l1)
 (j10 x)
 (wGetI x 12 56 l0 fun v13 =>
 wIf (((v13 >>> (l2 &&& 31)) &&& 1) = 0)
 (j10 x)
 (j1 0 x))))))
 (j8 x))))

def w_X12_count (l0 : Option Nat) (l1 : Int32) (x : HS) (Q : Int32 → HS → Prop) (X : String → HS → Prop) : Prop :=
 wJoin (κ := Int32 → HS → Prop) (fun (v3 : Int32) (x2 : HS) =>
 wRecv x2 12 l0
 (w_X12_fails l0 v3 x2 (fun v5 x4 =>
 wIf (v5 = 0)
 (wIf (l1 = 0)
 (wGetI x4 12 2 l0 fun v6 =>
 Q v6 x4)
 (wIf (l1 = 1)
 (wGetI x4 12 10 l0 fun v7 =>
 Q v7 x4)
 (wIf (l1 = 2)
 (wGetI x4 12 22 l0 fun v8 =>
 Q v8 x4)
 (wIf (l1 = 3)
 (wGetI x4 12 20 l0 fun v9 =>
 Q v9 x4)
 (wIf (l1 = 4)
 (wGetI x4 12 23 l0 fun v10 =>
 Q v10 x4)
 (wIf (l1 = 5)
 (wGetI x4 12 38 l0 fun v11 =>
 Q v11 x4)
 (wIf (l1 = 6)
 (wGetI x4 12 42 l0 fun v12 =>
 Q v12 x4)
 (wIf (l1 = 7)
 (wLoop (σ := Int32 × Int32) (fun v16 x15 again13 =>
 wIf (10 ≤ v16.2)
 (Q v16.1 x15)
 (wGetF x15 12 28 l0 fun v17 =>
 wAldJ x15 22 v17 v16.2 fun v18 =>
 wJoin (κ := Int32 → HS → Prop) (fun (v21 : Int32) (x20 : HS) =>
 again13 (v21, (v16.2 + 1)) x20) (fun j19 =>
 wIf (v18 = 0)
 (j19 v16.1 x15)
 (j19 (v16.1 + 1) x15)))) (0, 0) x4)
 (wIf (l1 = 8)
 (wGetI x4 12 27 l0 fun v22 =>
 Q v22 x4)
 (wIf (l1 = 9)
 (wLoop (σ := Int32 × Int32) (fun v26 x25 again23 =>
 wIf (8 ≤ v26.2)
 (Q v26.1 x25)
 (wGetI x25 12 56 l0 fun v27 =>
 again23 ((v26.1 + ((v27 >>> (v26.2 &&& 31)) &&& 1)), (v26.2 + 1)) x25)) (0, 0) x4)
 (wRecv x4 12 l0
 (w_X12_isTable l0 (l1 - 10) x4 (fun v29 x28 =>
 wIf (v29 = 0)
 (Q (-1) x28)
 (wGetF x28 12 7 l0 fun v30 =>
 wAldJ x28 20 v30 (l1 - 10) fun v31 =>
 wLoop (σ := Int32 × Int32) (fun v35 x34 again32 =>
 wIf (v35.2 < 0)
 (Q v35.1 x34)
 (wGetI x34 12 22 l0 fun v36 =>
 wRecv x34 12 l0
 (w_X12_isThere l0 v35.2 v36 x34 (fun v38 x37 =>
 wJoin (κ := Int32 → HS → Prop) (fun (v41 : Int32) (x40 : HS) =>
 wGetF x40 12 18 l0 fun v42 =>
 wAldJ x40 20 v42 v35.2 fun v43 =>
 again32 (v41, v43) x40) (fun j39 =>
 wIf (v38 = 0)
 (j39 v35.1 x37)
 (j39 (v35.1 + 1) x37))) X))) (0, v31) x28)) X))))))))))))
 (Q 0 x4)) X)) (fun j1 =>
 wJoin (κ := HS → Prop) (fun  (x45 : HS) =>
 j1 1 x45) (fun j44 =>
 wIf (l1 < 0)
 (j44 x)
 (wJoin (κ := HS → Prop) (fun  (x47 : HS) =>
 wIf (l1 ≤ 21)
 (j1 0 x47)
 (j44 x47)) (fun j46 =>
 wIf (l1 ≤ 9)
 (j46 x)
 (wIf (l1 < 10)
 (j44 x)
 (j46 x))))))
