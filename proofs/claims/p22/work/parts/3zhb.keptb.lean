set_option linter.unusedVariables false
/-! what the calls leave of the solutions: laid by wip/sim/v3/frk.py -/
section HB1
variable {x0 : HS} {K : Nat}
theorem fk_X0_init {l0 : Option Nat} {l1 : Int32} {l2 : Int32} {l3 : Option Nat} {x : HS} {Q Q' : HS → Prop} {X X' : String → HS → Prop} (hQ : ∀ u, (Vs K x0) u → Q u → Q' u) (hx : (Vs K x0) x) : w_X0_init l0 l1 l2 l3 x Q X → w_X0_init l0 l1 l2 l3 x Q' X' := by
  unfold w_X0_init
  refine q_ref ?_
  refine vk_putI (by decide) hx (fun x1 h1 => ?_)
  refine vk_putI (by decide) h1 (fun x2 h2 => ?_)
  refine vk_putF (by decide) (by decide) (by decide) h2 (fun x3 h3 => ?_)
  exact hQ _ h3
theorem fk_X0_putAhead {l0 : Option Nat} {l1 : Option Nat} {x : HS} {Q Q' : HS → Prop} {X X' : String → HS → Prop} (hQ : ∀ u, (Vs K x0) u → Q u → Q' u) (hx : (Vs K x0) x) : w_X0_putAhead l0 l1 x Q X → w_X0_putAhead l0 l1 x Q' X' := by
  unfold w_X0_putAhead
  refine q_getF (fun _ => ?_)
  refine q_getI (fun _ => ?_)
  refine q_getF (fun _ => ?_)
  refine vk_astG (by decide) hx (fun x4 h1 => ?_)
  refine vk_putF (by decide) (by decide) (by decide) h1 (fun x5 h2 => ?_)
  refine q_getF (fun _ => ?_)
  refine q_join0 (P := (Vs K x0)) (fun y3 h3 => ?_) (fun _ _ k3 => ?_)
  · skip
    exact hQ _ h3
  · skip
    refine q_if ?_ ?_
    · skip
      refine vk_putF (by decide) (by decide) (by decide) h2 (fun x9 h4 => ?_)
      exact k3 _ h4
    · skip
      exact k3 _ h2
theorem fk_X0_putAfter {l0 : Option Nat} {l1 : Option Nat} {l2 : Option Nat} {x : HS} {Q Q' : HS → Prop} {X X' : String → HS → Prop} (hQ : ∀ u, (Vs K x0) u → Q u → Q' u) (hx : (Vs K x0) x) : w_X0_putAfter l0 l1 l2 x Q X → w_X0_putAfter l0 l1 l2 x Q' X' := by
  unfold w_X0_putAfter
  refine q_getF (fun _ => ?_)
  refine q_getI (fun _ => ?_)
  refine q_getF (fun _ => ?_)
  refine q_getI (fun _ => ?_)
  refine q_aldG (fun _ => ?_)
  refine vk_astG (by decide) hx (fun x6 h1 => ?_)
  refine q_getF (fun _ => ?_)
  refine q_getI (fun _ => ?_)
  refine vk_astG (by decide) h1 (fun x9 h2 => ?_)
  refine q_getF (fun _ => ?_)
  refine q_join0 (P := (Vs K x0)) (fun y3 h3 => ?_) (fun _ _ k3 => ?_)
  · skip
    exact hQ _ h3
  · skip
    refine q_if ?_ ?_
    · skip
      refine vk_putF (by decide) (by decide) (by decide) h2 (fun x13 h4 => ?_)
      exact k3 _ h4
    · skip
      exact k3 _ h2
theorem fk_X0_putBehind {l0 : Option Nat} {l1 : Option Nat} {x : HS} {Q Q' : HS → Prop} {X X' : String → HS → Prop} (hQ : ∀ u, (Vs K x0) u → Q u → Q' u) (hx : (Vs K x0) x) : w_X0_putBehind l0 l1 x Q X → w_X0_putBehind l0 l1 x Q' X' := by
  unfold w_X0_putBehind
  refine q_getF (fun _ => ?_)
  refine q_join0 (P := (Vs K x0)) (fun y1 h1 => ?_) (fun _ _ k1 => ?_)
  · skip
    exact hQ _ h1
  · skip
    refine q_if ?_ ?_
    · skip
      refine q_recv ?_
      refine fk_X0_putAhead (fun  y2 h2 => ?_) hx
      exact k1 _ h2
    · skip
      refine q_getF (fun _ => ?_)
      refine q_recv ?_
      refine fk_X0_putAfter (fun  y3 h3 => ?_) hx
      exact k1 _ h3
theorem fk_X0_empty {l0 : Option Nat} {x : HS} {Q Q' : HS → Prop} {X X' : String → HS → Prop} (hQ : ∀ u, (Vs K x0) u → Q u → Q' u) (hx : (Vs K x0) x) : w_X0_empty l0 x Q X → w_X0_empty l0 x Q' X' := by
  unfold w_X0_empty
  refine vk_putF (by decide) (by decide) (by decide) hx (fun x1 h1 => ?_)
  refine vk_putF (by decide) (by decide) (by decide) h1 (fun x2 h2 => ?_)
  exact hQ _ h2
theorem fk_X0_factsAhead {l0 : Option Nat} {l1 : Option Nat} {x : HS} {Q Q' : Int32 → HS → Prop} {X X' : String → HS → Prop} (hQ : ∀ r u, (Vs K x0) u → Q r u → Q' r u) (hx : (Vs K x0) x) : w_X0_factsAhead l0 l1 x Q X → w_X0_factsAhead l0 l1 x Q' X' := by
  unfold w_X0_factsAhead
  refine q_getF (fun _ => ?_)
  refine q_loop (P := (Vs K x0)) hx (fun v5 x4 _ _ h1 k1 => ?_)
  refine q_join0 (P := (Vs K x0)) (fun y2 h2 => ?_) (fun _ _ k2 => ?_)
  · skip
    exact hQ _ _ h2
  · skip
    refine q_if ?_ ?_
    · skip
      exact k2 _ h1
    · skip
      refine q_if ?_ ?_
      · skip
        exact k2 _ h1
      · skip
        refine q_getF (fun _ => ?_)
        refine q_getI (fun _ => ?_)
        refine q_aldG (fun _ => ?_)
        exact k1 _ _ h1
theorem fk_X1_init {l0 : Option Nat} {x : HS} {Q Q' : HS → Prop} {X X' : String → HS → Prop} (hQ : ∀ u, (Vs K x0) u → Q u → Q' u) (hx : (Vs K x0) x) : w_X1_init l0 x Q X → w_X1_init l0 x Q' X' := by
  unfold w_X1_init
  refine q_ref ?_
  refine vk_newJ (by decide) hx (fun q1 x2 h1 n1 => ?_)
  refine vk_putFA (by decide) (by decide) n1 h1 (fun x3 h2 => ?_)
  refine vk_newG (by decide) h2 (fun q4 x5 h3 => ?_)
  refine vk_putF (by decide) (by decide) (by decide) h3 (fun x6 h4 => ?_)
  exact hQ _ h4
theorem fk_X1_isThere {l0 : Option Nat} {l1 : Int32} {x : HS} {Q Q' : Int32 → HS → Prop} {X X' : String → HS → Prop} (hQ : ∀ r u, (Vs K x0) u → Q r u → Q' r u) (hx : (Vs K x0) x) : w_X1_isThere l0 l1 x Q X → w_X1_isThere l0 l1 x Q' X' := by
  unfold w_X1_isThere
  refine q_getI (fun _ => ?_)
  refine q_join1 (P := (Vs K x0)) (fun _ y1 h1 => ?_) (fun _ _ k1 => ?_)
  · skip
    refine q_bit ?_
    exact hQ _ _ h1
  · skip
    refine q_join0 (P := (Vs K x0)) (fun y2 h2 => ?_) (fun _ _ k2 => ?_)
    · skip
      exact k1 _ _ h2
    · skip
      refine q_if ?_ ?_
      · skip
        exact k2 _ hx
      · skip
        refine q_getI (fun _ => ?_)
        refine q_join0 (P := (Vs K x0)) (fun y3 h3 => ?_) (fun _ _ k3 => ?_)
        · skip
          exact k1 _ _ h3
        · skip
          refine q_if ?_ ?_
          · skip
            exact k3 _ hx
          · skip
            refine q_getI (fun _ => ?_)
            refine q_if ?_ ?_
            · skip
              exact k2 _ hx
            · skip
              exact k3 _ hx
theorem fk_X1_isThereNow {l0 : Option Nat} {x : HS} {Q Q' : Int32 → HS → Prop} {X X' : String → HS → Prop} (hQ : ∀ r u, (Vs K x0) u → Q r u → Q' r u) (hx : (Vs K x0) x) : w_X1_isThereNow l0 x Q X → w_X1_isThereNow l0 x Q' X' := by
  unfold w_X1_isThereNow
  refine q_getI (fun _ => ?_)
  refine q_join1 (P := (Vs K x0)) (fun _ y1 h1 => ?_) (fun _ _ k1 => ?_)
  · skip
    refine q_bit ?_
    exact hQ _ _ h1
  · skip
    refine q_if ?_ ?_
    · skip
      exact k1 _ _ hx
    · skip
      exact k1 _ _ hx
theorem fk_X11_isIn {l0 : Int32} {l1 : Int32} {x : HS} {Q Q' : Int32 → HS → Prop} {X X' : String → HS → Prop} (hQ : ∀ r u, (Vs K x0) u → Q r u → Q' r u) (hx : (Vs K x0) x) : w_X11_isIn l0 l1 x Q X → w_X11_isIn l0 l1 x Q' X' := by
  unfold w_X11_isIn
  refine q_join1 (P := (Vs K x0)) (fun _ y1 h1 => ?_) (fun _ _ k1 => ?_)
  · skip
    refine q_bit ?_
    exact hQ _ _ h1
  · skip
    refine q_if ?_ ?_
    · skip
      exact k1 _ _ hx
    · skip
      exact k1 _ _ hx
theorem fk_X1_fits {l0 : Option Nat} {l1 : Int32} {l2 : Option Nat} {x : HS} {Q Q' : Int32 → HS → Prop} {X X' : String → HS → Prop} (hQ : ∀ r u, (Vs K x0) u → Q r u → Q' r u) (hx : (Vs K x0) x) : w_X1_fits l0 l1 l2 x Q X → w_X1_fits l0 l1 l2 x Q' X' := by
  unfold w_X1_fits
  refine q_loop (P := (Vs K x0)) hx (fun v4 x3 _ _ h1 k1 => ?_)
  refine q_if ?_ ?_
  · skip
    refine q_bit ?_
    exact hQ _ _ h1
  · skip
    refine fk_X11_isIn (fun _ y2 h2 => ?_) h1
    refine q_join0 (P := (Vs K x0)) (fun y3 h3 => ?_) (fun _ _ k3 => ?_)
    · skip
      exact k1 _ _ h3
    · skip
      refine q_if ?_ ?_
      · skip
        exact k3 _ h2
      · skip
        refine vk_getA (by decide) h2 (fun _ n4 => ?_)
        refine q_aldJ (fun _ => ?_)
        refine q_aldJ (fun _ => ?_)
        refine q_if ?_ ?_
        · skip
          exact k3 _ h2
        · skip
          refine q_bit ?_
          exact hQ _ _ h2
theorem fk_X3_note {l0 : Option Nat} {l1 : Option Nat} {l2 : Int32} {x : HS} {Q Q' : HS → Prop} {X X' : String → HS → Prop} (hQ : ∀ u, (Vs K x0) u → Q u → Q' u) (hx : (Vs K x0) x) : w_X3_note l0 l1 l2 x Q X → w_X3_note l0 l1 l2 x Q' X' := by
  unfold w_X3_note
  refine q_getI (fun _ => ?_)
  refine q_join0 (P := (Vs K x0)) (fun y1 h1 => ?_) (fun _ _ k1 => ?_)
  · skip
    exact hQ _ h1
  · skip
    refine q_if ?_ ?_
    · skip
      exact k1 _ hx
    · skip
      refine q_getI (fun _ => ?_)
      refine q_getF (fun _ => ?_)
      refine q_len (fun _ => ?_)
      refine q_if ?_ ?_
      · skip
        exact k1 _ hx
      · skip
        refine q_getF (fun _ => ?_)
        refine q_getI (fun _ => ?_)
        refine vk_astG (by decide) hx (fun x9 h2 => ?_)
        refine q_getF (fun _ => ?_)
        refine q_getI (fun _ => ?_)
        refine vk_astZ h2 (fun x12 h3 => ?_)
        refine q_getI (fun _ => ?_)
        refine vk_putI (by decide) h3 (fun x14 h4 => ?_)
        exact k1 _ h4
theorem fk_X3_makeMark {l0 : Option Nat} {x : HS} {Q Q' : Int32 → HS → Prop} {X X' : String → HS → Prop} (hQ : ∀ r u, (Vs K x0) u → Q r u → Q' r u) (hx : (Vs K x0) x) : w_X3_makeMark l0 x Q X → w_X3_makeMark l0 x Q' X' := by
  unfold w_X3_makeMark
  refine q_getI (fun _ => ?_)
  refine q_if ?_ ?_
  · skip
    refine vk_getA (by decide) hx (fun _ n1 => ?_)
    refine q_getI (fun _ => ?_)
    refine q_getI (fun _ => ?_)
    refine vk_astI n1 hx (fun x5 h2 => ?_)
    refine q_getI (fun _ => ?_)
    refine vk_putI (by decide) h2 (fun x7 h3 => ?_)
    refine q_bit ?_
    exact hQ _ _ h3
  · skip
    refine q_bit ?_
    exact hQ _ _ hx
theorem fk_X3_dropMark {l0 : Option Nat} {x : HS} {Q Q' : Int32 → HS → Prop} {X X' : String → HS → Prop} (hQ : ∀ r u, (Vs K x0) u → Q r u → Q' r u) (hx : (Vs K x0) x) : w_X3_dropMark l0 x Q X → w_X3_dropMark l0 x Q' X' := by
  unfold w_X3_dropMark
  refine q_getI (fun _ => ?_)
  refine q_if ?_ ?_
  · skip
    refine q_getI (fun _ => ?_)
    exact hQ _ _ hx
  · skip
    refine q_getI (fun _ => ?_)
    refine vk_putI (by decide) hx (fun x4 h1 => ?_)
    refine vk_getA (by decide) h1 (fun _ n2 => ?_)
    refine q_getI (fun _ => ?_)
    refine q_aldJ (fun _ => ?_)
    exact hQ _ _ h1
theorem fk_X3_goneSinceMark {l0 : Option Nat} {x : HS} {Q Q' : Int32 → HS → Prop} {X X' : String → HS → Prop} (hQ : ∀ r u, (Vs K x0) u → Q r u → Q' r u) (hx : (Vs K x0) x) : w_X3_goneSinceMark l0 x Q X → w_X3_goneSinceMark l0 x Q' X' := by
  unfold w_X3_goneSinceMark
  refine q_getI (fun _ => ?_)
  refine q_join1 (P := (Vs K x0)) (fun _ y1 h1 => ?_) (fun _ _ k1 => ?_)
  · skip
    exact hQ _ _ h1
  · skip
    refine q_if ?_ ?_
    · skip
      exact k1 _ _ hx
    · skip
      refine vk_getA (by decide) hx (fun _ n2 => ?_)
      refine q_getI (fun _ => ?_)
      refine q_aldJ (fun _ => ?_)
      refine q_loop (P := (Vs K x0)) hx (fun v11 x10 _ _ h3 k3 => ?_)
      refine q_getI (fun _ => ?_)
      refine q_if ?_ ?_
      · skip
        exact k1 _ _ h3
      · skip
        refine q_getF (fun _ => ?_)
        refine q_aldJ (fun _ => ?_)
        refine q_join1 (P := (Vs K x0)) (fun _ y4 h4 => ?_) (fun _ _ k4 => ?_)
        · skip
          exact k3 _ _ h4
        · skip
          refine q_if ?_ ?_
          · skip
            exact k4 _ _ h3
          · skip
            exact k4 _ _ h3
theorem fk_X3_forgetWithoutMarks {l0 : Option Nat} {x : HS} {Q Q' : HS → Prop} {X X' : String → HS → Prop} (hQ : ∀ u, (Vs K x0) u → Q u → Q' u) (hx : (Vs K x0) x) : w_X3_forgetWithoutMarks l0 x Q X → w_X3_forgetWithoutMarks l0 x Q' X' := by
  unfold w_X3_forgetWithoutMarks
  refine q_getI (fun _ => ?_)
  refine q_join0 (P := (Vs K x0)) (fun y1 h1 => ?_) (fun _ _ k1 => ?_)
  · skip
    exact hQ _ h1
  · skip
    refine q_if ?_ ?_
    · skip
      refine vk_putI (by decide) hx (fun x4 h2 => ?_)
      exact k1 _ h2
    · skip
      exact k1 _ hx
theorem fk_X4_init {l0 : Option Nat} {l1 : Int32} {x : HS} {Q Q' : HS → Prop} {X X' : String → HS → Prop} (hQ : ∀ u, (Vs K x0) u → Q u → Q' u) (hx : (Vs K x0) x) : w_X4_init l0 l1 x Q X → w_X4_init l0 l1 x Q' X' := by
  unfold w_X4_init
  refine q_ref ?_
  refine vk_newG (by decide) hx (fun q1 x2 h1 => ?_)
  refine vk_putF (by decide) (by decide) (by decide) h1 (fun x3 h2 => ?_)
  refine vk_putI (by decide) h2 (fun x4 h3 => ?_)
  exact hQ _ h3
theorem fk_X4_chainWith {l0 : Option Nat} {l1 : Int32} {x : HS} {Q Q' : Option Nat → HS → Prop} {X X' : String → HS → Prop} (hQ : ∀ r u, (Vs K x0) u → Q r u → Q' r u) (hx : (Vs K x0) x) : w_X4_chainWith l0 l1 x Q X → w_X4_chainWith l0 l1 x Q' X' := by
  unfold w_X4_chainWith
  refine q_getF (fun _ => ?_)
  refine q_aldG (fun _ => ?_)
  refine q_loop (P := (Vs K x0)) hx (fun v6 x5 _ _ h1 k1 => ?_)
  refine q_join0 (P := (Vs K x0)) (fun y2 h2 => ?_) (fun _ _ k2 => ?_)
  · skip
    exact hQ _ _ h2
  · skip
    refine q_if ?_ ?_
    · skip
      exact k2 _ h1
    · skip
      refine q_getI (fun _ => ?_)
      refine q_if ?_ ?_
      · skip
        exact k2 _ h1
      · skip
        refine q_getF (fun _ => ?_)
        exact k1 _ _ h1
theorem fk_X4_chainFor {l0 : Option Nat} {l1 : Option Nat} {x : HS} {Q Q' : Option Nat → HS → Prop} {X X' : String → HS → Prop} (hQ : ∀ r u, (Vs K x0) u → Q r u → Q' r u) (hx : (Vs K x0) x) : w_X4_chainFor l0 l1 x Q X → w_X4_chainFor l0 l1 x Q' X' := by
  unfold w_X4_chainFor
  refine vk_getA (by decide) hx (fun _ n1 => ?_)
  refine q_getI (fun _ => ?_)
  refine q_aldJ (fun _ => ?_)
  refine q_recv ?_
  refine fk_X4_chainWith (fun _ y2 h2 => ?_) hx
  refine q_join1 (P := (Vs K x0)) (fun _ y3 h3 => ?_) (fun _ _ k3 => ?_)
  · skip
    exact hQ _ _ h3
  · skip
    refine q_if ?_ ?_
    · skip
      refine vk_new h2 (fun q9 x10 h4 => ?_)
      refine q_getI (fun _ => ?_)
      refine q_getF (fun _ => ?_)
      refine q_aldG (fun _ => ?_)
      refine fk_X0_init (fun  y5 h5 => ?_) h4
      refine q_getF (fun _ => ?_)
      refine vk_astG (by decide) h5 (fun x17 h6 => ?_)
      exact k3 _ _ h6
    · skip
      exact k3 _ _ h2
theorem fk_X4_empty {l0 : Option Nat} {x : HS} {Q Q' : HS → Prop} {X X' : String → HS → Prop} (hQ : ∀ u, (Vs K x0) u → Q u → Q' u) (hx : (Vs K x0) x) : w_X4_empty l0 x Q X → w_X4_empty l0 x Q' X' := by
  unfold w_X4_empty
  refine q_loop (P := (Vs K x0)) hx (fun v4 x3 _ _ h1 k1 => ?_)
  refine q_if ?_ ?_
  · skip
    exact hQ _ h1
  · skip
    refine q_getF (fun _ => ?_)
    refine q_aldG (fun _ => ?_)
    refine q_loop (P := (Vs K x0)) h1 (fun v10 x9 _ _ h2 k2 => ?_)
    refine q_if ?_ ?_
    · skip
      exact k1 _ _ h2
    · skip
      refine q_recv ?_
      refine fk_X0_empty (fun  y3 h3 => ?_) h2
      refine q_getF (fun _ => ?_)
      exact k2 _ _ h3
theorem fk_X10_allColumns {l0 : Option Nat} {x : HS} {Q Q' : Int32 → HS → Prop} {X X' : String → HS → Prop} (hQ : ∀ r u, (Vs K x0) u → Q r u → Q' r u) (hx : (Vs K x0) x) : w_X10_allColumns l0 x Q X → w_X10_allColumns l0 x Q' X' := by
  unfold w_X10_allColumns
  refine q_getI (fun _ => ?_)
  exact hQ _ _ hx
theorem fk_X5_begin {l0 : Option Nat} {l1 : Option Nat} {l2 : Int32} {l3 : Option Nat} {l4 : Int32} {x : HS} {Q Q' : HS → Prop} {X X' : String → HS → Prop} (hQ : ∀ u, (Vs K x0) u → Q u → Q' u) (hx : (Vs K x0) x) : w_X5_begin l0 l1 l2 l3 l4 x Q X → w_X5_begin l0 l1 l2 l3 l4 x Q' X' := by
  unfold w_X5_begin
  refine vk_putF (by decide) (by decide) (by decide) hx (fun x1 h1 => ?_)
  refine q_recv ?_
  refine fk_X10_allColumns (fun _ y2 h2 => ?_) h1
  refine vk_putI (by decide) h2 (fun x4 h3 => ?_)
  refine vk_putI (by decide) h3 (fun x5 h4 => ?_)
  refine vk_putF (by decide) (by decide) (by decide) h4 (fun x6 h5 => ?_)
  refine vk_putZ (by decide) h5 (fun x7 h6 => ?_)
  refine vk_putI (by decide) h6 (fun x8 h7 => ?_)
  refine vk_putI (by decide) h7 (fun x9 h8 => ?_)
  refine q_loop (P := (Vs K x0)) h8 (fun v13 x12 _ _ h9 k9 => ?_)
  refine q_if ?_ ?_
  · skip
    exact hQ _ h9
  · skip
    refine vk_getA (by decide) h9 (fun _ n10 => ?_)
    refine q_aldJ (fun _ => ?_)
    refine vk_astI n10 h9 (fun x16 h11 => ?_)
    exact k9 _ _ h11
theorem fk_X10_laneFor {l0 : Option Nat} {l1 : Int32} {x : HS} {Q Q' : Int32 → HS → Prop} {X X' : String → HS → Prop} (hQ : ∀ r u, (Vs K x0) u → Q r u → Q' r u) (hx : (Vs K x0) x) : w_X10_laneFor l0 l1 x Q X → w_X10_laneFor l0 l1 x Q' X' := by
  unfold w_X10_laneFor
  refine q_loop (P := (Vs K x0)) hx (fun v4 x3 _ _ h1 k1 => ?_)
  refine q_getI (fun _ => ?_)
  refine q_if ?_ ?_
  · skip
    exact hQ _ _ h1
  · skip
    refine fk_X11_isIn (fun _ y2 h2 => ?_) h1
    refine q_join0 (P := (Vs K x0)) (fun y3 h3 => ?_) (fun _ _ k3 => ?_)
    · skip
      exact k1 _ _ h3
    · skip
      refine q_if ?_ ?_
      · skip
        exact k3 _ h2
      · skip
        refine q_getF (fun _ => ?_)
        refine q_aldG (fun _ => ?_)
        refine q_if ?_ ?_
        · skip
          exact k3 _ h2
        · skip
          exact hQ _ _ h2
theorem fk_X10_firstIn {l0 : Option Nat} {l1 : Int32} {l2 : Option Nat} {x : HS} {Q Q' : Option Nat → HS → Prop} {X X' : String → HS → Prop} (hQ : ∀ r u, (Vs K x0) u → Q r u → Q' r u) (hx : (Vs K x0) x) : w_X10_firstIn l0 l1 l2 x Q X → w_X10_firstIn l0 l1 l2 x Q' X' := by
  unfold w_X10_firstIn
  refine q_join0 (P := (Vs K x0)) (fun y1 h1 => ?_) (fun _ _ k1 => ?_)
  · skip
    refine q_getF (fun _ => ?_)
    refine q_getF (fun _ => ?_)
    exact hQ _ _ h1
  · skip
    refine q_if ?_ ?_
    · skip
      exact k1 _ hx
    · skip
      refine q_if ?_ ?_
      · skip
        exact k1 _ hx
      · skip
        refine q_getF (fun _ => ?_)
        refine q_aldG (fun _ => ?_)
        refine q_if ?_ ?_
        · skip
          exact k1 _ hx
        · skip
          refine q_getF (fun _ => ?_)
          refine q_aldG (fun _ => ?_)
          refine q_aldJ (fun _ => ?_)
          refine q_recv ?_
          refine fk_X4_chainWith (fun _ y2 h2 => ?_) hx
          refine q_join1 (P := (Vs K x0)) (fun _ y3 h3 => ?_) (fun _ _ k3 => ?_)
          · skip
            exact hQ _ _ h3
          · skip
            refine q_if ?_ ?_
            · skip
              exact k3 _ _ h2
            · skip
              refine q_getF (fun _ => ?_)
              exact k3 _ _ h2
theorem fk_X5_advance {l0 : Option Nat} {x : HS} {Q Q' : Option Nat → HS → Prop} {X X' : String → HS → Prop} (hQ : ∀ r u, (Vs K x0) u → Q r u → Q' r u) (hx : (Vs K x0) x) : w_X5_advance l0 x Q X → w_X5_advance l0 x Q' X' := by
  unfold w_X5_advance
  refine q_getI (fun _ => ?_)
  refine q_join0 (P := (Vs K x0)) (fun y1 h1 => ?_) (fun _ _ k1 => ?_)
  · skip
    exact hQ _ _ h1
  · skip
    refine q_if ?_ ?_
    · skip
      refine q_getF (fun _ => ?_)
      refine q_if ?_ ?_
      · skip
        exact k1 _ hx
      · skip
        refine q_getF (fun _ => ?_)
        refine q_getI (fun _ => ?_)
        refine q_recv ?_
        refine fk_X10_laneFor (fun _ y2 h2 => ?_) hx
        refine q_getF (fun _ => ?_)
        refine q_join1 (P := (Vs K x0)) (fun _ y3 h3 => ?_) (fun _ _ k3 => ?_)
        · skip
          refine q_loop (P := (Vs K x0)) h3 (fun v16 x15 _ _ h4 k4 => ?_)
          refine q_if ?_ ?_
          · skip
            refine vk_putZ (by decide) h4 (fun x17 h5 => ?_)
            exact hQ _ _ h5
          · skip
            refine q_getI (fun _ => ?_)
            refine vk_putI (by decide) h4 (fun x19 h6 => ?_)
            refine q_getI (fun _ => ?_)
            refine q_recv ?_
            refine fk_X1_isThere (fun _ y7 h7 => ?_) h6
            refine q_join0 (P := (Vs K x0)) (fun y8 h8 => ?_) (fun _ _ k8 => ?_)
            · skip
              refine q_getF (fun _ => ?_)
              refine q_aldG (fun _ => ?_)
              exact k4 _ _ h8
            · skip
              refine q_if ?_ ?_
              · skip
                exact k8 _ h7
              · skip
                refine q_getI (fun _ => ?_)
                refine vk_getA (by decide) h7 (fun _ n9 => ?_)
                refine q_recv ?_
                refine fk_X1_fits (fun _ y10 h10 => ?_) h7
                refine q_if ?_ ?_
                · skip
                  exact k8 _ h10
                · skip
                  refine vk_putF (by decide) (by decide) (by decide) h10 (fun x31 h11 => ?_)
                  refine q_getI (fun _ => ?_)
                  refine vk_putI (by decide) h11 (fun x33 h12 => ?_)
                  exact hQ _ _ h12
        · skip
          refine q_if ?_ ?_
          · skip
            refine q_getF (fun _ => ?_)
            refine vk_getA (by decide) h2 (fun _ n13 => ?_)
            refine q_recv ?_
            refine fk_X10_firstIn (fun _ y14 h14 => ?_) h2
            exact k3 _ _ h14
          · skip
            refine q_getF (fun _ => ?_)
            refine q_getF (fun _ => ?_)
            refine q_aldG (fun _ => ?_)
            exact k3 _ _ h2
    · skip
      exact k1 _ hx
theorem fk_X5_takeLookedAt {l0 : Option Nat} {x : HS} {Q Q' : Int32 → HS → Prop} {X X' : String → HS → Prop} (hQ : ∀ r u, (Vs K x0) u → Q r u → Q' r u) (hx : (Vs K x0) x) : w_X5_takeLookedAt l0 x Q X → w_X5_takeLookedAt l0 x Q' X' := by
  unfold w_X5_takeLookedAt
  refine q_getI (fun _ => ?_)
  refine vk_putI (by decide) hx (fun x2 h1 => ?_)
  exact hQ _ _ h1
theorem fk_X6_here {l0 : Option Nat} {x : HS} {Q Q' : Int32 → HS → Prop} {X X' : String → HS → Prop} (hQ : ∀ r u, (Vs K x0) u → Q r u → Q' r u) (hx : (Vs K x0) x) : w_X6_here l0 x Q X → w_X6_here l0 x Q' X' := by
  unfold w_X6_here
  refine q_getI (fun _ => ?_)
  refine q_join1 (P := (Vs K x0)) (fun _ y1 h1 => ?_) (fun _ _ k1 => ?_)
  · skip
    exact hQ _ _ h1
  · skip
    refine q_join0 (P := (Vs K x0)) (fun y2 h2 => ?_) (fun _ _ k2 => ?_)
    · skip
      exact k1 _ _ h2
    · skip
      refine q_if ?_ ?_
      · skip
        exact k2 _ hx
      · skip
        refine q_getI (fun _ => ?_)
        refine q_getI (fun _ => ?_)
        refine q_if ?_ ?_
        · skip
          exact k2 _ hx
        · skip
          refine q_getI (fun _ => ?_)
          refine q_getF (fun _ => ?_)
          refine q_len (fun _ => ?_)
          refine q_if ?_ ?_
          · skip
            refine q_getF (fun _ => ?_)
            refine q_getI (fun _ => ?_)
            refine q_aldJ (fun _ => ?_)
            exact k1 _ _ hx
          · skip
            exact k2 _ hx
theorem fk_X6_skipBlanks {l0 : Option Nat} {x : HS} {Q Q' : HS → Prop} {X X' : String → HS → Prop} (hQ : ∀ u, (Vs K x0) u → Q u → Q' u) (hx : (Vs K x0) x) : w_X6_skipBlanks l0 x Q X → w_X6_skipBlanks l0 x Q' X' := by
  unfold w_X6_skipBlanks
  refine q_loop (P := (Vs K x0)) hx (fun v4 x3 _ _ h1 k1 => ?_)
  refine q_getI (fun _ => ?_)
  refine q_getI (fun _ => ?_)
  refine q_join0 (P := (Vs K x0)) (fun y2 h2 => ?_) (fun _ _ k2 => ?_)
  · skip
    exact hQ _ h2
  · skip
    refine q_if ?_ ?_
    · skip
      exact k2 _ h1
    · skip
      refine q_recv ?_
      refine fk_X6_here (fun _ y3 h3 => ?_) h1
      refine q_if ?_ ?_
      · skip
        refine q_getI (fun _ => ?_)
        refine vk_putI (by decide) h3 (fun x12 h4 => ?_)
        exact k1 _ _ h4
      · skip
        exact k2 _ h3
theorem fk_X6_refuse {l0 : Option Nat} {l1 : Int32} {x : HS} {Q Q' : HS → Prop} {X X' : String → HS → Prop} (hQ : ∀ u, (Vs K x0) u → Q u → Q' u) (hX : ∀ e u, (Vs K x0) u → X e u → X' e u) (hx : (Vs K x0) x) : w_X6_refuse l0 l1 x Q X → w_X6_refuse l0 l1 x Q' X' := by
  unfold w_X6_refuse
  refine vk_putI (by decide) hx (fun x1 h1 => ?_)
  exact vk_throw h1 hX
theorem fk_X6_take {l0 : Option Nat} {l1 : Int32} {x : HS} {Q Q' : HS → Prop} {X X' : String → HS → Prop} (hQ : ∀ u, (Vs K x0) u → Q u → Q' u) (hX : ∀ e u, (Vs K x0) u → X e u → X' e u) (hx : (Vs K x0) x) : w_X6_take l0 l1 x Q X → w_X6_take l0 l1 x Q' X' := by
  unfold w_X6_take
  refine q_recv ?_
  refine fk_X6_here (fun _ y1 h1 => ?_) hx
  refine q_join0 (P := (Vs K x0)) (fun y2 h2 => ?_) (fun _ _ k2 => ?_)
  · skip
    refine q_getI (fun _ => ?_)
    refine vk_putI (by decide) h2 (fun x6 h3 => ?_)
    exact hQ _ h3
  · skip
    refine q_if ?_ ?_
    · skip
      exact k2 _ h1
    · skip
      refine q_getI (fun _ => ?_)
      refine q_recv ?_
      refine fk_X6_refuse (fun  y4 h4 => ?_) hX h1
      exact k2 _ h4
theorem fk_X6_readDigits {l0 : Option Nat} {x : HS} {Q Q' : Int32 → HS → Prop} {X X' : String → HS → Prop} (hQ : ∀ r u, (Vs K x0) u → Q r u → Q' r u) (hx : (Vs K x0) x) : w_X6_readDigits l0 x Q X → w_X6_readDigits l0 x Q' X' := by
  unfold w_X6_readDigits
  refine q_loop (P := (Vs K x0)) hx (fun v4 x3 _ _ h1 k1 => ?_)
  refine q_getI (fun _ => ?_)
  refine q_getI (fun _ => ?_)
  refine q_join0 (P := (Vs K x0)) (fun y2 h2 => ?_) (fun _ _ k2 => ?_)
  · skip
    exact hQ _ _ h2
  · skip
    refine q_if ?_ ?_
    · skip
      exact k2 _ h1
    · skip
      refine q_getF (fun _ => ?_)
      refine q_getI (fun _ => ?_)
      refine q_aldJ (fun _ => ?_)
      refine q_if ?_ ?_
      · skip
        exact k2 _ h1
      · skip
        refine q_getF (fun _ => ?_)
        refine q_getI (fun _ => ?_)
        refine q_aldJ (fun _ => ?_)
        refine q_if ?_ ?_
        · skip
          exact k2 _ h1
        · skip
          refine q_getF (fun _ => ?_)
          refine q_getI (fun _ => ?_)
          refine q_aldJ (fun _ => ?_)
          refine q_getI (fun _ => ?_)
          refine vk_putI (by decide) h1 (fun x19 h3 => ?_)
          exact k1 _ _ h3
theorem fk_X9_tableAt {l0 : Option Nat} {l1 : Int32} {x : HS} {Q Q' : Option Nat → HS → Prop} {X X' : String → HS → Prop} (hQ : ∀ r u, (Vs K x0) u → Q r u → Q' r u) (hx : (Vs K x0) x) : w_X9_tableAt l0 l1 x Q X → w_X9_tableAt l0 l1 x Q' X' := by
  unfold w_X9_tableAt
  refine q_join1 (P := (Vs K x0)) (fun _ y1 h1 => ?_) (fun _ _ k1 => ?_)
  · skip
    exact hQ _ _ h1
  · skip
    refine q_join0 (P := (Vs K x0)) (fun y2 h2 => ?_) (fun _ _ k2 => ?_)
    · skip
      exact k1 _ _ h2
    · skip
      refine q_if ?_ ?_
      · skip
        exact k2 _ hx
      · skip
        refine q_getI (fun _ => ?_)
        refine q_if ?_ ?_
        · skip
          refine q_getF (fun _ => ?_)
          refine q_aldG (fun _ => ?_)
          exact k1 _ _ hx
        · skip
          exact k2 _ hx
theorem fk_X6_readTable {l0 : Option Nat} {x : HS} {Q Q' : Option Nat → HS → Prop} {X X' : String → HS → Prop} (hQ : ∀ r u, (Vs K x0) u → Q r u → Q' r u) (hX : ∀ e u, (Vs K x0) u → X e u → X' e u) (hx : (Vs K x0) x) : w_X6_readTable l0 x Q X → w_X6_readTable l0 x Q' X' := by
  unfold w_X6_readTable
  refine q_getI (fun _ => ?_)
  refine q_recv ?_
  refine fk_X6_take (fun  y1 h1 => ?_) hX hx
  refine q_getI (fun _ => ?_)
  refine q_recv ?_
  refine fk_X6_readDigits (fun _ y2 h2 => ?_) h1
  refine q_getI (fun _ => ?_)
  refine q_join0 (P := (Vs K x0)) (fun y3 h3 => ?_) (fun _ _ k3 => ?_)
  · skip
    refine q_getF (fun _ => ?_)
    refine q_recv ?_
    refine fk_X9_tableAt (fun _ y4 h4 => ?_) h3
    refine q_join0 (P := (Vs K x0)) (fun y5 h5 => ?_) (fun _ _ k5 => ?_)
    · skip
      exact hQ _ _ h5
    · skip
      refine q_if ?_ ?_
      · skip
        refine q_recv ?_
        refine fk_X6_refuse (fun  y6 h6 => ?_) hX h4
        exact k5 _ h6
      · skip
        exact k5 _ h4
  · skip
    refine q_join0 (P := (Vs K x0)) (fun y7 h7 => ?_) (fun _ _ k7 => ?_)
    · skip
      refine q_recv ?_
      refine fk_X6_refuse (fun  y8 h8 => ?_) hX h7
      exact k3 _ h8
    · skip
      refine q_if ?_ ?_
      · skip
        exact k7 _ h2
      · skip
        refine q_getI (fun _ => ?_)
        refine q_if ?_ ?_
        · skip
          exact k3 _ h2
        · skip
          exact k7 _ h2
theorem fk_X6_readNumber {l0 : Option Nat} {x : HS} {Q Q' : Int32 → HS → Prop} {X X' : String → HS → Prop} (hQ : ∀ r u, (Vs K x0) u → Q r u → Q' r u) (hX : ∀ e u, (Vs K x0) u → X e u → X' e u) (hx : (Vs K x0) x) : w_X6_readNumber l0 x Q X → w_X6_readNumber l0 x Q' X' := by
  unfold w_X6_readNumber
  refine q_getI (fun _ => ?_)
  refine q_recv ?_
  refine fk_X6_here (fun _ y1 h1 => ?_) hx
  refine q_join1 (P := (Vs K x0)) (fun _ y2 h2 => ?_) (fun _ _ k2 => ?_)
  · skip
    refine q_join0 (P := (Vs K x0)) (fun y3 h3 => ?_) (fun _ _ k3 => ?_)
    · skip
      refine q_getI (fun _ => ?_)
      refine q_recv ?_
      refine fk_X6_readDigits (fun _ y4 h4 => ?_) h3
      refine q_getI (fun _ => ?_)
      refine q_join0 (P := (Vs K x0)) (fun y5 h5 => ?_) (fun _ _ k5 => ?_)
      · skip
        refine q_join1 (P := (Vs K x0)) (fun _ y6 h6 => ?_) (fun _ _ k6 => ?_)
        · skip
          exact hQ _ _ h6
        · skip
          refine q_if ?_ ?_
          · skip
            exact k6 _ _ h5
          · skip
            exact k6 _ _ h5
      · skip
        refine q_join0 (P := (Vs K x0)) (fun y7 h7 => ?_) (fun _ _ k7 => ?_)
        · skip
          refine q_recv ?_
          refine fk_X6_refuse (fun  y8 h8 => ?_) hX h7
          exact k5 _ h8
        · skip
          refine q_if ?_ ?_
          · skip
            exact k7 _ h4
          · skip
            refine q_getI (fun _ => ?_)
            refine q_if ?_ ?_
            · skip
              exact k5 _ h4
            · skip
              exact k7 _ h4
    · skip
      refine q_if ?_ ?_
      · skip
        exact k3 _ h2
      · skip
        refine q_getI (fun _ => ?_)
        refine vk_putI (by decide) h2 (fun x24 h9 => ?_)
        exact k3 _ h9
  · skip
    refine q_if ?_ ?_
    · skip
      exact k2 _ _ h1
    · skip
      exact k2 _ _ h1
theorem fk_X6_readArg {l0 : Option Nat} {l1 : Option Nat} {l2 : Int32} {l3 : Int32} {x : HS} {Q Q' : HS → Prop} {X X' : String → HS → Prop} (hQ : ∀ u, (Vs K x0) u → Q u → Q' u) (hX : ∀ e u, (Vs K x0) u → X e u → X' e u) (hx : (Vs K x0) x) : w_X6_readArg l0 l1 l2 l3 x Q X → w_X6_readArg l0 l1 l2 l3 x Q' X' := by
  unfold w_X6_readArg
  refine q_recv ?_
  refine fk_X6_here (fun _ y1 h1 => ?_) hx
  refine q_join0 (P := (Vs K x0)) (fun y2 h2 => ?_) (fun _ _ k2 => ?_)
  · skip
    exact hQ _ h2
  · skip
    refine q_join0 (P := (Vs K x0)) (fun y3 h3 => ?_) (fun _ _ k3 => ?_)
    · skip
      refine q_join0 (P := (Vs K x0)) (fun y4 h4 => ?_) (fun _ _ k4 => ?_)
      · skip
        refine vk_getA (by decide) h4 (fun _ n5 => ?_)
        refine vk_astI n5 h4 (fun x10 h6 => ?_)
        refine vk_getA (by decide) h6 (fun _ n7 => ?_)
        refine q_recv ?_
        refine fk_X6_readNumber (fun _ y8 h8 => ?_) hX h6
        refine vk_astI n7 h8 (fun x14 h9 => ?_)
        exact k2 _ h9
      · skip
        refine q_if ?_ ?_
        · skip
          refine q_if ?_ ?_
          · skip
            exact k4 _ h3
          · skip
            refine vk_getA (by decide) h3 (fun _ n10 => ?_)
            refine vk_astI n10 h3 (fun x16 h11 => ?_)
            refine q_getI (fun _ => ?_)
            refine vk_putI (by decide) h11 (fun x18 h12 => ?_)
            exact k2 _ h12
        · skip
          exact k4 _ h3
    · skip
      refine q_if ?_ ?_
      · skip
        exact k3 _ h1
      · skip
        refine q_if ?_ ?_
        · skip
          exact k3 _ h1
        · skip
          refine vk_getA (by decide) h1 (fun _ n13 => ?_)
          refine vk_astI n13 h1 (fun x20 h14 => ?_)
          refine vk_getA (by decide) h14 (fun _ n15 => ?_)
          refine vk_astI n15 h14 (fun x22 h16 => ?_)
          refine q_getI (fun _ => ?_)
          refine vk_putI (by decide) h16 (fun x24 h17 => ?_)
          exact k2 _ h17
theorem fk_X6_sortTableArg {l0 : Option Nat} {l1 : Option Nat} {l2 : Int32} {l3 : Int32} {x : HS} {Q Q' : Int32 → HS → Prop} {X X' : String → HS → Prop} (hQ : ∀ r u, (Vs K x0) u → Q r u → Q' r u) (hx : (Vs K x0) x) : w_X6_sortTableArg l0 l1 l2 l3 x Q X → w_X6_sortTableArg l0 l1 l2 l3 x Q' X' := by
  unfold w_X6_sortTableArg
  refine vk_getA (by decide) hx (fun _ n1 => ?_)
  refine q_aldJ (fun _ => ?_)
  refine q_join1 (P := (Vs K x0)) (fun _ y2 h2 => ?_) (fun _ _ k2 => ?_)
  · skip
    refine vk_getA (by decide) h2 (fun _ n3 => ?_)
    refine q_aldJ (fun _ => ?_)
    refine q_join0 (P := (Vs K x0)) (fun y4 h4 => ?_) (fun _ _ k4 => ?_)
    · skip
      exact hQ _ _ h4
    · skip
      refine q_join0 (P := (Vs K x0)) (fun y5 h5 => ?_) (fun _ _ k5 => ?_)
      · skip
        refine q_getI (fun _ => ?_)
        refine vk_putI (by decide) h5 (fun x13 h6 => ?_)
        exact k4 _ h6
      · skip
        refine q_if ?_ ?_
        · skip
          exact k5 _ h2
        · skip
          refine vk_getA (by decide) h2 (fun _ n7 => ?_)
          refine q_aldJ (fun _ => ?_)
          refine q_if ?_ ?_
          · skip
            exact k5 _ h2
          · skip
            exact k4 _ h2
  · skip
    refine q_if ?_ ?_
    · skip
      refine q_getI (fun _ => ?_)
      refine vk_getA (by decide) hx (fun _ n8 => ?_)
      refine q_aldJ (fun _ => ?_)
      refine fk_X11_isIn (fun _ y9 h9 => ?_) hx
      refine q_if ?_ ?_
      · skip
        refine vk_getA (by decide) h9 (fun _ n10 => ?_)
        refine q_aldJ (fun _ => ?_)
        refine fk_X11_isIn (fun _ y11 h11 => ?_) h9
        refine q_if ?_ ?_
        · skip
          refine vk_getA (by decide) h11 (fun _ n12 => ?_)
          refine q_aldJ (fun _ => ?_)
          exact k2 _ _ h11
        · skip
          refine vk_getA (by decide) h11 (fun _ n13 => ?_)
          refine vk_astI n13 h11 (fun x28 h14 => ?_)
          exact k2 _ _ h14
      · skip
        refine vk_getA (by decide) h9 (fun _ n15 => ?_)
        refine vk_astI n15 h9 (fun x30 h16 => ?_)
        exact k2 _ _ h16
    · skip
      exact k2 _ _ hx
theorem fk_X6_refuseArgTooMuch {l0 : Option Nat} {x : HS} {Q Q' : HS → Prop} {X X' : String → HS → Prop} (hQ : ∀ u, (Vs K x0) u → Q u → Q' u) (hX : ∀ e u, (Vs K x0) u → X e u → X' e u) (hx : (Vs K x0) x) : w_X6_refuseArgTooMuch l0 x Q X → w_X6_refuseArgTooMuch l0 x Q' X' := by
  unfold w_X6_refuseArgTooMuch
  refine q_recv ?_
  refine fk_X6_here (fun _ y1 h1 => ?_) hx
  refine q_join0 (P := (Vs K x0)) (fun y2 h2 => ?_) (fun _ _ k2 => ?_)
  · skip
    exact hQ _ h2
  · skip
    refine q_if ?_ ?_
    · skip
      refine q_getI (fun _ => ?_)
      refine vk_putI (by decide) h1 (fun x6 h3 => ?_)
      refine q_recv ?_
      refine fk_X6_skipBlanks (fun  y4 h4 => ?_) h3
      refine q_getI (fun _ => ?_)
      refine q_recv ?_
      refine fk_X6_refuse (fun  y5 h5 => ?_) hX h4
      exact k2 _ h5
    · skip
      exact k2 _ h1
theorem fk_X6_readTableGoal {l0 : Option Nat} {l1 : Option Nat} {x : HS} {Q Q' : HS → Prop} {X X' : String → HS → Prop} (hQ : ∀ u, (Vs K x0) u → Q u → Q' u) (hX : ∀ e u, (Vs K x0) u → X e u → X' e u) (hx : (Vs K x0) x) : w_X6_readTableGoal l0 l1 x Q X → w_X6_readTableGoal l0 l1 x Q' X' := by
  unfold w_X6_readTableGoal
  refine q_recv ?_
  refine fk_X6_here (fun _ y1 h1 => ?_) hx
  refine vk_putI (by decide) h1 (fun x3 h2 => ?_)
  refine q_getI (fun _ => ?_)
  refine q_join0 (P := (Vs K x0)) (fun y3 h3 => ?_) (fun _ _ k3 => ?_)
  · skip
    refine q_recv ?_
    refine fk_X6_readTable (fun _ y4 h4 => ?_) hX h3
    refine vk_putF (by decide) (by decide) (by decide) h4 (fun x9 h5 => ?_)
    refine vk_putI (by decide) h5 (fun x10 h6 => ?_)
    refine q_recv ?_
    refine fk_X6_skipBlanks (fun  y7 h7 => ?_) h6
    refine q_recv ?_
    refine fk_X6_take (fun  y8 h8 => ?_) hX h7
    refine q_loop (P := (Vs K x0)) h8 (fun v18 x17 _ _ h9 k9 => ?_)
    refine q_getF (fun _ => ?_)
    refine q_getI (fun _ => ?_)
    refine q_if ?_ ?_
    · skip
      refine q_recv ?_
      refine fk_X6_refuseArgTooMuch (fun  y10 h10 => ?_) hX h9
      refine q_recv ?_
      refine fk_X6_take (fun  y11 h11 => ?_) hX h10
      refine q_getI (fun _ => ?_)
      refine q_join0 (P := (Vs K x0)) (fun y12 h12 => ?_) (fun _ _ k12 => ?_)
      · skip
        exact hQ _ h12
      · skip
        refine q_if ?_ ?_
        · skip
          refine q_getI (fun _ => ?_)
          refine vk_putI (by decide) h11 (fun x29 h13 => ?_)
          exact k12 _ h13
        · skip
          exact k12 _ h11
    · skip
      refine q_join0 (P := (Vs K x0)) (fun y14 h14 => ?_) (fun _ _ k14 => ?_)
      · skip
        refine q_recv ?_
        refine fk_X6_skipBlanks (fun  y15 h15 => ?_) h14
        refine q_recv ?_
        refine fk_X6_readArg (fun  y16 h16 => ?_) hX h15
        refine q_recv ?_
        refine fk_X6_sortTableArg (fun _ y17 h17 => ?_) h16
        refine q_recv ?_
        refine fk_X6_skipBlanks (fun  y18 h18 => ?_) h17
        exact k9 _ _ h18
      · skip
        refine q_if ?_ ?_
        · skip
          exact k14 _ h9
        · skip
          refine q_recv ?_
          refine fk_X6_take (fun  y19 h19 => ?_) hX h9
          exact k14 _ h19
  · skip
    refine q_if ?_ ?_
    · skip
      refine q_getI (fun _ => ?_)
      refine vk_putI (by decide) h2 (fun x43 h20 => ?_)
      refine q_recv ?_
      refine fk_X6_skipBlanks (fun  y21 h21 => ?_) h20
      exact k3 _ h21
    · skip
      exact k3 _ h2
theorem fk_X6_requireKnown {l0 : Option Nat} {l1 : Option Nat} {l2 : Int32} {l3 : Int32} {x : HS} {Q Q' : HS → Prop} {X X' : String → HS → Prop} (hQ : ∀ u, (Vs K x0) u → Q u → Q' u) (hX : ∀ e u, (Vs K x0) u → X e u → X' e u) (hx : (Vs K x0) x) : w_X6_requireKnown l0 l1 l2 l3 x Q X → w_X6_requireKnown l0 l1 l2 l3 x Q' X' := by
  unfold w_X6_requireKnown
  refine vk_getA (by decide) hx (fun _ n1 => ?_)
  refine q_aldJ (fun _ => ?_)
  refine q_join0 (P := (Vs K x0)) (fun y2 h2 => ?_) (fun _ _ k2 => ?_)
  · skip
    exact hQ _ h2
  · skip
    refine q_if ?_ ?_
    · skip
      refine q_getI (fun _ => ?_)
      refine vk_getA (by decide) hx (fun _ n3 => ?_)
      refine q_aldJ (fun _ => ?_)
      refine fk_X11_isIn (fun _ y4 h4 => ?_) hx
      refine q_join0 (P := (Vs K x0)) (fun y5 h5 => ?_) (fun _ _ k5 => ?_)
      · skip
        refine vk_getA (by decide) h5 (fun _ n6 => ?_)
        refine vk_astI n6 h5 (fun x13 h7 => ?_)
        exact k2 _ h7
      · skip
        refine q_if ?_ ?_
        · skip
          refine q_recv ?_
          refine fk_X6_refuse (fun  y8 h8 => ?_) hX h4
          exact k5 _ h8
        · skip
          exact k5 _ h4
    · skip
      exact k2 _ hx
theorem fk_X6_readKnownArg {l0 : Option Nat} {l1 : Option Nat} {l2 : Int32} {x : HS} {Q Q' : HS → Prop} {X X' : String → HS → Prop} (hQ : ∀ u, (Vs K x0) u → Q u → Q' u) (hX : ∀ e u, (Vs K x0) u → X e u → X' e u) (hx : (Vs K x0) x) : w_X6_readKnownArg l0 l1 l2 x Q X → w_X6_readKnownArg l0 l1 l2 x Q' X' := by
  unfold w_X6_readKnownArg
  refine q_recv ?_
  refine fk_X6_skipBlanks (fun  y1 h1 => ?_) hx
  refine q_getI (fun _ => ?_)
  refine q_recv ?_
  refine fk_X6_readArg (fun  y2 h2 => ?_) hX h1
  refine q_recv ?_
  refine fk_X6_requireKnown (fun  y3 h3 => ?_) hX h2
  exact hQ _ h3
theorem fk_X6_readSign {l0 : Option Nat} {l1 : Int32} {l2 : Int32} {l3 : Int32} {x : HS} {Q Q' : Int32 → HS → Prop} {X X' : String → HS → Prop} (hQ : ∀ r u, (Vs K x0) u → Q r u → Q' r u) (hX : ∀ e u, (Vs K x0) u → X e u → X' e u) (hx : (Vs K x0) x) : w_X6_readSign l0 l1 l2 l3 x Q X → w_X6_readSign l0 l1 l2 l3 x Q' X' := by
  unfold w_X6_readSign
  refine q_recv ?_
  refine fk_X6_here (fun _ y1 h1 => ?_) hx
  refine q_join0 (P := (Vs K x0)) (fun y2 h2 => ?_) (fun _ _ k2 => ?_)
  · skip
    refine q_getI (fun _ => ?_)
    refine vk_putI (by decide) h2 (fun x6 h3 => ?_)
    exact hQ _ _ h3
  · skip
    refine q_if ?_ ?_
    · skip
      exact k2 _ h1
    · skip
      refine q_if ?_ ?_
      · skip
        exact k2 _ h1
      · skip
        refine q_if ?_ ?_
        · skip
          exact k2 _ h1
        · skip
          refine q_getI (fun _ => ?_)
          refine q_recv ?_
          refine fk_X6_refuse (fun  y4 h4 => ?_) hX h1
          exact k2 _ h4
theorem fk_X6_readSignGoal {l0 : Option Nat} {l1 : Option Nat} {x : HS} {Q Q' : HS → Prop} {X X' : String → HS → Prop} (hQ : ∀ u, (Vs K x0) u → Q u → Q' u) (hX : ∀ e u, (Vs K x0) u → X e u → X' e u) (hx : (Vs K x0) x) : w_X6_readSignGoal l0 l1 x Q X → w_X6_readSignGoal l0 l1 x Q' X' := by
  unfold w_X6_readSignGoal
  refine q_getI (fun _ => ?_)
  refine q_recv ?_
  refine fk_X6_readArg (fun  y1 h1 => ?_) hX hx
  refine q_recv ?_
  refine fk_X6_skipBlanks (fun  y2 h2 => ?_) h1
  refine q_recv ?_
  refine fk_X6_here (fun _ y3 h3 => ?_) h2
  refine q_join1 (P := (Vs K x0)) (fun _ y4 h4 => ?_) (fun _ _ k4 => ?_)
  · skip
    refine q_recv ?_
    refine fk_X6_readKnownArg (fun  y5 h5 => ?_) hX h4
    refine q_getI (fun _ => ?_)
    refine vk_putI (by decide) h5 (fun x14 h6 => ?_)
    exact hQ _ h6
  · skip
    refine q_join0 (P := (Vs K x0)) (fun y7 h7 => ?_) (fun _ _ k7 => ?_)
    · skip
      refine q_recv ?_
      refine fk_X6_readSign (fun _ y8 h8 => ?_) hX h7
      refine vk_putI (by decide) h8 (fun x19 h9 => ?_)
      refine q_recv ?_
      refine fk_X6_requireKnown (fun  y10 h10 => ?_) hX h9
      exact k4 _ _ h10
    · skip
      refine q_if ?_ ?_
      · skip
        refine vk_getA (by decide) h3 (fun _ n11 => ?_)
        refine q_aldJ (fun _ => ?_)
        refine q_if ?_ ?_
        · skip
          refine vk_getA (by decide) h3 (fun _ n12 => ?_)
          refine q_aldJ (fun _ => ?_)
          refine vk_putI (by decide) h3 (fun x26 h13 => ?_)
          refine q_getI (fun _ => ?_)
          refine q_getI (fun _ => ?_)
          refine q_join0 (P := (Vs K x0)) (fun y14 h14 => ?_) (fun _ _ k14 => ?_)
          · skip
            refine q_getI (fun _ => ?_)
            refine vk_putI (by decide) h14 (fun x32 h15 => ?_)
            refine q_recv ?_
            refine fk_X6_readKnownArg (fun  y16 h16 => ?_) hX h15
            refine q_recv ?_
            refine fk_X6_skipBlanks (fun  y17 h17 => ?_) h16
            refine q_recv ?_
            refine fk_X6_readSign (fun _ y18 h18 => ?_) hX h17
            refine vk_putI (by decide) h18 (fun x39 h19 => ?_)
            exact k4 _ _ h19
          · skip
            refine q_if ?_ ?_
            · skip
              exact k14 _ h13
            · skip
              refine q_recv ?_
              refine fk_X6_refuse (fun  y20 h20 => ?_) hX h13
              exact k14 _ h20
        · skip
          exact k7 _ h3
      · skip
        exact k7 _ h3
theorem fk_X6_readQuestion {l0 : Option Nat} {l1 : Option Nat} {l2 : Int32} {l3 : Option Nat} {x : HS} {Q Q' : HS → Prop} {X X' : String → HS → Prop} (hQ : ∀ u, (Vs K x0) u → Q u → Q' u) (hX : ∀ e u, (Vs K x0) u → X e u → X' e u) (hx : (Vs K x0) x) : w_X6_readQuestion l0 l1 l2 l3 x Q X → w_X6_readQuestion l0 l1 l2 l3 x Q' X' := by
  unfold w_X6_readQuestion
  refine vk_putF (by decide) (by decide) (by decide) hx (fun x1 h1 => ?_)
  refine vk_putI (by decide) h1 (fun x2 h2 => ?_)
  refine vk_putF (by decide) (by decide) (by decide) h2 (fun x3 h3 => ?_)
  refine vk_putI (by decide) h3 (fun x4 h4 => ?_)
  refine vk_putI (by decide) h4 (fun x5 h5 => ?_)
  refine q_loop (P := (Vs K x0)) h5 (fun v9 x8 _ _ h6 k6 => ?_)
  refine q_if ?_ ?_
  · skip
    refine q_recv ?_
    refine fk_X6_skipBlanks (fun  y7 h7 => ?_) h6
    refine q_getI (fun _ => ?_)
    refine q_recv ?_
    refine fk_X6_refuse (fun  y8 h8 => ?_) hX h7
    exact hQ _ h8
  · skip
    refine q_recv ?_
    refine fk_X6_skipBlanks (fun  y9 h9 => ?_) h6
    refine q_recv ?_
    refine fk_X6_here (fun _ y10 h10 => ?_) h9
    refine q_join0 (P := (Vs K x0)) (fun y11 h11 => ?_) (fun _ _ k11 => ?_)
    · skip
      refine vk_putI (by decide) h11 (fun x21 h12 => ?_)
      refine q_recv ?_
      refine fk_X6_skipBlanks (fun  y13 h13 => ?_) h12
      refine q_getI (fun _ => ?_)
      refine q_getI (fun _ => ?_)
      refine q_if ?_ ?_
      · skip
        refine q_recv ?_
        refine fk_X6_take (fun  y14 h14 => ?_) hX h13
        exact k6 _ _ h14
      · skip
        exact hQ _ h13
    · skip
      refine q_join0 (P := (Vs K x0)) (fun y15 h15 => ?_) (fun _ _ k15 => ?_)
      · skip
        refine q_getF (fun _ => ?_)
        refine q_aldG (fun _ => ?_)
        refine q_recv ?_
        refine fk_X6_readTableGoal (fun  y16 h16 => ?_) hX h15
        exact k11 _ h16
      · skip
        refine q_if ?_ ?_
        · skip
          exact k15 _ h10
        · skip
          refine q_recv ?_
          refine fk_X6_here (fun _ y17 h17 => ?_) h10
          refine q_if ?_ ?_
          · skip
            exact k15 _ h17
          · skip
            refine q_getF (fun _ => ?_)
            refine q_aldG (fun _ => ?_)
            refine q_recv ?_
            refine fk_X6_readSignGoal (fun  y18 h18 => ?_) hX h17
            exact k11 _ h18
theorem fk_X7_keptCount {l0 : Option Nat} {x : HS} {Q Q' : Int32 → HS → Prop} {X X' : String → HS → Prop} (hQ : ∀ r u, (Vs K x0) u → Q r u → Q' r u) (hx : (Vs K x0) x) : w_X7_keptCount l0 x Q X → w_X7_keptCount l0 x Q' X' := by
  unfold w_X7_keptCount
  refine q_getI (fun _ => ?_)
  exact hQ _ _ hx
theorem fk_X10_init {l0 : Option Nat} {l1 : Int32} {l2 : Int32} {x : HS} {Q Q' : HS → Prop} {X X' : String → HS → Prop} (hQ : ∀ u, (Vs K x0) u → Q u → Q' u) (hx : (Vs K x0) x) : w_X10_init l0 l1 l2 x Q X → w_X10_init l0 l1 l2 x Q' X' := by
  unfold w_X10_init
  refine q_ref ?_
  refine vk_new hx (fun q1 x2 h1 => ?_)
  refine fk_X0_init (fun  y2 h2 => ?_) h1
  refine vk_putF (by decide) (by decide) (by decide) h2 (fun x5 h3 => ?_)
  refine vk_newG (by decide) h3 (fun q6 x7 h4 => ?_)
  refine vk_putF (by decide) (by decide) (by decide) h4 (fun x8 h5 => ?_)
  refine vk_newJ (by decide) h5 (fun q9 x10 h6 n6 => ?_)
  refine vk_putFA (by decide) (by decide) n6 h6 (fun x11 h7 => ?_)
  refine vk_putI (by decide) h7 (fun x12 h8 => ?_)
  refine vk_putI (by decide) h8 (fun x13 h9 => ?_)
  exact hQ _ h9
theorem fk_X9_makeTable {l0 : Option Nat} {l1 : Int32} {x : HS} {Q Q' : Int32 → HS → Prop} {X X' : String → HS → Prop} (hQ : ∀ r u, (Vs K x0) u → Q r u → Q' r u) (hx : (Vs K x0) x) : w_X9_makeTable l0 l1 x Q X → w_X9_makeTable l0 l1 x Q' X' := by
  unfold w_X9_makeTable
  refine q_getI (fun _ => ?_)
  refine q_if ?_ ?_
  · skip
    refine q_getF (fun _ => ?_)
    refine q_getI (fun _ => ?_)
    refine vk_new hx (fun q4 x5 h1 => ?_)
    refine q_getI (fun _ => ?_)
    refine fk_X10_init (fun  y2 h2 => ?_) h1
    refine vk_astG (by decide) h2 (fun x9 h3 => ?_)
    refine q_getI (fun _ => ?_)
    refine vk_putI (by decide) h3 (fun x11 h4 => ?_)
    refine q_getI (fun _ => ?_)
    exact hQ _ _ h4
  · skip
    exact hQ _ _ hx
theorem fk_X9_timeOf {l0 : Option Nat} {l1 : Int32} {x : HS} {Q Q' : Int32 → HS → Prop} {X X' : String → HS → Prop} (hQ : ∀ r u, (Vs K x0) u → Q r u → Q' r u) (hx : (Vs K x0) x) : w_X9_timeOf l0 l1 x Q X → w_X9_timeOf l0 l1 x Q' X' := by
  unfold w_X9_timeOf
  refine q_join1 (P := (Vs K x0)) (fun _ y1 h1 => ?_) (fun _ _ k1 => ?_)
  · skip
    exact hQ _ _ h1
  · skip
    refine q_if ?_ ?_
    · skip
      refine q_getI (fun _ => ?_)
      exact k1 _ _ hx
    · skip
      exact k1 _ _ hx
theorem fk_X9_come {l0 : Option Nat} {l1 : Option Nat} {l2 : Option Nat} {x : HS} {Q Q' : Option Nat → HS → Prop} {X X' : String → HS → Prop} (hQ : ∀ r u, (Vs K x0) u → Q r u → Q' r u) (hx : (Vs K x0) x) : w_X9_come l0 l1 l2 x Q X → w_X9_come l0 l1 l2 x Q' X' := by
  unfold w_X9_come
  refine q_getI (fun _ => ?_)
  refine q_if ?_ ?_
  · skip
    refine q_getF (fun _ => ?_)
    refine q_getI (fun _ => ?_)
    refine q_aldG (fun _ => ?_)
    refine q_join0 (P := (Vs K x0)) (fun y1 h1 => ?_) (fun _ _ k1 => ?_)
    · skip
      refine q_getF (fun _ => ?_)
      refine q_getI (fun _ => ?_)
      refine q_aldG (fun _ => ?_)
      refine q_getI (fun _ => ?_)
      refine vk_putI (by decide) h1 (fun x11 h2 => ?_)
      refine q_getI (fun _ => ?_)
      refine vk_putI (by decide) h2 (fun x13 h3 => ?_)
      refine vk_putF (by decide) (by decide) (by decide) h3 (fun x14 h4 => ?_)
      refine vk_putF (by decide) (by decide) (by decide) h4 (fun x15 h5 => ?_)
      refine q_getI (fun _ => ?_)
      refine vk_putI (by decide) h5 (fun x17 h6 => ?_)
      refine q_getI (fun _ => ?_)
      refine vk_putI (by decide) h6 (fun x19 h7 => ?_)
      refine vk_putI (by decide) h7 (fun x20 h8 => ?_)
      refine q_loop (P := (Vs K x0)) h8 (fun v24 x23 _ _ h9 k9 => ?_)
      refine q_if ?_ ?_
      · skip
        refine q_getI (fun _ => ?_)
        refine vk_putI (by decide) h9 (fun x26 h10 => ?_)
        refine q_getF (fun _ => ?_)
        refine q_recv ?_
        refine fk_X3_note (fun  y11 h11 => ?_) h10
        exact hQ _ _ h11
      · skip
        refine vk_getA (by decide) h9 (fun _ n12 => ?_)
        refine q_getI (fun _ => ?_)
        refine q_join1 (P := (Vs K x0)) (fun _ y13 h13 => ?_) (fun _ _ k13 => ?_)
        · skip
          refine vk_astI n12 h13 (fun x35 h14 => ?_)
          exact k9 _ _ h14
        · skip
          refine q_if ?_ ?_
          · skip
            exact k13 _ _ h9
          · skip
            refine q_aldJ (fun _ => ?_)
            exact k13 _ _ h9
    · skip
      refine q_if ?_ ?_
      · skip
        refine q_getF (fun _ => ?_)
        refine q_getI (fun _ => ?_)
        refine vk_new hx (fun q39 x40 h15 => ?_)
        refine fk_X1_init (fun  y16 h16 => ?_) h15
        refine vk_astG (by decide) h16 (fun x43 h17 => ?_)
        exact k1 _ h17
      · skip
        exact k1 _ hx
  · skip
    exact hQ _ _ hx
theorem fk_X9_go {l0 : Option Nat} {l1 : Option Nat} {x : HS} {Q Q' : HS → Prop} {X X' : String → HS → Prop} (hQ : ∀ u, (Vs K x0) u → Q u → Q' u) (hx : (Vs K x0) x) : w_X9_go l0 l1 x Q X → w_X9_go l0 l1 x Q' X' := by
  unfold w_X9_go
  refine q_getI (fun _ => ?_)
  refine vk_putI (by decide) hx (fun x2 h1 => ?_)
  refine q_getI (fun _ => ?_)
  refine vk_putI (by decide) h1 (fun x4 h2 => ?_)
  refine q_getF (fun _ => ?_)
  refine q_recv ?_
  refine fk_X3_note (fun  y3 h3 => ?_) h2
  exact hQ _ h3
theorem fk_X9_withNumber {l0 : Option Nat} {l1 : Int32} {x : HS} {Q Q' : Option Nat → HS → Prop} {X X' : String → HS → Prop} (hQ : ∀ r u, (Vs K x0) u → Q r u → Q' r u) (hx : (Vs K x0) x) : w_X9_withNumber l0 l1 x Q X → w_X9_withNumber l0 l1 x Q' X' := by
  unfold w_X9_withNumber
  refine q_loop (P := (Vs K x0)) hx (fun v4 x3 _ _ h1 k1 => ?_)
  refine q_getI (fun _ => ?_)
  refine q_if ?_ ?_
  · skip
    exact hQ _ _ h1
  · skip
    refine q_getF (fun _ => ?_)
    refine q_aldG (fun _ => ?_)
    refine q_getI (fun _ => ?_)
    refine q_if ?_ ?_
    · skip
      refine q_getF (fun _ => ?_)
      refine q_aldG (fun _ => ?_)
      exact hQ _ _ h1
    · skip
      exact k1 _ _ h1
theorem fk_X9_hasRoomToTurn {l0 : Option Nat} {x : HS} {Q Q' : Int32 → HS → Prop} {X X' : String → HS → Prop} (hQ : ∀ r u, (Vs K x0) u → Q r u → Q' r u) (hx : (Vs K x0) x) : w_X9_hasRoomToTurn l0 x Q X → w_X9_hasRoomToTurn l0 x Q' X' := by
  unfold w_X9_hasRoomToTurn
  refine q_getF (fun _ => ?_)
  refine q_recv ?_
  refine fk_X3_goneSinceMark (fun _ y1 h1 => ?_) hx
  refine q_getI (fun _ => ?_)
  refine q_join1 (P := (Vs K x0)) (fun _ y2 h2 => ?_) (fun _ _ k2 => ?_)
  · skip
    refine q_bit ?_
    exact hQ _ _ h2
  · skip
    refine q_if ?_ ?_
    · skip
      exact k2 _ _ h1
    · skip
      exact k2 _ _ h1
theorem fk_X10_placeAfter {l0 : Option Nat} {l1 : Option Nat} {l2 : Option Nat} {x : HS} {Q Q' : HS → Prop} {X X' : String → HS → Prop} (hQ : ∀ u, (Vs K x0) u → Q u → Q' u) (hx : (Vs K x0) x) : w_X10_placeAfter l0 l1 l2 x Q X → w_X10_placeAfter l0 l1 l2 x Q' X' := by
  unfold w_X10_placeAfter
  refine q_getF (fun _ => ?_)
  refine q_recv ?_
  refine fk_X0_putAfter (fun  y1 h1 => ?_) hx
  refine q_loop (P := (Vs K x0)) h1 (fun v7 x6 _ _ h2 k2 => ?_)
  refine q_getI (fun _ => ?_)
  refine q_if ?_ ?_
  · skip
    exact hQ _ h2
  · skip
    refine q_getF (fun _ => ?_)
    refine q_aldG (fun _ => ?_)
    refine q_join0 (P := (Vs K x0)) (fun y3 h3 => ?_) (fun _ _ k3 => ?_)
    · skip
      exact k2 _ _ h3
    · skip
      refine q_if ?_ ?_
      · skip
        exact k3 _ h2
      · skip
        refine q_getF (fun _ => ?_)
        refine q_aldG (fun _ => ?_)
        refine q_recv ?_
        refine fk_X4_chainFor (fun _ y4 h4 => ?_) h2
        refine q_recv ?_
        refine fk_X0_putAfter (fun  y5 h5 => ?_) h4
        exact k3 _ h5
theorem fk_X9_comeAgain {l0 : Option Nat} {l1 : Option Nat} {x : HS} {Q Q' : HS → Prop} {X X' : String → HS → Prop} (hQ : ∀ u, (Vs K x0) u → Q u → Q' u) (hx : (Vs K x0) x) : w_X9_comeAgain l0 l1 x Q X → w_X9_comeAgain l0 l1 x Q' X' := by
  unfold w_X9_comeAgain
  refine q_getF (fun _ => ?_)
  refine vk_getA (by decide) hx (fun _ n1 => ?_)
  refine q_recv ?_
  refine fk_X9_come (fun _ y2 h2 => ?_) hx
  refine q_join0 (P := (Vs K x0)) (fun y3 h3 => ?_) (fun _ _ k3 => ?_)
  · skip
    exact hQ _ h3
  · skip
    refine q_if ?_ ?_
    · skip
      exact k3 _ h2
    · skip
      refine q_getF (fun _ => ?_)
      refine q_recv ?_
      refine fk_X10_placeAfter (fun  y4 h4 => ?_) h2
      refine vk_putF (by decide) (by decide) (by decide) h4 (fun x10 h5 => ?_)
      exact k3 _ h5
theorem fk_X9_turn {l0 : Option Nat} {l1 : Int32} {x : HS} {Q Q' : Int32 → HS → Prop} {X X' : String → HS → Prop} (hQ : ∀ r u, (Vs K x0) u → Q r u → Q' r u) (hx : (Vs K x0) x) : w_X9_turn l0 l1 x Q X → w_X9_turn l0 l1 x Q' X' := by
  unfold w_X9_turn
  refine q_getF (fun _ => ?_)
  refine q_getI (fun _ => ?_)
  refine q_loop (P := (Vs K x0)) hx (fun v6 x5 _ _ h1 k1 => ?_)
  refine q_join0 (P := (Vs K x0)) (fun y2 h2 => ?_) (fun _ _ k2 => ?_)
  · skip
    exact hQ _ _ h2
  · skip
    refine q_if ?_ ?_
    · skip
      exact k2 _ h1
    · skip
      refine q_if ?_ ?_
      · skip
        exact k2 _ h1
      · skip
        refine q_getF (fun _ => ?_)
        refine q_getF (fun _ => ?_)
        refine q_aldG (fun _ => ?_)
        refine q_getF (fun _ => ?_)
        refine q_getF (fun _ => ?_)
        refine q_aldJ (fun _ => ?_)
        refine q_join0 (P := (Vs K x0)) (fun y3 h3 => ?_) (fun _ _ k3 => ?_)
        · skip
          exact k1 _ _ h3
        · skip
          refine q_if ?_ ?_
          · skip
            refine q_getF (fun _ => ?_)
            refine q_join1 (P := (Vs K x0)) (fun _ y4 h4 => ?_) (fun _ _ k4 => ?_)
            · skip
              refine q_recv ?_
              refine fk_X9_go (fun  y5 h5 => ?_) h4
              exact k3 _ h5
            · skip
              refine q_if ?_ ?_
              · skip
                exact k4 _ _ h1
              · skip
                refine q_getF (fun _ => ?_)
                exact k4 _ _ h1
          · skip
            refine q_recv ?_
            refine fk_X9_comeAgain (fun  y6 h6 => ?_) h1
            exact k3 _ h6
theorem fk_X10_placeIn {l0 : Option Nat} {l1 : Option Nat} {l2 : Int32} {x : HS} {Q Q' : HS → Prop} {X X' : String → HS → Prop} (hQ : ∀ u, (Vs K x0) u → Q u → Q' u) (hx : (Vs K x0) x) : w_X10_placeIn l0 l1 l2 x Q X → w_X10_placeIn l0 l1 l2 x Q' X' := by
  unfold w_X10_placeIn
  refine q_join0 (P := (Vs K x0)) (fun y1 h1 => ?_) (fun _ _ k1 => ?_)
  · skip
    exact hQ _ h1
  · skip
    refine q_if ?_ ?_
    · skip
      refine q_recv ?_
      refine fk_X0_putBehind (fun  y2 h2 => ?_) hx
      exact k1 _ h2
    · skip
      refine q_recv ?_
      refine fk_X0_putAhead (fun  y3 h3 => ?_) hx
      exact k1 _ h3
theorem fk_X10_place {l0 : Option Nat} {l1 : Option Nat} {l2 : Int32} {x : HS} {Q Q' : HS → Prop} {X X' : String → HS → Prop} (hQ : ∀ u, (Vs K x0) u → Q u → Q' u) (hx : (Vs K x0) x) : w_X10_place l0 l1 l2 x Q X → w_X10_place l0 l1 l2 x Q' X' := by
  unfold w_X10_place
  refine q_getF (fun _ => ?_)
  refine fk_X10_placeIn (fun  y1 h1 => ?_) hx
  refine q_loop (P := (Vs K x0)) h1 (fun v7 x6 _ _ h2 k2 => ?_)
  refine q_getI (fun _ => ?_)
  refine q_if ?_ ?_
  · skip
    exact hQ _ h2
  · skip
    refine q_getF (fun _ => ?_)
    refine q_aldG (fun _ => ?_)
    refine q_join0 (P := (Vs K x0)) (fun y3 h3 => ?_) (fun _ _ k3 => ?_)
    · skip
      exact k2 _ _ h3
    · skip
      refine q_if ?_ ?_
      · skip
        exact k3 _ h2
      · skip
        refine q_getF (fun _ => ?_)
        refine q_aldG (fun _ => ?_)
        refine q_recv ?_
        refine fk_X4_chainFor (fun _ y4 h4 => ?_) h2
        refine fk_X10_placeIn (fun  y5 h5 => ?_) h4
        exact k3 _ h5
theorem fk_X10_dropDeadBy {l0 : Option Nat} {l1 : Int32} {x : HS} {Q Q' : HS → Prop} {X X' : String → HS → Prop} (hQ : ∀ u, (Vs K x0) u → Q u → Q' u) (hx : (Vs K x0) x) : w_X10_dropDeadBy l0 l1 x Q X → w_X10_dropDeadBy l0 l1 x Q' X' := by
  unfold w_X10_dropDeadBy
  refine q_getF (fun _ => ?_)
  refine q_getF (fun _ => ?_)
  refine q_getF (fun _ => ?_)
  refine q_recv ?_
  refine fk_X0_empty (fun  y1 h1 => ?_) hx
  refine q_loop (P := (Vs K x0)) h1 (fun v9 x8 _ _ h2 k2 => ?_)
  refine q_getI (fun _ => ?_)
  refine q_if ?_ ?_
  · skip
    refine q_loop (P := (Vs K x0)) h2 (fun v14 x13 _ _ h3 k3 => ?_)
    refine q_if ?_ ?_
    · skip
      exact hQ _ h3
    · skip
      refine q_getF (fun _ => ?_)
      refine q_aldG (fun _ => ?_)
      refine q_recv ?_
      refine fk_X1_isThereNow (fun _ y4 h4 => ?_) h3
      refine q_join0 (P := (Vs K x0)) (fun y5 h5 => ?_) (fun _ _ k5 => ?_)
      · skip
        exact k3 _ _ h5
      · skip
        refine q_join0 (P := (Vs K x0)) (fun y6 h6 => ?_) (fun _ _ k6 => ?_)
        · skip
          refine q_recv ?_
          refine fk_X10_place (fun  y7 h7 => ?_) h6
          exact k5 _ h7
        · skip
          refine q_if ?_ ?_
          · skip
            refine q_getI (fun _ => ?_)
            refine q_if ?_ ?_
            · skip
              exact k5 _ h4
            · skip
              exact k6 _ h4
          · skip
            exact k6 _ h4
  · skip
    refine q_getF (fun _ => ?_)
    refine q_aldG (fun _ => ?_)
    refine q_join0 (P := (Vs K x0)) (fun y8 h8 => ?_) (fun _ _ k8 => ?_)
    · skip
      exact k2 _ _ h8
    · skip
      refine q_if ?_ ?_
      · skip
        exact k8 _ h2
      · skip
        refine q_getF (fun _ => ?_)
        refine q_aldG (fun _ => ?_)
        refine q_recv ?_
        refine fk_X4_empty (fun  y9 h9 => ?_) h2
        exact k8 _ h9
theorem fk_X9_forgetDead {l0 : Option Nat} {l1 : Int32} {x : HS} {Q Q' : Int32 → HS → Prop} {X X' : String → HS → Prop} (hQ : ∀ r u, (Vs K x0) u → Q r u → Q' r u) (hx : (Vs K x0) x) : w_X9_forgetDead l0 l1 x Q X → w_X9_forgetDead l0 l1 x Q' X' := by
  unfold w_X9_forgetDead
  refine q_getI (fun _ => ?_)
  refine vk_putI (by decide) hx (fun x2 h1 => ?_)
  refine q_loop (P := (Vs K x0)) h1 (fun v6 x5 _ _ h2 k2 => ?_)
  refine q_getI (fun _ => ?_)
  refine q_if ?_ ?_
  · skip
    refine q_getI (fun _ => ?_)
    refine vk_putI (by decide) h2 (fun x9 h3 => ?_)
    refine q_loop (P := (Vs K x0)) h3 (fun v13 x12 _ _ h4 k4 => ?_)
    refine q_if ?_ ?_
    · skip
      refine q_getI (fun _ => ?_)
      exact hQ _ _ h4
    · skip
      refine q_getF (fun _ => ?_)
      refine q_aldG (fun _ => ?_)
      refine q_recv ?_
      refine fk_X1_isThereNow (fun _ y5 h5 => ?_) h4
      refine q_join0 (P := (Vs K x0)) (fun y6 h6 => ?_) (fun _ _ k6 => ?_)
      · skip
        exact k4 _ _ h6
      · skip
        refine q_join0 (P := (Vs K x0)) (fun y7 h7 => ?_) (fun _ _ k7 => ?_)
        · skip
          refine q_getF (fun _ => ?_)
          refine q_getF (fun _ => ?_)
          refine q_getI (fun _ => ?_)
          refine q_aldG (fun _ => ?_)
          refine vk_astG (by decide) h7 (fun x27 h8 => ?_)
          refine q_getF (fun _ => ?_)
          refine q_getI (fun _ => ?_)
          refine vk_astG (by decide) h8 (fun x30 h9 => ?_)
          refine q_getI (fun _ => ?_)
          refine vk_putI (by decide) h9 (fun x32 h10 => ?_)
          exact k6 _ h10
        · skip
          refine q_if ?_ ?_
          · skip
            refine q_getI (fun _ => ?_)
            refine q_getI (fun _ => ?_)
            refine q_if ?_ ?_
            · skip
              exact k6 _ h5
            · skip
              exact k7 _ h5
          · skip
            exact k7 _ h5
  · skip
    refine q_getF (fun _ => ?_)
    refine q_aldG (fun _ => ?_)
    refine q_getI (fun _ => ?_)
    refine q_recv ?_
    refine fk_X10_dropDeadBy (fun  y11 h11 => ?_) h2
    exact k2 _ _ h11
theorem fk_X10_makeIndex {l0 : Option Nat} {l1 : Int32} {x : HS} {Q Q' : Int32 → HS → Prop} {X X' : String → HS → Prop} (hQ : ∀ r u, (Vs K x0) u → Q r u → Q' r u) (hx : (Vs K x0) x) : w_X10_makeIndex l0 l1 x Q X → w_X10_makeIndex l0 l1 x Q' X' := by
  unfold w_X10_makeIndex
  refine q_join0 (P := (Vs K x0)) (fun y1 h1 => ?_) (fun _ _ k1 => ?_)
  · skip
    refine q_bit ?_
    exact hQ _ _ h1
  · skip
    refine q_if ?_ ?_
    · skip
      exact k1 _ hx
    · skip
      refine q_getI (fun _ => ?_)
      refine q_if ?_ ?_
      · skip
        exact k1 _ hx
      · skip
        refine q_getF (fun _ => ?_)
        refine q_aldG (fun _ => ?_)
        refine q_if ?_ ?_
        · skip
          refine vk_new hx (fun q6 x7 h2 => ?_)
          refine fk_X4_init (fun  y3 h3 => ?_) h2
          refine q_getF (fun _ => ?_)
          refine q_getF (fun _ => ?_)
          refine q_loop (P := (Vs K x0)) h3 (fun v15 x14 _ _ h4 k4 => ?_)
          refine q_if ?_ ?_
          · skip
            refine q_getF (fun _ => ?_)
            refine vk_astG (by decide) h4 (fun x17 h5 => ?_)
            refine q_bit ?_
            exact hQ _ _ h5
          · skip
            refine q_recv ?_
            refine fk_X4_chainFor (fun _ y6 h6 => ?_) h4
            refine q_recv ?_
            refine fk_X0_putBehind (fun  y7 h7 => ?_) h6
            refine q_getF (fun _ => ?_)
            refine q_aldG (fun _ => ?_)
            exact k4 _ _ h7
        · skip
          exact k1 _ hx
theorem fk_X10_hasKey {l0 : Option Nat} {l1 : Int32} {x : HS} {Q Q' : Int32 → HS → Prop} {X X' : String → HS → Prop} (hQ : ∀ r u, (Vs K x0) u → Q r u → Q' r u) (hx : (Vs K x0) x) : w_X10_hasKey l0 l1 x Q X → w_X10_hasKey l0 l1 x Q' X' := by
  unfold w_X10_hasKey
  refine q_loop (P := (Vs K x0)) hx (fun v4 x3 _ _ h1 k1 => ?_)
  refine q_getI (fun _ => ?_)
  refine q_if ?_ ?_
  · skip
    refine q_bit ?_
    exact hQ _ _ h1
  · skip
    refine vk_getA (by decide) h1 (fun _ n2 => ?_)
    refine q_aldJ (fun _ => ?_)
    refine q_if ?_ ?_
    · skip
      refine q_bit ?_
      exact hQ _ _ h1
    · skip
      exact k1 _ _ h1
theorem fk_X10_makeKey {l0 : Option Nat} {l1 : Int32} {x : HS} {Q Q' : Int32 → HS → Prop} {X X' : String → HS → Prop} (hQ : ∀ r u, (Vs K x0) u → Q r u → Q' r u) (hx : (Vs K x0) x) : w_X10_makeKey l0 l1 x Q X → w_X10_makeKey l0 l1 x Q' X' := by
  unfold w_X10_makeKey
  refine q_getI (fun _ => ?_)
  refine q_if ?_ ?_
  · skip
    refine vk_getA (by decide) hx (fun _ n1 => ?_)
    refine q_getI (fun _ => ?_)
    refine vk_astI n1 hx (fun x4 h2 => ?_)
    refine q_getI (fun _ => ?_)
    refine vk_putI (by decide) h2 (fun x6 h3 => ?_)
    refine q_bit ?_
    exact hQ _ _ h3
  · skip
    refine q_bit ?_
    exact hQ _ _ hx
theorem fk_X10_isThereNowFrom {l0 : Option Nat} {l1 : Int32} {l2 : Option Nat} {x : HS} {Q Q' : Int32 → HS → Prop} {X X' : String → HS → Prop} (hQ : ∀ r u, (Vs K x0) u → Q r u → Q' r u) (hx : (Vs K x0) x) : w_X10_isThereNowFrom l0 l1 l2 x Q X → w_X10_isThereNowFrom l0 l1 l2 x Q' X' := by
  unfold w_X10_isThereNowFrom
  refine q_loop (P := (Vs K x0)) hx (fun v4 x3 _ _ h1 k1 => ?_)
  refine q_if ?_ ?_
  · skip
    refine q_bit ?_
    exact hQ _ _ h1
  · skip
    refine q_recv ?_
    refine fk_X1_isThereNow (fun _ y2 h2 => ?_) h1
    refine q_join0 (P := (Vs K x0)) (fun y3 h3 => ?_) (fun _ _ k3 => ?_)
    · skip
      refine q_getF (fun _ => ?_)
      refine q_aldG (fun _ => ?_)
      exact k1 _ _ h3
    · skip
      refine q_if ?_ ?_
      · skip
        exact k3 _ h2
      · skip
        refine q_recv ?_
        refine fk_X1_fits (fun _ y4 h4 => ?_) h2
        refine q_if ?_ ?_
        · skip
          exact k3 _ h4
        · skip
          refine q_bit ?_
          exact hQ _ _ h4
theorem fk_X10_hasTwins {l0 : Option Nat} {l1 : Int32} {x : HS} {Q Q' : Int32 → HS → Prop} {X X' : String → HS → Prop} (hQ : ∀ r u, (Vs K x0) u → Q r u → Q' r u) (hx : (Vs K x0) x) : w_X10_hasTwins l0 l1 x Q X → w_X10_hasTwins l0 l1 x Q' X' := by
  unfold w_X10_hasTwins
  refine q_getF (fun _ => ?_)
  refine q_getF (fun _ => ?_)
  refine q_loop (P := (Vs K x0)) hx (fun v6 x5 _ _ h1 k1 => ?_)
  refine q_if ?_ ?_
  · skip
    refine q_bit ?_
    exact hQ _ _ h1
  · skip
    refine q_recv ?_
    refine fk_X1_isThereNow (fun _ y2 h2 => ?_) h1
    refine q_join0 (P := (Vs K x0)) (fun y3 h3 => ?_) (fun _ _ k3 => ?_)
    · skip
      refine q_getF (fun _ => ?_)
      refine q_aldG (fun _ => ?_)
      exact k1 _ _ h3
    · skip
      refine q_if ?_ ?_
      · skip
        exact k3 _ h2
      · skip
        refine q_getF (fun _ => ?_)
        refine q_aldG (fun _ => ?_)
        refine vk_getA (by decide) h2 (fun _ n4 => ?_)
        refine fk_X10_isThereNowFrom (fun _ y5 h5 => ?_) h2
        refine q_if ?_ ?_
        · skip
          exact k3 _ h5
        · skip
          refine q_bit ?_
          exact hQ _ _ h5
theorem fk_X10_breaksKey {l0 : Option Nat} {l1 : Option Nat} {x : HS} {Q Q' : Int32 → HS → Prop} {X X' : String → HS → Prop} (hQ : ∀ r u, (Vs K x0) u → Q r u → Q' r u) (hx : (Vs K x0) x) : w_X10_breaksKey l0 l1 x Q X → w_X10_breaksKey l0 l1 x Q' X' := by
  unfold w_X10_breaksKey
  refine q_loop (P := (Vs K x0)) hx (fun v4 x3 _ _ h1 k1 => ?_)
  refine q_getI (fun _ => ?_)
  refine q_if ?_ ?_
  · skip
    refine q_bit ?_
    exact hQ _ _ h1
  · skip
    refine q_getF (fun _ => ?_)
    refine q_getF (fun _ => ?_)
    refine vk_getA (by decide) h1 (fun _ n2 => ?_)
    refine q_aldJ (fun _ => ?_)
    refine fk_X10_isThereNowFrom (fun _ y3 h3 => ?_) h1
    refine q_if ?_ ?_
    · skip
      exact k1 _ _ h3
    · skip
      refine q_bit ?_
      exact hQ _ _ h3
theorem fk_X10_factsThereNow {l0 : Option Nat} {x : HS} {Q Q' : Int32 → HS → Prop} {X X' : String → HS → Prop} (hQ : ∀ r u, (Vs K x0) u → Q r u → Q' r u) (hx : (Vs K x0) x) : w_X10_factsThereNow l0 x Q X → w_X10_factsThereNow l0 x Q' X' := by
  unfold w_X10_factsThereNow
  refine q_getF (fun _ => ?_)
  refine q_getF (fun _ => ?_)
  refine q_loop (P := (Vs K x0)) hx (fun v6 x5 _ _ h1 k1 => ?_)
  refine q_if ?_ ?_
  · skip
    exact hQ _ _ h1
  · skip
    refine q_recv ?_
    refine fk_X1_isThereNow (fun _ y2 h2 => ?_) h1
    refine q_join1 (P := (Vs K x0)) (fun _ y3 h3 => ?_) (fun _ _ k3 => ?_)
    · skip
      refine q_getF (fun _ => ?_)
      refine q_aldG (fun _ => ?_)
      exact k1 _ _ h3
    · skip
      refine q_if ?_ ?_
      · skip
        exact k3 _ _ h2
      · skip
        exact k3 _ _ h2
theorem fk_X11_putBytes {l0 : Option Nat} {l1 : Int32} {x : HS} {Q Q' : HS → Prop} {X X' : String → HS → Prop} (hQ : ∀ u, (Vs K x0) u → Q u → Q' u) (hx : (Vs K x0) x) : w_X11_putBytes l0 l1 x Q X → w_X11_putBytes l0 l1 x Q' X' := by
  unfold w_X11_putBytes
  refine q_loop (P := (Vs K x0)) hx (fun v4 x3 _ _ h1 k1 => ?_)
  refine q_join0 (P := (Vs K x0)) (fun y2 h2 => ?_) (fun _ _ k2 => ?_)
  · skip
    exact hQ _ h2
  · skip
    refine q_if ?_ ?_
    · skip
      exact k2 _ h1
    · skip
      refine q_getI (fun _ => ?_)
      refine q_if ?_ ?_
      · skip
        exact k2 _ h1
      · skip
        refine q_getF (fun _ => ?_)
        refine q_getI (fun _ => ?_)
        refine vk_astB h1 (fun x10 h3 => ?_)
        refine q_getI (fun _ => ?_)
        refine vk_putI (by decide) h3 (fun x12 h4 => ?_)
        exact k1 _ _ h4
theorem fk_X11_feed {l0 : Option Nat} {l1 : Int32} {l2 : Int32} {l3 : Int32} {l4 : Int32} {l5 : Int32} {x : HS} {Q Q' : Int32 → HS → Prop} {X X' : String → HS → Prop} (hQ : ∀ r u, (Vs K x0) u → Q r u → Q' r u) (hX : ∀ e u, (Vs K x0) u → X e u → X' e u) (hx : (Vs K x0) x) : w_X11_feed l0 l1 l2 l3 l4 l5 x Q X → w_X11_feed l0 l1 l2 l3 l4 l5 x Q' X' := by
  unfold w_X11_feed
  refine q_getI (fun _ => ?_)
  refine q_if ?_ ?_
  · skip
    refine q_recv ?_
    refine fk_X11_putBytes (fun  y1 h1 => ?_) hx
    refine q_recv ?_
    refine fk_X11_putBytes (fun  y2 h2 => ?_) h1
    refine q_recv ?_
    refine fk_X11_putBytes (fun  y3 h3 => ?_) h2
    refine q_recv ?_
    refine fk_X11_putBytes (fun  y4 h4 => ?_) h3
    refine q_recv ?_
    refine fk_X11_putBytes (fun  y5 h5 => ?_) h4
    refine q_getI (fun _ => ?_)
    exact hQ _ _ h5
  · skip
    exact vk_throw hx hX
theorem fk_X11_requireRange {l0 : Int32} {l1 : Int32} {l2 : Int32} {x : HS} {Q Q' : HS → Prop} {X X' : String → HS → Prop} (hQ : ∀ u, (Vs K x0) u → Q u → Q' u) (hX : ∀ e u, (Vs K x0) u → X e u → X' e u) (hx : (Vs K x0) x) : w_X11_requireRange l0 l1 l2 x Q X → w_X11_requireRange l0 l1 l2 x Q' X' := by
  unfold w_X11_requireRange
  refine q_join0 (P := (Vs K x0)) (fun y1 h1 => ?_) (fun _ _ k1 => ?_)
  · skip
    exact vk_throw h1 hX
  · skip
    refine q_if ?_ ?_
    · skip
      exact k1 _ hx
    · skip
      refine q_if ?_ ?_
      · skip
        exact hQ _ hx
      · skip
        exact k1 _ hx
theorem fk_X11_end {l0 : Option Nat} {l1 : Int32} {x : HS} {Q Q' : Int32 → HS → Prop} {X X' : String → HS → Prop} (hQ : ∀ r u, (Vs K x0) u → Q r u → Q' r u) (hX : ∀ e u, (Vs K x0) u → X e u → X' e u) (hx : (Vs K x0) x) : w_X11_end l0 l1 x Q X → w_X11_end l0 l1 x Q' X' := by
  unfold w_X11_end
  refine q_getI (fun _ => ?_)
  refine fk_X11_requireRange (fun  y1 h1 => ?_) hX hx
  refine vk_putI (by decide) h1 (fun x4 h2 => ?_)
  exact hQ _ _ h2
theorem fk_X11_value {l0 : Option Nat} {l1 : Int32} {l2 : Int32} {x : HS} {Q Q' : Int32 → HS → Prop} {X X' : String → HS → Prop} (hQ : ∀ r u, (Vs K x0) u → Q r u → Q' r u) (hX : ∀ e u, (Vs K x0) u → X e u → X' e u) (hx : (Vs K x0) x) : w_X11_value l0 l1 l2 x Q X → w_X11_value l0 l1 l2 x Q' X' := by
  unfold w_X11_value
  refine fk_X11_requireRange (fun  y1 h1 => ?_) hX hx
  refine vk_getA (by decide) h1 (fun _ n2 => ?_)
  refine q_aldJ (fun _ => ?_)
  refine vk_getA (by decide) h1 (fun _ n3 => ?_)
  refine vk_astI n3 h1 (fun x6 h4 => ?_)
  exact hQ _ _ h4
theorem fk_X11_table {l0 : Option Nat} {l1 : Int32} {x : HS} {Q Q' : Int32 → HS → Prop} {X X' : String → HS → Prop} (hQ : ∀ r u, (Vs K x0) u → Q r u → Q' r u) (hX : ∀ e u, (Vs K x0) u → X e u → X' e u) (hx : (Vs K x0) x) : w_X11_table l0 l1 x Q X → w_X11_table l0 l1 x Q' X' := by
  unfold w_X11_table
  refine fk_X11_requireRange (fun  y1 h1 => ?_) hX hx
  refine q_getF (fun _ => ?_)
  refine q_recv ?_
  refine fk_X9_makeTable (fun _ y2 h2 => ?_) h1
  refine q_if ?_ ?_
  · skip
    exact vk_throw h2 hX
  · skip
    exact hQ _ _ h2
theorem fk_X11_tableOf {l0 : Option Nat} {l1 : Int32} {x : HS} {Q Q' : Option Nat → HS → Prop} {X X' : String → HS → Prop} (hQ : ∀ r u, (Vs K x0) u → Q r u → Q' r u) (hX : ∀ e u, (Vs K x0) u → X e u → X' e u) (hx : (Vs K x0) x) : w_X11_tableOf l0 l1 x Q X → w_X11_tableOf l0 l1 x Q' X' := by
  unfold w_X11_tableOf
  refine q_getF (fun _ => ?_)
  refine q_recv ?_
  refine fk_X9_tableAt (fun _ y1 h1 => ?_) hx
  refine q_if ?_ ?_
  · skip
    exact vk_throw h1 hX
  · skip
    exact hQ _ _ h1
theorem fk_X11_index {l0 : Option Nat} {l1 : Int32} {l2 : Int32} {x : HS} {Q Q' : Int32 → HS → Prop} {X X' : String → HS → Prop} (hQ : ∀ r u, (Vs K x0) u → Q r u → Q' r u) (hX : ∀ e u, (Vs K x0) u → X e u → X' e u) (hx : (Vs K x0) x) : w_X11_index l0 l1 l2 x Q X → w_X11_index l0 l1 l2 x Q' X' := by
  unfold w_X11_index
  refine q_recv ?_
  refine fk_X11_tableOf (fun _ y1 h1 => ?_) hX hx
  refine q_getI (fun _ => ?_)
  refine fk_X11_requireRange (fun  y2 h2 => ?_) hX h1
  refine q_recv ?_
  refine fk_X10_makeIndex (fun _ y3 h3 => ?_) h2
  refine q_join1 (P := (Vs K x0)) (fun _ y4 h4 => ?_) (fun _ _ k4 => ?_)
  · skip
    exact hQ _ _ h4
  · skip
    refine q_if ?_ ?_
    · skip
      exact k4 _ _ h3
    · skip
      exact k4 _ _ h3
theorem fk_X11_key {l0 : Option Nat} {l1 : Int32} {l2 : Int32} {x : HS} {Q Q' : Int32 → HS → Prop} {X X' : String → HS → Prop} (hQ : ∀ r u, (Vs K x0) u → Q r u → Q' r u) (hX : ∀ e u, (Vs K x0) u → X e u → X' e u) (hx : (Vs K x0) x) : w_X11_key l0 l1 l2 x Q X → w_X11_key l0 l1 l2 x Q' X' := by
  unfold w_X11_key
  refine q_recv ?_
  refine fk_X11_tableOf (fun _ y1 h1 => ?_) hX hx
  refine q_recv ?_
  refine fk_X10_allColumns (fun _ y2 h2 => ?_) h1
  refine fk_X11_requireRange (fun  y3 h3 => ?_) hX h2
  refine q_recv ?_
  refine fk_X10_hasTwins (fun _ y4 h4 => ?_) h3
  refine q_if ?_ ?_
  · skip
    refine q_recv ?_
    refine fk_X10_hasKey (fun _ y5 h5 => ?_) h4
    refine q_if ?_ ?_
    · skip
      refine q_recv ?_
      refine fk_X10_makeKey (fun _ y6 h6 => ?_) h5
      refine q_if ?_ ?_
      · skip
        exact vk_throw h6 hX
      · skip
        exact hQ _ _ h6
    · skip
      exact hQ _ _ h5
  · skip
    exact vk_throw h4 hX
theorem fk_X11_add {l0 : Option Nat} {l1 : Int32} {l2 : Int32} {x : HS} {Q Q' : Int32 → HS → Prop} {X X' : String → HS → Prop} (hQ : ∀ r u, (Vs K x0) u → Q r u → Q' r u) (hX : ∀ e u, (Vs K x0) u → X e u → X' e u) (hx : (Vs K x0) x) : w_X11_add l0 l1 l2 x Q X → w_X11_add l0 l1 l2 x Q' X' := by
  unfold w_X11_add
  refine fk_X11_requireRange (fun  y1 h1 => ?_) hX hx
  refine q_recv ?_
  refine fk_X11_tableOf (fun _ y2 h2 => ?_) hX h1
  refine vk_getA (by decide) h2 (fun _ n3 => ?_)
  refine q_recv ?_
  refine fk_X10_breaksKey (fun _ y4 h4 => ?_) h2
  refine q_if ?_ ?_
  · skip
    refine q_getF (fun _ => ?_)
    refine vk_getA (by decide) h4 (fun _ n5 => ?_)
    refine q_recv ?_
    refine fk_X9_come (fun _ y6 h6 => ?_) h4
    refine q_if ?_ ?_
    · skip
      exact vk_throw h6 hX
    · skip
      refine q_join1 (P := (Vs K x0)) (fun _ y7 h7 => ?_) (fun _ _ k7 => ?_)
      · skip
        refine q_recv ?_
        refine fk_X10_place (fun  y8 h8 => ?_) h7
        refine q_getI (fun _ => ?_)
        exact hQ _ _ h8
      · skip
        refine q_if ?_ ?_
        · skip
          exact k7 _ _ h6
        · skip
          exact k7 _ _ h6
  · skip
    exact vk_throw h4 hX
theorem fk_X11_requireTime {l0 : Option Nat} {l1 : Int32} {x : HS} {Q Q' : HS → Prop} {X X' : String → HS → Prop} (hQ : ∀ u, (Vs K x0) u → Q u → Q' u) (hX : ∀ e u, (Vs K x0) u → X e u → X' e u) (hx : (Vs K x0) x) : w_X11_requireTime l0 l1 x Q X → w_X11_requireTime l0 l1 x Q' X' := by
  unfold w_X11_requireTime
  refine q_join0 (P := (Vs K x0)) (fun y1 h1 => ?_) (fun _ _ k1 => ?_)
  · skip
    exact hQ _ h1
  · skip
    refine q_if ?_ ?_
    · skip
      exact k1 _ hx
    · skip
      refine q_getF (fun _ => ?_)
      refine q_getI (fun _ => ?_)
      refine q_getF (fun _ => ?_)
      refine q_getI (fun _ => ?_)
      refine fk_X11_requireRange (fun  y2 h2 => ?_) hX hx
      exact k1 _ h2
theorem fk_X11_requireLook {l0 : Option Nat} {l1 : Int32} {l2 : Int32} {l3 : Int32} {x : HS} {Q Q' : HS → Prop} {X X' : String → HS → Prop} (hQ : ∀ u, (Vs K x0) u → Q u → Q' u) (hX : ∀ e u, (Vs K x0) u → X e u → X' e u) (hx : (Vs K x0) x) : w_X11_requireLook l0 l1 l2 l3 x Q X → w_X11_requireLook l0 l1 l2 l3 x Q' X' := by
  unfold w_X11_requireLook
  refine fk_X11_requireRange (fun  y1 h1 => ?_) hX hx
  refine q_recv ?_
  refine fk_X11_requireTime (fun  y2 h2 => ?_) hX h1
  refine q_recv ?_
  refine fk_X11_tableOf (fun _ y3 h3 => ?_) hX h2
  exact hQ _ h3
theorem fk_X11_beginLook {l0 : Option Nat} {l1 : Option Nat} {l2 : Int32} {l3 : Int32} {l4 : Int32} {x : HS} {Q Q' : HS → Prop} {X X' : String → HS → Prop} (hQ : ∀ u, (Vs K x0) u → Q u → Q' u) (hX : ∀ e u, (Vs K x0) u → X e u → X' e u) (hx : (Vs K x0) x) : w_X11_beginLook l0 l1 l2 l3 l4 x Q X → w_X11_beginLook l0 l1 l2 l3 l4 x Q' X' := by
  unfold w_X11_beginLook
  refine q_recv ?_
  refine fk_X11_requireLook (fun  y1 h1 => ?_) hX hx
  refine q_recv ?_
  refine fk_X11_tableOf (fun _ y2 h2 => ?_) hX h1
  refine vk_getA (by decide) h2 (fun _ n3 => ?_)
  refine q_getF (fun _ => ?_)
  refine q_recv ?_
  refine fk_X9_timeOf (fun _ y4 h4 => ?_) h2
  refine q_recv ?_
  refine fk_X5_begin (fun  y5 h5 => ?_) h4
  exact hQ _ h5
theorem fk_X11_numberOf {l0 : Option Nat} {x : HS} {Q Q' : Int32 → HS → Prop} {X X' : String → HS → Prop} (hQ : ∀ r u, (Vs K x0) u → Q r u → Q' r u) (hx : (Vs K x0) x) : w_X11_numberOf l0 x Q X → w_X11_numberOf l0 x Q' X' := by
  unfold w_X11_numberOf
  refine q_join1 (P := (Vs K x0)) (fun _ y1 h1 => ?_) (fun _ _ k1 => ?_)
  · skip
    exact hQ _ _ h1
  · skip
    refine q_if ?_ ?_
    · skip
      exact k1 _ _ hx
    · skip
      refine q_getI (fun _ => ?_)
      exact k1 _ _ hx
theorem fk_X11_removeFirst {l0 : Option Nat} {x : HS} {Q Q' : Int32 → HS → Prop} {X X' : String → HS → Prop} (hQ : ∀ r u, (Vs K x0) u → Q r u → Q' r u) (hx : (Vs K x0) x) : w_X11_removeFirst l0 x Q X → w_X11_removeFirst l0 x Q' X' := by
  unfold w_X11_removeFirst
  refine q_getF (fun _ => ?_)
  refine q_recv ?_
  refine fk_X5_advance (fun _ y1 h1 => ?_) hx
  refine q_join0 (P := (Vs K x0)) (fun y2 h2 => ?_) (fun _ _ k2 => ?_)
  · skip
    refine fk_X11_numberOf (fun _ y3 h3 => ?_) h2
    exact hQ _ _ h3
  · skip
    refine q_if ?_ ?_
    · skip
      exact k2 _ h1
    · skip
      refine q_getF (fun _ => ?_)
      refine q_recv ?_
      refine fk_X9_go (fun  y4 h4 => ?_) h1
      exact k2 _ h4
theorem fk_X11_removeAll {l0 : Option Nat} {x : HS} {Q Q' : Int32 → HS → Prop} {X X' : String → HS → Prop} (hQ : ∀ r u, (Vs K x0) u → Q r u → Q' r u) (hx : (Vs K x0) x) : w_X11_removeAll l0 x Q X → w_X11_removeAll l0 x Q' X' := by
  unfold w_X11_removeAll
  refine q_loop (P := (Vs K x0)) hx (fun v4 x3 _ _ h1 k1 => ?_)
  refine q_join0 (P := (Vs K x0)) (fun y2 h2 => ?_) (fun _ _ k2 => ?_)
  · skip
    exact hQ _ _ h2
  · skip
    refine q_if ?_ ?_
    · skip
      exact k2 _ h1
    · skip
      refine q_getF (fun _ => ?_)
      refine q_recv ?_
      refine fk_X5_advance (fun _ y3 h3 => ?_) h1
      refine q_if ?_ ?_
      · skip
        exact k2 _ h3
      · skip
        refine q_getF (fun _ => ?_)
        refine q_recv ?_
        refine fk_X9_go (fun  y4 h4 => ?_) h3
        exact k1 _ _ h4
theorem fk_X11_remove {l0 : Option Nat} {l1 : Int32} {l2 : Int32} {l3 : Int32} {x : HS} {Q Q' : Int32 → HS → Prop} {X X' : String → HS → Prop} (hQ : ∀ r u, (Vs K x0) u → Q r u → Q' r u) (hX : ∀ e u, (Vs K x0) u → X e u → X' e u) (hx : (Vs K x0) x) : w_X11_remove l0 l1 l2 l3 x Q X → w_X11_remove l0 l1 l2 l3 x Q' X' := by
  unfold w_X11_remove
  refine fk_X11_requireRange (fun  y1 h1 => ?_) hX hx
  refine q_getF (fun _ => ?_)
  refine q_recv ?_
  refine fk_X11_beginLook (fun  y2 h2 => ?_) hX h1
  refine q_join1 (P := (Vs K x0)) (fun _ y3 h3 => ?_) (fun _ _ k3 => ?_)
  · skip
    refine q_getF (fun _ => ?_)
    refine q_recv ?_
    refine fk_X5_takeLookedAt (fun _ y4 h4 => ?_) h3
    refine vk_putI (by decide) h4 (fun x12 h5 => ?_)
    exact hQ _ _ h5
  · skip
    refine q_if ?_ ?_
    · skip
      refine q_recv ?_
      refine fk_X11_removeFirst (fun _ y6 h6 => ?_) h2
      exact k3 _ _ h6
    · skip
      refine q_recv ?_
      refine fk_X11_removeAll (fun _ y7 h7 => ?_) h2
      exact k3 _ _ h7
theorem fk_X11_find {l0 : Option Nat} {l1 : Int32} {l2 : Int32} {l3 : Int32} {x : HS} {Q Q' : Int32 → HS → Prop} {X X' : String → HS → Prop} (hQ : ∀ r u, (Vs K x0) u → Q r u → Q' r u) (hX : ∀ e u, (Vs K x0) u → X e u → X' e u) (hx : (Vs K x0) x) : w_X11_find l0 l1 l2 l3 x Q X → w_X11_find l0 l1 l2 l3 x Q' X' := by
  unfold w_X11_find
  refine q_getF (fun _ => ?_)
  refine q_recv ?_
  refine fk_X11_beginLook (fun  y1 h1 => ?_) hX hx
  refine q_getF (fun _ => ?_)
  refine q_recv ?_
  refine fk_X5_advance (fun _ y2 h2 => ?_) h1
  refine q_getF (fun _ => ?_)
  refine q_recv ?_
  refine fk_X5_takeLookedAt (fun _ y3 h3 => ?_) h2
  refine vk_putI (by decide) h3 (fun x10 h4 => ?_)
  refine fk_X11_numberOf (fun _ y5 h5 => ?_) h4
  exact hQ _ _ h5
theorem fk_X11_many {l0 : Option Nat} {l1 : Int32} {l2 : Int32} {l3 : Int32} {x : HS} {Q Q' : Int32 → HS → Prop} {X X' : String → HS → Prop} (hQ : ∀ r u, (Vs K x0) u → Q r u → Q' r u) (hX : ∀ e u, (Vs K x0) u → X e u → X' e u) (hx : (Vs K x0) x) : w_X11_many l0 l1 l2 l3 x Q X → w_X11_many l0 l1 l2 l3 x Q' X' := by
  unfold w_X11_many
  refine q_getF (fun _ => ?_)
  refine q_recv ?_
  refine fk_X11_beginLook (fun  y1 h1 => ?_) hX hx
  refine q_loop (P := (Vs K x0)) h1 (fun v7 x6 _ _ h2 k2 => ?_)
  refine q_join0 (P := (Vs K x0)) (fun y3 h3 => ?_) (fun _ _ k3 => ?_)
  · skip
    refine q_getF (fun _ => ?_)
    refine q_recv ?_
    refine fk_X5_takeLookedAt (fun _ y4 h4 => ?_) h3
    refine vk_putI (by decide) h4 (fun x13 h5 => ?_)
    exact hQ _ _ h5
  · skip
    refine q_if ?_ ?_
    · skip
      exact k3 _ h2
    · skip
      refine q_getF (fun _ => ?_)
      refine q_recv ?_
      refine fk_X5_advance (fun _ y6 h6 => ?_) h2
      refine q_if ?_ ?_
      · skip
        exact k3 _ h6
      · skip
        exact k2 _ _ h6
theorem fk_X11_freeCursor {l0 : Option Nat} {x : HS} {Q Q' : Int32 → HS → Prop} {X X' : String → HS → Prop} (hQ : ∀ r u, (Vs K x0) u → Q r u → Q' r u) (hx : (Vs K x0) x) : w_X11_freeCursor l0 x Q X → w_X11_freeCursor l0 x Q' X' := by
  unfold w_X11_freeCursor
  refine q_loop (P := (Vs K x0)) hx (fun v4 x3 _ _ h1 k1 => ?_)
  refine q_if ?_ ?_
  · skip
    exact hQ _ _ h1
  · skip
    refine q_getF (fun _ => ?_)
    refine q_aldJ (fun _ => ?_)
    refine q_if ?_ ?_
    · skip
      exact hQ _ _ h1
    · skip
      exact k1 _ _ h1
theorem fk_X11_open {l0 : Option Nat} {l1 : Int32} {l2 : Int32} {l3 : Int32} {x : HS} {Q Q' : Int32 → HS → Prop} {X X' : String → HS → Prop} (hQ : ∀ r u, (Vs K x0) u → Q r u → Q' r u) (hX : ∀ e u, (Vs K x0) u → X e u → X' e u) (hx : (Vs K x0) x) : w_X11_open l0 l1 l2 l3 x Q X → w_X11_open l0 l1 l2 l3 x Q' X' := by
  unfold w_X11_open
  refine q_recv ?_
  refine fk_X11_requireLook (fun  y1 h1 => ?_) hX hx
  refine q_recv ?_
  refine fk_X11_freeCursor (fun _ y2 h2 => ?_) h1
  refine q_if ?_ ?_
  · skip
    exact vk_throw h2 hX
  · skip
    refine q_getF (fun _ => ?_)
    refine q_aldG (fun _ => ?_)
    refine q_recv ?_
    refine fk_X11_beginLook (fun  y3 h3 => ?_) hX h2
    refine q_getF (fun _ => ?_)
    refine vk_astZ h3 (fun x10 h4 => ?_)
    exact hQ _ _ h4
theorem fk_X11_requireOpen {l0 : Option Nat} {l1 : Int32} {x : HS} {Q Q' : HS → Prop} {X X' : String → HS → Prop} (hQ : ∀ u, (Vs K x0) u → Q u → Q' u) (hX : ∀ e u, (Vs K x0) u → X e u → X' e u) (hx : (Vs K x0) x) : w_X11_requireOpen l0 l1 x Q X → w_X11_requireOpen l0 l1 x Q' X' := by
  unfold w_X11_requireOpen
  refine fk_X11_requireRange (fun  y1 h1 => ?_) hX hx
  refine q_getF (fun _ => ?_)
  refine q_aldJ (fun _ => ?_)
  refine q_if ?_ ?_
  · skip
    exact vk_throw h1 hX
  · skip
    exact hQ _ h1
theorem fk_X11_next {l0 : Option Nat} {l1 : Int32} {x : HS} {Q Q' : Int32 → HS → Prop} {X X' : String → HS → Prop} (hQ : ∀ r u, (Vs K x0) u → Q r u → Q' r u) (hX : ∀ e u, (Vs K x0) u → X e u → X' e u) (hx : (Vs K x0) x) : w_X11_next l0 l1 x Q X → w_X11_next l0 l1 x Q' X' := by
  unfold w_X11_next
  refine q_recv ?_
  refine fk_X11_requireOpen (fun  y1 h1 => ?_) hX hx
  refine q_getF (fun _ => ?_)
  refine q_aldG (fun _ => ?_)
  refine q_recv ?_
  refine fk_X5_advance (fun _ y2 h2 => ?_) h1
  refine q_getF (fun _ => ?_)
  refine q_aldG (fun _ => ?_)
  refine q_recv ?_
  refine fk_X5_takeLookedAt (fun _ y3 h3 => ?_) h2
  refine vk_putI (by decide) h3 (fun x11 h4 => ?_)
  refine fk_X11_numberOf (fun _ y5 h5 => ?_) h4
  exact hQ _ _ h5
theorem fk_X11_close {l0 : Option Nat} {l1 : Int32} {x : HS} {Q Q' : Int32 → HS → Prop} {X X' : String → HS → Prop} (hQ : ∀ r u, (Vs K x0) u → Q r u → Q' r u) (hX : ∀ e u, (Vs K x0) u → X e u → X' e u) (hx : (Vs K x0) x) : w_X11_close l0 l1 x Q X → w_X11_close l0 l1 x Q' X' := by
  unfold w_X11_close
  refine q_recv ?_
  refine fk_X11_requireOpen (fun  y1 h1 => ?_) hX hx
  refine q_getF (fun _ => ?_)
  refine vk_astZ h1 (fun x4 h2 => ?_)
  refine q_getF (fun _ => ?_)
  refine q_aldG (fun _ => ?_)
  refine q_getI (fun _ => ?_)
  exact hQ _ _ h2
theorem fk_X11_fact {l0 : Option Nat} {l1 : Int32} {l2 : Int32} {x : HS} {Q Q' : Int32 → HS → Prop} {X X' : String → HS → Prop} (hQ : ∀ r u, (Vs K x0) u → Q r u → Q' r u) (hX : ∀ e u, (Vs K x0) u → X e u → X' e u) (hx : (Vs K x0) x) : w_X11_fact l0 l1 l2 x Q X → w_X11_fact l0 l1 l2 x Q' X' := by
  unfold w_X11_fact
  refine fk_X11_requireRange (fun  y1 h1 => ?_) hX hx
  refine q_getF (fun _ => ?_)
  refine q_recv ?_
  refine fk_X9_withNumber (fun _ y2 h2 => ?_) h1
  refine q_if ?_ ?_
  · skip
    exact vk_throw h2 hX
  · skip
    refine q_if ?_ ?_
    · skip
      refine q_getF (fun _ => ?_)
      refine q_getI (fun _ => ?_)
      exact hQ _ _ h2
    · skip
      refine q_if ?_ ?_
      · skip
        refine q_getI (fun _ => ?_)
        exact hQ _ _ h2
      · skip
        refine q_if ?_ ?_
        · skip
          refine q_getI (fun _ => ?_)
          exact hQ _ _ h2
        · skip
          refine q_if ?_ ?_
          · skip
            refine q_getF (fun _ => ?_)
            refine q_getF (fun _ => ?_)
            refine q_recv ?_
            refine fk_X0_factsAhead (fun _ y3 h3 => ?_) h2
            exact hQ _ _ h3
          · skip
            refine vk_getA (by decide) h2 (fun _ n4 => ?_)
            refine q_aldJ (fun _ => ?_)
            exact hQ _ _ h2
theorem fk_X11_mark {l0 : Option Nat} {x : HS} {Q Q' : Int32 → HS → Prop} {X X' : String → HS → Prop} (hQ : ∀ r u, (Vs K x0) u → Q r u → Q' r u) (hX : ∀ e u, (Vs K x0) u → X e u → X' e u) (hx : (Vs K x0) x) : w_X11_mark l0 x Q X → w_X11_mark l0 x Q' X' := by
  unfold w_X11_mark
  refine q_getF (fun _ => ?_)
  refine q_getF (fun _ => ?_)
  refine q_recv ?_
  refine fk_X3_makeMark (fun _ y1 h1 => ?_) hx
  refine q_if ?_ ?_
  · skip
    exact vk_throw h1 hX
  · skip
    refine q_getF (fun _ => ?_)
    refine q_getF (fun _ => ?_)
    refine q_getI (fun _ => ?_)
    exact hQ _ _ h1
theorem fk_X11_back {l0 : Option Nat} {l1 : Int32} {x : HS} {Q Q' : Int32 → HS → Prop} {X X' : String → HS → Prop} (hQ : ∀ r u, (Vs K x0) u → Q r u → Q' r u) (hX : ∀ e u, (Vs K x0) u → X e u → X' e u) (hx : (Vs K x0) x) : w_X11_back l0 l1 x Q X → w_X11_back l0 l1 x Q' X' := by
  unfold w_X11_back
  refine q_getF (fun _ => ?_)
  refine q_getF (fun _ => ?_)
  refine q_getI (fun _ => ?_)
  refine q_if ?_ ?_
  · skip
    exact vk_throw hx hX
  · skip
    refine q_join0 (P := (Vs K x0)) (fun y1 h1 => ?_) (fun _ _ k1 => ?_)
    · skip
      refine q_getF (fun _ => ?_)
      refine q_getF (fun _ => ?_)
      refine q_recv ?_
      refine fk_X3_dropMark (fun _ y2 h2 => ?_) h1
      refine q_join1 (P := (Vs K x0)) (fun _ y3 h3 => ?_) (fun _ _ k3 => ?_)
      · skip
        refine q_getF (fun _ => ?_)
        refine q_getF (fun _ => ?_)
        refine q_recv ?_
        refine fk_X3_forgetWithoutMarks (fun  y4 h4 => ?_) h3
        exact hQ _ _ h4
      · skip
        refine q_if ?_ ?_
        · skip
          exact k3 _ _ h2
        · skip
          refine q_getF (fun _ => ?_)
          refine q_recv ?_
          refine fk_X9_turn (fun _ y5 h5 => ?_) h2
          exact k3 _ _ h5
    · skip
      refine q_if ?_ ?_
      · skip
        exact k1 _ hx
      · skip
        refine q_getF (fun _ => ?_)
        refine q_recv ?_
        refine fk_X9_hasRoomToTurn (fun _ y6 h6 => ?_) hx
        refine q_if ?_ ?_
        · skip
          exact vk_throw h6 hX
        · skip
          exact k1 _ h6
theorem fk_X11_openCursors {l0 : Option Nat} {x : HS} {Q Q' : Int32 → HS → Prop} {X X' : String → HS → Prop} (hQ : ∀ r u, (Vs K x0) u → Q r u → Q' r u) (hx : (Vs K x0) x) : w_X11_openCursors l0 x Q X → w_X11_openCursors l0 x Q' X' := by
  unfold w_X11_openCursors
  refine q_loop (P := (Vs K x0)) hx (fun v4 x3 _ _ h1 k1 => ?_)
  refine q_if ?_ ?_
  · skip
    exact hQ _ _ h1
  · skip
    refine q_getF (fun _ => ?_)
    refine q_aldJ (fun _ => ?_)
    refine q_join1 (P := (Vs K x0)) (fun _ y2 h2 => ?_) (fun _ _ k2 => ?_)
    · skip
      exact k1 _ _ h2
    · skip
      refine q_if ?_ ?_
      · skip
        exact k2 _ _ h1
      · skip
        exact k2 _ _ h1
theorem fk_X11_purge {l0 : Option Nat} {l1 : Int32} {x : HS} {Q Q' : Int32 → HS → Prop} {X X' : String → HS → Prop} (hQ : ∀ r u, (Vs K x0) u → Q r u → Q' r u) (hX : ∀ e u, (Vs K x0) u → X e u → X' e u) (hx : (Vs K x0) x) : w_X11_purge l0 l1 x Q X → w_X11_purge l0 l1 x Q' X' := by
  unfold w_X11_purge
  refine q_recv ?_
  refine fk_X11_requireTime (fun  y1 h1 => ?_) hX hx
  refine q_recv ?_
  refine fk_X11_openCursors (fun _ y2 h2 => ?_) h1
  refine q_join0 (P := (Vs K x0)) (fun y3 h3 => ?_) (fun _ _ k3 => ?_)
  · skip
    exact vk_throw h3 hX
  · skip
    refine q_if ?_ ?_
    · skip
      exact k3 _ h2
    · skip
      refine q_getF (fun _ => ?_)
      refine q_getF (fun _ => ?_)
      refine q_getI (fun _ => ?_)
      refine q_if ?_ ?_
      · skip
        refine q_getF (fun _ => ?_)
        refine q_getF (fun _ => ?_)
        refine q_recv ?_
        refine fk_X9_timeOf (fun _ y4 h4 => ?_) h2
        refine q_recv ?_
        refine fk_X9_forgetDead (fun _ y5 h5 => ?_) h4
        exact hQ _ _ h5
      · skip
        exact k3 _ h2
theorem fk_X11_putFound {l0 : Option Nat} {l1 : Int32} {x : HS} {Q Q' : HS → Prop} {X X' : String → HS → Prop} (hQ : ∀ u, (Vs K x0) u → Q u → Q' u) (hx : (Vs K x0) x) : w_X11_putFound l0 l1 x Q X → w_X11_putFound l0 l1 x Q' X' := by
  unfold w_X11_putFound
  refine q_getI (fun _ => ?_)
  refine q_join0 (P := (Vs K x0)) (fun y1 h1 => ?_) (fun _ _ k1 => ?_)
  · skip
    exact hQ _ h1
  · skip
    refine q_if ?_ ?_
    · skip
      exact k1 _ hx
    · skip
      refine vk_getA (by decide) hx (fun _ n2 => ?_)
      refine q_getI (fun _ => ?_)
      refine vk_astI n2 hx (fun x6 h3 => ?_)
      refine q_getI (fun _ => ?_)
      refine vk_putI (by decide) h3 (fun x8 h4 => ?_)
      exact k1 _ h4
theorem fk_X11_changes {l0 : Option Nat} {l1 : Int32} {l2 : Int32} {l3 : Int32} {x : HS} {Q Q' : Int32 → HS → Prop} {X X' : String → HS → Prop} (hQ : ∀ r u, (Vs K x0) u → Q r u → Q' r u) (hX : ∀ e u, (Vs K x0) u → X e u → X' e u) (hx : (Vs K x0) x) : w_X11_changes l0 l1 l2 l3 x Q X → w_X11_changes l0 l1 l2 l3 x Q' X' := by
  unfold w_X11_changes
  refine q_recv ?_
  refine fk_X11_requireTime (fun  y1 h1 => ?_) hX hx
  refine q_recv ?_
  refine fk_X11_requireTime (fun  y2 h2 => ?_) hX h1
  refine q_recv ?_
  refine fk_X11_tableOf (fun _ y3 h3 => ?_) hX h2
  refine q_getF (fun _ => ?_)
  refine q_recv ?_
  refine fk_X9_timeOf (fun _ y4 h4 => ?_) h3
  refine q_getF (fun _ => ?_)
  refine q_recv ?_
  refine fk_X9_timeOf (fun _ y5 h5 => ?_) h4
  refine vk_putI (by decide) h5 (fun x13 h6 => ?_)
  refine q_getF (fun _ => ?_)
  refine q_getF (fun _ => ?_)
  refine q_loop (P := (Vs K x0)) h6 (fun v19 x18 _ _ h7 k7 => ?_)
  refine q_if ?_ ?_
  · skip
    refine q_getF (fun _ => ?_)
    refine q_getF (fun _ => ?_)
    refine q_loop (P := (Vs K x0)) h7 (fun v25 x24 _ _ h8 k8 => ?_)
    refine q_if ?_ ?_
    · skip
      refine q_getI (fun _ => ?_)
      exact hQ _ _ h8
    · skip
      refine q_recv ?_
      refine fk_X1_isThere (fun _ y9 h9 => ?_) h8
      refine q_join0 (P := (Vs K x0)) (fun y10 h10 => ?_) (fun _ _ k10 => ?_)
      · skip
        refine q_getF (fun _ => ?_)
        refine q_aldG (fun _ => ?_)
        exact k8 _ _ h10
      · skip
        refine q_if ?_ ?_
        · skip
          exact k10 _ h9
        · skip
          refine q_recv ?_
          refine fk_X1_isThere (fun _ y11 h11 => ?_) h9
          refine q_if ?_ ?_
          · skip
            refine q_getI (fun _ => ?_)
            refine q_recv ?_
            refine fk_X11_putFound (fun  y12 h12 => ?_) h11
            exact k10 _ h12
          · skip
            exact k10 _ h11
  · skip
    refine q_recv ?_
    refine fk_X1_isThere (fun _ y13 h13 => ?_) h7
    refine q_join0 (P := (Vs K x0)) (fun y14 h14 => ?_) (fun _ _ k14 => ?_)
    · skip
      refine q_getF (fun _ => ?_)
      refine q_aldG (fun _ => ?_)
      exact k7 _ _ h14
    · skip
      refine q_if ?_ ?_
      · skip
        exact k14 _ h13
      · skip
        refine q_recv ?_
        refine fk_X1_isThere (fun _ y15 h15 => ?_) h13
        refine q_if ?_ ?_
        · skip
          refine q_getI (fun _ => ?_)
          refine q_recv ?_
          refine fk_X11_putFound (fun  y16 h16 => ?_) h15
          exact k14 _ h16
        · skip
          exact k14 _ h15
theorem fk_X11_found {l0 : Option Nat} {l1 : Int32} {x : HS} {Q Q' : Int32 → HS → Prop} {X X' : String → HS → Prop} (hQ : ∀ r u, (Vs K x0) u → Q r u → Q' r u) (hX : ∀ e u, (Vs K x0) u → X e u → X' e u) (hx : (Vs K x0) x) : w_X11_found l0 l1 x Q X → w_X11_found l0 l1 x Q' X' := by
  unfold w_X11_found
  refine q_join0 (P := (Vs K x0)) (fun y1 h1 => ?_) (fun _ _ k1 => ?_)
  · skip
    exact vk_throw h1 hX
  · skip
    refine q_if ?_ ?_
    · skip
      exact k1 _ hx
    · skip
      refine q_getI (fun _ => ?_)
      refine q_if ?_ ?_
      · skip
        refine vk_getA (by decide) hx (fun _ n2 => ?_)
        refine q_aldJ (fun _ => ?_)
        exact hQ _ _ hx
      · skip
        exact k1 _ hx
theorem fk_X11_solution {l0 : Option Nat} {l1 : Int32} {l2 : Int32} {x : HS} {Q Q' : Int32 → HS → Prop} {X X' : String → HS → Prop} (hQ : ∀ r u, (Vs K x0) u → Q r u → Q' r u) (hX : ∀ e u, (Vs K x0) u → X e u → X' e u) (hx : (Vs K x0) x) : w_X11_solution l0 l1 l2 x Q X → w_X11_solution l0 l1 l2 x Q' X' := by
  unfold w_X11_solution
  refine fk_X11_requireRange (fun  y1 h1 => ?_) hX hx
  refine q_getF (fun _ => ?_)
  refine q_getF (fun _ => ?_)
  refine q_join0 (P := (Vs K x0)) (fun y2 h2 => ?_) (fun _ _ k2 => ?_)
  · skip
    exact vk_throw h2 hX
  · skip
    refine q_if ?_ ?_
    · skip
      exact k2 _ h1
    · skip
      refine q_recv ?_
      refine fk_X7_keptCount (fun _ y3 h3 => ?_) h1
      refine q_if ?_ ?_
      · skip
        exact k2 _ h3
      · skip
        refine q_getI (fun _ => ?_)
        refine fk_X11_isIn (fun _ y4 h4 => ?_) h3
        refine q_if ?_ ?_
        · skip
          exact k2 _ h4
        · skip
          refine q_getF (fun _ => ?_)
          refine q_aldJ (fun _ => ?_)
          exact hQ _ _ h4
theorem fk_J6_bitCount_0f7a4 {l0 : Int32} {x : HS} {Q Q' : Int32 → HS → Prop} {X X' : String → HS → Prop} (hQ : ∀ r u, (Vs K x0) u → Q r u → Q' r u) (hx : (Vs K x0) x) : w_J6_bitCount_0f7a4 l0 x Q X → w_J6_bitCount_0f7a4 l0 x Q' X' := by
  unfold w_J6_bitCount_0f7a4
  exact hQ _ _ hx
theorem fk_X11_factsThereNow {l0 : Option Nat} {l1 : Int32} {x : HS} {Q Q' : Int32 → HS → Prop} {X X' : String → HS → Prop} (hQ : ∀ r u, (Vs K x0) u → Q r u → Q' r u) (hx : (Vs K x0) x) : w_X11_factsThereNow l0 l1 x Q X → w_X11_factsThereNow l0 l1 x Q' X' := by
  unfold w_X11_factsThereNow
  refine q_getF (fun _ => ?_)
  refine q_recv ?_
  refine fk_X9_tableAt (fun _ y1 h1 => ?_) hx
  refine q_join1 (P := (Vs K x0)) (fun _ y2 h2 => ?_) (fun _ _ k2 => ?_)
  · skip
    exact hQ _ _ h2
  · skip
    refine q_if ?_ ?_
    · skip
      exact k2 _ _ h1
    · skip
      refine q_recv ?_
      refine fk_X10_factsThereNow (fun _ y3 h3 => ?_) h1
      exact k2 _ _ h3
theorem fk_X11_count {l0 : Option Nat} {l1 : Int32} {x : HS} {Q Q' : Int32 → HS → Prop} {X X' : String → HS → Prop} (hQ : ∀ r u, (Vs K x0) u → Q r u → Q' r u) (hX : ∀ e u, (Vs K x0) u → X e u → X' e u) (hx : (Vs K x0) x) : w_X11_count l0 l1 x Q X → w_X11_count l0 l1 x Q' X' := by
  unfold w_X11_count
  refine fk_X11_requireRange (fun  y1 h1 => ?_) hX hx
  refine q_if ?_ ?_
  · skip
    refine q_getI (fun _ => ?_)
    exact hQ _ _ h1
  · skip
    refine q_if ?_ ?_
    · skip
      refine q_getF (fun _ => ?_)
      refine q_getI (fun _ => ?_)
      exact hQ _ _ h1
    · skip
      refine q_if ?_ ?_
      · skip
        refine q_getF (fun _ => ?_)
        refine q_getI (fun _ => ?_)
        exact hQ _ _ h1
      · skip
        refine q_if ?_ ?_
        · skip
          refine q_getF (fun _ => ?_)
          refine q_getI (fun _ => ?_)
          exact hQ _ _ h1
        · skip
          refine q_if ?_ ?_
          · skip
            refine q_getF (fun _ => ?_)
            refine q_getI (fun _ => ?_)
            exact hQ _ _ h1
          · skip
            refine q_if ?_ ?_
            · skip
              refine q_getI (fun _ => ?_)
              exact hQ _ _ h1
            · skip
              refine q_if ?_ ?_
              · skip
                refine q_getF (fun _ => ?_)
                refine q_getI (fun _ => ?_)
                exact hQ _ _ h1
              · skip
                refine q_if ?_ ?_
                · skip
                  refine q_recv ?_
                  refine fk_X11_openCursors (fun _ y2 h2 => ?_) h1
                  exact hQ _ _ h2
                · skip
                  refine q_if ?_ ?_
                  · skip
                    refine q_getF (fun _ => ?_)
                    refine q_getF (fun _ => ?_)
                    refine q_getI (fun _ => ?_)
                    exact hQ _ _ h1
                  · skip
                    refine q_if ?_ ?_
                    · skip
                      refine q_getF (fun _ => ?_)
                      refine q_getF (fun _ => ?_)
                      refine q_getI (fun _ => ?_)
                      refine fk_J6_bitCount_0f7a4 (fun _ y3 h3 => ?_) h1
                      exact hQ _ _ h3
                    · skip
                      refine q_recv ?_
                      refine fk_X11_factsThereNow (fun _ y4 h4 => ?_) h1
                      exact hQ _ _ h4
end HB1
