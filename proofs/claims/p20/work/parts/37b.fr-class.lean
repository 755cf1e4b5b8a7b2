set_option linter.unusedVariables false
/-! what v1 sees stays, in every method that does not write it: laid by wip/sim/frgen.py -/
theorem fr_X0_init {P : HS → Prop} (hP : CloR [(0, 0), (0, 1)] [(0, 2)] [] [] P) {l0 : Option Nat} {l1 : Int32} {l2 : Int32} {l3 : Option Nat} {x : HS} {Q Q' : HS → Prop} {X X' : String → HS → Prop} (hQ : ∀ u, P u → Q u → Q' u) (hx : P x) : w_X0_init l0 l1 l2 l3 x Q X → w_X0_init l0 l1 l2 l3 x Q' X' := by
  unfold w_X0_init
  refine q_ref ?_
  refine q_putI hP (by decide) hx (fun x1 h1 => ?_)
  refine q_putI hP (by decide) h1 (fun x2 h2 => ?_)
  refine q_putF hP (by decide) h2 (fun x3 h3 => ?_)
  exact hQ _ h3
theorem fr_X0_putAhead {P : HS → Prop} (hP : CloR [] [(0, 3), (0, 4)] [] [25] P) {l0 : Option Nat} {l1 : Option Nat} {x : HS} {Q Q' : HS → Prop} {X X' : String → HS → Prop} (hQ : ∀ u, P u → Q u → Q' u) (hx : P x) : w_X0_putAhead l0 l1 x Q X → w_X0_putAhead l0 l1 x Q' X' := by
  unfold w_X0_putAhead
  refine q_getF (fun _ => ?_)
  refine q_getI (fun _ => ?_)
  refine q_getF (fun _ => ?_)
  refine q_astG hP (by decide) hx (fun x4 h1 => ?_)
  refine q_putF hP (by decide) h1 (fun x5 h2 => ?_)
  refine q_getF (fun _ => ?_)
  refine q_join0 (P := P) (fun y3 h3 => ?_) (fun _ _ k3 => ?_)
  · skip
    exact hQ _ h3
  · skip
    refine q_if ?_ ?_
    · skip
      refine q_putF hP (by decide) h2 (fun x9 h4 => ?_)
      exact k3 _ h4
    · skip
      exact k3 _ h2
theorem fr_X0_putAfter {P : HS → Prop} (hP : CloR [] [(0, 4)] [] [25] P) {l0 : Option Nat} {l1 : Option Nat} {l2 : Option Nat} {x : HS} {Q Q' : HS → Prop} {X X' : String → HS → Prop} (hQ : ∀ u, P u → Q u → Q' u) (hx : P x) : w_X0_putAfter l0 l1 l2 x Q X → w_X0_putAfter l0 l1 l2 x Q' X' := by
  unfold w_X0_putAfter
  refine q_getF (fun _ => ?_)
  refine q_getI (fun _ => ?_)
  refine q_getF (fun _ => ?_)
  refine q_getI (fun _ => ?_)
  refine q_aldG (fun _ => ?_)
  refine q_astG hP (by decide) hx (fun x6 h1 => ?_)
  refine q_getF (fun _ => ?_)
  refine q_getI (fun _ => ?_)
  refine q_astG hP (by decide) h1 (fun x9 h2 => ?_)
  refine q_getF (fun _ => ?_)
  refine q_join0 (P := P) (fun y3 h3 => ?_) (fun _ _ k3 => ?_)
  · skip
    exact hQ _ h3
  · skip
    refine q_if ?_ ?_
    · skip
      refine q_putF hP (by decide) h2 (fun x13 h4 => ?_)
      exact k3 _ h4
    · skip
      exact k3 _ h2
theorem fr_X0_putBehind {P : HS → Prop} (hP : CloR [] [(0, 3), (0, 4)] [] [25] P) {l0 : Option Nat} {l1 : Option Nat} {x : HS} {Q Q' : HS → Prop} {X X' : String → HS → Prop} (hQ : ∀ u, P u → Q u → Q' u) (hx : P x) : w_X0_putBehind l0 l1 x Q X → w_X0_putBehind l0 l1 x Q' X' := by
  unfold w_X0_putBehind
  refine q_getF (fun _ => ?_)
  refine q_join0 (P := P) (fun y1 h1 => ?_) (fun _ _ k1 => ?_)
  · skip
    exact hQ _ h1
  · skip
    refine q_if ?_ ?_
    · skip
      refine q_recv ?_
      refine fr_X0_putAhead (hP.mono (by decide) (by decide) (by decide) (by decide)) (fun  y2 h2 => ?_) hx
      exact k1 _ h2
    · skip
      refine q_getF (fun _ => ?_)
      refine q_recv ?_
      refine fr_X0_putAfter (hP.mono (by decide) (by decide) (by decide) (by decide)) (fun  y3 h3 => ?_) hx
      exact k1 _ h3
theorem fr_X0_empty {P : HS → Prop} (hP : CloR [] [(0, 3), (0, 4)] [] [] P) {l0 : Option Nat} {x : HS} {Q Q' : HS → Prop} {X X' : String → HS → Prop} (hQ : ∀ u, P u → Q u → Q' u) (hx : P x) : w_X0_empty l0 x Q X → w_X0_empty l0 x Q' X' := by
  unfold w_X0_empty
  refine q_putF hP (by decide) hx (fun x1 h1 => ?_)
  refine q_putF hP (by decide) h1 (fun x2 h2 => ?_)
  exact hQ _ h2
theorem fr_X0_factsAhead {P : HS → Prop} (hP : CloR [] [] [] [] P) {l0 : Option Nat} {l1 : Option Nat} {x : HS} {Q Q' : Int32 → HS → Prop} {X X' : String → HS → Prop} (hQ : ∀ r u, P u → Q r u → Q' r u) (hx : P x) : w_X0_factsAhead l0 l1 x Q X → w_X0_factsAhead l0 l1 x Q' X' := by
  unfold w_X0_factsAhead
  refine q_getF (fun _ => ?_)
  refine q_loop (P := P) hx (fun v5 x4 _ _ h1 k1 => ?_)
  refine q_join0 (P := P) (fun y2 h2 => ?_) (fun _ _ k2 => ?_)
  · skip
    exact hQ _ _ h2
  · skip
    refine q_if ?_ ?_
    · skip
      exact k2 _ h1
    · skip
      refine q_if ?_ ?_
      · skip
        exact k2 _ h1
      · skip
        refine q_getF (fun _ => ?_)
        refine q_getI (fun _ => ?_)
        refine q_aldG (fun _ => ?_)
        exact k1 _ _ h1
theorem fr_X1_init {P : HS → Prop} (hP : CloR [] [(1, 0), (1, 1)] [] [] P) {l0 : Option Nat} {x : HS} {Q Q' : HS → Prop} {X X' : String → HS → Prop} (hQ : ∀ u, P u → Q u → Q' u) (hx : P x) : w_X1_init l0 x Q X → w_X1_init l0 x Q' X' := by
  unfold w_X1_init
  refine q_ref ?_
  refine q_newJ hP (by decide) hx (fun q1 x2 h1 => ?_)
  refine q_putF hP (by decide) h1 (fun x3 h2 => ?_)
  refine q_newG hP (by decide) h2 (fun q4 x5 h3 => ?_)
  refine q_putF hP (by decide) h3 (fun x6 h4 => ?_)
  exact hQ _ h4
theorem fr_X1_isThere {P : HS → Prop} (hP : CloR [] [] [] [] P) {l0 : Option Nat} {l1 : Int32} {x : HS} {Q Q' : Int32 → HS → Prop} {X X' : String → HS → Prop} (hQ : ∀ r u, P u → Q r u → Q' r u) (hx : P x) : w_X1_isThere l0 l1 x Q X → w_X1_isThere l0 l1 x Q' X' := by
  unfold w_X1_isThere
  refine q_getI (fun _ => ?_)
  refine q_join1 (P := P) (fun _ y1 h1 => ?_) (fun _ _ k1 => ?_)
  · skip
    refine q_bit ?_
    exact hQ _ _ h1
  · skip
    refine q_join0 (P := P) (fun y2 h2 => ?_) (fun _ _ k2 => ?_)
    · skip
      exact k1 _ _ h2
    · skip
      refine q_if ?_ ?_
      · skip
        exact k2 _ hx
      · skip
        refine q_getI (fun _ => ?_)
        refine q_join0 (P := P) (fun y3 h3 => ?_) (fun _ _ k3 => ?_)
        · skip
          exact k1 _ _ h3
        · skip
          refine q_if ?_ ?_
          · skip
            exact k3 _ hx
          · skip
            refine q_getI (fun _ => ?_)
            refine q_if ?_ ?_
            · skip
              exact k2 _ hx
            · skip
              exact k3 _ hx
theorem fr_X1_isThereNow {P : HS → Prop} (hP : CloR [] [] [] [] P) {l0 : Option Nat} {x : HS} {Q Q' : Int32 → HS → Prop} {X X' : String → HS → Prop} (hQ : ∀ r u, P u → Q r u → Q' r u) (hx : P x) : w_X1_isThereNow l0 x Q X → w_X1_isThereNow l0 x Q' X' := by
  unfold w_X1_isThereNow
  refine q_getI (fun _ => ?_)
  refine q_join1 (P := P) (fun _ y1 h1 => ?_) (fun _ _ k1 => ?_)
  · skip
    refine q_bit ?_
    exact hQ _ _ h1
  · skip
    refine q_if ?_ ?_
    · skip
      exact k1 _ _ hx
    · skip
      exact k1 _ _ hx
theorem fr_X11_isIn {P : HS → Prop} (hP : CloR [] [] [] [] P) {l0 : Int32} {l1 : Int32} {x : HS} {Q Q' : Int32 → HS → Prop} {X X' : String → HS → Prop} (hQ : ∀ r u, P u → Q r u → Q' r u) (hx : P x) : w_X11_isIn l0 l1 x Q X → w_X11_isIn l0 l1 x Q' X' := by
  unfold w_X11_isIn
  refine q_join1 (P := P) (fun _ y1 h1 => ?_) (fun _ _ k1 => ?_)
  · skip
    refine q_bit ?_
    exact hQ _ _ h1
  · skip
    refine q_if ?_ ?_
    · skip
      exact k1 _ _ hx
    · skip
      exact k1 _ _ hx
theorem fr_X1_fits {P : HS → Prop} (hP : CloR [] [] [] [] P) {l0 : Option Nat} {l1 : Int32} {l2 : Option Nat} {x : HS} {Q Q' : Int32 → HS → Prop} {X X' : String → HS → Prop} (hQ : ∀ r u, P u → Q r u → Q' r u) (hx : P x) : w_X1_fits l0 l1 l2 x Q X → w_X1_fits l0 l1 l2 x Q' X' := by
  unfold w_X1_fits
  refine q_loop (P := P) hx (fun v4 x3 _ _ h1 k1 => ?_)
  refine q_if ?_ ?_
  · skip
    refine q_bit ?_
    exact hQ _ _ h1
  · skip
    refine fr_X11_isIn (hP.mono (by decide) (by decide) (by decide) (by decide)) (fun _ y2 h2 => ?_) h1
    refine q_join0 (P := P) (fun y3 h3 => ?_) (fun _ _ k3 => ?_)
    · skip
      exact k1 _ _ h3
    · skip
      refine q_if ?_ ?_
      · skip
        exact k3 _ h2
      · skip
        refine q_getF (fun _ => ?_)
        refine q_aldJ (fun _ => ?_)
        refine q_aldJ (fun _ => ?_)
        refine q_if ?_ ?_
        · skip
          exact k3 _ h2
        · skip
          refine q_bit ?_
          exact hQ _ _ h2
theorem fr_X2_init {P : HS → Prop} (hP : CloR [] [(2, 0), (2, 1)] [] [] P) {l0 : Option Nat} {x : HS} {Q Q' : HS → Prop} {X X' : String → HS → Prop} (hQ : ∀ u, P u → Q u → Q' u) (hx : P x) : w_X2_init l0 x Q X → w_X2_init l0 x Q' X' := by
  unfold w_X2_init
  refine q_ref ?_
  refine q_newJ hP (by decide) hx (fun q1 x2 h1 => ?_)
  refine q_putF hP (by decide) h1 (fun x3 h2 => ?_)
  refine q_newJ hP (by decide) h2 (fun q4 x5 h3 => ?_)
  refine q_putF hP (by decide) h3 (fun x6 h4 => ?_)
  exact hQ _ h4
theorem fr_X3_init {P : HS → Prop} (hP : CloR [] [(3, 0), (3, 1), (3, 2)] [] [] P) {l0 : Option Nat} {x : HS} {Q Q' : HS → Prop} {X X' : String → HS → Prop} (hQ : ∀ u, P u → Q u → Q' u) (hx : P x) : w_X3_init l0 x Q X → w_X3_init l0 x Q' X' := by
  unfold w_X3_init
  refine q_ref ?_
  refine q_newG hP (by decide) hx (fun q1 x2 h1 => ?_)
  refine q_putF hP (by decide) h1 (fun x3 h2 => ?_)
  refine q_newJ hP (by decide) h2 (fun q4 x5 h3 => ?_)
  refine q_putF hP (by decide) h3 (fun x6 h4 => ?_)
  refine q_newJ hP (by decide) h4 (fun q7 x8 h5 => ?_)
  refine q_putF hP (by decide) h5 (fun x9 h6 => ?_)
  exact hQ _ h6
theorem fr_X3_note {P : HS → Prop} (hP : CloR [(3, 3)] [] [22] [25] P) {l0 : Option Nat} {l1 : Option Nat} {l2 : Int32} {x : HS} {Q Q' : HS → Prop} {X X' : String → HS → Prop} (hQ : ∀ u, P u → Q u → Q' u) (hx : P x) : w_X3_note l0 l1 l2 x Q X → w_X3_note l0 l1 l2 x Q' X' := by
  unfold w_X3_note
  refine q_getI (fun _ => ?_)
  refine q_join0 (P := P) (fun y1 h1 => ?_) (fun _ _ k1 => ?_)
  · skip
    exact hQ _ h1
  · skip
    refine q_if ?_ ?_
    · skip
      exact k1 _ hx
    · skip
      refine q_getI (fun _ => ?_)
      refine q_getF (fun _ => ?_)
      refine q_len (fun _ => ?_)
      refine q_if ?_ ?_
      · skip
        exact k1 _ hx
      · skip
        refine q_getF (fun _ => ?_)
        refine q_getI (fun _ => ?_)
        refine q_astG hP (by decide) hx (fun x9 h2 => ?_)
        refine q_getF (fun _ => ?_)
        refine q_getI (fun _ => ?_)
        refine q_astZ hP (by decide) h2 (fun x12 h3 => ?_)
        refine q_getI (fun _ => ?_)
        refine q_putI hP (by decide) h3 (fun x14 h4 => ?_)
        exact k1 _ h4
theorem fr_X3_makeMark {P : HS → Prop} (hP : CloR [(3, 4)] [] [20] [] P) {l0 : Option Nat} {x : HS} {Q Q' : Int32 → HS → Prop} {X X' : String → HS → Prop} (hQ : ∀ r u, P u → Q r u → Q' r u) (hx : P x) : w_X3_makeMark l0 x Q X → w_X3_makeMark l0 x Q' X' := by
  unfold w_X3_makeMark
  refine q_getI (fun _ => ?_)
  refine q_if ?_ ?_
  · skip
    refine q_getF (fun _ => ?_)
    refine q_getI (fun _ => ?_)
    refine q_getI (fun _ => ?_)
    refine q_astI hP (by decide) hx (fun x5 h1 => ?_)
    refine q_getI (fun _ => ?_)
    refine q_putI hP (by decide) h1 (fun x7 h2 => ?_)
    refine q_bit ?_
    exact hQ _ _ h2
  · skip
    refine q_bit ?_
    exact hQ _ _ hx
theorem fr_X3_dropMark {P : HS → Prop} (hP : CloR [(3, 4)] [] [] [] P) {l0 : Option Nat} {x : HS} {Q Q' : Int32 → HS → Prop} {X X' : String → HS → Prop} (hQ : ∀ r u, P u → Q r u → Q' r u) (hx : P x) : w_X3_dropMark l0 x Q X → w_X3_dropMark l0 x Q' X' := by
  unfold w_X3_dropMark
  refine q_getI (fun _ => ?_)
  refine q_if ?_ ?_
  · skip
    refine q_getI (fun _ => ?_)
    exact hQ _ _ hx
  · skip
    refine q_getI (fun _ => ?_)
    refine q_putI hP (by decide) hx (fun x4 h1 => ?_)
    refine q_getF (fun _ => ?_)
    refine q_getI (fun _ => ?_)
    refine q_aldJ (fun _ => ?_)
    exact hQ _ _ h1
theorem fr_X3_goneSinceMark {P : HS → Prop} (hP : CloR [] [] [] [] P) {l0 : Option Nat} {x : HS} {Q Q' : Int32 → HS → Prop} {X X' : String → HS → Prop} (hQ : ∀ r u, P u → Q r u → Q' r u) (hx : P x) : w_X3_goneSinceMark l0 x Q X → w_X3_goneSinceMark l0 x Q' X' := by
  unfold w_X3_goneSinceMark
  refine q_getI (fun _ => ?_)
  refine q_join1 (P := P) (fun _ y1 h1 => ?_) (fun _ _ k1 => ?_)
  · skip
    exact hQ _ _ h1
  · skip
    refine q_if ?_ ?_
    · skip
      exact k1 _ _ hx
    · skip
      refine q_getF (fun _ => ?_)
      refine q_getI (fun _ => ?_)
      refine q_aldJ (fun _ => ?_)
      refine q_loop (P := P) hx (fun v11 x10 _ _ h2 k2 => ?_)
      refine q_getI (fun _ => ?_)
      refine q_if ?_ ?_
      · skip
        exact k1 _ _ h2
      · skip
        refine q_getF (fun _ => ?_)
        refine q_aldJ (fun _ => ?_)
        refine q_join1 (P := P) (fun _ y3 h3 => ?_) (fun _ _ k3 => ?_)
        · skip
          exact k2 _ _ h3
        · skip
          refine q_if ?_ ?_
          · skip
            exact k3 _ _ h2
          · skip
            exact k3 _ _ h2
theorem fr_X3_forgetWithoutMarks {P : HS → Prop} (hP : CloR [(3, 3)] [] [] [] P) {l0 : Option Nat} {x : HS} {Q Q' : HS → Prop} {X X' : String → HS → Prop} (hQ : ∀ u, P u → Q u → Q' u) (hx : P x) : w_X3_forgetWithoutMarks l0 x Q X → w_X3_forgetWithoutMarks l0 x Q' X' := by
  unfold w_X3_forgetWithoutMarks
  refine q_getI (fun _ => ?_)
  refine q_join0 (P := P) (fun y1 h1 => ?_) (fun _ _ k1 => ?_)
  · skip
    exact hQ _ h1
  · skip
    refine q_if ?_ ?_
    · skip
      refine q_putI hP (by decide) hx (fun x4 h2 => ?_)
      exact k1 _ h2
    · skip
      exact k1 _ hx
theorem fr_X4_init {P : HS → Prop} (hP : CloR [(4, 0)] [(4, 1)] [] [] P) {l0 : Option Nat} {l1 : Int32} {x : HS} {Q Q' : HS → Prop} {X X' : String → HS → Prop} (hQ : ∀ u, P u → Q u → Q' u) (hx : P x) : w_X4_init l0 l1 x Q X → w_X4_init l0 l1 x Q' X' := by
  unfold w_X4_init
  refine q_ref ?_
  refine q_newG hP (by decide) hx (fun q1 x2 h1 => ?_)
  refine q_putF hP (by decide) h1 (fun x3 h2 => ?_)
  refine q_putI hP (by decide) h2 (fun x4 h3 => ?_)
  exact hQ _ h3
theorem fr_X4_chainWith {P : HS → Prop} (hP : CloR [] [] [] [] P) {l0 : Option Nat} {l1 : Int32} {x : HS} {Q Q' : Option Nat → HS → Prop} {X X' : String → HS → Prop} (hQ : ∀ r u, P u → Q r u → Q' r u) (hx : P x) : w_X4_chainWith l0 l1 x Q X → w_X4_chainWith l0 l1 x Q' X' := by
  unfold w_X4_chainWith
  refine q_getF (fun _ => ?_)
  refine q_aldG (fun _ => ?_)
  refine q_loop (P := P) hx (fun v6 x5 _ _ h1 k1 => ?_)
  refine q_join0 (P := P) (fun y2 h2 => ?_) (fun _ _ k2 => ?_)
  · skip
    exact hQ _ _ h2
  · skip
    refine q_if ?_ ?_
    · skip
      exact k2 _ h1
    · skip
      refine q_getI (fun _ => ?_)
      refine q_if ?_ ?_
      · skip
        exact k2 _ h1
      · skip
        refine q_getF (fun _ => ?_)
        exact k1 _ _ h1
theorem fr_X4_chainFor {P : HS → Prop} (hP : CloR [(0, 0), (0, 1)] [(0, 2)] [] [29] P) {l0 : Option Nat} {l1 : Option Nat} {x : HS} {Q Q' : Option Nat → HS → Prop} {X X' : String → HS → Prop} (hQ : ∀ r u, P u → Q r u → Q' r u) (hx : P x) : w_X4_chainFor l0 l1 x Q X → w_X4_chainFor l0 l1 x Q' X' := by
  unfold w_X4_chainFor
  refine q_getF (fun _ => ?_)
  refine q_getI (fun _ => ?_)
  refine q_aldJ (fun _ => ?_)
  refine q_recv ?_
  refine fr_X4_chainWith (hP.mono (by decide) (by decide) (by decide) (by decide)) (fun _ y1 h1 => ?_) hx
  refine q_join1 (P := P) (fun _ y2 h2 => ?_) (fun _ _ k2 => ?_)
  · skip
    exact hQ _ _ h2
  · skip
    refine q_if ?_ ?_
    · skip
      refine q_new hP h1 (fun q9 x10 h3 => ?_)
      refine q_getI (fun _ => ?_)
      refine q_getF (fun _ => ?_)
      refine q_aldG (fun _ => ?_)
      refine fr_X0_init (hP.mono (by decide) (by decide) (by decide) (by decide)) (fun  y4 h4 => ?_) h3
      refine q_getF (fun _ => ?_)
      refine q_astG hP (by decide) h4 (fun x17 h5 => ?_)
      exact k2 _ _ h5
    · skip
      exact k2 _ _ h1
theorem fr_X4_empty {P : HS → Prop} (hP : CloR [] [(0, 3), (0, 4)] [] [] P) {l0 : Option Nat} {x : HS} {Q Q' : HS → Prop} {X X' : String → HS → Prop} (hQ : ∀ u, P u → Q u → Q' u) (hx : P x) : w_X4_empty l0 x Q X → w_X4_empty l0 x Q' X' := by
  unfold w_X4_empty
  refine q_loop (P := P) hx (fun v4 x3 _ _ h1 k1 => ?_)
  refine q_if ?_ ?_
  · skip
    exact hQ _ h1
  · skip
    refine q_getF (fun _ => ?_)
    refine q_aldG (fun _ => ?_)
    refine q_loop (P := P) h1 (fun v10 x9 _ _ h2 k2 => ?_)
    refine q_if ?_ ?_
    · skip
      exact k1 _ _ h2
    · skip
      refine q_recv ?_
      refine fr_X0_empty (hP.mono (by decide) (by decide) (by decide) (by decide)) (fun  y3 h3 => ?_) h2
      refine q_getF (fun _ => ?_)
      exact k2 _ _ h3
theorem fr_X5_init {P : HS → Prop} (hP : CloR [] [(5, 1)] [] [] P) {l0 : Option Nat} {x : HS} {Q Q' : HS → Prop} {X X' : String → HS → Prop} (hQ : ∀ u, P u → Q u → Q' u) (hx : P x) : w_X5_init l0 x Q X → w_X5_init l0 x Q' X' := by
  unfold w_X5_init
  refine q_ref ?_
  refine q_newJ hP (by decide) hx (fun q1 x2 h1 => ?_)
  refine q_putF hP (by decide) h1 (fun x3 h2 => ?_)
  exact hQ _ h2
theorem fr_X10_allColumns {P : HS → Prop} (hP : CloR [] [] [] [] P) {l0 : Option Nat} {x : HS} {Q Q' : Int32 → HS → Prop} {X X' : String → HS → Prop} (hQ : ∀ r u, P u → Q r u → Q' r u) (hx : P x) : w_X10_allColumns l0 x Q X → w_X10_allColumns l0 x Q' X' := by
  unfold w_X10_allColumns
  refine q_getI (fun _ => ?_)
  exact hQ _ _ hx
theorem fr_X5_begin {P : HS → Prop} (hP : CloR [(5, 0), (5, 3), (5, 4), (5, 6), (5, 7)] [(5, 2), (5, 5)] [20] [] P) {l0 : Option Nat} {l1 : Option Nat} {l2 : Int32} {l3 : Option Nat} {l4 : Int32} {x : HS} {Q Q' : HS → Prop} {X X' : String → HS → Prop} (hQ : ∀ u, P u → Q u → Q' u) (hx : P x) : w_X5_begin l0 l1 l2 l3 l4 x Q X → w_X5_begin l0 l1 l2 l3 l4 x Q' X' := by
  unfold w_X5_begin
  refine q_putF hP (by decide) hx (fun x1 h1 => ?_)
  refine q_recv ?_
  refine fr_X10_allColumns (hP.mono (by decide) (by decide) (by decide) (by decide)) (fun _ y2 h2 => ?_) h1
  refine q_putI hP (by decide) h2 (fun x4 h3 => ?_)
  refine q_putI hP (by decide) h3 (fun x5 h4 => ?_)
  refine q_putF hP (by decide) h4 (fun x6 h5 => ?_)
  refine q_putZ hP (by decide) h5 (fun x7 h6 => ?_)
  refine q_putI hP (by decide) h6 (fun x8 h7 => ?_)
  refine q_putI hP (by decide) h7 (fun x9 h8 => ?_)
  refine q_loop (P := P) h8 (fun v13 x12 _ _ h9 k9 => ?_)
  refine q_if ?_ ?_
  · skip
    exact hQ _ h9
  · skip
    refine q_getF (fun _ => ?_)
    refine q_aldJ (fun _ => ?_)
    refine q_astI hP (by decide) h9 (fun x16 h10 => ?_)
    exact k9 _ _ h10
theorem fr_X10_laneFor {P : HS → Prop} (hP : CloR [] [] [] [] P) {l0 : Option Nat} {l1 : Int32} {x : HS} {Q Q' : Int32 → HS → Prop} {X X' : String → HS → Prop} (hQ : ∀ r u, P u → Q r u → Q' r u) (hx : P x) : w_X10_laneFor l0 l1 x Q X → w_X10_laneFor l0 l1 x Q' X' := by
  unfold w_X10_laneFor
  refine q_loop (P := P) hx (fun v4 x3 _ _ h1 k1 => ?_)
  refine q_getI (fun _ => ?_)
  refine q_if ?_ ?_
  · skip
    exact hQ _ _ h1
  · skip
    refine fr_X11_isIn (hP.mono (by decide) (by decide) (by decide) (by decide)) (fun _ y2 h2 => ?_) h1
    refine q_join0 (P := P) (fun y3 h3 => ?_) (fun _ _ k3 => ?_)
    · skip
      exact k1 _ _ h3
    · skip
      refine q_if ?_ ?_
      · skip
        exact k3 _ h2
      · skip
        refine q_getF (fun _ => ?_)
        refine q_aldG (fun _ => ?_)
        refine q_if ?_ ?_
        · skip
          exact k3 _ h2
        · skip
          exact hQ _ _ h2
theorem fr_X10_firstIn {P : HS → Prop} (hP : CloR [] [] [] [] P) {l0 : Option Nat} {l1 : Int32} {l2 : Option Nat} {x : HS} {Q Q' : Option Nat → HS → Prop} {X X' : String → HS → Prop} (hQ : ∀ r u, P u → Q r u → Q' r u) (hx : P x) : w_X10_firstIn l0 l1 l2 x Q X → w_X10_firstIn l0 l1 l2 x Q' X' := by
  unfold w_X10_firstIn
  refine q_join0 (P := P) (fun y1 h1 => ?_) (fun _ _ k1 => ?_)
  · skip
    refine q_getF (fun _ => ?_)
    refine q_getF (fun _ => ?_)
    exact hQ _ _ h1
  · skip
    refine q_if ?_ ?_
    · skip
      exact k1 _ hx
    · skip
      refine q_if ?_ ?_
      · skip
        exact k1 _ hx
      · skip
        refine q_getF (fun _ => ?_)
        refine q_aldG (fun _ => ?_)
        refine q_if ?_ ?_
        · skip
          exact k1 _ hx
        · skip
          refine q_getF (fun _ => ?_)
          refine q_aldG (fun _ => ?_)
          refine q_aldJ (fun _ => ?_)
          refine q_recv ?_
          refine fr_X4_chainWith (hP.mono (by decide) (by decide) (by decide) (by decide)) (fun _ y2 h2 => ?_) hx
          refine q_join1 (P := P) (fun _ y3 h3 => ?_) (fun _ _ k3 => ?_)
          · skip
            exact hQ _ _ h3
          · skip
            refine q_if ?_ ?_
            · skip
              exact k3 _ _ h2
            · skip
              refine q_getF (fun _ => ?_)
              exact k3 _ _ h2
theorem fr_X5_advance {P : HS → Prop} (hP : CloR [(5, 0), (5, 6), (5, 7)] [(5, 5)] [] [] P) {l0 : Option Nat} {x : HS} {Q Q' : Option Nat → HS → Prop} {X X' : String → HS → Prop} (hQ : ∀ r u, P u → Q r u → Q' r u) (hx : P x) : w_X5_advance l0 x Q X → w_X5_advance l0 x Q' X' := by
  unfold w_X5_advance
  refine q_getI (fun _ => ?_)
  refine q_join0 (P := P) (fun y1 h1 => ?_) (fun _ _ k1 => ?_)
  · skip
    exact hQ _ _ h1
  · skip
    refine q_if ?_ ?_
    · skip
      refine q_getF (fun _ => ?_)
      refine q_if ?_ ?_
      · skip
        exact k1 _ hx
      · skip
        refine q_getF (fun _ => ?_)
        refine q_getI (fun _ => ?_)
        refine q_recv ?_
        refine fr_X10_laneFor (hP.mono (by decide) (by decide) (by decide) (by decide)) (fun _ y2 h2 => ?_) hx
        refine q_getF (fun _ => ?_)
        refine q_join1 (P := P) (fun _ y3 h3 => ?_) (fun _ _ k3 => ?_)
        · skip
          refine q_loop (P := P) h3 (fun v16 x15 _ _ h4 k4 => ?_)
          refine q_if ?_ ?_
          · skip
            refine q_putZ hP (by decide) h4 (fun x17 h5 => ?_)
            exact hQ _ _ h5
          · skip
            refine q_getI (fun _ => ?_)
            refine q_putI hP (by decide) h4 (fun x19 h6 => ?_)
            refine q_getI (fun _ => ?_)
            refine q_recv ?_
            refine fr_X1_isThere (hP.mono (by decide) (by decide) (by decide) (by decide)) (fun _ y7 h7 => ?_) h6
            refine q_join0 (P := P) (fun y8 h8 => ?_) (fun _ _ k8 => ?_)
            · skip
              refine q_getF (fun _ => ?_)
              refine q_aldG (fun _ => ?_)
              exact k4 _ _ h8
            · skip
              refine q_if ?_ ?_
              · skip
                exact k8 _ h7
              · skip
                refine q_getI (fun _ => ?_)
                refine q_getF (fun _ => ?_)
                refine q_recv ?_
                refine fr_X1_fits (hP.mono (by decide) (by decide) (by decide) (by decide)) (fun _ y9 h9 => ?_) h7
                refine q_if ?_ ?_
                · skip
                  exact k8 _ h9
                · skip
                  refine q_putF hP (by decide) h9 (fun x31 h10 => ?_)
                  refine q_getI (fun _ => ?_)
                  refine q_putI hP (by decide) h10 (fun x33 h11 => ?_)
                  exact hQ _ _ h11
        · skip
          refine q_if ?_ ?_
          · skip
            refine q_getF (fun _ => ?_)
            refine q_getF (fun _ => ?_)
            refine q_recv ?_
            refine fr_X10_firstIn (hP.mono (by decide) (by decide) (by decide) (by decide)) (fun _ y12 h12 => ?_) h2
            exact k3 _ _ h12
          · skip
            refine q_getF (fun _ => ?_)
            refine q_getF (fun _ => ?_)
            refine q_aldG (fun _ => ?_)
            exact k3 _ _ h2
    · skip
      exact k1 _ hx
theorem fr_X5_takeLookedAt {P : HS → Prop} (hP : CloR [(5, 7)] [] [] [] P) {l0 : Option Nat} {x : HS} {Q Q' : Int32 → HS → Prop} {X X' : String → HS → Prop} (hQ : ∀ r u, P u → Q r u → Q' r u) (hx : P x) : w_X5_takeLookedAt l0 x Q X → w_X5_takeLookedAt l0 x Q' X' := by
  unfold w_X5_takeLookedAt
  refine q_getI (fun _ => ?_)
  refine q_putI hP (by decide) hx (fun x2 h1 => ?_)
  exact hQ _ _ h1
theorem fr_X6_init {P : HS → Prop} (hP : CloR [(6, 3)] [(2, 0), (2, 1), (6, 0)] [] [27] P) {l0 : Option Nat} {x : HS} {Q Q' : HS → Prop} {X X' : String → HS → Prop} (hQ : ∀ u, P u → Q u → Q' u) (hx : P x) : w_X6_init l0 x Q X → w_X6_init l0 x Q' X' := by
  unfold w_X6_init
  refine q_ref ?_
  refine q_newG hP (by decide) hx (fun q1 x2 h1 => ?_)
  refine q_putF hP (by decide) h1 (fun x3 h2 => ?_)
  refine q_putI hP (by decide) h2 (fun x4 h3 => ?_)
  refine q_loop (P := P) h3 (fun v8 x7 _ _ h4 k4 => ?_)
  refine q_if ?_ ?_
  · skip
    exact hQ _ h4
  · skip
    refine q_getF (fun _ => ?_)
    refine q_new hP h4 (fun q10 x11 h5 => ?_)
    refine fr_X2_init (hP.mono (by decide) (by decide) (by decide) (by decide)) (fun  y6 h6 => ?_) h5
    refine q_astG hP (by decide) h6 (fun x14 h7 => ?_)
    exact k4 _ _ h7
theorem fr_X6_here {P : HS → Prop} (hP : CloR [] [] [] [] P) {l0 : Option Nat} {x : HS} {Q Q' : Int32 → HS → Prop} {X X' : String → HS → Prop} (hQ : ∀ r u, P u → Q r u → Q' r u) (hx : P x) : w_X6_here l0 x Q X → w_X6_here l0 x Q' X' := by
  unfold w_X6_here
  refine q_getI (fun _ => ?_)
  refine q_join1 (P := P) (fun _ y1 h1 => ?_) (fun _ _ k1 => ?_)
  · skip
    exact hQ _ _ h1
  · skip
    refine q_join0 (P := P) (fun y2 h2 => ?_) (fun _ _ k2 => ?_)
    · skip
      exact k1 _ _ h2
    · skip
      refine q_if ?_ ?_
      · skip
        exact k2 _ hx
      · skip
        refine q_getI (fun _ => ?_)
        refine q_getI (fun _ => ?_)
        refine q_if ?_ ?_
        · skip
          exact k2 _ hx
        · skip
          refine q_getI (fun _ => ?_)
          refine q_getF (fun _ => ?_)
          refine q_len (fun _ => ?_)
          refine q_if ?_ ?_
          · skip
            refine q_getF (fun _ => ?_)
            refine q_getI (fun _ => ?_)
            refine q_aldJ (fun _ => ?_)
            exact k1 _ _ hx
          · skip
            exact k2 _ hx
theorem fr_X6_skipBlanks {P : HS → Prop} (hP : CloR [(6, 6)] [] [] [] P) {l0 : Option Nat} {x : HS} {Q Q' : HS → Prop} {X X' : String → HS → Prop} (hQ : ∀ u, P u → Q u → Q' u) (hx : P x) : w_X6_skipBlanks l0 x Q X → w_X6_skipBlanks l0 x Q' X' := by
  unfold w_X6_skipBlanks
  refine q_loop (P := P) hx (fun v4 x3 _ _ h1 k1 => ?_)
  refine q_getI (fun _ => ?_)
  refine q_getI (fun _ => ?_)
  refine q_join0 (P := P) (fun y2 h2 => ?_) (fun _ _ k2 => ?_)
  · skip
    exact hQ _ h2
  · skip
    refine q_if ?_ ?_
    · skip
      exact k2 _ h1
    · skip
      refine q_recv ?_
      refine fr_X6_here (hP.mono (by decide) (by decide) (by decide) (by decide)) (fun _ y3 h3 => ?_) h1
      refine q_if ?_ ?_
      · skip
        refine q_getI (fun _ => ?_)
        refine q_putI hP (by decide) h3 (fun x12 h4 => ?_)
        exact k1 _ _ h4
      · skip
        exact k2 _ h3
theorem fr_X6_refuse {P : HS → Prop} (hP : CloR [(6, 3)] [] [] [] P) {l0 : Option Nat} {l1 : Int32} {x : HS} {Q Q' : HS → Prop} {X X' : String → HS → Prop} (hQ : ∀ u, P u → Q u → Q' u) (hX : ∀ e u, P u → X e u → X' e u) (hx : P x) : w_X6_refuse l0 l1 x Q X → w_X6_refuse l0 l1 x Q' X' := by
  unfold w_X6_refuse
  refine q_putI hP (by decide) hx (fun x1 h1 => ?_)
  exact q_throw hP h1 hX
theorem fr_X6_take {P : HS → Prop} (hP : CloR [(6, 3), (6, 6)] [] [] [] P) {l0 : Option Nat} {l1 : Int32} {x : HS} {Q Q' : HS → Prop} {X X' : String → HS → Prop} (hQ : ∀ u, P u → Q u → Q' u) (hX : ∀ e u, P u → X e u → X' e u) (hx : P x) : w_X6_take l0 l1 x Q X → w_X6_take l0 l1 x Q' X' := by
  unfold w_X6_take
  refine q_recv ?_
  refine fr_X6_here (hP.mono (by decide) (by decide) (by decide) (by decide)) (fun _ y1 h1 => ?_) hx
  refine q_join0 (P := P) (fun y2 h2 => ?_) (fun _ _ k2 => ?_)
  · skip
    refine q_getI (fun _ => ?_)
    refine q_putI hP (by decide) h2 (fun x6 h3 => ?_)
    exact hQ _ h3
  · skip
    refine q_if ?_ ?_
    · skip
      exact k2 _ h1
    · skip
      refine q_getI (fun _ => ?_)
      refine q_recv ?_
      refine fr_X6_refuse (hP.mono (by decide) (by decide) (by decide) (by decide)) (fun  y4 h4 => ?_) hX h1
      exact k2 _ h4
theorem fr_X6_readDigits {P : HS → Prop} (hP : CloR [(6, 6)] [] [] [] P) {l0 : Option Nat} {x : HS} {Q Q' : Int32 → HS → Prop} {X X' : String → HS → Prop} (hQ : ∀ r u, P u → Q r u → Q' r u) (hx : P x) : w_X6_readDigits l0 x Q X → w_X6_readDigits l0 x Q' X' := by
  unfold w_X6_readDigits
  refine q_loop (P := P) hx (fun v4 x3 _ _ h1 k1 => ?_)
  refine q_getI (fun _ => ?_)
  refine q_getI (fun _ => ?_)
  refine q_join0 (P := P) (fun y2 h2 => ?_) (fun _ _ k2 => ?_)
  · skip
    exact hQ _ _ h2
  · skip
    refine q_if ?_ ?_
    · skip
      exact k2 _ h1
    · skip
      refine q_getF (fun _ => ?_)
      refine q_getI (fun _ => ?_)
      refine q_aldJ (fun _ => ?_)
      refine q_if ?_ ?_
      · skip
        exact k2 _ h1
      · skip
        refine q_getF (fun _ => ?_)
        refine q_getI (fun _ => ?_)
        refine q_aldJ (fun _ => ?_)
        refine q_if ?_ ?_
        · skip
          exact k2 _ h1
        · skip
          refine q_getF (fun _ => ?_)
          refine q_getI (fun _ => ?_)
          refine q_aldJ (fun _ => ?_)
          refine q_getI (fun _ => ?_)
          refine q_putI hP (by decide) h1 (fun x19 h3 => ?_)
          exact k1 _ _ h3
theorem fr_X9_tableAt {P : HS → Prop} (hP : CloR [] [] [] [] P) {l0 : Option Nat} {l1 : Int32} {x : HS} {Q Q' : Option Nat → HS → Prop} {X X' : String → HS → Prop} (hQ : ∀ r u, P u → Q r u → Q' r u) (hx : P x) : w_X9_tableAt l0 l1 x Q X → w_X9_tableAt l0 l1 x Q' X' := by
  unfold w_X9_tableAt
  refine q_join1 (P := P) (fun _ y1 h1 => ?_) (fun _ _ k1 => ?_)
  · skip
    exact hQ _ _ h1
  · skip
    refine q_join0 (P := P) (fun y2 h2 => ?_) (fun _ _ k2 => ?_)
    · skip
      exact k1 _ _ h2
    · skip
      refine q_if ?_ ?_
      · skip
        exact k2 _ hx
      · skip
        refine q_getI (fun _ => ?_)
        refine q_if ?_ ?_
        · skip
          refine q_getF (fun _ => ?_)
          refine q_aldG (fun _ => ?_)
          exact k1 _ _ hx
        · skip
          exact k2 _ hx
theorem fr_X6_readTable {P : HS → Prop} (hP : CloR [(6, 3), (6, 6)] [] [] [] P) {l0 : Option Nat} {x : HS} {Q Q' : Option Nat → HS → Prop} {X X' : String → HS → Prop} (hQ : ∀ r u, P u → Q r u → Q' r u) (hX : ∀ e u, P u → X e u → X' e u) (hx : P x) : w_X6_readTable l0 x Q X → w_X6_readTable l0 x Q' X' := by
  unfold w_X6_readTable
  refine q_getI (fun _ => ?_)
  refine q_recv ?_
  refine fr_X6_take (hP.mono (by decide) (by decide) (by decide) (by decide)) (fun  y1 h1 => ?_) hX hx
  refine q_getI (fun _ => ?_)
  refine q_recv ?_
  refine fr_X6_readDigits (hP.mono (by decide) (by decide) (by decide) (by decide)) (fun _ y2 h2 => ?_) h1
  refine q_getI (fun _ => ?_)
  refine q_join0 (P := P) (fun y3 h3 => ?_) (fun _ _ k3 => ?_)
  · skip
    refine q_getF (fun _ => ?_)
    refine q_recv ?_
    refine fr_X9_tableAt (hP.mono (by decide) (by decide) (by decide) (by decide)) (fun _ y4 h4 => ?_) h3
    refine q_join0 (P := P) (fun y5 h5 => ?_) (fun _ _ k5 => ?_)
    · skip
      exact hQ _ _ h5
    · skip
      refine q_if ?_ ?_
      · skip
        refine q_recv ?_
        refine fr_X6_refuse (hP.mono (by decide) (by decide) (by decide) (by decide)) (fun  y6 h6 => ?_) hX h4
        exact k5 _ h6
      · skip
        exact k5 _ h4
  · skip
    refine q_join0 (P := P) (fun y7 h7 => ?_) (fun _ _ k7 => ?_)
    · skip
      refine q_recv ?_
      refine fr_X6_refuse (hP.mono (by decide) (by decide) (by decide) (by decide)) (fun  y8 h8 => ?_) hX h7
      exact k3 _ h8
    · skip
      refine q_if ?_ ?_
      · skip
        exact k7 _ h2
      · skip
        refine q_getI (fun _ => ?_)
        refine q_if ?_ ?_
        · skip
          exact k3 _ h2
        · skip
          exact k7 _ h2
theorem fr_X6_readNumber {P : HS → Prop} (hP : CloR [(6, 3), (6, 6)] [] [] [] P) {l0 : Option Nat} {x : HS} {Q Q' : Int32 → HS → Prop} {X X' : String → HS → Prop} (hQ : ∀ r u, P u → Q r u → Q' r u) (hX : ∀ e u, P u → X e u → X' e u) (hx : P x) : w_X6_readNumber l0 x Q X → w_X6_readNumber l0 x Q' X' := by
  unfold w_X6_readNumber
  refine q_getI (fun _ => ?_)
  refine q_recv ?_
  refine fr_X6_here (hP.mono (by decide) (by decide) (by decide) (by decide)) (fun _ y1 h1 => ?_) hx
  refine q_join1 (P := P) (fun _ y2 h2 => ?_) (fun _ _ k2 => ?_)
  · skip
    refine q_join0 (P := P) (fun y3 h3 => ?_) (fun _ _ k3 => ?_)
    · skip
      refine q_getI (fun _ => ?_)
      refine q_recv ?_
      refine fr_X6_readDigits (hP.mono (by decide) (by decide) (by decide) (by decide)) (fun _ y4 h4 => ?_) h3
      refine q_getI (fun _ => ?_)
      refine q_join0 (P := P) (fun y5 h5 => ?_) (fun _ _ k5 => ?_)
      · skip
        refine q_join1 (P := P) (fun _ y6 h6 => ?_) (fun _ _ k6 => ?_)
        · skip
          exact hQ _ _ h6
        · skip
          refine q_if ?_ ?_
          · skip
            exact k6 _ _ h5
          · skip
            exact k6 _ _ h5
      · skip
        refine q_join0 (P := P) (fun y7 h7 => ?_) (fun _ _ k7 => ?_)
        · skip
          refine q_recv ?_
          refine fr_X6_refuse (hP.mono (by decide) (by decide) (by decide) (by decide)) (fun  y8 h8 => ?_) hX h7
          exact k5 _ h8
        · skip
          refine q_if ?_ ?_
          · skip
            exact k7 _ h4
          · skip
            refine q_getI (fun _ => ?_)
            refine q_if ?_ ?_
            · skip
              exact k5 _ h4
            · skip
              exact k7 _ h4
    · skip
      refine q_if ?_ ?_
      · skip
        exact k3 _ h2
      · skip
        refine q_getI (fun _ => ?_)
        refine q_putI hP (by decide) h2 (fun x24 h9 => ?_)
        exact k3 _ h9
  · skip
    refine q_if ?_ ?_
    · skip
      exact k2 _ _ h1
    · skip
      exact k2 _ _ h1
theorem fr_X6_readArg {P : HS → Prop} (hP : CloR [(6, 3), (6, 6)] [] [20] [] P) {l0 : Option Nat} {l1 : Option Nat} {l2 : Int32} {l3 : Int32} {x : HS} {Q Q' : HS → Prop} {X X' : String → HS → Prop} (hQ : ∀ u, P u → Q u → Q' u) (hX : ∀ e u, P u → X e u → X' e u) (hx : P x) : w_X6_readArg l0 l1 l2 l3 x Q X → w_X6_readArg l0 l1 l2 l3 x Q' X' := by
  unfold w_X6_readArg
  refine q_recv ?_
  refine fr_X6_here (hP.mono (by decide) (by decide) (by decide) (by decide)) (fun _ y1 h1 => ?_) hx
  refine q_join0 (P := P) (fun y2 h2 => ?_) (fun _ _ k2 => ?_)
  · skip
    exact hQ _ h2
  · skip
    refine q_join0 (P := P) (fun y3 h3 => ?_) (fun _ _ k3 => ?_)
    · skip
      refine q_join0 (P := P) (fun y4 h4 => ?_) (fun _ _ k4 => ?_)
      · skip
        refine q_getF (fun _ => ?_)
        refine q_astI hP (by decide) h4 (fun x10 h5 => ?_)
        refine q_getF (fun _ => ?_)
        refine q_recv ?_
        refine fr_X6_readNumber (hP.mono (by decide) (by decide) (by decide) (by decide)) (fun _ y6 h6 => ?_) hX h5
        refine q_astI hP (by decide) h6 (fun x14 h7 => ?_)
        exact k2 _ h7
      · skip
        refine q_if ?_ ?_
        · skip
          refine q_if ?_ ?_
          · skip
            exact k4 _ h3
          · skip
            refine q_getF (fun _ => ?_)
            refine q_astI hP (by decide) h3 (fun x16 h8 => ?_)
            refine q_getI (fun _ => ?_)
            refine q_putI hP (by decide) h8 (fun x18 h9 => ?_)
            exact k2 _ h9
        · skip
          exact k4 _ h3
    · skip
      refine q_if ?_ ?_
      · skip
        exact k3 _ h1
      · skip
        refine q_if ?_ ?_
        · skip
          exact k3 _ h1
        · skip
          refine q_getF (fun _ => ?_)
          refine q_astI hP (by decide) h1 (fun x20 h10 => ?_)
          refine q_getF (fun _ => ?_)
          refine q_astI hP (by decide) h10 (fun x22 h11 => ?_)
          refine q_getI (fun _ => ?_)
          refine q_putI hP (by decide) h11 (fun x24 h12 => ?_)
          exact k2 _ h12
theorem fr_X6_sortTableArg {P : HS → Prop} (hP : CloR [(2, 4)] [] [20] [] P) {l0 : Option Nat} {l1 : Option Nat} {l2 : Int32} {l3 : Int32} {x : HS} {Q Q' : Int32 → HS → Prop} {X X' : String → HS → Prop} (hQ : ∀ r u, P u → Q r u → Q' r u) (hx : P x) : w_X6_sortTableArg l0 l1 l2 l3 x Q X → w_X6_sortTableArg l0 l1 l2 l3 x Q' X' := by
  unfold w_X6_sortTableArg
  refine q_getF (fun _ => ?_)
  refine q_aldJ (fun _ => ?_)
  refine q_join1 (P := P) (fun _ y1 h1 => ?_) (fun _ _ k1 => ?_)
  · skip
    refine q_getF (fun _ => ?_)
    refine q_aldJ (fun _ => ?_)
    refine q_join0 (P := P) (fun y2 h2 => ?_) (fun _ _ k2 => ?_)
    · skip
      exact hQ _ _ h2
    · skip
      refine q_join0 (P := P) (fun y3 h3 => ?_) (fun _ _ k3 => ?_)
      · skip
        refine q_getI (fun _ => ?_)
        refine q_putI hP (by decide) h3 (fun x13 h4 => ?_)
        exact k2 _ h4
      · skip
        refine q_if ?_ ?_
        · skip
          exact k3 _ h1
        · skip
          refine q_getF (fun _ => ?_)
          refine q_aldJ (fun _ => ?_)
          refine q_if ?_ ?_
          · skip
            exact k3 _ h1
          · skip
            exact k2 _ h1
  · skip
    refine q_if ?_ ?_
    · skip
      refine q_getI (fun _ => ?_)
      refine q_getF (fun _ => ?_)
      refine q_aldJ (fun _ => ?_)
      refine fr_X11_isIn (hP.mono (by decide) (by decide) (by decide) (by decide)) (fun _ y5 h5 => ?_) hx
      refine q_if ?_ ?_
      · skip
        refine q_getF (fun _ => ?_)
        refine q_aldJ (fun _ => ?_)
        refine fr_X11_isIn (hP.mono (by decide) (by decide) (by decide) (by decide)) (fun _ y6 h6 => ?_) h5
        refine q_if ?_ ?_
        · skip
          refine q_getF (fun _ => ?_)
          refine q_aldJ (fun _ => ?_)
          exact k1 _ _ h6
        · skip
          refine q_getF (fun _ => ?_)
          refine q_astI hP (by decide) h6 (fun x28 h7 => ?_)
          exact k1 _ _ h7
      · skip
        refine q_getF (fun _ => ?_)
        refine q_astI hP (by decide) h5 (fun x30 h8 => ?_)
        exact k1 _ _ h8
    · skip
      exact k1 _ _ hx
theorem fr_X6_refuseArgTooMuch {P : HS → Prop} (hP : CloR [(6, 3), (6, 6)] [] [] [] P) {l0 : Option Nat} {x : HS} {Q Q' : HS → Prop} {X X' : String → HS → Prop} (hQ : ∀ u, P u → Q u → Q' u) (hX : ∀ e u, P u → X e u → X' e u) (hx : P x) : w_X6_refuseArgTooMuch l0 x Q X → w_X6_refuseArgTooMuch l0 x Q' X' := by
  unfold w_X6_refuseArgTooMuch
  refine q_recv ?_
  refine fr_X6_here (hP.mono (by decide) (by decide) (by decide) (by decide)) (fun _ y1 h1 => ?_) hx
  refine q_join0 (P := P) (fun y2 h2 => ?_) (fun _ _ k2 => ?_)
  · skip
    exact hQ _ h2
  · skip
    refine q_if ?_ ?_
    · skip
      refine q_getI (fun _ => ?_)
      refine q_putI hP (by decide) h1 (fun x6 h3 => ?_)
      refine q_recv ?_
      refine fr_X6_skipBlanks (hP.mono (by decide) (by decide) (by decide) (by decide)) (fun  y4 h4 => ?_) h3
      refine q_getI (fun _ => ?_)
      refine q_recv ?_
      refine fr_X6_refuse (hP.mono (by decide) (by decide) (by decide) (by decide)) (fun  y5 h5 => ?_) hX h4
      exact k2 _ h5
    · skip
      exact k2 _ h1
theorem fr_X6_readTableGoal {P : HS → Prop} (hP : CloR [(2, 2), (2, 4), (6, 2), (6, 3), (6, 6)] [(2, 3)] [20] [] P) {l0 : Option Nat} {l1 : Option Nat} {x : HS} {Q Q' : HS → Prop} {X X' : String → HS → Prop} (hQ : ∀ u, P u → Q u → Q' u) (hX : ∀ e u, P u → X e u → X' e u) (hx : P x) : w_X6_readTableGoal l0 l1 x Q X → w_X6_readTableGoal l0 l1 x Q' X' := by
  unfold w_X6_readTableGoal
  refine q_recv ?_
  refine fr_X6_here (hP.mono (by decide) (by decide) (by decide) (by decide)) (fun _ y1 h1 => ?_) hx
  refine q_putI hP (by decide) h1 (fun x3 h2 => ?_)
  refine q_getI (fun _ => ?_)
  refine q_join0 (P := P) (fun y3 h3 => ?_) (fun _ _ k3 => ?_)
  · skip
    refine q_recv ?_
    refine fr_X6_readTable (hP.mono (by decide) (by decide) (by decide) (by decide)) (fun _ y4 h4 => ?_) hX h3
    refine q_putF hP (by decide) h4 (fun x9 h5 => ?_)
    refine q_putI hP (by decide) h5 (fun x10 h6 => ?_)
    refine q_recv ?_
    refine fr_X6_skipBlanks (hP.mono (by decide) (by decide) (by decide) (by decide)) (fun  y7 h7 => ?_) h6
    refine q_recv ?_
    refine fr_X6_take (hP.mono (by decide) (by decide) (by decide) (by decide)) (fun  y8 h8 => ?_) hX h7
    refine q_loop (P := P) h8 (fun v18 x17 _ _ h9 k9 => ?_)
    refine q_getF (fun _ => ?_)
    refine q_getI (fun _ => ?_)
    refine q_if ?_ ?_
    · skip
      refine q_recv ?_
      refine fr_X6_refuseArgTooMuch (hP.mono (by decide) (by decide) (by decide) (by decide)) (fun  y10 h10 => ?_) hX h9
      refine q_recv ?_
      refine fr_X6_take (hP.mono (by decide) (by decide) (by decide) (by decide)) (fun  y11 h11 => ?_) hX h10
      refine q_getI (fun _ => ?_)
      refine q_join0 (P := P) (fun y12 h12 => ?_) (fun _ _ k12 => ?_)
      · skip
        exact hQ _ h12
      · skip
        refine q_if ?_ ?_
        · skip
          refine q_getI (fun _ => ?_)
          refine q_putI hP (by decide) h11 (fun x29 h13 => ?_)
          exact k12 _ h13
        · skip
          exact k12 _ h11
    · skip
      refine q_join0 (P := P) (fun y14 h14 => ?_) (fun _ _ k14 => ?_)
      · skip
        refine q_recv ?_
        refine fr_X6_skipBlanks (hP.mono (by decide) (by decide) (by decide) (by decide)) (fun  y15 h15 => ?_) h14
        refine q_recv ?_
        refine fr_X6_readArg (hP.mono (by decide) (by decide) (by decide) (by decide)) (fun  y16 h16 => ?_) hX h15
        refine q_recv ?_
        refine fr_X6_sortTableArg (hP.mono (by decide) (by decide) (by decide) (by decide)) (fun _ y17 h17 => ?_) h16
        refine q_recv ?_
        refine fr_X6_skipBlanks (hP.mono (by decide) (by decide) (by decide) (by decide)) (fun  y18 h18 => ?_) h17
        exact k9 _ _ h18
      · skip
        refine q_if ?_ ?_
        · skip
          exact k14 _ h9
        · skip
          refine q_recv ?_
          refine fr_X6_take (hP.mono (by decide) (by decide) (by decide) (by decide)) (fun  y19 h19 => ?_) hX h9
          exact k14 _ h19
  · skip
    refine q_if ?_ ?_
    · skip
      refine q_getI (fun _ => ?_)
      refine q_putI hP (by decide) h2 (fun x43 h20 => ?_)
      refine q_recv ?_
      refine fr_X6_skipBlanks (hP.mono (by decide) (by decide) (by decide) (by decide)) (fun  y21 h21 => ?_) h20
      exact k3 _ h21
    · skip
      exact k3 _ h2
theorem fr_X6_requireKnown {P : HS → Prop} (hP : CloR [(6, 3)] [] [20] [] P) {l0 : Option Nat} {l1 : Option Nat} {l2 : Int32} {l3 : Int32} {x : HS} {Q Q' : HS → Prop} {X X' : String → HS → Prop} (hQ : ∀ u, P u → Q u → Q' u) (hX : ∀ e u, P u → X e u → X' e u) (hx : P x) : w_X6_requireKnown l0 l1 l2 l3 x Q X → w_X6_requireKnown l0 l1 l2 l3 x Q' X' := by
  unfold w_X6_requireKnown
  refine q_getF (fun _ => ?_)
  refine q_aldJ (fun _ => ?_)
  refine q_join0 (P := P) (fun y1 h1 => ?_) (fun _ _ k1 => ?_)
  · skip
    exact hQ _ h1
  · skip
    refine q_if ?_ ?_
    · skip
      refine q_getI (fun _ => ?_)
      refine q_getF (fun _ => ?_)
      refine q_aldJ (fun _ => ?_)
      refine fr_X11_isIn (hP.mono (by decide) (by decide) (by decide) (by decide)) (fun _ y2 h2 => ?_) hx
      refine q_join0 (P := P) (fun y3 h3 => ?_) (fun _ _ k3 => ?_)
      · skip
        refine q_getF (fun _ => ?_)
        refine q_astI hP (by decide) h3 (fun x13 h4 => ?_)
        exact k1 _ h4
      · skip
        refine q_if ?_ ?_
        · skip
          refine q_recv ?_
          refine fr_X6_refuse (hP.mono (by decide) (by decide) (by decide) (by decide)) (fun  y5 h5 => ?_) hX h2
          exact k3 _ h5
        · skip
          exact k3 _ h2
    · skip
      exact k1 _ hx
theorem fr_X6_readKnownArg {P : HS → Prop} (hP : CloR [(6, 3), (6, 6)] [] [20] [] P) {l0 : Option Nat} {l1 : Option Nat} {l2 : Int32} {x : HS} {Q Q' : HS → Prop} {X X' : String → HS → Prop} (hQ : ∀ u, P u → Q u → Q' u) (hX : ∀ e u, P u → X e u → X' e u) (hx : P x) : w_X6_readKnownArg l0 l1 l2 x Q X → w_X6_readKnownArg l0 l1 l2 x Q' X' := by
  unfold w_X6_readKnownArg
  refine q_recv ?_
  refine fr_X6_skipBlanks (hP.mono (by decide) (by decide) (by decide) (by decide)) (fun  y1 h1 => ?_) hx
  refine q_getI (fun _ => ?_)
  refine q_recv ?_
  refine fr_X6_readArg (hP.mono (by decide) (by decide) (by decide) (by decide)) (fun  y2 h2 => ?_) hX h1
  refine q_recv ?_
  refine fr_X6_requireKnown (hP.mono (by decide) (by decide) (by decide) (by decide)) (fun  y3 h3 => ?_) hX h2
  exact hQ _ h3
theorem fr_X6_readSign {P : HS → Prop} (hP : CloR [(6, 3), (6, 6)] [] [] [] P) {l0 : Option Nat} {l1 : Int32} {l2 : Int32} {l3 : Int32} {x : HS} {Q Q' : Int32 → HS → Prop} {X X' : String → HS → Prop} (hQ : ∀ r u, P u → Q r u → Q' r u) (hX : ∀ e u, P u → X e u → X' e u) (hx : P x) : w_X6_readSign l0 l1 l2 l3 x Q X → w_X6_readSign l0 l1 l2 l3 x Q' X' := by
  unfold w_X6_readSign
  refine q_recv ?_
  refine fr_X6_here (hP.mono (by decide) (by decide) (by decide) (by decide)) (fun _ y1 h1 => ?_) hx
  refine q_join0 (P := P) (fun y2 h2 => ?_) (fun _ _ k2 => ?_)
  · skip
    refine q_getI (fun _ => ?_)
    refine q_putI hP (by decide) h2 (fun x6 h3 => ?_)
    exact hQ _ _ h3
  · skip
    refine q_if ?_ ?_
    · skip
      exact k2 _ h1
    · skip
      refine q_if ?_ ?_
      · skip
        exact k2 _ h1
      · skip
        refine q_if ?_ ?_
        · skip
          exact k2 _ h1
        · skip
          refine q_getI (fun _ => ?_)
          refine q_recv ?_
          refine fr_X6_refuse (hP.mono (by decide) (by decide) (by decide) (by decide)) (fun  y4 h4 => ?_) hX h1
          exact k2 _ h4
theorem fr_X6_readSignGoal {P : HS → Prop} (hP : CloR [(2, 2), (2, 5), (6, 2), (6, 3), (6, 6)] [] [20] [] P) {l0 : Option Nat} {l1 : Option Nat} {x : HS} {Q Q' : HS → Prop} {X X' : String → HS → Prop} (hQ : ∀ u, P u → Q u → Q' u) (hX : ∀ e u, P u → X e u → X' e u) (hx : P x) : w_X6_readSignGoal l0 l1 x Q X → w_X6_readSignGoal l0 l1 x Q' X' := by
  unfold w_X6_readSignGoal
  refine q_getI (fun _ => ?_)
  refine q_recv ?_
  refine fr_X6_readArg (hP.mono (by decide) (by decide) (by decide) (by decide)) (fun  y1 h1 => ?_) hX hx
  refine q_recv ?_
  refine fr_X6_skipBlanks (hP.mono (by decide) (by decide) (by decide) (by decide)) (fun  y2 h2 => ?_) h1
  refine q_recv ?_
  refine fr_X6_here (hP.mono (by decide) (by decide) (by decide) (by decide)) (fun _ y3 h3 => ?_) h2
  refine q_join1 (P := P) (fun _ y4 h4 => ?_) (fun _ _ k4 => ?_)
  · skip
    refine q_recv ?_
    refine fr_X6_readKnownArg (hP.mono (by decide) (by decide) (by decide) (by decide)) (fun  y5 h5 => ?_) hX h4
    refine q_getI (fun _ => ?_)
    refine q_putI hP (by decide) h5 (fun x14 h6 => ?_)
    exact hQ _ h6
  · skip
    refine q_join0 (P := P) (fun y7 h7 => ?_) (fun _ _ k7 => ?_)
    · skip
      refine q_recv ?_
      refine fr_X6_readSign (hP.mono (by decide) (by decide) (by decide) (by decide)) (fun _ y8 h8 => ?_) hX h7
      refine q_putI hP (by decide) h8 (fun x19 h9 => ?_)
      refine q_recv ?_
      refine fr_X6_requireKnown (hP.mono (by decide) (by decide) (by decide) (by decide)) (fun  y10 h10 => ?_) hX h9
      exact k4 _ _ h10
    · skip
      refine q_if ?_ ?_
      · skip
        refine q_getF (fun _ => ?_)
        refine q_aldJ (fun _ => ?_)
        refine q_if ?_ ?_
        · skip
          refine q_getF (fun _ => ?_)
          refine q_aldJ (fun _ => ?_)
          refine q_putI hP (by decide) h3 (fun x26 h11 => ?_)
          refine q_getI (fun _ => ?_)
          refine q_getI (fun _ => ?_)
          refine q_join0 (P := P) (fun y12 h12 => ?_) (fun _ _ k12 => ?_)
          · skip
            refine q_getI (fun _ => ?_)
            refine q_putI hP (by decide) h12 (fun x32 h13 => ?_)
            refine q_recv ?_
            refine fr_X6_readKnownArg (hP.mono (by decide) (by decide) (by decide) (by decide)) (fun  y14 h14 => ?_) hX h13
            refine q_recv ?_
            refine fr_X6_skipBlanks (hP.mono (by decide) (by decide) (by decide) (by decide)) (fun  y15 h15 => ?_) h14
            refine q_recv ?_
            refine fr_X6_readSign (hP.mono (by decide) (by decide) (by decide) (by decide)) (fun _ y16 h16 => ?_) hX h15
            refine q_putI hP (by decide) h16 (fun x39 h17 => ?_)
            exact k4 _ _ h17
          · skip
            refine q_if ?_ ?_
            · skip
              exact k12 _ h11
            · skip
              refine q_recv ?_
              refine fr_X6_refuse (hP.mono (by decide) (by decide) (by decide) (by decide)) (fun  y18 h18 => ?_) hX h11
              exact k12 _ h18
        · skip
          exact k7 _ h3
      · skip
        exact k7 _ h3
theorem fr_X6_readQuestion {P : HS → Prop} (hP : CloR [(2, 2), (2, 4), (2, 5), (6, 1), (6, 2), (6, 3), (6, 5), (6, 6)] [(2, 3), (6, 4), (6, 7)] [20] [] P) {l0 : Option Nat} {l1 : Option Nat} {l2 : Int32} {l3 : Option Nat} {x : HS} {Q Q' : HS → Prop} {X X' : String → HS → Prop} (hQ : ∀ u, P u → Q u → Q' u) (hX : ∀ e u, P u → X e u → X' e u) (hx : P x) : w_X6_readQuestion l0 l1 l2 l3 x Q X → w_X6_readQuestion l0 l1 l2 l3 x Q' X' := by
  unfold w_X6_readQuestion
  refine q_putF hP (by decide) hx (fun x1 h1 => ?_)
  refine q_putI hP (by decide) h1 (fun x2 h2 => ?_)
  refine q_putF hP (by decide) h2 (fun x3 h3 => ?_)
  refine q_putI hP (by decide) h3 (fun x4 h4 => ?_)
  refine q_putI hP (by decide) h4 (fun x5 h5 => ?_)
  refine q_loop (P := P) h5 (fun v9 x8 _ _ h6 k6 => ?_)
  refine q_if ?_ ?_
  · skip
    refine q_recv ?_
    refine fr_X6_skipBlanks (hP.mono (by decide) (by decide) (by decide) (by decide)) (fun  y7 h7 => ?_) h6
    refine q_getI (fun _ => ?_)
    refine q_recv ?_
    refine fr_X6_refuse (hP.mono (by decide) (by decide) (by decide) (by decide)) (fun  y8 h8 => ?_) hX h7
    exact hQ _ h8
  · skip
    refine q_recv ?_
    refine fr_X6_skipBlanks (hP.mono (by decide) (by decide) (by decide) (by decide)) (fun  y9 h9 => ?_) h6
    refine q_recv ?_
    refine fr_X6_here (hP.mono (by decide) (by decide) (by decide) (by decide)) (fun _ y10 h10 => ?_) h9
    refine q_join0 (P := P) (fun y11 h11 => ?_) (fun _ _ k11 => ?_)
    · skip
      refine q_putI hP (by decide) h11 (fun x21 h12 => ?_)
      refine q_recv ?_
      refine fr_X6_skipBlanks (hP.mono (by decide) (by decide) (by decide) (by decide)) (fun  y13 h13 => ?_) h12
      refine q_getI (fun _ => ?_)
      refine q_getI (fun _ => ?_)
      refine q_if ?_ ?_
      · skip
        refine q_recv ?_
        refine fr_X6_take (hP.mono (by decide) (by decide) (by decide) (by decide)) (fun  y14 h14 => ?_) hX h13
        exact k6 _ _ h14
      · skip
        exact hQ _ h13
    · skip
      refine q_join0 (P := P) (fun y15 h15 => ?_) (fun _ _ k15 => ?_)
      · skip
        refine q_getF (fun _ => ?_)
        refine q_aldG (fun _ => ?_)
        refine q_recv ?_
        refine fr_X6_readTableGoal (hP.mono (by decide) (by decide) (by decide) (by decide)) (fun  y16 h16 => ?_) hX h15
        exact k11 _ h16
      · skip
        refine q_if ?_ ?_
        · skip
          exact k15 _ h10
        · skip
          refine q_recv ?_
          refine fr_X6_here (hP.mono (by decide) (by decide) (by decide) (by decide)) (fun _ y17 h17 => ?_) h10
          refine q_if ?_ ?_
          · skip
            exact k15 _ h17
          · skip
            refine q_getF (fun _ => ?_)
            refine q_aldG (fun _ => ?_)
            refine q_recv ?_
            refine fr_X6_readSignGoal (hP.mono (by decide) (by decide) (by decide) (by decide)) (fun  y18 h18 => ?_) hX h17
            exact k11 _ h18
theorem fr_X7_init {P : HS → Prop} (hP : CloR [] [(7, 0)] [] [] P) {l0 : Option Nat} {x : HS} {Q Q' : HS → Prop} {X X' : String → HS → Prop} (hQ : ∀ u, P u → Q u → Q' u) (hx : P x) : w_X7_init l0 x Q X → w_X7_init l0 x Q' X' := by
  unfold w_X7_init
  refine q_ref ?_
  refine q_newJ hP (by decide) hx (fun q1 x2 h1 => ?_)
  refine q_putF hP (by decide) h1 (fun x3 h2 => ?_)
  exact hQ _ h2
theorem fr_X7_keptCount {P : HS → Prop} (hP : CloR [] [] [] [] P) {l0 : Option Nat} {x : HS} {Q Q' : Int32 → HS → Prop} {X X' : String → HS → Prop} (hQ : ∀ r u, P u → Q r u → Q' r u) (hx : P x) : w_X7_keptCount l0 x Q X → w_X7_keptCount l0 x Q' X' := by
  unfold w_X7_keptCount
  refine q_getI (fun _ => ?_)
  exact hQ _ _ hx
theorem fr_X7_keep {P : HS → Prop} (hP : CloR [(7, 2)] [] [20] [] P) {l0 : Option Nat} {l1 : Option Nat} {x : HS} {Q Q' : HS → Prop} {X X' : String → HS → Prop} (hQ : ∀ u, P u → Q u → Q' u) (hx : P x) : w_X7_keep l0 l1 x Q X → w_X7_keep l0 l1 x Q' X' := by
  unfold w_X7_keep
  refine q_getI (fun _ => ?_)
  refine q_join0 (P := P) (fun y1 h1 => ?_) (fun _ _ k1 => ?_)
  · skip
    refine q_getI (fun _ => ?_)
    refine q_putI hP (by decide) h1 (fun x5 h2 => ?_)
    exact hQ _ h2
  · skip
    refine q_if ?_ ?_
    · skip
      exact k1 _ hx
    · skip
      refine q_getF (fun _ => ?_)
      refine q_getI (fun _ => ?_)
      refine q_copy hP (by decide) hx (fun x8 h3 => ?_)
      exact k1 _ h3
theorem fr_X8_init {P : HS → Prop} (hP : CloR [] [(5, 1), (7, 0), (8, 0), (8, 2), (8, 3), (8, 4), (8, 5)] [] [26] P) {l0 : Option Nat} {x : HS} {Q Q' : HS → Prop} {X X' : String → HS → Prop} (hQ : ∀ u, P u → Q u → Q' u) (hx : P x) : w_X8_init l0 x Q X → w_X8_init l0 x Q' X' := by
  unfold w_X8_init
  refine q_ref ?_
  refine q_new hP hx (fun q1 x2 h1 => ?_)
  refine fr_X7_init (hP.mono (by decide) (by decide) (by decide) (by decide)) (fun  y2 h2 => ?_) h1
  refine q_putF hP (by decide) h2 (fun x5 h3 => ?_)
  refine q_new hP h3 (fun q6 x7 h4 => ?_)
  refine fr_X7_init (hP.mono (by decide) (by decide) (by decide) (by decide)) (fun  y5 h5 => ?_) h4
  refine q_putF hP (by decide) h5 (fun x10 h6 => ?_)
  refine q_newG hP (by decide) h6 (fun q11 x12 h7 => ?_)
  refine q_putF hP (by decide) h7 (fun x13 h8 => ?_)
  refine q_newJ hP (by decide) h8 (fun q14 x15 h9 => ?_)
  refine q_putF hP (by decide) h9 (fun x16 h10 => ?_)
  refine q_newJ hP (by decide) h10 (fun q17 x18 h11 => ?_)
  refine q_putF hP (by decide) h11 (fun x19 h12 => ?_)
  refine q_loop (P := P) h12 (fun v23 x22 _ _ h13 k13 => ?_)
  refine q_if ?_ ?_
  · skip
    exact hQ _ h13
  · skip
    refine q_getF (fun _ => ?_)
    refine q_new hP h13 (fun q25 x26 h14 => ?_)
    refine fr_X5_init (hP.mono (by decide) (by decide) (by decide) (by decide)) (fun  y15 h15 => ?_) h14
    refine q_astG hP (by decide) h15 (fun x29 h16 => ?_)
    exact k13 _ _ h16
theorem fr_X8_valueOf {P : HS → Prop} (hP : CloR [] [] [] [] P) {l0 : Option Nat} {l1 : Option Nat} {l2 : Int32} {x : HS} {Q Q' : Int32 → HS → Prop} {X X' : String → HS → Prop} (hQ : ∀ r u, P u → Q r u → Q' r u) (hx : P x) : w_X8_valueOf l0 l1 l2 x Q X → w_X8_valueOf l0 l1 l2 x Q' X' := by
  unfold w_X8_valueOf
  refine q_getF (fun _ => ?_)
  refine q_aldJ (fun _ => ?_)
  refine q_join1 (P := P) (fun _ y1 h1 => ?_) (fun _ _ k1 => ?_)
  · skip
    exact hQ _ _ h1
  · skip
    refine q_if ?_ ?_
    · skip
      refine q_getF (fun _ => ?_)
      refine q_getF (fun _ => ?_)
      refine q_aldJ (fun _ => ?_)
      refine q_aldJ (fun _ => ?_)
      exact k1 _ _ hx
    · skip
      refine q_getF (fun _ => ?_)
      refine q_aldJ (fun _ => ?_)
      exact k1 _ _ hx
theorem fr_X8_beginLook {P : HS → Prop} (hP : CloR [(5, 0), (5, 3), (5, 4), (5, 6), (5, 7)] [(5, 2), (5, 5)] [20] [] P) {l0 : Option Nat} {l1 : Option Nat} {l2 : Option Nat} {x : HS} {Q Q' : HS → Prop} {X X' : String → HS → Prop} (hQ : ∀ u, P u → Q u → Q' u) (hx : P x) : w_X8_beginLook l0 l1 l2 x Q X → w_X8_beginLook l0 l1 l2 x Q' X' := by
  unfold w_X8_beginLook
  refine q_loop (P := P) hx (fun v4 x3 _ _ h1 k1 => ?_)
  refine q_if ?_ ?_
  · skip
    refine q_getF (fun _ => ?_)
    refine q_getI (fun _ => ?_)
    refine q_getF (fun _ => ?_)
    refine q_getI (fun _ => ?_)
    refine q_recv ?_
    refine fr_X5_begin (hP.mono (by decide) (by decide) (by decide) (by decide)) (fun  y2 h2 => ?_) h1
    exact hQ _ h2
  · skip
    refine q_getF (fun _ => ?_)
    refine q_getI (fun _ => ?_)
    refine fr_X11_isIn (hP.mono (by decide) (by decide) (by decide) (by decide)) (fun _ y3 h3 => ?_) h1
    refine q_join1 (P := P) (fun _ y4 h4 => ?_) (fun _ _ k4 => ?_)
    · skip
      refine q_astI hP (by decide) h4 (fun x18 h5 => ?_)
      exact k1 _ _ h5
    · skip
      refine q_if ?_ ?_
      · skip
        exact k4 _ _ h3
      · skip
        refine q_recv ?_
        refine fr_X8_valueOf (hP.mono (by decide) (by decide) (by decide) (by decide)) (fun _ y6 h6 => ?_) h3
        exact k4 _ _ h6
theorem fr_X8_bind {P : HS → Prop} (hP : CloR [] [] [20] [] P) {l0 : Option Nat} {l1 : Option Nat} {l2 : Option Nat} {x : HS} {Q Q' : Int32 → HS → Prop} {X X' : String → HS → Prop} (hQ : ∀ r u, P u → Q r u → Q' r u) (hx : P x) : w_X8_bind l0 l1 l2 x Q X → w_X8_bind l0 l1 l2 x Q' X' := by
  unfold w_X8_bind
  refine q_loop (P := P) hx (fun v4 x3 _ _ h1 k1 => ?_)
  refine q_getF (fun _ => ?_)
  refine q_getI (fun _ => ?_)
  refine q_if ?_ ?_
  · skip
    refine q_bit ?_
    exact hQ _ _ h1
  · skip
    refine q_getF (fun _ => ?_)
    refine q_aldJ (fun _ => ?_)
    refine q_join0 (P := P) (fun y2 h2 => ?_) (fun _ _ k2 => ?_)
    · skip
      exact k1 _ _ h2
    · skip
      refine q_if ?_ ?_
      · skip
        refine q_getF (fun _ => ?_)
        refine q_getF (fun _ => ?_)
        refine q_aldJ (fun _ => ?_)
        refine q_getF (fun _ => ?_)
        refine q_aldJ (fun _ => ?_)
        refine q_astI hP (by decide) h1 (fun x16 h3 => ?_)
        exact k2 _ h3
      · skip
        refine q_getF (fun _ => ?_)
        refine q_aldJ (fun _ => ?_)
        refine q_if ?_ ?_
        · skip
          refine q_getF (fun _ => ?_)
          refine q_getF (fun _ => ?_)
          refine q_aldJ (fun _ => ?_)
          refine q_aldJ (fun _ => ?_)
          refine q_getF (fun _ => ?_)
          refine q_aldJ (fun _ => ?_)
          refine q_if ?_ ?_
          · skip
            exact k2 _ h1
          · skip
            refine q_bit ?_
            exact hQ _ _ h1
        · skip
          exact k2 _ h1
theorem fr_X8_advanceTo {P : HS → Prop} (hP : CloR [(5, 0), (5, 6), (5, 7), (8, 1)] [(5, 5)] [20] [] P) {l0 : Option Nat} {l1 : Option Nat} {l2 : Option Nat} {x : HS} {Q Q' : Int32 → HS → Prop} {X X' : String → HS → Prop} (hQ : ∀ r u, P u → Q r u → Q' r u) (hX : ∀ e u, P u → X e u → X' e u) (hx : P x) : w_X8_advanceTo l0 l1 l2 x Q X → w_X8_advanceTo l0 l1 l2 x Q' X' := by
  unfold w_X8_advanceTo
  refine q_loop (P := P) hx (fun v4 x3 _ _ h1 k1 => ?_)
  refine q_if ?_ ?_
  · skip
    refine q_bit ?_
    exact hQ _ _ h1
  · skip
    refine q_recv ?_
    refine fr_X5_advance (hP.mono (by decide) (by decide) (by decide) (by decide)) (fun _ y2 h2 => ?_) h1
    refine q_getI (fun _ => ?_)
    refine q_recv ?_
    refine fr_X5_takeLookedAt (hP.mono (by decide) (by decide) (by decide) (by decide)) (fun _ y3 h3 => ?_) h2
    refine q_putI hP (by decide) h3 (fun x10 h4 => ?_)
    refine q_getI (fun _ => ?_)
    refine q_if ?_ ?_
    · skip
      refine q_if ?_ ?_
      · skip
        refine q_bit ?_
        exact hQ _ _ h4
      · skip
        refine q_recv ?_
        refine fr_X8_bind (hP.mono (by decide) (by decide) (by decide) (by decide)) (fun _ y5 h5 => ?_) h4
        refine q_if ?_ ?_
        · skip
          exact k1 _ _ h5
        · skip
          refine q_bit ?_
          exact hQ _ _ h5
    · skip
      exact q_throw hP h4 hX
theorem fr_X8_holds {P : HS → Prop} (hP : CloR [(5, 0), (5, 3), (5, 4), (5, 6), (5, 7), (8, 1)] [(5, 2), (5, 5)] [20] [] P) {l0 : Option Nat} {l1 : Option Nat} {l2 : Int32} {x : HS} {Q Q' : Int32 → HS → Prop} {X X' : String → HS → Prop} (hQ : ∀ r u, P u → Q r u → Q' r u) (hX : ∀ e u, P u → X e u → X' e u) (hx : P x) : w_X8_holds l0 l1 l2 x Q X → w_X8_holds l0 l1 l2 x Q' X' := by
  unfold w_X8_holds
  refine q_getI (fun _ => ?_)
  refine q_if ?_ ?_
  · skip
    refine q_getF (fun _ => ?_)
    refine q_aldG (fun _ => ?_)
    refine q_recv ?_
    refine fr_X8_beginLook (hP.mono (by decide) (by decide) (by decide) (by decide)) (fun  y1 h1 => ?_) hx
    refine q_getF (fun _ => ?_)
    refine q_aldG (fun _ => ?_)
    refine q_recv ?_
    refine fr_X8_advanceTo (hP.mono (by decide) (by decide) (by decide) (by decide)) (fun _ y2 h2 => ?_) hX h1
    refine q_join1 (P := P) (fun _ y3 h3 => ?_) (fun _ _ k3 => ?_)
    · skip
      refine q_bit ?_
      exact hQ _ _ h3
    · skip
      refine q_if ?_ ?_
      · skip
        exact k3 _ _ h2
      · skip
        exact k3 _ _ h2
  · skip
    refine q_recv ?_
    refine fr_X8_valueOf (hP.mono (by decide) (by decide) (by decide) (by decide)) (fun _ y4 h4 => ?_) hx
    refine q_recv ?_
    refine fr_X8_valueOf (hP.mono (by decide) (by decide) (by decide) (by decide)) (fun _ y5 h5 => ?_) h4
    refine q_getI (fun _ => ?_)
    refine q_if ?_ ?_
    · skip
      refine q_join1 (P := P) (fun _ y6 h6 => ?_) (fun _ _ k6 => ?_)
      · skip
        refine q_bit ?_
        exact hQ _ _ h6
      · skip
        refine q_if ?_ ?_
        · skip
          exact k6 _ _ h5
        · skip
          exact k6 _ _ h5
    · skip
      refine q_if ?_ ?_
      · skip
        refine q_getF (fun _ => ?_)
        refine q_getI (fun _ => ?_)
        refine q_astI hP (by decide) h5 (fun x23 h7 => ?_)
        refine q_bit ?_
        exact hQ _ _ h7
      · skip
        refine q_if ?_ ?_
        · skip
          refine q_getF (fun _ => ?_)
          refine q_getI (fun _ => ?_)
          refine q_astI hP (by decide) h5 (fun x26 h8 => ?_)
          refine q_bit ?_
          exact hQ _ _ h8
        · skip
          refine q_if ?_ ?_
          · skip
            refine q_join1 (P := P) (fun _ y9 h9 => ?_) (fun _ _ k9 => ?_)
            · skip
              refine q_bit ?_
              exact hQ _ _ h9
            · skip
              refine q_if ?_ ?_
              · skip
                exact k9 _ _ h5
              · skip
                exact k9 _ _ h5
          · skip
            refine q_if ?_ ?_
            · skip
              refine q_join1 (P := P) (fun _ y10 h10 => ?_) (fun _ _ k10 => ?_)
              · skip
                refine q_bit ?_
                exact hQ _ _ h10
              · skip
                refine q_if ?_ ?_
                · skip
                  exact k10 _ _ h5
                · skip
                  exact k10 _ _ h5
            · skip
              refine q_getF (fun _ => ?_)
              refine q_getI (fun _ => ?_)
              refine q_astI hP (by decide) h5 (fun x35 h11 => ?_)
              refine q_bit ?_
              exact hQ _ _ h11
theorem fr_X8_solveEach {P : HS → Prop} (hP : CloR [(5, 0), (5, 3), (5, 4), (5, 6), (5, 7), (8, 1)] [(5, 2), (5, 5)] [20] [] P) {SV : Option Nat → Int32 → HS → (HS → Prop) → (String → HS → Prop) → Prop} (hSV : ∀ {l0 : Option Nat} {l1 : Int32} {x : HS} {Q Q' : HS → Prop} {X X' : String → HS → Prop}, (∀ u, P u → Q u → Q' u) → (∀ e u, P u → X e u → X' e u) → P x → SV l0 l1 x Q X → SV l0 l1 x Q' X') {l0 : Option Nat} {l1 : Option Nat} {l2 : Int32} {x : HS} {Q Q' : HS → Prop} {X X' : String → HS → Prop} (hQ : ∀ u, P u → Q u → Q' u) (hX : ∀ e u, P u → X e u → X' e u) (hx : P x) : w_X8_solveEach SV l0 l1 l2 x Q X → w_X8_solveEach SV l0 l1 l2 x Q' X' := by
  unfold w_X8_solveEach
  refine q_getF (fun _ => ?_)
  refine q_aldG (fun _ => ?_)
  refine q_recv ?_
  refine fr_X8_beginLook (hP.mono (by decide) (by decide) (by decide) (by decide)) (fun  y1 h1 => ?_) hx
  refine q_loop (P := P) h1 (fun v8 x7 _ _ h2 k2 => ?_)
  refine q_if ?_ ?_
  · skip
    exact hQ _ h2
  · skip
    refine q_recv ?_
    refine fr_X8_advanceTo (hP.mono (by decide) (by decide) (by decide) (by decide)) (fun _ y3 h3 => ?_) hX h2
    refine q_if ?_ ?_
    · skip
      exact hQ _ h3
    · skip
      refine q_recv ?_
      refine hSV (fun  y4 h4 => ?_) hX h3
      exact k2 _ _ h4
theorem fr_X8_solveB {P : HS → Prop} (hP : CloR [(5, 0), (5, 3), (5, 4), (5, 6), (5, 7), (7, 2), (8, 1)] [(5, 2), (5, 5)] [20] [] P) {SV : Option Nat → Int32 → HS → (HS → Prop) → (String → HS → Prop) → Prop} (hSV : ∀ {l0 : Option Nat} {l1 : Int32} {x : HS} {Q Q' : HS → Prop} {X X' : String → HS → Prop}, (∀ u, P u → Q u → Q' u) → (∀ e u, P u → X e u → X' e u) → P x → SV l0 l1 x Q X → SV l0 l1 x Q' X') {l0 : Option Nat} {l1 : Int32} {x : HS} {Q Q' : HS → Prop} {X X' : String → HS → Prop} (hQ : ∀ u, P u → Q u → Q' u) (hX : ∀ e u, P u → X e u → X' e u) (hx : P x) : w_X8_solveB SV l0 l1 x Q X → w_X8_solveB SV l0 l1 x Q' X' := by
  unfold w_X8_solveB
  refine q_getF (fun _ => ?_)
  refine q_getI (fun _ => ?_)
  refine q_join0 (P := P) (fun y1 h1 => ?_) (fun _ _ k1 => ?_)
  · skip
    refine q_getF (fun _ => ?_)
    refine q_getF (fun _ => ?_)
    refine q_recv ?_
    refine fr_X7_keep (hP.mono (by decide) (by decide) (by decide) (by decide)) (fun  y2 h2 => ?_) h1
    exact hQ _ h2
  · skip
    refine q_if ?_ ?_
    · skip
      exact k1 _ hx
    · skip
      refine q_if ?_ ?_
      · skip
        refine q_getF (fun _ => ?_)
        refine q_getF (fun _ => ?_)
        refine q_aldG (fun _ => ?_)
        refine q_getI (fun _ => ?_)
        refine q_join0 (P := P) (fun y3 h3 => ?_) (fun _ _ k3 => ?_)
        · skip
          exact hQ _ h3
        · skip
          refine q_if ?_ ?_
          · skip
            refine q_recv ?_
            refine fr_X8_solveEach (hP.mono (by decide) (by decide) (by decide) (by decide)) hSV (fun  y4 h4 => ?_) hX hx
            exact k3 _ h4
          · skip
            refine q_recv ?_
            refine fr_X8_holds (hP.mono (by decide) (by decide) (by decide) (by decide)) (fun _ y5 h5 => ?_) hX hx
            refine q_if ?_ ?_
            · skip
              exact k3 _ h5
            · skip
              refine q_recv ?_
              refine hSV (fun  y6 h6 => ?_) hX h5
              exact k3 _ h6
      · skip
        exact k1 _ hx
theorem fr_X8_solve {P : HS → Prop} (hP : CloR [(5, 0), (5, 3), (5, 4), (5, 6), (5, 7), (7, 2), (8, 1)] [(5, 2), (5, 5)] [20] [] P) {n : Nat} : ∀ {l0 : Option Nat} {l1 : Int32} {x : HS} {Q Q' : HS → Prop} {X X' : String → HS → Prop}, (∀ u, P u → Q u → Q' u) → (∀ e u, P u → X e u → X' e u) → P x → w_X8_solve n l0 l1 x Q X → w_X8_solve n l0 l1 x Q' X' := by
  induction n with
  | zero => intro l0 l1 x Q Q' X X' _ _ _ h; exact h
  | succ n ih =>
    intro l0 l1 x Q Q' X X' hQ hX hx
    show w_X8_solveB (w_X8_solve n) l0 l1 x Q X → w_X8_solveB (w_X8_solve n) l0 l1 x Q' X'
    exact fr_X8_solveB (SV := w_X8_solve n) (l0 := l0) (l1 := l1) (x := x) (Q := Q) (Q' := Q') (X := X) (X' := X') hP @ih hQ hX hx
theorem fr_X8_solveAll {P : HS → Prop} (hP : CloR [(5, 0), (5, 3), (5, 4), (5, 6), (5, 7), (7, 1), (7, 2), (8, 1), (8, 7)] [(5, 2), (5, 5), (8, 0), (8, 2), (8, 6)] [20] [] P) {l0 : Option Nat} {l1 : Option Nat} {l2 : Int32} {x : HS} {Q Q' : Int32 → HS → Prop} {X X' : String → HS → Prop} (hQ : ∀ r u, P u → Q r u → Q' r u) (hX : ∀ e u, P u → X e u → X' e u) (hx : P x) : w_X8_solveAll l0 l1 l2 x Q X → w_X8_solveAll l0 l1 l2 x Q' X' := by
  unfold w_X8_solveAll
  refine q_putF hP (by decide) hx (fun x1 h1 => ?_)
  refine q_putI hP (by decide) h1 (fun x2 h2 => ?_)
  refine q_putI hP (by decide) h2 (fun x3 h3 => ?_)
  refine q_getF (fun _ => ?_)
  refine q_getI (fun _ => ?_)
  refine q_putI hP (by decide) h3 (fun x6 h4 => ?_)
  refine q_getF (fun _ => ?_)
  refine q_putI hP (by decide) h4 (fun x8 h5 => ?_)
  refine q_recv ?_
  refine fr_X8_solve (hP.mono (by decide) (by decide) (by decide) (by decide)) (fun  y6 h6 => ?_) hX h5
  refine q_getF (fun _ => ?_)
  refine q_getF (fun _ => ?_)
  refine q_putF hP (by decide) h6 (fun x13 h7 => ?_)
  refine q_putF hP (by decide) h7 (fun x14 h8 => ?_)
  refine q_getI (fun _ => ?_)
  exact hQ _ _ h8
theorem fr_X9_init {P : HS → Prop} (hP : CloR [] [(3, 0), (3, 1), (3, 2), (9, 0), (9, 1), (9, 2)] [] [] P) {l0 : Option Nat} {x : HS} {Q Q' : HS → Prop} {X X' : String → HS → Prop} (hQ : ∀ u, P u → Q u → Q' u) (hx : P x) : w_X9_init l0 x Q X → w_X9_init l0 x Q' X' := by
  unfold w_X9_init
  refine q_ref ?_
  refine q_newG hP (by decide) hx (fun q1 x2 h1 => ?_)
  refine q_putF hP (by decide) h1 (fun x3 h2 => ?_)
  refine q_newG hP (by decide) h2 (fun q4 x5 h3 => ?_)
  refine q_putF hP (by decide) h3 (fun x6 h4 => ?_)
  refine q_new hP h4 (fun q7 x8 h5 => ?_)
  refine fr_X3_init (hP.mono (by decide) (by decide) (by decide) (by decide)) (fun  y6 h6 => ?_) h5
  refine q_putF hP (by decide) h6 (fun x11 h7 => ?_)
  exact hQ _ h7
theorem fr_X10_init {P : HS → Prop} (hP : CloR [(0, 0), (0, 1), (10, 0), (10, 1)] [(0, 2), (10, 2), (10, 3), (10, 4)] [] [] P) {l0 : Option Nat} {l1 : Int32} {l2 : Int32} {x : HS} {Q Q' : HS → Prop} {X X' : String → HS → Prop} (hQ : ∀ u, P u → Q u → Q' u) (hx : P x) : w_X10_init l0 l1 l2 x Q X → w_X10_init l0 l1 l2 x Q' X' := by
  unfold w_X10_init
  refine q_ref ?_
  refine q_new hP hx (fun q1 x2 h1 => ?_)
  refine fr_X0_init (hP.mono (by decide) (by decide) (by decide) (by decide)) (fun  y2 h2 => ?_) h1
  refine q_putF hP (by decide) h2 (fun x5 h3 => ?_)
  refine q_newG hP (by decide) h3 (fun q6 x7 h4 => ?_)
  refine q_putF hP (by decide) h4 (fun x8 h5 => ?_)
  refine q_newJ hP (by decide) h5 (fun q9 x10 h6 => ?_)
  refine q_putF hP (by decide) h6 (fun x11 h7 => ?_)
  refine q_putI hP (by decide) h7 (fun x12 h8 => ?_)
  refine q_putI hP (by decide) h8 (fun x13 h9 => ?_)
  exact hQ _ h9
theorem fr_X9_makeTable {P : HS → Prop} (hP : CloR [(0, 0), (0, 1), (9, 3), (10, 0), (10, 1)] [(0, 2), (10, 2), (10, 3), (10, 4)] [] [24] P) {l0 : Option Nat} {l1 : Int32} {x : HS} {Q Q' : Int32 → HS → Prop} {X X' : String → HS → Prop} (hQ : ∀ r u, P u → Q r u → Q' r u) (hx : P x) : w_X9_makeTable l0 l1 x Q X → w_X9_makeTable l0 l1 x Q' X' := by
  unfold w_X9_makeTable
  refine q_getI (fun _ => ?_)
  refine q_if ?_ ?_
  · skip
    refine q_getF (fun _ => ?_)
    refine q_getI (fun _ => ?_)
    refine q_new hP hx (fun q4 x5 h1 => ?_)
    refine q_getI (fun _ => ?_)
    refine fr_X10_init (hP.mono (by decide) (by decide) (by decide) (by decide)) (fun  y2 h2 => ?_) h1
    refine q_astG hP (by decide) h2 (fun x9 h3 => ?_)
    refine q_getI (fun _ => ?_)
    refine q_putI hP (by decide) h3 (fun x11 h4 => ?_)
    refine q_getI (fun _ => ?_)
    exact hQ _ _ h4
  · skip
    exact hQ _ _ hx
theorem fr_X9_timeOf {P : HS → Prop} (hP : CloR [] [] [] [] P) {l0 : Option Nat} {l1 : Int32} {x : HS} {Q Q' : Int32 → HS → Prop} {X X' : String → HS → Prop} (hQ : ∀ r u, P u → Q r u → Q' r u) (hx : P x) : w_X9_timeOf l0 l1 x Q X → w_X9_timeOf l0 l1 x Q' X' := by
  unfold w_X9_timeOf
  refine q_join1 (P := P) (fun _ y1 h1 => ?_) (fun _ _ k1 => ?_)
  · skip
    exact hQ _ _ h1
  · skip
    refine q_if ?_ ?_
    · skip
      refine q_getI (fun _ => ?_)
      exact k1 _ _ hx
    · skip
      exact k1 _ _ hx
theorem fr_X9_come {P : HS → Prop} (hP : CloR [(1, 4), (1, 5), (1, 6), (3, 3), (9, 4), (9, 5), (9, 6)] [(1, 0), (1, 1), (1, 2), (1, 3)] [20, 22] [25] P) {l0 : Option Nat} {l1 : Option Nat} {l2 : Option Nat} {x : HS} {Q Q' : Option Nat → HS → Prop} {X X' : String → HS → Prop} (hQ : ∀ r u, P u → Q r u → Q' r u) (hx : P x) : w_X9_come l0 l1 l2 x Q X → w_X9_come l0 l1 l2 x Q' X' := by
  unfold w_X9_come
  refine q_getI (fun _ => ?_)
  refine q_if ?_ ?_
  · skip
    refine q_getF (fun _ => ?_)
    refine q_getI (fun _ => ?_)
    refine q_aldG (fun _ => ?_)
    refine q_join0 (P := P) (fun y1 h1 => ?_) (fun _ _ k1 => ?_)
    · skip
      refine q_getF (fun _ => ?_)
      refine q_getI (fun _ => ?_)
      refine q_aldG (fun _ => ?_)
      refine q_getI (fun _ => ?_)
      refine q_putI hP (by decide) h1 (fun x11 h2 => ?_)
      refine q_getI (fun _ => ?_)
      refine q_putI hP (by decide) h2 (fun x13 h3 => ?_)
      refine q_putF hP (by decide) h3 (fun x14 h4 => ?_)
      refine q_putF hP (by decide) h4 (fun x15 h5 => ?_)
      refine q_getI (fun _ => ?_)
      refine q_putI hP (by decide) h5 (fun x17 h6 => ?_)
      refine q_getI (fun _ => ?_)
      refine q_putI hP (by decide) h6 (fun x19 h7 => ?_)
      refine q_putI hP (by decide) h7 (fun x20 h8 => ?_)
      refine q_loop (P := P) h8 (fun v24 x23 _ _ h9 k9 => ?_)
      refine q_if ?_ ?_
      · skip
        refine q_getI (fun _ => ?_)
        refine q_putI hP (by decide) h9 (fun x26 h10 => ?_)
        refine q_getF (fun _ => ?_)
        refine q_recv ?_
        refine fr_X3_note (hP.mono (by decide) (by decide) (by decide) (by decide)) (fun  y11 h11 => ?_) h10
        exact hQ _ _ h11
      · skip
        refine q_getF (fun _ => ?_)
        refine q_getI (fun _ => ?_)
        refine q_join1 (P := P) (fun _ y12 h12 => ?_) (fun _ _ k12 => ?_)
        · skip
          refine q_astI hP (by decide) h12 (fun x35 h13 => ?_)
          exact k9 _ _ h13
        · skip
          refine q_if ?_ ?_
          · skip
            exact k12 _ _ h9
          · skip
            refine q_aldJ (fun _ => ?_)
            exact k12 _ _ h9
    · skip
      refine q_if ?_ ?_
      · skip
        refine q_getF (fun _ => ?_)
        refine q_getI (fun _ => ?_)
        refine q_new hP hx (fun q39 x40 h14 => ?_)
        refine fr_X1_init (hP.mono (by decide) (by decide) (by decide) (by decide)) (fun  y15 h15 => ?_) h14
        refine q_astG hP (by decide) h15 (fun x43 h16 => ?_)
        exact k1 _ h16
      · skip
        exact k1 _ hx
  · skip
    exact hQ _ _ hx
theorem fr_X9_go {P : HS → Prop} (hP : CloR [(1, 6), (3, 3), (9, 6)] [] [22] [25] P) {l0 : Option Nat} {l1 : Option Nat} {x : HS} {Q Q' : HS → Prop} {X X' : String → HS → Prop} (hQ : ∀ u, P u → Q u → Q' u) (hx : P x) : w_X9_go l0 l1 x Q X → w_X9_go l0 l1 x Q' X' := by
  unfold w_X9_go
  refine q_getI (fun _ => ?_)
  refine q_putI hP (by decide) hx (fun x2 h1 => ?_)
  refine q_getI (fun _ => ?_)
  refine q_putI hP (by decide) h1 (fun x4 h2 => ?_)
  refine q_getF (fun _ => ?_)
  refine q_recv ?_
  refine fr_X3_note (hP.mono (by decide) (by decide) (by decide) (by decide)) (fun  y3 h3 => ?_) h2
  exact hQ _ h3
theorem fr_X9_withNumber {P : HS → Prop} (hP : CloR [] [] [] [] P) {l0 : Option Nat} {l1 : Int32} {x : HS} {Q Q' : Option Nat → HS → Prop} {X X' : String → HS → Prop} (hQ : ∀ r u, P u → Q r u → Q' r u) (hx : P x) : w_X9_withNumber l0 l1 x Q X → w_X9_withNumber l0 l1 x Q' X' := by
  unfold w_X9_withNumber
  refine q_loop (P := P) hx (fun v4 x3 _ _ h1 k1 => ?_)
  refine q_getI (fun _ => ?_)
  refine q_if ?_ ?_
  · skip
    exact hQ _ _ h1
  · skip
    refine q_getF (fun _ => ?_)
    refine q_aldG (fun _ => ?_)
    refine q_getI (fun _ => ?_)
    refine q_if ?_ ?_
    · skip
      refine q_getF (fun _ => ?_)
      refine q_aldG (fun _ => ?_)
      exact hQ _ _ h1
    · skip
      exact k1 _ _ h1
theorem fr_X9_hasRoomToTurn {P : HS → Prop} (hP : CloR [] [] [] [] P) {l0 : Option Nat} {x : HS} {Q Q' : Int32 → HS → Prop} {X X' : String → HS → Prop} (hQ : ∀ r u, P u → Q r u → Q' r u) (hx : P x) : w_X9_hasRoomToTurn l0 x Q X → w_X9_hasRoomToTurn l0 x Q' X' := by
  unfold w_X9_hasRoomToTurn
  refine q_getF (fun _ => ?_)
  refine q_recv ?_
  refine fr_X3_goneSinceMark (hP.mono (by decide) (by decide) (by decide) (by decide)) (fun _ y1 h1 => ?_) hx
  refine q_getI (fun _ => ?_)
  refine q_join1 (P := P) (fun _ y2 h2 => ?_) (fun _ _ k2 => ?_)
  · skip
    refine q_bit ?_
    exact hQ _ _ h2
  · skip
    refine q_if ?_ ?_
    · skip
      exact k2 _ _ h1
    · skip
      exact k2 _ _ h1
theorem fr_X10_placeAfter {P : HS → Prop} (hP : CloR [(0, 0), (0, 1)] [(0, 2), (0, 4)] [] [25, 29] P) {l0 : Option Nat} {l1 : Option Nat} {l2 : Option Nat} {x : HS} {Q Q' : HS → Prop} {X X' : String → HS → Prop} (hQ : ∀ u, P u → Q u → Q' u) (hx : P x) : w_X10_placeAfter l0 l1 l2 x Q X → w_X10_placeAfter l0 l1 l2 x Q' X' := by
  unfold w_X10_placeAfter
  refine q_getF (fun _ => ?_)
  refine q_recv ?_
  refine fr_X0_putAfter (hP.mono (by decide) (by decide) (by decide) (by decide)) (fun  y1 h1 => ?_) hx
  refine q_loop (P := P) h1 (fun v7 x6 _ _ h2 k2 => ?_)
  refine q_getI (fun _ => ?_)
  refine q_if ?_ ?_
  · skip
    exact hQ _ h2
  · skip
    refine q_getF (fun _ => ?_)
    refine q_aldG (fun _ => ?_)
    refine q_join0 (P := P) (fun y3 h3 => ?_) (fun _ _ k3 => ?_)
    · skip
      exact k2 _ _ h3
    · skip
      refine q_if ?_ ?_
      · skip
        exact k3 _ h2
      · skip
        refine q_getF (fun _ => ?_)
        refine q_aldG (fun _ => ?_)
        refine q_recv ?_
        refine fr_X4_chainFor (hP.mono (by decide) (by decide) (by decide) (by decide)) (fun _ y4 h4 => ?_) h2
        refine q_recv ?_
        refine fr_X0_putAfter (hP.mono (by decide) (by decide) (by decide) (by decide)) (fun  y5 h5 => ?_) h4
        exact k3 _ h5
theorem fr_X9_comeAgain {P : HS → Prop} (hP : CloR [(0, 0), (0, 1), (1, 4), (1, 5), (1, 6), (3, 3), (9, 4), (9, 5), (9, 6)] [(0, 2), (0, 4), (1, 0), (1, 1), (1, 2), (1, 3)] [20, 22] [25, 29] P) {l0 : Option Nat} {l1 : Option Nat} {x : HS} {Q Q' : HS → Prop} {X X' : String → HS → Prop} (hQ : ∀ u, P u → Q u → Q' u) (hx : P x) : w_X9_comeAgain l0 l1 x Q X → w_X9_comeAgain l0 l1 x Q' X' := by
  unfold w_X9_comeAgain
  refine q_getF (fun _ => ?_)
  refine q_getF (fun _ => ?_)
  refine q_recv ?_
  refine fr_X9_come (hP.mono (by decide) (by decide) (by decide) (by decide)) (fun _ y1 h1 => ?_) hx
  refine q_join0 (P := P) (fun y2 h2 => ?_) (fun _ _ k2 => ?_)
  · skip
    exact hQ _ h2
  · skip
    refine q_if ?_ ?_
    · skip
      exact k2 _ h1
    · skip
      refine q_getF (fun _ => ?_)
      refine q_recv ?_
      refine fr_X10_placeAfter (hP.mono (by decide) (by decide) (by decide) (by decide)) (fun  y3 h3 => ?_) h1
      refine q_putF hP (by decide) h3 (fun x10 h4 => ?_)
      exact k2 _ h4
theorem fr_X9_turn {P : HS → Prop} (hP : CloR [(0, 0), (0, 1), (1, 4), (1, 5), (1, 6), (3, 3), (9, 4), (9, 5), (9, 6)] [(0, 2), (0, 4), (1, 0), (1, 1), (1, 2), (1, 3)] [20, 22] [25, 29] P) {l0 : Option Nat} {l1 : Int32} {x : HS} {Q Q' : Int32 → HS → Prop} {X X' : String → HS → Prop} (hQ : ∀ r u, P u → Q r u → Q' r u) (hx : P x) : w_X9_turn l0 l1 x Q X → w_X9_turn l0 l1 x Q' X' := by
  unfold w_X9_turn
  refine q_getF (fun _ => ?_)
  refine q_getI (fun _ => ?_)
  refine q_loop (P := P) hx (fun v6 x5 _ _ h1 k1 => ?_)
  refine q_join0 (P := P) (fun y2 h2 => ?_) (fun _ _ k2 => ?_)
  · skip
    exact hQ _ _ h2
  · skip
    refine q_if ?_ ?_
    · skip
      exact k2 _ h1
    · skip
      refine q_if ?_ ?_
      · skip
        exact k2 _ h1
      · skip
        refine q_getF (fun _ => ?_)
        refine q_getF (fun _ => ?_)
        refine q_aldG (fun _ => ?_)
        refine q_getF (fun _ => ?_)
        refine q_getF (fun _ => ?_)
        refine q_aldJ (fun _ => ?_)
        refine q_join0 (P := P) (fun y3 h3 => ?_) (fun _ _ k3 => ?_)
        · skip
          exact k1 _ _ h3
        · skip
          refine q_if ?_ ?_
          · skip
            refine q_getF (fun _ => ?_)
            refine q_join1 (P := P) (fun _ y4 h4 => ?_) (fun _ _ k4 => ?_)
            · skip
              refine q_recv ?_
              refine fr_X9_go (hP.mono (by decide) (by decide) (by decide) (by decide)) (fun  y5 h5 => ?_) h4
              exact k3 _ h5
            · skip
              refine q_if ?_ ?_
              · skip
                exact k4 _ _ h1
              · skip
                refine q_getF (fun _ => ?_)
                exact k4 _ _ h1
          · skip
            refine q_recv ?_
            refine fr_X9_comeAgain (hP.mono (by decide) (by decide) (by decide) (by decide)) (fun  y6 h6 => ?_) h1
            exact k3 _ h6
theorem fr_X10_placeIn {P : HS → Prop} (hP : CloR [] [(0, 3), (0, 4)] [] [25] P) {l0 : Option Nat} {l1 : Option Nat} {l2 : Int32} {x : HS} {Q Q' : HS → Prop} {X X' : String → HS → Prop} (hQ : ∀ u, P u → Q u → Q' u) (hx : P x) : w_X10_placeIn l0 l1 l2 x Q X → w_X10_placeIn l0 l1 l2 x Q' X' := by
  unfold w_X10_placeIn
  refine q_join0 (P := P) (fun y1 h1 => ?_) (fun _ _ k1 => ?_)
  · skip
    exact hQ _ h1
  · skip
    refine q_if ?_ ?_
    · skip
      refine q_recv ?_
      refine fr_X0_putBehind (hP.mono (by decide) (by decide) (by decide) (by decide)) (fun  y2 h2 => ?_) hx
      exact k1 _ h2
    · skip
      refine q_recv ?_
      refine fr_X0_putAhead (hP.mono (by decide) (by decide) (by decide) (by decide)) (fun  y3 h3 => ?_) hx
      exact k1 _ h3
theorem fr_X10_place {P : HS → Prop} (hP : CloR [(0, 0), (0, 1)] [(0, 2), (0, 3), (0, 4)] [] [25, 29] P) {l0 : Option Nat} {l1 : Option Nat} {l2 : Int32} {x : HS} {Q Q' : HS → Prop} {X X' : String → HS → Prop} (hQ : ∀ u, P u → Q u → Q' u) (hx : P x) : w_X10_place l0 l1 l2 x Q X → w_X10_place l0 l1 l2 x Q' X' := by
  unfold w_X10_place
  refine q_getF (fun _ => ?_)
  refine fr_X10_placeIn (hP.mono (by decide) (by decide) (by decide) (by decide)) (fun  y1 h1 => ?_) hx
  refine q_loop (P := P) h1 (fun v7 x6 _ _ h2 k2 => ?_)
  refine q_getI (fun _ => ?_)
  refine q_if ?_ ?_
  · skip
    exact hQ _ h2
  · skip
    refine q_getF (fun _ => ?_)
    refine q_aldG (fun _ => ?_)
    refine q_join0 (P := P) (fun y3 h3 => ?_) (fun _ _ k3 => ?_)
    · skip
      exact k2 _ _ h3
    · skip
      refine q_if ?_ ?_
      · skip
        exact k3 _ h2
      · skip
        refine q_getF (fun _ => ?_)
        refine q_aldG (fun _ => ?_)
        refine q_recv ?_
        refine fr_X4_chainFor (hP.mono (by decide) (by decide) (by decide) (by decide)) (fun _ y4 h4 => ?_) h2
        refine fr_X10_placeIn (hP.mono (by decide) (by decide) (by decide) (by decide)) (fun  y5 h5 => ?_) h4
        exact k3 _ h5
theorem fr_X10_dropDeadBy {P : HS → Prop} (hP : CloR [(0, 0), (0, 1)] [(0, 2), (0, 3), (0, 4)] [] [25, 29] P) {l0 : Option Nat} {l1 : Int32} {x : HS} {Q Q' : HS → Prop} {X X' : String → HS → Prop} (hQ : ∀ u, P u → Q u → Q' u) (hx : P x) : w_X10_dropDeadBy l0 l1 x Q X → w_X10_dropDeadBy l0 l1 x Q' X' := by
  unfold w_X10_dropDeadBy
  refine q_getF (fun _ => ?_)
  refine q_getF (fun _ => ?_)
  refine q_getF (fun _ => ?_)
  refine q_recv ?_
  refine fr_X0_empty (hP.mono (by decide) (by decide) (by decide) (by decide)) (fun  y1 h1 => ?_) hx
  refine q_loop (P := P) h1 (fun v9 x8 _ _ h2 k2 => ?_)
  refine q_getI (fun _ => ?_)
  refine q_if ?_ ?_
  · skip
    refine q_loop (P := P) h2 (fun v14 x13 _ _ h3 k3 => ?_)
    refine q_if ?_ ?_
    · skip
      exact hQ _ h3
    · skip
      refine q_getF (fun _ => ?_)
      refine q_aldG (fun _ => ?_)
      refine q_recv ?_
      refine fr_X1_isThereNow (hP.mono (by decide) (by decide) (by decide) (by decide)) (fun _ y4 h4 => ?_) h3
      refine q_join0 (P := P) (fun y5 h5 => ?_) (fun _ _ k5 => ?_)
      · skip
        exact k3 _ _ h5
      · skip
        refine q_join0 (P := P) (fun y6 h6 => ?_) (fun _ _ k6 => ?_)
        · skip
          refine q_recv ?_
          refine fr_X10_place (hP.mono (by decide) (by decide) (by decide) (by decide)) (fun  y7 h7 => ?_) h6
          exact k5 _ h7
        · skip
          refine q_if ?_ ?_
          · skip
            refine q_getI (fun _ => ?_)
            refine q_if ?_ ?_
            · skip
              exact k5 _ h4
            · skip
              exact k6 _ h4
          · skip
            exact k6 _ h4
  · skip
    refine q_getF (fun _ => ?_)
    refine q_aldG (fun _ => ?_)
    refine q_join0 (P := P) (fun y8 h8 => ?_) (fun _ _ k8 => ?_)
    · skip
      exact k2 _ _ h8
    · skip
      refine q_if ?_ ?_
      · skip
        exact k8 _ h2
      · skip
        refine q_getF (fun _ => ?_)
        refine q_aldG (fun _ => ?_)
        refine q_recv ?_
        refine fr_X4_empty (hP.mono (by decide) (by decide) (by decide) (by decide)) (fun  y9 h9 => ?_) h2
        exact k8 _ h9
theorem fr_X9_forgetDead {P : HS → Prop} (hP : CloR [(0, 0), (0, 1), (9, 4), (9, 7)] [(0, 2), (0, 3), (0, 4)] [] [25, 29] P) {l0 : Option Nat} {l1 : Int32} {x : HS} {Q Q' : Int32 → HS → Prop} {X X' : String → HS → Prop} (hQ : ∀ r u, P u → Q r u → Q' r u) (hx : P x) : w_X9_forgetDead l0 l1 x Q X → w_X9_forgetDead l0 l1 x Q' X' := by
  unfold w_X9_forgetDead
  refine q_getI (fun _ => ?_)
  refine q_putI hP (by decide) hx (fun x2 h1 => ?_)
  refine q_loop (P := P) h1 (fun v6 x5 _ _ h2 k2 => ?_)
  refine q_getI (fun _ => ?_)
  refine q_if ?_ ?_
  · skip
    refine q_getI (fun _ => ?_)
    refine q_putI hP (by decide) h2 (fun x9 h3 => ?_)
    refine q_loop (P := P) h3 (fun v13 x12 _ _ h4 k4 => ?_)
    refine q_if ?_ ?_
    · skip
      refine q_getI (fun _ => ?_)
      exact hQ _ _ h4
    · skip
      refine q_getF (fun _ => ?_)
      refine q_aldG (fun _ => ?_)
      refine q_recv ?_
      refine fr_X1_isThereNow (hP.mono (by decide) (by decide) (by decide) (by decide)) (fun _ y5 h5 => ?_) h4
      refine q_join0 (P := P) (fun y6 h6 => ?_) (fun _ _ k6 => ?_)
      · skip
        exact k4 _ _ h6
      · skip
        refine q_join0 (P := P) (fun y7 h7 => ?_) (fun _ _ k7 => ?_)
        · skip
          refine q_getF (fun _ => ?_)
          refine q_getF (fun _ => ?_)
          refine q_getI (fun _ => ?_)
          refine q_aldG (fun _ => ?_)
          refine q_astG hP (by decide) h7 (fun x27 h8 => ?_)
          refine q_getF (fun _ => ?_)
          refine q_getI (fun _ => ?_)
          refine q_astG hP (by decide) h8 (fun x30 h9 => ?_)
          refine q_getI (fun _ => ?_)
          refine q_putI hP (by decide) h9 (fun x32 h10 => ?_)
          exact k6 _ h10
        · skip
          refine q_if ?_ ?_
          · skip
            refine q_getI (fun _ => ?_)
            refine q_getI (fun _ => ?_)
            refine q_if ?_ ?_
            · skip
              exact k6 _ h5
            · skip
              exact k7 _ h5
          · skip
            exact k7 _ h5
  · skip
    refine q_getF (fun _ => ?_)
    refine q_aldG (fun _ => ?_)
    refine q_getI (fun _ => ?_)
    refine q_recv ?_
    refine fr_X10_dropDeadBy (hP.mono (by decide) (by decide) (by decide) (by decide)) (fun  y11 h11 => ?_) h2
    exact k2 _ _ h11
theorem fr_X10_makeIndex {P : HS → Prop} (hP : CloR [(0, 0), (0, 1), (4, 0)] [(0, 2), (0, 3), (0, 4), (4, 1)] [] [25, 28, 29] P) {l0 : Option Nat} {l1 : Int32} {x : HS} {Q Q' : Int32 → HS → Prop} {X X' : String → HS → Prop} (hQ : ∀ r u, P u → Q r u → Q' r u) (hx : P x) : w_X10_makeIndex l0 l1 x Q X → w_X10_makeIndex l0 l1 x Q' X' := by
  unfold w_X10_makeIndex
  refine q_join0 (P := P) (fun y1 h1 => ?_) (fun _ _ k1 => ?_)
  · skip
    refine q_bit ?_
    exact hQ _ _ h1
  · skip
    refine q_if ?_ ?_
    · skip
      exact k1 _ hx
    · skip
      refine q_getI (fun _ => ?_)
      refine q_if ?_ ?_
      · skip
        exact k1 _ hx
      · skip
        refine q_getF (fun _ => ?_)
        refine q_aldG (fun _ => ?_)
        refine q_if ?_ ?_
        · skip
          refine q_new hP hx (fun q6 x7 h2 => ?_)
          refine fr_X4_init (hP.mono (by decide) (by decide) (by decide) (by decide)) (fun  y3 h3 => ?_) h2
          refine q_getF (fun _ => ?_)
          refine q_getF (fun _ => ?_)
          refine q_loop (P := P) h3 (fun v15 x14 _ _ h4 k4 => ?_)
          refine q_if ?_ ?_
          · skip
            refine q_getF (fun _ => ?_)
            refine q_astG hP (by decide) h4 (fun x17 h5 => ?_)
            refine q_bit ?_
            exact hQ _ _ h5
          · skip
            refine q_recv ?_
            refine fr_X4_chainFor (hP.mono (by decide) (by decide) (by decide) (by decide)) (fun _ y6 h6 => ?_) h4
            refine q_recv ?_
            refine fr_X0_putBehind (hP.mono (by decide) (by decide) (by decide) (by decide)) (fun  y7 h7 => ?_) h6
            refine q_getF (fun _ => ?_)
            refine q_aldG (fun _ => ?_)
            exact k4 _ _ h7
        · skip
          exact k1 _ hx
theorem fr_X10_hasKey {P : HS → Prop} (hP : CloR [] [] [] [] P) {l0 : Option Nat} {l1 : Int32} {x : HS} {Q Q' : Int32 → HS → Prop} {X X' : String → HS → Prop} (hQ : ∀ r u, P u → Q r u → Q' r u) (hx : P x) : w_X10_hasKey l0 l1 x Q X → w_X10_hasKey l0 l1 x Q' X' := by
  unfold w_X10_hasKey
  refine q_loop (P := P) hx (fun v4 x3 _ _ h1 k1 => ?_)
  refine q_getI (fun _ => ?_)
  refine q_if ?_ ?_
  · skip
    refine q_bit ?_
    exact hQ _ _ h1
  · skip
    refine q_getF (fun _ => ?_)
    refine q_aldJ (fun _ => ?_)
    refine q_if ?_ ?_
    · skip
      refine q_bit ?_
      exact hQ _ _ h1
    · skip
      exact k1 _ _ h1
theorem fr_X10_makeKey {P : HS → Prop} (hP : CloR [(10, 5)] [] [20] [] P) {l0 : Option Nat} {l1 : Int32} {x : HS} {Q Q' : Int32 → HS → Prop} {X X' : String → HS → Prop} (hQ : ∀ r u, P u → Q r u → Q' r u) (hx : P x) : w_X10_makeKey l0 l1 x Q X → w_X10_makeKey l0 l1 x Q' X' := by
  unfold w_X10_makeKey
  refine q_getI (fun _ => ?_)
  refine q_if ?_ ?_
  · skip
    refine q_getF (fun _ => ?_)
    refine q_getI (fun _ => ?_)
    refine q_astI hP (by decide) hx (fun x4 h1 => ?_)
    refine q_getI (fun _ => ?_)
    refine q_putI hP (by decide) h1 (fun x6 h2 => ?_)
    refine q_bit ?_
    exact hQ _ _ h2
  · skip
    refine q_bit ?_
    exact hQ _ _ hx
theorem fr_X10_isThereNowFrom {P : HS → Prop} (hP : CloR [] [] [] [] P) {l0 : Option Nat} {l1 : Int32} {l2 : Option Nat} {x : HS} {Q Q' : Int32 → HS → Prop} {X X' : String → HS → Prop} (hQ : ∀ r u, P u → Q r u → Q' r u) (hx : P x) : w_X10_isThereNowFrom l0 l1 l2 x Q X → w_X10_isThereNowFrom l0 l1 l2 x Q' X' := by
  unfold w_X10_isThereNowFrom
  refine q_loop (P := P) hx (fun v4 x3 _ _ h1 k1 => ?_)
  refine q_if ?_ ?_
  · skip
    refine q_bit ?_
    exact hQ _ _ h1
  · skip
    refine q_recv ?_
    refine fr_X1_isThereNow (hP.mono (by decide) (by decide) (by decide) (by decide)) (fun _ y2 h2 => ?_) h1
    refine q_join0 (P := P) (fun y3 h3 => ?_) (fun _ _ k3 => ?_)
    · skip
      refine q_getF (fun _ => ?_)
      refine q_aldG (fun _ => ?_)
      exact k1 _ _ h3
    · skip
      refine q_if ?_ ?_
      · skip
        exact k3 _ h2
      · skip
        refine q_recv ?_
        refine fr_X1_fits (hP.mono (by decide) (by decide) (by decide) (by decide)) (fun _ y4 h4 => ?_) h2
        refine q_if ?_ ?_
        · skip
          exact k3 _ h4
        · skip
          refine q_bit ?_
          exact hQ _ _ h4
theorem fr_X10_hasTwins {P : HS → Prop} (hP : CloR [] [] [] [] P) {l0 : Option Nat} {l1 : Int32} {x : HS} {Q Q' : Int32 → HS → Prop} {X X' : String → HS → Prop} (hQ : ∀ r u, P u → Q r u → Q' r u) (hx : P x) : w_X10_hasTwins l0 l1 x Q X → w_X10_hasTwins l0 l1 x Q' X' := by
  unfold w_X10_hasTwins
  refine q_getF (fun _ => ?_)
  refine q_getF (fun _ => ?_)
  refine q_loop (P := P) hx (fun v6 x5 _ _ h1 k1 => ?_)
  refine q_if ?_ ?_
  · skip
    refine q_bit ?_
    exact hQ _ _ h1
  · skip
    refine q_recv ?_
    refine fr_X1_isThereNow (hP.mono (by decide) (by decide) (by decide) (by decide)) (fun _ y2 h2 => ?_) h1
    refine q_join0 (P := P) (fun y3 h3 => ?_) (fun _ _ k3 => ?_)
    · skip
      refine q_getF (fun _ => ?_)
      refine q_aldG (fun _ => ?_)
      exact k1 _ _ h3
    · skip
      refine q_if ?_ ?_
      · skip
        exact k3 _ h2
      · skip
        refine q_getF (fun _ => ?_)
        refine q_aldG (fun _ => ?_)
        refine q_getF (fun _ => ?_)
        refine fr_X10_isThereNowFrom (hP.mono (by decide) (by decide) (by decide) (by decide)) (fun _ y4 h4 => ?_) h2
        refine q_if ?_ ?_
        · skip
          exact k3 _ h4
        · skip
          refine q_bit ?_
          exact hQ _ _ h4
theorem fr_X10_breaksKey {P : HS → Prop} (hP : CloR [] [] [] [] P) {l0 : Option Nat} {l1 : Option Nat} {x : HS} {Q Q' : Int32 → HS → Prop} {X X' : String → HS → Prop} (hQ : ∀ r u, P u → Q r u → Q' r u) (hx : P x) : w_X10_breaksKey l0 l1 x Q X → w_X10_breaksKey l0 l1 x Q' X' := by
  unfold w_X10_breaksKey
  refine q_loop (P := P) hx (fun v4 x3 _ _ h1 k1 => ?_)
  refine q_getI (fun _ => ?_)
  refine q_if ?_ ?_
  · skip
    refine q_bit ?_
    exact hQ _ _ h1
  · skip
    refine q_getF (fun _ => ?_)
    refine q_getF (fun _ => ?_)
    refine q_getF (fun _ => ?_)
    refine q_aldJ (fun _ => ?_)
    refine fr_X10_isThereNowFrom (hP.mono (by decide) (by decide) (by decide) (by decide)) (fun _ y2 h2 => ?_) h1
    refine q_if ?_ ?_
    · skip
      exact k1 _ _ h2
    · skip
      refine q_bit ?_
      exact hQ _ _ h2
theorem fr_X10_factsThereNow {P : HS → Prop} (hP : CloR [] [] [] [] P) {l0 : Option Nat} {x : HS} {Q Q' : Int32 → HS → Prop} {X X' : String → HS → Prop} (hQ : ∀ r u, P u → Q r u → Q' r u) (hx : P x) : w_X10_factsThereNow l0 x Q X → w_X10_factsThereNow l0 x Q' X' := by
  unfold w_X10_factsThereNow
  refine q_getF (fun _ => ?_)
  refine q_getF (fun _ => ?_)
  refine q_loop (P := P) hx (fun v6 x5 _ _ h1 k1 => ?_)
  refine q_if ?_ ?_
  · skip
    exact hQ _ _ h1
  · skip
    refine q_recv ?_
    refine fr_X1_isThereNow (hP.mono (by decide) (by decide) (by decide) (by decide)) (fun _ y2 h2 => ?_) h1
    refine q_join1 (P := P) (fun _ y3 h3 => ?_) (fun _ _ k3 => ?_)
    · skip
      refine q_getF (fun _ => ?_)
      refine q_aldG (fun _ => ?_)
      exact k1 _ _ h3
    · skip
      refine q_if ?_ ?_
      · skip
        exact k3 _ _ h2
      · skip
        exact k3 _ _ h2
theorem fr_X11_init {P : HS → Prop} (hP : CloR [(6, 3)] [(2, 0), (2, 1), (3, 0), (3, 1), (3, 2), (5, 1), (6, 0), (7, 0), (8, 0), (8, 2), (8, 3), (8, 4), (8, 5), (9, 0), (9, 1), (9, 2), (11, 0), (11, 1), (11, 2), (11, 3), (11, 4), (11, 5), (11, 6), (11, 7), (11, 8)] [] [26, 27] P) {l0 : Option Nat} {x : HS} {Q Q' : HS → Prop} {X X' : String → HS → Prop} (hQ : ∀ u, P u → Q u → Q' u) (hx : P x) : w_X11_init l0 x Q X → w_X11_init l0 x Q' X' := by
  unfold w_X11_init
  refine q_ref ?_
  refine q_newJ hP (by decide) hx (fun q1 x2 h1 => ?_)
  refine q_putF hP (by decide) h1 (fun x3 h2 => ?_)
  refine q_newJ hP (by decide) h2 (fun q4 x5 h3 => ?_)
  refine q_putF hP (by decide) h3 (fun x6 h4 => ?_)
  refine q_new hP h4 (fun q7 x8 h5 => ?_)
  refine fr_X9_init (hP.mono (by decide) (by decide) (by decide) (by decide)) (fun  y6 h6 => ?_) h5
  refine q_putF hP (by decide) h6 (fun x11 h7 => ?_)
  refine q_newG hP (by decide) h7 (fun q12 x13 h8 => ?_)
  refine q_putF hP (by decide) h8 (fun x14 h9 => ?_)
  refine q_newJ hP (by decide) h9 (fun q15 x16 h10 => ?_)
  refine q_putF hP (by decide) h10 (fun x17 h11 => ?_)
  refine q_newJ hP (by decide) h11 (fun q18 x19 h12 => ?_)
  refine q_putF hP (by decide) h12 (fun x20 h13 => ?_)
  refine q_new hP h13 (fun q21 x22 h14 => ?_)
  refine fr_X5_init (hP.mono (by decide) (by decide) (by decide) (by decide)) (fun  y15 h15 => ?_) h14
  refine q_putF hP (by decide) h15 (fun x25 h16 => ?_)
  refine q_new hP h16 (fun q26 x27 h17 => ?_)
  refine fr_X6_init (hP.mono (by decide) (by decide) (by decide) (by decide)) (fun  y18 h18 => ?_) h17
  refine q_putF hP (by decide) h18 (fun x30 h19 => ?_)
  refine q_new hP h19 (fun q31 x32 h20 => ?_)
  refine fr_X8_init (hP.mono (by decide) (by decide) (by decide) (by decide)) (fun  y21 h21 => ?_) h20
  refine q_putF hP (by decide) h21 (fun x35 h22 => ?_)
  refine q_loop (P := P) h22 (fun v39 x38 _ _ h23 k23 => ?_)
  refine q_if ?_ ?_
  · skip
    exact hQ _ h23
  · skip
    refine q_getF (fun _ => ?_)
    refine q_new hP h23 (fun q41 x42 h24 => ?_)
    refine fr_X5_init (hP.mono (by decide) (by decide) (by decide) (by decide)) (fun  y25 h25 => ?_) h24
    refine q_astG hP (by decide) h25 (fun x45 h26 => ?_)
    exact k23 _ _ h26
theorem fr_X11_putBytes {P : HS → Prop} (hP : CloR [(11, 9)] [] [21] [] P) {l0 : Option Nat} {l1 : Int32} {x : HS} {Q Q' : HS → Prop} {X X' : String → HS → Prop} (hQ : ∀ u, P u → Q u → Q' u) (hx : P x) : w_X11_putBytes l0 l1 x Q X → w_X11_putBytes l0 l1 x Q' X' := by
  unfold w_X11_putBytes
  refine q_loop (P := P) hx (fun v4 x3 _ _ h1 k1 => ?_)
  refine q_join0 (P := P) (fun y2 h2 => ?_) (fun _ _ k2 => ?_)
  · skip
    exact hQ _ h2
  · skip
    refine q_if ?_ ?_
    · skip
      exact k2 _ h1
    · skip
      refine q_getI (fun _ => ?_)
      refine q_if ?_ ?_
      · skip
        exact k2 _ h1
      · skip
        refine q_getF (fun _ => ?_)
        refine q_getI (fun _ => ?_)
        refine q_astB hP (by decide) h1 (fun x10 h3 => ?_)
        refine q_getI (fun _ => ?_)
        refine q_putI hP (by decide) h3 (fun x12 h4 => ?_)
        exact k1 _ _ h4
theorem fr_X11_feed {P : HS → Prop} (hP : CloR [(11, 9)] [] [21] [] P) {l0 : Option Nat} {l1 : Int32} {l2 : Int32} {l3 : Int32} {l4 : Int32} {l5 : Int32} {x : HS} {Q Q' : Int32 → HS → Prop} {X X' : String → HS → Prop} (hQ : ∀ r u, P u → Q r u → Q' r u) (hX : ∀ e u, P u → X e u → X' e u) (hx : P x) : w_X11_feed l0 l1 l2 l3 l4 l5 x Q X → w_X11_feed l0 l1 l2 l3 l4 l5 x Q' X' := by
  unfold w_X11_feed
  refine q_getI (fun _ => ?_)
  refine q_if ?_ ?_
  · skip
    refine q_recv ?_
    refine fr_X11_putBytes (hP.mono (by decide) (by decide) (by decide) (by decide)) (fun  y1 h1 => ?_) hx
    refine q_recv ?_
    refine fr_X11_putBytes (hP.mono (by decide) (by decide) (by decide) (by decide)) (fun  y2 h2 => ?_) h1
    refine q_recv ?_
    refine fr_X11_putBytes (hP.mono (by decide) (by decide) (by decide) (by decide)) (fun  y3 h3 => ?_) h2
    refine q_recv ?_
    refine fr_X11_putBytes (hP.mono (by decide) (by decide) (by decide) (by decide)) (fun  y4 h4 => ?_) h3
    refine q_recv ?_
    refine fr_X11_putBytes (hP.mono (by decide) (by decide) (by decide) (by decide)) (fun  y5 h5 => ?_) h4
    refine q_getI (fun _ => ?_)
    exact hQ _ _ h5
  · skip
    exact q_throw hP hx hX
theorem fr_X11_requireRange {P : HS → Prop} (hP : CloR [] [] [] [] P) {l0 : Int32} {l1 : Int32} {l2 : Int32} {x : HS} {Q Q' : HS → Prop} {X X' : String → HS → Prop} (hQ : ∀ u, P u → Q u → Q' u) (hX : ∀ e u, P u → X e u → X' e u) (hx : P x) : w_X11_requireRange l0 l1 l2 x Q X → w_X11_requireRange l0 l1 l2 x Q' X' := by
  unfold w_X11_requireRange
  refine q_join0 (P := P) (fun y1 h1 => ?_) (fun _ _ k1 => ?_)
  · skip
    exact q_throw hP h1 hX
  · skip
    refine q_if ?_ ?_
    · skip
      exact k1 _ hx
    · skip
      refine q_if ?_ ?_
      · skip
        exact hQ _ hx
      · skip
        exact k1 _ hx
theorem fr_X11_end {P : HS → Prop} (hP : CloR [(11, 9)] [] [] [] P) {l0 : Option Nat} {l1 : Int32} {x : HS} {Q Q' : Int32 → HS → Prop} {X X' : String → HS → Prop} (hQ : ∀ r u, P u → Q r u → Q' r u) (hX : ∀ e u, P u → X e u → X' e u) (hx : P x) : w_X11_end l0 l1 x Q X → w_X11_end l0 l1 x Q' X' := by
  unfold w_X11_end
  refine q_getI (fun _ => ?_)
  refine fr_X11_requireRange (hP.mono (by decide) (by decide) (by decide) (by decide)) (fun  y1 h1 => ?_) hX hx
  refine q_putI hP (by decide) h1 (fun x4 h2 => ?_)
  exact hQ _ _ h2
theorem fr_X11_value {P : HS → Prop} (hP : CloR [] [] [20] [] P) {l0 : Option Nat} {l1 : Int32} {l2 : Int32} {x : HS} {Q Q' : Int32 → HS → Prop} {X X' : String → HS → Prop} (hQ : ∀ r u, P u → Q r u → Q' r u) (hX : ∀ e u, P u → X e u → X' e u) (hx : P x) : w_X11_value l0 l1 l2 x Q X → w_X11_value l0 l1 l2 x Q' X' := by
  unfold w_X11_value
  refine fr_X11_requireRange (hP.mono (by decide) (by decide) (by decide) (by decide)) (fun  y1 h1 => ?_) hX hx
  refine q_getF (fun _ => ?_)
  refine q_aldJ (fun _ => ?_)
  refine q_getF (fun _ => ?_)
  refine q_astI hP (by decide) h1 (fun x6 h2 => ?_)
  exact hQ _ _ h2
theorem fr_X11_table {P : HS → Prop} (hP : CloR [(0, 0), (0, 1), (9, 3), (10, 0), (10, 1)] [(0, 2), (10, 2), (10, 3), (10, 4)] [] [24] P) {l0 : Option Nat} {l1 : Int32} {x : HS} {Q Q' : Int32 → HS → Prop} {X X' : String → HS → Prop} (hQ : ∀ r u, P u → Q r u → Q' r u) (hX : ∀ e u, P u → X e u → X' e u) (hx : P x) : w_X11_table l0 l1 x Q X → w_X11_table l0 l1 x Q' X' := by
  unfold w_X11_table
  refine fr_X11_requireRange (hP.mono (by decide) (by decide) (by decide) (by decide)) (fun  y1 h1 => ?_) hX hx
  refine q_getF (fun _ => ?_)
  refine q_recv ?_
  refine fr_X9_makeTable (hP.mono (by decide) (by decide) (by decide) (by decide)) (fun _ y2 h2 => ?_) h1
  refine q_if ?_ ?_
  · skip
    exact q_throw hP h2 hX
  · skip
    exact hQ _ _ h2
theorem fr_X11_tableOf {P : HS → Prop} (hP : CloR [] [] [] [] P) {l0 : Option Nat} {l1 : Int32} {x : HS} {Q Q' : Option Nat → HS → Prop} {X X' : String → HS → Prop} (hQ : ∀ r u, P u → Q r u → Q' r u) (hX : ∀ e u, P u → X e u → X' e u) (hx : P x) : w_X11_tableOf l0 l1 x Q X → w_X11_tableOf l0 l1 x Q' X' := by
  unfold w_X11_tableOf
  refine q_getF (fun _ => ?_)
  refine q_recv ?_
  refine fr_X9_tableAt (hP.mono (by decide) (by decide) (by decide) (by decide)) (fun _ y1 h1 => ?_) hx
  refine q_if ?_ ?_
  · skip
    exact q_throw hP h1 hX
  · skip
    exact hQ _ _ h1
theorem fr_X11_index {P : HS → Prop} (hP : CloR [(0, 0), (0, 1), (4, 0)] [(0, 2), (0, 3), (0, 4), (4, 1)] [] [25, 28, 29] P) {l0 : Option Nat} {l1 : Int32} {l2 : Int32} {x : HS} {Q Q' : Int32 → HS → Prop} {X X' : String → HS → Prop} (hQ : ∀ r u, P u → Q r u → Q' r u) (hX : ∀ e u, P u → X e u → X' e u) (hx : P x) : w_X11_index l0 l1 l2 x Q X → w_X11_index l0 l1 l2 x Q' X' := by
  unfold w_X11_index
  refine q_recv ?_
  refine fr_X11_tableOf (hP.mono (by decide) (by decide) (by decide) (by decide)) (fun _ y1 h1 => ?_) hX hx
  refine q_getI (fun _ => ?_)
  refine fr_X11_requireRange (hP.mono (by decide) (by decide) (by decide) (by decide)) (fun  y2 h2 => ?_) hX h1
  refine q_recv ?_
  refine fr_X10_makeIndex (hP.mono (by decide) (by decide) (by decide) (by decide)) (fun _ y3 h3 => ?_) h2
  refine q_join1 (P := P) (fun _ y4 h4 => ?_) (fun _ _ k4 => ?_)
  · skip
    exact hQ _ _ h4
  · skip
    refine q_if ?_ ?_
    · skip
      exact k4 _ _ h3
    · skip
      exact k4 _ _ h3
theorem fr_X11_key {P : HS → Prop} (hP : CloR [(10, 5)] [] [20] [] P) {l0 : Option Nat} {l1 : Int32} {l2 : Int32} {x : HS} {Q Q' : Int32 → HS → Prop} {X X' : String → HS → Prop} (hQ : ∀ r u, P u → Q r u → Q' r u) (hX : ∀ e u, P u → X e u → X' e u) (hx : P x) : w_X11_key l0 l1 l2 x Q X → w_X11_key l0 l1 l2 x Q' X' := by
  unfold w_X11_key
  refine q_recv ?_
  refine fr_X11_tableOf (hP.mono (by decide) (by decide) (by decide) (by decide)) (fun _ y1 h1 => ?_) hX hx
  refine q_recv ?_
  refine fr_X10_allColumns (hP.mono (by decide) (by decide) (by decide) (by decide)) (fun _ y2 h2 => ?_) h1
  refine fr_X11_requireRange (hP.mono (by decide) (by decide) (by decide) (by decide)) (fun  y3 h3 => ?_) hX h2
  refine q_recv ?_
  refine fr_X10_hasTwins (hP.mono (by decide) (by decide) (by decide) (by decide)) (fun _ y4 h4 => ?_) h3
  refine q_if ?_ ?_
  · skip
    refine q_recv ?_
    refine fr_X10_hasKey (hP.mono (by decide) (by decide) (by decide) (by decide)) (fun _ y5 h5 => ?_) h4
    refine q_if ?_ ?_
    · skip
      refine q_recv ?_
      refine fr_X10_makeKey (hP.mono (by decide) (by decide) (by decide) (by decide)) (fun _ y6 h6 => ?_) h5
      refine q_if ?_ ?_
      · skip
        exact q_throw hP h6 hX
      · skip
        exact hQ _ _ h6
    · skip
      exact hQ _ _ h5
  · skip
    exact q_throw hP h4 hX
theorem fr_X11_add {P : HS → Prop} (hP : CloR [(0, 0), (0, 1), (1, 4), (1, 5), (1, 6), (3, 3), (9, 4), (9, 5), (9, 6)] [(0, 2), (0, 3), (0, 4), (1, 0), (1, 1), (1, 2), (1, 3)] [20, 22] [25, 29] P) {l0 : Option Nat} {l1 : Int32} {l2 : Int32} {x : HS} {Q Q' : Int32 → HS → Prop} {X X' : String → HS → Prop} (hQ : ∀ r u, P u → Q r u → Q' r u) (hX : ∀ e u, P u → X e u → X' e u) (hx : P x) : w_X11_add l0 l1 l2 x Q X → w_X11_add l0 l1 l2 x Q' X' := by
  unfold w_X11_add
  refine fr_X11_requireRange (hP.mono (by decide) (by decide) (by decide) (by decide)) (fun  y1 h1 => ?_) hX hx
  refine q_recv ?_
  refine fr_X11_tableOf (hP.mono (by decide) (by decide) (by decide) (by decide)) (fun _ y2 h2 => ?_) hX h1
  refine q_getF (fun _ => ?_)
  refine q_recv ?_
  refine fr_X10_breaksKey (hP.mono (by decide) (by decide) (by decide) (by decide)) (fun _ y3 h3 => ?_) h2
  refine q_if ?_ ?_
  · skip
    refine q_getF (fun _ => ?_)
    refine q_getF (fun _ => ?_)
    refine q_recv ?_
    refine fr_X9_come (hP.mono (by decide) (by decide) (by decide) (by decide)) (fun _ y4 h4 => ?_) h3
    refine q_if ?_ ?_
    · skip
      exact q_throw hP h4 hX
    · skip
      refine q_join1 (P := P) (fun _ y5 h5 => ?_) (fun _ _ k5 => ?_)
      · skip
        refine q_recv ?_
        refine fr_X10_place (hP.mono (by decide) (by decide) (by decide) (by decide)) (fun  y6 h6 => ?_) h5
        refine q_getI (fun _ => ?_)
        exact hQ _ _ h6
      · skip
        refine q_if ?_ ?_
        · skip
          exact k5 _ _ h4
        · skip
          exact k5 _ _ h4
  · skip
    exact q_throw hP h3 hX
theorem fr_X11_requireTime {P : HS → Prop} (hP : CloR [] [] [] [] P) {l0 : Option Nat} {l1 : Int32} {x : HS} {Q Q' : HS → Prop} {X X' : String → HS → Prop} (hQ : ∀ u, P u → Q u → Q' u) (hX : ∀ e u, P u → X e u → X' e u) (hx : P x) : w_X11_requireTime l0 l1 x Q X → w_X11_requireTime l0 l1 x Q' X' := by
  unfold w_X11_requireTime
  refine q_join0 (P := P) (fun y1 h1 => ?_) (fun _ _ k1 => ?_)
  · skip
    exact hQ _ h1
  · skip
    refine q_if ?_ ?_
    · skip
      exact k1 _ hx
    · skip
      refine q_getF (fun _ => ?_)
      refine q_getI (fun _ => ?_)
      refine q_getF (fun _ => ?_)
      refine q_getI (fun _ => ?_)
      refine fr_X11_requireRange (hP.mono (by decide) (by decide) (by decide) (by decide)) (fun  y2 h2 => ?_) hX hx
      exact k1 _ h2
theorem fr_X11_requireLook {P : HS → Prop} (hP : CloR [] [] [] [] P) {l0 : Option Nat} {l1 : Int32} {l2 : Int32} {l3 : Int32} {x : HS} {Q Q' : HS → Prop} {X X' : String → HS → Prop} (hQ : ∀ u, P u → Q u → Q' u) (hX : ∀ e u, P u → X e u → X' e u) (hx : P x) : w_X11_requireLook l0 l1 l2 l3 x Q X → w_X11_requireLook l0 l1 l2 l3 x Q' X' := by
  unfold w_X11_requireLook
  refine fr_X11_requireRange (hP.mono (by decide) (by decide) (by decide) (by decide)) (fun  y1 h1 => ?_) hX hx
  refine q_recv ?_
  refine fr_X11_requireTime (hP.mono (by decide) (by decide) (by decide) (by decide)) (fun  y2 h2 => ?_) hX h1
  refine q_recv ?_
  refine fr_X11_tableOf (hP.mono (by decide) (by decide) (by decide) (by decide)) (fun _ y3 h3 => ?_) hX h2
  exact hQ _ h3
theorem fr_X11_beginLook {P : HS → Prop} (hP : CloR [(5, 0), (5, 3), (5, 4), (5, 6), (5, 7)] [(5, 2), (5, 5)] [20] [] P) {l0 : Option Nat} {l1 : Option Nat} {l2 : Int32} {l3 : Int32} {l4 : Int32} {x : HS} {Q Q' : HS → Prop} {X X' : String → HS → Prop} (hQ : ∀ u, P u → Q u → Q' u) (hX : ∀ e u, P u → X e u → X' e u) (hx : P x) : w_X11_beginLook l0 l1 l2 l3 l4 x Q X → w_X11_beginLook l0 l1 l2 l3 l4 x Q' X' := by
  unfold w_X11_beginLook
  refine q_recv ?_
  refine fr_X11_requireLook (hP.mono (by decide) (by decide) (by decide) (by decide)) (fun  y1 h1 => ?_) hX hx
  refine q_recv ?_
  refine fr_X11_tableOf (hP.mono (by decide) (by decide) (by decide) (by decide)) (fun _ y2 h2 => ?_) hX h1
  refine q_getF (fun _ => ?_)
  refine q_getF (fun _ => ?_)
  refine q_recv ?_
  refine fr_X9_timeOf (hP.mono (by decide) (by decide) (by decide) (by decide)) (fun _ y3 h3 => ?_) h2
  refine q_recv ?_
  refine fr_X5_begin (hP.mono (by decide) (by decide) (by decide) (by decide)) (fun  y4 h4 => ?_) h3
  exact hQ _ h4
theorem fr_X11_numberOf {P : HS → Prop} (hP : CloR [] [] [] [] P) {l0 : Option Nat} {x : HS} {Q Q' : Int32 → HS → Prop} {X X' : String → HS → Prop} (hQ : ∀ r u, P u → Q r u → Q' r u) (hx : P x) : w_X11_numberOf l0 x Q X → w_X11_numberOf l0 x Q' X' := by
  unfold w_X11_numberOf
  refine q_join1 (P := P) (fun _ y1 h1 => ?_) (fun _ _ k1 => ?_)
  · skip
    exact hQ _ _ h1
  · skip
    refine q_if ?_ ?_
    · skip
      exact k1 _ _ hx
    · skip
      refine q_getI (fun _ => ?_)
      exact k1 _ _ hx
theorem fr_X11_removeFirst {P : HS → Prop} (hP : CloR [(1, 6), (3, 3), (5, 0), (5, 6), (5, 7), (9, 6)] [(5, 5)] [22] [25] P) {l0 : Option Nat} {x : HS} {Q Q' : Int32 → HS → Prop} {X X' : String → HS → Prop} (hQ : ∀ r u, P u → Q r u → Q' r u) (hx : P x) : w_X11_removeFirst l0 x Q X → w_X11_removeFirst l0 x Q' X' := by
  unfold w_X11_removeFirst
  refine q_getF (fun _ => ?_)
  refine q_recv ?_
  refine fr_X5_advance (hP.mono (by decide) (by decide) (by decide) (by decide)) (fun _ y1 h1 => ?_) hx
  refine q_join0 (P := P) (fun y2 h2 => ?_) (fun _ _ k2 => ?_)
  · skip
    refine fr_X11_numberOf (hP.mono (by decide) (by decide) (by decide) (by decide)) (fun _ y3 h3 => ?_) h2
    exact hQ _ _ h3
  · skip
    refine q_if ?_ ?_
    · skip
      exact k2 _ h1
    · skip
      refine q_getF (fun _ => ?_)
      refine q_recv ?_
      refine fr_X9_go (hP.mono (by decide) (by decide) (by decide) (by decide)) (fun  y4 h4 => ?_) h1
      exact k2 _ h4
theorem fr_X11_removeAll {P : HS → Prop} (hP : CloR [(1, 6), (3, 3), (5, 0), (5, 6), (5, 7), (9, 6)] [(5, 5)] [22] [25] P) {l0 : Option Nat} {x : HS} {Q Q' : Int32 → HS → Prop} {X X' : String → HS → Prop} (hQ : ∀ r u, P u → Q r u → Q' r u) (hx : P x) : w_X11_removeAll l0 x Q X → w_X11_removeAll l0 x Q' X' := by
  unfold w_X11_removeAll
  refine q_loop (P := P) hx (fun v4 x3 _ _ h1 k1 => ?_)
  refine q_join0 (P := P) (fun y2 h2 => ?_) (fun _ _ k2 => ?_)
  · skip
    exact hQ _ _ h2
  · skip
    refine q_if ?_ ?_
    · skip
      exact k2 _ h1
    · skip
      refine q_getF (fun _ => ?_)
      refine q_recv ?_
      refine fr_X5_advance (hP.mono (by decide) (by decide) (by decide) (by decide)) (fun _ y3 h3 => ?_) h1
      refine q_if ?_ ?_
      · skip
        exact k2 _ h3
      · skip
        refine q_getF (fun _ => ?_)
        refine q_recv ?_
        refine fr_X9_go (hP.mono (by decide) (by decide) (by decide) (by decide)) (fun  y4 h4 => ?_) h3
        exact k1 _ _ h4
theorem fr_X11_remove {P : HS → Prop} (hP : CloR [(1, 6), (3, 3), (5, 0), (5, 3), (5, 4), (5, 6), (5, 7), (9, 6), (11, 11)] [(5, 2), (5, 5)] [20, 22] [25] P) {l0 : Option Nat} {l1 : Int32} {l2 : Int32} {l3 : Int32} {x : HS} {Q Q' : Int32 → HS → Prop} {X X' : String → HS → Prop} (hQ : ∀ r u, P u → Q r u → Q' r u) (hX : ∀ e u, P u → X e u → X' e u) (hx : P x) : w_X11_remove l0 l1 l2 l3 x Q X → w_X11_remove l0 l1 l2 l3 x Q' X' := by
  unfold w_X11_remove
  refine fr_X11_requireRange (hP.mono (by decide) (by decide) (by decide) (by decide)) (fun  y1 h1 => ?_) hX hx
  refine q_getF (fun _ => ?_)
  refine q_recv ?_
  refine fr_X11_beginLook (hP.mono (by decide) (by decide) (by decide) (by decide)) (fun  y2 h2 => ?_) hX h1
  refine q_join1 (P := P) (fun _ y3 h3 => ?_) (fun _ _ k3 => ?_)
  · skip
    refine q_getF (fun _ => ?_)
    refine q_recv ?_
    refine fr_X5_takeLookedAt (hP.mono (by decide) (by decide) (by decide) (by decide)) (fun _ y4 h4 => ?_) h3
    refine q_putI hP (by decide) h4 (fun x12 h5 => ?_)
    exact hQ _ _ h5
  · skip
    refine q_if ?_ ?_
    · skip
      refine q_recv ?_
      refine fr_X11_removeFirst (hP.mono (by decide) (by decide) (by decide) (by decide)) (fun _ y6 h6 => ?_) h2
      exact k3 _ _ h6
    · skip
      refine q_recv ?_
      refine fr_X11_removeAll (hP.mono (by decide) (by decide) (by decide) (by decide)) (fun _ y7 h7 => ?_) h2
      exact k3 _ _ h7
theorem fr_X11_find {P : HS → Prop} (hP : CloR [(5, 0), (5, 3), (5, 4), (5, 6), (5, 7), (11, 11)] [(5, 2), (5, 5)] [20] [] P) {l0 : Option Nat} {l1 : Int32} {l2 : Int32} {l3 : Int32} {x : HS} {Q Q' : Int32 → HS → Prop} {X X' : String → HS → Prop} (hQ : ∀ r u, P u → Q r u → Q' r u) (hX : ∀ e u, P u → X e u → X' e u) (hx : P x) : w_X11_find l0 l1 l2 l3 x Q X → w_X11_find l0 l1 l2 l3 x Q' X' := by
  unfold w_X11_find
  refine q_getF (fun _ => ?_)
  refine q_recv ?_
  refine fr_X11_beginLook (hP.mono (by decide) (by decide) (by decide) (by decide)) (fun  y1 h1 => ?_) hX hx
  refine q_getF (fun _ => ?_)
  refine q_recv ?_
  refine fr_X5_advance (hP.mono (by decide) (by decide) (by decide) (by decide)) (fun _ y2 h2 => ?_) h1
  refine q_getF (fun _ => ?_)
  refine q_recv ?_
  refine fr_X5_takeLookedAt (hP.mono (by decide) (by decide) (by decide) (by decide)) (fun _ y3 h3 => ?_) h2
  refine q_putI hP (by decide) h3 (fun x10 h4 => ?_)
  refine fr_X11_numberOf (hP.mono (by decide) (by decide) (by decide) (by decide)) (fun _ y5 h5 => ?_) h4
  exact hQ _ _ h5
theorem fr_X11_many {P : HS → Prop} (hP : CloR [(5, 0), (5, 3), (5, 4), (5, 6), (5, 7), (11, 11)] [(5, 2), (5, 5)] [20] [] P) {l0 : Option Nat} {l1 : Int32} {l2 : Int32} {l3 : Int32} {x : HS} {Q Q' : Int32 → HS → Prop} {X X' : String → HS → Prop} (hQ : ∀ r u, P u → Q r u → Q' r u) (hX : ∀ e u, P u → X e u → X' e u) (hx : P x) : w_X11_many l0 l1 l2 l3 x Q X → w_X11_many l0 l1 l2 l3 x Q' X' := by
  unfold w_X11_many
  refine q_getF (fun _ => ?_)
  refine q_recv ?_
  refine fr_X11_beginLook (hP.mono (by decide) (by decide) (by decide) (by decide)) (fun  y1 h1 => ?_) hX hx
  refine q_loop (P := P) h1 (fun v7 x6 _ _ h2 k2 => ?_)
  refine q_join0 (P := P) (fun y3 h3 => ?_) (fun _ _ k3 => ?_)
  · skip
    refine q_getF (fun _ => ?_)
    refine q_recv ?_
    refine fr_X5_takeLookedAt (hP.mono (by decide) (by decide) (by decide) (by decide)) (fun _ y4 h4 => ?_) h3
    refine q_putI hP (by decide) h4 (fun x13 h5 => ?_)
    exact hQ _ _ h5
  · skip
    refine q_if ?_ ?_
    · skip
      exact k3 _ h2
    · skip
      refine q_getF (fun _ => ?_)
      refine q_recv ?_
      refine fr_X5_advance (hP.mono (by decide) (by decide) (by decide) (by decide)) (fun _ y6 h6 => ?_) h2
      refine q_if ?_ ?_
      · skip
        exact k3 _ h6
      · skip
        exact k2 _ _ h6
theorem fr_X11_freeCursor {P : HS → Prop} (hP : CloR [] [] [] [] P) {l0 : Option Nat} {x : HS} {Q Q' : Int32 → HS → Prop} {X X' : String → HS → Prop} (hQ : ∀ r u, P u → Q r u → Q' r u) (hx : P x) : w_X11_freeCursor l0 x Q X → w_X11_freeCursor l0 x Q' X' := by
  unfold w_X11_freeCursor
  refine q_loop (P := P) hx (fun v4 x3 _ _ h1 k1 => ?_)
  refine q_if ?_ ?_
  · skip
    exact hQ _ _ h1
  · skip
    refine q_getF (fun _ => ?_)
    refine q_aldJ (fun _ => ?_)
    refine q_if ?_ ?_
    · skip
      exact hQ _ _ h1
    · skip
      exact k1 _ _ h1
theorem fr_X11_open {P : HS → Prop} (hP : CloR [(5, 0), (5, 3), (5, 4), (5, 6), (5, 7)] [(5, 2), (5, 5)] [20, 22] [] P) {l0 : Option Nat} {l1 : Int32} {l2 : Int32} {l3 : Int32} {x : HS} {Q Q' : Int32 → HS → Prop} {X X' : String → HS → Prop} (hQ : ∀ r u, P u → Q r u → Q' r u) (hX : ∀ e u, P u → X e u → X' e u) (hx : P x) : w_X11_open l0 l1 l2 l3 x Q X → w_X11_open l0 l1 l2 l3 x Q' X' := by
  unfold w_X11_open
  refine q_recv ?_
  refine fr_X11_requireLook (hP.mono (by decide) (by decide) (by decide) (by decide)) (fun  y1 h1 => ?_) hX hx
  refine q_recv ?_
  refine fr_X11_freeCursor (hP.mono (by decide) (by decide) (by decide) (by decide)) (fun _ y2 h2 => ?_) h1
  refine q_if ?_ ?_
  · skip
    exact q_throw hP h2 hX
  · skip
    refine q_getF (fun _ => ?_)
    refine q_aldG (fun _ => ?_)
    refine q_recv ?_
    refine fr_X11_beginLook (hP.mono (by decide) (by decide) (by decide) (by decide)) (fun  y3 h3 => ?_) hX h2
    refine q_getF (fun _ => ?_)
    refine q_astZ hP (by decide) h3 (fun x10 h4 => ?_)
    exact hQ _ _ h4
theorem fr_X11_requireOpen {P : HS → Prop} (hP : CloR [] [] [] [] P) {l0 : Option Nat} {l1 : Int32} {x : HS} {Q Q' : HS → Prop} {X X' : String → HS → Prop} (hQ : ∀ u, P u → Q u → Q' u) (hX : ∀ e u, P u → X e u → X' e u) (hx : P x) : w_X11_requireOpen l0 l1 x Q X → w_X11_requireOpen l0 l1 x Q' X' := by
  unfold w_X11_requireOpen
  refine fr_X11_requireRange (hP.mono (by decide) (by decide) (by decide) (by decide)) (fun  y1 h1 => ?_) hX hx
  refine q_getF (fun _ => ?_)
  refine q_aldJ (fun _ => ?_)
  refine q_if ?_ ?_
  · skip
    exact q_throw hP h1 hX
  · skip
    exact hQ _ h1
theorem fr_X11_next {P : HS → Prop} (hP : CloR [(5, 0), (5, 6), (5, 7), (11, 11)] [(5, 5)] [] [] P) {l0 : Option Nat} {l1 : Int32} {x : HS} {Q Q' : Int32 → HS → Prop} {X X' : String → HS → Prop} (hQ : ∀ r u, P u → Q r u → Q' r u) (hX : ∀ e u, P u → X e u → X' e u) (hx : P x) : w_X11_next l0 l1 x Q X → w_X11_next l0 l1 x Q' X' := by
  unfold w_X11_next
  refine q_recv ?_
  refine fr_X11_requireOpen (hP.mono (by decide) (by decide) (by decide) (by decide)) (fun  y1 h1 => ?_) hX hx
  refine q_getF (fun _ => ?_)
  refine q_aldG (fun _ => ?_)
  refine q_recv ?_
  refine fr_X5_advance (hP.mono (by decide) (by decide) (by decide) (by decide)) (fun _ y2 h2 => ?_) h1
  refine q_getF (fun _ => ?_)
  refine q_aldG (fun _ => ?_)
  refine q_recv ?_
  refine fr_X5_takeLookedAt (hP.mono (by decide) (by decide) (by decide) (by decide)) (fun _ y3 h3 => ?_) h2
  refine q_putI hP (by decide) h3 (fun x11 h4 => ?_)
  refine fr_X11_numberOf (hP.mono (by decide) (by decide) (by decide) (by decide)) (fun _ y5 h5 => ?_) h4
  exact hQ _ _ h5
theorem fr_X11_close {P : HS → Prop} (hP : CloR [] [] [22] [] P) {l0 : Option Nat} {l1 : Int32} {x : HS} {Q Q' : Int32 → HS → Prop} {X X' : String → HS → Prop} (hQ : ∀ r u, P u → Q r u → Q' r u) (hX : ∀ e u, P u → X e u → X' e u) (hx : P x) : w_X11_close l0 l1 x Q X → w_X11_close l0 l1 x Q' X' := by
  unfold w_X11_close
  refine q_recv ?_
  refine fr_X11_requireOpen (hP.mono (by decide) (by decide) (by decide) (by decide)) (fun  y1 h1 => ?_) hX hx
  refine q_getF (fun _ => ?_)
  refine q_astZ hP (by decide) h1 (fun x4 h2 => ?_)
  refine q_getF (fun _ => ?_)
  refine q_aldG (fun _ => ?_)
  refine q_getI (fun _ => ?_)
  exact hQ _ _ h2
theorem fr_X11_fact {P : HS → Prop} (hP : CloR [] [] [] [] P) {l0 : Option Nat} {l1 : Int32} {l2 : Int32} {x : HS} {Q Q' : Int32 → HS → Prop} {X X' : String → HS → Prop} (hQ : ∀ r u, P u → Q r u → Q' r u) (hX : ∀ e u, P u → X e u → X' e u) (hx : P x) : w_X11_fact l0 l1 l2 x Q X → w_X11_fact l0 l1 l2 x Q' X' := by
  unfold w_X11_fact
  refine fr_X11_requireRange (hP.mono (by decide) (by decide) (by decide) (by decide)) (fun  y1 h1 => ?_) hX hx
  refine q_getF (fun _ => ?_)
  refine q_recv ?_
  refine fr_X9_withNumber (hP.mono (by decide) (by decide) (by decide) (by decide)) (fun _ y2 h2 => ?_) h1
  refine q_if ?_ ?_
  · skip
    exact q_throw hP h2 hX
  · skip
    refine q_if ?_ ?_
    · skip
      refine q_getF (fun _ => ?_)
      refine q_getI (fun _ => ?_)
      exact hQ _ _ h2
    · skip
      refine q_if ?_ ?_
      · skip
        refine q_getI (fun _ => ?_)
        exact hQ _ _ h2
      · skip
        refine q_if ?_ ?_
        · skip
          refine q_getI (fun _ => ?_)
          exact hQ _ _ h2
        · skip
          refine q_if ?_ ?_
          · skip
            refine q_getF (fun _ => ?_)
            refine q_getF (fun _ => ?_)
            refine q_recv ?_
            refine fr_X0_factsAhead (hP.mono (by decide) (by decide) (by decide) (by decide)) (fun _ y3 h3 => ?_) h2
            exact hQ _ _ h3
          · skip
            refine q_getF (fun _ => ?_)
            refine q_aldJ (fun _ => ?_)
            exact hQ _ _ h2
theorem fr_X11_mark {P : HS → Prop} (hP : CloR [(3, 4)] [] [20] [] P) {l0 : Option Nat} {x : HS} {Q Q' : Int32 → HS → Prop} {X X' : String → HS → Prop} (hQ : ∀ r u, P u → Q r u → Q' r u) (hX : ∀ e u, P u → X e u → X' e u) (hx : P x) : w_X11_mark l0 x Q X → w_X11_mark l0 x Q' X' := by
  unfold w_X11_mark
  refine q_getF (fun _ => ?_)
  refine q_getF (fun _ => ?_)
  refine q_recv ?_
  refine fr_X3_makeMark (hP.mono (by decide) (by decide) (by decide) (by decide)) (fun _ y1 h1 => ?_) hx
  refine q_if ?_ ?_
  · skip
    exact q_throw hP h1 hX
  · skip
    refine q_getF (fun _ => ?_)
    refine q_getF (fun _ => ?_)
    refine q_getI (fun _ => ?_)
    exact hQ _ _ h1
theorem fr_X11_back {P : HS → Prop} (hP : CloR [(0, 0), (0, 1), (1, 4), (1, 5), (1, 6), (3, 3), (3, 4), (9, 4), (9, 5), (9, 6)] [(0, 2), (0, 4), (1, 0), (1, 1), (1, 2), (1, 3)] [20, 22] [25, 29] P) {l0 : Option Nat} {l1 : Int32} {x : HS} {Q Q' : Int32 → HS → Prop} {X X' : String → HS → Prop} (hQ : ∀ r u, P u → Q r u → Q' r u) (hX : ∀ e u, P u → X e u → X' e u) (hx : P x) : w_X11_back l0 l1 x Q X → w_X11_back l0 l1 x Q' X' := by
  unfold w_X11_back
  refine q_getF (fun _ => ?_)
  refine q_getF (fun _ => ?_)
  refine q_getI (fun _ => ?_)
  refine q_if ?_ ?_
  · skip
    exact q_throw hP hx hX
  · skip
    refine q_join0 (P := P) (fun y1 h1 => ?_) (fun _ _ k1 => ?_)
    · skip
      refine q_getF (fun _ => ?_)
      refine q_getF (fun _ => ?_)
      refine q_recv ?_
      refine fr_X3_dropMark (hP.mono (by decide) (by decide) (by decide) (by decide)) (fun _ y2 h2 => ?_) h1
      refine q_join1 (P := P) (fun _ y3 h3 => ?_) (fun _ _ k3 => ?_)
      · skip
        refine q_getF (fun _ => ?_)
        refine q_getF (fun _ => ?_)
        refine q_recv ?_
        refine fr_X3_forgetWithoutMarks (hP.mono (by decide) (by decide) (by decide) (by decide)) (fun  y4 h4 => ?_) h3
        exact hQ _ _ h4
      · skip
        refine q_if ?_ ?_
        · skip
          exact k3 _ _ h2
        · skip
          refine q_getF (fun _ => ?_)
          refine q_recv ?_
          refine fr_X9_turn (hP.mono (by decide) (by decide) (by decide) (by decide)) (fun _ y5 h5 => ?_) h2
          exact k3 _ _ h5
    · skip
      refine q_if ?_ ?_
      · skip
        exact k1 _ hx
      · skip
        refine q_getF (fun _ => ?_)
        refine q_recv ?_
        refine fr_X9_hasRoomToTurn (hP.mono (by decide) (by decide) (by decide) (by decide)) (fun _ y6 h6 => ?_) hx
        refine q_if ?_ ?_
        · skip
          exact q_throw hP h6 hX
        · skip
          exact k1 _ h6
theorem fr_X11_openCursors {P : HS → Prop} (hP : CloR [] [] [] [] P) {l0 : Option Nat} {x : HS} {Q Q' : Int32 → HS → Prop} {X X' : String → HS → Prop} (hQ : ∀ r u, P u → Q r u → Q' r u) (hx : P x) : w_X11_openCursors l0 x Q X → w_X11_openCursors l0 x Q' X' := by
  unfold w_X11_openCursors
  refine q_loop (P := P) hx (fun v4 x3 _ _ h1 k1 => ?_)
  refine q_if ?_ ?_
  · skip
    exact hQ _ _ h1
  · skip
    refine q_getF (fun _ => ?_)
    refine q_aldJ (fun _ => ?_)
    refine q_join1 (P := P) (fun _ y2 h2 => ?_) (fun _ _ k2 => ?_)
    · skip
      exact k1 _ _ h2
    · skip
      refine q_if ?_ ?_
      · skip
        exact k2 _ _ h1
      · skip
        exact k2 _ _ h1
theorem fr_X11_purge {P : HS → Prop} (hP : CloR [(0, 0), (0, 1), (9, 4), (9, 7)] [(0, 2), (0, 3), (0, 4)] [] [25, 29] P) {l0 : Option Nat} {l1 : Int32} {x : HS} {Q Q' : Int32 → HS → Prop} {X X' : String → HS → Prop} (hQ : ∀ r u, P u → Q r u → Q' r u) (hX : ∀ e u, P u → X e u → X' e u) (hx : P x) : w_X11_purge l0 l1 x Q X → w_X11_purge l0 l1 x Q' X' := by
  unfold w_X11_purge
  refine q_recv ?_
  refine fr_X11_requireTime (hP.mono (by decide) (by decide) (by decide) (by decide)) (fun  y1 h1 => ?_) hX hx
  refine q_recv ?_
  refine fr_X11_openCursors (hP.mono (by decide) (by decide) (by decide) (by decide)) (fun _ y2 h2 => ?_) h1
  refine q_join0 (P := P) (fun y3 h3 => ?_) (fun _ _ k3 => ?_)
  · skip
    exact q_throw hP h3 hX
  · skip
    refine q_if ?_ ?_
    · skip
      exact k3 _ h2
    · skip
      refine q_getF (fun _ => ?_)
      refine q_getF (fun _ => ?_)
      refine q_getI (fun _ => ?_)
      refine q_if ?_ ?_
      · skip
        refine q_getF (fun _ => ?_)
        refine q_getF (fun _ => ?_)
        refine q_recv ?_
        refine fr_X9_timeOf (hP.mono (by decide) (by decide) (by decide) (by decide)) (fun _ y4 h4 => ?_) h2
        refine q_recv ?_
        refine fr_X9_forgetDead (hP.mono (by decide) (by decide) (by decide) (by decide)) (fun _ y5 h5 => ?_) h4
        exact hQ _ _ h5
      · skip
        exact k3 _ h2
theorem fr_X11_putFound {P : HS → Prop} (hP : CloR [(11, 10)] [] [20] [] P) {l0 : Option Nat} {l1 : Int32} {x : HS} {Q Q' : HS → Prop} {X X' : String → HS → Prop} (hQ : ∀ u, P u → Q u → Q' u) (hx : P x) : w_X11_putFound l0 l1 x Q X → w_X11_putFound l0 l1 x Q' X' := by
  unfold w_X11_putFound
  refine q_getI (fun _ => ?_)
  refine q_join0 (P := P) (fun y1 h1 => ?_) (fun _ _ k1 => ?_)
  · skip
    exact hQ _ h1
  · skip
    refine q_if ?_ ?_
    · skip
      exact k1 _ hx
    · skip
      refine q_getF (fun _ => ?_)
      refine q_getI (fun _ => ?_)
      refine q_astI hP (by decide) hx (fun x6 h2 => ?_)
      refine q_getI (fun _ => ?_)
      refine q_putI hP (by decide) h2 (fun x8 h3 => ?_)
      exact k1 _ h3
theorem fr_X11_changes {P : HS → Prop} (hP : CloR [(11, 10)] [] [20] [] P) {l0 : Option Nat} {l1 : Int32} {l2 : Int32} {l3 : Int32} {x : HS} {Q Q' : Int32 → HS → Prop} {X X' : String → HS → Prop} (hQ : ∀ r u, P u → Q r u → Q' r u) (hX : ∀ e u, P u → X e u → X' e u) (hx : P x) : w_X11_changes l0 l1 l2 l3 x Q X → w_X11_changes l0 l1 l2 l3 x Q' X' := by
  unfold w_X11_changes
  refine q_recv ?_
  refine fr_X11_requireTime (hP.mono (by decide) (by decide) (by decide) (by decide)) (fun  y1 h1 => ?_) hX hx
  refine q_recv ?_
  refine fr_X11_requireTime (hP.mono (by decide) (by decide) (by decide) (by decide)) (fun  y2 h2 => ?_) hX h1
  refine q_recv ?_
  refine fr_X11_tableOf (hP.mono (by decide) (by decide) (by decide) (by decide)) (fun _ y3 h3 => ?_) hX h2
  refine q_getF (fun _ => ?_)
  refine q_recv ?_
  refine fr_X9_timeOf (hP.mono (by decide) (by decide) (by decide) (by decide)) (fun _ y4 h4 => ?_) h3
  refine q_getF (fun _ => ?_)
  refine q_recv ?_
  refine fr_X9_timeOf (hP.mono (by decide) (by decide) (by decide) (by decide)) (fun _ y5 h5 => ?_) h4
  refine q_putI hP (by decide) h5 (fun x13 h6 => ?_)
  refine q_getF (fun _ => ?_)
  refine q_getF (fun _ => ?_)
  refine q_loop (P := P) h6 (fun v19 x18 _ _ h7 k7 => ?_)
  refine q_if ?_ ?_
  · skip
    refine q_getF (fun _ => ?_)
    refine q_getF (fun _ => ?_)
    refine q_loop (P := P) h7 (fun v25 x24 _ _ h8 k8 => ?_)
    refine q_if ?_ ?_
    · skip
      refine q_getI (fun _ => ?_)
      exact hQ _ _ h8
    · skip
      refine q_recv ?_
      refine fr_X1_isThere (hP.mono (by decide) (by decide) (by decide) (by decide)) (fun _ y9 h9 => ?_) h8
      refine q_join0 (P := P) (fun y10 h10 => ?_) (fun _ _ k10 => ?_)
      · skip
        refine q_getF (fun _ => ?_)
        refine q_aldG (fun _ => ?_)
        exact k8 _ _ h10
      · skip
        refine q_if ?_ ?_
        · skip
          exact k10 _ h9
        · skip
          refine q_recv ?_
          refine fr_X1_isThere (hP.mono (by decide) (by decide) (by decide) (by decide)) (fun _ y11 h11 => ?_) h9
          refine q_if ?_ ?_
          · skip
            refine q_getI (fun _ => ?_)
            refine q_recv ?_
            refine fr_X11_putFound (hP.mono (by decide) (by decide) (by decide) (by decide)) (fun  y12 h12 => ?_) h11
            exact k10 _ h12
          · skip
            exact k10 _ h11
  · skip
    refine q_recv ?_
    refine fr_X1_isThere (hP.mono (by decide) (by decide) (by decide) (by decide)) (fun _ y13 h13 => ?_) h7
    refine q_join0 (P := P) (fun y14 h14 => ?_) (fun _ _ k14 => ?_)
    · skip
      refine q_getF (fun _ => ?_)
      refine q_aldG (fun _ => ?_)
      exact k7 _ _ h14
    · skip
      refine q_if ?_ ?_
      · skip
        exact k14 _ h13
      · skip
        refine q_recv ?_
        refine fr_X1_isThere (hP.mono (by decide) (by decide) (by decide) (by decide)) (fun _ y15 h15 => ?_) h13
        refine q_if ?_ ?_
        · skip
          refine q_getI (fun _ => ?_)
          refine q_recv ?_
          refine fr_X11_putFound (hP.mono (by decide) (by decide) (by decide) (by decide)) (fun  y16 h16 => ?_) h15
          exact k14 _ h16
        · skip
          exact k14 _ h15
theorem fr_X11_found {P : HS → Prop} (hP : CloR [] [] [] [] P) {l0 : Option Nat} {l1 : Int32} {x : HS} {Q Q' : Int32 → HS → Prop} {X X' : String → HS → Prop} (hQ : ∀ r u, P u → Q r u → Q' r u) (hX : ∀ e u, P u → X e u → X' e u) (hx : P x) : w_X11_found l0 l1 x Q X → w_X11_found l0 l1 x Q' X' := by
  unfold w_X11_found
  refine q_join0 (P := P) (fun y1 h1 => ?_) (fun _ _ k1 => ?_)
  · skip
    exact q_throw hP h1 hX
  · skip
    refine q_if ?_ ?_
    · skip
      exact k1 _ hx
    · skip
      refine q_getI (fun _ => ?_)
      refine q_if ?_ ?_
      · skip
        refine q_getF (fun _ => ?_)
        refine q_aldJ (fun _ => ?_)
        exact hQ _ _ hx
      · skip
        exact k1 _ hx
theorem fr_X11_question {P : HS → Prop} (hP : CloR [(2, 2), (2, 4), (2, 5), (5, 0), (5, 3), (5, 4), (5, 6), (5, 7), (6, 1), (6, 2), (6, 3), (6, 5), (6, 6), (7, 1), (7, 2), (8, 1), (8, 7), (11, 9), (11, 11)] [(2, 3), (5, 2), (5, 5), (6, 4), (6, 7), (8, 0), (8, 2), (8, 6)] [20] [] P) {l0 : Option Nat} {l1 : Int32} {x : HS} {Q Q' : Int32 → HS → Prop} {X X' : String → HS → Prop} (hQ : ∀ r u, P u → Q r u → Q' r u) (hX : ∀ e u, P u → X e u → X' e u) (hx : P x) : w_X11_question l0 l1 x Q X → w_X11_question l0 l1 x Q' X' := by
  unfold w_X11_question
  refine q_getI (fun _ => ?_)
  refine q_putI hP (by decide) hx (fun x2 h1 => ?_)
  refine q_getF (fun _ => ?_)
  refine q_putI hP (by decide) h1 (fun x4 h2 => ?_)
  refine q_recv ?_
  refine fr_X11_requireTime (hP.mono (by decide) (by decide) (by decide) (by decide)) (fun  y3 h3 => ?_) hX h2
  refine q_getF (fun _ => ?_)
  refine q_getF (fun _ => ?_)
  refine q_getF (fun _ => ?_)
  refine q_recv ?_
  refine fr_X6_readQuestion (hP.mono (by decide) (by decide) (by decide) (by decide)) (fun  y4 h4 => ?_) hX h3
  refine q_putI hP (by decide) h4 (fun x12 h5 => ?_)
  refine q_getF (fun _ => ?_)
  refine q_getF (fun _ => ?_)
  refine q_getF (fun _ => ?_)
  refine q_recv ?_
  refine fr_X9_timeOf (hP.mono (by decide) (by decide) (by decide) (by decide)) (fun _ y6 h6 => ?_) h5
  refine q_recv ?_
  refine fr_X8_solveAll (hP.mono (by decide) (by decide) (by decide) (by decide)) (fun _ y7 h7 => ?_) hX h6
  refine q_getF (fun _ => ?_)
  refine q_getI (fun _ => ?_)
  refine q_putI hP (by decide) h7 (fun x22 h8 => ?_)
  exact hQ _ _ h8
theorem fr2_X11_question {P : HS → Prop} (hP : CloR [(2, 2), (2, 4), (2, 5), (5, 0), (5, 3), (5, 4), (5, 6), (5, 7), (6, 1), (6, 2), (6, 3), (6, 5), (6, 6), (7, 1), (7, 2), (8, 1), (8, 7), (11, 11)] [(2, 3), (5, 2), (5, 5), (6, 4), (6, 7), (8, 0), (8, 2), (8, 6)] [20] [] P) {l0 : Option Nat} {l1 : Int32} {x : HS} {Q Q' : Int32 → HS → Prop} {X X' : String → HS → Prop} (hQ : ∀ r u, P u → Q r u → Q' r u) (hX : ∀ e u, P u → X e u → X' e u) (h2 : ∀ a, l0 = some a → a ∈ x.LP → x.k a = 11 → P (x.wI (up2 x.I a 9 0))) : w_X11_question l0 l1 x Q X → w_X11_question l0 l1 x Q' X' := by
  unfold w_X11_question
  refine q_getI (fun _ => ?_)
  refine qy_putI h2 (fun x2 h1 => ?_)
  refine q_getF (fun _ => ?_)
  refine q_putI hP (by decide) h1 (fun x4 h2 => ?_)
  refine q_recv ?_
  refine fr_X11_requireTime (hP.mono (by decide) (by decide) (by decide) (by decide)) (fun  y3 h3 => ?_) hX h2
  refine q_getF (fun _ => ?_)
  refine q_getF (fun _ => ?_)
  refine q_getF (fun _ => ?_)
  refine q_recv ?_
  refine fr_X6_readQuestion (hP.mono (by decide) (by decide) (by decide) (by decide)) (fun  y4 h4 => ?_) hX h3
  refine q_putI hP (by decide) h4 (fun x12 h5 => ?_)
  refine q_getF (fun _ => ?_)
  refine q_getF (fun _ => ?_)
  refine q_getF (fun _ => ?_)
  refine q_recv ?_
  refine fr_X9_timeOf (hP.mono (by decide) (by decide) (by decide) (by decide)) (fun _ y6 h6 => ?_) h5
  refine q_recv ?_
  refine fr_X8_solveAll (hP.mono (by decide) (by decide) (by decide) (by decide)) (fun _ y7 h7 => ?_) hX h6
  refine q_getF (fun _ => ?_)
  refine q_getI (fun _ => ?_)
  refine q_putI hP (by decide) h7 (fun x22 h8 => ?_)
  exact hQ _ _ h8
theorem fr_X11_solution {P : HS → Prop} (hP : CloR [] [] [] [] P) {l0 : Option Nat} {l1 : Int32} {l2 : Int32} {x : HS} {Q Q' : Int32 → HS → Prop} {X X' : String → HS → Prop} (hQ : ∀ r u, P u → Q r u → Q' r u) (hX : ∀ e u, P u → X e u → X' e u) (hx : P x) : w_X11_solution l0 l1 l2 x Q X → w_X11_solution l0 l1 l2 x Q' X' := by
  unfold w_X11_solution
  refine fr_X11_requireRange (hP.mono (by decide) (by decide) (by decide) (by decide)) (fun  y1 h1 => ?_) hX hx
  refine q_getF (fun _ => ?_)
  refine q_getF (fun _ => ?_)
  refine q_join0 (P := P) (fun y2 h2 => ?_) (fun _ _ k2 => ?_)
  · skip
    exact q_throw hP h2 hX
  · skip
    refine q_if ?_ ?_
    · skip
      exact k2 _ h1
    · skip
      refine q_recv ?_
      refine fr_X7_keptCount (hP.mono (by decide) (by decide) (by decide) (by decide)) (fun _ y3 h3 => ?_) h1
      refine q_if ?_ ?_
      · skip
        exact k2 _ h3
      · skip
        refine q_getI (fun _ => ?_)
        refine fr_X11_isIn (hP.mono (by decide) (by decide) (by decide) (by decide)) (fun _ y4 h4 => ?_) h3
        refine q_if ?_ ?_
        · skip
          exact k2 _ h4
        · skip
          refine q_getF (fun _ => ?_)
          refine q_aldJ (fun _ => ?_)
          exact hQ _ _ h4
theorem fr_J6_bitCount_0f7a4 {P : HS → Prop} (hP : CloR [] [] [] [] P) {l0 : Int32} {x : HS} {Q Q' : Int32 → HS → Prop} {X X' : String → HS → Prop} (hQ : ∀ r u, P u → Q r u → Q' r u) (hx : P x) : w_J6_bitCount_0f7a4 l0 x Q X → w_J6_bitCount_0f7a4 l0 x Q' X' := by
  unfold w_J6_bitCount_0f7a4
  exact hQ _ _ hx
theorem fr_X11_factsThereNow {P : HS → Prop} (hP : CloR [] [] [] [] P) {l0 : Option Nat} {l1 : Int32} {x : HS} {Q Q' : Int32 → HS → Prop} {X X' : String → HS → Prop} (hQ : ∀ r u, P u → Q r u → Q' r u) (hx : P x) : w_X11_factsThereNow l0 l1 x Q X → w_X11_factsThereNow l0 l1 x Q' X' := by
  unfold w_X11_factsThereNow
  refine q_getF (fun _ => ?_)
  refine q_recv ?_
  refine fr_X9_tableAt (hP.mono (by decide) (by decide) (by decide) (by decide)) (fun _ y1 h1 => ?_) hx
  refine q_join1 (P := P) (fun _ y2 h2 => ?_) (fun _ _ k2 => ?_)
  · skip
    exact hQ _ _ h2
  · skip
    refine q_if ?_ ?_
    · skip
      exact k2 _ _ h1
    · skip
      refine q_recv ?_
      refine fr_X10_factsThereNow (hP.mono (by decide) (by decide) (by decide) (by decide)) (fun _ y3 h3 => ?_) h1
      exact k2 _ _ h3
theorem fr_X11_count {P : HS → Prop} (hP : CloR [] [] [] [] P) {l0 : Option Nat} {l1 : Int32} {x : HS} {Q Q' : Int32 → HS → Prop} {X X' : String → HS → Prop} (hQ : ∀ r u, P u → Q r u → Q' r u) (hX : ∀ e u, P u → X e u → X' e u) (hx : P x) : w_X11_count l0 l1 x Q X → w_X11_count l0 l1 x Q' X' := by
  unfold w_X11_count
  refine fr_X11_requireRange (hP.mono (by decide) (by decide) (by decide) (by decide)) (fun  y1 h1 => ?_) hX hx
  refine q_if ?_ ?_
  · skip
    refine q_getI (fun _ => ?_)
    exact hQ _ _ h1
  · skip
    refine q_if ?_ ?_
    · skip
      refine q_getF (fun _ => ?_)
      refine q_getI (fun _ => ?_)
      exact hQ _ _ h1
    · skip
      refine q_if ?_ ?_
      · skip
        refine q_getF (fun _ => ?_)
        refine q_getI (fun _ => ?_)
        exact hQ _ _ h1
      · skip
        refine q_if ?_ ?_
        · skip
          refine q_getF (fun _ => ?_)
          refine q_getI (fun _ => ?_)
          exact hQ _ _ h1
        · skip
          refine q_if ?_ ?_
          · skip
            refine q_getF (fun _ => ?_)
            refine q_getI (fun _ => ?_)
            exact hQ _ _ h1
          · skip
            refine q_if ?_ ?_
            · skip
              refine q_getI (fun _ => ?_)
              exact hQ _ _ h1
            · skip
              refine q_if ?_ ?_
              · skip
                refine q_getF (fun _ => ?_)
                refine q_getI (fun _ => ?_)
                exact hQ _ _ h1
              · skip
                refine q_if ?_ ?_
                · skip
                  refine q_recv ?_
                  refine fr_X11_openCursors (hP.mono (by decide) (by decide) (by decide) (by decide)) (fun _ y2 h2 => ?_) h1
                  exact hQ _ _ h2
                · skip
                  refine q_if ?_ ?_
                  · skip
                    refine q_getF (fun _ => ?_)
                    refine q_getF (fun _ => ?_)
                    refine q_getI (fun _ => ?_)
                    exact hQ _ _ h1
                  · skip
                    refine q_if ?_ ?_
                    · skip
                      refine q_getF (fun _ => ?_)
                      refine q_getF (fun _ => ?_)
                      refine q_getI (fun _ => ?_)
                      refine fr_J6_bitCount_0f7a4 (hP.mono (by decide) (by decide) (by decide) (by decide)) (fun _ y3 h3 => ?_) h1
                      exact hQ _ _ h3
                    · skip
                      refine q_recv ?_
                      refine fr_X11_factsThereNow (hP.mono (by decide) (by decide) (by decide) (by decide)) (fun _ y4 h4 => ?_) h1
                      exact hQ _ _ h4
