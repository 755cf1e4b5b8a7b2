set_option linter.unusedVariables false
/-! calls that leave alone what is said of the class: laid by wip/sim/v2/frq.py -/
section VYB
variable {b : CT} {lk : Nat → Nat} {I0 : Nat → Nat → Int32} {F0 : Nat → Nat → Option Nat} {A0 : Nat → Nat → Nat → Int32} {E0 : Nat → Nat → Nat → Option Nat}
theorem fq_X1_isThere (H : HQk b lk E0) {l0 : Option Nat} {l1 : Int32} {x : HS} {Q Q' : Int32 → HS → Prop} {X X' : String → HS → Prop} (hQ : ∀ r u, (PQ b lk I0 F0 A0 E0) u → Q r u → Q' r u) (hx : (PQ b lk I0 F0 A0 E0) x) : w_X1_isThere l0 l1 x Q X → w_X1_isThere l0 l1 x Q' X' := by
  unfold w_X1_isThere
  refine q_getI (fun _ => ?_)
  refine q_join1 (P := PQ b lk I0 F0 A0 E0) (fun _ y1 h1 => ?_) (fun _ _ k1 => ?_)
  · skip
    refine q_bit ?_
    exact hQ _ _ h1
  · skip
    refine q_join0 (P := PQ b lk I0 F0 A0 E0) (fun y2 h2 => ?_) (fun _ _ k2 => ?_)
    · skip
      exact k1 _ _ h2
    · skip
      refine q_if ?_ ?_
      · skip
        exact k2 _ hx
      · skip
        refine q_getI (fun _ => ?_)
        refine q_join0 (P := PQ b lk I0 F0 A0 E0) (fun y3 h3 => ?_) (fun _ _ k3 => ?_)
        · skip
          exact k1 _ _ h3
        · skip
          refine q_if ?_ ?_
          · skip
            exact k3 _ hx
          · skip
            refine q_getI (fun _ => ?_)
            refine q_if ?_ ?_
            · skip
              exact k2 _ hx
            · skip
              exact k3 _ hx
theorem fq_X1_isThereNow (H : HQk b lk E0) {l0 : Option Nat} {x : HS} {Q Q' : Int32 → HS → Prop} {X X' : String → HS → Prop} (hQ : ∀ r u, (PQ b lk I0 F0 A0 E0) u → Q r u → Q' r u) (hx : (PQ b lk I0 F0 A0 E0) x) : w_X1_isThereNow l0 x Q X → w_X1_isThereNow l0 x Q' X' := by
  unfold w_X1_isThereNow
  refine q_getI (fun _ => ?_)
  refine q_join1 (P := PQ b lk I0 F0 A0 E0) (fun _ y1 h1 => ?_) (fun _ _ k1 => ?_)
  · skip
    refine q_bit ?_
    exact hQ _ _ h1
  · skip
    refine q_if ?_ ?_
    · skip
      exact k1 _ _ hx
    · skip
      exact k1 _ _ hx
theorem fq_X11_isIn (H : HQk b lk E0) {l0 : Int32} {l1 : Int32} {x : HS} {Q Q' : Int32 → HS → Prop} {X X' : String → HS → Prop} (hQ : ∀ r u, (PQ b lk I0 F0 A0 E0) u → Q r u → Q' r u) (hx : (PQ b lk I0 F0 A0 E0) x) : w_X11_isIn l0 l1 x Q X → w_X11_isIn l0 l1 x Q' X' := by
  unfold w_X11_isIn
  refine q_join1 (P := PQ b lk I0 F0 A0 E0) (fun _ y1 h1 => ?_) (fun _ _ k1 => ?_)
  · skip
    refine q_bit ?_
    exact hQ _ _ h1
  · skip
    refine q_if ?_ ?_
    · skip
      exact k1 _ _ hx
    · skip
      exact k1 _ _ hx
theorem fq_X1_fits (H : HQk b lk E0) {l0 : Option Nat} {l1 : Int32} {l2 : Option Nat} {x : HS} {Q Q' : Int32 → HS → Prop} {X X' : String → HS → Prop} (hQ : ∀ r u, (PQ b lk I0 F0 A0 E0) u → Q r u → Q' r u) (hx : (PQ b lk I0 F0 A0 E0) x) : w_X1_fits l0 l1 l2 x Q X → w_X1_fits l0 l1 l2 x Q' X' := by
  unfold w_X1_fits
  refine q_loop (P := PQ b lk I0 F0 A0 E0) hx (fun v4 x3 _ _ h1 k1 => ?_)
  refine q_if ?_ ?_
  · skip
    refine q_bit ?_
    exact hQ _ _ h1
  · skip
    refine fq_X11_isIn H (fun _ y2 h2 => ?_) h1
    refine q_join0 (P := PQ b lk I0 F0 A0 E0) (fun y3 h3 => ?_) (fun _ _ k3 => ?_)
    · skip
      exact k1 _ _ h3
    · skip
      refine q_if ?_ ?_
      · skip
        exact k3 _ h2
      · skip
        refine qp_getA H (by decide) h2 (fun a4 e4 i4 => ?_)
        refine q_aldJ (fun _ => ?_)
        refine q_aldJ (fun _ => ?_)
        refine q_if ?_ ?_
        · skip
          exact k3 _ h2
        · skip
          refine q_bit ?_
          exact hQ _ _ h2
theorem fq_X4_chainWith (H : HQk b lk E0) {l0 : Option Nat} {l1 : Int32} {x : HS} {Q Q' : Option Nat → HS → Prop} {X X' : String → HS → Prop} (hQ : ∀ r u, (PQ b lk I0 F0 A0 E0) u → Q r u → Q' r u) (hx : (PQ b lk I0 F0 A0 E0) x) : w_X4_chainWith l0 l1 x Q X → w_X4_chainWith l0 l1 x Q' X' := by
  unfold w_X4_chainWith
  refine qp_getA H (by decide) hx (fun a1 e1 i1 => ?_)
  refine q_aldG (fun _ => ?_)
  refine q_loop (P := PQ b lk I0 F0 A0 E0) hx (fun v6 x5 _ _ h2 k2 => ?_)
  refine q_join0 (P := PQ b lk I0 F0 A0 E0) (fun y3 h3 => ?_) (fun _ _ k3 => ?_)
  · skip
    exact hQ _ _ h3
  · skip
    refine q_if ?_ ?_
    · skip
      exact k3 _ h2
    · skip
      refine q_getI (fun _ => ?_)
      refine q_if ?_ ?_
      · skip
        exact k3 _ h2
      · skip
        refine q_getF (fun _ => ?_)
        exact k2 _ _ h2
theorem fq_X10_allColumns (H : HQk b lk E0) {l0 : Option Nat} {x : HS} {Q Q' : Int32 → HS → Prop} {X X' : String → HS → Prop} (hQ : ∀ r u, (PQ b lk I0 F0 A0 E0) u → Q r u → Q' r u) (hx : (PQ b lk I0 F0 A0 E0) x) : w_X10_allColumns l0 x Q X → w_X10_allColumns l0 x Q' X' := by
  unfold w_X10_allColumns
  refine q_getI (fun _ => ?_)
  exact hQ _ _ hx
theorem fq_X5_begin (H : HQk b lk E0) {l0 : Option Nat} {l1 : Option Nat} {l2 : Int32} {l3 : Option Nat} {l4 : Int32} (Ll0 : ∀ q, l0 = some q → NLk lk q) {x : HS} {Q Q' : HS → Prop} {X X' : String → HS → Prop} (hQ : ∀ u, (PQ b lk I0 F0 A0 E0) u → Q u → Q' u) (hx : (PQ b lk I0 F0 A0 E0) x) : w_X5_begin l0 l1 l2 l3 l4 x Q X → w_X5_begin l0 l1 l2 l3 l4 x Q' X' := by
  unfold w_X5_begin
  refine qp_putF H (by decide) (by decide) (fun a e => Or.inr (Ll0 a e)) hx (fun x1 h1 => ?_)
  refine q_recv ?_
  refine fq_X10_allColumns H (fun _ y2 h2 => ?_) h1
  refine qp_putI H (by decide) (fun a e => Or.inr (Ll0 a e)) h2 (fun x4 h3 => ?_)
  refine qp_putI H (by decide) (fun a e => Or.inr (Ll0 a e)) h3 (fun x5 h4 => ?_)
  refine qp_putF H (by decide) (by decide) (fun a e => Or.inr (Ll0 a e)) h4 (fun x6 h5 => ?_)
  refine qp_putZ H (by decide) (fun a e => Or.inr (Ll0 a e)) h5 (fun x7 h6 => ?_)
  refine qp_putI H (by decide) (fun a e => Or.inr (Ll0 a e)) h6 (fun x8 h7 => ?_)
  refine qp_putI H (by decide) (fun a e => Or.inr (Ll0 a e)) h7 (fun x9 h8 => ?_)
  refine q_loop (P := PQ b lk I0 F0 A0 E0) h8 (fun v13 x12 _ _ h9 k9 => ?_)
  refine q_if ?_ ?_
  · skip
    exact hQ _ h9
  · skip
    refine qp_getA H (by decide) h9 (fun a10 e10 i10 => ?_)
    refine q_aldJ (fun _ => ?_)
    refine qp_astI H i10 (by decide) (by decide) (Or.inr (Ll0 a10 e10)) h9 (fun x16 h11 => ?_)
    exact k9 _ _ h11
theorem fq_X10_laneFor (H : HQk b lk E0) {l0 : Option Nat} {l1 : Int32} {x : HS} {Q Q' : Int32 → HS → Prop} {X X' : String → HS → Prop} (hQ : ∀ r u, (PQ b lk I0 F0 A0 E0) u → Q r u → Q' r u) (hx : (PQ b lk I0 F0 A0 E0) x) : w_X10_laneFor l0 l1 x Q X → w_X10_laneFor l0 l1 x Q' X' := by
  unfold w_X10_laneFor
  refine q_loop (P := PQ b lk I0 F0 A0 E0) hx (fun v4 x3 _ _ h1 k1 => ?_)
  refine q_getI (fun _ => ?_)
  refine q_if ?_ ?_
  · skip
    exact hQ _ _ h1
  · skip
    refine fq_X11_isIn H (fun _ y2 h2 => ?_) h1
    refine q_join0 (P := PQ b lk I0 F0 A0 E0) (fun y3 h3 => ?_) (fun _ _ k3 => ?_)
    · skip
      exact k1 _ _ h3
    · skip
      refine q_if ?_ ?_
      · skip
        exact k3 _ h2
      · skip
        refine qp_getA H (by decide) h2 (fun a4 e4 i4 => ?_)
        refine q_aldG (fun _ => ?_)
        refine q_if ?_ ?_
        · skip
          exact k3 _ h2
        · skip
          exact hQ _ _ h2
theorem fq_X10_firstIn (H : HQk b lk E0) {l0 : Option Nat} {l1 : Int32} {l2 : Option Nat} {x : HS} {Q Q' : Option Nat → HS → Prop} {X X' : String → HS → Prop} (hQ : ∀ r u, (PQ b lk I0 F0 A0 E0) u → Q r u → Q' r u) (hx : (PQ b lk I0 F0 A0 E0) x) : w_X10_firstIn l0 l1 l2 x Q X → w_X10_firstIn l0 l1 l2 x Q' X' := by
  unfold w_X10_firstIn
  refine q_join0 (P := PQ b lk I0 F0 A0 E0) (fun y1 h1 => ?_) (fun _ _ k1 => ?_)
  · skip
    refine q_getF (fun _ => ?_)
    refine q_getF (fun _ => ?_)
    exact hQ _ _ h1
  · skip
    refine q_if ?_ ?_
    · skip
      exact k1 _ hx
    · skip
      refine q_if ?_ ?_
      · skip
        exact k1 _ hx
      · skip
        refine qp_getA H (by decide) hx (fun a2 e2 i2 => ?_)
        refine q_aldG (fun _ => ?_)
        refine q_if ?_ ?_
        · skip
          exact k1 _ hx
        · skip
          refine qp_getA H (by decide) hx (fun a3 e3 i3 => ?_)
          refine q_aldG (fun _ => ?_)
          refine q_aldJ (fun _ => ?_)
          refine q_recv ?_
          refine fq_X4_chainWith H (fun _ y4 h4 => ?_) hx
          refine q_join1 (P := PQ b lk I0 F0 A0 E0) (fun _ y5 h5 => ?_) (fun _ _ k5 => ?_)
          · skip
            exact hQ _ _ h5
          · skip
            refine q_if ?_ ?_
            · skip
              exact k5 _ _ h4
            · skip
              refine q_getF (fun _ => ?_)
              exact k5 _ _ h4
theorem fq_X5_advance (H : HQk b lk E0) {l0 : Option Nat} (Ll0 : ∀ q, l0 = some q → NLk lk q) {x : HS} {Q Q' : Option Nat → HS → Prop} {X X' : String → HS → Prop} (hQ : ∀ r u, (PQ b lk I0 F0 A0 E0) u → Q r u → Q' r u) (hx : (PQ b lk I0 F0 A0 E0) x) : w_X5_advance l0 x Q X → w_X5_advance l0 x Q' X' := by
  unfold w_X5_advance
  refine q_getI (fun _ => ?_)
  refine q_join0 (P := PQ b lk I0 F0 A0 E0) (fun y1 h1 => ?_) (fun _ _ k1 => ?_)
  · skip
    exact hQ _ _ h1
  · skip
    refine q_if ?_ ?_
    · skip
      refine q_getF (fun _ => ?_)
      refine q_if ?_ ?_
      · skip
        exact k1 _ hx
      · skip
        refine q_getF (fun _ => ?_)
        refine q_getI (fun _ => ?_)
        refine q_recv ?_
        refine fq_X10_laneFor H (fun _ y2 h2 => ?_) hx
        refine q_getF (fun _ => ?_)
        refine q_join1 (P := PQ b lk I0 F0 A0 E0) (fun _ y3 h3 => ?_) (fun _ _ k3 => ?_)
        · skip
          refine q_loop (P := PQ b lk I0 F0 A0 E0) h3 (fun v16 x15 _ _ h4 k4 => ?_)
          refine q_if ?_ ?_
          · skip
            refine qp_putZ H (by decide) (fun a e => Or.inr (Ll0 a e)) h4 (fun x17 h5 => ?_)
            exact hQ _ _ h5
          · skip
            refine q_getI (fun _ => ?_)
            refine qp_putI H (by decide) (fun a e => Or.inr (Ll0 a e)) h4 (fun x19 h6 => ?_)
            refine q_getI (fun _ => ?_)
            refine q_recv ?_
            refine fq_X1_isThere H (fun _ y7 h7 => ?_) h6
            refine q_join0 (P := PQ b lk I0 F0 A0 E0) (fun y8 h8 => ?_) (fun _ _ k8 => ?_)
            · skip
              refine qp_getA H (by decide) h8 (fun a9 e9 i9 => ?_)
              refine q_aldG (fun _ => ?_)
              exact k4 _ _ h8
            · skip
              refine q_if ?_ ?_
              · skip
                exact k8 _ h7
              · skip
                refine q_getI (fun _ => ?_)
                refine qp_getA H (by decide) h7 (fun a10 e10 i10 => ?_)
                refine q_recv ?_
                refine fq_X1_fits H (fun _ y11 h11 => ?_) h7
                refine q_if ?_ ?_
                · skip
                  exact k8 _ h11
                · skip
                  refine qp_putF H (by decide) (by decide) (fun a e => Or.inr (Ll0 a e)) h11 (fun x31 h12 => ?_)
                  refine q_getI (fun _ => ?_)
                  refine qp_putI H (by decide) (fun a e => Or.inr (Ll0 a e)) h12 (fun x33 h13 => ?_)
                  exact hQ _ _ h13
        · skip
          refine q_if ?_ ?_
          · skip
            refine q_getF (fun _ => ?_)
            refine qp_getA H (by decide) h2 (fun a14 e14 i14 => ?_)
            refine q_recv ?_
            refine fq_X10_firstIn H (fun _ y15 h15 => ?_) h2
            exact k3 _ _ h15
          · skip
            refine q_getF (fun _ => ?_)
            refine qp_getA H (by decide) h2 (fun a16 e16 i16 => ?_)
            refine q_aldG (fun _ => ?_)
            exact k3 _ _ h2
    · skip
      exact k1 _ hx
theorem fq_X5_takeLookedAt (H : HQk b lk E0) {l0 : Option Nat} (Ll0 : ∀ q, l0 = some q → NLk lk q) {x : HS} {Q Q' : Int32 → HS → Prop} {X X' : String → HS → Prop} (hQ : ∀ r u, (PQ b lk I0 F0 A0 E0) u → Q r u → Q' r u) (hx : (PQ b lk I0 F0 A0 E0) x) : w_X5_takeLookedAt l0 x Q X → w_X5_takeLookedAt l0 x Q' X' := by
  unfold w_X5_takeLookedAt
  refine q_getI (fun _ => ?_)
  refine qp_putI H (by decide) (fun a e => Or.inr (Ll0 a e)) hx (fun x2 h1 => ?_)
  exact hQ _ _ h1
theorem fq_X6_here (H : HQk b lk E0) {l0 : Option Nat} {x : HS} {Q Q' : Int32 → HS → Prop} {X X' : String → HS → Prop} (hQ : ∀ r u, (PQ b lk I0 F0 A0 E0) u → Q r u → Q' r u) (hx : (PQ b lk I0 F0 A0 E0) x) : w_X6_here l0 x Q X → w_X6_here l0 x Q' X' := by
  unfold w_X6_here
  refine q_getI (fun _ => ?_)
  refine q_join1 (P := PQ b lk I0 F0 A0 E0) (fun _ y1 h1 => ?_) (fun _ _ k1 => ?_)
  · skip
    exact hQ _ _ h1
  · skip
    refine q_join0 (P := PQ b lk I0 F0 A0 E0) (fun y2 h2 => ?_) (fun _ _ k2 => ?_)
    · skip
      exact k1 _ _ h2
    · skip
      refine q_if ?_ ?_
      · skip
        exact k2 _ hx
      · skip
        refine q_getI (fun _ => ?_)
        refine q_getI (fun _ => ?_)
        refine q_if ?_ ?_
        · skip
          exact k2 _ hx
        · skip
          refine q_getI (fun _ => ?_)
          refine q_getF (fun _ => ?_)
          refine q_len (fun _ => ?_)
          refine q_if ?_ ?_
          · skip
            refine q_getF (fun _ => ?_)
            refine q_getI (fun _ => ?_)
            refine q_aldJ (fun _ => ?_)
            exact k1 _ _ hx
          · skip
            exact k2 _ hx
theorem fq_X6_skipBlanks (H : HQk b lk E0) {l0 : Option Nat} {x : HS} {Q Q' : HS → Prop} {X X' : String → HS → Prop} (hQ : ∀ u, (PQ b lk I0 F0 A0 E0) u → Q u → Q' u) (hx : (PQ b lk I0 F0 A0 E0) x) : w_X6_skipBlanks l0 x Q X → w_X6_skipBlanks l0 x Q' X' := by
  unfold w_X6_skipBlanks
  refine q_loop (P := PQ b lk I0 F0 A0 E0) hx (fun v4 x3 _ _ h1 k1 => ?_)
  refine q_getI (fun _ => ?_)
  refine q_getI (fun _ => ?_)
  refine q_join0 (P := PQ b lk I0 F0 A0 E0) (fun y2 h2 => ?_) (fun _ _ k2 => ?_)
  · skip
    exact hQ _ h2
  · skip
    refine q_if ?_ ?_
    · skip
      exact k2 _ h1
    · skip
      refine q_recv ?_
      refine fq_X6_here H (fun _ y3 h3 => ?_) h1
      refine q_if ?_ ?_
      · skip
        refine q_getI (fun _ => ?_)
        refine qp_putI H (by decide) (fun _ _ => Or.inl (by decide)) h3 (fun x12 h4 => ?_)
        exact k1 _ _ h4
      · skip
        exact k2 _ h3
theorem fq_X6_refuse (H : HQk b lk E0) {l0 : Option Nat} {l1 : Int32} {x : HS} {Q Q' : HS → Prop} {X X' : String → HS → Prop} (hQ : ∀ u, (PQ b lk I0 F0 A0 E0) u → Q u → Q' u) (hX : ∀ e u, (PQ b lk I0 F0 A0 E0) u → X e u → X' e u) (hx : (PQ b lk I0 F0 A0 E0) x) : w_X6_refuse l0 l1 x Q X → w_X6_refuse l0 l1 x Q' X' := by
  unfold w_X6_refuse
  refine qp_putI H (by decide) (fun _ _ => Or.inl (by decide)) hx (fun x1 h1 => ?_)
  exact qp_throw h1 hX
theorem fq_X6_take (H : HQk b lk E0) {l0 : Option Nat} {l1 : Int32} {x : HS} {Q Q' : HS → Prop} {X X' : String → HS → Prop} (hQ : ∀ u, (PQ b lk I0 F0 A0 E0) u → Q u → Q' u) (hX : ∀ e u, (PQ b lk I0 F0 A0 E0) u → X e u → X' e u) (hx : (PQ b lk I0 F0 A0 E0) x) : w_X6_take l0 l1 x Q X → w_X6_take l0 l1 x Q' X' := by
  unfold w_X6_take
  refine q_recv ?_
  refine fq_X6_here H (fun _ y1 h1 => ?_) hx
  refine q_join0 (P := PQ b lk I0 F0 A0 E0) (fun y2 h2 => ?_) (fun _ _ k2 => ?_)
  · skip
    refine q_getI (fun _ => ?_)
    refine qp_putI H (by decide) (fun _ _ => Or.inl (by decide)) h2 (fun x6 h3 => ?_)
    exact hQ _ h3
  · skip
    refine q_if ?_ ?_
    · skip
      exact k2 _ h1
    · skip
      refine q_getI (fun _ => ?_)
      refine q_recv ?_
      refine fq_X6_refuse H (fun  y4 h4 => ?_) hX h1
      exact k2 _ h4
theorem fq_X6_readDigits (H : HQk b lk E0) {l0 : Option Nat} {x : HS} {Q Q' : Int32 → HS → Prop} {X X' : String → HS → Prop} (hQ : ∀ r u, (PQ b lk I0 F0 A0 E0) u → Q r u → Q' r u) (hx : (PQ b lk I0 F0 A0 E0) x) : w_X6_readDigits l0 x Q X → w_X6_readDigits l0 x Q' X' := by
  unfold w_X6_readDigits
  refine q_loop (P := PQ b lk I0 F0 A0 E0) hx (fun v4 x3 _ _ h1 k1 => ?_)
  refine q_getI (fun _ => ?_)
  refine q_getI (fun _ => ?_)
  refine q_join0 (P := PQ b lk I0 F0 A0 E0) (fun y2 h2 => ?_) (fun _ _ k2 => ?_)
  · skip
    exact hQ _ _ h2
  · skip
    refine q_if ?_ ?_
    · skip
      exact k2 _ h1
    · skip
      refine q_getF (fun _ => ?_)
      refine q_getI (fun _ => ?_)
      refine q_aldJ (fun _ => ?_)
      refine q_if ?_ ?_
      · skip
        exact k2 _ h1
      · skip
        refine q_getF (fun _ => ?_)
        refine q_getI (fun _ => ?_)
        refine q_aldJ (fun _ => ?_)
        refine q_if ?_ ?_
        · skip
          exact k2 _ h1
        · skip
          refine q_getF (fun _ => ?_)
          refine q_getI (fun _ => ?_)
          refine q_aldJ (fun _ => ?_)
          refine q_getI (fun _ => ?_)
          refine qp_putI H (by decide) (fun _ _ => Or.inl (by decide)) h1 (fun x19 h3 => ?_)
          exact k1 _ _ h3
theorem fq_X9_tableAt (H : HQk b lk E0) {l0 : Option Nat} {l1 : Int32} {x : HS} {Q Q' : Option Nat → HS → Prop} {X X' : String → HS → Prop} (hQ : ∀ r u, (PQ b lk I0 F0 A0 E0) u → Q r u → Q' r u) (hx : (PQ b lk I0 F0 A0 E0) x) : w_X9_tableAt l0 l1 x Q X → w_X9_tableAt l0 l1 x Q' X' := by
  unfold w_X9_tableAt
  refine q_join1 (P := PQ b lk I0 F0 A0 E0) (fun _ y1 h1 => ?_) (fun _ _ k1 => ?_)
  · skip
    exact hQ _ _ h1
  · skip
    refine q_join0 (P := PQ b lk I0 F0 A0 E0) (fun y2 h2 => ?_) (fun _ _ k2 => ?_)
    · skip
      exact k1 _ _ h2
    · skip
      refine q_if ?_ ?_
      · skip
        exact k2 _ hx
      · skip
        refine q_getI (fun _ => ?_)
        refine q_if ?_ ?_
        · skip
          refine qp_getA H (by decide) hx (fun a3 e3 i3 => ?_)
          refine q_aldG (fun _ => ?_)
          exact k1 _ _ hx
        · skip
          exact k2 _ hx
theorem fq_X6_readTable (H : HQk b lk E0) {l0 : Option Nat} {x : HS} {Q Q' : Option Nat → HS → Prop} {X X' : String → HS → Prop} (hQ : ∀ r u, (PQ b lk I0 F0 A0 E0) u → Q r u → Q' r u) (hX : ∀ e u, (PQ b lk I0 F0 A0 E0) u → X e u → X' e u) (hx : (PQ b lk I0 F0 A0 E0) x) : w_X6_readTable l0 x Q X → w_X6_readTable l0 x Q' X' := by
  unfold w_X6_readTable
  refine q_getI (fun _ => ?_)
  refine q_recv ?_
  refine fq_X6_take H (fun  y1 h1 => ?_) hX hx
  refine q_getI (fun _ => ?_)
  refine q_recv ?_
  refine fq_X6_readDigits H (fun _ y2 h2 => ?_) h1
  refine q_getI (fun _ => ?_)
  refine q_join0 (P := PQ b lk I0 F0 A0 E0) (fun y3 h3 => ?_) (fun _ _ k3 => ?_)
  · skip
    refine q_getF (fun _ => ?_)
    refine q_recv ?_
    refine fq_X9_tableAt H (fun _ y4 h4 => ?_) h3
    refine q_join0 (P := PQ b lk I0 F0 A0 E0) (fun y5 h5 => ?_) (fun _ _ k5 => ?_)
    · skip
      exact hQ _ _ h5
    · skip
      refine q_if ?_ ?_
      · skip
        refine q_recv ?_
        refine fq_X6_refuse H (fun  y6 h6 => ?_) hX h4
        exact k5 _ h6
      · skip
        exact k5 _ h4
  · skip
    refine q_join0 (P := PQ b lk I0 F0 A0 E0) (fun y7 h7 => ?_) (fun _ _ k7 => ?_)
    · skip
      refine q_recv ?_
      refine fq_X6_refuse H (fun  y8 h8 => ?_) hX h7
      exact k3 _ h8
    · skip
      refine q_if ?_ ?_
      · skip
        exact k7 _ h2
      · skip
        refine q_getI (fun _ => ?_)
        refine q_if ?_ ?_
        · skip
          exact k3 _ h2
        · skip
          exact k7 _ h2
theorem fq_X6_readNumber (H : HQk b lk E0) {l0 : Option Nat} {x : HS} {Q Q' : Int32 → HS → Prop} {X X' : String → HS → Prop} (hQ : ∀ r u, (PQ b lk I0 F0 A0 E0) u → Q r u → Q' r u) (hX : ∀ e u, (PQ b lk I0 F0 A0 E0) u → X e u → X' e u) (hx : (PQ b lk I0 F0 A0 E0) x) : w_X6_readNumber l0 x Q X → w_X6_readNumber l0 x Q' X' := by
  unfold w_X6_readNumber
  refine q_getI (fun _ => ?_)
  refine q_recv ?_
  refine fq_X6_here H (fun _ y1 h1 => ?_) hx
  refine q_join1 (P := PQ b lk I0 F0 A0 E0) (fun _ y2 h2 => ?_) (fun _ _ k2 => ?_)
  · skip
    refine q_join0 (P := PQ b lk I0 F0 A0 E0) (fun y3 h3 => ?_) (fun _ _ k3 => ?_)
    · skip
      refine q_getI (fun _ => ?_)
      refine q_recv ?_
      refine fq_X6_readDigits H (fun _ y4 h4 => ?_) h3
      refine q_getI (fun _ => ?_)
      refine q_join0 (P := PQ b lk I0 F0 A0 E0) (fun y5 h5 => ?_) (fun _ _ k5 => ?_)
      · skip
        refine q_join1 (P := PQ b lk I0 F0 A0 E0) (fun _ y6 h6 => ?_) (fun _ _ k6 => ?_)
        · skip
          exact hQ _ _ h6
        · skip
          refine q_if ?_ ?_
          · skip
            exact k6 _ _ h5
          · skip
            exact k6 _ _ h5
      · skip
        refine q_join0 (P := PQ b lk I0 F0 A0 E0) (fun y7 h7 => ?_) (fun _ _ k7 => ?_)
        · skip
          refine q_recv ?_
          refine fq_X6_refuse H (fun  y8 h8 => ?_) hX h7
          exact k5 _ h8
        · skip
          refine q_if ?_ ?_
          · skip
            exact k7 _ h4
          · skip
            refine q_getI (fun _ => ?_)
            refine q_if ?_ ?_
            · skip
              exact k5 _ h4
            · skip
              exact k7 _ h4
    · skip
      refine q_if ?_ ?_
      · skip
        exact k3 _ h2
      · skip
        refine q_getI (fun _ => ?_)
        refine qp_putI H (by decide) (fun _ _ => Or.inl (by decide)) h2 (fun x24 h9 => ?_)
        exact k3 _ h9
  · skip
    refine q_if ?_ ?_
    · skip
      exact k2 _ _ h1
    · skip
      exact k2 _ _ h1
theorem fq_X6_readArg (H : HQk b lk E0) {l0 : Option Nat} {l1 : Option Nat} {l2 : Int32} {l3 : Int32} {x : HS} {Q Q' : HS → Prop} {X X' : String → HS → Prop} (hQ : ∀ u, (PQ b lk I0 F0 A0 E0) u → Q u → Q' u) (hX : ∀ e u, (PQ b lk I0 F0 A0 E0) u → X e u → X' e u) (hx : (PQ b lk I0 F0 A0 E0) x) : w_X6_readArg l0 l1 l2 l3 x Q X → w_X6_readArg l0 l1 l2 l3 x Q' X' := by
  unfold w_X6_readArg
  refine q_recv ?_
  refine fq_X6_here H (fun _ y1 h1 => ?_) hx
  refine q_join0 (P := PQ b lk I0 F0 A0 E0) (fun y2 h2 => ?_) (fun _ _ k2 => ?_)
  · skip
    exact hQ _ h2
  · skip
    refine q_join0 (P := PQ b lk I0 F0 A0 E0) (fun y3 h3 => ?_) (fun _ _ k3 => ?_)
    · skip
      refine q_join0 (P := PQ b lk I0 F0 A0 E0) (fun y4 h4 => ?_) (fun _ _ k4 => ?_)
      · skip
        refine qp_getA H (by decide) h4 (fun a5 e5 i5 => ?_)
        refine qp_astI H i5 (by decide) (by decide) (Or.inl (by decide)) h4 (fun x10 h6 => ?_)
        refine qp_getA H (by decide) h6 (fun a7 e7 i7 => ?_)
        refine q_recv ?_
        refine fq_X6_readNumber H (fun _ y8 h8 => ?_) hX h6
        refine qp_astI H i7 (by decide) (by decide) (Or.inl (by decide)) h8 (fun x14 h9 => ?_)
        exact k2 _ h9
      · skip
        refine q_if ?_ ?_
        · skip
          refine q_if ?_ ?_
          · skip
            exact k4 _ h3
          · skip
            refine qp_getA H (by decide) h3 (fun a10 e10 i10 => ?_)
            refine qp_astI H i10 (by decide) (by decide) (Or.inl (by decide)) h3 (fun x16 h11 => ?_)
            refine q_getI (fun _ => ?_)
            refine qp_putI H (by decide) (fun _ _ => Or.inl (by decide)) h11 (fun x18 h12 => ?_)
            exact k2 _ h12
        · skip
          exact k4 _ h3
    · skip
      refine q_if ?_ ?_
      · skip
        exact k3 _ h1
      · skip
        refine q_if ?_ ?_
        · skip
          exact k3 _ h1
        · skip
          refine qp_getA H (by decide) h1 (fun a13 e13 i13 => ?_)
          refine qp_astI H i13 (by decide) (by decide) (Or.inl (by decide)) h1 (fun x20 h14 => ?_)
          refine qp_getA H (by decide) h14 (fun a15 e15 i15 => ?_)
          refine qp_astI H i15 (by decide) (by decide) (Or.inl (by decide)) h14 (fun x22 h16 => ?_)
          refine q_getI (fun _ => ?_)
          refine qp_putI H (by decide) (fun _ _ => Or.inl (by decide)) h16 (fun x24 h17 => ?_)
          exact k2 _ h17
theorem fq_X6_sortTableArg (H : HQk b lk E0) {l0 : Option Nat} {l1 : Option Nat} {l2 : Int32} {l3 : Int32} {x : HS} {Q Q' : Int32 → HS → Prop} {X X' : String → HS → Prop} (hQ : ∀ r u, (PQ b lk I0 F0 A0 E0) u → Q r u → Q' r u) (hx : (PQ b lk I0 F0 A0 E0) x) : w_X6_sortTableArg l0 l1 l2 l3 x Q X → w_X6_sortTableArg l0 l1 l2 l3 x Q' X' := by
  unfold w_X6_sortTableArg
  refine qp_getA H (by decide) hx (fun a1 e1 i1 => ?_)
  refine q_aldJ (fun _ => ?_)
  refine q_join1 (P := PQ b lk I0 F0 A0 E0) (fun _ y2 h2 => ?_) (fun _ _ k2 => ?_)
  · skip
    refine qp_getA H (by decide) h2 (fun a3 e3 i3 => ?_)
    refine q_aldJ (fun _ => ?_)
    refine q_join0 (P := PQ b lk I0 F0 A0 E0) (fun y4 h4 => ?_) (fun _ _ k4 => ?_)
    · skip
      exact hQ _ _ h4
    · skip
      refine q_join0 (P := PQ b lk I0 F0 A0 E0) (fun y5 h5 => ?_) (fun _ _ k5 => ?_)
      · skip
        refine q_getI (fun _ => ?_)
        refine qp_putI H (by decide) (fun _ _ => Or.inl (by decide)) h5 (fun x13 h6 => ?_)
        exact k4 _ h6
      · skip
        refine q_if ?_ ?_
        · skip
          exact k5 _ h2
        · skip
          refine qp_getA H (by decide) h2 (fun a7 e7 i7 => ?_)
          refine q_aldJ (fun _ => ?_)
          refine q_if ?_ ?_
          · skip
            exact k5 _ h2
          · skip
            exact k4 _ h2
  · skip
    refine q_if ?_ ?_
    · skip
      refine q_getI (fun _ => ?_)
      refine qp_getA H (by decide) hx (fun a8 e8 i8 => ?_)
      refine q_aldJ (fun _ => ?_)
      refine fq_X11_isIn H (fun _ y9 h9 => ?_) hx
      refine q_if ?_ ?_
      · skip
        refine qp_getA H (by decide) h9 (fun a10 e10 i10 => ?_)
        refine q_aldJ (fun _ => ?_)
        refine fq_X11_isIn H (fun _ y11 h11 => ?_) h9
        refine q_if ?_ ?_
        · skip
          refine qp_getA H (by decide) h11 (fun a12 e12 i12 => ?_)
          refine q_aldJ (fun _ => ?_)
          exact k2 _ _ h11
        · skip
          refine qp_getA H (by decide) h11 (fun a13 e13 i13 => ?_)
          refine qp_astI H i13 (by decide) (by decide) (Or.inl (by decide)) h11 (fun x28 h14 => ?_)
          exact k2 _ _ h14
      · skip
        refine qp_getA H (by decide) h9 (fun a15 e15 i15 => ?_)
        refine qp_astI H i15 (by decide) (by decide) (Or.inl (by decide)) h9 (fun x30 h16 => ?_)
        exact k2 _ _ h16
    · skip
      exact k2 _ _ hx
theorem fq_X6_refuseArgTooMuch (H : HQk b lk E0) {l0 : Option Nat} {x : HS} {Q Q' : HS → Prop} {X X' : String → HS → Prop} (hQ : ∀ u, (PQ b lk I0 F0 A0 E0) u → Q u → Q' u) (hX : ∀ e u, (PQ b lk I0 F0 A0 E0) u → X e u → X' e u) (hx : (PQ b lk I0 F0 A0 E0) x) : w_X6_refuseArgTooMuch l0 x Q X → w_X6_refuseArgTooMuch l0 x Q' X' := by
  unfold w_X6_refuseArgTooMuch
  refine q_recv ?_
  refine fq_X6_here H (fun _ y1 h1 => ?_) hx
  refine q_join0 (P := PQ b lk I0 F0 A0 E0) (fun y2 h2 => ?_) (fun _ _ k2 => ?_)
  · skip
    exact hQ _ h2
  · skip
    refine q_if ?_ ?_
    · skip
      refine q_getI (fun _ => ?_)
      refine qp_putI H (by decide) (fun _ _ => Or.inl (by decide)) h1 (fun x6 h3 => ?_)
      refine q_recv ?_
      refine fq_X6_skipBlanks H (fun  y4 h4 => ?_) h3
      refine q_getI (fun _ => ?_)
      refine q_recv ?_
      refine fq_X6_refuse H (fun  y5 h5 => ?_) hX h4
      exact k2 _ h5
    · skip
      exact k2 _ h1
theorem fq_X6_readTableGoal (H : HQk b lk E0) {l0 : Option Nat} {l1 : Option Nat} {x : HS} {Q Q' : HS → Prop} {X X' : String → HS → Prop} (hQ : ∀ u, (PQ b lk I0 F0 A0 E0) u → Q u → Q' u) (hX : ∀ e u, (PQ b lk I0 F0 A0 E0) u → X e u → X' e u) (hx : (PQ b lk I0 F0 A0 E0) x) : w_X6_readTableGoal l0 l1 x Q X → w_X6_readTableGoal l0 l1 x Q' X' := by
  unfold w_X6_readTableGoal
  refine q_recv ?_
  refine fq_X6_here H (fun _ y1 h1 => ?_) hx
  refine qp_putI H (by decide) (fun _ _ => Or.inl (by decide)) h1 (fun x3 h2 => ?_)
  refine q_getI (fun _ => ?_)
  refine q_join0 (P := PQ b lk I0 F0 A0 E0) (fun y3 h3 => ?_) (fun _ _ k3 => ?_)
  · skip
    refine q_recv ?_
    refine fq_X6_readTable H (fun _ y4 h4 => ?_) hX h3
    refine qp_putF H (by decide) (by decide) (fun _ _ => Or.inl (by decide)) h4 (fun x9 h5 => ?_)
    refine qp_putI H (by decide) (fun _ _ => Or.inl (by decide)) h5 (fun x10 h6 => ?_)
    refine q_recv ?_
    refine fq_X6_skipBlanks H (fun  y7 h7 => ?_) h6
    refine q_recv ?_
    refine fq_X6_take H (fun  y8 h8 => ?_) hX h7
    refine q_loop (P := PQ b lk I0 F0 A0 E0) h8 (fun v18 x17 _ _ h9 k9 => ?_)
    refine q_getF (fun _ => ?_)
    refine q_getI (fun _ => ?_)
    refine q_if ?_ ?_
    · skip
      refine q_recv ?_
      refine fq_X6_refuseArgTooMuch H (fun  y10 h10 => ?_) hX h9
      refine q_recv ?_
      refine fq_X6_take H (fun  y11 h11 => ?_) hX h10
      refine q_getI (fun _ => ?_)
      refine q_join0 (P := PQ b lk I0 F0 A0 E0) (fun y12 h12 => ?_) (fun _ _ k12 => ?_)
      · skip
        exact hQ _ h12
      · skip
        refine q_if ?_ ?_
        · skip
          refine q_getI (fun _ => ?_)
          refine qp_putI H (by decide) (fun _ _ => Or.inl (by decide)) h11 (fun x29 h13 => ?_)
          exact k12 _ h13
        · skip
          exact k12 _ h11
    · skip
      refine q_join0 (P := PQ b lk I0 F0 A0 E0) (fun y14 h14 => ?_) (fun _ _ k14 => ?_)
      · skip
        refine q_recv ?_
        refine fq_X6_skipBlanks H (fun  y15 h15 => ?_) h14
        refine q_recv ?_
        refine fq_X6_readArg H (fun  y16 h16 => ?_) hX h15
        refine q_recv ?_
        refine fq_X6_sortTableArg H (fun _ y17 h17 => ?_) h16
        refine q_recv ?_
        refine fq_X6_skipBlanks H (fun  y18 h18 => ?_) h17
        exact k9 _ _ h18
      · skip
        refine q_if ?_ ?_
        · skip
          exact k14 _ h9
        · skip
          refine q_recv ?_
          refine fq_X6_take H (fun  y19 h19 => ?_) hX h9
          exact k14 _ h19
  · skip
    refine q_if ?_ ?_
    · skip
      refine q_getI (fun _ => ?_)
      refine qp_putI H (by decide) (fun _ _ => Or.inl (by decide)) h2 (fun x43 h20 => ?_)
      refine q_recv ?_
      refine fq_X6_skipBlanks H (fun  y21 h21 => ?_) h20
      exact k3 _ h21
    · skip
      exact k3 _ h2
theorem fq_X6_requireKnown (H : HQk b lk E0) {l0 : Option Nat} {l1 : Option Nat} {l2 : Int32} {l3 : Int32} {x : HS} {Q Q' : HS → Prop} {X X' : String → HS → Prop} (hQ : ∀ u, (PQ b lk I0 F0 A0 E0) u → Q u → Q' u) (hX : ∀ e u, (PQ b lk I0 F0 A0 E0) u → X e u → X' e u) (hx : (PQ b lk I0 F0 A0 E0) x) : w_X6_requireKnown l0 l1 l2 l3 x Q X → w_X6_requireKnown l0 l1 l2 l3 x Q' X' := by
  unfold w_X6_requireKnown
  refine qp_getA H (by decide) hx (fun a1 e1 i1 => ?_)
  refine q_aldJ (fun _ => ?_)
  refine q_join0 (P := PQ b lk I0 F0 A0 E0) (fun y2 h2 => ?_) (fun _ _ k2 => ?_)
  · skip
    exact hQ _ h2
  · skip
    refine q_if ?_ ?_
    · skip
      refine q_getI (fun _ => ?_)
      refine qp_getA H (by decide) hx (fun a3 e3 i3 => ?_)
      refine q_aldJ (fun _ => ?_)
      refine fq_X11_isIn H (fun _ y4 h4 => ?_) hx
      refine q_join0 (P := PQ b lk I0 F0 A0 E0) (fun y5 h5 => ?_) (fun _ _ k5 => ?_)
      · skip
        refine qp_getA H (by decide) h5 (fun a6 e6 i6 => ?_)
        refine qp_astI H i6 (by decide) (by decide) (Or.inl (by decide)) h5 (fun x13 h7 => ?_)
        exact k2 _ h7
      · skip
        refine q_if ?_ ?_
        · skip
          refine q_recv ?_
          refine fq_X6_refuse H (fun  y8 h8 => ?_) hX h4
          exact k5 _ h8
        · skip
          exact k5 _ h4
    · skip
      exact k2 _ hx
theorem fq_X6_readKnownArg (H : HQk b lk E0) {l0 : Option Nat} {l1 : Option Nat} {l2 : Int32} {x : HS} {Q Q' : HS → Prop} {X X' : String → HS → Prop} (hQ : ∀ u, (PQ b lk I0 F0 A0 E0) u → Q u → Q' u) (hX : ∀ e u, (PQ b lk I0 F0 A0 E0) u → X e u → X' e u) (hx : (PQ b lk I0 F0 A0 E0) x) : w_X6_readKnownArg l0 l1 l2 x Q X → w_X6_readKnownArg l0 l1 l2 x Q' X' := by
  unfold w_X6_readKnownArg
  refine q_recv ?_
  refine fq_X6_skipBlanks H (fun  y1 h1 => ?_) hx
  refine q_getI (fun _ => ?_)
  refine q_recv ?_
  refine fq_X6_readArg H (fun  y2 h2 => ?_) hX h1
  refine q_recv ?_
  refine fq_X6_requireKnown H (fun  y3 h3 => ?_) hX h2
  exact hQ _ h3
theorem fq_X6_readSign (H : HQk b lk E0) {l0 : Option Nat} {l1 : Int32} {l2 : Int32} {l3 : Int32} {x : HS} {Q Q' : Int32 → HS → Prop} {X X' : String → HS → Prop} (hQ : ∀ r u, (PQ b lk I0 F0 A0 E0) u → Q r u → Q' r u) (hX : ∀ e u, (PQ b lk I0 F0 A0 E0) u → X e u → X' e u) (hx : (PQ b lk I0 F0 A0 E0) x) : w_X6_readSign l0 l1 l2 l3 x Q X → w_X6_readSign l0 l1 l2 l3 x Q' X' := by
  unfold w_X6_readSign
  refine q_recv ?_
  refine fq_X6_here H (fun _ y1 h1 => ?_) hx
  refine q_join0 (P := PQ b lk I0 F0 A0 E0) (fun y2 h2 => ?_) (fun _ _ k2 => ?_)
  · skip
    refine q_getI (fun _ => ?_)
    refine qp_putI H (by decide) (fun _ _ => Or.inl (by decide)) h2 (fun x6 h3 => ?_)
    exact hQ _ _ h3
  · skip
    refine q_if ?_ ?_
    · skip
      exact k2 _ h1
    · skip
      refine q_if ?_ ?_
      · skip
        exact k2 _ h1
      · skip
        refine q_if ?_ ?_
        · skip
          exact k2 _ h1
        · skip
          refine q_getI (fun _ => ?_)
          refine q_recv ?_
          refine fq_X6_refuse H (fun  y4 h4 => ?_) hX h1
          exact k2 _ h4
theorem fq_X6_readSignGoal (H : HQk b lk E0) {l0 : Option Nat} {l1 : Option Nat} {x : HS} {Q Q' : HS → Prop} {X X' : String → HS → Prop} (hQ : ∀ u, (PQ b lk I0 F0 A0 E0) u → Q u → Q' u) (hX : ∀ e u, (PQ b lk I0 F0 A0 E0) u → X e u → X' e u) (hx : (PQ b lk I0 F0 A0 E0) x) : w_X6_readSignGoal l0 l1 x Q X → w_X6_readSignGoal l0 l1 x Q' X' := by
  unfold w_X6_readSignGoal
  refine q_getI (fun _ => ?_)
  refine q_recv ?_
  refine fq_X6_readArg H (fun  y1 h1 => ?_) hX hx
  refine q_recv ?_
  refine fq_X6_skipBlanks H (fun  y2 h2 => ?_) h1
  refine q_recv ?_
  refine fq_X6_here H (fun _ y3 h3 => ?_) h2
  refine q_join1 (P := PQ b lk I0 F0 A0 E0) (fun _ y4 h4 => ?_) (fun _ _ k4 => ?_)
  · skip
    refine q_recv ?_
    refine fq_X6_readKnownArg H (fun  y5 h5 => ?_) hX h4
    refine q_getI (fun _ => ?_)
    refine qp_putI H (by decide) (fun _ _ => Or.inl (by decide)) h5 (fun x14 h6 => ?_)
    exact hQ _ h6
  · skip
    refine q_join0 (P := PQ b lk I0 F0 A0 E0) (fun y7 h7 => ?_) (fun _ _ k7 => ?_)
    · skip
      refine q_recv ?_
      refine fq_X6_readSign H (fun _ y8 h8 => ?_) hX h7
      refine qp_putI H (by decide) (fun _ _ => Or.inl (by decide)) h8 (fun x19 h9 => ?_)
      refine q_recv ?_
      refine fq_X6_requireKnown H (fun  y10 h10 => ?_) hX h9
      exact k4 _ _ h10
    · skip
      refine q_if ?_ ?_
      · skip
        refine qp_getA H (by decide) h3 (fun a11 e11 i11 => ?_)
        refine q_aldJ (fun _ => ?_)
        refine q_if ?_ ?_
        · skip
          refine qp_getA H (by decide) h3 (fun a12 e12 i12 => ?_)
          refine q_aldJ (fun _ => ?_)
          refine qp_putI H (by decide) (fun _ _ => Or.inl (by decide)) h3 (fun x26 h13 => ?_)
          refine q_getI (fun _ => ?_)
          refine q_getI (fun _ => ?_)
          refine q_join0 (P := PQ b lk I0 F0 A0 E0) (fun y14 h14 => ?_) (fun _ _ k14 => ?_)
          · skip
            refine q_getI (fun _ => ?_)
            refine qp_putI H (by decide) (fun _ _ => Or.inl (by decide)) h14 (fun x32 h15 => ?_)
            refine q_recv ?_
            refine fq_X6_readKnownArg H (fun  y16 h16 => ?_) hX h15
            refine q_recv ?_
            refine fq_X6_skipBlanks H (fun  y17 h17 => ?_) h16
            refine q_recv ?_
            refine fq_X6_readSign H (fun _ y18 h18 => ?_) hX h17
            refine qp_putI H (by decide) (fun _ _ => Or.inl (by decide)) h18 (fun x39 h19 => ?_)
            exact k4 _ _ h19
          · skip
            refine q_if ?_ ?_
            · skip
              exact k14 _ h13
            · skip
              refine q_recv ?_
              refine fq_X6_refuse H (fun  y20 h20 => ?_) hX h13
              exact k14 _ h20
        · skip
          exact k7 _ h3
      · skip
        exact k7 _ h3
theorem fq_X6_readQuestion (H : HQk b lk E0) {l0 : Option Nat} {l1 : Option Nat} {l2 : Int32} {l3 : Option Nat} {x : HS} {Q Q' : HS → Prop} {X X' : String → HS → Prop} (hQ : ∀ u, (PQ b lk I0 F0 A0 E0) u → Q u → Q' u) (hX : ∀ e u, (PQ b lk I0 F0 A0 E0) u → X e u → X' e u) (hx : (PQ b lk I0 F0 A0 E0) x) : w_X6_readQuestion l0 l1 l2 l3 x Q X → w_X6_readQuestion l0 l1 l2 l3 x Q' X' := by
  unfold w_X6_readQuestion
  refine qp_putF H (by decide) (by decide) (fun _ _ => Or.inl (by decide)) hx (fun x1 h1 => ?_)
  refine qp_putI H (by decide) (fun _ _ => Or.inl (by decide)) h1 (fun x2 h2 => ?_)
  refine qp_putF H (by decide) (by decide) (fun _ _ => Or.inl (by decide)) h2 (fun x3 h3 => ?_)
  refine qp_putI H (by decide) (fun _ _ => Or.inl (by decide)) h3 (fun x4 h4 => ?_)
  refine qp_putI H (by decide) (fun _ _ => Or.inl (by decide)) h4 (fun x5 h5 => ?_)
  refine q_loop (P := PQ b lk I0 F0 A0 E0) h5 (fun v9 x8 _ _ h6 k6 => ?_)
  refine q_if ?_ ?_
  · skip
    refine q_recv ?_
    refine fq_X6_skipBlanks H (fun  y7 h7 => ?_) h6
    refine q_getI (fun _ => ?_)
    refine q_recv ?_
    refine fq_X6_refuse H (fun  y8 h8 => ?_) hX h7
    exact hQ _ h8
  · skip
    refine q_recv ?_
    refine fq_X6_skipBlanks H (fun  y9 h9 => ?_) h6
    refine q_recv ?_
    refine fq_X6_here H (fun _ y10 h10 => ?_) h9
    refine q_join0 (P := PQ b lk I0 F0 A0 E0) (fun y11 h11 => ?_) (fun _ _ k11 => ?_)
    · skip
      refine qp_putI H (by decide) (fun _ _ => Or.inl (by decide)) h11 (fun x21 h12 => ?_)
      refine q_recv ?_
      refine fq_X6_skipBlanks H (fun  y13 h13 => ?_) h12
      refine q_getI (fun _ => ?_)
      refine q_getI (fun _ => ?_)
      refine q_if ?_ ?_
      · skip
        refine q_recv ?_
        refine fq_X6_take H (fun  y14 h14 => ?_) hX h13
        exact k6 _ _ h14
      · skip
        exact hQ _ h13
    · skip
      refine q_join0 (P := PQ b lk I0 F0 A0 E0) (fun y15 h15 => ?_) (fun _ _ k15 => ?_)
      · skip
        refine qp_getA H (by decide) h15 (fun a16 e16 i16 => ?_)
        refine q_aldG (fun _ => ?_)
        refine q_recv ?_
        refine fq_X6_readTableGoal H (fun  y17 h17 => ?_) hX h15
        exact k11 _ h17
      · skip
        refine q_if ?_ ?_
        · skip
          exact k15 _ h10
        · skip
          refine q_recv ?_
          refine fq_X6_here H (fun _ y18 h18 => ?_) h10
          refine q_if ?_ ?_
          · skip
            exact k15 _ h18
          · skip
            refine qp_getA H (by decide) h18 (fun a19 e19 i19 => ?_)
            refine q_aldG (fun _ => ?_)
            refine q_recv ?_
            refine fq_X6_readSignGoal H (fun  y20 h20 => ?_) hX h18
            exact k11 _ h20
theorem fq_X7_keptCount (H : HQk b lk E0) {l0 : Option Nat} {x : HS} {Q Q' : Int32 → HS → Prop} {X X' : String → HS → Prop} (hQ : ∀ r u, (PQ b lk I0 F0 A0 E0) u → Q r u → Q' r u) (hx : (PQ b lk I0 F0 A0 E0) x) : w_X7_keptCount l0 x Q X → w_X7_keptCount l0 x Q' X' := by
  unfold w_X7_keptCount
  refine q_getI (fun _ => ?_)
  exact hQ _ _ hx
theorem fq_X7_keep (H : HQk b lk E0) {l0 : Option Nat} {l1 : Option Nat} {x : HS} {Q Q' : HS → Prop} {X X' : String → HS → Prop} (hQ : ∀ u, (PQ b lk I0 F0 A0 E0) u → Q u → Q' u) (hx : (PQ b lk I0 F0 A0 E0) x) : w_X7_keep l0 l1 x Q X → w_X7_keep l0 l1 x Q' X' := by
  unfold w_X7_keep
  refine q_getI (fun _ => ?_)
  refine q_join0 (P := PQ b lk I0 F0 A0 E0) (fun y1 h1 => ?_) (fun _ _ k1 => ?_)
  · skip
    refine q_getI (fun _ => ?_)
    refine qp_putI H (by decide) (fun _ _ => Or.inl (by decide)) h1 (fun x5 h2 => ?_)
    exact hQ _ h2
  · skip
    refine q_if ?_ ?_
    · skip
      exact k1 _ hx
    · skip
      refine qp_getA H (by decide) hx (fun a3 e3 i3 => ?_)
      refine q_getI (fun _ => ?_)
      refine qp_copy H i3 (by decide) (by decide) (Or.inl (by decide)) hx (fun x8 h4 => ?_)
      exact k1 _ h4
theorem fq_X8_valueOf (H : HQk b lk E0) {l0 : Option Nat} {l1 : Option Nat} {l2 : Int32} {x : HS} {Q Q' : Int32 → HS → Prop} {X X' : String → HS → Prop} (hQ : ∀ r u, (PQ b lk I0 F0 A0 E0) u → Q r u → Q' r u) (hx : (PQ b lk I0 F0 A0 E0) x) : w_X8_valueOf l0 l1 l2 x Q X → w_X8_valueOf l0 l1 l2 x Q' X' := by
  unfold w_X8_valueOf
  refine qp_getA H (by decide) hx (fun a1 e1 i1 => ?_)
  refine q_aldJ (fun _ => ?_)
  refine q_join1 (P := PQ b lk I0 F0 A0 E0) (fun _ y2 h2 => ?_) (fun _ _ k2 => ?_)
  · skip
    exact hQ _ _ h2
  · skip
    refine q_if ?_ ?_
    · skip
      refine qp_getA H (by decide) hx (fun a3 e3 i3 => ?_)
      refine qp_getA H (by decide) hx (fun a4 e4 i4 => ?_)
      refine q_aldJ (fun _ => ?_)
      refine q_aldJ (fun _ => ?_)
      exact k2 _ _ hx
    · skip
      refine qp_getA H (by decide) hx (fun a5 e5 i5 => ?_)
      refine q_aldJ (fun _ => ?_)
      exact k2 _ _ hx
theorem fq_X8_beginLook (H : HQk b lk E0) {l0 : Option Nat} {l1 : Option Nat} {l2 : Option Nat} (Ll1 : ∀ q, l1 = some q → NLk lk q) {x : HS} {Q Q' : HS → Prop} {X X' : String → HS → Prop} (hQ : ∀ u, (PQ b lk I0 F0 A0 E0) u → Q u → Q' u) (hx : (PQ b lk I0 F0 A0 E0) x) : w_X8_beginLook l0 l1 l2 x Q X → w_X8_beginLook l0 l1 l2 x Q' X' := by
  unfold w_X8_beginLook
  refine q_loop (P := PQ b lk I0 F0 A0 E0) hx (fun v4 x3 _ _ h1 k1 => ?_)
  refine q_if ?_ ?_
  · skip
    refine q_getF (fun _ => ?_)
    refine q_getI (fun _ => ?_)
    refine qp_getA H (by decide) h1 (fun a2 e2 i2 => ?_)
    refine q_getI (fun _ => ?_)
    refine q_recv ?_
    refine fq_X5_begin H Ll1 (fun  y3 h3 => ?_) h1
    exact hQ _ h3
  · skip
    refine qp_getA H (by decide) h1 (fun a4 e4 i4 => ?_)
    refine q_getI (fun _ => ?_)
    refine fq_X11_isIn H (fun _ y5 h5 => ?_) h1
    refine q_join1 (P := PQ b lk I0 F0 A0 E0) (fun _ y6 h6 => ?_) (fun _ _ k6 => ?_)
    · skip
      refine qp_astI H i4 (by decide) (by decide) (Or.inl (by decide)) h6 (fun x18 h7 => ?_)
      exact k1 _ _ h7
    · skip
      refine q_if ?_ ?_
      · skip
        exact k6 _ _ h5
      · skip
        refine q_recv ?_
        refine fq_X8_valueOf H (fun _ y8 h8 => ?_) h5
        exact k6 _ _ h8
theorem fq_X8_bind (H : HQk b lk E0) {l0 : Option Nat} {l1 : Option Nat} {l2 : Option Nat} {x : HS} {Q Q' : Int32 → HS → Prop} {X X' : String → HS → Prop} (hQ : ∀ r u, (PQ b lk I0 F0 A0 E0) u → Q r u → Q' r u) (hx : (PQ b lk I0 F0 A0 E0) x) : w_X8_bind l0 l1 l2 x Q X → w_X8_bind l0 l1 l2 x Q' X' := by
  unfold w_X8_bind
  refine q_loop (P := PQ b lk I0 F0 A0 E0) hx (fun v4 x3 _ _ h1 k1 => ?_)
  refine q_getF (fun _ => ?_)
  refine q_getI (fun _ => ?_)
  refine q_if ?_ ?_
  · skip
    refine q_bit ?_
    exact hQ _ _ h1
  · skip
    refine qp_getA H (by decide) h1 (fun a2 e2 i2 => ?_)
    refine q_aldJ (fun _ => ?_)
    refine q_join0 (P := PQ b lk I0 F0 A0 E0) (fun y3 h3 => ?_) (fun _ _ k3 => ?_)
    · skip
      exact k1 _ _ h3
    · skip
      refine q_if ?_ ?_
      · skip
        refine qp_getA H (by decide) h1 (fun a4 e4 i4 => ?_)
        refine qp_getA H (by decide) h1 (fun a5 e5 i5 => ?_)
        refine q_aldJ (fun _ => ?_)
        refine qp_getA H (by decide) h1 (fun a6 e6 i6 => ?_)
        refine q_aldJ (fun _ => ?_)
        refine qp_astI H i4 (by decide) (by decide) (Or.inl (by decide)) h1 (fun x16 h7 => ?_)
        exact k3 _ h7
      · skip
        refine qp_getA H (by decide) h1 (fun a8 e8 i8 => ?_)
        refine q_aldJ (fun _ => ?_)
        refine q_if ?_ ?_
        · skip
          refine qp_getA H (by decide) h1 (fun a9 e9 i9 => ?_)
          refine qp_getA H (by decide) h1 (fun a10 e10 i10 => ?_)
          refine q_aldJ (fun _ => ?_)
          refine q_aldJ (fun _ => ?_)
          refine qp_getA H (by decide) h1 (fun a11 e11 i11 => ?_)
          refine q_aldJ (fun _ => ?_)
          refine q_if ?_ ?_
          · skip
            exact k3 _ h1
          · skip
            refine q_bit ?_
            exact hQ _ _ h1
        · skip
          exact k3 _ h1
theorem fq_X8_advanceTo (H : HQk b lk E0) {l0 : Option Nat} {l1 : Option Nat} {l2 : Option Nat} (Ll1 : ∀ q, l1 = some q → NLk lk q) {x : HS} {Q Q' : Int32 → HS → Prop} {X X' : String → HS → Prop} (hQ : ∀ r u, (PQ b lk I0 F0 A0 E0) u → Q r u → Q' r u) (hX : ∀ e u, (PQ b lk I0 F0 A0 E0) u → X e u → X' e u) (hx : (PQ b lk I0 F0 A0 E0) x) : w_X8_advanceTo l0 l1 l2 x Q X → w_X8_advanceTo l0 l1 l2 x Q' X' := by
  unfold w_X8_advanceTo
  refine q_loop (P := PQ b lk I0 F0 A0 E0) hx (fun v4 x3 _ _ h1 k1 => ?_)
  refine q_if ?_ ?_
  · skip
    refine q_bit ?_
    exact hQ _ _ h1
  · skip
    refine q_recv ?_
    refine fq_X5_advance H Ll1 (fun _ y2 h2 => ?_) h1
    refine q_getI (fun _ => ?_)
    refine q_recv ?_
    refine fq_X5_takeLookedAt H Ll1 (fun _ y3 h3 => ?_) h2
    refine qp_putI H (by decide) (fun _ _ => Or.inl (by decide)) h3 (fun x10 h4 => ?_)
    refine q_getI (fun _ => ?_)
    refine q_if ?_ ?_
    · skip
      refine q_if ?_ ?_
      · skip
        refine q_bit ?_
        exact hQ _ _ h4
      · skip
        refine q_recv ?_
        refine fq_X8_bind H (fun _ y5 h5 => ?_) h4
        refine q_if ?_ ?_
        · skip
          exact k1 _ _ h5
        · skip
          refine q_bit ?_
          exact hQ _ _ h5
    · skip
      exact qp_throw h4 hX
theorem fq_X8_holds (H : HQk b lk E0) {l0 : Option Nat} {l1 : Option Nat} {l2 : Int32} {x : HS} {Q Q' : Int32 → HS → Prop} {X X' : String → HS → Prop} (hQ : ∀ r u, (PQ b lk I0 F0 A0 E0) u → Q r u → Q' r u) (hX : ∀ e u, (PQ b lk I0 F0 A0 E0) u → X e u → X' e u) (hx : (PQ b lk I0 F0 A0 E0) x) : w_X8_holds l0 l1 l2 x Q X → w_X8_holds l0 l1 l2 x Q' X' := by
  unfold w_X8_holds
  refine q_getI (fun _ => ?_)
  refine q_if ?_ ?_
  · skip
    refine qp_getA H (by decide) hx (fun a1 e1 i1 => ?_)
    refine qp_aldLook H i1 hx (fun w2 n2 => ?_)
    refine q_recv ?_
    refine fq_X8_beginLook H n2 (fun  y3 h3 => ?_) hx
    refine qp_getA H (by decide) h3 (fun a4 e4 i4 => ?_)
    refine qp_aldLook H i4 h3 (fun w5 n5 => ?_)
    refine q_recv ?_
    refine fq_X8_advanceTo H n5 (fun _ y6 h6 => ?_) hX h3
    refine q_join1 (P := PQ b lk I0 F0 A0 E0) (fun _ y7 h7 => ?_) (fun _ _ k7 => ?_)
    · skip
      refine q_bit ?_
      exact hQ _ _ h7
    · skip
      refine q_if ?_ ?_
      · skip
        exact k7 _ _ h6
      · skip
        exact k7 _ _ h6
  · skip
    refine q_recv ?_
    refine fq_X8_valueOf H (fun _ y8 h8 => ?_) hx
    refine q_recv ?_
    refine fq_X8_valueOf H (fun _ y9 h9 => ?_) h8
    refine q_getI (fun _ => ?_)
    refine q_if ?_ ?_
    · skip
      refine q_join1 (P := PQ b lk I0 F0 A0 E0) (fun _ y10 h10 => ?_) (fun _ _ k10 => ?_)
      · skip
        refine q_bit ?_
        exact hQ _ _ h10
      · skip
        refine q_if ?_ ?_
        · skip
          exact k10 _ _ h9
        · skip
          exact k10 _ _ h9
    · skip
      refine q_if ?_ ?_
      · skip
        refine qp_getA H (by decide) h9 (fun a11 e11 i11 => ?_)
        refine q_getI (fun _ => ?_)
        refine qp_astI H i11 (by decide) (by decide) (Or.inl (by decide)) h9 (fun x23 h12 => ?_)
        refine q_bit ?_
        exact hQ _ _ h12
      · skip
        refine q_if ?_ ?_
        · skip
          refine qp_getA H (by decide) h9 (fun a13 e13 i13 => ?_)
          refine q_getI (fun _ => ?_)
          refine qp_astI H i13 (by decide) (by decide) (Or.inl (by decide)) h9 (fun x26 h14 => ?_)
          refine q_bit ?_
          exact hQ _ _ h14
        · skip
          refine q_if ?_ ?_
          · skip
            refine q_join1 (P := PQ b lk I0 F0 A0 E0) (fun _ y15 h15 => ?_) (fun _ _ k15 => ?_)
            · skip
              refine q_bit ?_
              exact hQ _ _ h15
            · skip
              refine q_if ?_ ?_
              · skip
                exact k15 _ _ h9
              · skip
                exact k15 _ _ h9
          · skip
            refine q_if ?_ ?_
            · skip
              refine q_join1 (P := PQ b lk I0 F0 A0 E0) (fun _ y16 h16 => ?_) (fun _ _ k16 => ?_)
              · skip
                refine q_bit ?_
                exact hQ _ _ h16
              · skip
                refine q_if ?_ ?_
                · skip
                  exact k16 _ _ h9
                · skip
                  exact k16 _ _ h9
            · skip
              refine qp_getA H (by decide) h9 (fun a17 e17 i17 => ?_)
              refine q_getI (fun _ => ?_)
              refine qp_astI H i17 (by decide) (by decide) (Or.inl (by decide)) h9 (fun x35 h18 => ?_)
              refine q_bit ?_
              exact hQ _ _ h18
theorem fq_X8_solveEach (H : HQk b lk E0) {SV : Option Nat → Int32 → HS → (HS → Prop) → (String → HS → Prop) → Prop} (hSV : ∀ {l0 : Option Nat} {l1 : Int32} {x : HS} {Q Q' : HS → Prop} {X X' : String → HS → Prop}, (∀ u, (PQ b lk I0 F0 A0 E0) u → Q u → Q' u) → (∀ e u, (PQ b lk I0 F0 A0 E0) u → X e u → X' e u) → (PQ b lk I0 F0 A0 E0) x → SV l0 l1 x Q X → SV l0 l1 x Q' X') {l0 : Option Nat} {l1 : Option Nat} {l2 : Int32} {x : HS} {Q Q' : HS → Prop} {X X' : String → HS → Prop} (hQ : ∀ u, (PQ b lk I0 F0 A0 E0) u → Q u → Q' u) (hX : ∀ e u, (PQ b lk I0 F0 A0 E0) u → X e u → X' e u) (hx : (PQ b lk I0 F0 A0 E0) x) : w_X8_solveEach SV l0 l1 l2 x Q X → w_X8_solveEach SV l0 l1 l2 x Q' X' := by
  unfold w_X8_solveEach
  refine qp_getA H (by decide) hx (fun a1 e1 i1 => ?_)
  refine qp_aldLook H i1 hx (fun w2 n2 => ?_)
  refine q_recv ?_
  refine fq_X8_beginLook H n2 (fun  y3 h3 => ?_) hx
  refine q_loop (P := PQ b lk I0 F0 A0 E0) h3 (fun v8 x7 _ _ h4 k4 => ?_)
  refine q_if ?_ ?_
  · skip
    exact hQ _ h4
  · skip
    refine q_recv ?_
    refine fq_X8_advanceTo H n2 (fun _ y5 h5 => ?_) hX h4
    refine q_if ?_ ?_
    · skip
      exact hQ _ h5
    · skip
      refine q_recv ?_
      refine hSV (fun  y6 h6 => ?_) hX h5
      exact k4 _ _ h6
theorem fq_X8_solveB (H : HQk b lk E0) {SV : Option Nat → Int32 → HS → (HS → Prop) → (String → HS → Prop) → Prop} (hSV : ∀ {l0 : Option Nat} {l1 : Int32} {x : HS} {Q Q' : HS → Prop} {X X' : String → HS → Prop}, (∀ u, (PQ b lk I0 F0 A0 E0) u → Q u → Q' u) → (∀ e u, (PQ b lk I0 F0 A0 E0) u → X e u → X' e u) → (PQ b lk I0 F0 A0 E0) x → SV l0 l1 x Q X → SV l0 l1 x Q' X') {l0 : Option Nat} {l1 : Int32} {x : HS} {Q Q' : HS → Prop} {X X' : String → HS → Prop} (hQ : ∀ u, (PQ b lk I0 F0 A0 E0) u → Q u → Q' u) (hX : ∀ e u, (PQ b lk I0 F0 A0 E0) u → X e u → X' e u) (hx : (PQ b lk I0 F0 A0 E0) x) : w_X8_solveB SV l0 l1 x Q X → w_X8_solveB SV l0 l1 x Q' X' := by
  unfold w_X8_solveB
  refine q_getF (fun _ => ?_)
  refine q_getI (fun _ => ?_)
  refine q_join0 (P := PQ b lk I0 F0 A0 E0) (fun y1 h1 => ?_) (fun _ _ k1 => ?_)
  · skip
    refine q_getF (fun _ => ?_)
    refine qp_getA H (by decide) h1 (fun a2 e2 i2 => ?_)
    refine q_recv ?_
    refine fq_X7_keep H (fun  y3 h3 => ?_) h1
    exact hQ _ h3
  · skip
    refine q_if ?_ ?_
    · skip
      exact k1 _ hx
    · skip
      refine q_if ?_ ?_
      · skip
        refine q_getF (fun _ => ?_)
        refine qp_getA H (by decide) hx (fun a4 e4 i4 => ?_)
        refine q_aldG (fun _ => ?_)
        refine q_getI (fun _ => ?_)
        refine q_join0 (P := PQ b lk I0 F0 A0 E0) (fun y5 h5 => ?_) (fun _ _ k5 => ?_)
        · skip
          exact hQ _ h5
        · skip
          refine q_if ?_ ?_
          · skip
            refine q_recv ?_
            refine fq_X8_solveEach H hSV (fun  y6 h6 => ?_) hX hx
            exact k5 _ h6
          · skip
            refine q_recv ?_
            refine fq_X8_holds H (fun _ y7 h7 => ?_) hX hx
            refine q_if ?_ ?_
            · skip
              exact k5 _ h7
            · skip
              refine q_recv ?_
              refine hSV (fun  y8 h8 => ?_) hX h7
              exact k5 _ h8
      · skip
        exact k1 _ hx
theorem fq_X8_solve (H : HQk b lk E0) {n : Nat} : ∀ {l0 : Option Nat} {l1 : Int32} {x : HS} {Q Q' : HS → Prop} {X X' : String → HS → Prop}, (∀ u, (PQ b lk I0 F0 A0 E0) u → Q u → Q' u) → (∀ e u, (PQ b lk I0 F0 A0 E0) u → X e u → X' e u) → (PQ b lk I0 F0 A0 E0) x → w_X8_solve n l0 l1 x Q X → w_X8_solve n l0 l1 x Q' X' := by
  induction n with
  | zero => intro l0 l1 x Q Q' X X' _ _ _ h; exact h
  | succ n ih =>
    intro l0 l1 x Q Q' X X' hQ hX hx
    show w_X8_solveB (w_X8_solve n) l0 l1 x Q X → w_X8_solveB (w_X8_solve n) l0 l1 x Q' X'
    exact fq_X8_solveB (SV := w_X8_solve n) (l0 := l0) (l1 := l1) (x := x) (Q := Q) (Q' := Q') (X := X) (X' := X') H @ih hQ hX hx
theorem fq_X8_solveAll (H : HQk b lk E0) {l0 : Option Nat} {l1 : Option Nat} {l2 : Int32} {x : HS} {Q Q' : Int32 → HS → Prop} {X X' : String → HS → Prop} (hQ : ∀ r u, (PQ b lk I0 F0 A0 E0) u → Q r u → Q' r u) (hX : ∀ e u, (PQ b lk I0 F0 A0 E0) u → X e u → X' e u) (hx : (PQ b lk I0 F0 A0 E0) x) : w_X8_solveAll l0 l1 l2 x Q X → w_X8_solveAll l0 l1 l2 x Q' X' := by
  unfold w_X8_solveAll
  refine qp_putF H (by decide) (by decide) (fun _ _ => Or.inl (by decide)) hx (fun x1 h1 => ?_)
  refine qp_putI H (by decide) (fun _ _ => Or.inl (by decide)) h1 (fun x2 h2 => ?_)
  refine qp_putI H (by decide) (fun _ _ => Or.inl (by decide)) h2 (fun x3 h3 => ?_)
  refine q_getF (fun _ => ?_)
  refine q_getI (fun _ => ?_)
  refine qp_putI H (by decide) (fun _ _ => Or.inl (by decide)) h3 (fun x6 h4 => ?_)
  refine q_getF (fun _ => ?_)
  refine qp_putI H (by decide) (fun _ _ => Or.inl (by decide)) h4 (fun x8 h5 => ?_)
  refine q_recv ?_
  refine fq_X8_solve H (fun  y6 h6 => ?_) hX h5
  refine q_getF (fun _ => ?_)
  refine q_getF (fun _ => ?_)
  refine qp_putF H (by decide) (by decide) (fun _ _ => Or.inl (by decide)) h6 (fun x13 h7 => ?_)
  refine qp_putF H (by decide) (by decide) (fun _ _ => Or.inl (by decide)) h7 (fun x14 h8 => ?_)
  refine q_getI (fun _ => ?_)
  exact hQ _ _ h8
theorem fq_X9_timeOf (H : HQk b lk E0) {l0 : Option Nat} {l1 : Int32} {x : HS} {Q Q' : Int32 → HS → Prop} {X X' : String → HS → Prop} (hQ : ∀ r u, (PQ b lk I0 F0 A0 E0) u → Q r u → Q' r u) (hx : (PQ b lk I0 F0 A0 E0) x) : w_X9_timeOf l0 l1 x Q X → w_X9_timeOf l0 l1 x Q' X' := by
  unfold w_X9_timeOf
  refine q_join1 (P := PQ b lk I0 F0 A0 E0) (fun _ y1 h1 => ?_) (fun _ _ k1 => ?_)
  · skip
    exact hQ _ _ h1
  · skip
    refine q_if ?_ ?_
    · skip
      refine q_getI (fun _ => ?_)
      exact k1 _ _ hx
    · skip
      exact k1 _ _ hx
theorem fq_X10_factsThereNow (H : HQk b lk E0) {l0 : Option Nat} {x : HS} {Q Q' : Int32 → HS → Prop} {X X' : String → HS → Prop} (hQ : ∀ r u, (PQ b lk I0 F0 A0 E0) u → Q r u → Q' r u) (hx : (PQ b lk I0 F0 A0 E0) x) : w_X10_factsThereNow l0 x Q X → w_X10_factsThereNow l0 x Q' X' := by
  unfold w_X10_factsThereNow
  refine q_getF (fun _ => ?_)
  refine q_getF (fun _ => ?_)
  refine q_loop (P := PQ b lk I0 F0 A0 E0) hx (fun v6 x5 _ _ h1 k1 => ?_)
  refine q_if ?_ ?_
  · skip
    exact hQ _ _ h1
  · skip
    refine q_recv ?_
    refine fq_X1_isThereNow H (fun _ y2 h2 => ?_) h1
    refine q_join1 (P := PQ b lk I0 F0 A0 E0) (fun _ y3 h3 => ?_) (fun _ _ k3 => ?_)
    · skip
      refine qp_getA H (by decide) h3 (fun a4 e4 i4 => ?_)
      refine q_aldG (fun _ => ?_)
      exact k1 _ _ h3
    · skip
      refine q_if ?_ ?_
      · skip
        exact k3 _ _ h2
      · skip
        exact k3 _ _ h2
theorem fq_X11_putBytes (H : HQk b lk E0) {l0 : Option Nat} {l1 : Int32} {x : HS} {Q Q' : HS → Prop} {X X' : String → HS → Prop} (hQ : ∀ u, (PQ b lk I0 F0 A0 E0) u → Q u → Q' u) (hx : (PQ b lk I0 F0 A0 E0) x) : w_X11_putBytes l0 l1 x Q X → w_X11_putBytes l0 l1 x Q' X' := by
  unfold w_X11_putBytes
  refine q_loop (P := PQ b lk I0 F0 A0 E0) hx (fun v4 x3 _ _ h1 k1 => ?_)
  refine q_join0 (P := PQ b lk I0 F0 A0 E0) (fun y2 h2 => ?_) (fun _ _ k2 => ?_)
  · skip
    exact hQ _ h2
  · skip
    refine q_if ?_ ?_
    · skip
      exact k2 _ h1
    · skip
      refine q_getI (fun _ => ?_)
      refine q_if ?_ ?_
      · skip
        exact k2 _ h1
      · skip
        refine qp_getA H (by decide) h1 (fun a3 e3 i3 => ?_)
        refine q_getI (fun _ => ?_)
        refine qp_astB H i3 (by decide) (by decide) (Or.inl (by decide)) h1 (fun x10 h4 => ?_)
        refine q_getI (fun _ => ?_)
        refine qp_putI H (by decide) (fun _ _ => Or.inl (by decide)) h4 (fun x12 h5 => ?_)
        exact k1 _ _ h5
theorem fq_X11_feed (H : HQk b lk E0) {l0 : Option Nat} {l1 : Int32} {l2 : Int32} {l3 : Int32} {l4 : Int32} {l5 : Int32} {x : HS} {Q Q' : Int32 → HS → Prop} {X X' : String → HS → Prop} (hQ : ∀ r u, (PQ b lk I0 F0 A0 E0) u → Q r u → Q' r u) (hX : ∀ e u, (PQ b lk I0 F0 A0 E0) u → X e u → X' e u) (hx : (PQ b lk I0 F0 A0 E0) x) : w_X11_feed l0 l1 l2 l3 l4 l5 x Q X → w_X11_feed l0 l1 l2 l3 l4 l5 x Q' X' := by
  unfold w_X11_feed
  refine q_getI (fun _ => ?_)
  refine q_if ?_ ?_
  · skip
    refine q_recv ?_
    refine fq_X11_putBytes H (fun  y1 h1 => ?_) hx
    refine q_recv ?_
    refine fq_X11_putBytes H (fun  y2 h2 => ?_) h1
    refine q_recv ?_
    refine fq_X11_putBytes H (fun  y3 h3 => ?_) h2
    refine q_recv ?_
    refine fq_X11_putBytes H (fun  y4 h4 => ?_) h3
    refine q_recv ?_
    refine fq_X11_putBytes H (fun  y5 h5 => ?_) h4
    refine q_getI (fun _ => ?_)
    exact hQ _ _ h5
  · skip
    exact qp_throw hx hX
theorem fq_X11_requireRange (H : HQk b lk E0) {l0 : Int32} {l1 : Int32} {l2 : Int32} {x : HS} {Q Q' : HS → Prop} {X X' : String → HS → Prop} (hQ : ∀ u, (PQ b lk I0 F0 A0 E0) u → Q u → Q' u) (hX : ∀ e u, (PQ b lk I0 F0 A0 E0) u → X e u → X' e u) (hx : (PQ b lk I0 F0 A0 E0) x) : w_X11_requireRange l0 l1 l2 x Q X → w_X11_requireRange l0 l1 l2 x Q' X' := by
  unfold w_X11_requireRange
  refine q_join0 (P := PQ b lk I0 F0 A0 E0) (fun y1 h1 => ?_) (fun _ _ k1 => ?_)
  · skip
    exact qp_throw h1 hX
  · skip
    refine q_if ?_ ?_
    · skip
      exact k1 _ hx
    · skip
      refine q_if ?_ ?_
      · skip
        exact hQ _ hx
      · skip
        exact k1 _ hx
theorem fq_X11_end (H : HQk b lk E0) {l0 : Option Nat} {l1 : Int32} {x : HS} {Q Q' : Int32 → HS → Prop} {X X' : String → HS → Prop} (hQ : ∀ r u, (PQ b lk I0 F0 A0 E0) u → Q r u → Q' r u) (hX : ∀ e u, (PQ b lk I0 F0 A0 E0) u → X e u → X' e u) (hx : (PQ b lk I0 F0 A0 E0) x) : w_X11_end l0 l1 x Q X → w_X11_end l0 l1 x Q' X' := by
  unfold w_X11_end
  refine q_getI (fun _ => ?_)
  refine fq_X11_requireRange H (fun  y1 h1 => ?_) hX hx
  refine qp_putI H (by decide) (fun _ _ => Or.inl (by decide)) h1 (fun x4 h2 => ?_)
  exact hQ _ _ h2
theorem fq_X11_requireTime (H : HQk b lk E0) {l0 : Option Nat} {l1 : Int32} {x : HS} {Q Q' : HS → Prop} {X X' : String → HS → Prop} (hQ : ∀ u, (PQ b lk I0 F0 A0 E0) u → Q u → Q' u) (hX : ∀ e u, (PQ b lk I0 F0 A0 E0) u → X e u → X' e u) (hx : (PQ b lk I0 F0 A0 E0) x) : w_X11_requireTime l0 l1 x Q X → w_X11_requireTime l0 l1 x Q' X' := by
  unfold w_X11_requireTime
  refine q_join0 (P := PQ b lk I0 F0 A0 E0) (fun y1 h1 => ?_) (fun _ _ k1 => ?_)
  · skip
    exact hQ _ h1
  · skip
    refine q_if ?_ ?_
    · skip
      exact k1 _ hx
    · skip
      refine q_getF (fun _ => ?_)
      refine q_getI (fun _ => ?_)
      refine q_getF (fun _ => ?_)
      refine q_getI (fun _ => ?_)
      refine fq_X11_requireRange H (fun  y2 h2 => ?_) hX hx
      exact k1 _ h2
theorem fq_X11_openCursors (H : HQk b lk E0) {l0 : Option Nat} {x : HS} {Q Q' : Int32 → HS → Prop} {X X' : String → HS → Prop} (hQ : ∀ r u, (PQ b lk I0 F0 A0 E0) u → Q r u → Q' r u) (hx : (PQ b lk I0 F0 A0 E0) x) : w_X11_openCursors l0 x Q X → w_X11_openCursors l0 x Q' X' := by
  unfold w_X11_openCursors
  refine q_loop (P := PQ b lk I0 F0 A0 E0) hx (fun v4 x3 _ _ h1 k1 => ?_)
  refine q_if ?_ ?_
  · skip
    exact hQ _ _ h1
  · skip
    refine qp_getA H (by decide) h1 (fun a2 e2 i2 => ?_)
    refine q_aldJ (fun _ => ?_)
    refine q_join1 (P := PQ b lk I0 F0 A0 E0) (fun _ y3 h3 => ?_) (fun _ _ k3 => ?_)
    · skip
      exact k1 _ _ h3
    · skip
      refine q_if ?_ ?_
      · skip
        exact k3 _ _ h1
      · skip
        exact k3 _ _ h1
theorem fq_X11_question (H : HQk b lk E0) {l0 : Option Nat} {l1 : Int32} {x : HS} {Q Q' : Int32 → HS → Prop} {X X' : String → HS → Prop} (hQ : ∀ r u, (PQ b lk I0 F0 A0 E0) u → Q r u → Q' r u) (hX : ∀ e u, (PQ b lk I0 F0 A0 E0) u → X e u → X' e u) (hx : (PQ b lk I0 F0 A0 E0) x) : w_X11_question l0 l1 x Q X → w_X11_question l0 l1 x Q' X' := by
  unfold w_X11_question
  refine q_getI (fun _ => ?_)
  refine qp_putI H (by decide) (fun _ _ => Or.inl (by decide)) hx (fun x2 h1 => ?_)
  refine q_getF (fun _ => ?_)
  refine qp_putI H (by decide) (fun _ _ => Or.inl (by decide)) h1 (fun x4 h2 => ?_)
  refine q_recv ?_
  refine fq_X11_requireTime H (fun  y3 h3 => ?_) hX h2
  refine q_getF (fun _ => ?_)
  refine qp_getA H (by decide) h3 (fun a4 e4 i4 => ?_)
  refine q_getF (fun _ => ?_)
  refine q_recv ?_
  refine fq_X6_readQuestion H (fun  y5 h5 => ?_) hX h3
  refine qp_putI H (by decide) (fun _ _ => Or.inl (by decide)) h5 (fun x12 h6 => ?_)
  refine q_getF (fun _ => ?_)
  refine q_getF (fun _ => ?_)
  refine q_getF (fun _ => ?_)
  refine q_recv ?_
  refine fq_X9_timeOf H (fun _ y7 h7 => ?_) h6
  refine q_recv ?_
  refine fq_X8_solveAll H (fun _ y8 h8 => ?_) hX h7
  refine q_getF (fun _ => ?_)
  refine q_getI (fun _ => ?_)
  refine qp_putI H (by decide) (fun _ _ => Or.inl (by decide)) h8 (fun x22 h9 => ?_)
  exact hQ _ _ h9
theorem fq_X11_solution (H : HQk b lk E0) {l0 : Option Nat} {l1 : Int32} {l2 : Int32} {x : HS} {Q Q' : Int32 → HS → Prop} {X X' : String → HS → Prop} (hQ : ∀ r u, (PQ b lk I0 F0 A0 E0) u → Q r u → Q' r u) (hX : ∀ e u, (PQ b lk I0 F0 A0 E0) u → X e u → X' e u) (hx : (PQ b lk I0 F0 A0 E0) x) : w_X11_solution l0 l1 l2 x Q X → w_X11_solution l0 l1 l2 x Q' X' := by
  unfold w_X11_solution
  refine fq_X11_requireRange H (fun  y1 h1 => ?_) hX hx
  refine q_getF (fun _ => ?_)
  refine q_getF (fun _ => ?_)
  refine q_join0 (P := PQ b lk I0 F0 A0 E0) (fun y2 h2 => ?_) (fun _ _ k2 => ?_)
  · skip
    exact qp_throw h2 hX
  · skip
    refine q_if ?_ ?_
    · skip
      exact k2 _ h1
    · skip
      refine q_recv ?_
      refine fq_X7_keptCount H (fun _ y3 h3 => ?_) h1
      refine q_if ?_ ?_
      · skip
        exact k2 _ h3
      · skip
        refine q_getI (fun _ => ?_)
        refine fq_X11_isIn H (fun _ y4 h4 => ?_) h3
        refine q_if ?_ ?_
        · skip
          exact k2 _ h4
        · skip
          refine qp_getA H (by decide) h4 (fun a5 e5 i5 => ?_)
          refine q_aldJ (fun _ => ?_)
          exact hQ _ _ h4
theorem fq_J6_bitCount_0f7a4 (H : HQk b lk E0) {l0 : Int32} {x : HS} {Q Q' : Int32 → HS → Prop} {X X' : String → HS → Prop} (hQ : ∀ r u, (PQ b lk I0 F0 A0 E0) u → Q r u → Q' r u) (hx : (PQ b lk I0 F0 A0 E0) x) : w_J6_bitCount_0f7a4 l0 x Q X → w_J6_bitCount_0f7a4 l0 x Q' X' := by
  unfold w_J6_bitCount_0f7a4
  exact hQ _ _ hx
theorem fq_X11_factsThereNow (H : HQk b lk E0) {l0 : Option Nat} {l1 : Int32} {x : HS} {Q Q' : Int32 → HS → Prop} {X X' : String → HS → Prop} (hQ : ∀ r u, (PQ b lk I0 F0 A0 E0) u → Q r u → Q' r u) (hx : (PQ b lk I0 F0 A0 E0) x) : w_X11_factsThereNow l0 l1 x Q X → w_X11_factsThereNow l0 l1 x Q' X' := by
  unfold w_X11_factsThereNow
  refine q_getF (fun _ => ?_)
  refine q_recv ?_
  refine fq_X9_tableAt H (fun _ y1 h1 => ?_) hx
  refine q_join1 (P := PQ b lk I0 F0 A0 E0) (fun _ y2 h2 => ?_) (fun _ _ k2 => ?_)
  · skip
    exact hQ _ _ h2
  · skip
    refine q_if ?_ ?_
    · skip
      exact k2 _ _ h1
    · skip
      refine q_recv ?_
      refine fq_X10_factsThereNow H (fun _ y3 h3 => ?_) h1
      exact k2 _ _ h3
theorem fq_X11_count (H : HQk b lk E0) {l0 : Option Nat} {l1 : Int32} {x : HS} {Q Q' : Int32 → HS → Prop} {X X' : String → HS → Prop} (hQ : ∀ r u, (PQ b lk I0 F0 A0 E0) u → Q r u → Q' r u) (hX : ∀ e u, (PQ b lk I0 F0 A0 E0) u → X e u → X' e u) (hx : (PQ b lk I0 F0 A0 E0) x) : w_X11_count l0 l1 x Q X → w_X11_count l0 l1 x Q' X' := by
  unfold w_X11_count
  refine fq_X11_requireRange H (fun  y1 h1 => ?_) hX hx
  refine q_if ?_ ?_
  · skip
    refine q_getI (fun _ => ?_)
    exact hQ _ _ h1
  · skip
    refine q_if ?_ ?_
    · skip
      refine q_getF (fun _ => ?_)
      refine q_getI (fun _ => ?_)
      exact hQ _ _ h1
    · skip
      refine q_if ?_ ?_
      · skip
        refine q_getF (fun _ => ?_)
        refine q_getI (fun _ => ?_)
        exact hQ _ _ h1
      · skip
        refine q_if ?_ ?_
        · skip
          refine q_getF (fun _ => ?_)
          refine q_getI (fun _ => ?_)
          exact hQ _ _ h1
        · skip
          refine q_if ?_ ?_
          · skip
            refine q_getF (fun _ => ?_)
            refine q_getI (fun _ => ?_)
            exact hQ _ _ h1
          · skip
            refine q_if ?_ ?_
            · skip
              refine q_getI (fun _ => ?_)
              exact hQ _ _ h1
            · skip
              refine q_if ?_ ?_
              · skip
                refine q_getF (fun _ => ?_)
                refine q_getI (fun _ => ?_)
                exact hQ _ _ h1
              · skip
                refine q_if ?_ ?_
                · skip
                  refine q_recv ?_
                  refine fq_X11_openCursors H (fun _ y2 h2 => ?_) h1
                  exact hQ _ _ h2
                · skip
                  refine q_if ?_ ?_
                  · skip
                    refine q_getF (fun _ => ?_)
                    refine q_getF (fun _ => ?_)
                    refine q_getI (fun _ => ?_)
                    exact hQ _ _ h1
                  · skip
                    refine q_if ?_ ?_
                    · skip
                      refine q_getF (fun _ => ?_)
                      refine q_getF (fun _ => ?_)
                      refine q_getI (fun _ => ?_)
                      refine fq_J6_bitCount_0f7a4 H (fun _ y3 h3 => ?_) h1
                      exact hQ _ _ h3
                    · skip
                      refine q_recv ?_
                      refine fq_X11_factsThereNow H (fun _ y4 h4 => ?_) h1
                      exact hQ _ _ h4
end VYB
