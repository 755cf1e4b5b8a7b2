set_option linter.unusedVariables false
/-! which fields and arrays a method of the reference writes: laid by wip/sim/frgen.py -/
theorem fr_X12_thrown {b : MT} {P : (Nat → Int32) → (Nat → Nat → Int32) → Prop} (hb : MB b) (hP : CloM [] [] P) {fi : Nat → Int32} {ar : Nat → Nat → Int32} {Q Q' : Int32 → HS → Prop} {X X' : String → HS → Prop} (hQ : ∀ r fi ar, P fi ar → Q r (mS b fi ar) → Q' r (mS b fi ar)) (hx : P fi ar) : w_X12_thrown (some b.o) (mS b fi ar) Q X → w_X12_thrown (some b.o) (mS b fi ar) Q' X' := by
  unfold w_X12_thrown
  refine q_getI (fun _ => ?_)
  exact hQ _ _ _ hx
theorem fr_X12_fails {b : MT} {P : (Nat → Int32) → (Nat → Nat → Int32) → Prop} (hb : MB b) (hP : CloM [0] [] P) {l1 : Int32} {fi : Nat → Int32} {ar : Nat → Nat → Int32} {Q Q' : Int32 → HS → Prop} {X X' : String → HS → Prop} (hQ : ∀ r fi ar, P fi ar → Q r (mS b fi ar) → Q' r (mS b fi ar)) (hx : P fi ar) : w_X12_fails (some b.o) l1 (mS b fi ar) Q X → w_X12_fails (some b.o) l1 (mS b fi ar) Q' X' := by
  unfold w_X12_fails
  refine n_putI hb (hP.1 _ (by decide)) hx (fun fi1 h1 => ?_)
  refine n_join1 (b := b) (P := P) (fun _ fi2 ar2 h2 => ?_) (fun _ _ k2 => ?_)
  · skip
    refine q_bit ?_
    exact hQ _ _ _ h2
  · skip
    refine q_if ?_ ?_
    · skip
      exact k2 _ _ _ h1
    · skip
      exact k2 _ _ _ h1
theorem fr_X12_four {b : MT} {P : (Nat → Int32) → (Nat → Nat → Int32) → Prop} (hb : MB b) (hP : CloM [2] [1] P) {l1 : Int32} {fi : Nat → Int32} {ar : Nat → Nat → Int32} {Q Q' : HS → Prop} {X X' : String → HS → Prop} (hQ : ∀ fi ar, P fi ar → Q (mS b fi ar) → Q' (mS b fi ar)) (hx : P fi ar) : w_X12_four (some b.o) l1 (mS b fi ar) Q X → w_X12_four (some b.o) l1 (mS b fi ar) Q' X' := by
  unfold w_X12_four
  refine n_loop (b := b) (P := P) hx (fun v4 fi1 ar1 _ _ h1 k1 => ?_)
  refine q_if ?_ ?_
  · skip
    exact hQ _ _ h1
  · skip
    refine n_getF hb (by decide) ?_
    refine q_getI (fun _ => ?_)
    refine n_astB hb (by decide) (by decide) (hP.2 _ (by decide)) h1 (fun ar2 h2 => ?_)
    refine q_getI (fun _ => ?_)
    refine n_putI hb (hP.1 _ (by decide)) h2 (fun fi3 h3 => ?_)
    exact k1 _ _ _ h3
theorem fr_X12_feed {b : MT} {P : (Nat → Int32) → (Nat → Nat → Int32) → Prop} (hb : MB b) (hP : CloM [0, 2] [1] P) {l1 : Int32} {l2 : Int32} {l3 : Int32} {l4 : Int32} {l5 : Int32} {fi : Nat → Int32} {ar : Nat → Nat → Int32} {Q Q' : Int32 → HS → Prop} {X X' : String → HS → Prop} (hQ : ∀ r fi ar, P fi ar → Q r (mS b fi ar) → Q' r (mS b fi ar)) (hx : P fi ar) : w_X12_feed (some b.o) l1 l2 l3 l4 l5 (mS b fi ar) Q X → w_X12_feed (some b.o) l1 l2 l3 l4 l5 (mS b fi ar) Q' X' := by
  unfold w_X12_feed
  refine q_getI (fun _ => ?_)
  refine n_join1 (b := b) (P := P) (fun _ fi1 ar1 h1 => ?_) (fun _ _ k1 => ?_)
  · skip
    refine q_recv ?_
    refine fr_X12_fails hb (hP.mono (by decide) (by decide)) (fun _ fi2 ar2 h2 => ?_) h1
    refine q_if ?_ ?_
    · skip
      refine q_recv ?_
      refine fr_X12_four hb (hP.mono (by decide) (by decide)) (fun  fi3 ar3 h3 => ?_) h2
      refine q_recv ?_
      refine fr_X12_four hb (hP.mono (by decide) (by decide)) (fun  fi4 ar4 h4 => ?_) h3
      refine q_recv ?_
      refine fr_X12_four hb (hP.mono (by decide) (by decide)) (fun  fi5 ar5 h5 => ?_) h4
      refine q_recv ?_
      refine fr_X12_four hb (hP.mono (by decide) (by decide)) (fun  fi6 ar6 h6 => ?_) h5
      refine q_recv ?_
      refine fr_X12_four hb (hP.mono (by decide) (by decide)) (fun  fi7 ar7 h7 => ?_) h6
      refine q_getI (fun _ => ?_)
      exact hQ _ _ _ h7
    · skip
      exact hQ _ _ _ h2
  · skip
    refine q_if ?_ ?_
    · skip
      exact k1 _ _ _ hx
    · skip
      exact k1 _ _ _ hx
theorem fr_X12_end {b : MT} {P : (Nat → Int32) → (Nat → Nat → Int32) → Prop} (hb : MB b) (hP : CloM [0, 2] [] P) {l1 : Int32} {fi : Nat → Int32} {ar : Nat → Nat → Int32} {Q Q' : Int32 → HS → Prop} {X X' : String → HS → Prop} (hQ : ∀ r fi ar, P fi ar → Q r (mS b fi ar) → Q' r (mS b fi ar)) (hx : P fi ar) : w_X12_end (some b.o) l1 (mS b fi ar) Q X → w_X12_end (some b.o) l1 (mS b fi ar) Q' X' := by
  unfold w_X12_end
  refine n_join1 (b := b) (P := P) (fun _ fi1 ar1 h1 => ?_) (fun _ _ k1 => ?_)
  · skip
    refine q_recv ?_
    refine fr_X12_fails hb (hP.mono (by decide) (by decide)) (fun _ fi2 ar2 h2 => ?_) h1
    refine q_if ?_ ?_
    · skip
      refine n_putI hb (hP.1 _ (by decide)) h2 (fun fi3 h3 => ?_)
      exact hQ _ _ _ h3
    · skip
      exact hQ _ _ _ h2
  · skip
    refine n_join0 (b := b) (P := P) (fun fi4 ar4 h4 => ?_) (fun _ _ k4 => ?_)
    · skip
      exact k1 _ _ _ h4
    · skip
      refine q_if ?_ ?_
      · skip
        exact k4 _ _ hx
      · skip
        refine q_getI (fun _ => ?_)
        refine q_if ?_ ?_
        · skip
          exact k1 _ _ _ hx
        · skip
          exact k4 _ _ hx
theorem fr_X12_value {b : MT} {P : (Nat → Int32) → (Nat → Nat → Int32) → Prop} (hb : MB b) (hP : CloM [0] [3] P) {l1 : Int32} {l2 : Int32} {fi : Nat → Int32} {ar : Nat → Nat → Int32} {Q Q' : Int32 → HS → Prop} {X X' : String → HS → Prop} (hQ : ∀ r fi ar, P fi ar → Q r (mS b fi ar) → Q' r (mS b fi ar)) (hx : P fi ar) : w_X12_value (some b.o) l1 l2 (mS b fi ar) Q X → w_X12_value (some b.o) l1 l2 (mS b fi ar) Q' X' := by
  unfold w_X12_value
  refine n_join1 (b := b) (P := P) (fun _ fi1 ar1 h1 => ?_) (fun _ _ k1 => ?_)
  · skip
    refine q_recv ?_
    refine fr_X12_fails hb (hP.mono (by decide) (by decide)) (fun _ fi2 ar2 h2 => ?_) h1
    refine q_if ?_ ?_
    · skip
      refine n_getF hb (by decide) ?_
      refine q_aldJ (fun _ => ?_)
      refine n_getF hb (by decide) ?_
      refine n_astI hb (by decide) (by decide) (hP.2 _ (by decide)) h2 (fun ar3 h3 => ?_)
      exact hQ _ _ _ h3
    · skip
      exact hQ _ _ _ h2
  · skip
    refine n_join0 (b := b) (P := P) (fun fi4 ar4 h4 => ?_) (fun _ _ k4 => ?_)
    · skip
      exact k1 _ _ _ h4
    · skip
      refine q_if ?_ ?_
      · skip
        exact k4 _ _ hx
      · skip
        refine q_if ?_ ?_
        · skip
          exact k1 _ _ _ hx
        · skip
          exact k4 _ _ hx
theorem fr_X12_isTable {b : MT} {P : (Nat → Int32) → (Nat → Nat → Int32) → Prop} (hb : MB b) (hP : CloM [] [] P) {l1 : Int32} {fi : Nat → Int32} {ar : Nat → Nat → Int32} {Q Q' : Int32 → HS → Prop} {X X' : String → HS → Prop} (hQ : ∀ r fi ar, P fi ar → Q r (mS b fi ar) → Q' r (mS b fi ar)) (hx : P fi ar) : w_X12_isTable (some b.o) l1 (mS b fi ar) Q X → w_X12_isTable (some b.o) l1 (mS b fi ar) Q' X' := by
  unfold w_X12_isTable
  refine n_join1 (b := b) (P := P) (fun _ fi1 ar1 h1 => ?_) (fun _ _ k1 => ?_)
  · skip
    refine q_bit ?_
    exact hQ _ _ _ h1
  · skip
    refine n_join0 (b := b) (P := P) (fun fi2 ar2 h2 => ?_) (fun _ _ k2 => ?_)
    · skip
      exact k1 _ _ _ h2
    · skip
      refine q_if ?_ ?_
      · skip
        exact k2 _ _ hx
      · skip
        refine q_getI (fun _ => ?_)
        refine q_if ?_ ?_
        · skip
          exact k2 _ _ hx
        · skip
          exact k1 _ _ _ hx
theorem fr_X12_isMask {b : MT} {P : (Nat → Int32) → (Nat → Nat → Int32) → Prop} (hb : MB b) (hP : CloM [] [] P) {l1 : Int32} {fi : Nat → Int32} {ar : Nat → Nat → Int32} {Q Q' : Int32 → HS → Prop} {X X' : String → HS → Prop} (hQ : ∀ r fi ar, P fi ar → Q r (mS b fi ar) → Q' r (mS b fi ar)) (hx : P fi ar) : w_X12_isMask (some b.o) l1 (mS b fi ar) Q X → w_X12_isMask (some b.o) l1 (mS b fi ar) Q' X' := by
  unfold w_X12_isMask
  refine n_join1 (b := b) (P := P) (fun _ fi1 ar1 h1 => ?_) (fun _ _ k1 => ?_)
  · skip
    refine q_bit ?_
    exact hQ _ _ _ h1
  · skip
    refine n_join0 (b := b) (P := P) (fun fi2 ar2 h2 => ?_) (fun _ _ k2 => ?_)
    · skip
      exact k1 _ _ _ h2
    · skip
      refine q_if ?_ ?_
      · skip
        exact k2 _ _ hx
      · skip
        refine q_if ?_ ?_
        · skip
          exact k2 _ _ hx
        · skip
          exact k1 _ _ _ hx
theorem fr_X12_isTime {b : MT} {P : (Nat → Int32) → (Nat → Nat → Int32) → Prop} (hb : MB b) (hP : CloM [] [] P) {l1 : Int32} {fi : Nat → Int32} {ar : Nat → Nat → Int32} {Q Q' : Int32 → HS → Prop} {X X' : String → HS → Prop} (hQ : ∀ r fi ar, P fi ar → Q r (mS b fi ar) → Q' r (mS b fi ar)) (hx : P fi ar) : w_X12_isTime (some b.o) l1 (mS b fi ar) Q X → w_X12_isTime (some b.o) l1 (mS b fi ar) Q' X' := by
  unfold w_X12_isTime
  refine n_join1 (b := b) (P := P) (fun _ fi1 ar1 h1 => ?_) (fun _ _ k1 => ?_)
  · skip
    refine q_bit ?_
    exact hQ _ _ _ h1
  · skip
    refine n_join0 (b := b) (P := P) (fun fi2 ar2 h2 => ?_) (fun _ _ k2 => ?_)
    · skip
      exact k1 _ _ _ h2
    · skip
      refine q_if ?_ ?_
      · skip
        exact k2 _ _ hx
      · skip
        refine q_getI (fun _ => ?_)
        refine n_join0 (b := b) (P := P) (fun fi3 ar3 h3 => ?_) (fun _ _ k3 => ?_)
        · skip
          exact k1 _ _ _ h3
        · skip
          refine q_if ?_ ?_
          · skip
            exact k3 _ _ hx
          · skip
            refine q_getI (fun _ => ?_)
            refine q_if ?_ ?_
            · skip
              exact k3 _ _ hx
            · skip
              exact k2 _ _ hx
theorem fr_X12_timeOf {b : MT} {P : (Nat → Int32) → (Nat → Nat → Int32) → Prop} (hb : MB b) (hP : CloM [] [] P) {l1 : Int32} {fi : Nat → Int32} {ar : Nat → Nat → Int32} {Q Q' : Int32 → HS → Prop} {X X' : String → HS → Prop} (hQ : ∀ r fi ar, P fi ar → Q r (mS b fi ar) → Q' r (mS b fi ar)) (hx : P fi ar) : w_X12_timeOf (some b.o) l1 (mS b fi ar) Q X → w_X12_timeOf (some b.o) l1 (mS b fi ar) Q' X' := by
  unfold w_X12_timeOf
  refine n_join1 (b := b) (P := P) (fun _ fi1 ar1 h1 => ?_) (fun _ _ k1 => ?_)
  · skip
    exact hQ _ _ _ h1
  · skip
    refine q_if ?_ ?_
    · skip
      refine q_getI (fun _ => ?_)
      exact k1 _ _ _ hx
    · skip
      exact k1 _ _ _ hx
theorem fr_X12_isThere {b : MT} {P : (Nat → Int32) → (Nat → Nat → Int32) → Prop} (hb : MB b) (hP : CloM [] [] P) {l1 : Int32} {l2 : Int32} {fi : Nat → Int32} {ar : Nat → Nat → Int32} {Q Q' : Int32 → HS → Prop} {X X' : String → HS → Prop} (hQ : ∀ r fi ar, P fi ar → Q r (mS b fi ar) → Q' r (mS b fi ar)) (hx : P fi ar) : w_X12_isThere (some b.o) l1 l2 (mS b fi ar) Q X → w_X12_isThere (some b.o) l1 l2 (mS b fi ar) Q' X' := by
  unfold w_X12_isThere
  refine n_getF hb (by decide) ?_
  refine q_aldJ (fun _ => ?_)
  refine n_join1 (b := b) (P := P) (fun _ fi1 ar1 h1 => ?_) (fun _ _ k1 => ?_)
  · skip
    refine q_bit ?_
    exact hQ _ _ _ h1
  · skip
    refine n_join0 (b := b) (P := P) (fun fi2 ar2 h2 => ?_) (fun _ _ k2 => ?_)
    · skip
      exact k1 _ _ _ h2
    · skip
      refine q_if ?_ ?_
      · skip
        exact k2 _ _ hx
      · skip
        refine n_getF hb (by decide) ?_
        refine q_aldJ (fun _ => ?_)
        refine n_join0 (b := b) (P := P) (fun fi3 ar3 h3 => ?_) (fun _ _ k3 => ?_)
        · skip
          exact k1 _ _ _ h3
        · skip
          refine q_if ?_ ?_
          · skip
            exact k3 _ _ hx
          · skip
            refine n_getF hb (by decide) ?_
            refine q_aldJ (fun _ => ?_)
            refine q_if ?_ ?_
            · skip
              exact k2 _ _ hx
            · skip
              exact k3 _ _ hx
theorem fr_X12_table {b : MT} {P : (Nat → Int32) → (Nat → Nat → Int32) → Prop} (hb : MB b) (hP : CloM [0, 10] [4, 5, 6, 7, 8] P) {l1 : Int32} {fi : Nat → Int32} {ar : Nat → Nat → Int32} {Q Q' : Int32 → HS → Prop} {X X' : String → HS → Prop} (hQ : ∀ r fi ar, P fi ar → Q r (mS b fi ar) → Q' r (mS b fi ar)) (hx : P fi ar) : w_X12_table (some b.o) l1 (mS b fi ar) Q X → w_X12_table (some b.o) l1 (mS b fi ar) Q' X' := by
  unfold w_X12_table
  refine n_join1 (b := b) (P := P) (fun _ fi1 ar1 h1 => ?_) (fun _ _ k1 => ?_)
  · skip
    refine q_recv ?_
    refine fr_X12_fails hb (hP.mono (by decide) (by decide)) (fun _ fi2 ar2 h2 => ?_) h1
    refine q_if ?_ ?_
    · skip
      refine n_getF hb (by decide) ?_
      refine q_getI (fun _ => ?_)
      refine n_astI hb (by decide) (by decide) (hP.2 _ (by decide)) h2 (fun ar3 h3 => ?_)
      refine n_getF hb (by decide) ?_
      refine q_getI (fun _ => ?_)
      refine n_astI hb (by decide) (by decide) (hP.2 _ (by decide)) h3 (fun ar4 h4 => ?_)
      refine n_getF hb (by decide) ?_
      refine q_getI (fun _ => ?_)
      refine n_astI hb (by decide) (by decide) (hP.2 _ (by decide)) h4 (fun ar5 h5 => ?_)
      refine n_getF hb (by decide) ?_
      refine q_getI (fun _ => ?_)
      refine n_astI hb (by decide) (by decide) (hP.2 _ (by decide)) h5 (fun ar6 h6 => ?_)
      refine n_getF hb (by decide) ?_
      refine q_getI (fun _ => ?_)
      refine n_astI hb (by decide) (by decide) (hP.2 _ (by decide)) h6 (fun ar7 h7 => ?_)
      refine q_getI (fun _ => ?_)
      refine n_putI hb (hP.1 _ (by decide)) h7 (fun fi8 h8 => ?_)
      refine q_getI (fun _ => ?_)
      exact hQ _ _ _ h8
    · skip
      exact hQ _ _ _ h2
  · skip
    refine n_join0 (b := b) (P := P) (fun fi9 ar9 h9 => ?_) (fun _ _ k9 => ?_)
    · skip
      exact k1 _ _ _ h9
    · skip
      refine q_if ?_ ?_
      · skip
        exact k9 _ _ hx
      · skip
        refine q_if ?_ ?_
        · skip
          refine q_getI (fun _ => ?_)
          refine q_if ?_ ?_
          · skip
            exact k1 _ _ _ hx
          · skip
            exact k1 _ _ _ hx
        · skip
          exact k9 _ _ hx
theorem fr_X12_index {b : MT} {P : (Nat → Int32) → (Nat → Nat → Int32) → Prop} (hb : MB b) (hP : CloM [0] [5] P) {l1 : Int32} {l2 : Int32} {fi : Nat → Int32} {ar : Nat → Nat → Int32} {Q Q' : Int32 → HS → Prop} {X X' : String → HS → Prop} (hQ : ∀ r fi ar, P fi ar → Q r (mS b fi ar) → Q' r (mS b fi ar)) (hx : P fi ar) : w_X12_index (some b.o) l1 l2 (mS b fi ar) Q X → w_X12_index (some b.o) l1 l2 (mS b fi ar) Q' X' := by
  unfold w_X12_index
  refine q_recv ?_
  refine fr_X12_isTable hb (hP.mono (by decide) (by decide)) (fun _ fi1 ar1 h1 => ?_) hx
  refine n_join1 (b := b) (P := P) (fun _ fi2 ar2 h2 => ?_) (fun _ _ k2 => ?_)
  · skip
    refine q_recv ?_
    refine fr_X12_fails hb (hP.mono (by decide) (by decide)) (fun _ fi3 ar3 h3 => ?_) h2
    refine q_if ?_ ?_
    · skip
      refine n_getF hb (by decide) ?_
      refine q_aldJ (fun _ => ?_)
      refine n_getF hb (by decide) ?_
      refine q_aldJ (fun _ => ?_)
      refine n_astI hb (by decide) (by decide) (hP.2 _ (by decide)) h3 (fun ar4 h4 => ?_)
      refine n_getF hb (by decide) ?_
      refine q_aldJ (fun _ => ?_)
      refine n_join1 (b := b) (P := P) (fun _ fi5 ar5 h5 => ?_) (fun _ _ k5 => ?_)
      · skip
        exact hQ _ _ _ h5
      · skip
        refine q_if ?_ ?_
        · skip
          exact k5 _ _ _ h4
        · skip
          exact k5 _ _ _ h4
    · skip
      exact hQ _ _ _ h3
  · skip
    refine q_if ?_ ?_
    · skip
      exact k2 _ _ _ h1
    · skip
      refine n_join0 (b := b) (P := P) (fun fi6 ar6 h6 => ?_) (fun _ _ k6 => ?_)
      · skip
        exact k2 _ _ _ h6
      · skip
        refine q_if ?_ ?_
        · skip
          exact k6 _ _ h1
        · skip
          refine n_getF hb (by decide) ?_
          refine q_aldJ (fun _ => ?_)
          refine q_if ?_ ?_
          · skip
            exact k2 _ _ _ h1
          · skip
            exact k6 _ _ h1
theorem fr_X12_alike {b : MT} {P : (Nat → Int32) → (Nat → Nat → Int32) → Prop} (hb : MB b) (hP : CloM [] [] P) {l1 : Int32} {l2 : Int32} {l3 : Int32} {fi : Nat → Int32} {ar : Nat → Nat → Int32} {Q Q' : Int32 → HS → Prop} {X X' : String → HS → Prop} (hQ : ∀ r fi ar, P fi ar → Q r (mS b fi ar) → Q' r (mS b fi ar)) (hx : P fi ar) : w_X12_alike (some b.o) l1 l2 l3 (mS b fi ar) Q X → w_X12_alike (some b.o) l1 l2 l3 (mS b fi ar) Q' X' := by
  unfold w_X12_alike
  refine n_loop (b := b) (P := P) hx (fun v4 fi1 ar1 _ _ h1 k1 => ?_)
  refine q_if ?_ ?_
  · skip
    refine q_bit ?_
    exact hQ _ _ _ h1
  · skip
    refine n_join0 (b := b) (P := P) (fun fi2 ar2 h2 => ?_) (fun _ _ k2 => ?_)
    · skip
      exact k1 _ _ _ h2
    · skip
      refine q_if ?_ ?_
      · skip
        refine n_getF hb (by decide) ?_
        refine q_aldJ (fun _ => ?_)
        refine n_getF hb (by decide) ?_
        refine q_aldJ (fun _ => ?_)
        refine q_if ?_ ?_
        · skip
          exact k2 _ _ h1
        · skip
          refine q_bit ?_
          exact hQ _ _ _ h1
      · skip
        exact k2 _ _ h1
theorem fr_X12_key {b : MT} {P : (Nat → Int32) → (Nat → Nat → Int32) → Prop} (hb : MB b) (hP : CloM [0] [6, 9] P) {l1 : Int32} {l2 : Int32} {fi : Nat → Int32} {ar : Nat → Nat → Int32} {Q Q' : Int32 → HS → Prop} {X X' : String → HS → Prop} (hQ : ∀ r fi ar, P fi ar → Q r (mS b fi ar) → Q' r (mS b fi ar)) (hx : P fi ar) : w_X12_key (some b.o) l1 l2 (mS b fi ar) Q X → w_X12_key (some b.o) l1 l2 (mS b fi ar) Q' X' := by
  unfold w_X12_key
  refine q_recv ?_
  refine fr_X12_isTable hb (hP.mono (by decide) (by decide)) (fun _ fi1 ar1 h1 => ?_) hx
  refine n_join1 (b := b) (P := P) (fun _ fi2 ar2 h2 => ?_) (fun _ _ k2 => ?_)
  · skip
    refine q_recv ?_
    refine fr_X12_fails hb (hP.mono (by decide) (by decide)) (fun _ fi3 ar3 h3 => ?_) h2
    refine q_if ?_ ?_
    · skip
      refine n_loop (b := b) (P := P) h3 (fun v11 fi4 ar4 _ _ h4 k4 => ?_)
      refine n_getF hb (by decide) ?_
      refine q_aldJ (fun _ => ?_)
      refine q_if ?_ ?_
      · skip
        refine n_getF hb (by decide) ?_
        refine q_aldJ (fun _ => ?_)
        refine n_loop (b := b) (P := P) h4 (fun v19 fi5 ar5 _ _ h5 k5 => ?_)
        refine q_if ?_ ?_
        · skip
          refine n_join1 (b := b) (P := P) (fun _ fi6 ar6 h6 => ?_) (fun _ _ k6 => ?_)
          · skip
            refine q_recv ?_
            refine fr_X12_fails hb (hP.mono (by decide) (by decide)) (fun _ fi7 ar7 h7 => ?_) h6
            refine q_if ?_ ?_
            · skip
              refine n_getF hb (by decide) ?_
              refine n_getF hb (by decide) ?_
              refine q_aldJ (fun _ => ?_)
              refine n_astI hb (by decide) (by decide) (hP.2 _ (by decide)) h7 (fun ar8 h8 => ?_)
              refine n_getF hb (by decide) ?_
              refine q_aldJ (fun _ => ?_)
              refine n_astI hb (by decide) (by decide) (hP.2 _ (by decide)) h8 (fun ar9 h9 => ?_)
              exact hQ _ _ _ h9
            · skip
              exact hQ _ _ _ h7
          · skip
            refine q_if ?_ ?_
            · skip
              refine n_getF hb (by decide) ?_
              refine q_aldJ (fun _ => ?_)
              refine q_if ?_ ?_
              · skip
                exact k6 _ _ _ h5
              · skip
                exact k6 _ _ _ h5
            · skip
              exact k6 _ _ _ h5
        · skip
          refine n_getF hb (by decide) ?_
          refine q_aldJ (fun _ => ?_)
          refine n_loop (b := b) (P := P) h5 (fun v39 fi10 ar10 _ _ h10 k10 => ?_)
          refine n_join0 (b := b) (P := P) (fun fi11 ar11 h11 => ?_) (fun _ _ k11 => ?_)
          · skip
            refine n_getF hb (by decide) ?_
            refine q_aldJ (fun _ => ?_)
            exact k5 _ _ _ h11
          · skip
            refine q_if ?_ ?_
            · skip
              exact k11 _ _ h10
            · skip
              refine q_getI (fun _ => ?_)
              refine q_recv ?_
              refine fr_X12_isThere hb (hP.mono (by decide) (by decide)) (fun _ fi12 ar12 h12 => ?_) h10
              refine q_if ?_ ?_
              · skip
                exact k11 _ _ h12
              · skip
                refine q_getI (fun _ => ?_)
                refine q_recv ?_
                refine fr_X12_isThere hb (hP.mono (by decide) (by decide)) (fun _ fi13 ar13 h13 => ?_) h12
                refine n_join1 (b := b) (P := P) (fun _ fi14 ar14 h14 => ?_) (fun _ _ k14 => ?_)
                · skip
                  refine n_getF hb (by decide) ?_
                  refine q_aldJ (fun _ => ?_)
                  exact k10 _ _ _ h14
                · skip
                  refine q_if ?_ ?_
                  · skip
                    exact k14 _ _ _ h13
                  · skip
                    refine q_recv ?_
                    refine fr_X12_alike hb (hP.mono (by decide) (by decide)) (fun _ fi15 ar15 h15 => ?_) h13
                    refine q_if ?_ ?_
                    · skip
                      exact k14 _ _ _ h15
                    · skip
                      exact k14 _ _ _ h15
      · skip
        refine n_getF hb (by decide) ?_
        refine q_aldJ (fun _ => ?_)
        refine q_if ?_ ?_
        · skip
          exact hQ _ _ _ h4
        · skip
          exact k4 _ _ _ h4
    · skip
      exact hQ _ _ _ h3
  · skip
    refine q_if ?_ ?_
    · skip
      exact k2 _ _ _ h1
    · skip
      refine n_join0 (b := b) (P := P) (fun fi16 ar16 h16 => ?_) (fun _ _ k16 => ?_)
      · skip
        exact k2 _ _ _ h16
      · skip
        refine q_if ?_ ?_
        · skip
          exact k16 _ _ h1
        · skip
          refine n_getF hb (by decide) ?_
          refine q_aldJ (fun _ => ?_)
          refine q_if ?_ ?_
          · skip
            exact k2 _ _ _ h1
          · skip
            exact k16 _ _ h1
theorem fr_X12_fits {b : MT} {P : (Nat → Int32) → (Nat → Nat → Int32) → Prop} (hb : MB b) (hP : CloM [] [] P) {l1 : Int32} {l2 : Int32} {l3 : Option Nat} {l4 : Int32} {fi : Nat → Int32} {ar : Nat → Nat → Int32} {Q Q' : Int32 → HS → Prop} {X X' : String → HS → Prop} (hQ : ∀ r fi ar, P fi ar → Q r (mS b fi ar) → Q' r (mS b fi ar)) (hx : P fi ar) : w_X12_fits (some b.o) l1 l2 l3 l4 (mS b fi ar) Q X → w_X12_fits (some b.o) l1 l2 l3 l4 (mS b fi ar) Q' X' := by
  unfold w_X12_fits
  refine n_getF hb (by decide) ?_
  refine n_getF hb (by decide) ?_
  refine q_aldJ (fun _ => ?_)
  refine q_aldJ (fun _ => ?_)
  refine n_loop (b := b) (P := P) hx (fun v8 fi1 ar1 _ _ h1 k1 => ?_)
  refine q_if ?_ ?_
  · skip
    refine q_bit ?_
    exact hQ _ _ _ h1
  · skip
    refine n_join0 (b := b) (P := P) (fun fi2 ar2 h2 => ?_) (fun _ _ k2 => ?_)
    · skip
      exact k1 _ _ _ h2
    · skip
      refine q_if ?_ ?_
      · skip
        refine n_getF hb (by decide) ?_
        refine q_aldJ (fun _ => ?_)
        refine q_aldJ (fun _ => ?_)
        refine q_if ?_ ?_
        · skip
          exact k2 _ _ h1
        · skip
          refine q_bit ?_
          exact hQ _ _ _ h1
      · skip
        exact k2 _ _ h1
theorem fr_X12_indexOf {b : MT} {P : (Nat → Int32) → (Nat → Nat → Int32) → Prop} (hb : MB b) (hP : CloM [] [] P) {l1 : Int32} {l2 : Int32} {fi : Nat → Int32} {ar : Nat → Nat → Int32} {Q Q' : Int32 → HS → Prop} {X X' : String → HS → Prop} (hQ : ∀ r fi ar, P fi ar → Q r (mS b fi ar) → Q' r (mS b fi ar)) (hx : P fi ar) : w_X12_indexOf (some b.o) l1 l2 (mS b fi ar) Q X → w_X12_indexOf (some b.o) l1 l2 (mS b fi ar) Q' X' := by
  unfold w_X12_indexOf
  refine n_loop (b := b) (P := P) hx (fun v4 fi1 ar1 _ _ h1 k1 => ?_)
  refine n_getF hb (by decide) ?_
  refine q_aldJ (fun _ => ?_)
  refine q_if ?_ ?_
  · skip
    exact hQ _ _ _ h1
  · skip
    refine n_join0 (b := b) (P := P) (fun fi2 ar2 h2 => ?_) (fun _ _ k2 => ?_)
    · skip
      exact k1 _ _ _ h2
    · skip
      refine q_if ?_ ?_
      · skip
        refine n_getF hb (by decide) ?_
        refine q_aldJ (fun _ => ?_)
        refine q_if ?_ ?_
        · skip
          exact hQ _ _ _ h1
        · skip
          exact k2 _ _ h1
      · skip
        exact k2 _ _ h1
theorem fr_X12_seek {b : MT} {P : (Nat → Int32) → (Nat → Nat → Int32) → Prop} (hb : MB b) (hP : CloM [38] [] P) {l1 : Int32} {l2 : Int32} {l3 : Int32} {l4 : Int32} {l5 : Option Nat} {l6 : Int32} {fi : Nat → Int32} {ar : Nat → Nat → Int32} {Q Q' : Int32 → HS → Prop} {X X' : String → HS → Prop} (hQ : ∀ r fi ar, P fi ar → Q r (mS b fi ar) → Q' r (mS b fi ar)) (hx : P fi ar) : w_X12_seek (some b.o) l1 l2 l3 l4 l5 l6 (mS b fi ar) Q X → w_X12_seek (some b.o) l1 l2 l3 l4 l5 l6 (mS b fi ar) Q' X' := by
  unfold w_X12_seek
  refine q_recv ?_
  refine fr_X12_indexOf hb (hP.mono (by decide) (by decide)) (fun _ fi1 ar1 h1 => ?_) hx
  refine n_loop (b := b) (P := P) h1 (fun v6 fi2 ar2 _ _ h2 k2 => ?_)
  refine q_if ?_ ?_
  · skip
    exact hQ _ _ _ h2
  · skip
    refine n_join0 (b := b) (P := P) (fun fi3 ar3 h3 => ?_) (fun _ _ k3 => ?_)
    · skip
      refine n_getF hb (by decide) ?_
      refine q_aldJ (fun _ => ?_)
      exact k2 _ _ _ h3
    · skip
      refine n_join0 (b := b) (P := P) (fun fi4 ar4 h4 => ?_) (fun _ _ k4 => ?_)
      · skip
        refine q_getI (fun _ => ?_)
        refine n_putI hb (hP.1 _ (by decide)) h4 (fun fi5 h5 => ?_)
        refine q_recv ?_
        refine fr_X12_isThere hb (hP.mono (by decide) (by decide)) (fun _ fi6 ar6 h6 => ?_) h5
        refine n_join0 (b := b) (P := P) (fun fi7 ar7 h7 => ?_) (fun _ _ k7 => ?_)
        · skip
          refine q_getI (fun _ => ?_)
          refine q_if ?_ ?_
          · skip
            exact k3 _ _ h7
          · skip
            refine q_getI (fun _ => ?_)
            refine q_if ?_ ?_
            · skip
              exact k3 _ _ h7
            · skip
              exact hQ _ _ _ h7
        · skip
          refine q_if ?_ ?_
          · skip
            exact k7 _ _ h6
          · skip
            refine q_recv ?_
            refine fr_X12_fits hb (hP.mono (by decide) (by decide)) (fun _ fi8 ar8 h8 => ?_) h6
            refine q_if ?_ ?_
            · skip
              exact k7 _ _ h8
            · skip
              exact hQ _ _ _ h8
      · skip
        refine q_if ?_ ?_
        · skip
          exact k4 _ _ h2
        · skip
          refine n_getF hb (by decide) ?_
          refine q_aldJ (fun _ => ?_)
          refine q_aldJ (fun _ => ?_)
          refine q_if ?_ ?_
          · skip
            exact k4 _ _ h2
          · skip
            exact k3 _ _ h2
theorem fr_X12_free {b : MT} {P : (Nat → Int32) → (Nat → Nat → Int32) → Prop} (hb : MB b) (hP : CloM [] [] P) {fi : Nat → Int32} {ar : Nat → Nat → Int32} {Q Q' : Int32 → HS → Prop} {X X' : String → HS → Prop} (hQ : ∀ r fi ar, P fi ar → Q r (mS b fi ar) → Q' r (mS b fi ar)) (hx : P fi ar) : w_X12_free (some b.o) (mS b fi ar) Q X → w_X12_free (some b.o) (mS b fi ar) Q' X' := by
  unfold w_X12_free
  refine n_loop (b := b) (P := P) hx (fun v4 fi1 ar1 _ _ h1 k1 => ?_)
  refine n_getF hb (by decide) ?_
  refine q_aldJ (fun _ => ?_)
  refine q_if ?_ ?_
  · skip
    exact hQ _ _ _ h1
  · skip
    exact k1 _ _ _ h1
theorem fr_X12_note {b : MT} {P : (Nat → Int32) → (Nat → Nat → Int32) → Prop} (hb : MB b) (hP : CloM [25] [24] P) {l1 : Int32} {fi : Nat → Int32} {ar : Nat → Nat → Int32} {Q Q' : HS → Prop} {X X' : String → HS → Prop} (hQ : ∀ fi ar, P fi ar → Q (mS b fi ar) → Q' (mS b fi ar)) (hx : P fi ar) : w_X12_note (some b.o) l1 (mS b fi ar) Q X → w_X12_note (some b.o) l1 (mS b fi ar) Q' X' := by
  unfold w_X12_note
  refine q_getI (fun _ => ?_)
  refine q_if ?_ ?_
  · skip
    exact hQ _ _ hx
  · skip
    refine n_getF hb (by decide) ?_
    refine q_getI (fun _ => ?_)
    refine n_astI hb (by decide) (by decide) (hP.2 _ (by decide)) hx (fun ar1 h1 => ?_)
    refine q_getI (fun _ => ?_)
    refine n_putI hb (hP.1 _ (by decide)) h1 (fun fi2 h2 => ?_)
    exact hQ _ _ h2
theorem fr_X12_fresh {b : MT} {P : (Nat → Int32) → (Nat → Nat → Int32) → Prop} (hb : MB b) (hP : CloM [20, 21, 22, 25] [11, 12, 14, 15, 16, 19, 24] P) {l1 : Int32} {fi : Nat → Int32} {ar : Nat → Nat → Int32} {Q Q' : Int32 → HS → Prop} {X X' : String → HS → Prop} (hQ : ∀ r fi ar, P fi ar → Q r (mS b fi ar) → Q' r (mS b fi ar)) (hx : P fi ar) : w_X12_fresh (some b.o) l1 (mS b fi ar) Q X → w_X12_fresh (some b.o) l1 (mS b fi ar) Q' X' := by
  unfold w_X12_fresh
  refine q_recv ?_
  refine fr_X12_free hb (hP.mono (by decide) (by decide)) (fun _ fi1 ar1 h1 => ?_) hx
  refine n_getF hb (by decide) ?_
  refine n_astZ hb (by decide) (by decide) (hP.2 _ (by decide)) h1 (fun ar2 h2 => ?_)
  refine n_getF hb (by decide) ?_
  refine n_astI hb (by decide) (by decide) (hP.2 _ (by decide)) h2 (fun ar3 h3 => ?_)
  refine n_getF hb (by decide) ?_
  refine q_getI (fun _ => ?_)
  refine n_astI hb (by decide) (by decide) (hP.2 _ (by decide)) h3 (fun ar4 h4 => ?_)
  refine q_getI (fun _ => ?_)
  refine n_putI hb (hP.1 _ (by decide)) h4 (fun fi5 h5 => ?_)
  refine q_getI (fun _ => ?_)
  refine n_putI hb (hP.1 _ (by decide)) h5 (fun fi6 h6 => ?_)
  refine q_getI (fun _ => ?_)
  refine n_putI hb (hP.1 _ (by decide)) h6 (fun fi7 h7 => ?_)
  refine n_getF hb (by decide) ?_
  refine q_getI (fun _ => ?_)
  refine n_astI hb (by decide) (by decide) (hP.2 _ (by decide)) h7 (fun ar8 h8 => ?_)
  refine n_getF hb (by decide) ?_
  refine n_astI hb (by decide) (by decide) (hP.2 _ (by decide)) h8 (fun ar9 h9 => ?_)
  refine n_getF hb (by decide) ?_
  refine n_astI hb (by decide) (by decide) (hP.2 _ (by decide)) h9 (fun ar10 h10 => ?_)
  refine q_recv ?_
  refine fr_X12_note hb (hP.mono (by decide) (by decide)) (fun  fi11 ar11 h11 => ?_) h10
  exact hQ _ _ _ h11
theorem fr_X12_link {b : MT} {P : (Nat → Int32) → (Nat → Nat → Int32) → Prop} (hb : MB b) (hP : CloM [] [7, 8, 17, 18] P) {l1 : Int32} {l2 : Int32} {fi : Nat → Int32} {ar : Nat → Nat → Int32} {Q Q' : HS → Prop} {X X' : String → HS → Prop} (hQ : ∀ fi ar, P fi ar → Q (mS b fi ar) → Q' (mS b fi ar)) (hx : P fi ar) : w_X12_link (some b.o) l1 l2 (mS b fi ar) Q X → w_X12_link (some b.o) l1 l2 (mS b fi ar) Q' X' := by
  unfold w_X12_link
  refine n_getF hb (by decide) ?_
  refine q_aldJ (fun _ => ?_)
  refine n_getF hb (by decide) ?_
  refine n_astI hb (by decide) (by decide) (hP.2 _ (by decide)) hx (fun ar1 h1 => ?_)
  refine n_getF hb (by decide) ?_
  refine n_join1 (b := b) (P := P) (fun _ fi2 ar2 h2 => ?_) (fun _ _ k2 => ?_)
  · skip
    refine n_astI hb (by decide) (by decide) (hP.2 _ (by decide)) h2 (fun ar3 h3 => ?_)
    refine n_join0 (b := b) (P := P) (fun fi4 ar4 h4 => ?_) (fun _ _ k4 => ?_)
    · skip
      refine n_getF hb (by decide) ?_
      refine q_aldJ (fun _ => ?_)
      refine n_join0 (b := b) (P := P) (fun fi5 ar5 h5 => ?_) (fun _ _ k5 => ?_)
      · skip
        exact hQ _ _ h5
      · skip
        refine q_if ?_ ?_
        · skip
          refine n_getF hb (by decide) ?_
          refine n_getF hb (by decide) ?_
          refine q_aldJ (fun _ => ?_)
          refine n_astI hb (by decide) (by decide) (hP.2 _ (by decide)) h4 (fun ar6 h6 => ?_)
          exact k5 _ _ h6
        · skip
          refine n_getF hb (by decide) ?_
          refine n_astI hb (by decide) (by decide) (hP.2 _ (by decide)) h4 (fun ar7 h7 => ?_)
          exact k5 _ _ h7
    · skip
      refine q_if ?_ ?_
      · skip
        refine n_getF hb (by decide) ?_
        refine n_astI hb (by decide) (by decide) (hP.2 _ (by decide)) h3 (fun ar8 h8 => ?_)
        exact k4 _ _ h8
      · skip
        refine n_getF hb (by decide) ?_
        refine n_astI hb (by decide) (by decide) (hP.2 _ (by decide)) h3 (fun ar9 h9 => ?_)
        exact k4 _ _ h9
  · skip
    refine q_if ?_ ?_
    · skip
      refine n_getF hb (by decide) ?_
      refine q_aldJ (fun _ => ?_)
      exact k2 _ _ _ h1
    · skip
      refine n_getF hb (by decide) ?_
      refine q_aldJ (fun _ => ?_)
      exact k2 _ _ _ h1
theorem fr_X12_go {b : MT} {P : (Nat → Int32) → (Nat → Nat → Int32) → Prop} (hb : MB b) (hP : CloM [22, 25] [16, 24] P) {l1 : Int32} {fi : Nat → Int32} {ar : Nat → Nat → Int32} {Q Q' : HS → Prop} {X X' : String → HS → Prop} (hQ : ∀ fi ar, P fi ar → Q (mS b fi ar) → Q' (mS b fi ar)) (hx : P fi ar) : w_X12_go (some b.o) l1 (mS b fi ar) Q X → w_X12_go (some b.o) l1 (mS b fi ar) Q' X' := by
  unfold w_X12_go
  refine q_getI (fun _ => ?_)
  refine n_putI hb (hP.1 _ (by decide)) hx (fun fi1 h1 => ?_)
  refine n_getF hb (by decide) ?_
  refine q_getI (fun _ => ?_)
  refine n_astI hb (by decide) (by decide) (hP.2 _ (by decide)) h1 (fun ar2 h2 => ?_)
  refine q_recv ?_
  refine fr_X12_note hb (hP.mono (by decide) (by decide)) (fun  fi3 ar3 h3 => ?_) h2
  exact hQ _ _ h3
theorem fr_X12_add {b : MT} {P : (Nat → Int32) → (Nat → Nat → Int32) → Prop} (hb : MB b) (hP : CloM [0, 20, 21, 22, 25] [7, 8, 11, 12, 13, 14, 15, 16, 17, 18, 19, 24] P) {l1 : Int32} {l2 : Int32} {fi : Nat → Int32} {ar : Nat → Nat → Int32} {Q Q' : Int32 → HS → Prop} {X X' : String → HS → Prop} (hQ : ∀ r fi ar, P fi ar → Q r (mS b fi ar) → Q' r (mS b fi ar)) (hx : P fi ar) : w_X12_add (some b.o) l1 l2 (mS b fi ar) Q X → w_X12_add (some b.o) l1 l2 (mS b fi ar) Q' X' := by
  unfold w_X12_add
  refine n_join1 (b := b) (P := P) (fun _ fi1 ar1 h1 => ?_) (fun _ _ k1 => ?_)
  · skip
    refine q_recv ?_
    refine fr_X12_fails hb (hP.mono (by decide) (by decide)) (fun _ fi2 ar2 h2 => ?_) h1
    refine q_if ?_ ?_
    · skip
      refine n_getF hb (by decide) ?_
      refine q_aldJ (fun _ => ?_)
      refine n_loop (b := b) (P := P) h2 (fun v11 fi3 ar3 _ _ h3 k3 => ?_)
      refine q_if ?_ ?_
      · skip
        refine n_join1 (b := b) (P := P) (fun _ fi4 ar4 h4 => ?_) (fun _ _ k4 => ?_)
        · skip
          refine q_recv ?_
          refine fr_X12_fails hb (hP.mono (by decide) (by decide)) (fun _ fi5 ar5 h5 => ?_) h4
          refine q_if ?_ ?_
          · skip
            refine q_recv ?_
            refine fr_X12_fresh hb (hP.mono (by decide) (by decide)) (fun _ fi6 ar6 h6 => ?_) h5
            refine n_loop (b := b) (P := P) h6 (fun v22 fi7 ar7 _ _ h7 k7 => ?_)
            refine q_if ?_ ?_
            · skip
              refine n_join1 (b := b) (P := P) (fun _ fi8 ar8 h8 => ?_) (fun _ _ k8 => ?_)
              · skip
                refine q_recv ?_
                refine fr_X12_link hb (hP.mono (by decide) (by decide)) (fun  fi9 ar9 h9 => ?_) h8
                refine n_getF hb (by decide) ?_
                refine q_aldJ (fun _ => ?_)
                exact hQ _ _ _ h9
              · skip
                refine q_if ?_ ?_
                · skip
                  exact k8 _ _ _ h7
                · skip
                  refine n_getF hb (by decide) ?_
                  refine q_aldJ (fun _ => ?_)
                  exact k8 _ _ _ h7
            · skip
              refine n_getF hb (by decide) ?_
              refine n_getF hb (by decide) ?_
              refine q_aldJ (fun _ => ?_)
              refine n_join1 (b := b) (P := P) (fun _ fi10 ar10 h10 => ?_) (fun _ _ k10 => ?_)
              · skip
                refine n_astI hb (by decide) (by decide) (hP.2 _ (by decide)) h10 (fun ar11 h11 => ?_)
                exact k7 _ _ _ h11
              · skip
                refine q_if ?_ ?_
                · skip
                  exact k10 _ _ _ h7
                · skip
                  refine n_getF hb (by decide) ?_
                  refine q_aldJ (fun _ => ?_)
                  exact k10 _ _ _ h7
          · skip
            exact hQ _ _ _ h5
        · skip
          refine q_if ?_ ?_
          · skip
            refine q_getI (fun _ => ?_)
            refine q_if ?_ ?_
            · skip
              exact k4 _ _ _ h3
            · skip
              exact k4 _ _ _ h3
          · skip
            exact k4 _ _ _ h3
      · skip
        refine n_loop (b := b) (P := P) h3 (fun v45 fi12 ar12 _ _ h12 k12 => ?_)
        refine n_getF hb (by decide) ?_
        refine q_aldJ (fun _ => ?_)
        refine n_join0 (b := b) (P := P) (fun fi13 ar13 h13 => ?_) (fun _ _ k13 => ?_)
        · skip
          refine n_getF hb (by decide) ?_
          refine q_aldJ (fun _ => ?_)
          exact k3 _ _ _ h13
        · skip
          refine q_if ?_ ?_
          · skip
            exact k13 _ _ h12
          · skip
            refine q_getI (fun _ => ?_)
            refine q_recv ?_
            refine fr_X12_isThere hb (hP.mono (by decide) (by decide)) (fun _ fi14 ar14 h14 => ?_) h12
            refine q_if ?_ ?_
            · skip
              exact k13 _ _ h14
            · skip
              refine n_getF hb (by decide) ?_
              refine q_aldJ (fun _ => ?_)
              refine n_getF hb (by decide) ?_
              refine q_recv ?_
              refine fr_X12_fits hb (hP.mono (by decide) (by decide)) (fun _ fi15 ar15 h15 => ?_) h14
              refine n_join1 (b := b) (P := P) (fun _ fi16 ar16 h16 => ?_) (fun _ _ k16 => ?_)
              · skip
                exact k12 _ _ _ h16
              · skip
                refine q_if ?_ ?_
                · skip
                  exact k16 _ _ _ h15
                · skip
                  exact k16 _ _ _ h15
    · skip
      exact hQ _ _ _ h2
  · skip
    refine n_join0 (b := b) (P := P) (fun fi17 ar17 h17 => ?_) (fun _ _ k17 => ?_)
    · skip
      exact k1 _ _ _ h17
    · skip
      refine q_if ?_ ?_
      · skip
        exact k17 _ _ hx
      · skip
        refine q_if ?_ ?_
        · skip
          refine q_recv ?_
          refine fr_X12_isTable hb (hP.mono (by decide) (by decide)) (fun _ fi18 ar18 h18 => ?_) hx
          refine q_if ?_ ?_
          · skip
            exact k1 _ _ _ h18
          · skip
            exact k1 _ _ _ h18
        · skip
          exact k17 _ _ hx
theorem fr_X12_remove {b : MT} {P : (Nat → Int32) → (Nat → Nat → Int32) → Prop} (hb : MB b) (hP : CloM [0, 22, 25, 38] [16, 24] P) {l1 : Int32} {l2 : Int32} {l3 : Int32} {fi : Nat → Int32} {ar : Nat → Nat → Int32} {Q Q' : Int32 → HS → Prop} {X X' : String → HS → Prop} (hQ : ∀ r fi ar, P fi ar → Q r (mS b fi ar) → Q' r (mS b fi ar)) (hx : P fi ar) : w_X12_remove (some b.o) l1 l2 l3 (mS b fi ar) Q X → w_X12_remove (some b.o) l1 l2 l3 (mS b fi ar) Q' X' := by
  unfold w_X12_remove
  refine q_recv ?_
  refine fr_X12_isMask hb (hP.mono (by decide) (by decide)) (fun _ fi1 ar1 h1 => ?_) hx
  refine n_join1 (b := b) (P := P) (fun _ fi2 ar2 h2 => ?_) (fun _ _ k2 => ?_)
  · skip
    refine q_recv ?_
    refine fr_X12_fails hb (hP.mono (by decide) (by decide)) (fun _ fi3 ar3 h3 => ?_) h2
    refine q_if ?_ ?_
    · skip
      refine n_putI hb (hP.1 _ (by decide)) h3 (fun fi4 h4 => ?_)
      refine n_getF hb (by decide) ?_
      refine q_aldJ (fun _ => ?_)
      refine q_getI (fun _ => ?_)
      refine n_getF hb (by decide) ?_
      refine q_recv ?_
      refine fr_X12_seek hb (hP.mono (by decide) (by decide)) (fun _ fi5 ar5 h5 => ?_) h4
      refine q_if ?_ ?_
      · skip
        refine q_if ?_ ?_
        · skip
          refine q_recv ?_
          refine fr_X12_go hb (hP.mono (by decide) (by decide)) (fun  fi6 ar6 h6 => ?_) h5
          refine n_getF hb (by decide) ?_
          refine q_aldJ (fun _ => ?_)
          exact hQ _ _ _ h6
        · skip
          exact hQ _ _ _ h5
      · skip
        refine n_loop (b := b) (P := P) h5 (fun v22 fi7 ar7 _ _ h7 k7 => ?_)
        refine q_if ?_ ?_
        · skip
          exact hQ _ _ _ h7
        · skip
          refine q_recv ?_
          refine fr_X12_go hb (hP.mono (by decide) (by decide)) (fun  fi8 ar8 h8 => ?_) h7
          refine n_getF hb (by decide) ?_
          refine q_aldJ (fun _ => ?_)
          refine q_getI (fun _ => ?_)
          refine n_getF hb (by decide) ?_
          refine q_recv ?_
          refine fr_X12_seek hb (hP.mono (by decide) (by decide)) (fun _ fi9 ar9 h9 => ?_) h8
          exact k7 _ _ _ h9
    · skip
      exact hQ _ _ _ h3
  · skip
    refine n_join0 (b := b) (P := P) (fun fi10 ar10 h10 => ?_) (fun _ _ k10 => ?_)
    · skip
      exact k2 _ _ _ h10
    · skip
      refine q_if ?_ ?_
      · skip
        exact k10 _ _ h1
      · skip
        refine q_if ?_ ?_
        · skip
          exact k10 _ _ h1
        · skip
          refine q_if ?_ ?_
          · skip
            refine q_recv ?_
            refine fr_X12_isTable hb (hP.mono (by decide) (by decide)) (fun _ fi11 ar11 h11 => ?_) h1
            refine q_if ?_ ?_
            · skip
              exact k2 _ _ _ h11
            · skip
              exact k2 _ _ _ h11
          · skip
            exact k10 _ _ h1
theorem fr_X12_find {b : MT} {P : (Nat → Int32) → (Nat → Nat → Int32) → Prop} (hb : MB b) (hP : CloM [0, 38] [] P) {l1 : Int32} {l2 : Int32} {l3 : Int32} {fi : Nat → Int32} {ar : Nat → Nat → Int32} {Q Q' : Int32 → HS → Prop} {X X' : String → HS → Prop} (hQ : ∀ r fi ar, P fi ar → Q r (mS b fi ar) → Q' r (mS b fi ar)) (hx : P fi ar) : w_X12_find (some b.o) l1 l2 l3 (mS b fi ar) Q X → w_X12_find (some b.o) l1 l2 l3 (mS b fi ar) Q' X' := by
  unfold w_X12_find
  refine q_recv ?_
  refine fr_X12_isMask hb (hP.mono (by decide) (by decide)) (fun _ fi1 ar1 h1 => ?_) hx
  refine n_join1 (b := b) (P := P) (fun _ fi2 ar2 h2 => ?_) (fun _ _ k2 => ?_)
  · skip
    refine q_recv ?_
    refine fr_X12_fails hb (hP.mono (by decide) (by decide)) (fun _ fi3 ar3 h3 => ?_) h2
    refine q_if ?_ ?_
    · skip
      refine n_putI hb (hP.1 _ (by decide)) h3 (fun fi4 h4 => ?_)
      refine n_getF hb (by decide) ?_
      refine q_aldJ (fun _ => ?_)
      refine q_recv ?_
      refine fr_X12_timeOf hb (hP.mono (by decide) (by decide)) (fun _ fi5 ar5 h5 => ?_) h4
      refine n_getF hb (by decide) ?_
      refine q_recv ?_
      refine fr_X12_seek hb (hP.mono (by decide) (by decide)) (fun _ fi6 ar6 h6 => ?_) h5
      refine n_join1 (b := b) (P := P) (fun _ fi7 ar7 h7 => ?_) (fun _ _ k7 => ?_)
      · skip
        exact hQ _ _ _ h7
      · skip
        refine q_if ?_ ?_
        · skip
          refine n_getF hb (by decide) ?_
          refine q_aldJ (fun _ => ?_)
          exact k7 _ _ _ h6
        · skip
          exact k7 _ _ _ h6
    · skip
      exact hQ _ _ _ h3
  · skip
    refine n_join0 (b := b) (P := P) (fun fi8 ar8 h8 => ?_) (fun _ _ k8 => ?_)
    · skip
      exact k2 _ _ _ h8
    · skip
      refine q_if ?_ ?_
      · skip
        exact k8 _ _ h1
      · skip
        refine q_recv ?_
        refine fr_X12_isTime hb (hP.mono (by decide) (by decide)) (fun _ fi9 ar9 h9 => ?_) h1
        refine q_if ?_ ?_
        · skip
          exact k8 _ _ h9
        · skip
          refine q_recv ?_
          refine fr_X12_isTable hb (hP.mono (by decide) (by decide)) (fun _ fi10 ar10 h10 => ?_) h9
          refine q_if ?_ ?_
          · skip
            exact k2 _ _ _ h10
          · skip
            exact k2 _ _ _ h10
theorem fr_X12_many {b : MT} {P : (Nat → Int32) → (Nat → Nat → Int32) → Prop} (hb : MB b) (hP : CloM [0, 38] [] P) {l1 : Int32} {l2 : Int32} {l3 : Int32} {fi : Nat → Int32} {ar : Nat → Nat → Int32} {Q Q' : Int32 → HS → Prop} {X X' : String → HS → Prop} (hQ : ∀ r fi ar, P fi ar → Q r (mS b fi ar) → Q' r (mS b fi ar)) (hx : P fi ar) : w_X12_many (some b.o) l1 l2 l3 (mS b fi ar) Q X → w_X12_many (some b.o) l1 l2 l3 (mS b fi ar) Q' X' := by
  unfold w_X12_many
  refine q_recv ?_
  refine fr_X12_isMask hb (hP.mono (by decide) (by decide)) (fun _ fi1 ar1 h1 => ?_) hx
  refine n_join1 (b := b) (P := P) (fun _ fi2 ar2 h2 => ?_) (fun _ _ k2 => ?_)
  · skip
    refine q_recv ?_
    refine fr_X12_fails hb (hP.mono (by decide) (by decide)) (fun _ fi3 ar3 h3 => ?_) h2
    refine q_if ?_ ?_
    · skip
      refine n_putI hb (hP.1 _ (by decide)) h3 (fun fi4 h4 => ?_)
      refine n_getF hb (by decide) ?_
      refine q_aldJ (fun _ => ?_)
      refine q_recv ?_
      refine fr_X12_timeOf hb (hP.mono (by decide) (by decide)) (fun _ fi5 ar5 h5 => ?_) h4
      refine n_getF hb (by decide) ?_
      refine q_recv ?_
      refine fr_X12_seek hb (hP.mono (by decide) (by decide)) (fun _ fi6 ar6 h6 => ?_) h5
      refine n_loop (b := b) (P := P) h6 (fun v19 fi7 ar7 _ _ h7 k7 => ?_)
      refine q_if ?_ ?_
      · skip
        exact hQ _ _ _ h7
      · skip
        refine n_getF hb (by decide) ?_
        refine q_aldJ (fun _ => ?_)
        refine q_recv ?_
        refine fr_X12_timeOf hb (hP.mono (by decide) (by decide)) (fun _ fi8 ar8 h8 => ?_) h7
        refine n_getF hb (by decide) ?_
        refine q_recv ?_
        refine fr_X12_seek hb (hP.mono (by decide) (by decide)) (fun _ fi9 ar9 h9 => ?_) h8
        exact k7 _ _ _ h9
    · skip
      exact hQ _ _ _ h3
  · skip
    refine n_join0 (b := b) (P := P) (fun fi10 ar10 h10 => ?_) (fun _ _ k10 => ?_)
    · skip
      exact k2 _ _ _ h10
    · skip
      refine q_if ?_ ?_
      · skip
        exact k10 _ _ h1
      · skip
        refine q_recv ?_
        refine fr_X12_isTime hb (hP.mono (by decide) (by decide)) (fun _ fi11 ar11 h11 => ?_) h1
        refine q_if ?_ ?_
        · skip
          exact k10 _ _ h11
        · skip
          refine q_recv ?_
          refine fr_X12_isTable hb (hP.mono (by decide) (by decide)) (fun _ fi12 ar12 h12 => ?_) h11
          refine q_if ?_ ?_
          · skip
            exact k2 _ _ _ h12
          · skip
            exact k2 _ _ _ h12
theorem fr_X12_open {b : MT} {P : (Nat → Int32) → (Nat → Nat → Int32) → Prop} (hb : MB b) (hP : CloM [0] [28, 29, 30, 31, 32, 33, 34, 35] P) {l1 : Int32} {l2 : Int32} {l3 : Int32} {fi : Nat → Int32} {ar : Nat → Nat → Int32} {Q Q' : Int32 → HS → Prop} {X X' : String → HS → Prop} (hQ : ∀ r fi ar, P fi ar → Q r (mS b fi ar) → Q' r (mS b fi ar)) (hx : P fi ar) : w_X12_open (some b.o) l1 l2 l3 (mS b fi ar) Q X → w_X12_open (some b.o) l1 l2 l3 (mS b fi ar) Q' X' := by
  unfold w_X12_open
  refine n_loop (b := b) (P := P) hx (fun v4 fi1 ar1 _ _ h1 k1 => ?_)
  refine n_join0 (b := b) (P := P) (fun fi2 ar2 h2 => ?_) (fun _ _ k2 => ?_)
  · skip
    refine q_recv ?_
    refine fr_X12_isMask hb (hP.mono (by decide) (by decide)) (fun _ fi3 ar3 h3 => ?_) h2
    refine n_join1 (b := b) (P := P) (fun _ fi4 ar4 h4 => ?_) (fun _ _ k4 => ?_)
    · skip
      refine q_recv ?_
      refine fr_X12_fails hb (hP.mono (by decide) (by decide)) (fun _ fi5 ar5 h5 => ?_) h4
      refine q_if ?_ ?_
      · skip
        refine n_getF hb (by decide) ?_
        refine n_astZ hb (by decide) (by decide) (hP.2 _ (by decide)) h5 (fun ar6 h6 => ?_)
        refine n_getF hb (by decide) ?_
        refine n_astZ hb (by decide) (by decide) (hP.2 _ (by decide)) h6 (fun ar7 h7 => ?_)
        refine n_getF hb (by decide) ?_
        refine n_astI hb (by decide) (by decide) (hP.2 _ (by decide)) h7 (fun ar8 h8 => ?_)
        refine n_getF hb (by decide) ?_
        refine n_astI hb (by decide) (by decide) (hP.2 _ (by decide)) h8 (fun ar9 h9 => ?_)
        refine n_getF hb (by decide) ?_
        refine q_recv ?_
        refine fr_X12_timeOf hb (hP.mono (by decide) (by decide)) (fun _ fi10 ar10 h10 => ?_) h9
        refine n_astI hb (by decide) (by decide) (hP.2 _ (by decide)) h10 (fun ar11 h11 => ?_)
        refine n_getF hb (by decide) ?_
        refine n_astI hb (by decide) (by decide) (hP.2 _ (by decide)) h11 (fun ar12 h12 => ?_)
        refine n_getF hb (by decide) ?_
        refine n_astI hb (by decide) (by decide) (hP.2 _ (by decide)) h12 (fun ar13 h13 => ?_)
        refine n_loop (b := b) (P := P) h13 (fun v33 fi14 ar14 _ _ h14 k14 => ?_)
        refine q_if ?_ ?_
        · skip
          exact hQ _ _ _ h14
        · skip
          refine n_getF hb (by decide) ?_
          refine n_getF hb (by decide) ?_
          refine q_aldJ (fun _ => ?_)
          refine n_astI hb (by decide) (by decide) (hP.2 _ (by decide)) h14 (fun ar15 h15 => ?_)
          exact k14 _ _ _ h15
      · skip
        exact hQ _ _ _ h5
    · skip
      refine n_join0 (b := b) (P := P) (fun fi16 ar16 h16 => ?_) (fun _ _ k16 => ?_)
      · skip
        exact k4 _ _ _ h16
      · skip
        refine q_if ?_ ?_
        · skip
          exact k16 _ _ h3
        · skip
          refine q_recv ?_
          refine fr_X12_isTime hb (hP.mono (by decide) (by decide)) (fun _ fi17 ar17 h17 => ?_) h3
          refine q_if ?_ ?_
          · skip
            exact k16 _ _ h17
          · skip
            refine q_recv ?_
            refine fr_X12_isTable hb (hP.mono (by decide) (by decide)) (fun _ fi18 ar18 h18 => ?_) h17
            refine q_if ?_ ?_
            · skip
              exact k4 _ _ _ h18
            · skip
              refine q_if ?_ ?_
              · skip
                exact k4 _ _ _ h18
              · skip
                exact k4 _ _ _ h18
  · skip
    refine q_if ?_ ?_
    · skip
      exact k2 _ _ h1
    · skip
      refine n_getF hb (by decide) ?_
      refine q_aldJ (fun _ => ?_)
      refine q_if ?_ ?_
      · skip
        exact k2 _ _ h1
      · skip
        exact k1 _ _ _ h1
theorem fr_X12_wrongCursor {b : MT} {P : (Nat → Int32) → (Nat → Nat → Int32) → Prop} (hb : MB b) (hP : CloM [] [] P) {l1 : Int32} {fi : Nat → Int32} {ar : Nat → Nat → Int32} {Q Q' : Int32 → HS → Prop} {X X' : String → HS → Prop} (hQ : ∀ r fi ar, P fi ar → Q r (mS b fi ar) → Q' r (mS b fi ar)) (hx : P fi ar) : w_X12_wrongCursor (some b.o) l1 (mS b fi ar) Q X → w_X12_wrongCursor (some b.o) l1 (mS b fi ar) Q' X' := by
  unfold w_X12_wrongCursor
  refine n_join1 (b := b) (P := P) (fun _ fi1 ar1 h1 => ?_) (fun _ _ k1 => ?_)
  · skip
    exact hQ _ _ _ h1
  · skip
    refine n_join0 (b := b) (P := P) (fun fi2 ar2 h2 => ?_) (fun _ _ k2 => ?_)
    · skip
      exact k1 _ _ _ h2
    · skip
      refine q_if ?_ ?_
      · skip
        exact k2 _ _ hx
      · skip
        refine q_if ?_ ?_
        · skip
          refine n_getF hb (by decide) ?_
          refine q_aldJ (fun _ => ?_)
          refine q_if ?_ ?_
          · skip
            exact k1 _ _ _ hx
          · skip
            exact k1 _ _ _ hx
        · skip
          exact k2 _ _ hx
theorem fr_X12_next {b : MT} {P : (Nat → Int32) → (Nat → Nat → Int32) → Prop} (hb : MB b) (hP : CloM [0, 38] [29, 33, 34] P) {l1 : Int32} {fi : Nat → Int32} {ar : Nat → Nat → Int32} {Q Q' : Int32 → HS → Prop} {X X' : String → HS → Prop} (hQ : ∀ r fi ar, P fi ar → Q r (mS b fi ar) → Q' r (mS b fi ar)) (hx : P fi ar) : w_X12_next (some b.o) l1 (mS b fi ar) Q X → w_X12_next (some b.o) l1 (mS b fi ar) Q' X' := by
  unfold w_X12_next
  refine q_recv ?_
  refine fr_X12_wrongCursor hb (hP.mono (by decide) (by decide)) (fun _ fi1 ar1 h1 => ?_) hx
  refine q_recv ?_
  refine fr_X12_fails hb (hP.mono (by decide) (by decide)) (fun _ fi2 ar2 h2 => ?_) h1
  refine q_if ?_ ?_
  · skip
    refine n_putI hb (hP.1 _ (by decide)) h2 (fun fi3 h3 => ?_)
    refine n_getF hb (by decide) ?_
    refine q_aldJ (fun _ => ?_)
    refine q_if ?_ ?_
    · skip
      refine n_getF hb (by decide) ?_
      refine q_aldJ (fun _ => ?_)
      refine n_getF hb (by decide) ?_
      refine q_aldJ (fun _ => ?_)
      refine n_join1 (b := b) (P := P) (fun _ fi4 ar4 h4 => ?_) (fun _ _ k4 => ?_)
      · skip
        refine n_getF hb (by decide) ?_
        refine q_aldJ (fun _ => ?_)
        refine n_getF hb (by decide) ?_
        refine q_aldJ (fun _ => ?_)
        refine n_getF hb (by decide) ?_
        refine q_recv ?_
        refine fr_X12_seek hb (hP.mono (by decide) (by decide)) (fun _ fi5 ar5 h5 => ?_) h4
        refine q_if ?_ ?_
        · skip
          refine n_getF hb (by decide) ?_
          refine n_astI hb (by decide) (by decide) (hP.2 _ (by decide)) h5 (fun ar6 h6 => ?_)
          refine n_getF hb (by decide) ?_
          refine q_aldJ (fun _ => ?_)
          refine n_astI hb (by decide) (by decide) (hP.2 _ (by decide)) h6 (fun ar7 h7 => ?_)
          refine n_getF hb (by decide) ?_
          refine q_aldJ (fun _ => ?_)
          exact hQ _ _ _ h7
        · skip
          refine n_getF hb (by decide) ?_
          refine n_astZ hb (by decide) (by decide) (hP.2 _ (by decide)) h5 (fun ar8 h8 => ?_)
          exact hQ _ _ _ h8
      · skip
        refine q_if ?_ ?_
        · skip
          refine n_getF hb (by decide) ?_
          refine n_getF hb (by decide) ?_
          refine q_aldJ (fun _ => ?_)
          refine q_aldJ (fun _ => ?_)
          exact k4 _ _ _ h3
        · skip
          refine n_getF hb (by decide) ?_
          refine q_aldJ (fun _ => ?_)
          exact k4 _ _ _ h3
    · skip
      exact hQ _ _ _ h3
  · skip
    exact hQ _ _ _ h2
theorem fr_X12_close {b : MT} {P : (Nat → Int32) → (Nat → Nat → Int32) → Prop} (hb : MB b) (hP : CloM [0] [28] P) {l1 : Int32} {fi : Nat → Int32} {ar : Nat → Nat → Int32} {Q Q' : Int32 → HS → Prop} {X X' : String → HS → Prop} (hQ : ∀ r fi ar, P fi ar → Q r (mS b fi ar) → Q' r (mS b fi ar)) (hx : P fi ar) : w_X12_close (some b.o) l1 (mS b fi ar) Q X → w_X12_close (some b.o) l1 (mS b fi ar) Q' X' := by
  unfold w_X12_close
  refine q_recv ?_
  refine fr_X12_wrongCursor hb (hP.mono (by decide) (by decide)) (fun _ fi1 ar1 h1 => ?_) hx
  refine q_recv ?_
  refine fr_X12_fails hb (hP.mono (by decide) (by decide)) (fun _ fi2 ar2 h2 => ?_) h1
  refine q_if ?_ ?_
  · skip
    refine n_getF hb (by decide) ?_
    refine n_astZ hb (by decide) (by decide) (hP.2 _ (by decide)) h2 (fun ar3 h3 => ?_)
    refine n_getF hb (by decide) ?_
    refine q_aldJ (fun _ => ?_)
    exact hQ _ _ _ h3
  · skip
    exact hQ _ _ _ h2
theorem fr_X12_byNumber {b : MT} {P : (Nat → Int32) → (Nat → Nat → Int32) → Prop} (hb : MB b) (hP : CloM [] [] P) {l1 : Int32} {fi : Nat → Int32} {ar : Nat → Nat → Int32} {Q Q' : Int32 → HS → Prop} {X X' : String → HS → Prop} (hQ : ∀ r fi ar, P fi ar → Q r (mS b fi ar) → Q' r (mS b fi ar)) (hx : P fi ar) : w_X12_byNumber (some b.o) l1 (mS b fi ar) Q X → w_X12_byNumber (some b.o) l1 (mS b fi ar) Q' X' := by
  unfold w_X12_byNumber
  refine n_loop (b := b) (P := P) hx (fun v4 fi1 ar1 _ _ h1 k1 => ?_)
  refine q_if ?_ ?_
  · skip
    exact hQ _ _ _ h1
  · skip
    refine n_getF hb (by decide) ?_
    refine q_aldJ (fun _ => ?_)
    refine n_join0 (b := b) (P := P) (fun fi2 ar2 h2 => ?_) (fun _ _ k2 => ?_)
    · skip
      exact k1 _ _ _ h2
    · skip
      refine q_if ?_ ?_
      · skip
        exact k2 _ _ h1
      · skip
        refine n_getF hb (by decide) ?_
        refine q_aldJ (fun _ => ?_)
        refine q_if ?_ ?_
        · skip
          exact hQ _ _ _ h1
        · skip
          exact k2 _ _ h1
theorem fr_X12_ahead {b : MT} {P : (Nat → Int32) → (Nat → Nat → Int32) → Prop} (hb : MB b) (hP : CloM [] [] P) {l1 : Int32} {fi : Nat → Int32} {ar : Nat → Nat → Int32} {Q Q' : Int32 → HS → Prop} {X X' : String → HS → Prop} (hQ : ∀ r fi ar, P fi ar → Q r (mS b fi ar) → Q' r (mS b fi ar)) (hx : P fi ar) : w_X12_ahead (some b.o) l1 (mS b fi ar) Q X → w_X12_ahead (some b.o) l1 (mS b fi ar) Q' X' := by
  unfold w_X12_ahead
  refine n_getF hb (by decide) ?_
  refine q_aldJ (fun _ => ?_)
  refine n_loop (b := b) (P := P) hx (fun v6 fi1 ar1 _ _ h1 k1 => ?_)
  refine q_if ?_ ?_
  · skip
    exact hQ _ _ _ h1
  · skip
    refine n_getF hb (by decide) ?_
    refine q_aldJ (fun _ => ?_)
    exact k1 _ _ _ h1
theorem fr_X12_fact {b : MT} {P : (Nat → Int32) → (Nat → Nat → Int32) → Prop} (hb : MB b) (hP : CloM [0] [] P) {l1 : Int32} {l2 : Int32} {fi : Nat → Int32} {ar : Nat → Nat → Int32} {Q Q' : Int32 → HS → Prop} {X X' : String → HS → Prop} (hQ : ∀ r fi ar, P fi ar → Q r (mS b fi ar) → Q' r (mS b fi ar)) (hx : P fi ar) : w_X12_fact (some b.o) l1 l2 (mS b fi ar) Q X → w_X12_fact (some b.o) l1 l2 (mS b fi ar) Q' X' := by
  unfold w_X12_fact
  refine n_join1 (b := b) (P := P) (fun _ fi1 ar1 h1 => ?_) (fun _ _ k1 => ?_)
  · skip
    refine q_recv ?_
    refine fr_X12_fails hb (hP.mono (by decide) (by decide)) (fun _ fi2 ar2 h2 => ?_) h1
    refine q_if ?_ ?_
    · skip
      refine q_recv ?_
      refine fr_X12_byNumber hb (hP.mono (by decide) (by decide)) (fun _ fi3 ar3 h3 => ?_) h2
      refine q_if ?_ ?_
      · skip
        refine n_getF hb (by decide) ?_
        refine q_aldJ (fun _ => ?_)
        exact hQ _ _ _ h3
      · skip
        refine q_if ?_ ?_
        · skip
          refine n_getF hb (by decide) ?_
          refine q_aldJ (fun _ => ?_)
          exact hQ _ _ _ h3
        · skip
          refine q_if ?_ ?_
          · skip
            refine n_getF hb (by decide) ?_
            refine q_aldJ (fun _ => ?_)
            exact hQ _ _ _ h3
          · skip
            refine q_if ?_ ?_
            · skip
              refine q_recv ?_
              refine fr_X12_ahead hb (hP.mono (by decide) (by decide)) (fun _ fi4 ar4 h4 => ?_) h3
              exact hQ _ _ _ h4
            · skip
              refine n_getF hb (by decide) ?_
              refine q_aldJ (fun _ => ?_)
              exact hQ _ _ _ h3
    · skip
      exact hQ _ _ _ h2
  · skip
    refine n_join0 (b := b) (P := P) (fun fi5 ar5 h5 => ?_) (fun _ _ k5 => ?_)
    · skip
      exact k1 _ _ _ h5
    · skip
      refine q_if ?_ ?_
      · skip
        exact k5 _ _ hx
      · skip
        refine q_if ?_ ?_
        · skip
          refine q_recv ?_
          refine fr_X12_byNumber hb (hP.mono (by decide) (by decide)) (fun _ fi6 ar6 h6 => ?_) hx
          refine q_if ?_ ?_
          · skip
            exact k1 _ _ _ h6
          · skip
            exact k1 _ _ _ h6
        · skip
          exact k5 _ _ hx
theorem fr_X12_mark {b : MT} {P : (Nat → Int32) → (Nat → Nat → Int32) → Prop} (hb : MB b) (hP : CloM [0, 25, 27] [26] P) {fi : Nat → Int32} {ar : Nat → Nat → Int32} {Q Q' : Int32 → HS → Prop} {X X' : String → HS → Prop} (hQ : ∀ r fi ar, P fi ar → Q r (mS b fi ar) → Q' r (mS b fi ar)) (hx : P fi ar) : w_X12_mark (some b.o) (mS b fi ar) Q X → w_X12_mark (some b.o) (mS b fi ar) Q' X' := by
  unfold w_X12_mark
  refine q_getI (fun _ => ?_)
  refine n_join1 (b := b) (P := P) (fun _ fi1 ar1 h1 => ?_) (fun _ _ k1 => ?_)
  · skip
    refine q_recv ?_
    refine fr_X12_fails hb (hP.mono (by decide) (by decide)) (fun _ fi2 ar2 h2 => ?_) h1
    refine q_if ?_ ?_
    · skip
      refine q_getI (fun _ => ?_)
      refine n_join0 (b := b) (P := P) (fun fi3 ar3 h3 => ?_) (fun _ _ k3 => ?_)
      · skip
        refine n_getF hb (by decide) ?_
        refine q_getI (fun _ => ?_)
        refine q_getI (fun _ => ?_)
        refine n_astI hb (by decide) (by decide) (hP.2 _ (by decide)) h3 (fun ar4 h4 => ?_)
        refine q_getI (fun _ => ?_)
        refine n_putI hb (hP.1 _ (by decide)) h4 (fun fi5 h5 => ?_)
        refine q_getI (fun _ => ?_)
        exact hQ _ _ _ h5
      · skip
        refine q_if ?_ ?_
        · skip
          refine n_putI hb (hP.1 _ (by decide)) h2 (fun fi6 h6 => ?_)
          exact k3 _ _ h6
        · skip
          exact k3 _ _ h2
    · skip
      exact hQ _ _ _ h2
  · skip
    refine q_if ?_ ?_
    · skip
      exact k1 _ _ _ hx
    · skip
      exact k1 _ _ _ hx
theorem fr_X12_turn {b : MT} {P : (Nat → Int32) → (Nat → Nat → Int32) → Prop} (hb : MB b) (hP : CloM [20, 21, 22, 25] [7, 8, 11, 12, 13, 14, 15, 16, 17, 18, 19, 24] P) {l1 : Int32} {fi : Nat → Int32} {ar : Nat → Nat → Int32} {Q Q' : HS → Prop} {X X' : String → HS → Prop} (hQ : ∀ fi ar, P fi ar → Q (mS b fi ar) → Q' (mS b fi ar)) (hx : P fi ar) : w_X12_turn (some b.o) l1 (mS b fi ar) Q X → w_X12_turn (some b.o) l1 (mS b fi ar) Q' X' := by
  unfold w_X12_turn
  refine q_if ?_ ?_
  · skip
    refine n_getF hb (by decide) ?_
    refine q_aldJ (fun _ => ?_)
    refine q_recv ?_
    refine fr_X12_fresh hb (hP.mono (by decide) (by decide)) (fun _ fi1 ar1 h1 => ?_) hx
    refine n_loop (b := b) (P := P) h1 (fun v8 fi2 ar2 _ _ h2 k2 => ?_)
    refine q_if ?_ ?_
    · skip
      refine q_recv ?_
      refine fr_X12_link hb (hP.mono (by decide) (by decide)) (fun  fi3 ar3 h3 => ?_) h2
      refine n_getF hb (by decide) ?_
      refine n_astI hb (by decide) (by decide) (hP.2 _ (by decide)) h3 (fun ar4 h4 => ?_)
      exact hQ _ _ h4
    · skip
      refine n_getF hb (by decide) ?_
      refine n_getF hb (by decide) ?_
      refine q_aldJ (fun _ => ?_)
      refine n_astI hb (by decide) (by decide) (hP.2 _ (by decide)) h2 (fun ar5 h5 => ?_)
      exact k2 _ _ _ h5
  · skip
    refine n_loop (b := b) (P := P) hx (fun v20 fi6 ar6 _ _ h6 k6 => ?_)
    refine n_getF hb (by decide) ?_
    refine q_aldJ (fun _ => ?_)
    refine q_if ?_ ?_
    · skip
      refine q_recv ?_
      refine fr_X12_go hb (hP.mono (by decide) (by decide)) (fun  fi7 ar7 h7 => ?_) h6
      exact hQ _ _ h7
    · skip
      refine n_getF hb (by decide) ?_
      refine q_aldJ (fun _ => ?_)
      exact k6 _ _ _ h6
theorem fr_X12_back {b : MT} {P : (Nat → Int32) → (Nat → Nat → Int32) → Prop} (hb : MB b) (hP : CloM [0, 20, 21, 22, 25, 27] [7, 8, 11, 12, 13, 14, 15, 16, 17, 18, 19, 24] P) {l1 : Int32} {fi : Nat → Int32} {ar : Nat → Nat → Int32} {Q Q' : Int32 → HS → Prop} {X X' : String → HS → Prop} (hQ : ∀ r fi ar, P fi ar → Q r (mS b fi ar) → Q' r (mS b fi ar)) (hx : P fi ar) : w_X12_back (some b.o) l1 (mS b fi ar) Q X → w_X12_back (some b.o) l1 (mS b fi ar) Q' X' := by
  unfold w_X12_back
  refine q_getI (fun _ => ?_)
  refine n_join1 (b := b) (P := P) (fun _ fi1 ar1 h1 => ?_) (fun _ _ k1 => ?_)
  · skip
    refine q_recv ?_
    refine fr_X12_fails hb (hP.mono (by decide) (by decide)) (fun _ fi2 ar2 h2 => ?_) h1
    refine q_if ?_ ?_
    · skip
      refine n_getF hb (by decide) ?_
      refine q_getI (fun _ => ?_)
      refine q_aldJ (fun _ => ?_)
      refine q_getI (fun _ => ?_)
      refine n_loop (b := b) (P := P) h2 (fun v14 fi3 ar3 _ _ h3 k3 => ?_)
      refine q_if ?_ ?_
      · skip
        refine n_join1 (b := b) (P := P) (fun _ fi4 ar4 h4 => ?_) (fun _ _ k4 => ?_)
        · skip
          refine q_recv ?_
          refine fr_X12_fails hb (hP.mono (by decide) (by decide)) (fun _ fi5 ar5 h5 => ?_) h4
          refine q_if ?_ ?_
          · skip
            refine q_getI (fun _ => ?_)
            refine n_putI hb (hP.1 _ (by decide)) h5 (fun fi6 h6 => ?_)
            refine q_if ?_ ?_
            · skip
              exact hQ _ _ _ h6
            · skip
              refine n_loop (b := b) (P := P) h6 (fun v25 fi7 ar7 _ _ h7 k7 => ?_)
              refine q_if ?_ ?_
              · skip
                exact hQ _ _ _ h7
              · skip
                refine n_getF hb (by decide) ?_
                refine q_aldJ (fun _ => ?_)
                refine q_recv ?_
                refine fr_X12_turn hb (hP.mono (by decide) (by decide)) (fun  fi8 ar8 h8 => ?_) h7
                exact k7 _ _ _ h8
          · skip
            exact hQ _ _ _ h5
        · skip
          refine n_join0 (b := b) (P := P) (fun fi9 ar9 h9 => ?_) (fun _ _ k9 => ?_)
          · skip
            exact k4 _ _ _ h9
          · skip
            refine q_if ?_ ?_
            · skip
              exact k9 _ _ h3
            · skip
              refine q_getI (fun _ => ?_)
              refine q_if ?_ ?_
              · skip
                exact k9 _ _ h3
              · skip
                exact k4 _ _ _ h3
      · skip
        refine n_getF hb (by decide) ?_
        refine q_aldJ (fun _ => ?_)
        refine n_join1 (b := b) (P := P) (fun _ fi10 ar10 h10 => ?_) (fun _ _ k10 => ?_)
        · skip
          exact k3 _ _ _ h10
        · skip
          refine q_if ?_ ?_
          · skip
            exact k10 _ _ _ h3
          · skip
            exact k10 _ _ _ h3
    · skip
      exact hQ _ _ _ h2
  · skip
    refine q_if ?_ ?_
    · skip
      exact k1 _ _ _ hx
    · skip
      exact k1 _ _ _ hx
theorem fr_X12_purge {b : MT} {P : (Nat → Int32) → (Nat → Nat → Int32) → Prop} (hb : MB b) (hP : CloM [0, 20, 23] [7, 8, 11, 17, 18] P) {l1 : Int32} {fi : Nat → Int32} {ar : Nat → Nat → Int32} {Q Q' : Int32 → HS → Prop} {X X' : String → HS → Prop} (hQ : ∀ r fi ar, P fi ar → Q r (mS b fi ar) → Q' r (mS b fi ar)) (hx : P fi ar) : w_X12_purge (some b.o) l1 (mS b fi ar) Q X → w_X12_purge (some b.o) l1 (mS b fi ar) Q' X' := by
  unfold w_X12_purge
  refine q_getI (fun _ => ?_)
  refine n_join1 (b := b) (P := P) (fun _ fi1 ar1 h1 => ?_) (fun _ _ k1 => ?_)
  · skip
    refine n_loop (b := b) (P := P) h1 (fun v8 fi2 ar2 _ _ h2 k2 => ?_)
    refine q_if ?_ ?_
    · skip
      refine q_recv ?_
      refine fr_X12_isTime hb (hP.mono (by decide) (by decide)) (fun _ fi3 ar3 h3 => ?_) h2
      refine n_join1 (b := b) (P := P) (fun _ fi4 ar4 h4 => ?_) (fun _ _ k4 => ?_)
      · skip
        refine q_recv ?_
        refine fr_X12_fails hb (hP.mono (by decide) (by decide)) (fun _ fi5 ar5 h5 => ?_) h4
        refine q_if ?_ ?_
        · skip
          refine q_recv ?_
          refine fr_X12_timeOf hb (hP.mono (by decide) (by decide)) (fun _ fi6 ar6 h6 => ?_) h5
          refine q_getI (fun _ => ?_)
          refine n_join0 (b := b) (P := P) (fun fi7 ar7 h7 => ?_) (fun _ _ k7 => ?_)
          · skip
            refine n_loop (b := b) (P := P) h7 (fun v24 fi8 ar8 _ _ h8 k8 => ?_)
            refine q_if ?_ ?_
            · skip
              exact hQ _ _ _ h8
            · skip
              refine n_getF hb (by decide) ?_
              refine q_aldJ (fun _ => ?_)
              refine n_join1 (b := b) (P := P) (fun _ fi9 ar9 h9 => ?_) (fun _ _ k9 => ?_)
              · skip
                exact k8 _ _ _ h9
              · skip
                refine q_if ?_ ?_
                · skip
                  exact k9 _ _ _ h8
                · skip
                  refine n_getF hb (by decide) ?_
                  refine q_aldJ (fun _ => ?_)
                  refine q_if ?_ ?_
                  · skip
                    exact k9 _ _ _ h8
                  · skip
                    refine n_getF hb (by decide) ?_
                    refine q_aldJ (fun _ => ?_)
                    refine q_if ?_ ?_
                    · skip
                      refine n_getF hb (by decide) ?_
                      refine q_aldJ (fun _ => ?_)
                      refine n_join0 (b := b) (P := P) (fun fi10 ar10 h10 => ?_) (fun _ _ k10 => ?_)
                      · skip
                        refine n_getF hb (by decide) ?_
                        refine q_aldJ (fun _ => ?_)
                        refine n_join0 (b := b) (P := P) (fun fi11 ar11 h11 => ?_) (fun _ _ k11 => ?_)
                        · skip
                          refine n_getF hb (by decide) ?_
                          refine n_astZ hb (by decide) (by decide) (hP.2 _ (by decide)) h11 (fun ar12 h12 => ?_)
                          refine q_getI (fun _ => ?_)
                          refine n_putI hb (hP.1 _ (by decide)) h12 (fun fi13 h13 => ?_)
                          exact k9 _ _ _ h13
                        · skip
                          refine q_if ?_ ?_
                          · skip
                            refine n_getF hb (by decide) ?_
                            refine n_getF hb (by decide) ?_
                            refine q_aldJ (fun _ => ?_)
                            refine n_getF hb (by decide) ?_
                            refine q_aldJ (fun _ => ?_)
                            refine n_astI hb (by decide) (by decide) (hP.2 _ (by decide)) h10 (fun ar14 h14 => ?_)
                            exact k11 _ _ h14
                          · skip
                            refine n_getF hb (by decide) ?_
                            refine n_getF hb (by decide) ?_
                            refine q_aldJ (fun _ => ?_)
                            refine n_getF hb (by decide) ?_
                            refine q_aldJ (fun _ => ?_)
                            refine n_astI hb (by decide) (by decide) (hP.2 _ (by decide)) h10 (fun ar15 h15 => ?_)
                            exact k11 _ _ h15
                      · skip
                        refine q_if ?_ ?_
                        · skip
                          refine n_getF hb (by decide) ?_
                          refine n_getF hb (by decide) ?_
                          refine q_aldJ (fun _ => ?_)
                          refine n_getF hb (by decide) ?_
                          refine q_aldJ (fun _ => ?_)
                          refine n_astI hb (by decide) (by decide) (hP.2 _ (by decide)) h8 (fun ar16 h16 => ?_)
                          exact k10 _ _ h16
                        · skip
                          refine n_getF hb (by decide) ?_
                          refine n_getF hb (by decide) ?_
                          refine q_aldJ (fun _ => ?_)
                          refine n_getF hb (by decide) ?_
                          refine q_aldJ (fun _ => ?_)
                          refine n_astI hb (by decide) (by decide) (hP.2 _ (by decide)) h8 (fun ar17 h17 => ?_)
                          exact k10 _ _ h17
                    · skip
                      exact k9 _ _ _ h8
          · skip
            refine q_if ?_ ?_
            · skip
              exact k7 _ _ h6
            · skip
              refine n_putI hb (hP.1 _ (by decide)) h6 (fun fi18 h18 => ?_)
              exact k7 _ _ h18
        · skip
          exact hQ _ _ _ h5
      · skip
        refine q_if ?_ ?_
        · skip
          exact k4 _ _ _ h3
        · skip
          refine q_if ?_ ?_
          · skip
            exact k4 _ _ _ h3
          · skip
            exact k4 _ _ _ h3
    · skip
      refine n_getF hb (by decide) ?_
      refine q_aldJ (fun _ => ?_)
      refine n_join1 (b := b) (P := P) (fun _ fi19 ar19 h19 => ?_) (fun _ _ k19 => ?_)
      · skip
        exact k2 _ _ _ h19
      · skip
        refine q_if ?_ ?_
        · skip
          exact k19 _ _ _ h2
        · skip
          exact k19 _ _ _ h2
  · skip
    refine q_if ?_ ?_
    · skip
      exact k1 _ _ _ hx
    · skip
      exact k1 _ _ _ hx
theorem fr_X12_find0 {b : MT} {P : (Nat → Int32) → (Nat → Nat → Int32) → Prop} (hb : MB b) (hP : CloM [37] [36] P) {l1 : Int32} {fi : Nat → Int32} {ar : Nat → Nat → Int32} {Q Q' : HS → Prop} {X X' : String → HS → Prop} (hQ : ∀ fi ar, P fi ar → Q (mS b fi ar) → Q' (mS b fi ar)) (hx : P fi ar) : w_X12_find0 (some b.o) l1 (mS b fi ar) Q X → w_X12_find0 (some b.o) l1 (mS b fi ar) Q' X' := by
  unfold w_X12_find0
  refine n_getF hb (by decide) ?_
  refine q_getI (fun _ => ?_)
  refine n_astI hb (by decide) (by decide) (hP.2 _ (by decide)) hx (fun ar1 h1 => ?_)
  refine q_getI (fun _ => ?_)
  refine n_putI hb (hP.1 _ (by decide)) h1 (fun fi2 h2 => ?_)
  exact hQ _ _ h2
theorem fr_X12_changes {b : MT} {P : (Nat → Int32) → (Nat → Nat → Int32) → Prop} (hb : MB b) (hP : CloM [0, 37] [36] P) {l1 : Int32} {l2 : Int32} {l3 : Int32} {fi : Nat → Int32} {ar : Nat → Nat → Int32} {Q Q' : Int32 → HS → Prop} {X X' : String → HS → Prop} (hQ : ∀ r fi ar, P fi ar → Q r (mS b fi ar) → Q' r (mS b fi ar)) (hx : P fi ar) : w_X12_changes (some b.o) l1 l2 l3 (mS b fi ar) Q X → w_X12_changes (some b.o) l1 l2 l3 (mS b fi ar) Q' X' := by
  unfold w_X12_changes
  refine q_recv ?_
  refine fr_X12_isTime hb (hP.mono (by decide) (by decide)) (fun _ fi1 ar1 h1 => ?_) hx
  refine n_join1 (b := b) (P := P) (fun _ fi2 ar2 h2 => ?_) (fun _ _ k2 => ?_)
  · skip
    refine q_recv ?_
    refine fr_X12_fails hb (hP.mono (by decide) (by decide)) (fun _ fi3 ar3 h3 => ?_) h2
    refine q_if ?_ ?_
    · skip
      refine q_recv ?_
      refine fr_X12_timeOf hb (hP.mono (by decide) (by decide)) (fun _ fi4 ar4 h4 => ?_) h3
      refine q_recv ?_
      refine fr_X12_timeOf hb (hP.mono (by decide) (by decide)) (fun _ fi5 ar5 h5 => ?_) h4
      refine n_putI hb (hP.1 _ (by decide)) h5 (fun fi6 h6 => ?_)
      refine n_getF hb (by decide) ?_
      refine q_aldJ (fun _ => ?_)
      refine n_loop (b := b) (P := P) h6 (fun v18 fi7 ar7 _ _ h7 k7 => ?_)
      refine q_if ?_ ?_
      · skip
        refine n_getF hb (by decide) ?_
        refine q_aldJ (fun _ => ?_)
        refine n_loop (b := b) (P := P) h7 (fun v24 fi8 ar8 _ _ h8 k8 => ?_)
        refine q_if ?_ ?_
        · skip
          refine q_getI (fun _ => ?_)
          exact hQ _ _ _ h8
        · skip
          refine q_recv ?_
          refine fr_X12_isThere hb (hP.mono (by decide) (by decide)) (fun _ fi9 ar9 h9 => ?_) h8
          refine n_join0 (b := b) (P := P) (fun fi10 ar10 h10 => ?_) (fun _ _ k10 => ?_)
          · skip
            refine n_getF hb (by decide) ?_
            refine q_aldJ (fun _ => ?_)
            exact k8 _ _ _ h10
          · skip
            refine q_if ?_ ?_
            · skip
              exact k10 _ _ h9
            · skip
              refine q_recv ?_
              refine fr_X12_isThere hb (hP.mono (by decide) (by decide)) (fun _ fi11 ar11 h11 => ?_) h9
              refine q_if ?_ ?_
              · skip
                refine n_getF hb (by decide) ?_
                refine q_aldJ (fun _ => ?_)
                refine q_recv ?_
                refine fr_X12_find0 hb (hP.mono (by decide) (by decide)) (fun  fi12 ar12 h12 => ?_) h11
                exact k10 _ _ h12
              · skip
                exact k10 _ _ h11
      · skip
        refine q_recv ?_
        refine fr_X12_isThere hb (hP.mono (by decide) (by decide)) (fun _ fi13 ar13 h13 => ?_) h7
        refine n_join0 (b := b) (P := P) (fun fi14 ar14 h14 => ?_) (fun _ _ k14 => ?_)
        · skip
          refine n_getF hb (by decide) ?_
          refine q_aldJ (fun _ => ?_)
          exact k7 _ _ _ h14
        · skip
          refine q_if ?_ ?_
          · skip
            exact k14 _ _ h13
          · skip
            refine q_recv ?_
            refine fr_X12_isThere hb (hP.mono (by decide) (by decide)) (fun _ fi15 ar15 h15 => ?_) h13
            refine q_if ?_ ?_
            · skip
              refine n_getF hb (by decide) ?_
              refine q_aldJ (fun _ => ?_)
              refine q_recv ?_
              refine fr_X12_find0 hb (hP.mono (by decide) (by decide)) (fun  fi16 ar16 h16 => ?_) h15
              exact k14 _ _ h16
            · skip
              exact k14 _ _ h15
    · skip
      exact hQ _ _ _ h3
  · skip
    refine n_join0 (b := b) (P := P) (fun fi17 ar17 h17 => ?_) (fun _ _ k17 => ?_)
    · skip
      exact k2 _ _ _ h17
    · skip
      refine q_if ?_ ?_
      · skip
        exact k17 _ _ h1
      · skip
        refine q_recv ?_
        refine fr_X12_isTime hb (hP.mono (by decide) (by decide)) (fun _ fi18 ar18 h18 => ?_) h1
        refine q_if ?_ ?_
        · skip
          exact k17 _ _ h18
        · skip
          refine q_recv ?_
          refine fr_X12_isTable hb (hP.mono (by decide) (by decide)) (fun _ fi19 ar19 h19 => ?_) h18
          refine q_if ?_ ?_
          · skip
            exact k2 _ _ _ h19
          · skip
            exact k2 _ _ _ h19
theorem fr_X12_found {b : MT} {P : (Nat → Int32) → (Nat → Nat → Int32) → Prop} (hb : MB b) (hP : CloM [0] [] P) {l1 : Int32} {fi : Nat → Int32} {ar : Nat → Nat → Int32} {Q Q' : Int32 → HS → Prop} {X X' : String → HS → Prop} (hQ : ∀ r fi ar, P fi ar → Q r (mS b fi ar) → Q' r (mS b fi ar)) (hx : P fi ar) : w_X12_found (some b.o) l1 (mS b fi ar) Q X → w_X12_found (some b.o) l1 (mS b fi ar) Q' X' := by
  unfold w_X12_found
  refine n_join1 (b := b) (P := P) (fun _ fi1 ar1 h1 => ?_) (fun _ _ k1 => ?_)
  · skip
    refine q_recv ?_
    refine fr_X12_fails hb (hP.mono (by decide) (by decide)) (fun _ fi2 ar2 h2 => ?_) h1
    refine q_if ?_ ?_
    · skip
      refine n_getF hb (by decide) ?_
      refine q_aldJ (fun _ => ?_)
      exact hQ _ _ _ h2
    · skip
      exact hQ _ _ _ h2
  · skip
    refine n_join0 (b := b) (P := P) (fun fi3 ar3 h3 => ?_) (fun _ _ k3 => ?_)
    · skip
      exact k1 _ _ _ h3
    · skip
      refine q_if ?_ ?_
      · skip
        exact k3 _ _ hx
      · skip
        refine q_getI (fun _ => ?_)
        refine q_if ?_ ?_
        · skip
          exact k1 _ _ _ hx
        · skip
          exact k3 _ _ hx
theorem fr_X12_byteAt {b : MT} {P : (Nat → Int32) → (Nat → Nat → Int32) → Prop} (hb : MB b) (hP : CloM [] [] P) {l1 : Int32} {fi : Nat → Int32} {ar : Nat → Nat → Int32} {Q Q' : Int32 → HS → Prop} {X X' : String → HS → Prop} (hQ : ∀ r fi ar, P fi ar → Q r (mS b fi ar) → Q' r (mS b fi ar)) (hx : P fi ar) : w_X12_byteAt (some b.o) l1 (mS b fi ar) Q X → w_X12_byteAt (some b.o) l1 (mS b fi ar) Q' X' := by
  unfold w_X12_byteAt
  refine q_getI (fun _ => ?_)
  refine n_join1 (b := b) (P := P) (fun _ fi1 ar1 h1 => ?_) (fun _ _ k1 => ?_)
  · skip
    exact hQ _ _ _ h1
  · skip
    refine q_if ?_ ?_
    · skip
      exact k1 _ _ _ hx
    · skip
      refine n_getF hb (by decide) ?_
      refine q_aldJ (fun _ => ?_)
      exact k1 _ _ _ hx
theorem fr_X12_blanks {b : MT} {P : (Nat → Int32) → (Nat → Nat → Int32) → Prop} (hb : MB b) (hP : CloM [41] [] P) {fi : Nat → Int32} {ar : Nat → Nat → Int32} {Q Q' : HS → Prop} {X X' : String → HS → Prop} (hQ : ∀ fi ar, P fi ar → Q (mS b fi ar) → Q' (mS b fi ar)) (hx : P fi ar) : w_X12_blanks (some b.o) (mS b fi ar) Q X → w_X12_blanks (some b.o) (mS b fi ar) Q' X' := by
  unfold w_X12_blanks
  refine n_loop (b := b) (P := P) hx (fun v4 fi1 ar1 _ _ h1 k1 => ?_)
  refine q_getI (fun _ => ?_)
  refine q_recv ?_
  refine fr_X12_byteAt hb (hP.mono (by decide) (by decide)) (fun _ fi2 ar2 h2 => ?_) h1
  refine q_if ?_ ?_
  · skip
    refine q_getI (fun _ => ?_)
    refine n_putI hb (hP.1 _ (by decide)) h2 (fun fi3 h3 => ?_)
    exact k1 _ _ _ h3
  · skip
    exact hQ _ _ h2
theorem fr_X12_isDigit {b : MT} {P : (Nat → Int32) → (Nat → Nat → Int32) → Prop} (hb : MB b) (hP : CloM [] [] P) {l1 : Int32} {fi : Nat → Int32} {ar : Nat → Nat → Int32} {Q Q' : Int32 → HS → Prop} {X X' : String → HS → Prop} (hQ : ∀ r fi ar, P fi ar → Q r (mS b fi ar) → Q' r (mS b fi ar)) (hx : P fi ar) : w_X12_isDigit (some b.o) l1 (mS b fi ar) Q X → w_X12_isDigit (some b.o) l1 (mS b fi ar) Q' X' := by
  unfold w_X12_isDigit
  refine n_join1 (b := b) (P := P) (fun _ fi1 ar1 h1 => ?_) (fun _ _ k1 => ?_)
  · skip
    refine q_bit ?_
    exact hQ _ _ _ h1
  · skip
    refine n_join0 (b := b) (P := P) (fun fi2 ar2 h2 => ?_) (fun _ _ k2 => ?_)
    · skip
      exact k1 _ _ _ h2
    · skip
      refine q_if ?_ ?_
      · skip
        exact k2 _ _ hx
      · skip
        refine q_if ?_ ?_
        · skip
          exact k2 _ _ hx
        · skip
          exact k1 _ _ _ hx
theorem fr_X12_take {b : MT} {P : (Nat → Int32) → (Nat → Nat → Int32) → Prop} (hb : MB b) (hP : CloM [41] [] P) {l1 : Int32} {fi : Nat → Int32} {ar : Nat → Nat → Int32} {Q Q' : Int32 → HS → Prop} {X X' : String → HS → Prop} (hQ : ∀ r fi ar, P fi ar → Q r (mS b fi ar) → Q' r (mS b fi ar)) (hx : P fi ar) : w_X12_take (some b.o) l1 (mS b fi ar) Q X → w_X12_take (some b.o) l1 (mS b fi ar) Q' X' := by
  unfold w_X12_take
  refine q_recv ?_
  refine fr_X12_blanks hb (hP.mono (by decide) (by decide)) (fun  fi1 ar1 h1 => ?_) hx
  refine q_getI (fun _ => ?_)
  refine q_recv ?_
  refine fr_X12_byteAt hb (hP.mono (by decide) (by decide)) (fun _ fi2 ar2 h2 => ?_) h1
  refine q_if ?_ ?_
  · skip
    refine q_getI (fun _ => ?_)
    refine n_putI hb (hP.1 _ (by decide)) h2 (fun fi3 h3 => ?_)
    refine q_bit ?_
    exact hQ _ _ _ h3
  · skip
    refine q_bit ?_
    exact hQ _ _ _ h2
theorem fr_X12_digits {b : MT} {P : (Nat → Int32) → (Nat → Nat → Int32) → Prop} (hb : MB b) (hP : CloM [] [] P) {l1 : Int32} {fi : Nat → Int32} {ar : Nat → Nat → Int32} {Q Q' : Int32 → HS → Prop} {X X' : String → HS → Prop} (hQ : ∀ r fi ar, P fi ar → Q r (mS b fi ar) → Q' r (mS b fi ar)) (hx : P fi ar) : w_X12_digits (some b.o) l1 (mS b fi ar) Q X → w_X12_digits (some b.o) l1 (mS b fi ar) Q' X' := by
  unfold w_X12_digits
  refine n_loop (b := b) (P := P) hx (fun v4 fi1 ar1 _ _ h1 k1 => ?_)
  refine q_recv ?_
  refine fr_X12_byteAt hb (hP.mono (by decide) (by decide)) (fun _ fi2 ar2 h2 => ?_) h1
  refine q_recv ?_
  refine fr_X12_isDigit hb (hP.mono (by decide) (by decide)) (fun _ fi3 ar3 h3 => ?_) h2
  refine q_if ?_ ?_
  · skip
    exact hQ _ _ _ h3
  · skip
    exact k1 _ _ _ h3
theorem fr_X12_digits0 {b : MT} {P : (Nat → Int32) → (Nat → Nat → Int32) → Prop} (hb : MB b) (hP : CloM [41, 43] [] P) {fi : Nat → Int32} {ar : Nat → Nat → Int32} {Q Q' : Int32 → HS → Prop} {X X' : String → HS → Prop} (hQ : ∀ r fi ar, P fi ar → Q r (mS b fi ar) → Q' r (mS b fi ar)) (hx : P fi ar) : w_X12_digits0 (some b.o) (mS b fi ar) Q X → w_X12_digits0 (some b.o) (mS b fi ar) Q' X' := by
  unfold w_X12_digits0
  refine q_getI (fun _ => ?_)
  refine q_recv ?_
  refine fr_X12_byteAt hb (hP.mono (by decide) (by decide)) (fun _ fi1 ar1 h1 => ?_) hx
  refine n_join1 (b := b) (P := P) (fun _ fi2 ar2 h2 => ?_) (fun _ _ k2 => ?_)
  · skip
    refine n_join1 (b := b) (P := P) (fun _ fi3 ar3 h3 => ?_) (fun _ _ k3 => ?_)
    · skip
      refine q_recv ?_
      refine fr_X12_digits hb (hP.mono (by decide) (by decide)) (fun _ fi4 ar4 h4 => ?_) h3
      refine n_join0 (b := b) (P := P) (fun fi5 ar5 h5 => ?_) (fun _ _ k5 => ?_)
      · skip
        refine q_bit ?_
        exact hQ _ _ _ h5
      · skip
        refine q_if ?_ ?_
        · skip
          exact k5 _ _ h4
        · skip
          refine q_if ?_ ?_
          · skip
            refine n_loop (b := b) (P := P) h4 (fun v17 fi6 ar6 _ _ h6 k6 => ?_)
            refine q_if ?_ ?_
            · skip
              refine n_join1 (b := b) (P := P) (fun _ fi7 ar7 h7 => ?_) (fun _ _ k7 => ?_)
              · skip
                refine n_putI hb (hP.1 _ (by decide)) h7 (fun fi8 h8 => ?_)
                refine n_putI hb (hP.1 _ (by decide)) h8 (fun fi9 h9 => ?_)
                refine q_bit ?_
                exact hQ _ _ _ h9
              · skip
                refine q_if ?_ ?_
                · skip
                  exact k7 _ _ _ h6
                · skip
                  exact k7 _ _ _ h6
            · skip
              refine q_recv ?_
              refine fr_X12_byteAt hb (hP.mono (by decide) (by decide)) (fun _ fi10 ar10 h10 => ?_) h6
              exact k6 _ _ _ h10
          · skip
            exact k5 _ _ h4
    · skip
      refine q_if ?_ ?_
      · skip
        refine q_getI (fun _ => ?_)
        exact k3 _ _ _ h2
      · skip
        refine q_getI (fun _ => ?_)
        exact k3 _ _ _ h2
  · skip
    refine q_if ?_ ?_
    · skip
      exact k2 _ _ _ h1
    · skip
      exact k2 _ _ _ h1
theorem fr_X12_argument {b : MT} {P : (Nat → Int32) → (Nat → Nat → Int32) → Prop} (hb : MB b) (hP : CloM [41, 43] [46, 47] P) {l1 : Int32} {l2 : Int32} {fi : Nat → Int32} {ar : Nat → Nat → Int32} {Q Q' : Int32 → HS → Prop} {X X' : String → HS → Prop} (hQ : ∀ r fi ar, P fi ar → Q r (mS b fi ar) → Q' r (mS b fi ar)) (hx : P fi ar) : w_X12_argument (some b.o) l1 l2 (mS b fi ar) Q X → w_X12_argument (some b.o) l1 l2 (mS b fi ar) Q' X' := by
  unfold w_X12_argument
  refine q_recv ?_
  refine fr_X12_blanks hb (hP.mono (by decide) (by decide)) (fun  fi1 ar1 h1 => ?_) hx
  refine q_getI (fun _ => ?_)
  refine q_recv ?_
  refine fr_X12_byteAt hb (hP.mono (by decide) (by decide)) (fun _ fi2 ar2 h2 => ?_) h1
  refine n_join0 (b := b) (P := P) (fun fi3 ar3 h3 => ?_) (fun _ _ k3 => ?_)
  · skip
    refine n_join0 (b := b) (P := P) (fun fi4 ar4 h4 => ?_) (fun _ _ k4 => ?_)
    · skip
      refine n_join0 (b := b) (P := P) (fun fi5 ar5 h5 => ?_) (fun _ _ k5 => ?_)
      · skip
        refine q_bit ?_
        exact hQ _ _ _ h5
      · skip
        refine n_join0 (b := b) (P := P) (fun fi6 ar6 h6 => ?_) (fun _ _ k6 => ?_)
        · skip
          refine q_recv ?_
          refine fr_X12_digits0 hb (hP.mono (by decide) (by decide)) (fun _ fi7 ar7 h7 => ?_) h6
          refine q_if ?_ ?_
          · skip
            exact k5 _ _ h7
          · skip
            refine n_getF hb (by decide) ?_
            refine n_astI hb (by decide) (by decide) (hP.2 _ (by decide)) h7 (fun ar8 h8 => ?_)
            refine n_getF hb (by decide) ?_
            refine q_getI (fun _ => ?_)
            refine n_astI hb (by decide) (by decide) (hP.2 _ (by decide)) h8 (fun ar9 h9 => ?_)
            refine q_bit ?_
            exact hQ _ _ _ h9
        · skip
          refine q_if ?_ ?_
          · skip
            exact k6 _ _ h4
          · skip
            refine q_recv ?_
            refine fr_X12_isDigit hb (hP.mono (by decide) (by decide)) (fun _ fi10 ar10 h10 => ?_) h4
            refine q_if ?_ ?_
            · skip
              exact k5 _ _ h10
            · skip
              exact k6 _ _ h10
    · skip
      refine q_if ?_ ?_
      · skip
        exact k4 _ _ h3
      · skip
        refine q_if ?_ ?_
        · skip
          refine n_getF hb (by decide) ?_
          refine n_astI hb (by decide) (by decide) (hP.2 _ (by decide)) h3 (fun ar11 h11 => ?_)
          refine n_getF hb (by decide) ?_
          refine n_astI hb (by decide) (by decide) (hP.2 _ (by decide)) h11 (fun ar12 h12 => ?_)
          refine q_getI (fun _ => ?_)
          refine n_putI hb (hP.1 _ (by decide)) h12 (fun fi13 h13 => ?_)
          refine q_bit ?_
          exact hQ _ _ _ h13
        · skip
          exact k4 _ _ h3
  · skip
    refine q_if ?_ ?_
    · skip
      exact k3 _ _ h2
    · skip
      refine q_if ?_ ?_
      · skip
        exact k3 _ _ h2
      · skip
        refine n_getF hb (by decide) ?_
        refine n_astI hb (by decide) (by decide) (hP.2 _ (by decide)) h2 (fun ar14 h14 => ?_)
        refine n_getF hb (by decide) ?_
        refine n_astI hb (by decide) (by decide) (hP.2 _ (by decide)) h14 (fun ar15 h15 => ?_)
        refine q_getI (fun _ => ?_)
        refine n_putI hb (hP.1 _ (by decide)) h15 (fun fi16 h16 => ?_)
        refine q_bit ?_
        exact hQ _ _ _ h16
theorem fr_X12_isKnown {b : MT} {P : (Nat → Int32) → (Nat → Nat → Int32) → Prop} (hb : MB b) (hP : CloM [] [] P) {l1 : Int32} {l2 : Int32} {fi : Nat → Int32} {ar : Nat → Nat → Int32} {Q Q' : Int32 → HS → Prop} {X X' : String → HS → Prop} (hQ : ∀ r fi ar, P fi ar → Q r (mS b fi ar) → Q' r (mS b fi ar)) (hx : P fi ar) : w_X12_isKnown (some b.o) l1 l2 (mS b fi ar) Q X → w_X12_isKnown (some b.o) l1 l2 (mS b fi ar) Q' X' := by
  unfold w_X12_isKnown
  refine n_getF hb (by decide) ?_
  refine q_aldJ (fun _ => ?_)
  refine n_join1 (b := b) (P := P) (fun _ fi1 ar1 h1 => ?_) (fun _ _ k1 => ?_)
  · skip
    refine q_bit ?_
    exact hQ _ _ _ h1
  · skip
    refine n_join0 (b := b) (P := P) (fun fi2 ar2 h2 => ?_) (fun _ _ k2 => ?_)
    · skip
      exact k1 _ _ _ h2
    · skip
      refine q_if ?_ ?_
      · skip
        refine n_getF hb (by decide) ?_
        refine q_aldJ (fun _ => ?_)
        refine n_getF hb (by decide) ?_
        refine q_aldJ (fun _ => ?_)
        refine q_if ?_ ?_
        · skip
          exact k2 _ _ hx
        · skip
          exact k1 _ _ _ hx
      · skip
        exact k2 _ _ hx
theorem fr_X12_wrong {b : MT} {P : (Nat → Int32) → (Nat → Nat → Int32) → Prop} (hb : MB b) (hP : CloM [42] [] P) {l1 : Int32} {fi : Nat → Int32} {ar : Nat → Nat → Int32} {Q Q' : Int32 → HS → Prop} {X X' : String → HS → Prop} (hQ : ∀ r fi ar, P fi ar → Q r (mS b fi ar) → Q' r (mS b fi ar)) (hx : P fi ar) : w_X12_wrong (some b.o) l1 (mS b fi ar) Q X → w_X12_wrong (some b.o) l1 (mS b fi ar) Q' X' := by
  unfold w_X12_wrong
  refine q_getI (fun _ => ?_)
  refine n_join1 (b := b) (P := P) (fun _ fi1 ar1 h1 => ?_) (fun _ _ k1 => ?_)
  · skip
    refine n_putI hb (hP.1 _ (by decide)) h1 (fun fi2 h2 => ?_)
    refine q_bit ?_
    exact hQ _ _ _ h2
  · skip
    refine q_if ?_ ?_
    · skip
      refine q_getI (fun _ => ?_)
      exact k1 _ _ _ hx
    · skip
      exact k1 _ _ _ hx
theorem fr_X12_tableGoal {b : MT} {P : (Nat → Int32) → (Nat → Nat → Int32) → Prop} (hb : MB b) (hP : CloM [41, 42, 43] [45, 46, 47, 48] P) {l1 : Int32} {fi : Nat → Int32} {ar : Nat → Nat → Int32} {Q Q' : Int32 → HS → Prop} {X X' : String → HS → Prop} (hQ : ∀ r fi ar, P fi ar → Q r (mS b fi ar) → Q' r (mS b fi ar)) (hx : P fi ar) : w_X12_tableGoal (some b.o) l1 (mS b fi ar) Q X → w_X12_tableGoal (some b.o) l1 (mS b fi ar) Q' X' := by
  unfold w_X12_tableGoal
  refine q_getI (fun _ => ?_)
  refine q_getI (fun _ => ?_)
  refine n_putI hb (hP.1 _ (by decide)) hx (fun fi1 h1 => ?_)
  refine q_getI (fun _ => ?_)
  refine q_recv ?_
  refine fr_X12_digits hb (hP.mono (by decide) (by decide)) (fun _ fi2 ar2 h2 => ?_) h1
  refine q_if ?_ ?_
  · skip
    refine q_getI (fun _ => ?_)
    refine q_recv ?_
    refine fr_X12_wrong hb (hP.mono (by decide) (by decide)) (fun _ fi3 ar3 h3 => ?_) h2
    refine q_bit ?_
    exact hQ _ _ _ h3
  · skip
    refine q_if ?_ ?_
    · skip
      refine q_recv ?_
      refine fr_X12_digits0 hb (hP.mono (by decide) (by decide)) (fun _ fi4 ar4 h4 => ?_) h2
      refine n_getF hb (by decide) ?_
      refine q_getI (fun _ => ?_)
      refine n_astI hb (by decide) (by decide) (hP.2 _ (by decide)) h4 (fun ar5 h5 => ?_)
      refine q_getI (fun _ => ?_)
      refine q_recv ?_
      refine fr_X12_isTable hb (hP.mono (by decide) (by decide)) (fun _ fi6 ar6 h6 => ?_) h5
      refine q_if ?_ ?_
      · skip
        refine q_recv ?_
        refine fr_X12_wrong hb (hP.mono (by decide) (by decide)) (fun _ fi7 ar7 h7 => ?_) h6
        refine q_bit ?_
        exact hQ _ _ _ h7
      · skip
        refine q_recv ?_
        refine fr_X12_take hb (hP.mono (by decide) (by decide)) (fun _ fi8 ar8 h8 => ?_) h6
        refine q_if ?_ ?_
        · skip
          refine q_getI (fun _ => ?_)
          refine q_recv ?_
          refine fr_X12_wrong hb (hP.mono (by decide) (by decide)) (fun _ fi9 ar9 h9 => ?_) h8
          refine q_bit ?_
          exact hQ _ _ _ h9
        · skip
          refine n_loop (b := b) (P := P) h8 (fun v28 fi10 ar10 _ _ h10 k10 => ?_)
          refine q_if ?_ ?_
          · skip
            refine q_recv ?_
            refine fr_X12_blanks hb (hP.mono (by decide) (by decide)) (fun  fi11 ar11 h11 => ?_) h10
            refine q_getI (fun _ => ?_)
            refine q_recv ?_
            refine fr_X12_byteAt hb (hP.mono (by decide) (by decide)) (fun _ fi12 ar12 h12 => ?_) h11
            refine n_join0 (b := b) (P := P) (fun fi13 ar13 h13 => ?_) (fun _ _ k13 => ?_)
            · skip
              refine q_getI (fun _ => ?_)
              refine q_recv ?_
              refine fr_X12_wrong hb (hP.mono (by decide) (by decide)) (fun _ fi14 ar14 h14 => ?_) h13
              refine q_bit ?_
              exact hQ _ _ _ h14
            · skip
              refine q_if ?_ ?_
              · skip
                refine n_getF hb (by decide) ?_
                refine n_getF hb (by decide) ?_
                refine q_aldJ (fun _ => ?_)
                refine q_aldJ (fun _ => ?_)
                refine q_if ?_ ?_
                · skip
                  refine q_getI (fun _ => ?_)
                  refine n_putI hb (hP.1 _ (by decide)) h12 (fun fi15 h15 => ?_)
                  refine n_getF hb (by decide) ?_
                  refine n_getF hb (by decide) ?_
                  refine q_aldJ (fun _ => ?_)
                  refine n_astI hb (by decide) (by decide) (hP.2 _ (by decide)) h15 (fun ar16 h16 => ?_)
                  refine n_loop (b := b) (P := P) h16 (fun v52 fi17 ar17 _ _ h17 k17 => ?_)
                  refine n_join0 (b := b) (P := P) (fun fi18 ar18 h18 => ?_) (fun _ _ k18 => ?_)
                  · skip
                    refine q_bit ?_
                    exact hQ _ _ _ h18
                  · skip
                    refine q_if ?_ ?_
                    · skip
                      exact k18 _ _ h17
                    · skip
                      refine n_getF hb (by decide) ?_
                      refine q_aldJ (fun _ => ?_)
                      refine q_if ?_ ?_
                      · skip
                        refine n_getF hb (by decide) ?_
                        refine q_aldJ (fun _ => ?_)
                        refine n_join0 (b := b) (P := P) (fun fi19 ar19 h19 => ?_) (fun _ _ k19 => ?_)
                        · skip
                          exact k17 _ _ _ h19
                        · skip
                          refine q_if ?_ ?_
                          · skip
                            refine n_getF hb (by decide) ?_
                            refine q_aldJ (fun _ => ?_)
                            refine n_getF hb (by decide) ?_
                            refine q_aldJ (fun _ => ?_)
                            refine n_astI hb (by decide) (by decide) (hP.2 _ (by decide)) h17 (fun ar20 h20 => ?_)
                            exact k19 _ _ h20
                          · skip
                            exact k19 _ _ h17
                      · skip
                        exact k18 _ _ h17
                · skip
                  exact k13 _ _ h12
              · skip
                exact k13 _ _ h12
          · skip
            refine q_recv ?_
            refine fr_X12_blanks hb (hP.mono (by decide) (by decide)) (fun  fi21 ar21 h21 => ?_) h10
            refine n_getF hb (by decide) ?_
            refine n_getF hb (by decide) ?_
            refine q_aldJ (fun _ => ?_)
            refine q_aldJ (fun _ => ?_)
            refine q_if ?_ ?_
            · skip
              refine q_getI (fun _ => ?_)
              refine q_recv ?_
              refine fr_X12_wrong hb (hP.mono (by decide) (by decide)) (fun _ fi22 ar22 h22 => ?_) h21
              refine q_bit ?_
              exact hQ _ _ _ h22
            · skip
              refine q_getI (fun _ => ?_)
              refine q_recv ?_
              refine fr_X12_argument hb (hP.mono (by decide) (by decide)) (fun _ fi23 ar23 h23 => ?_) h21
              refine q_if ?_ ?_
              · skip
                refine q_recv ?_
                refine fr_X12_wrong hb (hP.mono (by decide) (by decide)) (fun _ fi24 ar24 h24 => ?_) h23
                refine q_bit ?_
                exact hQ _ _ _ h24
              · skip
                refine q_recv ?_
                refine fr_X12_take hb (hP.mono (by decide) (by decide)) (fun _ fi25 ar25 h25 => ?_) h23
                exact k10 _ _ _ h25
    · skip
      refine q_recv ?_
      refine fr_X12_wrong hb (hP.mono (by decide) (by decide)) (fun _ fi26 ar26 h26 => ?_) h2
      refine q_bit ?_
      exact hQ _ _ _ h26
theorem fr_X12_knownArgument {b : MT} {P : (Nat → Int32) → (Nat → Nat → Int32) → Prop} (hb : MB b) (hP : CloM [41, 42, 43] [46, 47] P) {l1 : Int32} {l2 : Int32} {fi : Nat → Int32} {ar : Nat → Nat → Int32} {Q Q' : Int32 → HS → Prop} {X X' : String → HS → Prop} (hQ : ∀ r fi ar, P fi ar → Q r (mS b fi ar) → Q' r (mS b fi ar)) (hx : P fi ar) : w_X12_knownArgument (some b.o) l1 l2 (mS b fi ar) Q X → w_X12_knownArgument (some b.o) l1 l2 (mS b fi ar) Q' X' := by
  unfold w_X12_knownArgument
  refine q_recv ?_
  refine fr_X12_blanks hb (hP.mono (by decide) (by decide)) (fun  fi1 ar1 h1 => ?_) hx
  refine q_getI (fun _ => ?_)
  refine q_recv ?_
  refine fr_X12_argument hb (hP.mono (by decide) (by decide)) (fun _ fi2 ar2 h2 => ?_) h1
  refine n_join0 (b := b) (P := P) (fun fi3 ar3 h3 => ?_) (fun _ _ k3 => ?_)
  · skip
    refine q_recv ?_
    refine fr_X12_wrong hb (hP.mono (by decide) (by decide)) (fun _ fi4 ar4 h4 => ?_) h3
    refine q_bit ?_
    exact hQ _ _ _ h4
  · skip
    refine q_if ?_ ?_
    · skip
      exact k3 _ _ h2
    · skip
      refine q_recv ?_
      refine fr_X12_isKnown hb (hP.mono (by decide) (by decide)) (fun _ fi5 ar5 h5 => ?_) h2
      refine q_if ?_ ?_
      · skip
        exact k3 _ _ h5
      · skip
        refine q_bit ?_
        exact hQ _ _ _ h5
theorem fr_X12_otherGoal {b : MT} {P : (Nat → Int32) → (Nat → Nat → Int32) → Prop} (hb : MB b) (hP : CloM [41, 42, 43] [44, 46, 47, 48] P) {l1 : Int32} {fi : Nat → Int32} {ar : Nat → Nat → Int32} {Q Q' : Int32 → HS → Prop} {X X' : String → HS → Prop} (hQ : ∀ r fi ar, P fi ar → Q r (mS b fi ar) → Q' r (mS b fi ar)) (hx : P fi ar) : w_X12_otherGoal (some b.o) l1 (mS b fi ar) Q X → w_X12_otherGoal (some b.o) l1 (mS b fi ar) Q' X' := by
  unfold w_X12_otherGoal
  refine q_getI (fun _ => ?_)
  refine q_recv ?_
  refine fr_X12_argument hb (hP.mono (by decide) (by decide)) (fun _ fi1 ar1 h1 => ?_) hx
  refine q_if ?_ ?_
  · skip
    refine q_recv ?_
    refine fr_X12_wrong hb (hP.mono (by decide) (by decide)) (fun _ fi2 ar2 h2 => ?_) h1
    refine q_bit ?_
    exact hQ _ _ _ h2
  · skip
    refine n_getF hb (by decide) ?_
    refine n_getF hb (by decide) ?_
    refine q_aldJ (fun _ => ?_)
    refine n_astI hb (by decide) (by decide) (hP.2 _ (by decide)) h1 (fun ar3 h3 => ?_)
    refine q_recv ?_
    refine fr_X12_blanks hb (hP.mono (by decide) (by decide)) (fun  fi4 ar4 h4 => ?_) h3
    refine q_getI (fun _ => ?_)
    refine q_recv ?_
    refine fr_X12_byteAt hb (hP.mono (by decide) (by decide)) (fun _ fi5 ar5 h5 => ?_) h4
    refine n_join0 (b := b) (P := P) (fun fi6 ar6 h6 => ?_) (fun _ _ k6 => ?_)
    · skip
      refine n_join0 (b := b) (P := P) (fun fi7 ar7 h7 => ?_) (fun _ _ k7 => ?_)
      · skip
        refine q_recv ?_
        refine fr_X12_isKnown hb (hP.mono (by decide) (by decide)) (fun _ fi8 ar8 h8 => ?_) h7
        refine q_if ?_ ?_
        · skip
          refine q_recv ?_
          refine fr_X12_wrong hb (hP.mono (by decide) (by decide)) (fun _ fi9 ar9 h9 => ?_) h8
          refine q_bit ?_
          exact hQ _ _ _ h9
        · skip
          refine n_getF hb (by decide) ?_
          refine n_join1 (b := b) (P := P) (fun _ fi10 ar10 h10 => ?_) (fun _ _ k10 => ?_)
          · skip
            refine n_astI hb (by decide) (by decide) (hP.2 _ (by decide)) h10 (fun ar11 h11 => ?_)
            refine q_getI (fun _ => ?_)
            refine n_putI hb (hP.1 _ (by decide)) h11 (fun fi12 h12 => ?_)
            refine q_recv ?_
            refine fr_X12_knownArgument hb (hP.mono (by decide) (by decide)) (fun _ fi13 ar13 h13 => ?_) h12
            refine q_bit ?_
            exact hQ _ _ _ h13
          · skip
            refine q_if ?_ ?_
            · skip
              exact k10 _ _ _ h8
            · skip
              refine q_if ?_ ?_
              · skip
                exact k10 _ _ _ h8
              · skip
                exact k10 _ _ _ h8
      · skip
        refine q_if ?_ ?_
        · skip
          exact k7 _ _ h6
        · skip
          refine q_if ?_ ?_
          · skip
            exact k7 _ _ h6
          · skip
            refine q_if ?_ ?_
            · skip
              exact k7 _ _ h6
            · skip
              refine q_getI (fun _ => ?_)
              refine q_recv ?_
              refine fr_X12_wrong hb (hP.mono (by decide) (by decide)) (fun _ fi14 ar14 h14 => ?_) h6
              refine q_bit ?_
              exact hQ _ _ _ h14
    · skip
      refine q_if ?_ ?_
      · skip
        refine n_getF hb (by decide) ?_
        refine q_aldJ (fun _ => ?_)
        refine q_if ?_ ?_
        · skip
          refine q_recv ?_
          refine fr_X12_isKnown hb (hP.mono (by decide) (by decide)) (fun _ fi15 ar15 h15 => ?_) h5
          refine q_if ?_ ?_
          · skip
            refine q_getI (fun _ => ?_)
            refine n_putI hb (hP.1 _ (by decide)) h15 (fun fi16 h16 => ?_)
            refine q_recv ?_
            refine fr_X12_knownArgument hb (hP.mono (by decide) (by decide)) (fun _ fi17 ar17 h17 => ?_) h16
            refine q_if ?_ ?_
            · skip
              refine q_bit ?_
              exact hQ _ _ _ h17
            · skip
              refine q_recv ?_
              refine fr_X12_blanks hb (hP.mono (by decide) (by decide)) (fun  fi18 ar18 h18 => ?_) h17
              refine q_getI (fun _ => ?_)
              refine q_recv ?_
              refine fr_X12_byteAt hb (hP.mono (by decide) (by decide)) (fun _ fi19 ar19 h19 => ?_) h18
              refine n_join0 (b := b) (P := P) (fun fi20 ar20 h20 => ?_) (fun _ _ k20 => ?_)
              · skip
                refine n_getF hb (by decide) ?_
                refine n_join1 (b := b) (P := P) (fun _ fi21 ar21 h21 => ?_) (fun _ _ k21 => ?_)
                · skip
                  refine n_astI hb (by decide) (by decide) (hP.2 _ (by decide)) h21 (fun ar22 h22 => ?_)
                  refine q_getI (fun _ => ?_)
                  refine n_putI hb (hP.1 _ (by decide)) h22 (fun fi23 h23 => ?_)
                  refine q_recv ?_
                  refine fr_X12_knownArgument hb (hP.mono (by decide) (by decide)) (fun _ fi24 ar24 h24 => ?_) h23
                  refine q_if ?_ ?_
                  · skip
                    refine q_bit ?_
                    exact hQ _ _ _ h24
                  · skip
                    refine n_getF hb (by decide) ?_
                    refine q_aldJ (fun _ => ?_)
                    refine n_getF hb (by decide) ?_
                    refine q_aldJ (fun _ => ?_)
                    refine n_astI hb (by decide) (by decide) (hP.2 _ (by decide)) h24 (fun ar25 h25 => ?_)
                    refine q_bit ?_
                    exact hQ _ _ _ h25
                · skip
                  refine q_if ?_ ?_
                  · skip
                    exact k21 _ _ _ h20
                  · skip
                    refine q_if ?_ ?_
                    · skip
                      exact k21 _ _ _ h20
                    · skip
                      exact k21 _ _ _ h20
              · skip
                refine q_if ?_ ?_
                · skip
                  exact k20 _ _ h19
                · skip
                  refine q_if ?_ ?_
                  · skip
                    exact k20 _ _ h19
                  · skip
                    refine q_if ?_ ?_
                    · skip
                      exact k20 _ _ h19
                    · skip
                      refine q_getI (fun _ => ?_)
                      refine q_recv ?_
                      refine fr_X12_wrong hb (hP.mono (by decide) (by decide)) (fun _ fi26 ar26 h26 => ?_) h19
                      refine q_bit ?_
                      exact hQ _ _ _ h26
          · skip
            refine q_recv ?_
            refine fr_X12_wrong hb (hP.mono (by decide) (by decide)) (fun _ fi27 ar27 h27 => ?_) h15
            refine q_bit ?_
            exact hQ _ _ _ h27
        · skip
          exact k6 _ _ h5
      · skip
        exact k6 _ _ h5
theorem fr_X12_isQuestion {b : MT} {P : (Nat → Int32) → (Nat → Nat → Int32) → Prop} (hb : MB b) (hP : CloM [40, 41, 42, 43, 49] [44, 45, 46, 47, 48] P) {l1 : Int32} {fi : Nat → Int32} {ar : Nat → Nat → Int32} {Q Q' : Int32 → HS → Prop} {X X' : String → HS → Prop} (hQ : ∀ r fi ar, P fi ar → Q r (mS b fi ar) → Q' r (mS b fi ar)) (hx : P fi ar) : w_X12_isQuestion (some b.o) l1 (mS b fi ar) Q X → w_X12_isQuestion (some b.o) l1 (mS b fi ar) Q' X' := by
  unfold w_X12_isQuestion
  refine n_putI hb (hP.1 _ (by decide)) hx (fun fi1 h1 => ?_)
  refine n_putI hb (hP.1 _ (by decide)) h1 (fun fi2 h2 => ?_)
  refine n_putI hb (hP.1 _ (by decide)) h2 (fun fi3 h3 => ?_)
  refine n_getF hb (by decide) ?_
  refine n_astI hb (by decide) (by decide) (hP.2 _ (by decide)) h3 (fun ar4 h4 => ?_)
  refine n_loop (b := b) (P := P) h4 (fun v9 fi5 ar5 _ _ h5 k5 => ?_)
  refine q_if ?_ ?_
  · skip
    refine q_recv ?_
    refine fr_X12_blanks hb (hP.mono (by decide) (by decide)) (fun  fi6 ar6 h6 => ?_) h5
    refine q_getI (fun _ => ?_)
    refine q_getI (fun _ => ?_)
    refine n_join1 (b := b) (P := P) (fun _ fi7 ar7 h7 => ?_) (fun _ _ k7 => ?_)
    · skip
      refine q_bit ?_
      exact hQ _ _ _ h7
    · skip
      refine n_join0 (b := b) (P := P) (fun fi8 ar8 h8 => ?_) (fun _ _ k8 => ?_)
      · skip
        exact k7 _ _ _ h8
      · skip
        refine q_if ?_ ?_
        · skip
          exact k8 _ _ h6
        · skip
          refine q_getI (fun _ => ?_)
          refine q_recv ?_
          refine fr_X12_wrong hb (hP.mono (by decide) (by decide)) (fun _ fi9 ar9 h9 => ?_) h6
          refine q_if ?_ ?_
          · skip
            exact k7 _ _ _ h9
          · skip
            exact k8 _ _ h9
  · skip
    refine q_recv ?_
    refine fr_X12_blanks hb (hP.mono (by decide) (by decide)) (fun  fi10 ar10 h10 => ?_) h5
    refine q_getI (fun _ => ?_)
    refine q_if ?_ ?_
    · skip
      refine q_getI (fun _ => ?_)
      refine q_recv ?_
      refine fr_X12_wrong hb (hP.mono (by decide) (by decide)) (fun _ fi11 ar11 h11 => ?_) h10
      refine q_bit ?_
      exact hQ _ _ _ h11
    · skip
      refine n_getF hb (by decide) ?_
      refine q_getI (fun _ => ?_)
      refine n_astI hb (by decide) (by decide) (hP.2 _ (by decide)) h10 (fun ar12 h12 => ?_)
      refine q_getI (fun _ => ?_)
      refine q_recv ?_
      refine fr_X12_byteAt hb (hP.mono (by decide) (by decide)) (fun _ fi13 ar13 h13 => ?_) h12
      refine n_join1 (b := b) (P := P) (fun _ fi14 ar14 h14 => ?_) (fun _ _ k14 => ?_)
      · skip
        refine q_if ?_ ?_
        · skip
          refine q_bit ?_
          exact hQ _ _ _ h14
        · skip
          refine q_getI (fun _ => ?_)
          refine n_putI hb (hP.1 _ (by decide)) h14 (fun fi15 h15 => ?_)
          refine q_recv ?_
          refine fr_X12_take hb (hP.mono (by decide) (by decide)) (fun _ fi16 ar16 h16 => ?_) h15
          exact k5 _ _ _ h16
      · skip
        refine q_if ?_ ?_
        · skip
          refine q_getI (fun _ => ?_)
          refine q_recv ?_
          refine fr_X12_tableGoal hb (hP.mono (by decide) (by decide)) (fun _ fi17 ar17 h17 => ?_) h13
          exact k14 _ _ _ h17
        · skip
          refine q_getI (fun _ => ?_)
          refine q_recv ?_
          refine fr_X12_byteAt hb (hP.mono (by decide) (by decide)) (fun _ fi18 ar18 h18 => ?_) h13
          refine q_if ?_ ?_
          · skip
            refine q_getI (fun _ => ?_)
            refine n_putI hb (hP.1 _ (by decide)) h18 (fun fi19 h19 => ?_)
            refine q_recv ?_
            refine fr_X12_blanks hb (hP.mono (by decide) (by decide)) (fun  fi20 ar20 h20 => ?_) h19
            refine n_getF hb (by decide) ?_
            refine q_getI (fun _ => ?_)
            refine n_astI hb (by decide) (by decide) (hP.2 _ (by decide)) h20 (fun ar21 h21 => ?_)
            refine q_getI (fun _ => ?_)
            refine q_recv ?_
            refine fr_X12_byteAt hb (hP.mono (by decide) (by decide)) (fun _ fi22 ar22 h22 => ?_) h21
            refine n_join1 (b := b) (P := P) (fun _ fi23 ar23 h23 => ?_) (fun _ _ k23 => ?_)
            · skip
              exact k14 _ _ _ h23
            · skip
              refine q_if ?_ ?_
              · skip
                refine q_getI (fun _ => ?_)
                refine q_recv ?_
                refine fr_X12_tableGoal hb (hP.mono (by decide) (by decide)) (fun _ fi24 ar24 h24 => ?_) h22
                exact k23 _ _ _ h24
              · skip
                refine q_getI (fun _ => ?_)
                refine q_recv ?_
                refine fr_X12_wrong hb (hP.mono (by decide) (by decide)) (fun _ fi25 ar25 h25 => ?_) h22
                exact k23 _ _ _ h25
          · skip
            refine q_getI (fun _ => ?_)
            refine q_recv ?_
            refine fr_X12_otherGoal hb (hP.mono (by decide) (by decide)) (fun _ fi26 ar26 h26 => ?_) h18
            exact k14 _ _ _ h26
theorem fr_X12_worth {b : MT} {P : (Nat → Int32) → (Nat → Nat → Int32) → Prop} (hb : MB b) (hP : CloM [] [] P) {l1 : Int32} {fi : Nat → Int32} {ar : Nat → Nat → Int32} {Q Q' : Int32 → HS → Prop} {X X' : String → HS → Prop} (hQ : ∀ r fi ar, P fi ar → Q r (mS b fi ar) → Q' r (mS b fi ar)) (hx : P fi ar) : w_X12_worth (some b.o) l1 (mS b fi ar) Q X → w_X12_worth (some b.o) l1 (mS b fi ar) Q' X' := by
  unfold w_X12_worth
  refine n_getF hb (by decide) ?_
  refine q_aldJ (fun _ => ?_)
  refine n_join1 (b := b) (P := P) (fun _ fi1 ar1 h1 => ?_) (fun _ _ k1 => ?_)
  · skip
    exact hQ _ _ _ h1
  · skip
    refine q_if ?_ ?_
    · skip
      refine n_getF hb (by decide) ?_
      refine n_getF hb (by decide) ?_
      refine q_aldJ (fun _ => ?_)
      refine q_aldJ (fun _ => ?_)
      exact k1 _ _ _ hx
    · skip
      refine n_getF hb (by decide) ?_
      refine q_aldJ (fun _ => ?_)
      exact k1 _ _ _ hx
theorem fr_X12_isOne {b : MT} {P : (Nat → Int32) → (Nat → Nat → Int32) → Prop} (hb : MB b) (hP : CloM [] [] P) {l1 : Int32} {l2 : Int32} {fi : Nat → Int32} {ar : Nat → Nat → Int32} {Q Q' : Int32 → HS → Prop} {X X' : String → HS → Prop} (hQ : ∀ r fi ar, P fi ar → Q r (mS b fi ar) → Q' r (mS b fi ar)) (hx : P fi ar) : w_X12_isOne (some b.o) l1 l2 (mS b fi ar) Q X → w_X12_isOne (some b.o) l1 l2 (mS b fi ar) Q' X' := by
  unfold w_X12_isOne
  refine n_getF hb (by decide) ?_
  refine n_getF hb (by decide) ?_
  refine q_aldJ (fun _ => ?_)
  refine q_aldJ (fun _ => ?_)
  refine n_loop (b := b) (P := P) hx (fun v8 fi1 ar1 _ _ h1 k1 => ?_)
  refine q_if ?_ ?_
  · skip
    refine q_bit ?_
    exact hQ _ _ _ h1
  · skip
    refine n_loop (b := b) (P := P) h1 (fun v12 fi2 ar2 _ _ h2 k2 => ?_)
    refine q_if ?_ ?_
    · skip
      exact k1 _ _ _ h2
    · skip
      refine n_getF hb (by decide) ?_
      refine q_aldJ (fun _ => ?_)
      refine n_join0 (b := b) (P := P) (fun fi3 ar3 h3 => ?_) (fun _ _ k3 => ?_)
      · skip
        exact k2 _ _ _ h3
      · skip
        refine q_if ?_ ?_
        · skip
          refine n_getF hb (by decide) ?_
          refine q_aldJ (fun _ => ?_)
          refine q_if ?_ ?_
          · skip
            refine n_getF hb (by decide) ?_
            refine q_aldJ (fun _ => ?_)
            refine n_getF hb (by decide) ?_
            refine q_aldJ (fun _ => ?_)
            refine q_if ?_ ?_
            · skip
              refine n_getF hb (by decide) ?_
              refine q_aldJ (fun _ => ?_)
              refine n_getF hb (by decide) ?_
              refine q_aldJ (fun _ => ?_)
              refine q_if ?_ ?_
              · skip
                exact k3 _ _ h2
              · skip
                refine q_bit ?_
                exact hQ _ _ _ h2
            · skip
              exact k3 _ _ h2
          · skip
            exact k3 _ _ h2
        · skip
          exact k3 _ _ h2
theorem fr_X12_match {b : MT} {P : (Nat → Int32) → (Nat → Nat → Int32) → Prop} (hb : MB b) (hP : CloM [38] [52] P) {l1 : Int32} {l2 : Int32} {l3 : Int32} {fi : Nat → Int32} {ar : Nat → Nat → Int32} {Q Q' : Int32 → HS → Prop} {X X' : String → HS → Prop} (hQ : ∀ r fi ar, P fi ar → Q r (mS b fi ar) → Q' r (mS b fi ar)) (hx : P fi ar) : w_X12_match (some b.o) l1 l2 l3 (mS b fi ar) Q X → w_X12_match (some b.o) l1 l2 l3 (mS b fi ar) Q' X' := by
  unfold w_X12_match
  refine n_getF hb (by decide) ?_
  refine q_aldJ (fun _ => ?_)
  refine n_loop (b := b) (P := P) hx (fun v6 fi1 ar1 _ _ h1 k1 => ?_)
  refine n_getF hb (by decide) ?_
  refine q_aldJ (fun _ => ?_)
  refine q_if ?_ ?_
  · skip
    refine n_getF hb (by decide) ?_
    refine q_recv ?_
    refine fr_X12_seek hb (hP.mono (by decide) (by decide)) (fun _ fi2 ar2 h2 => ?_) h1
    refine n_loop (b := b) (P := P) h2 (fun v15 fi3 ar3 _ _ h3 k3 => ?_)
    refine n_join0 (b := b) (P := P) (fun fi4 ar4 h4 => ?_) (fun _ _ k4 => ?_)
    · skip
      exact hQ _ _ _ h4
    · skip
      refine q_if ?_ ?_
      · skip
        exact k4 _ _ h3
      · skip
        refine q_recv ?_
        refine fr_X12_isOne hb (hP.mono (by decide) (by decide)) (fun _ fi5 ar5 h5 => ?_) h3
        refine q_if ?_ ?_
        · skip
          refine q_getI (fun _ => ?_)
          refine n_join1 (b := b) (P := P) (fun _ fi6 ar6 h6 => ?_) (fun _ _ k6 => ?_)
          · skip
            exact k3 _ _ _ h6
          · skip
            refine q_if ?_ ?_
            · skip
              refine n_getF hb (by decide) ?_
              refine q_aldJ (fun _ => ?_)
              refine n_getF hb (by decide) ?_
              refine q_recv ?_
              refine fr_X12_seek hb (hP.mono (by decide) (by decide)) (fun _ fi7 ar7 h7 => ?_) h5
              exact k6 _ _ _ h7
            · skip
              exact k6 _ _ _ h5
        · skip
          exact k4 _ _ h5
  · skip
    refine n_getF hb (by decide) ?_
    refine q_aldJ (fun _ => ?_)
    refine n_join1 (b := b) (P := P) (fun _ fi8 ar8 h8 => ?_) (fun _ _ k8 => ?_)
    · skip
      exact k1 _ _ _ h8
    · skip
      refine q_if ?_ ?_
      · skip
        exact k8 _ _ _ h1
      · skip
        refine q_recv ?_
        refine fr_X12_isKnown hb (hP.mono (by decide) (by decide)) (fun _ fi9 ar9 h9 => ?_) h1
        refine q_if ?_ ?_
        · skip
          exact k8 _ _ _ h9
        · skip
          refine n_getF hb (by decide) ?_
          refine q_recv ?_
          refine fr_X12_worth hb (hP.mono (by decide) (by decide)) (fun _ fi10 ar10 h10 => ?_) h9
          refine n_astI hb (by decide) (by decide) (hP.2 _ (by decide)) h10 (fun ar11 h11 => ?_)
          exact k8 _ _ _ h11
theorem fr_X12_give {b : MT} {P : (Nat → Int32) → (Nat → Nat → Int32) → Prop} (hb : MB b) (hP : CloM [] [50] P) {l1 : Int32} {l2 : Int32} {fi : Nat → Int32} {ar : Nat → Nat → Int32} {Q Q' : HS → Prop} {X X' : String → HS → Prop} (hQ : ∀ fi ar, P fi ar → Q (mS b fi ar) → Q' (mS b fi ar)) (hx : P fi ar) : w_X12_give (some b.o) l1 l2 (mS b fi ar) Q X → w_X12_give (some b.o) l1 l2 (mS b fi ar) Q' X' := by
  unfold w_X12_give
  refine n_getF hb (by decide) ?_
  refine n_getF hb (by decide) ?_
  refine q_aldJ (fun _ => ?_)
  refine q_aldJ (fun _ => ?_)
  refine n_loop (b := b) (P := P) hx (fun v8 fi1 ar1 _ _ h1 k1 => ?_)
  refine q_if ?_ ?_
  · skip
    exact hQ _ _ h1
  · skip
    refine n_getF hb (by decide) ?_
    refine q_aldJ (fun _ => ?_)
    refine n_join0 (b := b) (P := P) (fun fi2 ar2 h2 => ?_) (fun _ _ k2 => ?_)
    · skip
      exact k1 _ _ _ h2
    · skip
      refine q_if ?_ ?_
      · skip
        refine n_getF hb (by decide) ?_
        refine n_getF hb (by decide) ?_
        refine q_aldJ (fun _ => ?_)
        refine n_getF hb (by decide) ?_
        refine q_aldJ (fun _ => ?_)
        refine n_astI hb (by decide) (by decide) (hP.2 _ (by decide)) h1 (fun ar3 h3 => ?_)
        exact k2 _ _ h3
      · skip
        exact k2 _ _ h1
theorem fr_X12_holds {b : MT} {P : (Nat → Int32) → (Nat → Nat → Int32) → Prop} (hb : MB b) (hP : CloM [38] [50, 52] P) {l1 : Int32} {l2 : Int32} {fi : Nat → Int32} {ar : Nat → Nat → Int32} {Q Q' : Int32 → HS → Prop} {X X' : String → HS → Prop} (hQ : ∀ r fi ar, P fi ar → Q r (mS b fi ar) → Q' r (mS b fi ar)) (hx : P fi ar) : w_X12_holds (some b.o) l1 l2 (mS b fi ar) Q X → w_X12_holds (some b.o) l1 l2 (mS b fi ar) Q' X' := by
  unfold w_X12_holds
  refine n_getF hb (by decide) ?_
  refine q_aldJ (fun _ => ?_)
  refine q_if ?_ ?_
  · skip
    refine n_getF hb (by decide) ?_
    refine n_getF hb (by decide) ?_
    refine q_aldJ (fun _ => ?_)
    refine q_aldJ (fun _ => ?_)
    refine q_recv ?_
    refine fr_X12_match hb (hP.mono (by decide) (by decide)) (fun _ fi1 ar1 h1 => ?_) hx
    refine n_join1 (b := b) (P := P) (fun _ fi2 ar2 h2 => ?_) (fun _ _ k2 => ?_)
    · skip
      refine q_bit ?_
      exact hQ _ _ _ h2
    · skip
      refine q_if ?_ ?_
      · skip
        exact k2 _ _ _ h1
      · skip
        exact k2 _ _ _ h1
  · skip
    refine q_recv ?_
    refine fr_X12_worth hb (hP.mono (by decide) (by decide)) (fun _ fi3 ar3 h3 => ?_) hx
    refine q_recv ?_
    refine fr_X12_worth hb (hP.mono (by decide) (by decide)) (fun _ fi4 ar4 h4 => ?_) h3
    refine n_getF hb (by decide) ?_
    refine q_aldJ (fun _ => ?_)
    refine q_if ?_ ?_
    · skip
      refine n_join1 (b := b) (P := P) (fun _ fi5 ar5 h5 => ?_) (fun _ _ k5 => ?_)
      · skip
        refine q_bit ?_
        exact hQ _ _ _ h5
      · skip
        refine q_if ?_ ?_
        · skip
          exact k5 _ _ _ h4
        · skip
          exact k5 _ _ _ h4
    · skip
      refine n_getF hb (by decide) ?_
      refine q_aldJ (fun _ => ?_)
      refine q_if ?_ ?_
      · skip
        refine n_join1 (b := b) (P := P) (fun _ fi6 ar6 h6 => ?_) (fun _ _ k6 => ?_)
        · skip
          refine q_bit ?_
          exact hQ _ _ _ h6
        · skip
          refine q_if ?_ ?_
          · skip
            exact k6 _ _ _ h4
          · skip
            exact k6 _ _ _ h4
      · skip
        refine n_getF hb (by decide) ?_
        refine q_aldJ (fun _ => ?_)
        refine q_if ?_ ?_
        · skip
          refine n_join1 (b := b) (P := P) (fun _ fi7 ar7 h7 => ?_) (fun _ _ k7 => ?_)
          · skip
            refine q_bit ?_
            exact hQ _ _ _ h7
          · skip
            refine q_if ?_ ?_
            · skip
              exact k7 _ _ _ h4
            · skip
              exact k7 _ _ _ h4
        · skip
          refine q_recv ?_
          refine fr_X12_worth hb (hP.mono (by decide) (by decide)) (fun _ fi8 ar8 h8 => ?_) h4
          refine n_getF hb (by decide) ?_
          refine n_getF hb (by decide) ?_
          refine q_aldJ (fun _ => ?_)
          refine n_getF hb (by decide) ?_
          refine q_aldJ (fun _ => ?_)
          refine n_join1 (b := b) (P := P) (fun _ fi9 ar9 h9 => ?_) (fun _ _ k9 => ?_)
          · skip
            refine n_astI hb (by decide) (by decide) (hP.2 _ (by decide)) h9 (fun ar10 h10 => ?_)
            refine q_bit ?_
            exact hQ _ _ _ h10
          · skip
            refine q_if ?_ ?_
            · skip
              exact k9 _ _ _ h8
            · skip
              refine n_getF hb (by decide) ?_
              refine q_aldJ (fun _ => ?_)
              refine q_if ?_ ?_
              · skip
                exact k9 _ _ _ h8
              · skip
                exact k9 _ _ _ h8
theorem fr_X12_solve {b : MT} {P : (Nat → Int32) → (Nat → Nat → Int32) → Prop} (hb : MB b) (hP : CloM [38] [50, 51, 52, 54] P) {l1 : Int32} {fi : Nat → Int32} {ar : Nat → Nat → Int32} {Q Q' : Int32 → HS → Prop} {X X' : String → HS → Prop} (hQ : ∀ r fi ar, P fi ar → Q r (mS b fi ar) → Q' r (mS b fi ar)) (hx : P fi ar) : w_X12_solve (some b.o) l1 (mS b fi ar) Q X → w_X12_solve (some b.o) l1 (mS b fi ar) Q' X' := by
  unfold w_X12_solve
  refine n_loop (b := b) (P := P) hx (fun v4 fi1 ar1 _ _ h1 k1 => ?_)
  refine n_join0 (b := b) (P := P) (fun fi2 ar2 h2 => ?_) (fun _ _ k2 => ?_)
  · skip
    exact hQ _ _ _ h2
  · skip
    refine q_if ?_ ?_
    · skip
      exact k2 _ _ h1
    · skip
      refine q_getI (fun _ => ?_)
      refine q_if ?_ ?_
      · skip
        exact k2 _ _ h1
      · skip
        refine q_getI (fun _ => ?_)
        refine q_if ?_ ?_
        · skip
          refine n_loop (b := b) (P := P) h1 (fun v12 fi3 ar3 _ _ h3 k3 => ?_)
          refine n_join0 (b := b) (P := P) (fun fi4 ar4 h4 => ?_) (fun _ _ k4 => ?_)
          · skip
            exact k1 _ _ _ h4
          · skip
            refine q_if ?_ ?_
            · skip
              exact k4 _ _ h3
            · skip
              refine q_if ?_ ?_
              · skip
                exact k4 _ _ h3
              · skip
                refine n_getF hb (by decide) ?_
                refine n_getF hb (by decide) ?_
                refine q_aldJ (fun _ => ?_)
                refine n_astI hb (by decide) (by decide) (hP.2 _ (by decide)) h3 (fun ar5 h5 => ?_)
                exact k3 _ _ _ h5
        · skip
          refine n_getF hb (by decide) ?_
          refine q_aldJ (fun _ => ?_)
          refine q_if ?_ ?_
          · skip
            refine n_join1 (b := b) (P := P) (fun _ fi6 ar6 h6 => ?_) (fun _ _ k6 => ?_)
            · skip
              refine q_recv ?_
              refine fr_X12_match hb (hP.mono (by decide) (by decide)) (fun _ fi7 ar7 h7 => ?_) h6
              refine n_join1 (b := b) (P := P) (fun _ fi8 ar8 h8 => ?_) (fun _ _ k8 => ?_)
              · skip
                refine n_join1 (b := b) (P := P) (fun _ fi9 ar9 h9 => ?_) (fun _ _ k9 => ?_)
                · skip
                  exact k1 _ _ _ h9
                · skip
                  refine q_if ?_ ?_
                  · skip
                    refine n_getF hb (by decide) ?_
                    refine n_astI hb (by decide) (by decide) (hP.2 _ (by decide)) h8 (fun ar10 h10 => ?_)
                    refine q_recv ?_
                    refine fr_X12_give hb (hP.mono (by decide) (by decide)) (fun  fi11 ar11 h11 => ?_) h10
                    exact k9 _ _ _ h11
                  · skip
                    exact k9 _ _ _ h8
              · skip
                refine q_if ?_ ?_
                · skip
                  exact k8 _ _ _ h7
                · skip
                  exact k8 _ _ _ h7
            · skip
              refine q_if ?_ ?_
              · skip
                refine n_getF hb (by decide) ?_
                refine n_getF hb (by decide) ?_
                refine q_aldJ (fun _ => ?_)
                refine q_aldJ (fun _ => ?_)
                exact k6 _ _ _ h1
              · skip
                refine n_getF hb (by decide) ?_
                refine n_getF hb (by decide) ?_
                refine q_aldJ (fun _ => ?_)
                refine q_aldJ (fun _ => ?_)
                exact k6 _ _ _ h1
          · skip
            refine n_join1 (b := b) (P := P) (fun _ fi12 ar12 h12 => ?_) (fun _ _ k12 => ?_)
            · skip
              refine n_join1 (b := b) (P := P) (fun _ fi13 ar13 h13 => ?_) (fun _ _ k13 => ?_)
              · skip
                exact k1 _ _ _ h13
              · skip
                refine q_if ?_ ?_
                · skip
                  exact k13 _ _ _ h12
                · skip
                  exact k13 _ _ _ h12
            · skip
              refine n_join0 (b := b) (P := P) (fun fi14 ar14 h14 => ?_) (fun _ _ k14 => ?_)
              · skip
                exact k12 _ _ _ h14
              · skip
                refine q_if ?_ ?_
                · skip
                  refine q_recv ?_
                  refine fr_X12_holds hb (hP.mono (by decide) (by decide)) (fun _ fi15 ar15 h15 => ?_) h1
                  refine q_if ?_ ?_
                  · skip
                    exact k14 _ _ h15
                  · skip
                    exact k12 _ _ _ h15
                · skip
                  exact k14 _ _ h1
theorem fr_X12_question {b : MT} {P : (Nat → Int32) → (Nat → Nat → Int32) → Prop} (hb : MB b) (hP : CloM [0, 2, 38, 39, 40, 41, 42, 43, 49, 55, 56] [44, 45, 46, 47, 48, 50, 51, 52, 53, 54] P) {l1 : Int32} {fi : Nat → Int32} {ar : Nat → Nat → Int32} {Q Q' : Int32 → HS → Prop} {X X' : String → HS → Prop} (hQ : ∀ r fi ar, P fi ar → Q r (mS b fi ar) → Q' r (mS b fi ar)) (hx : P fi ar) : w_X12_question (some b.o) l1 (mS b fi ar) Q X → w_X12_question (some b.o) l1 (mS b fi ar) Q' X' := by
  unfold w_X12_question
  refine q_getI (fun _ => ?_)
  refine n_putI hb (hP.1 _ (by decide)) hx (fun fi1 h1 => ?_)
  refine n_putI hb (hP.1 _ (by decide)) h1 (fun fi2 h2 => ?_)
  refine q_recv ?_
  refine fr_X12_isTime hb (hP.mono (by decide) (by decide)) (fun _ fi3 ar3 h3 => ?_) h2
  refine n_join1 (b := b) (P := P) (fun _ fi4 ar4 h4 => ?_) (fun _ _ k4 => ?_)
  · skip
    refine q_recv ?_
    refine fr_X12_fails hb (hP.mono (by decide) (by decide)) (fun _ fi5 ar5 h5 => ?_) h4
    refine q_if ?_ ?_
    · skip
      refine q_recv ?_
      refine fr_X12_isQuestion hb (hP.mono (by decide) (by decide)) (fun _ fi6 ar6 h6 => ?_) h5
      refine n_join1 (b := b) (P := P) (fun _ fi7 ar7 h7 => ?_) (fun _ _ k7 => ?_)
      · skip
        refine q_recv ?_
        refine fr_X12_fails hb (hP.mono (by decide) (by decide)) (fun _ fi8 ar8 h8 => ?_) h7
        refine q_if ?_ ?_
        · skip
          refine n_putI hb (hP.1 _ (by decide)) h8 (fun fi9 h9 => ?_)
          refine n_putZ hb (hP.1 _ (by decide)) h9 (fun fi10 h10 => ?_)
          refine q_recv ?_
          refine fr_X12_timeOf hb (hP.mono (by decide) (by decide)) (fun _ fi11 ar11 h11 => ?_) h10
          refine q_recv ?_
          refine fr_X12_solve hb (hP.mono (by decide) (by decide)) (fun _ fi12 ar12 h12 => ?_) h11
          refine n_putZ hb (hP.1 _ (by decide)) h12 (fun fi13 h13 => ?_)
          refine q_getI (fun _ => ?_)
          refine q_if ?_ ?_
          · skip
            refine n_putI hb (hP.1 _ (by decide)) h13 (fun fi14 h14 => ?_)
            refine n_getF hb (by decide) ?_
            refine q_getI (fun _ => ?_)
            refine q_aldJ (fun _ => ?_)
            refine n_putI hb (hP.1 _ (by decide)) h14 (fun fi15 h15 => ?_)
            refine n_loop (b := b) (P := P) h15 (fun v34 fi16 ar16 _ _ h16 k16 => ?_)
            refine q_if ?_ ?_
            · skip
              exact hQ _ _ _ h16
            · skip
              refine n_getF hb (by decide) ?_
              refine n_getF hb (by decide) ?_
              refine q_aldJ (fun _ => ?_)
              refine n_astI hb (by decide) (by decide) (hP.2 _ (by decide)) h16 (fun ar17 h17 => ?_)
              exact k16 _ _ _ h17
          · skip
            refine n_putI hb (hP.1 _ (by decide)) h13 (fun fi18 h18 => ?_)
            refine n_putI hb (hP.1 _ (by decide)) h18 (fun fi19 h19 => ?_)
            exact hQ _ _ _ h19
        · skip
          exact hQ _ _ _ h8
      · skip
        refine q_if ?_ ?_
        · skip
          exact k7 _ _ _ h6
        · skip
          exact k7 _ _ _ h6
    · skip
      exact hQ _ _ _ h5
  · skip
    refine q_if ?_ ?_
    · skip
      exact k4 _ _ _ h3
    · skip
      exact k4 _ _ _ h3
theorem fr2_X12_question {b : MT} {P : (Nat → Int32) → (Nat → Nat → Int32) → Prop} (hb : MB b) (hP : CloM [0, 38, 39, 40, 41, 42, 43, 49, 55, 56] [44, 45, 46, 47, 48, 50, 51, 52, 53, 54] P) {l1 : Int32} {fi : Nat → Int32} {ar : Nat → Nat → Int32} {Q Q' : Int32 → HS → Prop} {X X' : String → HS → Prop} (hQ : ∀ r fi ar, P fi ar → Q r (mS b fi ar) → Q' r (mS b fi ar)) (h2 : P (va_up fi 2 0) ar) : w_X12_question (some b.o) l1 (mS b fi ar) Q X → w_X12_question (some b.o) l1 (mS b fi ar) Q' X' := by
  unfold w_X12_question
  refine q_getI (fun _ => ?_)
  refine ny_putI hb h2 (fun fi1 h1 => ?_)
  refine n_putI hb (hP.1 _ (by decide)) h1 (fun fi2 h2 => ?_)
  refine q_recv ?_
  refine fr_X12_isTime hb (hP.mono (by decide) (by decide)) (fun _ fi3 ar3 h3 => ?_) h2
  refine n_join1 (b := b) (P := P) (fun _ fi4 ar4 h4 => ?_) (fun _ _ k4 => ?_)
  · skip
    refine q_recv ?_
    refine fr_X12_fails hb (hP.mono (by decide) (by decide)) (fun _ fi5 ar5 h5 => ?_) h4
    refine q_if ?_ ?_
    · skip
      refine q_recv ?_
      refine fr_X12_isQuestion hb (hP.mono (by decide) (by decide)) (fun _ fi6 ar6 h6 => ?_) h5
      refine n_join1 (b := b) (P := P) (fun _ fi7 ar7 h7 => ?_) (fun _ _ k7 => ?_)
      · skip
        refine q_recv ?_
        refine fr_X12_fails hb (hP.mono (by decide) (by decide)) (fun _ fi8 ar8 h8 => ?_) h7
        refine q_if ?_ ?_
        · skip
          refine n_putI hb (hP.1 _ (by decide)) h8 (fun fi9 h9 => ?_)
          refine n_putZ hb (hP.1 _ (by decide)) h9 (fun fi10 h10 => ?_)
          refine q_recv ?_
          refine fr_X12_timeOf hb (hP.mono (by decide) (by decide)) (fun _ fi11 ar11 h11 => ?_) h10
          refine q_recv ?_
          refine fr_X12_solve hb (hP.mono (by decide) (by decide)) (fun _ fi12 ar12 h12 => ?_) h11
          refine n_putZ hb (hP.1 _ (by decide)) h12 (fun fi13 h13 => ?_)
          refine q_getI (fun _ => ?_)
          refine q_if ?_ ?_
          · skip
            refine n_putI hb (hP.1 _ (by decide)) h13 (fun fi14 h14 => ?_)
            refine n_getF hb (by decide) ?_
            refine q_getI (fun _ => ?_)
            refine q_aldJ (fun _ => ?_)
            refine n_putI hb (hP.1 _ (by decide)) h14 (fun fi15 h15 => ?_)
            refine n_loop (b := b) (P := P) h15 (fun v34 fi16 ar16 _ _ h16 k16 => ?_)
            refine q_if ?_ ?_
            · skip
              exact hQ _ _ _ h16
            · skip
              refine n_getF hb (by decide) ?_
              refine n_getF hb (by decide) ?_
              refine q_aldJ (fun _ => ?_)
              refine n_astI hb (by decide) (by decide) (hP.2 _ (by decide)) h16 (fun ar17 h17 => ?_)
              exact k16 _ _ _ h17
          · skip
            refine n_putI hb (hP.1 _ (by decide)) h13 (fun fi18 h18 => ?_)
            refine n_putI hb (hP.1 _ (by decide)) h18 (fun fi19 h19 => ?_)
            exact hQ _ _ _ h19
        · skip
          exact hQ _ _ _ h8
      · skip
        refine q_if ?_ ?_
        · skip
          exact k7 _ _ _ h6
        · skip
          exact k7 _ _ _ h6
    · skip
      exact hQ _ _ _ h5
  · skip
    refine q_if ?_ ?_
    · skip
      exact k4 _ _ _ h3
    · skip
      exact k4 _ _ _ h3
theorem fr_X12_solution {b : MT} {P : (Nat → Int32) → (Nat → Nat → Int32) → Prop} (hb : MB b) (hP : CloM [0] [] P) {l1 : Int32} {l2 : Int32} {fi : Nat → Int32} {ar : Nat → Nat → Int32} {Q Q' : Int32 → HS → Prop} {X X' : String → HS → Prop} (hQ : ∀ r fi ar, P fi ar → Q r (mS b fi ar) → Q' r (mS b fi ar)) (hx : P fi ar) : w_X12_solution (some b.o) l1 l2 (mS b fi ar) Q X → w_X12_solution (some b.o) l1 l2 (mS b fi ar) Q' X' := by
  unfold w_X12_solution
  refine n_join1 (b := b) (P := P) (fun _ fi1 ar1 h1 => ?_) (fun _ _ k1 => ?_)
  · skip
    refine q_recv ?_
    refine fr_X12_fails hb (hP.mono (by decide) (by decide)) (fun _ fi2 ar2 h2 => ?_) h1
    refine q_if ?_ ?_
    · skip
      refine n_getF hb (by decide) ?_
      refine q_aldJ (fun _ => ?_)
      exact hQ _ _ _ h2
    · skip
      exact hQ _ _ _ h2
  · skip
    refine n_join0 (b := b) (P := P) (fun fi3 ar3 h3 => ?_) (fun _ _ k3 => ?_)
    · skip
      exact k1 _ _ _ h3
    · skip
      refine q_if ?_ ?_
      · skip
        exact k3 _ _ hx
      · skip
        refine q_if ?_ ?_
        · skip
          refine n_join0 (b := b) (P := P) (fun fi4 ar4 h4 => ?_) (fun _ _ k4 => ?_)
          · skip
            exact k1 _ _ _ h4
          · skip
            refine q_if ?_ ?_
            · skip
              exact k4 _ _ hx
            · skip
              refine q_getI (fun _ => ?_)
              refine q_if ?_ ?_
              · skip
                exact k4 _ _ hx
              · skip
                refine q_if ?_ ?_
                · skip
                  exact k4 _ _ hx
                · skip
                  refine q_getI (fun _ => ?_)
                  refine q_if ?_ ?_
                  · skip
                    exact k4 _ _ hx
                  · skip
                    exact k1 _ _ _ hx
        · skip
          exact k3 _ _ hx
theorem fr_X12_count {b : MT} {P : (Nat → Int32) → (Nat → Nat → Int32) → Prop} (hb : MB b) (hP : CloM [0] [] P) {l1 : Int32} {fi : Nat → Int32} {ar : Nat → Nat → Int32} {Q Q' : Int32 → HS → Prop} {X X' : String → HS → Prop} (hQ : ∀ r fi ar, P fi ar → Q r (mS b fi ar) → Q' r (mS b fi ar)) (hx : P fi ar) : w_X12_count (some b.o) l1 (mS b fi ar) Q X → w_X12_count (some b.o) l1 (mS b fi ar) Q' X' := by
  unfold w_X12_count
  refine n_join1 (b := b) (P := P) (fun _ fi1 ar1 h1 => ?_) (fun _ _ k1 => ?_)
  · skip
    refine q_recv ?_
    refine fr_X12_fails hb (hP.mono (by decide) (by decide)) (fun _ fi2 ar2 h2 => ?_) h1
    refine q_if ?_ ?_
    · skip
      refine q_if ?_ ?_
      · skip
        refine q_getI (fun _ => ?_)
        exact hQ _ _ _ h2
      · skip
        refine q_if ?_ ?_
        · skip
          refine q_getI (fun _ => ?_)
          exact hQ _ _ _ h2
        · skip
          refine q_if ?_ ?_
          · skip
            refine q_getI (fun _ => ?_)
            exact hQ _ _ _ h2
          · skip
            refine q_if ?_ ?_
            · skip
              refine q_getI (fun _ => ?_)
              exact hQ _ _ _ h2
            · skip
              refine q_if ?_ ?_
              · skip
                refine q_getI (fun _ => ?_)
                exact hQ _ _ _ h2
              · skip
                refine q_if ?_ ?_
                · skip
                  refine q_getI (fun _ => ?_)
                  exact hQ _ _ _ h2
                · skip
                  refine q_if ?_ ?_
                  · skip
                    refine q_getI (fun _ => ?_)
                    exact hQ _ _ _ h2
                  · skip
                    refine q_if ?_ ?_
                    · skip
                      refine n_loop (b := b) (P := P) h2 (fun v16 fi3 ar3 _ _ h3 k3 => ?_)
                      refine q_if ?_ ?_
                      · skip
                        exact hQ _ _ _ h3
                      · skip
                        refine n_getF hb (by decide) ?_
                        refine q_aldJ (fun _ => ?_)
                        refine n_join1 (b := b) (P := P) (fun _ fi4 ar4 h4 => ?_) (fun _ _ k4 => ?_)
                        · skip
                          exact k3 _ _ _ h4
                        · skip
                          refine q_if ?_ ?_
                          · skip
                            exact k4 _ _ _ h3
                          · skip
                            exact k4 _ _ _ h3
                    · skip
                      refine q_if ?_ ?_
                      · skip
                        refine q_getI (fun _ => ?_)
                        exact hQ _ _ _ h2
                      · skip
                        refine q_if ?_ ?_
                        · skip
                          refine n_loop (b := b) (P := P) h2 (fun v26 fi5 ar5 _ _ h5 k5 => ?_)
                          refine q_if ?_ ?_
                          · skip
                            exact hQ _ _ _ h5
                          · skip
                            refine q_getI (fun _ => ?_)
                            exact k5 _ _ _ h5
                        · skip
                          refine q_recv ?_
                          refine fr_X12_isTable hb (hP.mono (by decide) (by decide)) (fun _ fi6 ar6 h6 => ?_) h2
                          refine q_if ?_ ?_
                          · skip
                            exact hQ _ _ _ h6
                          · skip
                            refine n_getF hb (by decide) ?_
                            refine q_aldJ (fun _ => ?_)
                            refine n_loop (b := b) (P := P) h6 (fun v35 fi7 ar7 _ _ h7 k7 => ?_)
                            refine q_if ?_ ?_
                            · skip
                              exact hQ _ _ _ h7
                            · skip
                              refine q_getI (fun _ => ?_)
                              refine q_recv ?_
                              refine fr_X12_isThere hb (hP.mono (by decide) (by decide)) (fun _ fi8 ar8 h8 => ?_) h7
                              refine n_join1 (b := b) (P := P) (fun _ fi9 ar9 h9 => ?_) (fun _ _ k9 => ?_)
                              · skip
                                refine n_getF hb (by decide) ?_
                                refine q_aldJ (fun _ => ?_)
                                exact k7 _ _ _ h9
                              · skip
                                refine q_if ?_ ?_
                                · skip
                                  exact k9 _ _ _ h8
                                · skip
                                  exact k9 _ _ _ h8
    · skip
      exact hQ _ _ _ h2
  · skip
    refine n_join0 (b := b) (P := P) (fun fi10 ar10 h10 => ?_) (fun _ _ k10 => ?_)
    · skip
      exact k1 _ _ _ h10
    · skip
      refine q_if ?_ ?_
      · skip
        exact k10 _ _ hx
      · skip
        refine n_join0 (b := b) (P := P) (fun fi11 ar11 h11 => ?_) (fun _ _ k11 => ?_)
        · skip
          refine q_if ?_ ?_
          · skip
            exact k1 _ _ _ h11
          · skip
            exact k10 _ _ h11
        · skip
          refine q_if ?_ ?_
          · skip
            exact k11 _ _ hx
          · skip
            refine q_if ?_ ?_
            · skip
              exact k10 _ _ hx
            · skip
              exact k11 _ _ hx
