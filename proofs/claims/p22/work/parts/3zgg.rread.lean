set_option linter.unusedVariables false
set_option linter.unusedSimpArgs false
/-! the reference: reading a question -/
def RDm (tp : Nat → Int32) (n : Nat) (fi : Nat → Int32) (ar : Nat → Nat → Int32) : Prop := (fi 40).toInt = (n : Int) ∧ n ≤ 400 ∧ ∀ i, i < n → ar 1 i = tp i
section NR1
variable {b : MT} {fi fi' : Nat → Int32} {ar ar' : Nat → Nat → Int32} {tp : Nat → Int32} {n i j k : Nat} {kn : Nat → Bool} {x : QA} {X X' : String → HS → Prop} {Q Q' : HS → Prop} {QI QI' : Int32 → HS → Prop}
theorem RDm_fr (h : RDm tp n fi ar) (h1 : fi' 40 = fi 40) (h2 : ar' 1 = ar 1) : RDm tp n fi' ar' := by
  unfold RDm; rw [h1, h2]; exact h
theorem nr_byte {v : Int32} (hb : MB b) (hR : RDm tp n fi ar) (hv : v.toInt = (i : Int)) (h : QI (byA tp n i) (mS b fi ar) → QI' (byA tp n i) (mS b fi ar)) : w_X12_byteAt (some b.o) v (mS b fi ar) QI X → w_X12_byteAt (some b.o) v (mS b fi ar) QI' X' := by
  obtain ⟨h1, h2, h3⟩ := hR
  unfold w_X12_byteAt
  refine nv_getI hb ?_
  dsimp only [wJoin]
  refine qv_if (fun z => ?_) (fun z => ?_)
  · simp only [i32] at z
    rw [byA_end (by omega)] at h; exact h
  · simp only [i32] at z
    refine n_getF hb (by decide) (nv_ald hb (by decide) (by decide) (fun _ => ?_))
    rw [ix_of hv, h3 i (by omega)]
    rw [byA_at (by omega)] at h; exact h
theorem nr_blanks (hb : MB b) (hR : RDm tp n fi ar) (hi : (fi 41).toInt = (i : Int)) (hin : i ≤ n) (h : ∀ v : Int32, v.toInt = (blA tp n i : Int) → Q (mS b (va_up fi 41 v) ar) → Q' (mS b (va_up fi 41 v) ar)) : w_X12_blanks (some b.o) (mS b fi ar) Q X → w_X12_blanks (some b.o) (mS b fi ar) Q' X' := by
  have h2 := hR.2.1
  unfold w_X12_blanks
  refine n_loopV (b := b) (fun (_ : Unit) fi' ar' => ar' = ar ∧ ∃ (w : Int32) (i' : Nat), fi' = va_up fi 41 w ∧ w.toInt = (i' : Int) ∧ i' ≤ n ∧ blA tp n i' = blA tp n i) ⟨rfl, fi 41, i, (va_same _ _).symm, hi, hin, rfl⟩ (fun v fi' ar' again again' ⟨e1, w, i', e2, j1, j2, j3⟩ ha => ?_)
  subst e1; subst e2
  have hR' : RDm tp n (va_up fi 41 w) ar' := RDm_fr hR (va_up_ne _ _ (by decide)) rfl
  refine nv_getI hb ?_
  rw [va_up_self]
  refine q_recv (nr_byte hb hR' j1 ?_)
  refine qv_if (fun z => ?_) (fun z => ?_)
  · have hlt := byA_in z (by decide)
    refine nv_getI hb (nv_putI hb ?_)
    rw [va_up_self, va_twice]
    refine ha _ _ _ ⟨rfl, w + 1, i' + 1, rfl, ?_, hlt, ?_⟩
    · rw [i_add j1 (show (1 : Int32).toInt = 1 by decide) (by omega)]; omega
    · rw [← j3, blA_step (i := i'), if_pos z]
  · exact h w (by rw [j1, ← j3, blA_step, if_neg z])
theorem nr_digit {v : Int32} (h : QI (if decide (48 ≤ v.toInt ∧ v.toInt ≤ 57) then 1 else 0) (mS b fi ar) → QI' (if decide (48 ≤ v.toInt ∧ v.toInt ≤ 57) then 1 else 0) (mS b fi ar)) : w_X12_isDigit (some b.o) v (mS b fi ar) QI X → w_X12_isDigit (some b.o) v (mS b fi ar) QI' X' := by
  unfold w_X12_isDigit
  dsimp only [wJoin]
  refine qv_if (fun z => q_bit ?_) (fun z => qv_if (fun z2 => q_bit ?_) (fun z2 => q_bit ?_))
  · simp only [i32, Int32.reduceToInt] at z
    rw [decide_eq_false (by omega)] at h; exact h
  · simp only [i32, Int32.reduceToInt] at z2
    rw [decide_eq_false (by omega)] at h; exact h
  · simp only [i32, Int32.reduceToInt] at z z2
    rw [decide_eq_true (by omega)] at h; exact h
theorem nr_take {c : Int32} (hc : c ≠ -1) (hb : MB b) (hR : RDm tp n fi ar) (hi : (fi 41).toInt = (i : Int)) (hin : i ≤ n) (h1 : ∀ v : Int32, byA tp n (blA tp n i) = c → blA tp n i < n → v.toInt = ((blA tp n i + 1 : Nat) : Int) → QI 1 (mS b (va_up fi 41 v) ar) → QI' 1 (mS b (va_up fi 41 v) ar)) (h0 : ∀ v : Int32, byA tp n (blA tp n i) ≠ c → v.toInt = (blA tp n i : Int) → QI 0 (mS b (va_up fi 41 v) ar) → QI' 0 (mS b (va_up fi 41 v) ar)) : w_X12_take (some b.o) c (mS b fi ar) QI X → w_X12_take (some b.o) c (mS b fi ar) QI' X' := by
  have h2 := hR.2.1
  unfold w_X12_take
  refine q_recv (nr_blanks hb hR hi hin (fun v hv => ?_))
  have hR' : RDm tp n (va_up fi 41 v) ar := RDm_fr hR (va_up_ne _ _ (by decide)) rfl
  have hbn : blA tp n i ≤ n := blA_n hin
  refine nv_getI hb ?_
  rw [va_up_self]
  refine q_recv (nr_byte hb hR' hv ?_)
  refine qv_if (fun z => ?_) (fun z => q_bit (h0 v z hv))
  have hlt := byA_in z hc
  refine nv_getI hb (nv_putI hb (q_bit ?_))
  rw [va_up_self, va_twice]
  exact h1 (v + 1) z hlt (by rw [i_add hv (show (1 : Int32).toInt = 1 by decide) (by omega)]; omega)
theorem dgA_fst : ∀ (f i : Nat) (v w : Int32), n - i ≤ f → (dgA tp n i v).1 = (dgA tp n i w).1
  | f, i, v, w, h => by
      rw [dgA_step (v := v), dgA_step (v := w)]
      by_cases e : dgB tp n i = true
      · have := dgB_in e
        rw [if_pos e, if_pos e]
        cases f with
        | zero => omega
        | succ f => exact dgA_fst f (i + 1) _ _ (by omega)
      · rw [if_neg e, if_neg e]
theorem nr_digits {v : Int32} (hb : MB b) (hR : RDm tp n fi ar) (hv : v.toInt = (i : Int)) (hin : i ≤ n) (h : ∀ w : Int32, w.toInt = ((dgA tp n i 0).1 : Int) - (i : Int) → QI w (mS b fi ar) → QI' w (mS b fi ar)) : w_X12_digits (some b.o) v (mS b fi ar) QI X → w_X12_digits (some b.o) v (mS b fi ar) QI' X' := by
  have h2 := hR.2.1
  unfold w_X12_digits
  refine n_loopV (b := b) (fun (w : Int32) fi' ar' => fi' = fi ∧ ar' = ar ∧ ∃ i' : Nat, w.toInt = (i' : Int) ∧ i ≤ i' ∧ i' ≤ n ∧ (dgA tp n i' 0).1 = (dgA tp n i 0).1) ⟨rfl, rfl, i, hv, Nat.le_refl _, hin, rfl⟩ (fun w fi' ar' again again' ⟨e1, e2, i', j1, j2, j3, j4⟩ ha => ?_)
  subst e1; subst e2
  refine q_recv (nr_byte hb hR j1 (q_recv (nr_digit ?_)))
  show (wIf ((if dgB tp n i' then (1 : Int32) else 0) = 0) _ _) → (wIf ((if dgB tp n i' then (1 : Int32) else 0) = 0) _ _)
  cases hd : dgB tp n i' with
  | false =>
    refine qv_if (fun _ => ?_) (fun z => absurd rfl z)
    refine h _ ?_
    rw [i_sub j1 hv (by omega), ← j4, dgA_step, hd]; rfl
  | true =>
    refine qv_if (fun z => absurd z (by decide)) (fun _ => ?_)
    have hlt := dgB_in hd
    refine ha _ _ _ ⟨rfl, rfl, i' + 1, ?_, by omega, hlt, ?_⟩
    · rw [i_add j1 (show (1 : Int32).toInt = 1 by decide) (by omega)]; omega
    · rw [← j4, dgA_step (i := i'), if_pos hd]
      exact dgA_fst (n - (i' + 1)) (i' + 1) _ _ (Nat.le_refl _)
end NR1
def w_dg0 (l0 : Option Nat) (v6 v9 : Int32) (x8 : HS) (Q : Int32 → HS → Prop) (X : String → HS → Prop) : Prop :=
 wRecv x8 12 l0
 (w_X12_digits l0 v9 x8 (fun v11 x10 =>
 wJoin (κ := HS → Prop) (fun  (x13 : HS) =>
 wBit 0 (Q 0 x13)) (fun j12 =>
 wIf (v11 < 1)
 (j12 x10)
 (wIf (v11 ≤ 9)
 (wLoop (σ := Int32 × Int32) (fun v17 x16 again14 =>
 wIf ((v9 + v11) ≤ v17.2)
 (wJoin (κ := Int32 → HS → Prop) (fun (v20 : Int32) (x19 : HS) =>
 wPutI x19 12 43 l0 v20 fun x21 =>
 wPutI x21 12 41 l0 (v9 + v11) fun x22 =>
 wBit 1 (Q 1 x22)) (fun j18 =>
 wIf (v6 = 0)
 (j18 v17.1 x16)
 (j18 (-v17.1) x16)))
 (wRecv x16 12 l0
 (w_X12_byteAt l0 v17.2 x16 (fun v24 x23 =>
 again14 (((((10 : Int32) * v17.1) + v24) - 48), (v17.2 + 1)) x23) X))) (0, v9) x10)
 (j12 x10)))) X)
theorem w_dg (l0 : Option Nat) (x : HS) (Q : Int32 → HS → Prop) (X : String → HS → Prop) : w_X12_digits0 l0 x Q X = wGetI x 12 41 l0 fun v1 => wRecv x 12 l0 (w_X12_byteAt l0 v1 x (fun v3 x2 => wIf (v3 = 45) (wIf ((1 : Int32) = 0) (wGetI x2 12 41 l0 fun v25 => w_dg0 l0 1 v25 x2 Q X) (wGetI x2 12 41 l0 fun v26 => w_dg0 l0 1 (v26 + 1) x2 Q X)) (wIf ((0 : Int32) = 0) (wGetI x2 12 41 l0 fun v25 => w_dg0 l0 0 v25 x2 Q X) (wGetI x2 12 41 l0 fun v26 => w_dg0 l0 0 (v26 + 1) x2 Q X))) X) := rfl
section NR2
variable {b : MT} {fi fi' : Nat → Int32} {ar ar' : Nat → Nat → Int32} {tp : Nat → Int32} {n i j k : Nat} {kn : Nat → Bool} {x : QA} {X X' : String → HS → Prop} {Q Q' : HS → Prop} {QI QI' : Int32 → HS → Prop}
theorem nr_dg0 {s v : Int32} (hb : MB b) (hR : RDm tp n fi ar) (hv : v.toInt = (i : Int)) (hin : i ≤ n) (h1 : ∀ (r w : Int32) (j : Nat), nnA tp n i = some (r, j) → w.toInt = (j : Int) → QI 1 (mS b (va_up (va_up fi 43 (if s = 0 then r else -r)) 41 w) ar) → QI' 1 (mS b (va_up (va_up fi 43 (if s = 0 then r else -r)) 41 w) ar)) (h0 : nnA tp n i = none → QI 0 (mS b fi ar) → QI' 0 (mS b fi ar)) : w_dg0 (some b.o) s v (mS b fi ar) QI X → w_dg0 (some b.o) s v (mS b fi ar) QI' X' := by
  have h2 := hR.2.1
  obtain ⟨l1, l2⟩ := dgA_le (tp := tp) (n := n) (n - i) i 0 (Nat.le_refl _) hin
  unfold w_dg0
  refine q_recv (nr_digits hb hR hv hin (fun w hw => ?_))
  dsimp only [wJoin]
  refine qv_if (fun z => q_bit (h0 ?_)) (fun z => qv_if (fun z2 => ?_) (fun z2 => q_bit (h0 ?_)))
  · simp only [i32, Int32.reduceToInt] at z
    unfold nnA
    rw [if_pos (Or.inl (by omega))]
  · simp only [i32, Int32.reduceToInt] at z z2
    have hnn : nnA tp n i = some ((dgA tp n i 0).2, (dgA tp n i 0).1) := by
      unfold nnA
      rw [if_neg (by omega)]
    have ee : (v + w).toInt = ((dgA tp n i 0).1 : Int) := by
      rw [i_add hv hw (by omega)]; omega
    refine n_loopV (b := b) (fun (u : Int32 × Int32) fi' ar' => fi' = fi ∧ ar' = ar ∧ ∃ k' : Nat, u.2.toInt = (k' : Int) ∧ k' ≤ (dgA tp n i 0).1 ∧ dgA tp n k' u.1 = dgA tp n i 0) ⟨rfl, rfl, i, hv, l1, rfl⟩ (fun u fi' ar' again again' ⟨e1, e2, k', j1, j2, j3⟩ ha => ?_)
    subst e1; subst e2
    refine qv_if (fun z3 => ?_) (fun z3 => ?_)
    · rw [i32.2.1, ee, j1] at z3
      have ek : k' = (dgA tp n i 0).1 := by omega
      have hd : dgB tp n k' = false := by
        cases hd : dgB tp n k' with
        | false => rfl
        | true =>
          have hlt := dgB_in hd
          rw [dgA_step, if_pos hd] at j3
          have := (dgA_le (tp := tp) (n := n) (n - (k' + 1)) (k' + 1) (u.1 * 10 + byA tp n k' - 48) (Nat.le_refl _) hlt).1
          rw [j3] at this; omega
      rw [dgA_step, hd] at j3
      have j3 : (k', u.1) = dgA tp n i 0 := j3
      have ev : u.1 = (dgA tp n i 0).2 := by rw [← j3]
      have fin := h1 (dgA tp n i 0).2 (v + w) _ hnn ee
      refine qv_if (fun y => ?_) (fun y => ?_)
      · refine nv_putI hb (nv_putI hb (q_bit ?_))
        rw [if_pos y] at fin
        rw [ev]; exact fin
      · refine nv_putI hb (nv_putI hb (q_bit ?_))
        rw [if_neg y] at fin
        rw [ev]; exact fin
    · rw [i32.2.1, ee, j1] at z3
      have hd : dgB tp n k' = true := by
        cases hd : dgB tp n k' with
        | true => rfl
        | false =>
          rw [dgA_step, hd] at j3
          have j3 : (k', u.1) = dgA tp n i 0 := j3
          have : k' = (dgA tp n i 0).1 := by rw [← j3]
          omega
      refine q_recv (nr_byte hb hR j1 ?_)
      refine ha _ _ _ ⟨rfl, rfl, k' + 1, ?_, by omega, ?_⟩
      · show (u.2 + 1).toInt = _
        rw [i_add j1 (show (1 : Int32).toInt = 1 by decide) (by omega)]; omega
      · show dgA tp n (k' + 1) (10 * u.1 + byA tp n k' - 48) = _
        rw [← j3, dgA_step (i := k'), if_pos hd, Int32.mul_comm 10 u.1]
  · simp only [i32, Int32.reduceToInt] at z2
    unfold nnA
    rw [if_pos (Or.inr (by omega))]
theorem nr_digits0 (hb : MB b) (hR : RDm tp n fi ar) (hi : (fi 41).toInt = (i : Int)) (hin : i ≤ n) (h1 : ∀ (r w : Int32) (j : Nat), nmA tp n i = some (r, j) → w.toInt = (j : Int) → QI 1 (mS b (va_up (va_up fi 43 r) 41 w) ar) → QI' 1 (mS b (va_up (va_up fi 43 r) 41 w) ar)) (h0 : nmA tp n i = none → QI 0 (mS b fi ar) → QI' 0 (mS b fi ar)) : w_X12_digits0 (some b.o) (mS b fi ar) QI X → w_X12_digits0 (some b.o) (mS b fi ar) QI' X' := by
  have h2 := hR.2.1
  rw [w_dg, w_dg]
  refine nv_getI hb (q_recv (nr_byte hb hR hi ?_))
  refine qv_if (fun z => ?_) (fun z => ?_)
  · have hlt := byA_in z (by decide)
    have en : nmA tp n i = (nnA tp n (i + 1)).map fun r => (-r.1, r.2) := if_pos z
    refine qv_if (fun z => absurd z (by decide)) (fun _ => nv_getI hb ?_)
    refine nr_dg0 (i := i + 1) hb hR (by rw [i_add hi (show (1 : Int32).toInt = 1 by decide) (by omega)]; omega) hlt (fun r w j e hw => ?_) (fun e => h0 (by rw [en, e]; rfl))
    rw [if_neg (by decide)]
    exact h1 (-r) w j (by rw [en, e]; rfl) hw
  · have en : nmA tp n i = nnA tp n i := if_neg z
    refine qv_if (fun _ => nv_getI hb ?_) (fun z => absurd rfl z)
    refine nr_dg0 hb hR hi hin (fun r w j e hw => ?_) (fun e => h0 (en.trans e))
    rw [if_pos rfl]
    exact h1 r w j (en.trans e) hw
/-- reading changes this at most, of the fields -/
def Fw (fi fi' : Nat → Int32) : Prop := ∀ j, j ∉ [41, 42, 43] → fi' j = fi j
theorem Fw_rf : Fw fi fi := fun _ _ => rfl
theorem Fw_up {v : Int32} (h : Fw fi fi') (hj : j ∈ [41, 42, 43]) : Fw fi (va_up fi' j v) := fun q hq => by
  rw [va_up_ne _ _ (fun z => hq (by rw [z]; exact hj))]; exact h q hq
theorem Fw_tr {fi'' : Nat → Int32} (h : Fw fi fi') (h2 : Fw fi' fi'') : Fw fi fi'' := fun j hj => (h2 j hj).trans (h j hj)
theorem RDm_Fw (h : RDm tp n fi ar) (hf : Fw fi fi') : RDm tp n fi' ar := RDm_fr h (hf 40 (by decide)) rfl
theorem RDm_ar (h : RDm tp n fi ar) (h2 : ar' 1 = ar 1) : RDm tp n fi ar' := RDm_fr h rfl h2
/-- an argument is put down at its place -/
def putQ (ar : Nat → Nat → Int32) (p : Nat) (x : QA) : Nat → Nat → Int32 := up2 (up2 ar 46 p (Int32.ofNat x.1)) 47 p x.2
theorem nr_arg {p v : Int32} {any : Bool} (hv : v = 0 ↔ any = false) (hb : MB b) (hR : RDm tp n fi ar) (hi : (fi 41).toInt = (i : Int)) (hin : i ≤ n)
    (h1 : ∀ fi' x j, agA tp n any (blA tp n i) = some (x, j) → Fw fi fi' → (fi' 41).toInt = (j : Int) → QI 1 (mS b fi' (putQ ar (ix p) x)) → QI' 1 (mS b fi' (putQ ar (ix p) x)))
    (h0 : agA tp n any (blA tp n i) = none → ∀ fi', Fw fi fi' → QI 0 (mS b fi' ar) → QI' 0 (mS b fi' ar)) : w_X12_argument (some b.o) p v (mS b fi ar) QI X → w_X12_argument (some b.o) p v (mS b fi ar) QI' X' := by
  have h2 := hR.2.1
  unfold w_X12_argument
  refine q_recv (nr_blanks hb hR hi hin (fun w hw => ?_))
  have hF : Fw fi (va_up fi 41 w) := Fw_up Fw_rf (by decide)
  have e41 : va_up fi 41 w 41 = w := va_up_self _ _ _
  have hbn : blA tp n i ≤ n := blA_n hin
  have hR1 := RDm_Fw hR hF
  generalize va_up fi 41 w = f1 at hF e41 hR1 ⊢
  generalize blA tp n i = i1 at hw hbn h1 h0 ⊢
  have i1' : (f1 41).toInt = (i1 : Int) := by rw [e41]; exact hw
  refine nv_getI hb (q_recv (nr_byte hb hR1 i1' ?_))
  dsimp only [wJoin]
  have inc : ∀ {y : Int32}, y.toInt = (i1 : Int) → i1 < n → (y + 1).toInt = ((i1 + 1 : Nat) : Int) := fun hy hlt => by rw [i_add hy (show (1 : Int32).toInt = 1 by decide) (by omega)]; omega
  -- digits, or none
  have dig : varB (byA tp n i1) = false → (any && byA tp n i1 == 95) = false → (wRecv (mS b f1 ar) 12 (some b.o) (w_X12_digits0 (some b.o) (mS b f1 ar) (fun v15 x14 => wIf (v15 = 0) (wBit 0 (QI 0 x14)) (wGetF x14 12 46 (some b.o) fun v16 => wAstI x14 v16 p 0 fun x17 => wGetF x17 12 47 (some b.o) fun v18 => wGetI x17 12 43 (some b.o) fun v19 => wAstI x17 v18 p v19 fun x20 => wBit 1 (QI 1 x20))) X)) → (wRecv (mS b f1 ar) 12 (some b.o) (w_X12_digits0 (some b.o) (mS b f1 ar) (fun v15 x14 => wIf (v15 = 0) (wBit 0 (QI' 0 x14)) (wGetF x14 12 46 (some b.o) fun v16 => wAstI x14 v16 p 0 fun x17 => wGetF x17 12 47 (some b.o) fun v18 => wGetI x17 12 43 (some b.o) fun v19 => wAstI x17 v18 p v19 fun x20 => wBit 1 (QI' 1 x20))) X')) := fun e1 e2 => by
    have ea : agA tp n any i1 = (nmA tp n i1).map fun r => ((0, r.1), r.2) := by unfold agA; rw [e1, e2]; rfl
    refine q_recv (nr_digits0 hb hR1 i1' hbn (fun r w2 j e hw2 => ?_) (fun e => ?_))
    · refine qv_if (fun z => absurd z (by decide)) (fun _ => ?_)
      refine n_getF hb (by decide) (nv_astI hb (by decide) (by decide) (fun _ => ?_))
      refine n_getF hb (by decide) (nv_getI hb (nv_astI hb (by decide) (by decide) (fun _ => q_bit ?_)))
      rw [show va_up (va_up f1 43 r) 41 w2 43 = r by rw [va_up_ne _ _ (by decide), va_up_self]]
      refine h1 _ (0, r) j (by rw [ea, e]; rfl) (Fw_up (Fw_up hF (by decide)) (by decide)) ?_
      rw [va_up_self]; exact hw2
    · refine qv_if (fun _ => q_bit ?_) (fun z => absurd rfl z)
      exact h0 (by rw [ea, e]; rfl) f1 hF
  have nod : ¬ (byA tp n i1 = 45) → dgB tp n i1 = false → nmA tp n i1 = none := fun z1 z2 => by
    have e : dgA tp n i1 0 = (i1, 0) := by rw [dgA_step, z2]; rfl
    have : nmA tp n i1 = nnA tp n i1 := if_neg z1
    rw [this]
    unfold nnA
    rw [e]
    exact if_pos (Or.inl rfl)
  have num : varB (byA tp n i1) = false → (any && byA tp n i1 == 95) = false → (wIf (byA tp n i1 = 45) (wRecv (mS b f1 ar) 12 (some b.o) (w_X12_digits0 (some b.o) (mS b f1 ar) (fun v15 x14 => wIf (v15 = 0) (wBit 0 (QI 0 x14)) (wGetF x14 12 46 (some b.o) fun v16 => wAstI x14 v16 p 0 fun x17 => wGetF x17 12 47 (some b.o) fun v18 => wGetI x17 12 43 (some b.o) fun v19 => wAstI x17 v18 p v19 fun x20 => wBit 1 (QI 1 x20))) X)) (wRecv (mS b f1 ar) 12 (some b.o) (w_X12_isDigit (some b.o) (byA tp n i1) (mS b f1 ar) (fun v22 x21 => wIf (v22 = 0) (wBit 0 (QI 0 x21)) (wRecv x21 12 (some b.o) (w_X12_digits0 (some b.o) x21 (fun v15 x14 => wIf (v15 = 0) (wBit 0 (QI 0 x14)) (wGetF x14 12 46 (some b.o) fun v16 => wAstI x14 v16 p 0 fun x17 => wGetF x17 12 47 (some b.o) fun v18 => wGetI x17 12 43 (some b.o) fun v19 => wAstI x17 v18 p v19 fun x20 => wBit 1 (QI 1 x20))) X))) X))) →
      (wIf (byA tp n i1 = 45) (wRecv (mS b f1 ar) 12 (some b.o) (w_X12_digits0 (some b.o) (mS b f1 ar) (fun v15 x14 => wIf (v15 = 0) (wBit 0 (QI' 0 x14)) (wGetF x14 12 46 (some b.o) fun v16 => wAstI x14 v16 p 0 fun x17 => wGetF x17 12 47 (some b.o) fun v18 => wGetI x17 12 43 (some b.o) fun v19 => wAstI x17 v18 p v19 fun x20 => wBit 1 (QI' 1 x20))) X')) (wRecv (mS b f1 ar) 12 (some b.o) (w_X12_isDigit (some b.o) (byA tp n i1) (mS b f1 ar) (fun v22 x21 => wIf (v22 = 0) (wBit 0 (QI' 0 x21)) (wRecv x21 12 (some b.o) (w_X12_digits0 (some b.o) x21 (fun v15 x14 => wIf (v15 = 0) (wBit 0 (QI' 0 x14)) (wGetF x14 12 46 (some b.o) fun v16 => wAstI x14 v16 p 0 fun x17 => wGetF x17 12 47 (some b.o) fun v18 => wGetI x17 12 43 (some b.o) fun v19 => wAstI x17 v18 p v19 fun x20 => wBit 1 (QI' 1 x20))) X'))) X'))) := fun e1 e2 => by
    have ea : agA tp n any i1 = (nmA tp n i1).map fun r => ((0, r.1), r.2) := by unfold agA; rw [e1, e2]; rfl
    refine qv_if (fun _ => dig e1 e2) (fun z => q_recv (nr_digit ?_))
    show (wIf ((if dgB tp n i1 then (1 : Int32) else 0) = 0) _ _) → (wIf ((if dgB tp n i1 then (1 : Int32) else 0) = 0) _ _)
    cases hd : dgB tp n i1 with
    | true => exact qv_if (fun z => absurd z (by decide)) (fun _ => dig e1 e2)
    | false => exact qv_if (fun _ => q_bit (h0 (by rw [ea, nod z hd]; rfl) f1 hF)) (fun z => absurd rfl z)
  -- anything, or what else
  have oth : varB (byA tp n i1) = false → (wIf (v = 0) (wIf (byA tp n i1 = 45) (wRecv (mS b f1 ar) 12 (some b.o) (w_X12_digits0 (some b.o) (mS b f1 ar) (fun v15 x14 => wIf (v15 = 0) (wBit 0 (QI 0 x14)) (wGetF x14 12 46 (some b.o) fun v16 => wAstI x14 v16 p 0 fun x17 => wGetF x17 12 47 (some b.o) fun v18 => wGetI x17 12 43 (some b.o) fun v19 => wAstI x17 v18 p v19 fun x20 => wBit 1 (QI 1 x20))) X)) (wRecv (mS b f1 ar) 12 (some b.o) (w_X12_isDigit (some b.o) (byA tp n i1) (mS b f1 ar) (fun v22 x21 => wIf (v22 = 0) (wBit 0 (QI 0 x21)) (wRecv x21 12 (some b.o) (w_X12_digits0 (some b.o) x21 (fun v15 x14 => wIf (v15 = 0) (wBit 0 (QI 0 x14)) (wGetF x14 12 46 (some b.o) fun v16 => wAstI x14 v16 p 0 fun x17 => wGetF x17 12 47 (some b.o) fun v18 => wGetI x17 12 43 (some b.o) fun v19 => wAstI x17 v18 p v19 fun x20 => wBit 1 (QI 1 x20))) X))) X))) (wIf (byA tp n i1 = 95) (wGetF (mS b f1 ar) 12 46 (some b.o) fun v23 => wAstI (mS b f1 ar) v23 p 2 fun x24 => wGetF x24 12 47 (some b.o) fun v25 => wAstI x24 v25 p 0 fun x26 => wGetI x26 12 41 (some b.o) fun v27 => wPutI x26 12 41 (some b.o) (v27 + 1) fun x28 => wBit 1 (QI 1 x28)) (wIf (byA tp n i1 = 45) (wRecv (mS b f1 ar) 12 (some b.o) (w_X12_digits0 (some b.o) (mS b f1 ar) (fun v15 x14 => wIf (v15 = 0) (wBit 0 (QI 0 x14)) (wGetF x14 12 46 (some b.o) fun v16 => wAstI x14 v16 p 0 fun x17 => wGetF x17 12 47 (some b.o) fun v18 => wGetI x17 12 43 (some b.o) fun v19 => wAstI x17 v18 p v19 fun x20 => wBit 1 (QI 1 x20))) X)) (wRecv (mS b f1 ar) 12 (some b.o) (w_X12_isDigit (some b.o) (byA tp n i1) (mS b f1 ar) (fun v22 x21 => wIf (v22 = 0) (wBit 0 (QI 0 x21)) (wRecv x21 12 (some b.o) (w_X12_digits0 (some b.o) x21 (fun v15 x14 => wIf (v15 = 0) (wBit 0 (QI 0 x14)) (wGetF x14 12 46 (some b.o) fun v16 => wAstI x14 v16 p 0 fun x17 => wGetF x17 12 47 (some b.o) fun v18 => wGetI x17 12 43 (some b.o) fun v19 => wAstI x17 v18 p v19 fun x20 => wBit 1 (QI 1 x20))) X))) X))))) →
      (wIf (v = 0) (wIf (byA tp n i1 = 45) (wRecv (mS b f1 ar) 12 (some b.o) (w_X12_digits0 (some b.o) (mS b f1 ar) (fun v15 x14 => wIf (v15 = 0) (wBit 0 (QI' 0 x14)) (wGetF x14 12 46 (some b.o) fun v16 => wAstI x14 v16 p 0 fun x17 => wGetF x17 12 47 (some b.o) fun v18 => wGetI x17 12 43 (some b.o) fun v19 => wAstI x17 v18 p v19 fun x20 => wBit 1 (QI' 1 x20))) X')) (wRecv (mS b f1 ar) 12 (some b.o) (w_X12_isDigit (some b.o) (byA tp n i1) (mS b f1 ar) (fun v22 x21 => wIf (v22 = 0) (wBit 0 (QI' 0 x21)) (wRecv x21 12 (some b.o) (w_X12_digits0 (some b.o) x21 (fun v15 x14 => wIf (v15 = 0) (wBit 0 (QI' 0 x14)) (wGetF x14 12 46 (some b.o) fun v16 => wAstI x14 v16 p 0 fun x17 => wGetF x17 12 47 (some b.o) fun v18 => wGetI x17 12 43 (some b.o) fun v19 => wAstI x17 v18 p v19 fun x20 => wBit 1 (QI' 1 x20))) X'))) X'))) (wIf (byA tp n i1 = 95) (wGetF (mS b f1 ar) 12 46 (some b.o) fun v23 => wAstI (mS b f1 ar) v23 p 2 fun x24 => wGetF x24 12 47 (some b.o) fun v25 => wAstI x24 v25 p 0 fun x26 => wGetI x26 12 41 (some b.o) fun v27 => wPutI x26 12 41 (some b.o) (v27 + 1) fun x28 => wBit 1 (QI' 1 x28)) (wIf (byA tp n i1 = 45) (wRecv (mS b f1 ar) 12 (some b.o) (w_X12_digits0 (some b.o) (mS b f1 ar) (fun v15 x14 => wIf (v15 = 0) (wBit 0 (QI' 0 x14)) (wGetF x14 12 46 (some b.o) fun v16 => wAstI x14 v16 p 0 fun x17 => wGetF x17 12 47 (some b.o) fun v18 => wGetI x17 12 43 (some b.o) fun v19 => wAstI x17 v18 p v19 fun x20 => wBit 1 (QI' 1 x20))) X')) (wRecv (mS b f1 ar) 12 (some b.o) (w_X12_isDigit (some b.o) (byA tp n i1) (mS b f1 ar) (fun v22 x21 => wIf (v22 = 0) (wBit 0 (QI' 0 x21)) (wRecv x21 12 (some b.o) (w_X12_digits0 (some b.o) x21 (fun v15 x14 => wIf (v15 = 0) (wBit 0 (QI' 0 x14)) (wGetF x14 12 46 (some b.o) fun v16 => wAstI x14 v16 p 0 fun x17 => wGetF x17 12 47 (some b.o) fun v18 => wGetI x17 12 43 (some b.o) fun v19 => wAstI x17 v18 p v19 fun x20 => wBit 1 (QI' 1 x20))) X'))) X'))))) := fun e1 => by
    refine qv_if (fun z => num e1 (by rw [hv.mp z]; rfl)) (fun z => qv_if (fun z2 => ?_) (fun z2 => num e1 ?_))
    · have hlt := byA_in z2 (by decide)
      have ha : any = true := by
        cases hy : any with
        | true => rfl
        | false => exact absurd (hv.mpr hy) z
      have ea : agA tp n any i1 = some ((2, 0), i1 + 1) := by unfold agA; rw [e1, ha, z2]; rfl
      refine n_getF hb (by decide) (nv_astI hb (by decide) (by decide) (fun _ => ?_))
      refine n_getF hb (by decide) (nv_astI hb (by decide) (by decide) (fun _ => ?_))
      refine nv_getI hb (nv_putI hb (q_bit ?_))
      refine h1 _ (2, 0) (i1 + 1) ea (Fw_up hF (by decide)) ?_
      rw [va_up_self]; exact inc i1' hlt
    · rw [Bool.and_eq_false_iff]
      right
      exact beq_eq_false_iff_ne.mpr z2
  refine qv_if (fun z => ?_) (fun z => qv_if (fun z2 => ?_) (fun z2 => ?_))
  · simp only [i32, Int32.reduceToInt] at z
    exact oth (by unfold varB; exact decide_eq_false (by omega))
  · simp only [i32, Int32.reduceToInt] at z2
    exact oth (by unfold varB; exact decide_eq_false (by omega))
  · simp only [i32, Int32.reduceToInt] at z z2
    have hvb : varB (byA tp n i1) = true := by unfold varB; exact decide_eq_true (by omega)
    have hlt := byA_in (tp := tp) (n := n) (i := i1) rfl (varB_ne hvb)
    have ea : agA tp n any i1 = some ((1, byA tp n i1 - 65), i1 + 1) := by unfold agA; rw [hvb]; rfl
    refine n_getF hb (by decide) (nv_astI hb (by decide) (by decide) (fun _ => ?_))
    refine n_getF hb (by decide) (nv_astI hb (by decide) (by decide) (fun _ => ?_))
    refine nv_getI hb (nv_putI hb (q_bit ?_))
    refine h1 _ (1, byA tp n i1 - 65) (i1 + 1) ea (Fw_up hF (by decide)) ?_
    rw [va_up_self]; exact inc i1' hlt
end NR2
