set_option linter.unusedVariables false
set_option linter.unusedSimpArgs false
/-! the reference: a goal -/
section NR5
variable {b : MT} {fi fi' : Nat → Int32} {ar ar' ar'' : Nat → Nat → Int32} {tp : Nat → Int32} {n i j k g t c kd : Nat} {tn : Int32} {co : Nat → Int32} {kn : Nat → Bool} {x : QA} {L : List QA} {X X' : String → HS → Prop} {Q Q' : HS → Prop} {QI QI' : Int32 → HS → Prop}
/-- the tables, as the reader finds them -/
def TBm (tn : Int32) (co : Nat → Int32) (fi : Nat → Int32) (ar : Nat → Nat → Int32) : Prop := fi 10 = tn ∧ ∀ t : Nat, (t : Int) < tn.toInt → ar 4 t = co t ∧ 1 ≤ (co t).toInt ∧ (co t).toInt ≤ 4
theorem TBm_fr (h : TBm tn co fi ar) (hF : Fw fi fi') (hW : Wq g ar ar') : TBm tn co fi' ar' := by
  unfold TBm
  rw [hF 10 (by decide), hW.1 4 (by decide)]; exact h
theorem nr_tgoal {gv : Int32} (hb : MB b) (hR : RDm tp n fi ar) (hT : TBm tn co fi ar) (hg : gv.toInt = (g : Int)) (hg1 : g < 10) (h44 : ar 44 g = Int32.ofNat kd) (hkd : kd ≤ 1) (hk : KnR (ar 48 g) kn) (hi : (fi 41).toInt = (i : Int)) (hin : i ≤ n) (h116 : byA tp n i = 116)
    (h : ∀ fi' ar' t L j, tgA tp n tn co i = some ((t, L), j) → j ≤ n → Fw fi fi' → Wq g ar ar' → (fi' 41).toInt = (j : Int) → GoM g (kd, t, L, kn) ar' → (∀ x, x ∈ L → argOk x) → KnR (ar' 48 (g + 1)) (if kd = 0 then mkKn kn L else kn) → QI 1 (mS b fi' ar') → QI' 1 (mS b fi' ar'))
    (hN : tgA tp n tn co i = none → ∀ fi' ar', Fw fi fi' → Wq g ar ar' → QI 0 (mS b fi' ar') → QI' 0 (mS b fi' ar')) : w_X12_tableGoal (some b.o) gv (mS b fi ar) QI X → w_X12_tableGoal (some b.o) gv (mS b fi ar) QI' X' := by
  have hn4 := hR.2.1
  have hlt := byA_in h116 (by decide)
  rw [w_tm, w_tm]
  refine nv_getI hb (nv_getI hb (nv_putI hb (nv_getI hb ?_)))
  have hF1 : Fw fi (va_up fi 41 (fi 41 + 1)) := Fw_up Fw_rf (by decide)
  have e1 : (va_up fi 41 (fi 41 + 1) 41).toInt = ((i + 1 : Nat) : Int) := by rw [va_up_self, i_add hi (show (1 : Int32).toInt = 1 by decide) (by omega)]; omega
  generalize va_up fi 41 (fi 41 + 1) = f1 at hF1 e1 ⊢
  have hR1 := RDm_Fw hR hF1
  have et : tgA tp n tn co i = (nnA tp n (i + 1)).bind fun r => if (0 ≤ r.1.toInt ∧ r.1.toInt < tn.toInt) ∧ byA tp n (blA tp n r.2) = 40 then (taA tp n ((co (ix r.1)).toInt.toNat - 1) (blA tp n r.2 + 1)).bind fun s => if byA tp n s.2 = 41 then some ((ix r.1, s.1), s.2 + 1) else none else none := if_pos h116
  obtain ⟨l1, l2⟩ := dgA_le (tp := tp) (n := n) (n - (i + 1)) (i + 1) 0 (Nat.le_refl _) hlt
  refine q_recv (nr_digits hb hR1 e1 hlt (fun w hw => ?_))
  have w0 : w = 0 ↔ (dgA tp n (i + 1) 0).1 = i + 1 := ⟨fun z => by rw [z] at hw; have : (0 : Int32).toInt = 0 := by decide
                                                                   omega, fun z => i_ext (by rw [hw, z]; show _ = (0 : Int32).toInt; have : (0 : Int32).toInt = 0 := by decide
                                                                                             omega)⟩
  refine qv_if (fun z => nv_getI hb (nr_wr hb (fun f2 hF2 => hN ?_ f2 ar (Fw_tr hF1 hF2) Wq_rf))) (fun z => qv_if (fun z2 => ?_) (fun z2 => nr_wr hb (fun f2 hF2 => hN ?_ f2 ar (Fw_tr hF1 hF2) Wq_rf)))
  · have : nnA tp n (i + 1) = none := by unfold nnA; rw [if_pos (Or.inl (w0.mp z))]
    rw [et, this]; rfl
  · simp only [i32, Int32.reduceToInt] at z2
    have hdg : dgB tp n (i + 1) = true := by
      cases hd : dgB tp n (i + 1) with
      | true => rfl
      | false =>
        exfalso
        apply z
        rw [w0, dgA_step, hd]; rfl
    have h45 : ¬ byA tp n (i + 1) = 45 := fun y => by
      unfold dgB at hdg
      rw [y] at hdg
      exact absurd hdg (by decide)
    have hnn : nnA tp n (i + 1) = some ((dgA tp n (i + 1) 0).2, (dgA tp n (i + 1) 0).1) := by
      unfold nnA
      rw [if_neg (fun y => y.elim (fun y => z (w0.mpr y)) (fun y => by omega))]
    have hnm : nmA tp n (i + 1) = nnA tp n (i + 1) := if_neg h45
    refine q_recv (nr_digits0 hb hR1 e1 hlt (fun r w2 j e hw2 => ?_) (fun e => by rw [hnm, hnn] at e; cases e))
    rw [hnm] at e
    have hj := (nnA_le hlt e).2
    rw [e] at et
    have et : tgA tp n tn co i = if (0 ≤ r.toInt ∧ r.toInt < tn.toInt) ∧ byA tp n (blA tp n j) = 40 then (taA tp n ((co (ix r)).toInt.toNat - 1) (blA tp n j + 1)).bind fun s => if byA tp n s.2 = 41 then some ((ix r, s.1), s.2 + 1) else none else none := et
    have hF2 : Fw fi (va_up (va_up f1 43 r) 41 w2) := Fw_up (Fw_up hF1 (by decide)) (by decide)
    have e43 : va_up (va_up f1 43 r) 41 w2 43 = r := by rw [va_up_ne _ _ (by decide), va_up_self]
    have e41 : (va_up (va_up f1 43 r) 41 w2 41).toInt = (j : Int) := by rw [va_up_self]; exact hw2
    generalize va_up (va_up f1 43 r) 41 w2 = f2 at hF2 e43 e41 ⊢
    refine n_getF hb (by decide) (nv_getI hb (nv_astI hb (by decide) (by decide) (fun _ => nv_getI hb ?_)))
    rw [ix_of hg, e43]
    have hW2 : Wq g ar (up2 ar 45 g r) := Wq_45
    have a45 : up2 ar 45 g r 45 g = r := up2_self _ _ _ _
    have a44 : up2 ar 45 g r 44 g = ar 44 g := if_neg (fun y => absurd y.1 (by decide))
    generalize up2 ar 45 g r = ar2 at hW2 a45 a44 ⊢
    have hR2 : RDm tp n f2 ar2 := RDm_Wq (RDm_Fw hR hF2) hW2
    have hT2 := TBm_fr hT hF2 hW2
    refine q_recv (nr_isTable hb ?_)
    rw [hT2.1]
    by_cases hrt : 0 ≤ r.toInt ∧ r.toInt < tn.toInt
    · rw [decide_eq_true hrt]
      refine qv_if (fun z => absurd z (by decide)) (fun _ => ?_)
      refine q_recv (nr_take (by decide) hb hR2 e41 hj (fun w3 e40 hlt3 hw3 => ?_) (fun w3 e40 hw3 => ?_))
      · refine qv_if (fun z => absurd z (by decide)) (fun _ => ?_)
        have ht : ((ix r : Nat) : Int) < tn.toInt := by rw [ix_int hrt.1]; exact hrt.2
        obtain ⟨c1, c2, c3⟩ := hT2.2 _ ht
        rw [if_pos ⟨hrt, e40⟩] at et
        have hF3 : Fw fi (va_up f2 41 w3) := Fw_up hF2 (by decide)
        have ez : tgA tp n tn co i = (tzA tp n (co (ix r)).toInt.toNat (blA tp n j + 1)).map fun s => ((ix r, s.1), s.2) := by
          rw [et]
          unfold tzA
          cases taA tp n ((co (ix r)).toInt.toNat - 1) (blA tp n j + 1) with
          | none => rfl
          | some s =>
            show (if byA tp n s.2 = 41 then _ else _) = Option.map _ (if byA tp n s.2 = 41 then _ else _)
            split <;> rfl
        refine nr_tmLoop (t := ix r) (c := (co (ix r)).toInt.toNat) (kd := kd) (r := r) hb (RDm_Fw hR2 (Fw_up Fw_rf (by decide))) hg hg1 a45 c1 (by omega) (by omega) (a44.trans h44) hkd (by rw [hW2.2.2.2 g (by omega)]; exact hk) (by rw [va_up_self]; exact hw3) hlt3 (fun f4 ar4 L j4 e4 hj4 hF4 hW4 i4 ag4 ok4 a44' a45' kk4 => ?_) (fun e4 f4 ar4 hF4 hW4 => hN (by rw [ez, e4]; rfl) f4 ar4 (Fw_tr hF3 hF4) (Wq_tr hW2 hW4))
        refine h f4 ar4 (ix r) L j4 (by rw [ez, e4]; rfl) hj4 (Fw_tr hF3 hF4) (Wq_tr hW2 hW4) i4 ⟨a44'.trans (a44.trans h44), fun _ => by rw [a45']; exact (ix_int hrt.1).symm, ag4, ?_⟩ ok4 kk4
        show KnR (ar4 48 g) kn
        rw [hW4.2.2.2 g (by omega), hW2.2.2.2 g (by omega)]; exact hk
      · refine qv_if (fun _ => nv_getI hb (nr_wr hb (fun f4 hF4 => hN ?_ f4 ar2 (Fw_tr (Fw_up hF2 (by decide)) hF4) hW2))) (fun z => absurd rfl z)
        rw [et, if_neg (fun y => e40 y.2)]
    · rw [decide_eq_false hrt]
      refine qv_if (fun _ => nr_wr hb (fun f4 hF4 => hN ?_ f4 ar2 (Fw_tr hF2 hF4) hW2)) (fun z => absurd rfl z)
      rw [et, if_neg (fun y => hrt y.1)]
  · have : nnA tp n (i + 1) = none := by
      unfold nnA
      simp only [i32, Int32.reduceToInt] at z2
      rw [if_pos (Or.inr (by omega))]
    rw [et, this]; rfl
end NR5
/-! a sign's goal -/
def w_omEnd (l0 : Option Nat) (l1 : Int32) (v26 : Int32) (v23 : Option Nat) (x25 : HS) (Q : Int32 → HS → Prop) (X : String → HS → Prop) : Prop :=
 wAstI x25 v23 l1 v26 fun x27 =>
 wGetI x27 12 41 l0 fun v28 =>
 wPutI x27 12 41 l0 (v28 + 1) fun x29 =>
 wRecv x29 12 l0
 (w_X12_knownArgument l0 l1 (((5 : Int32) * l1) + 1) x29 (fun v31 x30 =>
 wBit v31 (Q v31 x30)) X)
def w_omCmp (l0 : Option Nat) (l1 v1 v14 : Int32) (x18 : HS) (Q : Int32 → HS → Prop) (X : String → HS → Prop) : Prop :=
 wRecv x18 12 l0
 (w_X12_isKnown l0 l1 ((5 : Int32) * l1) x18 (fun v20 x19 =>
 wIf (v20 = 0)
 (wRecv x19 12 l0
 (w_X12_wrong l0 v1 x19 (fun v22 x21 =>
 wBit v22 (Q v22 x21)) X))
 (wGetF x19 12 44 l0 fun v23 =>
 wIf (v14 = 60)
 (w_omEnd l0 l1 2 v23 x19 Q X)
 (wIf (v14 = 61)
 (w_omEnd l0 l1 3 v23 x19 Q X)
 (w_omEnd l0 l1 4 v23 x19 Q X)))) X)
def w_omC (l0 : Option Nat) (l1 v1 v14 : Int32) (x16 : HS) (Q : Int32 → HS → Prop) (X : String → HS → Prop) : Prop :=
 wIf (v14 = 60)
 (w_omCmp l0 l1 v1 v14 x16 Q X)
 (wIf (v14 = 61)
 (w_omCmp l0 l1 v1 v14 x16 Q X)
 (wIf (v14 = 35)
 (w_omCmp l0 l1 v1 v14 x16 Q X)
 (wGetI x16 12 41 l0 fun v32 =>
 wRecv x16 12 l0
 (w_X12_wrong l0 v32 x16 (fun v34 x33 =>
 wBit v34 (Q v34 x33)) X))))
def w_omSet (l0 : Option Nat) (l1 v53 : Int32) (v50 : Option Nat) (x52 : HS) (Q : Int32 → HS → Prop) (X : String → HS → Prop) : Prop :=
 wAstI x52 v50 l1 v53 fun x54 =>
 wGetI x54 12 41 l0 fun v55 =>
 wPutI x54 12 41 l0 (v55 + 1) fun x56 =>
 wRecv x56 12 l0
 (w_X12_knownArgument l0 l1 (((5 : Int32) * l1) + 2) x56 (fun v58 x57 =>
 wIf (v58 = 0)
 (wBit 0 (Q 0 x57))
 (wGetF x57 12 48 l0 fun v59 =>
 wAldJ x57 20 v59 (l1 + 1) fun v60 =>
 wGetF x57 12 47 l0 fun v61 =>
 wAldJ x57 20 v61 ((5 : Int32) * l1) fun v62 =>
 wAstI x57 v59 (l1 + 1) (v60 ||| ((1 : Int32) <<< (v62 &&& 31))) fun x63 =>
 wBit 1 (Q 1 x63))) X)
def w_omOp (l0 : Option Nat) (l1 v47 : Int32) (x49 : HS) (Q : Int32 → HS → Prop) (X : String → HS → Prop) : Prop :=
 wGetF x49 12 44 l0 fun v50 =>
 wIf (v47 = 43)
 (w_omSet l0 l1 5 v50 x49 Q X)
 (wIf (v47 = 45)
 (w_omSet l0 l1 6 v50 x49 Q X)
 (w_omSet l0 l1 7 v50 x49 Q X))
theorem w_om (l0 : Option Nat) (l1 : Int32) (x : HS) (Q : Int32 → HS → Prop) (X : String → HS → Prop) : w_X12_otherGoal l0 l1 x Q X = wGetI x 12 41 l0 fun v1 => wRecv x 12 l0 (w_X12_argument l0 ((5 : Int32) * l1) 0 x (fun v3 x2 => wIf (v3 = 0) (wRecv x2 12 l0 (w_X12_wrong l0 v1 x2 (fun v5 x4 => wBit v5 (Q v5 x4)) X)) (wGetF x2 12 48 l0 fun v6 => wGetF x2 12 48 l0 fun v7 => wAldJ x2 20 v7 l1 fun v8 => wAstI x2 v6 (l1 + 1) v8 fun x9 => wRecv x9 12 l0 (w_X12_blanks l0 x9 (fun x10 => wGetI x10 12 41 l0 fun v12 => wRecv x10 12 l0 (w_X12_byteAt l0 v12 x10 (fun v14 x13 => wIf (v14 = 58) (wGetF x13 12 46 l0 fun v35 => wAldJ x13 20 v35 ((5 : Int32) * l1) fun v36 => wIf (v36 = 1) (wRecv x13 12 l0 (w_X12_isKnown l0 l1 ((5 : Int32) * l1) x13 (fun v38 x37 => wIf (v38 = 0) (wGetI x37 12 41 l0 fun v39 => wPutI x37 12 41 l0 (v39 + 1) fun x40 => wRecv x40 12 l0 (w_X12_knownArgument l0 l1 (((5 : Int32) * l1) + 1) x40 (fun v42 x41 => wIf (v42 = 0) (wBit 0 (Q 0 x41)) (wRecv x41 12 l0 (w_X12_blanks l0 x41 (fun x43 => wGetI x43 12 41 l0 fun v45 => wRecv x43 12 l0 (w_X12_byteAt l0 v45 x43 (fun v47 x46 => wIf (v47 = 43) (w_omOp l0 l1 v47 x46 Q X) (wIf (v47 = 45) (w_omOp l0 l1 v47 x46 Q X) (wIf (v47 = 42) (w_omOp l0 l1 v47 x46 Q X) (wGetI x46 12 41 l0 fun v64 => wRecv x46 12 l0 (w_X12_wrong l0 v64 x46 (fun v66 x65 => wBit v66 (Q v66 x65)) X))))) X)) X))) X)) (wRecv x37 12 l0 (w_X12_wrong l0 v1 x37 (fun v68 x67 => wBit v68 (Q v68 x67)) X))) X)) (w_omC l0 l1 v1 v14 x13 Q X)) (w_omC l0 l1 v1 v14 x13 Q X)) X)) X))) X) := rfl
