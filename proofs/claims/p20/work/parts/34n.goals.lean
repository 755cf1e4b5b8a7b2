set_option linter.unusedVariables false
set_option linter.unusedSimpArgs false
/-! a question's goals -/
/-- only the goal g's rows have changed -/
def RQ (g : Nat) (ar ar' : Nat → Nat → Int32) : Prop := (∀ j, j ∉ [44, 45, 46, 47, 48] → ar' j = ar j) ∧ (∀ q, q ≠ g → ar' 44 q = ar 44 q ∧ ar' 45 q = ar 45 q) ∧ ∀ p, p < 5 * g ∨ 5 * g + 5 ≤ p → ar' 46 p = ar 46 p ∧ ar' 47 p = ar 47 p
theorem RQ_rf (g : Nat) (ar : Nat → Nat → Int32) : RQ g ar ar := ⟨fun _ _ => rfl, fun _ _ => ⟨rfl, rfl⟩, fun _ _ => ⟨rfl, rfl⟩⟩
theorem RQ_trans {g : Nat} {a1 a2 a3 : Nat → Nat → Int32} (h1 : RQ g a1 a2) (h2 : RQ g a2 a3) : RQ g a1 a3 :=
  ⟨fun j hj => by rw [h2.1 j hj, h1.1 j hj], fun q hq => by rw [(h2.2.1 q hq).1, (h2.2.1 q hq).2]; exact h1.2.1 q hq, fun p hp => by rw [(h2.2.2 p hp).1, (h2.2.2 p hp).2]; exact h1.2.2 p hp⟩
theorem RQ_arg {g p : Nat} {a1 a2 : Nat → Nat → Int32} (h : AQ p a1 a2) (h1 : 5 * g ≤ p) (h2 : p < 5 * g + 5) : RQ g a1 a2 :=
  ⟨fun j hj => by
    simp only [List.mem_cons, List.not_mem_nil, or_false, not_or] at hj
    exact h.1 j hj.2.2.1 hj.2.2.2.1, fun q hq => by rw [h.1 44 (by decide) (by decide), h.1 45 (by decide) (by decide)]; exact ⟨rfl, rfl⟩, fun q hq => h.2 q (by omega)⟩
theorem RQ_kn {g i : Nat} {v : Int32} {ar : Nat → Nat → Int32} : RQ g ar (up2 ar 48 i v) :=
  ⟨fun j hj => by
    simp only [List.mem_cons, List.not_mem_nil, or_false, not_or] at hj
    exact up2_rn _ _ _ hj.2.2.2.2, fun q hq => ⟨by rw [up2_rn _ _ _ (by decide)], by rw [up2_rn _ _ _ (by decide)]⟩, fun q hq => ⟨by rw [up2_rn _ _ _ (by decide)], by rw [up2_rn _ _ _ (by decide)]⟩⟩
theorem RQ_g44 {g : Nat} {v : Int32} {ar : Nat → Nat → Int32} : RQ g ar (up2 ar 44 g v) :=
  ⟨fun j hj => by
    simp only [List.mem_cons, List.not_mem_nil, or_false, not_or] at hj
    exact up2_rn _ _ _ hj.1, fun q hq => ⟨by rw [up2_rs, va_up_ne _ _ hq], by rw [up2_rn _ _ _ (by decide)]⟩, fun q hq => ⟨by rw [up2_rn _ _ _ (by decide)], by rw [up2_rn _ _ _ (by decide)]⟩⟩
theorem RQ_g45 {g : Nat} {v : Int32} {ar : Nat → Nat → Int32} : RQ g ar (up2 ar 45 g v) :=
  ⟨fun j hj => by
    simp only [List.mem_cons, List.not_mem_nil, or_false, not_or] at hj
    exact up2_rn _ _ _ hj.2.1, fun q hq => ⟨by rw [up2_rn _ _ _ (by decide)], by rw [up2_rs, va_up_ne _ _ hq]⟩, fun q hq => ⟨by rw [up2_rn _ _ _ (by decide)], by rw [up2_rn _ _ _ (by decide)]⟩⟩
/-- the goal g can be asked for -/
def GoalOK (tables : Int) (g : Nat) (ar : Nat → Nat → Int32) : Prop :=
  ((ar 44 g = 0 ∨ ar 44 g = 1) ∧ 0 ≤ (ar 45 g).toInt ∧ (ar 45 g).toInt < tables ∧ ∀ k : Nat, k < 5 → (k : Int) < (ar 4 (ix (ar 45 g))).toInt → OKp ar (5 * g + k)) ∨
  (((ar 44 g = 2 ∨ ar 44 g = 3) ∨ ar 44 g = 4) ∧ OKp ar (5 * g) ∧ OKp ar (5 * g + 1)) ∨
  (((ar 44 g = 5 ∨ ar 44 g = 6) ∨ ar 44 g = 7) ∧ OKp ar (5 * g) ∧ OKp ar (5 * g + 1) ∧ OKp ar (5 * g + 2) ∧ ar 46 (5 * g) = 1)
theorem p5 {g k : Int32} (hg : wIn g 11) (hk : wIn k 5) : wIn ((5 : Int32) * g + k) 55 ∧ ix ((5 : Int32) * g + k) = 5 * ix g + ix k := by
  obtain ⟨g1, g2⟩ := hg
  obtain ⟨k1, k2⟩ := hk
  have e1 : ((5 : Int32) * g).toInt = 5 * g.toInt := i_mul (by decide) rfl (by omega)
  have e2 : ((5 : Int32) * g + k).toInt = 5 * g.toInt + k.toInt := i_add e1 rfl (by omega)
  have e3 : ((ix g : Nat) : Int) = g.toInt := ix_int g1
  have e4 : ((ix k : Nat) : Int) = k.toInt := ix_int k1
  exact ⟨⟨by omega, by omega⟩, ix_of (by omega)⟩
theorem p50 {g : Int32} (hg : wIn g 11) : wIn ((5 : Int32) * g) 55 ∧ ix ((5 : Int32) * g) = 5 * ix g := by
  obtain ⟨g1, g2⟩ := hg
  have e1 : ((5 : Int32) * g).toInt = 5 * g.toInt := i_mul (by decide) rfl (by omega)
  have e3 : ((ix g : Nat) : Int) = g.toInt := ix_int g1
  exact ⟨⟨by omega, by omega⟩, ix_of (by omega)⟩
theorem g12 {g : Int32} (hg : wIn g 11) : wIn g 12 ∧ wIn (g + 1) 12 := by
  obtain ⟨g1, g2⟩ := hg
  have e1 : (g + 1).toInt = g.toInt + 1 := i_add rfl (by decide) (by omega)
  exact ⟨⟨g1, by omega⟩, by omega, by omega⟩
section S14
variable {b : MT} {fi : Nat → Int32} {ar : Nat → Nat → Int32} {X : String → HS → Prop} {Q : Int32 → HS → Prop}
theorem s_isKnown (hb : MB b) {g p : Int32} (hg : wIn g 12) (hp : wIn p 55) (hQ : ∀ r : Int32, (r = 0 ∨ r = 1) → Q r (mS b fi ar)) : w_X12_isKnown (some b.o) g p (mS b fi ar) Q X := by
  simp only [w_X12_isKnown, wJoin, wIf, mw hb, hg, hp, true_and, wBit0, wBit1]
  exact ⟨fun _ => ⟨fun _ => hQ _ (Or.inr rfl), fun _ => hQ _ (Or.inl rfl)⟩, fun _ => hQ _ (Or.inr rfl)⟩
theorem s_knownArgument (hb : MB b) {g p : Int32} (hg : wIn g 12) (hp : wIn p 55) (hA : AT fi) (hQ : ∀ (r : Int32) (fi' : Nat → Int32) (ar' : Nat → Nat → Int32), (r = 0 ∨ r = 1) → FQ fi fi' → AQ (ix p) ar ar' → (r = 1 → OKp ar' (ix p)) → Q r (mS b fi' ar')) : w_X12_knownArgument (some b.o) g p (mS b fi ar) Q X := by
  simp only [w_X12_knownArgument, m_recv hb]
  refine s_blanks hb hA (fun a h1 h2 => ?_)
  have hF : FQ fi (va_up fi 41 a) := FQ_at (by have := hA.1; omega) h2
  have hA1 := FQ_AT hF hA
  simp only [m_getI hb, m_recv hb]
  refine s_argument hb p 0 hp hA1 (fun r fi2 ar2 hr hf ha hok => ?_)
  have hA2 := FQ_AT hf hA1
  have hf2 := FQ_trans hF hf
  refine wJoin_i (fun K => K (mS b fi2 ar2)) ?_ (fun K hK => ⟨fun _ => hK, fun hr1 => ?_⟩)
  · rw [m_recv hb]
    refine s_wrong hb _ hA2 (fun fi3 hf3 => ?_)
    rw [wBit0]
    exact hQ _ _ _ (Or.inl rfl) (FQ_trans hf2 hf3) ha (fun z => absurd z (by decide))
  · rw [m_recv hb]
    refine s_isKnown hb hg hp (fun r2 hr2 => ⟨fun _ => hK, fun _ => ?_⟩)
    rw [wBit1]
    exact hQ _ _ _ (Or.inr rfl) hf2 ha (fun _ => hok (hr.resolve_left hr1))
/-- what reading the goal g does -/
def RDQ (b : MT) (g : Nat) (fi : Nat → Int32) (ar : Nat → Nat → Int32) (Q : Int32 → HS → Prop) : Prop := ∀ (r : Int32) (fi' : Nat → Int32) (ar' : Nat → Nat → Int32), (r = 0 ∨ r = 1) → FQ fi fi' → RQ g ar ar' → (r = 1 → GoalOK (fi 10).toInt g ar') → Q r (mS b fi' ar')
theorem s_tableGoal (hb : MB b) {g : Int32} (hg : wIn g 11) (hA : AT fi) (hlt : (fi 41).toInt < (fi 40).toInt) (hT : GT (fi 10).toInt (ar 4) (ar 6)) (h12 : (fi 10).toInt ≤ 12) (hk : ar 44 (ix g) = 0 ∨ ar 44 (ix g) = 1) (hQ : RDQ b (ix g) fi ar Q) : w_X12_tableGoal (some b.o) g (mS b fi ar) Q X := by
  obtain ⟨a1, a2, a3⟩ := id hA
  obtain ⟨gg1, gg2⟩ := g12 hg
  have e1 : (fi 41 + 1).toInt = (fi 41).toInt + 1 := i_add rfl (by decide) (by omega)
  have hF : FQ fi (va_up fi 41 (fi 41 + 1)) := FQ_at (by omega) (by omega)
  have hA1 := FQ_AT hF hA
  have hno : ∀ (w : Int32) (fi2 : Nat → Int32) (ar2 : Nat → Nat → Int32), FQ fi fi2 → RQ (ix g) ar ar2 → w_X12_wrong (some b.o) w (mS b fi2 ar2) (fun v9 x8 => wBit v9 (Q v9 x8)) X := fun w fi2 ar2 hf hr => s_wrong hb w (FQ_AT hf hA) (fun fi3 hf3 => by
    rw [wBit0]
    exact hQ _ _ _ (Or.inl rfl) (FQ_trans hf hf3) hr (fun z => absurd z (by decide)))
  simp only [w_X12_tableGoal]
  simp only [m_getI hb, m_recv hb, m_putI hb, va_up_self]
  refine s_digits hb _ (by omega) (by omega) a3 (fun n n0 n1 => ⟨fun _ => ?_, fun _ => ⟨fun _ => ?_, fun _ => ?_⟩⟩)
  · rw [m_getI hb, m_recv hb]; exact hno _ _ _ hF (RQ_rf _ _)
  · rw [m_recv hb]
    refine s_digits0 hb hA1 (fun r1 fi2 hr1 hf2 => ?_)
    have hF2 := FQ_trans hF hf2
    have hA2 := FQ_AT hF2 hA
    have e10 : fi2 10 = fi 10 := hF2.1 10 (by decide) (by decide) (by decide)
    simp only [m_getI hb, mw hb, hg, true_and]
    rw [m_isT hb]
    refine ⟨fun _ => ?_, fun hi => ?_⟩
    · rw [m_recv hb]; exact hno _ _ _ hF2 RQ_g45
    rw [e10] at hi
    have hi1 : 0 ≤ (fi2 43).toInt ∧ (fi2 43).toInt < (fi 10).toInt := by simp only [i32, Int32.reduceToInt] at hi; exact hi
    have hti : ((ix (fi2 43) : Nat) : Int) = (fi2 43).toInt := ix_int hi1.1
    have ht12 : wIn (fi2 43) 12 := ⟨hi1.1, by omega⟩
    have hc := hT (ix (fi2 43)) (by omega)
    generalize hcc : ar 4 (ix (fi2 43)) = cols at hc
    generalize htt : fi2 43 = tt at *
    rw [m_recv hb]
    refine s_take hb 40 (by decide) hA2 (fun r2 a hr2 h1 h2 => ?_)
    have hF3 := FQ_trans hF2 (FQ_at (fi := fi2) (a := a) (by have := hA2.1; omega) h2)
    refine ⟨fun _ => ?_, fun _ => ?_⟩
    · rw [m_getI hb, m_recv hb]; exact hno _ _ _ hF3 RQ_g45
    · refine wLoop_i (fun n v x => ∃ fi' ar', x = mS b fi' ar' ∧ FQ fi fi' ∧ RQ (ix g) ar ar' ∧ ar' 44 (ix g) = ar 44 (ix g) ∧ ar' 45 (ix g) = tt ∧ 0 ≤ v.1.toInt ∧ v.1.toInt ≤ cols.toInt ∧ n = (cols.toInt - v.1.toInt).toNat ∧ ∀ k : Nat, (k : Int) < v.1.toInt → OKp ar' (5 * ix g + k)) cols.toInt.toNat ?_ ?_
      · refine ⟨_, _, rfl, hF3, RQ_g45, rfl, by rw [up2_rs, va_up_self], by decide, ?_, ?_, ?_⟩
        · show (0 : Int32).toInt ≤ _; simp only [Int32.reduceToInt]; omega
        · show _ = (cols.toInt - (0 : Int32).toInt).toNat; simp only [Int32.reduceToInt]; omega
        · intro k hk; exact absurd hk (by show ¬ (k : Int) < (0 : Int32).toInt; simp only [Int32.reduceToInt]; omega)
      · rintro n v x again hag ⟨fi3, ar3, rfl, p1, p2, p3, p4, p5', p6, p7, p8⟩
        have hA3 := FQ_AT p1 hA
        have e4 : ar3 4 = ar 4 := p2.1 4 (by decide)
        refine ⟨fun _ => ?_, fun _ => ?_⟩
        · rw [m_recv hb]
          refine s_blanks hb hA3 (fun a4 h3 h4 => ?_)
          have hF4 := FQ_trans p1 (FQ_at (fi := fi3) (a := a4) (by have := hA3.1; omega) h4)
          have hA4 := FQ_AT hF4 hA
          simp only [m_getI hb, m_recv hb, va_up_self]
          refine s_byteAt hb _ (by have := hA3.1; omega) hA4.2.2 (fun c hc4 => ?_)
          refine wJoin_i (fun K => K (mS b (va_up fi3 41 a4) ar3)) ?_ (fun K hK => ⟨fun hc41 => ?_, fun _ => hK⟩)
          · rw [m_getI hb, m_recv hb]; exact hno _ _ _ hF4 p2
          · simp only [mw hb, hg, gg1, gg2, p4, ht12, true_and]
            refine ⟨fun hall => ?_, fun _ => hK⟩
            rw [e4, hcc] at hall
            have hlt4 : a4.toInt < (va_up fi3 41 a4 40).toInt := hc4 (by rw [hc41]; decide)
            have e40 : va_up fi3 41 a4 40 = fi 40 := hF4.1 40 (by decide) (by decide) (by decide)
            rw [e40] at hlt4
            have e5 : (a4 + 1).toInt = a4.toInt + 1 := i_add rfl (by decide) (by have := hA3.1; omega)
            have hF5 : FQ fi (va_up (va_up fi3 41 a4) 41 (a4 + 1)) := FQ_trans hF4 (FQ_at (by have := hA3.1; omega) (by rw [e40]; omega))
            rw [va_up_self]
            refine wLoop_i (fun n w x => ∃ ar', x = mS b (va_up (va_up fi3 41 a4) 41 (a4 + 1)) ar' ∧ RQ (ix g) ar ar' ∧ ar' 44 = ar3 44 ∧ ar' 45 = ar3 45 ∧ ar' 46 = ar3 46 ∧ ar' 47 = ar3 47 ∧ 0 ≤ w.toInt ∧ n = (v.1.toInt - w.toInt).toNat) (v.1.toInt).toNat ⟨_, rfl, RQ_trans p2 RQ_kn, by rw [up2_rn _ _ _ (by decide)], by rw [up2_rn _ _ _ (by decide)], by rw [up2_rn _ _ _ (by decide)], by rw [up2_rn _ _ _ (by decide)], by decide, by simp only [Int32.reduceToInt]; omega⟩ ?_
            rintro m w x again2 hag2 ⟨ar5, rfl, q1, q2, q3, q4, q5, q6, q7⟩
            refine wJoin_i (fun K => K (mS b (va_up (va_up fi3 41 a4) 41 (a4 + 1)) ar5)) ?_ (fun K hK2 => ⟨fun _ => hK2, fun hw => ?_⟩)
            · rw [wBit1]
              refine hQ _ _ _ (Or.inr rfl) hF5 q1 (fun _ => Or.inl ⟨by rw [q2, p3]; exact hk, by rw [q3, p4]; exact hi1.1, by rw [q3, p4]; exact hi1.2, fun k _ hk5 => ?_⟩)
              rw [q3, p4, q1.1 4 (by decide), hcc] at hk5
              have := p8 k (by simp only [i32] at hall; omega)
              unfold OKp at this ⊢
              rw [q4, q5]; exact this
            · have hw1 : w.toInt < v.1.toInt := by simp only [i32] at hw; omega
              have hw5 : wIn w 5 := ⟨q6, by omega⟩
              obtain ⟨i1, i2⟩ := p5 hg hw5
              have e6 : (w + 1).toInt = w.toInt + 1 := i_add rfl (by decide) (by omega)
              simp only [mw hb, hg, gg1, gg2, i1, true_and]
              have hgo : ∀ ar6, RQ (ix g) ar ar6 → ar6 44 = ar3 44 → ar6 45 = ar3 45 → ar6 46 = ar3 46 → ar6 47 = ar3 47 → again2 (w + 1) (mS b (va_up (va_up fi3 41 a4) 41 (a4 + 1)) ar6) := fun ar6 z1 z2 z3 z4 z5 => hag2 _ _ _ (by omega) ⟨ar6, rfl, z1, z2, z3, z4, z5, by omega, rfl⟩
              refine ⟨fun _ => ?_, fun _ => hK2⟩
              refine wJoin_i (fun K => ∀ ar6, RQ (ix g) ar ar6 → ar6 44 = ar3 44 → ar6 45 = ar3 45 → ar6 46 = ar3 46 → ar6 47 = ar3 47 → K (mS b (va_up (va_up fi3 41 a4) 41 (a4 + 1)) ar6)) hgo (fun K hK3 => ⟨fun _ => ?_, fun _ => hK3 _ q1 q2 q3 q4 q5⟩)
              exact hK3 _ (RQ_trans q1 RQ_kn) (by rw [up2_rn _ _ _ (by decide)]; exact q2) (by rw [up2_rn _ _ _ (by decide)]; exact q3) (by rw [up2_rn _ _ _ (by decide)]; exact q4) (by rw [up2_rn _ _ _ (by decide)]; exact q5)
        · rw [m_recv hb]
          refine s_blanks hb hA3 (fun a4 h3 h4 => ?_)
          have hF4 := FQ_trans p1 (FQ_at (fi := fi3) (a := a4) (by have := hA3.1; omega) h4)
          have hA4 := FQ_AT hF4 hA
          simp only [mw hb, hg, p4, ht12, true_and, e4, hcc]
          refine ⟨fun _ => hno _ _ _ hF4 p2, fun hne => ?_⟩
          have hlt5 : v.1.toInt < cols.toInt := by
            have : v.1.toInt ≠ cols.toInt := fun z => hne (i_ext z)
            omega
          have hw5 : wIn v.1 5 := ⟨p5', by omega⟩
          obtain ⟨i1, i2⟩ := p5 hg hw5
          have hvi : ((ix v.1 : Nat) : Int) = v.1.toInt := ix_int p5'
          refine s_argument hb _ 1 i1 hA4 (fun r6 fi6 ar6 hr6 hf6 ha6 hok6 => ?_)
          rw [i2] at ha6 hok6
          have hF6 := FQ_trans hF4 hf6
          have hR6 := RQ_trans p2 (RQ_arg (g := ix g) ha6 (by omega) (by omega))
          refine ⟨fun _ => by rw [m_recv hb]; exact hno _ _ _ hF6 hR6, fun hz6 => ?_⟩
          rw [m_recv hb]
          refine s_take hb 44 (by decide) (FQ_AT hF6 hA) (fun r7 a7 hr7 h5 h6 => ?_)
          have hF7 := FQ_trans hF6 (FQ_at (fi := fi6) (a := a7) (by have := (FQ_AT hF6 hA).1; omega) h6)
          have e8 : (v.1 + 1).toInt = v.1.toInt + 1 := i_add rfl (by decide) (by omega)
          refine hag (cols.toInt - (v.1 + 1).toInt).toNat _ _ (by omega) ⟨_, _, rfl, hF7, hR6, ?_, ?_, by show 0 ≤ (v.1 + 1).toInt; omega, by show (v.1 + 1).toInt ≤ _; omega, rfl, ?_⟩
          · rw [ha6.1 44 (by decide) (by decide)]; exact p3
          · rw [ha6.1 45 (by decide) (by decide)]; exact p4
          · intro k hk8
            replace hk8 : (k : Int) < (v.1 + 1).toInt := hk8
            by_cases hq : k = ix v.1
            · rw [hq]; exact hok6 (hr6.resolve_left hz6)
            · have := p8 k (by omega)
              unfold OKp at this ⊢
              rw [(ha6.2 (5 * ix g + k) (by omega)).1, (ha6.2 (5 * ix g + k) (by omega)).2]; exact this
  · rw [m_recv hb]; exact hno _ _ _ hF (RQ_rf _ _)
end S14
