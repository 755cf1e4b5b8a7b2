set_option linter.unusedVariables false
set_option linter.unusedSimpArgs false
section S15
variable {b : MT} {fi : Nat → Int32} {ar : Nat → Nat → Int32} {X : String → HS → Prop} {Q : Int32 → HS → Prop}
theorem OKp_kn {ar : Nat → Nat → Int32} {j i p : Nat} {v : Int32} (h1 : 46 ≠ j) (h2 : 47 ≠ j) (h : OKp ar p) : OKp (up2 ar j i v) p := by
  unfold OKp at h ⊢
  rw [up2_rn _ _ _ h1, up2_rn _ _ _ h2]; exact h
theorem OKp_AQ {ar ar' : Nat → Nat → Int32} {p q : Nat} (h : OKp ar p) (hq : AQ q ar ar') (hn : p ≠ q) : OKp ar' p := by
  unfold OKp at h ⊢
  rw [(hq.2 p hn).1, (hq.2 p hn).2]; exact h
theorem s_otherGoal (hb : MB b) {g : Int32} (hg : wIn g 11) (hA : AT fi) (hQ : RDQ b (ix g) fi ar Q) : w_X12_otherGoal (some b.o) g (mS b fi ar) Q X := by
  obtain ⟨a1, a2, a3⟩ := id hA
  obtain ⟨gg1, gg2⟩ := g12 hg
  obtain ⟨f1, f2⟩ := p50 hg
  obtain ⟨o1, o2⟩ := p5 hg (k := 1) ⟨by decide, by decide⟩
  obtain ⟨t1, t2⟩ := p5 hg (k := 2) ⟨by decide, by decide⟩
  rw [show ix 1 = 1 from by decide] at o2
  rw [show ix 2 = 2 from by decide] at t2
  have hno : ∀ (w : Int32) (fi2 : Nat → Int32) (ar2 : Nat → Nat → Int32), FQ fi fi2 → RQ (ix g) ar ar2 → w_X12_wrong (some b.o) w (mS b fi2 ar2) (fun v9 x8 => wBit v9 (Q v9 x8)) X := fun w fi2 ar2 hf hr => s_wrong hb w (FQ_AT hf hA) (fun fi3 hf3 => by
    rw [wBit0]
    exact hQ _ _ _ (Or.inl rfl) (FQ_trans hf hf3) hr (fun z => absurd z (by decide)))
  simp only [w_X12_otherGoal, m_getI hb, m_recv hb]
  refine s_argument hb _ 0 f1 hA (fun r fi2 ar2 hr hf2 ha hok => ?_)
  rw [f2] at ha hok
  have hR := RQ_arg (g := ix g) ha (by omega) (by omega)
  refine ⟨fun _ => by rw [m_recv hb]; exact hno _ _ _ hf2 hR, fun hr1 => ?_⟩
  replace hok := hok (hr.resolve_left hr1)
  simp only [mw hb, gg1, gg2, true_and]
  generalize hk3 : up2 ar2 48 (ix (g + 1)) (ar2 48 (ix g)) = ar3
  have hR3 : RQ (ix g) ar ar3 := by rw [← hk3]; exact RQ_trans hR RQ_kn
  have hok3 : OKp ar3 (5 * ix g) := by rw [← hk3]; exact OKp_kn (by decide) (by decide) hok
  clear hk3 hR hok ha
  refine s_blanks hb (FQ_AT hf2 hA) (fun a h1 h2 => ?_)
  have hF3 := FQ_trans hf2 (FQ_at (fi := fi2) (a := a) (by have := (FQ_AT hf2 hA).1; omega) h2)
  have ha0 : 0 ≤ a.toInt := by have := (FQ_AT hf2 hA).1; omega
  have hA3 := FQ_AT hF3 hA
  have e40 : va_up fi2 41 a 40 = fi 40 := hF3.1 40 (by decide) (by decide) (by decide)
  simp only [m_getI hb, m_recv hb, va_up_self]
  refine s_byteAt hb a ha0 hA3.2.2 (fun c hc => ?_)
  rw [e40] at hc
  have hnext : c ≠ -1 → FQ fi (va_up (va_up fi2 41 a) 41 (a + 1)) := fun z => by
    have h3 := hc z
    have h4 : (a + 1).toInt = a.toInt + 1 := i_add rfl (by decide) (by omega)
    exact FQ_trans hF3 (FQ_at (by omega) (by rw [e40]; omega))
  refine wJoin_i (fun K => K (mS b (va_up fi2 41 a) ar3)) ?_ (fun K hK => ⟨fun hc58 => ?_, fun _ => hK⟩)
  · refine wJoin_i (fun K => c ≠ -1 → K (mS b (va_up fi2 41 a) ar3)) (fun hcn => ?_) (fun K hK => ⟨fun q => hK (by rw [q]; decide), fun _ => ⟨fun q => hK (by rw [q]; decide), fun _ => ⟨fun q => hK (by rw [q]; decide), fun _ => ?_⟩⟩⟩)
    · rw [m_recv hb]
      refine s_isKnown hb gg1 f1 (fun r4 hr4 => ⟨fun _ => by rw [m_recv hb]; exact hno _ _ _ hF3 hR3, fun _ => ?_⟩)
      simp only [mw hb]
      refine wJoin_i (fun K => ∀ v : Int32, (v = 2 ∨ v = 3) ∨ v = 4 → K v (mS b (va_up fi2 41 a) ar3)) (fun v hv => ?_) (fun K hK => ⟨fun _ => hK _ (Or.inl (Or.inl rfl)), fun _ => ⟨fun _ => hK _ (Or.inl (Or.inr rfl)), fun _ => hK _ (Or.inr rfl)⟩⟩)
      simp only [mw hb, hg, true_and, va_up_self]
      have hF5 := hnext hcn
      refine s_knownArgument hb gg1 o1 (FQ_AT hF5 hA) (fun r6 fi6 ar6 hr6 hf6 ha6 hok6 => ?_)
      rw [o2] at ha6 hok6
      have hR6 := RQ_trans hR3 (RQ_trans (RQ_g44 (g := ix g) (v := v)) (RQ_arg (g := ix g) ha6 (by omega) (by omega)))
      have hq := hQ r6 fi6 ar6 hr6 (FQ_trans hF5 hf6) hR6 (fun z => Or.inr (Or.inl ⟨?_, ?_, hok6 z⟩))
      · rcases hr6 with rfl | rfl
        · rw [wBit0]; exact hq
        · rw [wBit1]; exact hq
      · rw [ha6.1 44 (by decide) (by decide), up2_rs, va_up_self]; exact hv
      · exact OKp_AQ (OKp_kn (by decide) (by decide) hok3) ha6 (by omega)
    · rw [m_getI hb, m_recv hb]; exact hno _ _ _ hF3 hR3
  · simp only [mw hb, f1, true_and]
    refine ⟨fun hs => ?_, fun _ => hK⟩
    refine s_isKnown hb gg1 f1 (fun r4 hr4 => ⟨fun _ => ?_, fun _ => by rw [m_recv hb]; exact hno _ _ _ hF3 hR3⟩)
    have hF5 := hnext (by rw [hc58]; decide)
    simp only [mw hb, va_up_self]
    refine s_knownArgument hb gg1 o1 (FQ_AT hF5 hA) (fun r6 fi6 ar6 hr6 hf6 ha6 hok6 => ?_)
    rw [o2] at ha6 hok6
    have hF6 := FQ_trans hF5 hf6
    have hR6 := RQ_trans hR3 (RQ_arg (g := ix g) ha6 (by omega) (by omega))
    refine ⟨fun _ => by rw [wBit0]; exact hQ _ _ _ (Or.inl rfl) hF6 hR6 (fun z => absurd z (by decide)), fun hz6 => ?_⟩
    replace hok6 := hok6 (hr6.resolve_left hz6)
    have hok60 := OKp_AQ hok3 ha6 (by omega)
    have hs6 : ar6 46 (5 * ix g) = 1 := by rw [(ha6.2 (5 * ix g) (by omega)).1, ← f2]; exact hs
    clear ha6
    rw [m_recv hb]
    refine s_blanks hb (FQ_AT hF6 hA) (fun a7 h5 h6 => ?_)
    have ha7 : 0 ≤ a7.toInt := by have := (FQ_AT hF6 hA).1; omega
    have hF7 := FQ_trans hF6 (FQ_at (fi := fi6) (a := a7) ha7 h6)
    have hA7 := FQ_AT hF7 hA
    have e47 : va_up fi6 41 a7 40 = fi 40 := hF7.1 40 (by decide) (by decide) (by decide)
    simp only [m_getI hb, m_recv hb, va_up_self]
    refine s_byteAt hb a7 ha7 hA7.2.2 (fun c8 hc8 => ?_)
    rw [e47] at hc8
    refine wJoin_i (fun K => c8 ≠ -1 → K (mS b (va_up fi6 41 a7) ar6)) (fun hcn => ?_) (fun K hK => ⟨fun q => hK (by rw [q]; decide), fun _ => ⟨fun q => hK (by rw [q]; decide), fun _ => ⟨fun q => hK (by rw [q]; decide), fun _ => ?_⟩⟩⟩)
    · simp only [mw hb]
      refine wJoin_i (fun K => ∀ v : Int32, (v = 5 ∨ v = 6) ∨ v = 7 → K v (mS b (va_up fi6 41 a7) ar6)) (fun v hv => ?_) (fun K hK => ⟨fun _ => hK _ (Or.inl (Or.inl rfl)), fun _ => ⟨fun _ => hK _ (Or.inl (Or.inr rfl)), fun _ => hK _ (Or.inr rfl)⟩⟩)
      simp only [mw hb, hg, true_and, va_up_self]
      have hF9 : FQ fi (va_up (va_up fi6 41 a7) 41 (a7 + 1)) := by
        have h3 := hc8 hcn
        have h4 : (a7 + 1).toInt = a7.toInt + 1 := i_add rfl (by decide) (by omega)
        exact FQ_trans hF7 (FQ_at (by omega) (by rw [e47]; omega))
      refine s_knownArgument hb gg1 t1 (FQ_AT hF9 hA) (fun r10 fi10 ar10 hr10 hf10 ha10 hok10 => ?_)
      rw [t2] at ha10 hok10
      have hR10 := RQ_trans hR6 (RQ_trans (RQ_g44 (g := ix g) (v := v)) (RQ_arg (g := ix g) ha10 (by omega) (by omega)))
      have hF10 := FQ_trans hF9 hf10
      refine ⟨fun _ => by rw [wBit0]; exact hQ _ _ _ (Or.inl rfl) hF10 hR10 (fun z => absurd z (by decide)), fun hz10 => ?_⟩
      simp only [mw hb, gg2, f1, true_and, wBit1]
      refine hQ _ _ _ (Or.inr rfl) hF10 (RQ_trans hR10 RQ_kn) (fun _ => Or.inr (Or.inr ⟨?_, ?_, ?_, ?_, ?_⟩))
      · rw [up2_rn _ _ _ (by decide), ha10.1 44 (by decide) (by decide), up2_rs, va_up_self]; exact hv
      · exact OKp_kn (by decide) (by decide) (OKp_AQ (OKp_kn (by decide) (by decide) hok60) ha10 (by omega))
      · exact OKp_kn (by decide) (by decide) (OKp_AQ (OKp_kn (by decide) (by decide) hok6) ha10 (by omega))
      · exact OKp_kn (by decide) (by decide) (hok10 (hr10.resolve_left hz10))
      · rw [up2_rn _ _ _ (by decide), (ha10.2 (5 * ix g) (by omega)).1, up2_rn _ _ _ (by decide)]; exact hs6
    · rw [m_getI hb, m_recv hb]; exact hno _ _ _ hF7 hR6
/-- the rows that a question writes -/
def QR (ar ar' : Nat → Nat → Int32) : Prop := ∀ j, j ∉ [44, 45, 46, 47, 48] → ar' j = ar j
def FR (fi fi' : Nat → Int32) : Prop := ∀ j, j ∉ [40, 41, 42, 43, 49] → fi' j = fi j
theorem GoalOK_RQ {tables : Int} {g g2 : Nat} {ar ar' : Nat → Nat → Int32} (h : GoalOK tables g ar) (hr : RQ g2 ar ar') (hg : g ≠ g2) : GoalOK tables g ar' := by
  have e4 := hr.1 4 (by decide)
  have e44 := (hr.2.1 g hg).1
  have e45 := (hr.2.1 g hg).2
  have eo : ∀ k, k < 5 → OKp ar (5 * g + k) → OKp ar' (5 * g + k) := fun k hk h => by
    unfold OKp at h ⊢
    have := hr.2.2 (5 * g + k) (by omega)
    rw [this.1, this.2]; exact h
  have e46 := (hr.2.2 (5 * g) (by omega)).1
  unfold GoalOK
  rw [e4, e44, e45, e46]
  rcases h with ⟨h1, h2, h3, h4⟩ | ⟨h1, h2, h3⟩ | ⟨h1, h2, h3, h4, h5⟩
  · exact Or.inl ⟨h1, h2, h3, fun k k5 hk => eo k k5 (h4 k k5 hk)⟩
  · exact Or.inr (Or.inl ⟨h1, eo 0 (by omega) h2, eo 1 (by omega) h3⟩)
  · exact Or.inr (Or.inr ⟨h1, eo 0 (by omega) h2, eo 1 (by omega) h3, eo 2 (by omega) h4, h5⟩)
theorem FR_FQ {fi fi2 fi3 : Nat → Int32} (h1 : FR fi fi2) (h2 : FQ fi2 fi3) : FR fi fi3 := fun j hj => by
  simp only [List.mem_cons, List.not_mem_nil, or_false, not_or] at hj
  rw [h2.1 j hj.2.1 hj.2.2.1 hj.2.2.2.1]
  exact h1 j (by simp only [List.mem_cons, List.not_mem_nil, or_false, not_or]; exact hj)
/-- a question that was read -/
def QOK (fi : Nat → Int32) (ar : Nat → Nat → Int32) : Prop := 0 ≤ (fi 49).toInt ∧ (fi 49).toInt ≤ 10 ∧ ∀ g : Nat, (g : Int) < (fi 49).toInt → GoalOK (fi 10).toInt g ar
theorem s_isQuestion (hb : MB b) {n : Int32} (h0 : 0 ≤ n.toInt) (h4 : n.toInt ≤ 400) (hT : GT (fi 10).toInt (ar 4) (ar 6)) (h12 : (fi 10).toInt ≤ 12) (hQ : ∀ (r : Int32) (fi' : Nat → Int32) (ar' : Nat → Nat → Int32), (r = 0 ∨ r = 1) → FR fi fi' → QR ar ar' → (r = 1 → QOK fi' ar') → Q r (mS b fi' ar')) : w_X12_isQuestion (some b.o) n (mS b fi ar) Q X := by
  simp only [w_X12_isQuestion, m_putI hb]
  simp only [mw hb, show wIn 0 12 from ⟨by decide, by decide⟩, true_and]
  refine wLoop_i (fun m v x => ∃ fi' ar', x = mS b fi' ar' ∧ FR fi fi' ∧ AT fi' ∧ QR ar ar' ∧ QOK fi' ar' ∧ m = (10 - (fi' 49).toInt).toNat) 10 ?_ ?_
  · refine ⟨_, _, rfl, fun j hj => ?_, ?_, fun j hj => ?_, ?_, ?_⟩
    · simp only [List.mem_cons, List.not_mem_nil, or_false, not_or] at hj
      rw [va_up_ne _ _ hj.2.2.2.2, va_up_ne _ _ hj.2.1, va_up_ne _ _ hj.1]
    · simp only [AT, va_up_self, va_up_ne, ne_eq, Nat.reduceEqDiff, not_false_eq_true]
      exact ⟨by decide, by simp only [Int32.reduceToInt]; exact h0, h4⟩
    · simp only [List.mem_cons, List.not_mem_nil, or_false, not_or] at hj
      rw [up2_rn _ _ _ hj.2.2.2.2]
    · refine ⟨by rw [va_up_self]; decide, by rw [va_up_self]; decide, fun g hg => ?_⟩
      rw [va_up_self] at hg; simp only [Int32.reduceToInt] at hg; omega
    · rw [va_up_self]; decide
  rintro m v x again hag ⟨fi1, ar1, rfl, p1, p2, p3, p4, p5'⟩
  refine ⟨fun _ => ?_, fun _ => ?_⟩
  · rw [m_recv hb]
    refine s_blanks hb p2 (fun a h1 h2 => ?_)
    have hF := FQ_at (fi := fi1) (a := a) (by have := p2.1; omega) h2
    have hok : QOK (va_up fi1 41 a) ar1 := p4
    simp only [m_getI hb]
    refine wJoin_i (fun K => ∀ (r : Int32) fi2, (r = 0 ∨ r = 1) → FQ fi1 fi2 → K r (mS b fi2 ar1)) (fun r fi2 hr hf => ?_) (fun K hK => ?_)
    · have hq := hQ r fi2 ar1 hr (FR_FQ p1 hf) p3 (fun _ => ?_)
      · rcases hr with rfl | rfl
        · rw [wBit0]; exact hq
        · rw [wBit1]; exact hq
      · unfold QOK; rw [hf.1 49 (by decide) (by decide) (by decide), hf.1 10 (by decide) (by decide) (by decide)]; exact p4
    · refine wJoin_i (fun K2 => ∀ fi2, FQ fi1 fi2 → K2 (mS b fi2 ar1)) (fun fi2 hf => hK _ _ (Or.inr rfl) hf) (fun K2 hK2 => ⟨fun _ => hK2 _ hF, fun _ => ?_⟩)
      rw [m_recv hb]
      exact s_wrong hb _ (FQ_AT hF p2) (fun fi3 hf3 => ⟨fun _ => hK _ _ (Or.inl rfl) (FQ_trans hF hf3), fun z => absurd rfl z⟩)
  · rw [m_recv hb]
    refine s_blanks hb p2 (fun a h1 h2 => ?_)
    have hF := FQ_at (fi := fi1) (a := a) (by have := p2.1; omega) h2
    have ha0 : 0 ≤ a.toInt := by have := p2.1; omega
    have hA2 := FQ_AT hF p2
    generalize hfi2 : va_up fi1 41 a = fi2 at hF hA2 ⊢
    have e41 : fi2 41 = a := by rw [← hfi2, va_up_self]
    have e49 : fi2 49 = fi1 49 := hF.1 49 (by decide) (by decide) (by decide)
    have e10 : fi2 10 = fi 10 := by rw [hF.1 10 (by decide) (by decide) (by decide)]; exact p1 10 (by decide)
    have hok : QOK fi2 ar1 := by rw [← hfi2]; exact p4
    have p6 := FR_FQ p1 hF
    rw [← e49] at p5'
    clear hfi2 p4 hF p1 e49
    rw [m_getI hb]
    refine ⟨fun _ => ?_, fun hne => ?_⟩
    · rw [m_getI hb, m_recv hb]
      refine s_wrong hb _ hA2 (fun fi3 hf3 => ?_)
      rw [wBit0]
      exact hQ _ _ _ (Or.inl rfl) (FR_FQ p6 hf3) p3 (fun z => absurd z (by decide))
    · obtain ⟨k1, k2, k3⟩ := hok
      have hlt : (fi2 49).toInt < 10 := by
        have : (fi2 49).toInt ≠ 10 := fun z => hne (i_ext (by rw [z]; decide))
        omega
      have hg : wIn (fi2 49) 11 := ⟨k1, by omega⟩
      have hgi : ((ix (fi2 49) : Nat) : Int) = (fi2 49).toInt := ix_int k1
      simp only [mw hb, hg, true_and]
      have hR0 : ∀ v, RQ (ix (fi2 49)) ar1 (up2 ar1 44 (ix (fi2 49)) v) := fun v => RQ_g44
      have hT1 : ∀ ar2 : Nat → Nat → Int32, RQ (ix (fi2 49)) ar1 ar2 → GT (fi2 10).toInt (ar2 4) (ar2 6) := fun ar2 hr => by
        rw [hr.1 4 (by decide), hr.1 6 (by decide), p3 4 (by decide), p3 6 (by decide), e10]; exact hT
      rw [e41]
      have a3 : (fi2 40).toInt ≤ 400 := hA2.2.2
      refine s_byteAt hb a ha0 a3 (fun c hc => ?_)
      refine wJoin_i (fun K => ∀ (r : Int32) fi3 ar3, (r = 0 ∨ r = 1) → FQ fi2 fi3 → RQ (ix (fi2 49)) ar1 ar3 → (r = 1 → GoalOK (fi2 10).toInt (ix (fi2 49)) ar3) → K r (mS b fi3 ar3)) (fun r fi3 ar3 hr hf3 hr3 hgo => ?_) (fun K hK => ?_)
      · have hQR : QR ar ar3 := fun j hj => by rw [hr3.1 j hj]; exact p3 j hj
        refine ⟨fun _ => by rw [wBit0]; exact hQ _ _ _ (Or.inl rfl) (FR_FQ p6 hf3) hQR (fun z => absurd z (by decide)), fun hr0 => ?_⟩
        have e49 : fi3 49 = fi2 49 := hf3.1 49 (by decide) (by decide) (by decide)
        have e103 : fi3 10 = fi2 10 := hf3.1 10 (by decide) (by decide) (by decide)
        have eN : (fi2 49 + 1).toInt = (fi2 49).toInt + 1 := i_add rfl (by decide) (by omega)
        simp only [mw hb, e49]
        have hA3 : AT (va_up fi3 49 (fi2 49 + 1)) := by
          have := FQ_AT hf3 hA2
          simp only [AT, va_up_ne, ne_eq, Nat.reduceEqDiff, not_false_eq_true] at this ⊢
          exact this
        refine s_take hb 44 (by decide) hA3 (fun r7 a7 hr7 h5 h6 => ?_)
        have hF7 := FQ_at (fi := va_up fi3 49 (fi2 49 + 1)) (a := a7) (by have := hA3.1; omega) h6
        have e497 : va_up (va_up fi3 49 (fi2 49 + 1)) 41 a7 49 = fi2 49 + 1 := by rw [va_up_ne _ _ (by decide), va_up_self]
        refine hag _ _ _ ?_ ⟨_, _, rfl, ?_, FQ_AT hF7 hA3, hQR, ?_, rfl⟩
        · rw [e497, eN]; omega
        · have : FR fi (va_up fi3 49 (fi2 49 + 1)) := fun j hj => by
            have hj2 := hj
            simp only [List.mem_cons, List.not_mem_nil, or_false, not_or] at hj2
            rw [va_up_ne _ _ hj2.2.2.2.2]; exact FR_FQ p6 hf3 j hj
          exact FR_FQ this hF7
        · unfold QOK
          have e107 : va_up (va_up fi3 49 (fi2 49 + 1)) 41 a7 10 = fi2 10 := by rw [va_up_ne _ _ (by decide), va_up_ne _ _ (by decide)]; exact e103
          rw [e497, eN, e107]
          refine ⟨by omega, by omega, fun g hg9 => ?_⟩
          by_cases hq : g = ix (fi2 49)
          · rw [hq]; exact hgo (hr.resolve_left hr0)
          · exact GoalOK_RQ (k3 g (by omega)) hr3 hq
      · have hRDQ : ∀ fi4 ar4, FQ fi2 fi4 → RQ (ix (fi2 49)) ar1 ar4 → RDQ b (ix (fi2 49)) fi4 ar4 K := fun fi4 ar4 h1 h2 r fi5 ar5 hr hf hr5 hgo => hK r fi5 ar5 hr (FQ_trans h1 hf) (RQ_trans h2 hr5) (by rw [← h1.1 10 (by decide) (by decide) (by decide)]; exact hgo)
        refine ⟨fun hc1 => ?_, fun _ => ?_⟩
        · have hlt2 := hc (by rw [hc1]; decide)
          simp only [mw hb]
          exact s_tableGoal hb hg hA2 (by rw [e41]; exact hlt2) (hT1 _ (hR0 0)) (by rw [e10]; exact h12) (by rw [up2_rs, va_up_self]; exact Or.inl rfl) (hRDQ _ _ (FQ_rf hA2) (hR0 0))
        · simp only [mw hb, e41]
          refine s_byteAt hb a ha0 a3 (fun c2 hc2 => ⟨fun q2 => ?_, fun _ => ?_⟩)
          · have hlt2 := hc2 (by rw [q2]; decide)
            have e5 : (a + 1).toInt = a.toInt + 1 := i_add rfl (by decide) (by omega)
            have hF5 : FQ fi2 (va_up fi2 41 (a + 1)) := FQ_at (by omega) (by omega)
            have hA5 := FQ_AT hF5 hA2
            simp only [mw hb, e41]
            refine s_blanks hb hA5 (fun a6 h5 h6 => ?_)
            have ha6 : 0 ≤ a6.toInt := by have := hA5.1; omega
            have hF6 := FQ_trans hF5 (FQ_at (fi := va_up fi2 41 (a + 1)) (a := a6) ha6 h6)
            have hA6 := FQ_AT hF6 hA2
            have e496 : va_up (va_up fi2 41 (a + 1)) 41 a6 49 = fi2 49 := hF6.1 49 (by decide) (by decide) (by decide)
            have e416 : va_up (va_up fi2 41 (a + 1)) 41 a6 41 = a6 := va_up_self _ _ _
            simp only [mw hb, e496, hg, true_and, e416]
            have hR7 : RQ (ix (fi2 49)) ar1 (up2 (up2 ar1 44 (ix (fi2 49)) 0) 44 (ix (fi2 49)) 1) := RQ_trans (hR0 0) RQ_g44
            refine s_byteAt hb a6 ha6 hA6.2.2 (fun c8 hc8 => ?_)
            refine wJoin_i (fun K2 => ∀ (r : Int32) fi3 ar3, (r = 0 ∨ r = 1) → FQ fi2 fi3 → RQ (ix (fi2 49)) ar1 ar3 → (r = 1 → GoalOK (fi2 10).toInt (ix (fi2 49)) ar3) → K2 r (mS b fi3 ar3)) hK (fun K2 hK2 => ⟨fun q8 => ?_, fun _ => ?_⟩)
            · have hlt8 := hc8 (by rw [q8]; decide)
              simp only [mw hb, e496]
              refine s_tableGoal hb hg hA6 (by rw [e416]; exact hlt8) ?_ ?_ (by rw [up2_rs, va_up_self]; exact Or.inr rfl) (fun r fi5 ar5 hr hf hr5 hgo => hK2 r fi5 ar5 hr (FQ_trans hF6 hf) (RQ_trans hR7 hr5) (by rw [← hF6.1 10 (by decide) (by decide) (by decide)]; exact hgo))
              · rw [hF6.1 10 (by decide) (by decide) (by decide)]; exact hT1 _ hR7
              · rw [hF6.1 10 (by decide) (by decide) (by decide), e10]; exact h12
            · simp only [mw hb]
              exact s_wrong hb _ hA6 (fun fi9 hf9 => hK2 _ _ _ (Or.inl rfl) (FQ_trans hF6 hf9) hR7 (fun z => absurd z (by decide)))
          · simp only [mw hb]
            exact s_otherGoal hb hg hA2 (hRDQ _ _ (FQ_rf hA2) (hR0 0))
end S15
