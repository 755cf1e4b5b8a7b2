set_option linter.unusedVariables false
set_option linter.unusedSimpArgs false
section S18
variable {b : MT} {fi : Nat → Int32} {ar : Nat → Nat → Int32} {X : String → HS → Prop} {Q : Int32 → HS → Prop} {N : Nat}
theorem G_out {fi' : Nat → Int32} {ar' : Nat → Nat → Int32} (h : G N fi ar) (h1 : ∀ j, j ∈ [10, 20, 22, 25, 27, 37] → fi' j = fi j) (h2 : 0 ≤ (fi' 2).toInt ∧ (fi' 2).toInt ≤ 400) (h3 : ∀ j, j < 44 → ar' j = ar j) : G N fi' ar' := by
  obtain ⟨⟨-, g1⟩, g2⟩ := h
  simp only [G, GB]
  rw [h1 10 (by decide), h1 20 (by decide), h1 22 (by decide), h1 25 (by decide), h1 27 (by decide), h1 37 (by decide)]
  simp only [h3 4 (by decide), h3 6 (by decide), h3 7 (by decide), h3 8 (by decide), h3 11 (by decide), h3 12 (by decide), h3 15 (by decide), h3 16 (by decide), h3 17 (by decide), h3 18 (by decide), h3 19 (by decide), h3 24 (by decide), h3 26 (by decide), h3 28 (by decide), h3 30 (by decide), h3 33 (by decide)]
  exact ⟨⟨h2, g1⟩, g2⟩
theorem t_question (hb : MB b) (hG : G N fi ar) (hQ : OKQ b N ar Q) (when_ : Int32) : w_X12_question (some b.o) when_ (mS b fi ar) Q X := by
  have hg1 := G_up hG
  obtain ⟨⟨a1, a2, a3, a4, a5, a6⟩, hT, ⟨ρ, hL⟩, hK0, hD, hH, hC⟩ := id hg1
  have hq : ∀ (r : Int32) (fi' : Nat → Int32) (ar' : Nat → Nat → Int32), (∀ j, j ∈ [10, 20, 22, 25, 27, 37] → fi' j = fi j) → (fi' 2 = 0) → (∀ j, j < 44 → ar' j = ar j) → Q r (mS b fi' ar') := fun r fi' ar' h1 h2 h3 => hQ _ _ _ (G_out hg1 h1 (by rw [h2]; exact ⟨by decide, by decide⟩) h3) (h3 3 (by decide))
  simp only [w_X12_question, m_getI hb, m_putI hb, m_recv hb]
  refine s_isTime hb _ (fun r1 hr1 => ?_)
  refine wJoin_i (fun K => ∀ v, K v (mS b (va_up (va_up fi 2 0) 42 (-1)) ar)) (fun v => ?_) (fun K hK => ⟨fun _ => hK _, fun _ => hK _⟩)
  rw [m_recv hb]
  by_cases hv : v = 0
  · subst hv
    rw [s_f0 hb, m_recv hb]
    refine s_isQuestion hb a1.1 a1.2 hT a2.2 (fun r2 fi2 ar2 hr2 hF hR hok => ?_)
    have e2 : fi2 2 = 0 := by rw [hF 2 (by decide)]; rfl
    have ef : ∀ j, j ∈ [10, 20, 22, 25, 27, 37] → fi2 j = fi j := fun j hj => by
      rw [hF j (fun z => ?_)]
      · simp only [List.mem_cons, List.not_mem_nil, or_false] at hj
        rcases hj with rfl | rfl | rfl | rfl | rfl | rfl <;> rfl
      · simp only [List.mem_cons, List.not_mem_nil, or_false] at hj z
        omega
    have er : ∀ j, j < 44 → ar2 j = ar j := fun j hj => hR j (fun z => by
      simp only [List.mem_cons, List.not_mem_nil, or_false] at z
      omega)
    refine wJoin_i (fun K => (∀ v, v ≠ 0 → K v (mS b fi2 ar2)) ∧ (r2 = 1 → K 0 (mS b fi2 ar2))) ⟨fun v hv => ?_, fun hr => ?_⟩ (fun K hK => ⟨fun _ => hK.1 _ (by decide), fun h => hK.2 (hr2.resolve_left h)⟩)
    · rw [m_recv hb, s_fN hb hv]
      refine hq _ _ _ (fun j hj => ?_) (by rw [va_up_ne _ _ (by decide)]; exact e2) er
      rw [va_up_ne _ _ (fun z => by rw [z] at hj; revert hj; decide)]; exact ef j hj
    · rw [m_recv hb, s_f0 hb]
      have hok := hok hr
      simp only [m_putI hb, m_putZ hb, m_recv hb]
      refine ⟨by simp, s_timeOf hb _ (fun tm => ?_)⟩
      rw [m_recv hb]
      generalize hfi3 : va_up (va_up (va_up fi2 0 0) 38 0) 39 1 = fi3
      have e3 : ∀ j, j ∉ [0, 38, 39] → fi3 j = fi2 j := fun j hj => by
        simp only [List.mem_cons, List.not_mem_nil, or_false, not_or] at hj
        rw [← hfi3, va_up_ne _ _ hj.2.2, va_up_ne _ _ hj.2.1, va_up_ne _ _ hj.1]
      have e38 : fi3 38 = 0 := by rw [← hfi3]; rfl
      have e39 : fi3 39 = 1 := by rw [← hfi3]; rfl
      clear hfi3
      have hS : SV ρ fi3 ar2 := by
        simp only [SV]
        rw [e3 10 (by decide), e3 20 (by decide), ef 10 (by decide), ef 20 (by decide), er 4 (by decide), er 6 (by decide), er 7 (by decide), er 8 (by decide), er 11 (by decide), er 12 (by decide), er 17 (by decide), er 18 (by decide), e39]
        refine ⟨hL, hT, a2.2, ?_, by decide⟩
        unfold QOK at hok ⊢
        rw [e3 49 (by decide), e3 10 (by decide)]; exact hok
      refine s_solve hb hS (by rw [e38]; decide) (fun r3 lk ar3 e4 => ?_)
      have er3 : ∀ j, j < 44 → ar3 j = ar j := fun j hj => by
        rw [e4 j (fun z => by
          simp only [List.mem_cons, List.not_mem_nil, or_false] at z
          omega)]
        exact er j hj
      have ef3 : ∀ j, j ∈ [10, 20, 22, 25, 27, 37, 2] → fi3 j = fi2 j := fun j hj => e3 j (fun z => by
        simp only [List.mem_cons, List.not_mem_nil, or_false] at z hj
        omega)
      have hend : ∀ (r : Int32) (fi' : Nat → Int32) ar', (∀ j, j ∉ [0, 38, 39, 55, 56] → fi' j = fi3 j) → (∀ j, j < 44 → ar' j = ar j) → Q r (mS b fi' ar') := fun r fi' ar' h1 h2 => by
        refine hq r fi' ar' (fun j hj => ?_) ?_ h2
        · rw [h1 j (fun z => by
            simp only [List.mem_cons, List.not_mem_nil, or_false] at z hj
            omega), ef3 j (by
            simp only [List.mem_cons, List.not_mem_nil, or_false] at hj ⊢
            omega)]
          exact ef j hj
        · rw [h1 2 (by decide), ef3 2 (by decide)]; exact e2
      simp only [m_putZ hb, m_getI hb]
      refine ⟨by simp, fun _ => ?_, fun _ => ?_⟩
      · have h49 : wIn (fi3 49) 12 := by
          rw [e3 49 (by decide)]
          exact ⟨hok.1, by have := hok.2.1; omega⟩
        have e49 : ∀ u v w : Int32, va_up (va_up (va_up fi3 38 u) 39 v) 55 w 49 = fi3 49 := fun _ _ _ => rfl
        simp only [mw hb, e49, h49, true_and]
        refine wLoop_i (fun n v x => ∃ ar', x = mS b (va_up (va_up (va_up (va_up fi3 38 lk) 39 0) 55 r3) 56 (ar3 48 (ix (fi3 49)))) ar' ∧ (∀ j, j < 44 → ar' j = ar j) ∧ 0 ≤ v.toInt ∧ n = (800 - v.toInt).toNat) 800 ⟨ar3, rfl, er3, by decide, by decide⟩ ?_
        rintro n v x again ha ⟨ar4, rfl, er4, p1, p2⟩
        refine ⟨fun _ => ?_, fun h8 => ?_⟩
        · refine hend _ _ _ (fun j hj => ?_) er4
          simp only [List.mem_cons, List.not_mem_nil, or_false, not_or] at hj
          rw [va_up_ne _ _ hj.2.2.2.2, va_up_ne _ _ hj.2.2.2.1, va_up_ne _ _ hj.2.2.1, va_up_ne _ _ hj.2.1]
        · have h9 : v.toInt < 800 := by simp only [i32, Int32.reduceToInt] at h8; omega
          have e9 : (v + 1).toInt = v.toInt + 1 := i_add rfl (by decide) (by omega)
          simp only [mw hb, show wIn v 800 from ⟨p1, by omega⟩, true_and]
          exact ha _ _ _ (by omega) ⟨_, rfl, fun j hj => by rw [up2_rn _ _ _ (by omega)]; exact er4 j hj, by omega, rfl⟩
      · simp only [m_putI hb]
        refine hend _ _ _ (fun j hj => ?_) er3
        simp only [List.mem_cons, List.not_mem_nil, or_false, not_or] at hj
        rw [va_up_ne _ _ hj.1, va_up_ne _ _ hj.2.1, va_up_ne _ _ hj.2.2.1, va_up_ne _ _ hj.2.1]
  · rw [s_fN hb hv]
    refine hq _ _ _ (fun j hj => ?_) rfl (fun _ _ => rfl)
    simp only [List.mem_cons, List.not_mem_nil, or_false] at hj
    rcases hj with rfl | rfl | rfl | rfl | rfl | rfl <;> rfl
theorem t_solution (hb : MB b) (hG : G N fi ar) (hQ : OKQ b N ar Q) (i k : Int32) : w_X12_solution (some b.o) i k (mS b fi ar) Q X := by
  have hg1 := G_up hG
  simp only [w_X12_solution]
  refine wJoin_i (fun K => (∀ v, v ≠ 0 → K v (mS b fi ar)) ∧ (0 ≤ k.toInt → k.toInt ≤ 7 → 0 ≤ i.toInt → i.toInt < 100 → K 0 (mS b fi ar))) ⟨fun v hv => ?_, fun h1 h2 h3 h4 => ?_⟩ (fun K hK => ?_)
  · rw [m_recv hb, s_fN hb hv]
    exact hQ _ _ _ hg1 rfl
  · have e8 : ((8 : Int32) * i).toInt = 8 * i.toInt := i_mul (by decide) rfl (by omega)
    have e9 : ((8 : Int32) * i + k).toInt = 8 * i.toInt + k.toInt := i_add e8 rfl (by omega)
    rw [m_recv hb, s_f0 hb]
    simp only [mw hb, show wIn ((8 : Int32) * i + k) 800 from ⟨by omega, by omega⟩, true_and]
    exact hQ _ _ _ hg1 rfl
  · simp only [wJoin, wIf, mw hb]
    have k1 := hK.1 1 (by decide)
    have k2 := hK.1 2 (by decide)
    simp only [i32, Int32.reduceToInt]
    exact ⟨fun _ => k1, fun h1 => ⟨fun h2 => ⟨fun _ => k2, fun h3 => ⟨fun _ => k2, fun h4 => ⟨fun _ => k2, fun h5 => ⟨fun _ => k2, fun _ => hK.2 (by omega) h2 (by omega) (by omega)⟩⟩⟩⟩, fun _ => k1⟩⟩
end S18
