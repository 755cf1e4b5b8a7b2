set_option linter.unusedVariables false
set_option linter.unusedSimpArgs false
section S10
variable {b : MT} {fi : Nat → Int32} {ar : Nat → Nat → Int32} {X : String → HS → Prop} {N : Nat}
theorem GB_mono {S T : Int} (h : GB S fi ar) (hS : S ≤ T) : GB T fi ar := by
  obtain ⟨⟨h1, h2, h3, h4, h5⟩, h6⟩ := h
  exact ⟨⟨h1, h2, h3, ⟨h4.1, by omega⟩, h5⟩, h6⟩
/-- who is there now has not gone -/
theorem GD_now {time : Int} {tm : Int32} {U BO DI SD : Nat → Int32} (h : GD time U BO DI SD) (htm : tm.toInt = time) {f : Nat} (hf : mU U f) (ht : BO f ≤ tm ∧ (DI f < 0 ∨ tm < DI f)) : (DI f).toInt = -1 := by
  obtain ⟨a1, a2, a3, -⟩ := h.1 f hf
  simp only [i32, Int32.reduceToInt] at ht
  omega
theorem t_remove (hb : MB b) (hG : G N fi ar) (hN : N < 300000) {Q : Int32 → HS → Prop} (hQ : OKQ b N ar Q) (t mask all : Int32) : w_X12_remove (some b.o) t mask all (mS b fi ar) Q X := by
  have hg1 := G_up hG
  obtain ⟨⟨a1, a2, a3, a4, a5, a6⟩, hT, ⟨ρ, hL⟩, hK0, hD, hH, hC⟩ := id hG
  simp only [w_X12_remove, m_recv hb]
  rw [s_isMask hb]
  refine wJoin_i (fun K => (∀ v, v ≠ 0 → K v (mS b fi ar)) ∧ ((0 ≤ t ∧ t < fi 10) → K 0 (mS b fi ar))) ⟨fun v hv => ?_, fun ht => ?_⟩ (fun K hK => ?_)
  · rw [m_recv hb, s_fN hb hv]
    exact hQ _ _ _ hg1 rfl
  · rw [m_recv hb, s_f0 hb]
    obtain ⟨q1, q2, q3, q4, q5, q6⟩ := G_tab hG ht
    obtain ⟨hfi, hla⟩ := mP_first hL q4
    simp only [mw hb, q1, true_and, va_up_self, va_up_ne, ne_eq, Nat.reduceEqDiff, not_false_eq_true]
    refine s_seek hb hL hT a2.2 t _ mask _ 0 3 (by decide) (by decide) q1 q5 hfi (by decide) (by decide) (by decide) (fun r lk h1 h2 h3 => ?_)
    have hG1 : GB (6001 * N) (va_up (va_up (va_up fi 0 0) 38 0) 38 lk) ar := hG
    have hr3 : mR ρ r ≤ 3000 := by
      unfold mR
      split
      · omega
      · rcases h1 with h1 | ⟨f, f1, f2⟩
        · omega
        · rw [ix_of f2]; have := (hL.1 f f1).2.2.1; omega
    refine ⟨fun _ => ⟨fun h4 => ?_, fun _ => hQ _ _ _ hg1 rfl⟩, fun _ => ?_⟩
    · have h4' : 0 ≤ r.toInt := by simp only [i32, Int32.reduceToInt] at h4; exact h4
      obtain ⟨z1, z2⟩ := mP_in h1 (by simp only [i32, Int32.reduceToInt]; omega)
      rw [m_recv hb]
      refine s_go hb hG1 (by omega) r z1 z2 (GD_now hD rfl z2 (h2 h4').1) (fun fi' ar' g e1 e2 e3 e4 _ _ _ => ?_)
      simp only [mw hb, z1, true_and]
      exact hQ _ _ _ (GB_mono g (by omega)) (e1 3 (by decide) (by decide))
    · refine wLoop_i (fun n v x => ∃ fi' ar', x = mS b fi' ar' ∧ GB (6001 * N + 3001 - n) fi' ar' ∧ (∀ j, j ≠ 16 → j ≠ 24 → ar' j = ar j) ∧ fi' 10 = fi 10 ∧ mP (ar 11) v.2 ∧ n = mR ρ v.2 ∧ (0 ≤ v.2.toInt → (ar' 16 (ix v.2)).toInt = -1)) (mR ρ r) ⟨_, _, rfl, GB_mono hG1 (by omega), fun _ _ _ => rfl, rfl, h1, rfl, fun h4 => ?_⟩ ?_
      · have h4 : 0 ≤ r.toInt := h4
        obtain ⟨z1, z2⟩ := mP_in h1 (by simp only [i32, Int32.reduceToInt]; exact fun z => by omega)
        exact GD_now hD rfl z2 (h2 h4).1
      rintro n v x again ha ⟨fi1, ar1, rfl, g1, e1, e10, p1, p2, p3⟩
      refine ⟨fun _ => hQ _ _ _ (GB_mono g1 (by omega)) (e1 3 (by decide) (by decide)), fun h4 => ?_⟩
      have h4' : 0 ≤ v.2.toInt := by simp only [i32, Int32.reduceToInt] at h4; omega
      obtain ⟨w1, w2, w3, w4⟩ := m_walk hL p1 h4
      rw [m_recv hb]
      have hr4 : n ≤ 3000 := by
        obtain ⟨f, f1, f2⟩ : ∃ f : Nat, mU (ar 11) f ∧ v.2.toInt = f := by
          rcases p1 with p1 | p1
          · omega
          · exact p1
        rw [p2]; unfold mR; rw [if_neg (by omega), ix_of f2]; have := (hL.1 f f1).2.2.1; omega
      refine s_go hb g1 (by omega) v.2 w1 (by rw [e1 11 (by decide) (by decide)]; exact w2) (p3 h4') (fun fi2 ar2 g2 y1 y2 y3 y4 _ _ _ => ?_)
      have ee : ∀ j, j ≠ 16 → j ≠ 24 → ar2 j = ar j := fun j j1 j2 => by rw [y1 j j1 j2]; exact e1 j j1 j2
      have e10' : fi2 10 = fi 10 := by rw [y2 10 (by decide) (by decide)]; exact e10
      obtain ⟨⟨b1, b2, b3, b4, b5, b6⟩, bT, -, bK0, bD, bH, bC⟩ := id g2
      simp only [mw hb, w1, true_and, ee 18 (by decide) (by decide)]
      have hL2 : GL ρ (fi 10).toInt (fi 20).toInt (ar2 11) (ar2 12) (ar2 17) (ar2 18) (ar2 7) (ar2 8) := by
        rw [ee 11 (by decide) (by decide), ee 12 (by decide) (by decide), ee 17 (by decide) (by decide), ee 18 (by decide) (by decide), ee 7 (by decide) (by decide), ee 8 (by decide) (by decide)]; exact hL
      refine s_seek hb hL2 (by rw [← e10']; exact bT) a2.2 t _ mask _ 0 3 (by decide) (by decide) q1 (by rw [ee 4 (by decide) (by decide)]; exact q5) (by rw [ee 11 (by decide) (by decide)]; exact w3) (by decide) (by decide) (by decide) (fun r2 lk2 k1 k2 k3 => ?_)
      rw [ee 11 (by decide) (by decide)] at k1
      have hlt : mR ρ r2 < n := by
        unfold mR
        split
        · omega
        · have := (k2 (by omega)).2
          omega
      refine ha (mR ρ r2) _ _ hlt ⟨_, _, rfl, GB_mono (S := 6001 * N + 3001 - n + 1) g2 (by omega), ee, e10', k1, rfl, fun k4 => ?_⟩
      have k4 : 0 ≤ r2.toInt := k4
      obtain ⟨z1, z2⟩ := mP_in k1 (by simp only [i32, Int32.reduceToInt]; omega)
      exact GD_now bD rfl (by rw [ee 11 (by decide) (by decide)]; exact z2) (k2 k4).1
  · simp only [wJoin]
    have k1 := hK.1 1 (by decide)
    refine ⟨fun _ => k1, fun _ => ⟨fun _ => k1, fun h1 => ⟨fun h2 => ?_, fun _ => k1⟩⟩⟩
    rw [m_recv hb, m_isT hb]
    exact ⟨fun _ => hK.1 2 (by decide), fun h => hK.2 h⟩
end S10
