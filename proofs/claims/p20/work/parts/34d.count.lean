set_option linter.unusedVariables false
set_option linter.unusedSimpArgs false
section S5
variable {b : MT} {fi : Nat → Int32} {ar : Nat → Nat → Int32} {X : String → HS → Prop} {Q : Int32 → HS → Prop} {N : Nat}
theorem t_count (hb : MB b) (hG : G N fi ar) (hQ : OKQ b N ar Q) (w : Int32) : w_X12_count (some b.o) w (mS b fi ar) Q X := by
  have hg1 := G_up hG
  obtain ⟨⟨a1, a2, a3, a4, a5, a6⟩, hT, ⟨ρ, hL⟩, hK0, hD, hH, hC⟩ := id hg1
  have hq : ∀ (w : Int32) (r : Int32), Q r (mS b (va_up fi 0 w) ar) := fun w r => hQ _ _ _ hg1 rfl
  simp only [w_X12_count]
  refine wJoin_i (fun K => ∀ v, K v (mS b fi ar)) (fun v => ?_) (fun K hK => ?_)
  · by_cases hv : v = 0
    · subst hv
      rw [m_recv hb, s_f0 hb]
      refine ⟨fun _ => ?_, fun _ => ⟨fun _ => ?_, fun _ => ⟨fun _ => ?_, fun _ => ⟨fun _ => ?_, fun _ => ⟨fun _ => ?_, fun _ => ⟨fun _ => ?_, fun _ => ⟨fun _ => ?_, fun _ => ⟨fun _ => ?_, fun _ => ⟨fun _ => ?_, fun _ => ⟨fun _ => ?_, fun _ => ?_⟩⟩⟩⟩⟩⟩⟩⟩⟩⟩
      · rw [m_getI hb]; exact hq _ _
      · rw [m_getI hb]; exact hq _ _
      · rw [m_getI hb]; exact hq _ _
      · rw [m_getI hb]; exact hq _ _
      · rw [m_getI hb]; exact hq _ _
      · rw [m_getI hb]; exact hq _ _
      · rw [m_getI hb]; exact hq _ _
      · refine wLoop_i (fun n v x => x = mS b (va_up fi 0 0) ar ∧ 0 ≤ v.2.toInt ∧ v.2.toInt ≤ 10 ∧ n = (10 - v.2.toInt).toNat) 10 ⟨rfl, by decide, by decide, by decide⟩ ?_
        rintro n v x again ha ⟨rfl, h1, h2, h3⟩
        simp only [wIf, wJoin, mw hb]
        refine ⟨fun _ => hq _ _, fun h4 => ?_⟩
        have h5 : v.2.toInt < 10 := by simp only [i32, Int32.reduceToInt] at h4; omega
        have hv : (v.2 + 1).toInt = v.2.toInt + 1 := by simp only [i32, Int32.reduceToInt]; omega
        exact ⟨⟨h1, by omega⟩, fun _ => ha (10 - (v.2 + 1).toInt).toNat _ _ (by omega) ⟨rfl, by show 0 ≤ (v.2 + 1).toInt; omega, by show (v.2 + 1).toInt ≤ 10; omega, rfl⟩, fun _ => ha (10 - (v.2 + 1).toInt).toNat _ _ (by omega) ⟨rfl, by show 0 ≤ (v.2 + 1).toInt; omega, by show (v.2 + 1).toInt ≤ 10; omega, rfl⟩⟩
      · rw [m_getI hb]; exact hq _ _
      · refine wLoop_i (fun n v x => x = mS b (va_up fi 0 0) ar ∧ 0 ≤ v.2.toInt ∧ v.2.toInt ≤ 8 ∧ n = (8 - v.2.toInt).toNat) 8 ⟨rfl, by decide, by decide, by decide⟩ ?_
        rintro n v x again ha ⟨rfl, h1, h2, h3⟩
        simp only [wIf, wJoin, mw hb]
        refine ⟨fun _ => hq _ _, fun h4 => ?_⟩
        have h5 : v.2.toInt < 8 := by simp only [i32, Int32.reduceToInt] at h4; omega
        have hv : (v.2 + 1).toInt = v.2.toInt + 1 := by simp only [i32, Int32.reduceToInt]; omega
        exact ha (8 - (v.2 + 1).toInt).toNat _ _ (by omega) ⟨rfl, by show 0 ≤ (v.2 + 1).toInt; omega, by show (v.2 + 1).toInt ≤ 8; omega, rfl⟩
      · rw [m_recv hb, m_isT hb]
        refine ⟨fun _ => hq _ _, fun ht => ?_⟩
        obtain ⟨q1, q2, q3, q4, q5, q6⟩ := G_tab hG ht
        obtain ⟨hfi, -⟩ := mP_first hL q4
        simp only [mw hb, q1, true_and]
        refine wLoop_i (fun n v x => x = mS b (va_up fi 0 0) ar ∧ mP (ar 11) v.2 ∧ n = mR ρ v.2) _ ⟨rfl, hfi, rfl⟩ ?_
        rintro n v x again ha ⟨rfl, h1, h2⟩
        simp only [wIf]
        refine ⟨fun _ => hq _ _, fun h4 => ?_⟩
        obtain ⟨w1, w2, w3, w4⟩ := m_walk hL h1 h4
        simp only [mw hb]
        rw [s_isThere hb _ _ w1]
        simp only [wJoin, mw hb, w1, true_and]
        exact ⟨fun _ => ha _ _ _ (by show mR ρ (ar 18 (ix v.2)) < n; omega) ⟨rfl, w3, rfl⟩, fun _ => ha _ _ _ (by show mR ρ (ar 18 (ix v.2)) < n; omega) ⟨rfl, w3, rfl⟩⟩
    · rw [m_recv hb, s_fN hb hv]
      exact hq _ _
  · simp only [wJoin, wIf, hK]
    simp
theorem t_next (hb : MB b) (hG : G N fi ar) (hQ : OKQ b N ar Q) (c : Int32) : w_X12_next (some b.o) c (mS b fi ar) Q X := by
  have hg1 := G_up hG
  obtain ⟨⟨a1, a2, a3, a4, a5, a6⟩, hT, ⟨ρ, hL⟩, hK0, hD, hH, hC⟩ := id hg1
  simp only [w_X12_next, m_recv hb]
  refine s_wrongCursor hb c (fun h1 h2 => ?_) (fun r hr => ?_)
  · rw [m_recv hb, s_f0 hb]
    obtain ⟨c1, c2, c3⟩ := hC (ix c) (ix_lt h1) h2
    have hct : 0 ≤ ar 30 (ix c) ∧ ar 30 (ix c) < fi 10 := by simp only [i32, Int32.reduceToInt]; exact ⟨c1, c2⟩
    obtain ⟨q1, q2, q3, q4, q5, q6⟩ := G_tab hG hct
    obtain ⟨hfi, -⟩ := mP_first hL q4
    simp only [mw hb, h1, true_and, wIf]
    refine ⟨fun _ => ?_, fun _ => hQ _ _ _ hg1 rfl⟩
    refine wJoin_i (fun K => ∀ p, mP (ar 11) p → K p (mS b (va_up (va_up fi 0 0) 38 0) ar)) (fun p hp => ?_) (fun K hK => ?_)
    · simp only [mw hb, h1, true_and]
      obtain ⟨d1, d2⟩ := h1
      have h4c : ((4 : Int32) * c).toInt = 4 * c.toInt := by simp only [i32, Int32.reduceToInt]; omega
      refine s_seek hb hL hT a2.2 _ _ _ _ _ 35 (by decide) (by decide) q1 q5 hp (by omega) (by rw [h4c, show mLen 35 = 40 from by decide]; omega) (by decide) (fun r lk r1 r2 r3 => ?_)
      have h1 : wIn c 10 := ⟨d1, d2⟩
      simp only [mw hb, h1, true_and]
      refine ⟨fun r4 => ⟨(mP_in r1 (by simp only [i32, Int32.reduceToInt] at r4 ⊢; omega)).1, hQ _ _ _ ?_ rfl⟩, fun _ => ⟨by simp, hQ _ _ _ hg1 rfl⟩⟩
      simp only [G, GB, up2_rs, up2_rn, va_up_self, va_up_ne, ne_eq, Nat.reduceEqDiff, not_false_eq_true]
      refine ⟨⟨a1, a2, a3, a4, a5, a6⟩, hT, ⟨ρ, hL⟩, hK0, hD, hH, fun c' hc' ho => ?_⟩
      obtain ⟨y1, y2, y3⟩ := hC c' hc' ho
      refine ⟨y1, y2, ?_⟩
      by_cases hq : c' = ix c
      · rw [hq, va_up_self]; exact r1
      · rw [va_up_ne _ _ hq]; exact y3
    · simp only [mw hb, h1, q1, true_and]
      refine ⟨fun r4 => ?_, fun _ => hK _ hfi⟩
      obtain ⟨z1, z2, z3, z4⟩ := m_walk hL c3 (by simp only [i32, Int32.reduceToInt] at r4 ⊢; omega)
      exact ⟨z1, hK _ z3⟩
  · rw [m_recv hb, s_fN hb hr]
    exact hQ _ _ _ hg1 rfl
theorem t_open (hb : MB b) (hG : G N fi ar) (hQ : OKQ b N ar Q) (t mask at_ : Int32) : w_X12_open (some b.o) t mask at_ (mS b fi ar) Q X := by
  have hg1 := G_up hG
  obtain ⟨⟨a1, a2, a3, a4, a5, a6⟩, hT, hL, hK0, hD, hH, hC⟩ := id hg1
  simp only [w_X12_open]
  refine wLoop_i (fun n v x => x = mS b fi ar ∧ 0 ≤ v.toInt ∧ v.toInt ≤ 10 ∧ n = (10 - v.toInt).toNat) 10 ⟨rfl, by decide, by decide, by decide⟩ ?_
  rintro n c x again ha ⟨rfl, h1, h2, h3⟩
  refine wJoin_i (fun K => K (mS b fi ar)) ?_ (fun K hK => ?_)
  · rw [m_recv hb, s_isMask hb]
    refine wJoin_i (fun K => (∀ v, v ≠ 0 → K v (mS b fi ar)) ∧ ((0 ≤ t ∧ t < fi 10) → c ≠ 10 → K 0 (mS b fi ar))) ⟨fun v hv => ?_, fun ht hc => ?_⟩ (fun K hK => ?_)
    · rw [m_recv hb, s_fN hb hv]
      exact hQ _ _ _ hg1 rfl
    · rw [m_recv hb, s_f0 hb]
      have hcn : c.toInt ≠ 10 := fun z => hc (i_ext (by rw [z]; decide))
      have hin : wIn c 10 := ⟨h1, by omega⟩
      obtain ⟨q1, q2, q3, q4, q5, q6⟩ := G_tab hG ht
      simp only [mw hb, hin, true_and]
      refine ⟨by simp, by simp, ?_⟩
      refine s_timeOf hb _ (fun tm => ?_)
      simp only [mw hb, hin, true_and]
      refine wLoop_i (fun n v x => ∃ ar2, x = mS b (va_up fi 0 0) ar2 ∧ (∀ j, j ≠ 28 → j ≠ 29 → j ≠ 30 → j ≠ 31 → j ≠ 32 → j ≠ 33 → j ≠ 34 → j ≠ 35 → ar2 j = ar j) ∧ ar2 28 = va_up (ar 28) (ix c) 1 ∧ ar2 30 = va_up (ar 30) (ix c) t ∧ ar2 33 = va_up (ar 33) (ix c) (-1) ∧ 0 ≤ v.toInt ∧ v.toInt ≤ 4 ∧ n = (4 - v.toInt).toNat) 4 ⟨_, rfl, ?_, ?_, ?_, ?_, by decide, by decide, by decide⟩ ?_
      · intro j j1 j2 j3 j4 j5 j6 j7 j8
        rw [up2_rn _ _ _ j7, up2_rn _ _ _ j6, up2_rn _ _ _ j5, up2_rn _ _ _ j4, up2_rn _ _ _ j3, up2_rn _ _ _ j2, up2_rn _ _ _ j1]
      · simp only [up2_rs, up2_rn, ne_eq, Nat.reduceEqDiff, not_false_eq_true]
      · simp only [up2_rs, up2_rn, ne_eq, Nat.reduceEqDiff, not_false_eq_true]
      · simp only [up2_rs, up2_rn, ne_eq, Nat.reduceEqDiff, not_false_eq_true]
      · rintro n v x again2 ha2 ⟨ar2, rfl, e, e28, e30, e33, v1, v2, v3⟩
        simp only [wIf, mw hb]
        have ee : ∀ j, j < 28 → ar2 j = ar j := fun j hj => e j (by omega) (by omega) (by omega) (by omega) (by omega) (by omega) (by omega) (by omega)
        refine ⟨fun _ => hQ _ _ _ ?_ (ee 3 (by decide)), fun v4 => ?_⟩
        · simp only [G, GB, ee 4 (by decide), ee 6 (by decide), ee 7 (by decide), ee 8 (by decide), ee 11 (by decide), ee 12 (by decide), ee 15 (by decide), ee 16 (by decide), ee 17 (by decide), ee 18 (by decide), ee 19 (by decide), ee 24 (by decide), ee 26 (by decide), e28, e30, e33]
          refine ⟨⟨a1, a2, a3, a4, a5, a6⟩, hT, hL, hK0, hD, hH, fun c' hc' ho => ?_⟩
          by_cases hq : c' = ix c
          · subst hq
            rw [va_up_self, va_up_self]
            exact ⟨q2, q3, Or.inl (by decide)⟩
          · rw [va_up_ne _ _ hq] at ho
            rw [va_up_ne _ _ hq, va_up_ne _ _ hq]
            exact hC c' hc' ho
        · have v5 : v.toInt < 4 := by simp only [i32, Int32.reduceToInt] at v4; omega
          have hv : (v + 1).toInt = v.toInt + 1 := by simp only [i32, Int32.reduceToInt]; omega
          refine ⟨⟨v1, by omega⟩, ?_, ha2 _ _ _ (by omega) ⟨_, rfl, ?_, ?_, ?_, ?_, by omega, by omega, rfl⟩⟩
          · simp only [wIn, i32, Int32.reduceToInt]; omega
          · intro j j1 j2 j3 j4 j5 j6 j7 j8
            rw [up2_rn _ _ _ j8]; exact e j j1 j2 j3 j4 j5 j6 j7 j8
          · rw [up2_rn _ _ _ (by decide)]; exact e28
          · rw [up2_rn _ _ _ (by decide)]; exact e30
          · rw [up2_rn _ _ _ (by decide)]; exact e33
    · simp only [wJoin]
      have k1 := hK.1 1 (by decide)
      refine ⟨fun _ => k1, fun _ => ?_⟩
      rw [m_recv hb]
      refine s_isTime hb _ (fun r2 hr2 => ⟨fun _ => k1, fun _ => ?_⟩)
      rw [m_recv hb, m_isT hb]
      exact ⟨fun _ => hK.1 2 (by decide), fun h => ⟨fun _ => hK.1 3 (by decide), fun h2 => hK.2 h h2⟩⟩
  · simp only [wIf, mw hb]
    refine ⟨fun _ => hK, fun h4 => ?_⟩
    have h5 : c.toInt < 10 := by simp only [i32, Int32.reduceToInt] at h4; omega
    have hv : (c + 1).toInt = c.toInt + 1 := by simp only [i32, Int32.reduceToInt]; omega
    exact ⟨⟨h1, by omega⟩, fun _ => hK, fun _ => ha _ _ _ (by omega) ⟨rfl, by omega, by omega, rfl⟩⟩
end S5
