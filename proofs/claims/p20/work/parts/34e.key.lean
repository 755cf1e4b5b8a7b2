set_option linter.unusedVariables false
set_option linter.unusedSimpArgs false
section S6
variable {b : MT} {fi : Nat → Int32} {ar : Nat → Nat → Int32} {X : String → HS → Prop} {Q : Int32 → HS → Prop} {N : Nat}
theorem s_four (hb : MB b) {Q : HS → Prop} (a : Int32) (h0 : 0 ≤ (fi 2).toInt) (h1 : (fi 2).toInt ≤ 396) (hQ : ∀ tp ar2, tp.toInt = (fi 2).toInt + 4 → (∀ j, j ≠ 1 → ar2 j = ar j) → Q (mS b (va_up fi 2 tp) ar2)) : w_X12_four (some b.o) a (mS b fi ar) Q X := by
  simp only [w_X12_four]
  refine wLoop_i (fun n v x => ∃ tp ar2, x = mS b (va_up fi 2 tp) ar2 ∧ (∀ j, j ≠ 1 → ar2 j = ar j) ∧ n ≤ 4 ∧ v.toInt = 8 * n - 8 ∧ tp.toInt = (fi 2).toInt + 4 - n) 4 ⟨fi 2, ar, by rw [va_same], fun _ _ => rfl, by decide, by decide, by omega⟩ ?_
  rintro n v x again ha ⟨tp, ar2, rfl, e, n1, n2, n3⟩
  simp only [wIf, mw hb, va_up_self, va_twice]
  refine ⟨fun h => hQ _ _ ?_ e, fun h => ?_⟩
  · simp only [i32, Int32.reduceToInt] at h; omega
  · simp only [i32, Int32.reduceToInt] at h
    have e1 : (tp + 1).toInt = tp.toInt + 1 := by simp only [i32, Int32.reduceToInt]; omega
    have e2 : (v + (-8)).toInt = v.toInt - 8 := by simp only [i32, Int32.reduceToInt]; omega
    exact ⟨⟨by omega, by omega⟩, ha (n - 1) _ _ (by omega) ⟨_, _, rfl, fun j hj => by rw [up2_rn _ _ _ hj]; exact e j hj, by omega, by omega, by omega⟩⟩
theorem t_feed (hb : MB b) (hG : G N fi ar) (hQ : OKQ b N ar Q) (a1 a2 a3 a4 a5 : Int32) : w_X12_feed (some b.o) a1 a2 a3 a4 a5 (mS b fi ar) Q X := by
  have hg1 := G_up hG
  obtain ⟨⟨g1, g2⟩, g3⟩ := id hg1
  simp only [w_X12_feed, m_getI hb]
  refine wJoin_i (fun K => (∀ v, v ≠ 0 → K v (mS b fi ar)) ∧ ((fi 2).toInt ≤ 380 → K 0 (mS b fi ar))) ⟨fun v hv => ?_, fun h => ?_⟩ (fun K hK => ?_)
  · rw [m_recv hb, s_fN hb hv]
    exact hQ _ _ _ hg1 rfl
  · rw [m_recv hb, s_f0 hb, m_recv hb]
    have e2 : va_up fi 0 0 2 = fi 2 := rfl
    refine s_four hb _ (by rw [e2]; omega) (by rw [e2]; omega) (fun t1 r1 h1 e1 => ?_)
    rw [e2] at h1
    rw [m_recv hb]
    refine s_four hb _ (by rw [va_up_self]; omega) (by rw [va_up_self]; omega) (fun t2 r2 h2 e2 => ?_)
    rw [va_up_self] at h2
    rw [m_recv hb]
    refine s_four hb _ (by rw [va_up_self]; omega) (by rw [va_up_self]; omega) (fun t3 r3 h3 e3 => ?_)
    rw [va_up_self] at h3
    rw [m_recv hb]
    refine s_four hb _ (by rw [va_up_self]; omega) (by rw [va_up_self]; omega) (fun t4 r4 h4 e4 => ?_)
    rw [va_up_self] at h4
    rw [m_recv hb]
    refine s_four hb _ (by rw [va_up_self]; omega) (by rw [va_up_self]; omega) (fun t5 r5 h5 e5 => ?_)
    rw [va_up_self] at h5
    rw [m_getI hb]
    simp only [va_twice]
    have ee : ∀ j, j ≠ 1 → r5 j = ar j := fun j hj => by rw [e5 j hj, e4 j hj, e3 j hj, e2 j hj, e1 j hj]
    refine hQ _ _ _ ?_ (ee 3 (by decide))
    simp only [G, GB, va_up_self, va_up_ne, ne_eq, Nat.reduceEqDiff, not_false_eq_true, ee 4 (by decide), ee 6 (by decide), ee 7 (by decide), ee 8 (by decide), ee 11 (by decide), ee 12 (by decide), ee 15 (by decide), ee 16 (by decide), ee 17 (by decide), ee 18 (by decide), ee 19 (by decide), ee 24 (by decide), ee 26 (by decide), ee 28 (by decide), ee 30 (by decide), ee 33 (by decide)]
    exact ⟨⟨⟨by omega, by omega⟩, g2⟩, g3⟩
  · simp only [wIf]
    refine ⟨fun h => hK.2 ?_, fun _ => hK.1 1 (by decide)⟩
    have e1 : (fi 2 + 20).toInt = (fi 2).toInt + 20 := by simp only [i32, Int32.reduceToInt]; omega
    rw [Int32.le_iff_toInt_le, e1, show (400 : Int32).toInt = 400 from by decide] at h
    omega
theorem t_key (hb : MB b) (hG : G N fi ar) (hQ : OKQ b N ar Q) (t mask : Int32) : w_X12_key (some b.o) t mask (mS b fi ar) Q X := by
  have hg1 := G_up hG
  obtain ⟨⟨a1, a2, a3, a4, a5, a6⟩, hT, ⟨ρ, hL⟩, hK0, hD, hH, hC⟩ := id hg1
  simp only [w_X12_key, m_recv hb]
  rw [s_isTable hb]
  refine wJoin_i (fun K => (∀ v, v ≠ 0 → K v (mS b fi ar)) ∧ ((0 ≤ t ∧ t < fi 10) → K 0 (mS b fi ar))) ⟨fun v hv => ?_, fun ht => ?_⟩ (fun K hK => ?_)
  · rw [m_recv hb, s_fN hb hv]
    exact hQ _ _ _ hg1 rfl
  · rw [m_recv hb, s_f0 hb]
    obtain ⟨q1, q2, q3, q4, q5, q6⟩ := G_tab hG ht
    obtain ⟨hfi, -⟩ := mP_first hL q4
    obtain ⟨-, -, km1, km2⟩ := hT (ix t) q4
    refine wLoop_i (fun n v x => x = mS b (va_up fi 0 0) ar ∧ 0 ≤ v.toInt ∧ v.toInt ≤ 3 ∧ n = (3 - v.toInt).toNat) 3 ⟨rfl, by decide, by decide, by decide⟩ ?_
    rintro n v x again ha ⟨rfl, h1, h2, h3⟩
    simp only [mw hb, q1, true_and]
    refine ⟨fun _ => ?_, fun h4 => ?_⟩
    · refine wLoop_i (fun n v x => x = mS b (va_up fi 0 0) ar ∧ mP (ar 11) v.2 ∧ n = mR ρ v.2) _ ⟨rfl, hfi, rfl⟩ ?_
      rintro n2 v2 x2 again2 ha2 ⟨rfl, p1, p2⟩
      refine ⟨fun _ => ?_, fun p3 => ?_⟩
      · refine wJoin_i (fun K => (∀ v, v ≠ 0 → K v (mS b (va_up fi 0 0) ar)) ∧ (ar 6 (ix t) ≠ 3 → K 0 (mS b (va_up fi 0 0) ar))) ⟨fun v hv => ?_, fun hk => ?_⟩ (fun K hK => ?_)
        · rw [m_recv hb, s_fN hb hv]
          exact hQ _ _ _ hg1 rfl
        · rw [m_recv hb, s_f0 hb]
          have hk3 : (ar 6 (ix t)).toInt ≠ 3 := fun z => hk (i_ext (by rw [z]; decide))
          simp only [mw hb, q1, true_and, up2_rn, ne_eq, Nat.reduceEqDiff, not_false_eq_true]
          refine ⟨?_, hQ _ _ _ ?_ rfl⟩
          · obtain ⟨z1, z2⟩ := q1
            have m3 : ((3 : Int32) * t).toInt = 3 * t.toInt := i_mul (by decide) rfl (by omega)
            have m4 := i_add m3 (b := ar 6 (ix t)) rfl (by omega)
            unfold wIn; omega
          · simp only [G, GB, up2_rs, up2_rn, va_up_self, va_up_ne, ne_eq, Nat.reduceEqDiff, not_false_eq_true]
            refine ⟨⟨a1, a2, a3, a4, a5, a6⟩, fun t' ht' => ?_, ⟨ρ, hL⟩, hK0, hD, hH, hC⟩
            by_cases hq : t' = ix t
            · subst hq
              rw [va_up_self]
              obtain ⟨y1, y2, y3, y4⟩ := hT (ix t) q4
              have : (ar 6 (ix t) + 1).toInt = (ar 6 (ix t)).toInt + 1 := by simp only [i32, Int32.reduceToInt]; omega
              exact ⟨y1, y2, by omega, by omega⟩
            · rw [va_up_ne _ _ hq]; exact hT t' ht'
        · simp only [wIf, mw hb, q1, true_and]
          exact ⟨fun _ => ⟨fun _ => hK.1 4 (by decide), fun h => hK.2 h⟩, fun _ => hK.1 3 (by decide)⟩
      · obtain ⟨w1, w2, w3, w4⟩ := m_walk hL p1 p3
        simp only [mw hb, w1, true_and]
        refine wLoop_i (fun n v x => x = mS b (va_up fi 0 0) ar ∧ v.2.1 = v2.2 ∧ mP (ar 11) v.2.2 ∧ n = mR ρ v.2.2) _ ⟨rfl, rfl, w3, rfl⟩ ?_
        rintro n3 v3 x3 again3 ha3 ⟨rfl, r0, r1, r2⟩
        refine wJoin_i (fun K => K (mS b (va_up fi 0 0) ar)) ?_ (fun K hK => ?_)
        · rw [r0]
          simp only [mw hb, w1, true_and]
          exact ha2 (mR ρ (ar 18 (ix v2.2))) _ _ (by omega) ⟨rfl, w3, rfl⟩
        · refine ⟨fun _ => hK, fun r3 => ?_⟩
          obtain ⟨y1, y2, y3, y4⟩ := m_walk hL r1 r3
          rw [r0]
          rw [m_getI hb, m_recv hb, s_isThere hb _ _ w1]
          refine ⟨fun _ => hK, fun _ => ?_⟩
          rw [m_getI hb, m_recv hb, s_isThere hb _ _ y1]
          refine wJoin_i (fun K => ∀ v, K v (mS b (va_up fi 0 0) ar)) (fun v => ?_) (fun K hK => ?_)
          · simp only [mw hb, y1, true_and]
            exact ha3 (mR ρ (ar 18 (ix v3.2.2))) _ _ (by omega) ⟨rfl, rfl, y3, rfl⟩
          · refine ⟨fun _ => hK _, fun _ => ?_⟩
            rw [m_recv hb]
            exact s_alike hb _ _ _ w1 y1 (fun r hr => ⟨fun _ => hK _, fun _ => hK _⟩)
    · have h5 : v.toInt < 3 := by simp only [i32, Int32.reduceToInt] at h4; omega
      have hv : (v + 1).toInt = v.toInt + 1 := by simp only [i32, Int32.reduceToInt]; omega
      refine ⟨?_, fun _ => hQ _ _ _ hg1 rfl, fun _ => ha _ _ _ (by omega) ⟨rfl, by omega, by omega, rfl⟩⟩
      obtain ⟨z1, z2⟩ := q1
      have m3 : ((3 : Int32) * t).toInt = 3 * t.toInt := i_mul (by decide) rfl (by omega)
      have m4 := i_add m3 (b := v) rfl (by omega)
      unfold wIn; omega
  · by_cases h1 : 0 ≤ t ∧ t < fi 10
    · have hT := (G_tab hG h1).1
      rw [if_pos h1]
      simp only [wIf, wJoin, mw hb, hT, true_and]
      exact ⟨fun _ => hK.1 1 (by decide), fun _ => ⟨fun _ => hK.1 2 (by decide), fun _ => ⟨fun _ => hK.2 h1, fun _ => hK.1 2 (by decide)⟩⟩⟩
    · rw [if_neg h1]
      exact ⟨fun _ => hK.1 1 (by decide), fun h => absurd rfl h⟩
end S6
