set_option linter.unusedVariables false
set_option linter.unusedSimpArgs false
section S9
variable {b : MT} {fi : Nat → Int32} {ar : Nat → Nat → Int32} {X : String → HS → Prop} {N : Nat}
/-- one has come and is linked: all is good again -/
theorem GB_come {T : Int} (hG : GB T fi ar) {r : Int32} {fi' : Nat → Int32} {ar' ar'' : Nat → Nat → Int32} (hT : T < 2000000000) (hr : wIn r 3000) (hu : ar 11 (ix r) = 0) (hk : (fi 20).toInt < 3000)
    (e11 : ar' 11 = va_up (ar 11) (ix r) 1) (e20 : fi' 20 = fi 20 + 1) (e22 : fi' 22 = fi 22 + 1) (efi : ∀ j, j ≠ 20 → j ≠ 21 → j ≠ 22 → j ≠ 25 → fi' j = fi j)
    (ear : ∀ j, j ≠ 11 → j ≠ 12 → j ≠ 14 → j ≠ 15 → j ≠ 16 → j ≠ 19 → j ≠ 24 → ar' j = ar j) (e2 : ∀ j, j ≠ 13 → j ≠ 17 → j ≠ 18 → j ≠ 7 → j ≠ 8 → j ≠ 19 → ar'' j = ar' j)
    (hD : GD ((fi 22).toInt + 1) (ar' 11) (ar' 15) (ar' 16) (ar'' 19)) (hH : GH ((fi 22).toInt + 1) (fi' 25).toInt (fi 27).toInt (ar' 11) (ar' 15) (ar' 16) (ar' 24) (ar 26))
    (hL : ∃ ρ, GL ρ (fi 10).toInt ((fi 20).toInt + 1) (va_up (ar 11) (ix r) 1) (ar' 12) (ar'' 17) (ar'' 18) (ar'' 7) (ar'' 8)) : GB (T + 1) fi' ar'' := by
  obtain ⟨⟨a1, a2, a3, a4, a5, a6⟩, hTb, -, hK0, -, -, hC⟩ := id hG
  have htm : (fi 22 + 1).toInt = (fi 22).toInt + 1 := i_add rfl (by decide) (by omega)
  have hkk : (fi 20 + 1).toInt = (fi 20).toInt + 1 := i_add rfl (by decide) (by omega)
  unfold GB
  rw [efi 2 (by decide) (by decide) (by decide) (by decide), efi 10 (by decide) (by decide) (by decide) (by decide), efi 27 (by decide) (by decide) (by decide) (by decide), efi 37 (by decide) (by decide) (by decide) (by decide), e20, e22, htm, hkk]
  rw [e2 4 (by decide) (by decide) (by decide) (by decide) (by decide) (by decide), e2 6 (by decide) (by decide) (by decide) (by decide) (by decide) (by decide), e2 11 (by decide) (by decide) (by decide) (by decide) (by decide) (by decide), e2 12 (by decide) (by decide) (by decide) (by decide) (by decide) (by decide), e2 15 (by decide) (by decide) (by decide) (by decide) (by decide) (by decide), e2 16 (by decide) (by decide) (by decide) (by decide) (by decide) (by decide), e2 24 (by decide) (by decide) (by decide) (by decide) (by decide) (by decide), e2 26 (by decide) (by decide) (by decide) (by decide) (by decide) (by decide), e2 28 (by decide) (by decide) (by decide) (by decide) (by decide) (by decide), e2 30 (by decide) (by decide) (by decide) (by decide) (by decide) (by decide), e2 33 (by decide) (by decide) (by decide) (by decide) (by decide) (by decide)]
  rw [ear 4 (by decide) (by decide) (by decide) (by decide) (by decide) (by decide) (by decide), ear 6 (by decide) (by decide) (by decide) (by decide) (by decide) (by decide) (by decide), ear 26 (by decide) (by decide) (by decide) (by decide) (by decide) (by decide) (by decide), ear 28 (by decide) (by decide) (by decide) (by decide) (by decide) (by decide) (by decide), ear 30 (by decide) (by decide) (by decide) (by decide) (by decide) (by decide) (by decide), ear 33 (by decide) (by decide) (by decide) (by decide) (by decide) (by decide) (by decide)]
  refine ⟨⟨a1, a2, ⟨by omega, by omega⟩, ⟨by omega, by omega⟩, a5, a6⟩, hTb, by rw [e11]; exact hL, ?_, hD, hH, ?_⟩
  · rw [e11, cnt_set (p := fun f => ar 11 f != 0) (q := fun f => va_up (ar 11) (ix r) 1 f != 0) (f := ix r) ?_ ?_ ?_ (ix_lt hr)]
    · omega
    · rw [hu]; rfl
    · rw [va_up_self]; decide
    · intro i hi; rw [va_up_ne _ _ hi]
  · intro c hc ho
    obtain ⟨d1, d2, d3⟩ := hC c hc ho
    exact ⟨d1, d2, by rw [e11]; exact mP_up (ix_lt hr) (by decide) d3⟩
theorem t_add (hb : MB b) (hG : G N fi ar) (hN : N < 300000) {Q : Int32 → HS → Prop} (hQ : OKQ b N ar Q) (t ah : Int32) : w_X12_add (some b.o) t ah (mS b fi ar) Q X := by
  have hg1 := G_up hG
  obtain ⟨⟨a1, a2, a3, a4, a5, a6⟩, hT, ⟨ρ, hL⟩, hK0, hD, hH, hC⟩ := id hG
  simp only [w_X12_add]
  refine wJoin_i (fun K => (∀ v, v ≠ 0 → K v (mS b fi ar)) ∧ ((0 ≤ t ∧ t < fi 10) → K 0 (mS b fi ar))) ⟨fun v hv => ?_, fun ht => ?_⟩ (fun K hK => ?_)
  · rw [m_recv hb, s_fN hb hv]
    exact hQ _ _ _ hg1 rfl
  · rw [m_recv hb, s_f0 hb]
    obtain ⟨q1, q2, q3, q4, q5, q6⟩ := G_tab hG ht
    obtain ⟨hfi, hla⟩ := mP_first hL q4
    obtain ⟨-, -, km1, km2⟩ := hT (ix t) q4
    simp only [mw hb, q1, true_and]
    refine wLoop_i (fun n v x => x = mS b (va_up fi 0 0) ar ∧ mP (ar 11) v.2 ∧ n = mR ρ v.2) _ ⟨rfl, hfi, rfl⟩ ?_
    rintro n v x again ha ⟨rfl, p1, p2⟩
    refine ⟨fun _ => ?_, fun p3 => ?_⟩
    · refine wJoin_i (fun K => (∀ v, v ≠ 0 → K v (mS b (va_up fi 0 0) ar)) ∧ (fi 20 ≠ 3000 → K 0 (mS b (va_up fi 0 0) ar))) ⟨fun v hv => ?_, fun hk => ?_⟩ (fun K hK => ?_)
      · rw [m_recv hb, s_fN hb hv]
        exact hQ _ _ _ hg1 rfl
      · rw [m_recv hb, s_f0 hb, va_twice, m_recv hb]
        have hk3 : (fi 20).toInt ≠ 3000 := fun z => hk (i_ext (by rw [z]; decide))
        have hG0 : GB (6001 * N) (va_up fi 0 0) ar := hG
        refine s_fresh hb hG0 (by omega) (by show (fi 20).toInt < 3000; omega) t (fun r fi' ar' hr hu ear e11 e12 e15 e16 e19 efi e20 e22 gD gH _ _ _ => ?_)
        have hi : r.toInt = ((ix r : Nat) : Int) := (ix_int hr.1).symm
        -- the columns
        refine wLoop_i (fun n v x => ∃ ar2, x = mS b fi' ar2 ∧ (∀ j, j ≠ 13 → ar2 j = ar' j) ∧ 0 ≤ v.toInt ∧ v.toInt ≤ 4 ∧ n = (4 - v.toInt).toNat) 4 ⟨ar', rfl, fun _ _ => rfl, by decide, by decide, by decide⟩ ?_
        rintro n2 v2 x2 again2 ha2 ⟨ar2, rfl, e2, w1, w2, w3⟩
        have c4 : ar2 4 = ar 4 := by rw [e2 4 (by decide)]; exact ear 4 (by decide) (by decide) (by decide) (by decide) (by decide) (by decide) (by decide)
        have c8 : ar2 8 = ar 8 := by rw [e2 8 (by decide)]; exact ear 8 (by decide) (by decide) (by decide) (by decide) (by decide) (by decide) (by decide)
        have c7 : ar2 7 = ar 7 := by rw [e2 7 (by decide)]; exact ear 7 (by decide) (by decide) (by decide) (by decide) (by decide) (by decide) (by decide)
        have c17 : ar2 17 = ar 17 := by rw [e2 17 (by decide)]; exact ear 17 (by decide) (by decide) (by decide) (by decide) (by decide) (by decide) (by decide)
        have c18 : ar2 18 = ar 18 := by rw [e2 18 (by decide)]; exact ear 18 (by decide) (by decide) (by decide) (by decide) (by decide) (by decide) (by decide)
        have c3 : ar' 3 = ar 3 := ear 3 (by decide) (by decide) (by decide) (by decide) (by decide) (by decide) (by decide)
        refine ⟨fun _ => ?_, fun v4 => ?_⟩
        · -- the link
          have c12 : ar2 12 (ix r) = t := by rw [e2 12 (by decide), e12, va_up_self]
          have c11 : ar2 11 = va_up (ar 11) (ix r) 1 := by rw [e2 11 (by decide)]; exact e11
          have hfin : ∀ ar3 : Nat → Nat → Int32, (∀ j, j ≠ 17 → j ≠ 18 → j ≠ 7 → j ≠ 8 → ar3 j = ar2 j) → (∃ ρ, GL ρ (fi 10).toInt ((fi 20).toInt + 1) (va_up (ar 11) (ix r) 1) (ar' 12) (ar3 17) (ar3 18) (ar3 7) (ar3 8)) → wGetF (mS b fi' ar3) 12 14 (some b.o) fun v28 => wAldJ (mS b fi' ar3) 20 v28 r fun v29 => Q v29 (mS b fi' ar3) := by
            intro ar3 e3 hL3
            simp only [mw hb, hr, true_and]
            refine hQ _ _ _ ?_ (by rw [e3 3 (by decide) (by decide) (by decide) (by decide), e2 3 (by decide), c3])
            have := GB_come (fi' := fi') (ar' := ar') (ar'' := ar3) hG0 (by omega) hr hu (by show (fi 20).toInt < 3000; omega) e11 e20 e22 efi ear (fun j j1 j2 j3 j4 j5 j6 => by rw [e3 j j2 j3 j4 j5, e2 j j1]) (by rw [e3 19 (by decide) (by decide) (by decide) (by decide), e2 19 (by decide)]; exact gD) gH hL3
            obtain ⟨⟨y1, y2, y3, y4, y5⟩, y6⟩ := this
            exact ⟨⟨y1, y2, y3, ⟨y4.1, by omega⟩, y5⟩, y6⟩
          have htt : wIn (ar2 12 (ix r)) 12 := by rw [c12]; exact q1
          have hmp : ∀ p, mP (ar 11) p → mP (ar2 11) p := fun p hp => by rw [c11]; exact mP_up (ix_lt hr) (by decide) hp
          have hfront : ∀ ah : Int32, ah.toInt = -1 → w_X12_link (some b.o) r ah (mS b fi' ar2) (fun x26 => wGetF x26 12 14 (some b.o) fun v28 => wAldJ x26 20 v28 r fun v29 => Q v29 x26) X := by
            intro ah hah
            refine s_linkF hb r ah hr htt hah (by rw [c12, c7]; exact hmp _ hfi) (fun ar3 e3 f17 f18 f7 f8 => hfin ar3 e3 ?_)
            rw [f17, f18, f7, f8, c12, c7, c17, c18, c8]
            have := GL_front (u := 1) (t := t) (w := r) (none := ah) hL (ix_lt hr) hu (by decide) q2 q3 a3.1 hi hah
            rw [← e12] at this
            exact ⟨_, this⟩
          refine wJoin_i (fun K => (∀ ah : Int32, ah.toInt = -1 → K ah (mS b fi' ar2)) ∧ K (ar 8 (ix t)) (mS b fi' ar2)) ⟨fun ah hah => ?_, ?_⟩ (fun K hK => ?_)
          · rw [m_recv hb]; exact hfront ah hah
          · rw [m_recv hb]
            rcases hla with hla | ⟨a, z1, z2⟩
            · exact hfront _ hla
            · have hA : ix (ar 8 (ix t)) = a := ix_of z2
              have hta : ar 12 a = t := by
                obtain ⟨-, l2, -⟩ := hL.2.2 (ix t) q4
                rcases l2 with l2 | ⟨f, f1, f2, f3, f4⟩
                · omega
                · have : f = a := by omega
                  rw [← this]
                  have := ix_int q2
                  exact i_ext (by omega)
              have hne : ix r ≠ a := fun q => z1.2 (q ▸ hu)
              obtain ⟨bh1, -⟩ := mP_behind hL z1
              refine s_linkA hb r _ hr htt ⟨by omega, by have := z1.1; omega⟩ (by rw [hA]; exact hne) (by rw [hA, c18]; exact hmp _ bh1) (fun ar3 e3 f17 f18 f7 f8 => hfin ar3 e3 ?_)
              rw [f17, f18, f7, f8, c12, c7, c17, c18, c8, hA]
              have := GL_after (u := 1) (w := r) (wa := ar 8 (ix t)) hL (ix_lt hr) hu (by decide) z1 hi z2
              rw [hta, ← e12] at this
              exact ⟨_, this⟩
          · simp only [mw hb, q1, true_and, c8]
            exact ⟨fun _ => hK.1 _ (by decide), fun _ => hK.2⟩
        · have v5 : v2.toInt < 4 := by simp only [i32, Int32.reduceToInt] at v4; omega
          have hv : (v2 + 1).toInt = v2.toInt + 1 := i_add rfl (by decide) (by omega)
          have m4 : ((4 : Int32) * r).toInt = 4 * r.toInt := i_mul (by decide) rfl (by have := hr.1; have := hr.2; omega)
          have m5 := i_add m4 (b := v2) rfl (by have := hr.1; have := hr.2; omega)
          have hin2 : wIn ((4 : Int32) * r + v2) 12000 := ⟨by have := hr.1; omega, by have := hr.2; omega⟩
          simp only [mw hb, q1, true_and]
          refine wJoin_i (fun K => ∀ w, K w (mS b fi' ar2)) (fun w => ?_) (fun K hK => ?_)
          · simp only [mw hb, hin2, true_and]
            exact ha2 _ _ _ (by omega) ⟨_, rfl, fun j hj => by rw [up2_rn _ _ _ hj]; exact e2 j hj, by omega, by omega, rfl⟩
          · simp only [wIf, mw hb]
            exact ⟨fun _ => hK _, fun _ => ⟨⟨w1, by omega⟩, hK _⟩⟩
      · simp only [wIf, mw hb]
        exact ⟨fun _ => ⟨fun _ => hK.1 4 (by decide), fun h => hK.2 h⟩, fun _ => hK.1 3 (by decide)⟩
    · obtain ⟨w1, w2, w3, w4⟩ := m_walk hL p1 p3
      obtain ⟨u1, u2⟩ := m_tab hL hT a2.2 w2
      refine wLoop_i (fun n x0 x => x = mS b (va_up fi 0 0) ar ∧ x0.2.1 = v.2 ∧ 0 ≤ x0.2.2.toInt ∧ x0.2.2.toInt ≤ 3 ∧ n = (3 - x0.2.2.toInt).toNat) 3 ⟨rfl, rfl, by show 0 ≤ (0 : Int32).toInt; decide, by show (0 : Int32).toInt ≤ 3; decide, by show 3 = (3 - (0 : Int32).toInt).toNat; decide⟩ ?_
      rintro n3 v3 x3 again3 ha3 ⟨rfl, r0, r1, r2, r3⟩
      simp only [mw hb, q1, true_and]
      refine wJoin_i (fun K => K (mS b (va_up fi 0 0) ar)) ?_ (fun K hK => ?_)
      · rw [r0]
        simp only [mw hb, w1, true_and]
        exact ha (mR ρ (ar 18 (ix v.2))) _ _ (by omega) ⟨rfl, w3, rfl⟩
      · refine ⟨fun _ => hK, fun r4 => ?_⟩
        rw [r0, s_isThere hb _ _ w1]
        refine ⟨fun _ => hK, fun _ => ?_⟩
        have r5 : v3.2.2.toInt < 3 := by simp only [i32] at r4; omega
        have hv : (v3.2.2 + 1).toInt = v3.2.2.toInt + 1 := i_add rfl (by decide) (by omega)
        have m3 : ((3 : Int32) * t).toInt = 3 * t.toInt := i_mul (by decide) rfl (by have := q1.1; have := q1.2; omega)
        have m4 := i_add m3 (b := v3.2.2) rfl (by have := q1.1; have := q1.2; omega)
        have hin : wIn ((3 : Int32) * t + v3.2.2) 36 := ⟨by have := q1.1; omega, by have := q1.2; omega⟩
        simp only [mw hb, hin, true_and]
        refine s_fits hb v.2 _ 0 3 (by decide) (by decide) w1 u1 u2 (by decide) (by decide) (by decide) (fun rr hrr => ?_)
        refine wJoin_i (fun K => ∀ w, K w (mS b (va_up fi 0 0) ar)) (fun w => ?_) (fun K hK => ⟨fun _ => hK _, fun _ => hK _⟩)
        exact ha3 (3 - (v3.2.2 + 1).toInt).toNat _ _ (by omega) ⟨rfl, rfl, by show 0 ≤ (v3.2.2 + 1).toInt; omega, by show (v3.2.2 + 1).toInt ≤ 3; omega, rfl⟩
  · simp only [wJoin]
    have k1 := hK.1 1 (by decide)
    refine ⟨fun _ => k1, fun h1 => ⟨fun h2 => ?_, fun _ => k1⟩⟩
    rw [m_recv hb, m_isT hb]
    exact ⟨fun _ => hK.1 2 (by decide), fun h => hK.2 h⟩
end S9
