set_option linter.unusedVariables false
set_option linter.unusedSimpArgs false
section S17
variable {b : MT} {fi : Nat → Int32} {ar : Nat → Nat → Int32} {X : String → HS → Prop} {Q : Int32 → HS → Prop} {ρ : Nat → Nat}
theorem SV_goal (hS : SV ρ fi ar) {g : Nat} (hg : (g : Int) < (fi 49).toInt) : GoalOK (fi 10).toInt g ar := hS.2.2.2.1.2.2 g hg
theorem TG_goal {g : Nat} (h : GoalOK (fi 10).toInt g ar) (h0 : ar 44 g = 0 ∨ ar 44 g = 1) : TG (fi 10).toInt g ar := by
  rcases h with ⟨h1, h2⟩ | ⟨h1, -⟩ | ⟨h1, -⟩
  · exact h2
  · exfalso; rcases h0 with h0 | h0 <;> rw [h0] at h1 <;> revert h1 <;> decide
  · exfalso; rcases h0 with h0 | h0 <;> rw [h0] at h1 <;> revert h1 <;> decide
theorem s_holds (hb : MB b) {g when_ : Int32} (hS : SV ρ fi ar) (hg : wIn g 11) (hlt : g.toInt < (fi 49).toInt) (hne : ar 44 (ix g) ≠ 0) (hl0 : 0 ≤ (fi 38).toInt) (hl1 : (fi 38).toInt ≤ 50000) (hQ : ∀ (r lk : Int32) ar', (r = 0 ∨ r = 1) → (∀ j, j ≠ 52 → j ≠ 50 → ar' j = ar j) → (fi 38).toInt ≤ lk.toInt → lk.toInt ≤ 50001 → Q r (mS b (va_up fi 38 lk) ar')) : w_X12_holds (some b.o) g when_ (mS b fi ar) Q X := by
  have hgi : ((ix g : Nat) : Int) = g.toInt := ix_int hg.1
  have hG := SV_goal hS (g := ix g) (by omega)
  have hQ0 : ∀ r : Int32, (r = 0 ∨ r = 1) → wBit r (Q r (mS b fi ar)) := fun r hr => by
    have := hQ r (fi 38) ar hr (fun _ _ _ => rfl) (Int.le_refl _) (by omega)
    rw [va_same] at this
    rcases hr with rfl | rfl
    · rw [wBit0]; exact this
    · rw [wBit1]; exact this
  have hq0 := hQ0 0 (Or.inl rfl)
  have hq1 := hQ0 1 (Or.inr rfl)
  obtain ⟨f1, f2⟩ := p50 hg
  obtain ⟨o1, o2⟩ := p5 hg (k := 1) ⟨by decide, by decide⟩
  obtain ⟨t1, t2⟩ := p5 hg (k := 2) ⟨by decide, by decide⟩
  rw [show ix 1 = 1 from by decide] at o2
  rw [show ix 2 = 2 from by decide] at t2
  simp only [w_X12_holds, mw hb, hg, true_and]
  refine ⟨fun h1 => ?_, fun h1 => ?_⟩
  · have hT := TG_goal hG (Or.inr h1)
    obtain ⟨hL, hGT, h12, -⟩ := id hS
    obtain ⟨c1, c2, c3, c5⟩ := TG_cols hGT h12 hT
    simp only [mw hb, hg, c1, true_and]
    refine s_match hb hS hg hT (mP_first hL c5).1 hl0 hl1 (fun r lk ar' z1 z2 z3 z4 z5 => ?_)
    have hq : ∀ r : Int32, (r = 0 ∨ r = 1) → Q r (mS b (va_up fi 38 lk) ar') := fun r hr => hQ r lk ar' hr (fun j h _ => z2 j h) z3 z4
    simp only [wJoin, wIf, wBit0, wBit1]
    exact ⟨fun _ => hq _ (Or.inl rfl), fun _ => hq _ (Or.inr rfl)⟩
  · have hA : OKp ar (5 * ix g) ∧ OKp ar (5 * ix g + 1) := by
      rcases hG with ⟨h2, -⟩ | ⟨-, h2, h3⟩ | ⟨-, h2, h3, -⟩
      · rcases h2 with h2 | h2
        · exact absurd h2 hne
        · exact absurd h2 h1
      · exact ⟨h2, h3⟩
      · exact ⟨h2, h3⟩
    rw [← o2, ← f2] at hA
    refine s_worth hb f1 hA.1 (fun r1 => ?_)
    rw [m_recv hb]
    refine s_worth hb o1 hA.2 (fun r2 => ?_)
    simp only [mw hb, hg, true_and]
    refine ⟨fun h2 => ?_, fun h2 => ⟨fun h3 => ?_, fun h3 => ⟨fun h4 => ?_, fun h4 => ?_⟩⟩⟩
    · exact ⟨fun _ => hq0, fun _ => hq1⟩
    · exact ⟨fun _ => hq1, fun _ => hq0⟩
    · exact ⟨fun _ => hq0, fun _ => hq1⟩
    · have hB : OKp ar (5 * ix g + 2) ∧ wIn (ar 47 (ix ((5 : Int32) * g))) 8 := by
        rcases hG with ⟨z, -⟩ | ⟨z, -⟩ | ⟨-, z1, -, z3, z4⟩
        · rcases z with z | z
          · exact absurd z hne
          · exact absurd z h1
        · rcases z with (z | z) | z
          · exact absurd z h2
          · exact absurd z h3
          · exact absurd z h4
        · exact ⟨z3, by rw [f2]; exact z1 z4⟩
      rw [← t2] at hB
      refine s_worth hb t1 hB.1 (fun r3 => ?_)
      simp only [wJoin, wIf, mw hb, hg, f1, hB.2, true_and, wBit1]
      have hq : ∀ v : Int32, Q 1 (mS b fi (up2 ar 50 (ix (ar 47 (ix ((5 : Int32) * g)))) v)) := fun v => by
        have := hQ 1 (fi 38) (up2 ar 50 (ix (ar 47 (ix ((5 : Int32) * g)))) v) (Or.inr rfl) (fun j _ h => up2_rn _ _ _ h) (Int.le_refl _) (by omega)
        rw [va_same] at this; exact this
      exact ⟨fun _ => hq _, fun _ => ⟨fun _ => hq _, fun _ => hq _⟩⟩
/-- what a question's walk leaves: rows and the places looked at -/
theorem s_solve (hb : MB b) {when_ : Int32} (hS : SV ρ fi ar) (hl0 : (fi 38).toInt = 0) (hQ : ∀ (r lk : Int32) ar', FS ar ar' → Q r (mS b (va_up fi 38 lk) ar')) : w_X12_solve (some b.o) when_ (mS b fi ar) Q X := by
  have h10 : (fi 49).toInt ≤ 10 := hS.2.2.2.1.2.1
  have h49 : 0 ≤ (fi 49).toInt := hS.2.2.2.1.1
  simp only [w_X12_solve]
  refine wLoop_i (fun m v x => ∃ lk ar', x = mS b (va_up fi 38 lk) ar' ∧ FS ar ar' ∧ 0 ≤ lk.toInt ∧ lk.toInt ≤ 50001 ∧ 0 ≤ v.1.toInt ∧ v.1.toInt ≤ lk.toInt + (if v.2.2 = 0 then 0 else 1) ∧ -1 ≤ v.2.1.toInt ∧ v.2.1.toInt ≤ (fi 49).toInt ∧ (v.2.2 ≠ 0 → v.2.1.toInt < (fi 49).toInt) ∧ (∀ i : Nat, (i : Int) < v.2.1.toInt + (if v.2.2 = 0 then 0 else 1) → ar 44 i = 0 → wIn (ar' 51 i) 3000 ∧ mU (ar 11) (ix (ar' 51 i))) ∧ m = ((50001 - lk.toInt) * 22 + (if v.2.2 = 0 then 21 - v.2.1.toInt else v.2.1.toInt + 1)).toNat) _ ⟨fi 38, ar, by rw [va_same], FS_rf _, by omega, by omega, by show 0 ≤ (0 : Int32).toInt; decide, by show (0 : Int32).toInt ≤ _; simp only [Int32.reduceToInt]; split <;> omega, by show -1 ≤ (0 : Int32).toInt; decide, by show (0 : Int32).toInt ≤ _; simp only [Int32.reduceToInt]; omega, fun z => absurd rfl z, fun i hi => absurd hi (by show ¬ (i : Int) < (0 : Int32).toInt + (if (0 : Int32) = 0 then 0 else 1); simp only [Int32.reduceToInt, if_pos]; omega), rfl⟩ ?_
  rintro m ⟨n, g, back⟩ x again ha ⟨lk, ar1, rfl, e, l1, l2, n1, n2, g1, g2, g3, st, hm⟩
  have ha' : ∀ (n' g' back' lk' : Int32) (N' G' : Int) ar', n'.toInt = N' → g'.toInt = G' → FS ar ar' → 0 ≤ lk'.toInt → lk'.toInt ≤ 50001 → 0 ≤ N' → N' ≤ lk'.toInt + (if back' = 0 then 0 else 1) → -1 ≤ G' → G' ≤ (fi 49).toInt → (back' ≠ 0 → G' < (fi 49).toInt) → (∀ i : Nat, (i : Int) < G' + (if back' = 0 then 0 else 1) → ar 44 i = 0 → wIn (ar' 51 i) 3000 ∧ mU (ar 11) (ix (ar' 51 i))) → ((50001 - lk'.toInt) * 22 + (if back' = 0 then 21 - G' else G' + 1)).toNat < m → again (n', g', back') (mS b (va_up fi 38 lk') ar') := fun n' g' back' lk' N' G' ar' y1 y2 z1 z2 z3 z4 z5 z6 z7 z8 z9 z10 => by
    subst y1 y2
    exact ha _ _ _ z10 ⟨lk', ar', rfl, z1, z2, z3, z4, z5, z6, z7, z8, z9, rfl⟩
  clear ha
  dsimp only at n1 n2 g1 g2 g3 st hm ⊢
  refine wJoin_i (fun K => K (mS b (va_up fi 38 lk) ar1)) (hQ _ _ _ e) (fun K hK => ⟨fun _ => hK, fun hg0 => ?_⟩)
  have hg0 : 0 ≤ g.toInt := by simp only [i32, Int32.reduceToInt] at hg0; omega
  have hgi : ((ix g : Nat) : Int) = g.toInt := ix_int hg0
  have hg9 : -2147483648 ≤ g.toInt + -1 ∧ g.toInt + -1 < 2147483648 := by omega
  have hg8 : -2147483648 ≤ g.toInt + 1 ∧ g.toInt + 1 < 2147483648 := by omega
  have hd1 : (-1 : Int32).toInt = -1 := by decide
  have hu1 : (1 : Int32).toInt = 1 := by decide
  rw [m_getI hb, va_up_self]
  refine ⟨fun _ => hK, fun hlk => ?_⟩
  have hlk : lk.toInt ≤ 50000 := by simp only [i32, Int32.reduceToInt] at hlk; omega
  have e49 : va_up fi 38 lk 49 = fi 49 := rfl
  rw [m_getI hb, e49]
  have b1 : (if (1 : Int32) = 0 then (0 : Int) else 1) = 1 := if_neg (by decide)
  have b0 : (if (0 : Int32) = 0 then (0 : Int) else 1) = 0 := if_pos rfl
  have m1 : ∀ z : Int, (if (1 : Int32) = 0 then 21 - z else z + 1) = z + 1 := fun z => if_neg (by decide)
  have m0 : ∀ z : Int, (if (0 : Int32) = 0 then 21 - z else z + 1) = 21 - z := fun z => if_pos rfl
  have st' : ∀ i : Nat, (i : Int) < g.toInt → ar 44 i = 0 → wIn (ar1 51 i) 3000 ∧ mU (ar 11) (ix (ar1 51 i)) := fun i hi => st i (by split <;> omega)
  have hS1 := SV_lk (lk := lk) (SV_FS hS e)
  refine ⟨fun hall => ?_, fun hall => ?_⟩
  · replace hall : g = fi 49 := hall
    have hbk : back = 0 := Classical.byContradiction fun z => by have := g3 z; rw [hall] at this; omega
    rw [if_pos hbk] at n2 hm
    have hn9 : -2147483648 ≤ n.toInt + 1 ∧ n.toInt + 1 < 2147483648 := by omega
    refine wLoop_i (fun k w x => ∃ ar', x = mS b (va_up fi 38 lk) ar' ∧ FS ar ar' ∧ ar' 51 = ar1 51 ∧ w.1 = n ∧ w.2.1 = g ∧ 0 ≤ w.2.2.toInt ∧ k = (8 - w.2.2.toInt).toNat) 8 ⟨ar1, rfl, e, rfl, rfl, rfl, by show 0 ≤ (0 : Int32).toInt; decide, by show 8 = (8 - (0 : Int32).toInt).toNat; decide⟩ ?_
    rintro k ⟨w1, w2, w3⟩ x again2 ha2 ⟨ar2, rfl, e2, e51, hw1e, hw2e, q1, q2⟩
    dsimp only at q1 q2 hw1e hw2e ⊢
    subst hw1e hw2e
    refine wJoin_i (fun K => K (mS b (va_up fi 38 lk) ar2)) ?_ (fun K hK2 => ⟨fun _ => hK2, fun hw => ⟨fun _ => hK2, fun hw2 => ?_⟩⟩)
    · refine ha' _ _ _ _ _ _ _ (i_add rfl hu1 hn9) (i_add rfl hd1 hg9) e2 l1 l2 (by omega) (by rw [b1]; omega) (by omega) (by omega) (fun _ => by omega) (fun i hi => ?_) ?_
      · rw [e51]; rw [b1] at hi; exact st' i (by omega)
      · rw [m1]; omega
    · have hw3 : w3.toInt < 8 := by simp only [i32, Int32.reduceToInt] at hw; omega
      have hw1 : w1.toInt < 100 := by simp only [i32, Int32.reduceToInt] at hw2; omega
      have e8 : ((8 : Int32) * w1).toInt = 8 * w1.toInt := i_mul (by decide) rfl (by omega)
      have e9 : ((8 : Int32) * w1 + w3).toInt = 8 * w1.toInt + w3.toInt := i_add e8 rfl (by omega)
      have e10 : (w3 + 1).toInt = w3.toInt + 1 := i_add rfl (by decide) (by omega)
      simp only [mw hb, show wIn w3 8 from ⟨q1, by omega⟩, show wIn ((8 : Int32) * w1 + w3) 800 from ⟨by omega, by omega⟩, true_and]
      exact ha2 (8 - (w3 + 1).toInt).toNat _ _ (by omega) ⟨_, rfl, FS_trans e2 (FS_up (by decide)), by rw [up2_rn _ _ _ (by decide)]; exact e51, rfl, rfl, by show 0 ≤ (w3 + 1).toInt; omega, rfl⟩
  · have hlt : g.toInt < (fi 49).toInt := by
      have : g.toInt ≠ (fi 49).toInt := fun z => hall (i_ext z)
      omega
    have hg : wIn g 11 := ⟨hg0, by omega⟩
    have hGO := SV_goal hS1 (g := ix g) (by rw [e49]; omega)
    have e44 : ar1 44 = ar 44 := e 44 (by decide)
    simp only [m_getF hb (show 44 ∈ mIds by decide), m_ald hb (show 44 ∈ mIds by decide) (show mKind 44 = 20 by decide)]
    refine ⟨hg, fun h0 => ?_, fun h0 => ?_⟩
    · have hT := TG_goal hGO (Or.inl h0)
      obtain ⟨hL, hGT, h12, -⟩ := id hS1
      obtain ⟨c1, c2, c3, c5⟩ := TG_cols hGT h12 hT
      have e11 : ar1 11 = ar 11 := e 11 (by decide)
      refine wJoin_i (fun K => ∀ from_, mP (ar1 11) from_ → K from_ (mS b (va_up fi 38 lk) ar1)) (fun from_ hfrom => ?_) (fun K hK2 => ⟨fun hbk => ?_, fun hbk => ?_⟩)
      · rw [m_recv hb]
        refine s_match hb hS1 hg hT hfrom (by rw [va_up_self]; exact l1) (by rw [va_up_self]; exact hlk) (fun r lk2 ar2 z1 z2 z3 z4 z5 => ?_)
        rw [va_up_self] at z3 z5
        rw [va_twice]
        have e2 : FS ar ar2 := FS_trans e (fun j hj => z2 j (fun z => hj (by rw [z]; decide)))
        have e51 : ar2 51 = ar1 51 := z2 51 (by decide)
        refine wJoin_i (fun K => (0 ≤ r.toInt → K 0 (mS b (va_up fi 38 lk2) ar2)) ∧ (r.toInt < 0 → K 1 (mS b (va_up fi 38 lk2) ar2))) ⟨fun hr => ?_, fun hr => ?_⟩ (fun K hK3 => ⟨fun hr => hK3.1 (by simp only [i32, Int32.reduceToInt] at hr; exact hr), fun hr => hK3.2 (by simp only [i32, Int32.reduceToInt] at hr; omega)⟩)
        · refine wJoin_i (fun K => ∀ ar3, FS ar ar3 → ar3 51 = va_up (ar1 51) (ix g) r → K (g + 1) (mS b (va_up fi 38 lk2) ar3)) (fun ar3 e3 e513 => ?_) (fun K hK4 => ⟨fun _ => ?_, fun z => absurd rfl z⟩)
          · refine ha' _ _ _ _ _ _ _ rfl (i_add rfl hu1 hg8) e3 (by omega) z4 n1 (by rw [b0]; split at n2 <;> have := z5 hr <;> omega) (by omega) (by omega) (fun z => absurd rfl z) (fun i hi hi0 => ?_) ?_
            · rw [b0] at hi
              rw [e513]
              by_cases hq : i = ix g
              · rw [hq, va_up_self]
                obtain ⟨y1, y2⟩ := mP_in z1 (by simp only [i32, Int32.reduceToInt]; omega)
                rw [e11] at y2
                exact ⟨y1, y2⟩
              · rw [va_up_ne _ _ hq]; exact st' i (by omega) hi0
            · rw [m0]; have := z5 hr; rw [hm]; split <;> omega
          · simp only [mw hb, hg, true_and]
            have hri : wIn r 3000 := (mP_in z1 (by simp only [i32, Int32.reduceToInt]; omega)).1
            have e3 : FS ar (up2 ar2 51 (ix g) r) := FS_trans e2 (FS_up (by decide))
            have hS3 := SV_lk (lk := lk2) (SV_FS hS e3)
            refine s_give hb hg hri hS3.2.1 hS3.2.2.1 (TG_goal (SV_goal hS3 (g := ix g) (by show _ < (fi 49).toInt; omega)) (Or.inl ?_)) (fun ar4 e4 => ?_)
            · rw [e3 44 (by decide), ← e44]; exact h0
            · exact hK4 _ (FS_trans e3 (fun j hj => e4 j (fun z => hj (by rw [z]; decide)))) (by rw [e4 51 (by decide), up2_rs, e51])
        · refine ⟨fun z => absurd z (by decide), fun _ => ?_⟩
          refine ha' _ _ _ _ _ _ _ rfl (i_add rfl hd1 hg9) e2 (by omega) z4 n1 (by rw [b1]; split at n2 <;> omega) (by omega) (by omega) (fun _ => by omega) (fun i hi => ?_) ?_
          · rw [e51]; rw [b1] at hi; exact st' i (by omega)
          · rw [m1, hm]; split <;> omega
      · simp only [mw hb, hg, c1, true_and]
        exact hK2 _ (mP_first hL c5).1
      · obtain ⟨s1, s2⟩ := st (ix g) (by rw [if_neg hbk]; omega) (by rw [← e44]; exact h0)
        simp only [mw hb, hg, s1, true_and]
        exact hK2 _ (mP_behind hL (by rw [e11]; exact s2)).1
    · refine wJoin_i (fun K => (∀ lk2 ar2, back = 0 → FS ar ar2 → ar2 51 = ar1 51 → lk.toInt ≤ lk2.toInt → lk2.toInt ≤ 50001 → K 0 (mS b (va_up fi 38 lk2) ar2)) ∧ (∀ lk2 ar2, FS ar ar2 → ar2 51 = ar1 51 → lk.toInt ≤ lk2.toInt → lk2.toInt ≤ 50001 → K 1 (mS b (va_up fi 38 lk2) ar2))) ⟨fun lk2 ar2 hbk e2 e51 z1 z2 => ⟨fun _ => ?_, fun z => absurd rfl z⟩, fun lk2 ar2 e2 e51 z1 z2 => ⟨fun z => absurd z (by decide), fun _ => ?_⟩⟩ (fun K hK2 => ?_)
      · rw [if_pos hbk] at n2 hm
        refine ha' _ _ _ _ _ _ _ rfl (i_add rfl hu1 hg8) e2 (by omega) z2 n1 (by rw [b0]; omega) (by omega) (by omega) (fun z => absurd rfl z) (fun i hi hi0 => ?_) ?_
        · rw [b0] at hi
          rw [e51]
          by_cases hq : i = ix g
          · rw [hq, ← e44] at hi0; exact absurd hi0 h0
          · exact st' i (by omega) hi0
        · rw [m0]; omega
      · refine ha' _ _ _ _ _ _ _ rfl (i_add rfl hd1 hg9) e2 (by omega) z2 n1 (by rw [b1]; split at n2 <;> omega) (by omega) (by omega) (fun _ => by omega) (fun i hi => ?_) ?_
        · rw [e51]; rw [b1] at hi; exact st' i (by omega)
        · rw [m1, hm]; split <;> omega
      · refine wJoin_i (fun K2 => ∀ lk2 ar2, FS ar ar2 → ar2 51 = ar1 51 → lk.toInt ≤ lk2.toInt → lk2.toInt ≤ 50001 → K2 (mS b (va_up fi 38 lk2) ar2)) hK2.2 (fun K2 hK3 => ⟨fun hbk => ?_, fun _ => hK3 _ _ e rfl (Int.le_refl _) (by omega)⟩)
        rw [m_recv hb]
        refine s_holds hb hS1 hg (by rw [e49]; exact hlt) h0 (by rw [va_up_self]; exact l1) (by rw [va_up_self]; exact hlk) (fun r lk2 ar2 hr z2 z3 z4 => ?_)
        rw [va_up_self] at z3
        rw [va_twice]
        have e2 : FS ar ar2 := FS_trans e (fun j hj => z2 j (fun z => hj (by rw [z]; decide)) (fun z => hj (by rw [z]; decide)))
        have e51 : ar2 51 = ar1 51 := z2 51 (by decide) (by decide)
        exact ⟨fun _ => hK3 _ _ e2 e51 z3 z4, fun _ => hK2.1 _ _ hbk e2 e51 z3 z4⟩
end S17
