set_option linter.unusedVariables false
set_option linter.unusedSimpArgs false
/-- as GD, while those that went by t are being taken out -/
def GDx (t time : Int) (U BO DI SD : Nat → Int32) : Prop := (∀ f, mU U f → 1 ≤ (BO f).toInt ∧ (BO f).toInt ≤ time ∧ ((DI f).toInt = -1 ∨ (BO f).toInt < (DI f).toInt ∧ (DI f).toInt ≤ time) ∧ (((DI f).toInt < 0 ∨ t < (DI f).toInt) → ((SD f).toInt = f ∨ ∃ g : Nat, mU U g ∧ (SD f).toInt = g ∧ 0 ≤ (DI f).toInt ∧ (DI f).toInt < (BO g).toInt))) ∧
  (∀ f g, mU U f → mU U g → (BO f).toInt = (BO g).toInt → f = g) ∧ (∀ f g, mU U f → mU U g → 0 ≤ (DI f).toInt → (DI f).toInt = (DI g).toInt → f = g) ∧ (∀ f g, mU U f → mU U g → (BO f).toInt ≠ (DI g).toInt)
theorem mU_del {U : Nat → Int32} {d f : Nat} : mU (va_up U d 0) f ↔ f ≠ d ∧ mU U f := by
  unfold mU va_up
  by_cases q : f = d
  · subst q; simp
  · simp [q]
theorem GDx_del {t time : Int} {U BO DI SD : Nat → Int32} {d : Nat} (h : GDx t time U BO DI SD) (hd : mU U d) (h0 : 0 ≤ (DI d).toInt) (h1 : (DI d).toInt ≤ t) : GDx t time (va_up U d 0) BO DI SD := by
  obtain ⟨k1, k2, k3, k4⟩ := h
  refine ⟨fun f hf => ?_, fun f g hf hg => k2 f g (mU_del.mp hf).2 (mU_del.mp hg).2, fun f g hf hg => k3 f g (mU_del.mp hf).2 (mU_del.mp hg).2, fun f g hf hg => k4 f g (mU_del.mp hf).2 (mU_del.mp hg).2⟩
  obtain ⟨f1, f2⟩ := mU_del.mp hf
  obtain ⟨a1, a2, a3, a4⟩ := k1 f f2
  refine ⟨a1, a2, a3, fun z => ?_⟩
  rcases a4 z with a4 | ⟨g, b1, b2, b3, b4⟩
  · exact Or.inl a4
  · refine Or.inr ⟨g, mU_del.mpr ⟨?_, b1⟩, b2, b3, b4⟩
    intro q
    rw [q] at b4
    have := (k1 d hd).2.2.1
    omega
theorem cnt_del {U : Nat → Int32} {d : Nat} (hd : mU U d) : (cnt (fun f => va_up U d 0 f != 0) 3000 : Int) = cnt (fun f => U f != 0) 3000 - 1 := by
  have := cnt_set (p := fun f => va_up U d 0 f != 0) (q := fun f => U f != 0) (f := d) (by rw [va_up_self]; rfl) (by simpa using hd.2) (fun i hi => by rw [va_up_ne _ _ hi]) hd.1
  omega
section S11
variable {b : MT} {fi : Nat → Int32} {ar : Nat → Nat → Int32} {X : String → HS → Prop} {N : Nat}
/-- what holds while the dead are taken out -/
def PI (T t : Int) (vals : Nat → Int32) (fi : Nat → Int32) (ar : Nat → Nat → Int32) : Prop :=
  GS T (fi 2).toInt (fi 10).toInt (fi 20).toInt (fi 22).toInt (fi 27).toInt (fi 37).toInt ∧ GT (fi 10).toInt (ar 4) (ar 6) ∧ (∃ ρ, GL ρ (fi 10).toInt (fi 20).toInt (ar 11) (ar 12) (ar 17) (ar 18) (ar 7) (ar 8)) ∧
  (fi 20).toInt = cnt (fun f => ar 11 f != 0) 3000 ∧ GDx t (fi 22).toInt (ar 11) (ar 15) (ar 16) (ar 19) ∧ (fi 27).toInt = 0 ∧ (∀ c : Nat, c < 10 → ar 28 c = 0) ∧ ar 3 = vals
theorem t_purge (hb : MB b) (hG : G N fi ar) {Q : Int32 → HS → Prop} (hQ : OKQ b N ar Q) (at_ : Int32) : w_X12_purge (some b.o) at_ (mS b fi ar) Q X := by
  have hg1 := G_up hG
  obtain ⟨⟨a1, a2, a3, a4, a5, a6⟩, hT, ⟨ρ, hL⟩, hK0, hD, hH, hC⟩ := id hg1
  simp only [w_X12_purge, m_getI hb]
  refine wJoin_i (fun K => ∀ v : Int32, (v = 0 → (fi 27).toInt = 0) → K v (mS b fi ar)) (fun v0 hv0 => ?_) (fun K hK => ?_)
  · refine wLoop_i (fun n v x => x = mS b fi ar ∧ 0 ≤ v.2.toInt ∧ v.2.toInt ≤ 10 ∧ n = (10 - v.2.toInt).toNat ∧ (v.1 = 0 → (fi 27).toInt = 0 ∧ ∀ c : Nat, (c : Int) < v.2.toInt → ar 28 c = 0)) 10 ⟨rfl, by show 0 ≤ (0 : Int32).toInt; decide, by show (0 : Int32).toInt ≤ 10; decide, by show 10 = (10 - (0 : Int32).toInt).toNat; decide, fun z => ⟨hv0 z, fun c hc => by
      have hc : (c : Int) < (0 : Int32).toInt := hc
      rw [show (0 : Int32).toInt = 0 from by decide] at hc
      omega⟩⟩ ?_
    rintro n v x again ha ⟨rfl, h1, h2, h3, h4⟩
    refine ⟨fun h5 => ?_, fun h5 => ?_⟩
    · have h5' : v.2.toInt = 10 := by simp only [i32, Int32.reduceToInt] at h5; omega
      rw [m_recv hb]
      refine s_isTime hb _ (fun r1 hr1 => ?_)
      refine wJoin_i (fun K => (∀ v, v ≠ 0 → K v (mS b fi ar)) ∧ (v.1 = 0 → K 0 (mS b fi ar))) ⟨fun w hw => ?_, fun hv => ?_⟩ (fun K hK => ?_)
      · rw [m_recv hb, s_fN hb hw]
        exact hQ _ _ _ hg1 rfl
      · obtain ⟨hm0, hop⟩ := h4 hv
        rw [m_recv hb, s_f0 hb, m_recv hb]
        refine s_timeOf hb _ (fun t => ?_)
        rw [m_getI hb]
        have hPI : ∀ h : Int32, PI (6001 * (N + 1 : Nat)) t.toInt (ar 3) (va_up (va_up fi 0 0) 23 h) ar := fun h => ⟨⟨a1, a2, a3, a4, a5, a6⟩, hT, ⟨ρ, hL⟩, hK0, ⟨fun f hf => by
          obtain ⟨z1, z2, z3, z4⟩ := hD.1 f hf
          exact ⟨z1, z2, z3, fun _ => z4⟩, hD.2⟩, hm0, fun c hc => hop c (by omega), rfl⟩
        refine wJoin_i (fun K => ∀ h : Int32, K (mS b (va_up (va_up fi 0 0) 23 h) ar)) (fun h => ?_) (fun K hK => ?_)
        · refine wLoop_i (fun n v x => ∃ fi' ar', x = mS b fi' ar' ∧ PI (6001 * (N + 1 : Nat)) t.toInt (ar 3) fi' ar' ∧ 0 ≤ v.2.toInt ∧ v.2.toInt ≤ 3000 ∧ n = (3000 - v.2.toInt).toNat ∧ ∀ f, mU (ar' 11) f → (f : Int) < v.2.toInt → (ar' 16 f).toInt < 0 ∨ t.toInt < (ar' 16 f).toInt) 3000 ⟨_, _, rfl, hPI h, by decide, by decide, by decide, fun f _ hf => by
            have hf : (f : Int) < (0 : Int32).toInt := hf
            rw [show (0 : Int32).toInt = 0 from by decide] at hf
            omega⟩ ?_
          rintro n2 v2 x2 again2 ha2 ⟨fi1, ar1, rfl, ⟨⟨b1, b2, b3, b4, b5, b6⟩, bT, ⟨σ, bL⟩, bK, bD, bm, bo, bv⟩, w1, w2, w3, w4⟩
          refine ⟨fun h6 => ?_, fun h6 => ?_⟩
          · have h7 : v2.2.toInt = 3000 := by simp only [i32, Int32.reduceToInt] at h6; omega
            refine hQ _ _ _ ?_ bv
            refine ⟨⟨b1, b2, b3, b4, b5, b6⟩, bT, ⟨σ, bL⟩, bK, ⟨fun f hf => ?_, bD.2⟩, fun z => by omega, fun c hc ho => absurd (bo c hc) ho⟩
            obtain ⟨z1, z2, z3, z4⟩ := bD.1 f hf
            exact ⟨z1, z2, z3, z4 (w4 f hf (by have := hf.1; omega))⟩
          · have h7 : v2.2.toInt < 3000 := by simp only [i32, Int32.reduceToInt] at h6; omega
            have hin : wIn v2.2 3000 := ⟨w1, by omega⟩
            have hv : (v2.2 + 1).toInt = v2.2.toInt + 1 := i_add rfl (by decide) (by omega)
            have hi : ((ix v2.2 : Nat) : Int) = v2.2.toInt := ix_int w1
            simp only [mw hb, hin, true_and]
            refine wJoin_i (fun K => ∀ (w : Int32) fi2 ar2, PI (6001 * (N + 1 : Nat)) t.toInt (ar 3) fi2 ar2 → (∀ f, mU (ar2 11) f → mU (ar1 11) f ∧ ar2 16 f = ar1 16 f) → (mU (ar2 11) (ix v2.2) → (ar1 16 (ix v2.2)).toInt < 0 ∨ t.toInt < (ar1 16 (ix v2.2)).toInt) → K w (mS b fi2 ar2)) (fun w fi2 ar2 p1 p2 p3 => ?_) (fun K hK => ?_)
            · refine ha2 (3000 - (v2.2 + 1).toInt).toNat _ _ (by omega) ⟨_, _, rfl, p1, by show 0 ≤ (v2.2 + 1).toInt; omega, by show (v2.2 + 1).toInt ≤ 3000; omega, rfl, fun f hf hlt => ?_⟩
              have hlt : (f : Int) < (v2.2 + 1).toInt := hlt
              rw [(p2 f hf).2]
              by_cases hq : f = ix v2.2
              · subst hq; exact p3 hf
              · exact w4 f (p2 f hf).1 (by omega)
            · have hPI1 : PI (6001 * (N + 1 : Nat)) t.toInt (ar 3) fi1 ar1 := ⟨⟨b1, b2, b3, b4, b5, b6⟩, bT, ⟨σ, bL⟩, bK, bD, bm, bo, bv⟩
              refine ⟨fun hu => hK _ _ _ hPI1 (fun f hf => ⟨hf, rfl⟩) (fun hz => absurd hu hz.2), fun hu => ?_⟩
              have hu : mU (ar1 11) (ix v2.2) := ⟨ix_lt hin, hu⟩
              refine ⟨fun hd => hK _ _ _ hPI1 (fun f hf => ⟨hf, rfl⟩) (fun _ => Or.inl (by simp only [i32, Int32.reduceToInt] at hd; exact hd)), fun hd => ?_⟩
              refine ⟨fun hd2 => ?_, fun hd2 => hK _ _ _ hPI1 (fun f hf => ⟨hf, rfl⟩) (fun _ => Or.inr (by simp only [i32] at hd2; omega))⟩
              have hd' : 0 ≤ (ar1 16 (ix v2.2)).toInt := by simp only [i32, Int32.reduceToInt] at hd; omega
              have hd2' : (ar1 16 (ix v2.2)).toInt ≤ t.toInt := by simp only [i32] at hd2; exact hd2
              obtain ⟨c1, c2, c3, c4, c5⟩ := bL.1 _ hu
              have htd : wIn (ar1 12 (ix v2.2)) 12 := ⟨c1, by omega⟩
              have hdel := GL_del bL hu
              have hDx := GDx_del bD hu hd' hd2'
              have hcn := cnt_del hu
              have hkk : (fi1 20 - 1).toInt = (fi1 20).toInt - 1 := i_sub rfl (by decide) (by omega)
              have hk1 : 1 ≤ (fi1 20).toInt := by
                have := (bL.1 _ hu).2.2.1; omega
              -- the end of one that is taken out
              have hend : ∀ ar2 : Nat → Nat → Int32, (∀ j, j ≠ 17 → j ≠ 18 → j ≠ 7 → j ≠ 8 → ar2 j = ar1 j) → ar2 17 = (if (ar1 18 (ix v2.2)).toInt < 0 then ar1 17 else va_up (ar1 17) (ix (ar1 18 (ix v2.2))) (ar1 17 (ix v2.2))) → ar2 18 = (if (ar1 17 (ix v2.2)).toInt < 0 then ar1 18 else va_up (ar1 18) (ix (ar1 17 (ix v2.2))) (ar1 18 (ix v2.2))) → ar2 7 = (if (ar1 17 (ix v2.2)).toInt < 0 then va_up (ar1 7) (ix (ar1 12 (ix v2.2))) (ar1 18 (ix v2.2)) else ar1 7) → ar2 8 = (if (ar1 18 (ix v2.2)).toInt < 0 then va_up (ar1 8) (ix (ar1 12 (ix v2.2))) (ar1 17 (ix v2.2)) else ar1 8) → wGetF (mS b fi1 ar2) 12 11 (some b.o) fun v42 => wAstZ (mS b fi1 ar2) v42 v2.2 0 fun x43 => wGetI x43 12 20 (some b.o) fun v44 => wPutI x43 12 20 (some b.o) (v44 - 1) fun x45 => K (v2.1 + 1) x45 := by
                intro ar2 e f17 f18 f7 f8
                simp only [mw hb, hin, true_and]
                refine ⟨by simp, hK _ _ _ ?_ ?_ ?_⟩
                · unfold PI
                  simp only [up2_rs, up2_rn, va_up_self, va_up_ne, ne_eq, Nat.reduceEqDiff, not_false_eq_true, f17, f18, f7, f8, e 3 (by decide) (by decide) (by decide) (by decide), e 4 (by decide) (by decide) (by decide) (by decide), e 6 (by decide) (by decide) (by decide) (by decide), e 11 (by decide) (by decide) (by decide) (by decide), e 12 (by decide) (by decide) (by decide) (by decide), e 15 (by decide) (by decide) (by decide) (by decide), e 16 (by decide) (by decide) (by decide) (by decide), e 19 (by decide) (by decide) (by decide) (by decide), e 28 (by decide) (by decide) (by decide) (by decide)]
                  refine ⟨⟨b1, b2, ⟨by omega, by omega⟩, b4, b5, b6⟩, bT, ⟨_, by rw [hkk]; exact hdel⟩, by omega, hDx, bm, bo, bv⟩
                · intro f hf
                  simp only [up2_rs, up2_rn, ne_eq, Nat.reduceEqDiff, not_false_eq_true, e 11 (by decide) (by decide) (by decide) (by decide), e 16 (by decide) (by decide) (by decide) (by decide)] at hf ⊢
                  exact ⟨(mU_del.mp hf).2, trivial⟩
                · intro hf
                  simp only [up2_rs, e 11 (by decide) (by decide) (by decide) (by decide)] at hf
                  exact absurd rfl (mU_del.mp hf).1
              have hBFd : 0 ≤ (ar1 17 (ix v2.2)).toInt → wIn (ar1 17 (ix v2.2)) 3000 ∧ ix (ar1 17 (ix v2.2)) ≠ ix v2.2 := by
                intro z
                rcases c5 with ⟨y1, y2⟩ | ⟨g, y1, y2, y3⟩
                · omega
                · have := y1.1
                  refine ⟨⟨z, by omega⟩, ?_⟩
                  rw [ix_of y2]
                  intro q
                  rw [q] at y3
                  rcases c4 with ⟨x1, x2⟩ | ⟨g2, x1, x2, x3, x4, x5⟩
                  · omega
                  · have : g2 = ix v2.2 := by omega
                    rw [this] at x3; omega
              have hBHd : 0 ≤ (ar1 18 (ix v2.2)).toInt → wIn (ar1 18 (ix v2.2)) 3000 := by
                intro z
                rcases c4 with ⟨y1, y2⟩ | ⟨g, y1, y2, y3⟩
                · omega
                · have := y1.1
                  exact ⟨z, by omega⟩
              refine wJoin_i (fun K2 => ∀ ar2 : Nat → Nat → Int32, (∀ j, j ≠ 18 → j ≠ 7 → ar2 j = ar1 j) → ar2 18 = (if (ar1 17 (ix v2.2)).toInt < 0 then ar1 18 else va_up (ar1 18) (ix (ar1 17 (ix v2.2))) (ar1 18 (ix v2.2))) → ar2 7 = (if (ar1 17 (ix v2.2)).toInt < 0 then va_up (ar1 7) (ix (ar1 12 (ix v2.2))) (ar1 18 (ix v2.2)) else ar1 7) → K2 (mS b fi1 ar2)) (fun ar2 e f18 f7 => ?_) (fun K2 hK2 => ?_)
              · have e18 : ar2 18 (ix v2.2) = ar1 18 (ix v2.2) := by
                  rw [f18]
                  split
                  · rfl
                  · rw [va_up_ne]; exact Ne.symm (hBFd (by omega)).2
                simp only [mw hb, hin, true_and, wJoin, e18, e 17 (by decide) (by decide), e 12 (by decide) (by decide), htd]
                refine ⟨fun z => ⟨hBHd (by simp only [i32, Int32.reduceToInt] at z; exact z), ?_⟩, fun z => ?_⟩
                · have z' : ¬ (ar1 18 (ix v2.2)).toInt < 0 := by simp only [i32, Int32.reduceToInt] at z; omega
                  have := hend (up2 ar2 17 (ix (ar1 18 (ix v2.2))) (ar1 17 (ix v2.2))) (fun j j1 j2 j3 j4 => by rw [up2_rn _ _ _ j1]; exact e j j2 j3) (by rw [up2_rs, if_neg z', e 17 (by decide) (by decide)]) (by rw [up2_rn _ _ _ (by decide)]; exact f18) (by rw [up2_rn _ _ _ (by decide)]; exact f7) (by rw [up2_rn _ _ _ (by decide), if_neg z']; exact e 8 (by decide) (by decide))
                  simp only [mw hb, hin, true_and] at this
                  exact this
                · have z' : (ar1 18 (ix v2.2)).toInt < 0 := by simp only [i32, Int32.reduceToInt] at z; omega
                  have := hend (up2 ar2 8 (ix (ar1 12 (ix v2.2))) (ar1 17 (ix v2.2))) (fun j j1 j2 j3 j4 => by rw [up2_rn _ _ _ j4]; exact e j j2 j3) (by rw [up2_rn _ _ _ (by decide), if_pos z']; exact e 17 (by decide) (by decide)) (by rw [up2_rn _ _ _ (by decide)]; exact f18) (by rw [up2_rn _ _ _ (by decide)]; exact f7) (by rw [up2_rs, if_pos z', e 8 (by decide) (by decide)])
                  simp only [mw hb, hin, true_and] at this
                  exact this
              · refine ⟨fun z => ⟨(hBFd (by simp only [i32, Int32.reduceToInt] at z; exact z)).1, hK2 _ (fun j j1 j2 => up2_rn _ _ _ j1) ?_ ?_⟩, fun z => ⟨htd, hK2 _ (fun j j1 j2 => up2_rn _ _ _ j2) ?_ ?_⟩⟩
                · have z' : ¬ (ar1 17 (ix v2.2)).toInt < 0 := by simp only [i32, Int32.reduceToInt] at z; omega
                  rw [up2_rs, if_neg z']
                · have z' : ¬ (ar1 17 (ix v2.2)).toInt < 0 := by simp only [i32, Int32.reduceToInt] at z; omega
                  rw [up2_rn _ _ _ (by decide), if_neg z']
                · have z' : (ar1 17 (ix v2.2)).toInt < 0 := by simp only [i32, Int32.reduceToInt] at z; omega
                  rw [up2_rn _ _ _ (by decide), if_pos z']
                · have z' : (ar1 17 (ix v2.2)).toInt < 0 := by simp only [i32, Int32.reduceToInt] at z; omega
                  rw [up2_rs, if_pos z']
        · simp only [wIf, mw hb]
          refine ⟨fun _ => ?_, fun _ => hK _⟩
          have := hK (fi 23)
          rw [show va_up (va_up fi 0 0) 23 (fi 23) = va_up fi 0 0 from va_same (va_up fi 0 0) 23] at this
          exact this
      · refine ⟨fun _ => hK.1 1 (by decide), fun _ => ⟨fun h => hK.2 h, fun _ => hK.1 2 (by decide)⟩⟩
    · have h6 : v.2.toInt < 10 := by simp only [i32, Int32.reduceToInt] at h5; omega
      have hv : (v.2 + 1).toInt = v.2.toInt + 1 := i_add rfl (by decide) (by omega)
      have hi : ((ix v.2 : Nat) : Int) = v.2.toInt := ix_int h1
      simp only [mw hb, wJoin]
      refine ⟨⟨h1, by omega⟩, fun h7 => ha (10 - (v.2 + 1).toInt).toNat _ _ (by omega) ⟨rfl, by show 0 ≤ (v.2 + 1).toInt; omega, by show (v.2 + 1).toInt ≤ 10; omega, rfl, fun z => ⟨(h4 z).1, fun c hc => ?_⟩⟩, fun h7 => ha (10 - (v.2 + 1).toInt).toNat _ _ (by omega) ⟨rfl, by show 0 ≤ (v.2 + 1).toInt; omega, by show (v.2 + 1).toInt ≤ 10; omega, rfl, fun z => absurd z (by show ¬ (1 : Int32) = 0; decide)⟩⟩
      have hc : (c : Int) < (v.2 + 1).toInt := hc
      by_cases hq : c = ix v.2
      · rw [hq]; exact h7
      · exact (h4 z).2 c (by omega)
  · refine ⟨fun h => hK 0 (fun _ => ?_), fun _ => hK 1 (fun h => absurd h (by decide))⟩
    simp only [i32, Int32.reduceToInt] at h; omega
end S11
