set_option linter.unusedVariables false
set_option linter.unusedSimpArgs false
section S4
variable {b : MT} {fi : Nat → Int32} {ar : Nat → Nat → Int32} {X : String → HS → Prop} {Q : Int32 → HS → Prop} {N : Nat}
theorem t_index (hb : MB b) (hG : G N fi ar) (hQ : OKQ b N ar Q) (t k : Int32) : w_X12_index (some b.o) t k (mS b fi ar) Q X := by
  have hg1 := G_up hG
  simp only [w_X12_index, mw hb]
  rw [s_isTable hb]
  refine wJoin_i (fun K => (∀ v, v ≠ 0 → K v (mS b fi ar)) ∧ ((0 ≤ t ∧ t < fi 10) → K 0 (mS b fi ar))) ⟨fun v hv => ?_, fun h1 => ?_⟩ (fun K hK => ?_)
  · simp only [mw hb, s_fN hb hv]
    exact hQ _ _ _ hg1 rfl
  · have hT := (G_tab hG h1).1
    rw [m_recv hb, s_f0 hb]
    simp only [mw hb, hT, true_and, wJoin, wIf]
    exact ⟨fun _ => hQ _ _ _ hg1 rfl, fun _ => hQ _ _ _ hg1 rfl⟩
  · by_cases h1 : 0 ≤ t ∧ t < fi 10
    · have hT := (G_tab hG h1).1
      rw [if_pos h1]
      simp only [wIf, wJoin, mw hb, hT, true_and]
      exact ⟨fun _ => hK.1 1 (by decide), fun _ => ⟨fun _ => hK.1 2 (by decide), fun _ => ⟨fun _ => hK.2 h1, fun _ => hK.1 2 (by decide)⟩⟩⟩
    · rw [if_neg h1]
      simp only [wIf]
      exact ⟨fun _ => hK.1 1 (by decide), fun h => absurd (by simp) h⟩
/-- mask, time and table are asked for; then it goes on -/
theorem m_ask (hb : MB b) {t mask at_ : Int32} {K : Int32 → HS → Prop} (h1 : ∀ v, v ≠ 0 → K v (mS b fi ar)) (h0 : (0 ≤ t ∧ t < fi 10) → K 0 (mS b fi ar)) :
    w_X12_isMask (some b.o) mask (mS b fi ar) (fun v2 x1 => wJoin (κ := Int32 → HS → Prop) K (fun j3 => wJoin (κ := HS → Prop) (fun x22 => j3 1 x22) (fun j21 => wIf (v2 = 0) (j21 x1) (wRecv x1 12 (some b.o) (w_X12_isTime (some b.o) at_ x1 (fun v24 x23 => wIf (v24 = 0) (j21 x23) (wRecv x23 12 (some b.o) (w_X12_isTable (some b.o) t x23 (fun v26 x25 => wIf (v26 = 0) (j3 2 x25) (j3 0 x25)) X))) X))))) X := by
  simp only [wJoin]
  rw [m_isM hb]
  refine ⟨fun _ => h1 1 (by decide), fun _ => ?_⟩
  rw [m_recv hb]
  refine s_isTime hb _ (fun r hr => ?_)
  refine ⟨fun _ => h1 1 (by decide), fun _ => ?_⟩
  rw [m_recv hb, m_isT hb]
  exact ⟨fun _ => h1 2 (by decide), fun h => h0 h⟩
theorem m_first (hG : G N fi ar) {t : Int32} (h : 0 ≤ t ∧ t < fi 10) : ∃ ρ, GL ρ (fi 10).toInt (fi 20).toInt (ar 11) (ar 12) (ar 17) (ar 18) (ar 7) (ar 8) ∧ mP (ar 11) (ar 7 (ix t)) ∧ mP (ar 11) (ar 8 (ix t)) := by
  obtain ⟨-, -, ⟨ρ, hL⟩, -⟩ := id hG
  have h2 := G_tab hG h
  exact ⟨ρ, hL, mP_first hL h2.2.2.2.1⟩
theorem t_find (hb : MB b) (hG : G N fi ar) (hQ : OKQ b N ar Q) (t mask at_ : Int32) : w_X12_find (some b.o) t mask at_ (mS b fi ar) Q X := by
  have hg1 := G_up hG
  simp only [w_X12_find, m_recv hb]
  refine m_ask hb (at_ := at_) (t := t) ?_ ?_
  · intro v hv
    rw [m_recv hb, s_fN hb hv]
    exact hQ _ _ _ hg1 rfl
  · intro ht
    obtain ⟨ρ, hL, hf, -⟩ := m_first hG ht
    obtain ⟨t1, t2, t3, t4, t5, t6⟩ := G_tab hG ht
    rw [m_recv hb, s_f0 hb]
    simp only [mw hb, t1, true_and]
    refine s_timeOf hb _ (fun tm => ?_)
    simp only [mw hb]
    refine s_seek hb hL hG.2.1 hG.1.2.1.2 t _ mask tm 0 3 (by decide) (by decide) t1 t5 hf (by decide) (by decide) (by decide) (fun r lk h1 h2 h3 => ?_)
    simp only [wJoin, wIf, mw hb]
    refine ⟨fun h => ⟨(mP_in h1 (by simp only [i32, Int32.reduceToInt] at h ⊢; omega)).1, hQ _ _ _ hg1 rfl⟩, fun _ => hQ _ _ _ hg1 rfl⟩
theorem t_many (hb : MB b) (hG : G N fi ar) (hQ : OKQ b N ar Q) (t mask at_ : Int32) : w_X12_many (some b.o) t mask at_ (mS b fi ar) Q X := by
  have hg1 := G_up hG
  simp only [w_X12_many, m_recv hb]
  refine m_ask hb (at_ := at_) (t := t) ?_ ?_
  · intro v hv
    rw [m_recv hb, s_fN hb hv]
    exact hQ _ _ _ hg1 rfl
  · intro ht
    obtain ⟨ρ, hL, hf, -⟩ := m_first hG ht
    obtain ⟨t1, t2, t3, t4, t5, t6⟩ := G_tab hG ht
    rw [m_recv hb, s_f0 hb]
    simp only [mw hb, t1, true_and]
    refine s_timeOf hb _ (fun tm => ?_)
    simp only [mw hb]
    refine s_seek hb hL hG.2.1 hG.1.2.1.2 t _ mask tm 0 3 (by decide) (by decide) t1 t5 hf (by decide) (by decide) (by decide) (fun r lk h1 h2 h3 => ?_)
    refine wLoop_i (fun n v x => ∃ lk, x = mS b (va_up (va_up fi 0 0) 38 lk) ar ∧ mP (ar 11) v.2 ∧ n = mR ρ v.2) _ ⟨lk, by rw [va_twice], h1, rfl⟩ ?_
    rintro n v x again ha ⟨lk, rfl, p1, p2⟩
    simp only [wIf]
    refine ⟨fun _ => hQ _ _ _ hg1 rfl, fun p3 => ?_⟩
    obtain ⟨hv, hu⟩ := mP_in p1 p3
    obtain ⟨b1, b2⟩ := mP_behind hL hu
    have hrv : mR ρ v.2 = ρ (ix v.2) + 1 := by
      unfold mR; rw [if_neg]; simp only [i32, Int32.reduceToInt] at p3; exact p3
    simp only [mw hb, hv, true_and]
    refine s_timeOf hb _ (fun tm => ?_)
    simp only [mw hb]
    refine s_seek hb hL hG.2.1 hG.1.2.1.2 t _ mask tm 0 3 (by decide) (by decide) t1 t5 b1 (by decide) (by decide) (by decide) (fun r lk h1 h2 h3 => ?_)
    rw [va_twice]
    refine ha _ _ _ ?_ ⟨lk, rfl, h1, rfl⟩
    show mR ρ r < n
    unfold mR
    split
    · omega
    · have := (h2 (by omega)).2
      omega
theorem t_close (hb : MB b) (hG : G N fi ar) (hQ : OKQ b N ar Q) (c : Int32) : w_X12_close (some b.o) c (mS b fi ar) Q X := by
  have hg1 := G_up hG
  simp only [w_X12_close, m_recv hb]
  refine s_wrongCursor hb c (fun h1 h2 => ?_) (fun r hr => ?_)
  · rw [m_recv hb, s_f0 hb]
    simp only [mw hb, h1, true_and]
    refine ⟨by simp, hQ _ _ _ ?_ rfl⟩
    obtain ⟨a1, a2, a3, a4, a5, a6, a7⟩ := hg1
    simp only [G, GB, up2_rs, up2_rn, va_up_self, va_up_ne, ne_eq, Nat.reduceEqDiff, not_false_eq_true]
    refine ⟨a1, a2, a3, a4, a5, a6, fun c' hc' ho => ?_⟩
    by_cases hq : c' = ix c
    · subst hq; rw [va_up_self] at ho; exact absurd rfl ho
    · rw [va_up_ne _ _ hq] at ho; exact a7 c' hc' ho
  · rw [m_recv hb, s_fN hb hr]
    exact hQ _ _ _ hg1 rfl
theorem t_found (hb : MB b) (hG : G N fi ar) (hQ : OKQ b N ar Q) (i : Int32) : w_X12_found (some b.o) i (mS b fi ar) Q X := by
  have hg1 := G_up hG
  simp only [w_X12_found]
  refine wJoin_i (fun K => (∀ v, v ≠ 0 → K v (mS b fi ar)) ∧ (0 ≤ i.toInt → i.toInt < (fi 37).toInt → K 0 (mS b fi ar))) ⟨fun v hv => ?_, fun h1 h2 => ?_⟩ (fun K hK => ?_)
  · rw [m_recv hb, s_fN hb hv]
    exact hQ _ _ _ hg1 rfl
  · rw [m_recv hb, s_f0 hb]
    simp only [mw hb]
    have := hG.1.2.2.2.2.2.2
    exact ⟨⟨h1, by omega⟩, hQ _ _ _ hg1 rfl⟩
  · simp only [wJoin, wIf, mw hb]
    have k1 := hK.1 1 (by decide)
    refine ⟨fun _ => k1, fun h1 => ?_⟩
    simp only [i32, Int32.reduceToInt] at h1 ⊢
    first
      | exact ⟨fun h2 => hK.2 (by omega) (by omega), fun _ => k1⟩
      | exact ⟨fun _ => k1, fun h2 => hK.2 (by omega) (by omega)⟩
theorem t_mark (hb : MB b) (hG : G N fi ar) (hQ : OKQ b N ar Q) : w_X12_mark (some b.o) (mS b fi ar) Q X := by
  have hg1 := G_up hG
  obtain ⟨⟨a1, a2, a3, a4, a5, a6⟩, hT, hL, hK0, hD, hH, hC⟩ := id hg1
  simp only [w_X12_mark, m_getI hb]
  refine wJoin_i (fun K => (∀ v, v ≠ 0 → K v (mS b fi ar)) ∧ (fi 27 ≠ 8 → K 0 (mS b fi ar))) ⟨fun v hv => ?_, fun h1 => ?_⟩ (fun K hK => ?_)
  · rw [m_recv hb, s_fN hb hv]
    exact hQ _ _ _ hg1 rfl
  · rw [m_recv hb, s_f0 hb]
    have h8 : (fi 27).toInt < 8 := by
      have : (fi 27).toInt ≠ 8 := fun z => h1 (i_ext (by rw [z]; decide))
      omega
    have e27 : ∀ w, va_up (va_up fi 0 0) 25 w 27 = fi 27 := fun w => rfl
    have e27b : va_up fi 0 0 27 = fi 27 := rfl
    have hin : wIn (fi 27) 8 := ⟨a5.1, by omega⟩
    have hn : (fi 27 + 1).toInt = (fi 27).toInt + 1 := by simp only [i32, Int32.reduceToInt]; omega
    have hix : ((ix (fi 27) : Nat) : Int) = (fi 27).toInt := ix_int a5.1
    simp only [mw hb, e27b]
    refine wJoin_i (fun K => ∀ ch : Int32, ((fi 27).toInt = 0 → ch.toInt = 0) → ((fi 27).toInt ≠ 0 → ch = fi 25) → K (mS b (va_up (va_up fi 0 0) 25 ch) ar)) (fun ch c1 c2 => ?_) (fun K hK => ?_)
    · simp only [mw hb, e27, hin, true_and, va_up_self]
      refine hQ _ _ _ ?_ rfl
      simp only [G, GB, up2_rs, up2_rn, va_up_self, va_up_ne, ne_eq, Nat.reduceEqDiff, not_false_eq_true]
      refine ⟨⟨a1, a2, a3, a4, ⟨by omega, by omega⟩, a6⟩, hT, hL, hK0, hD, ?_, hC⟩
      intro _
      by_cases h0 : (fi 27).toInt = 0
      · have c3 := c1 h0
        refine ⟨by omega, by omega, fun k hk => by omega, fun i hi => ?_, ?_⟩
        · have : i = ix (fi 27) := by omega
          rw [this, va_up_self]; omega
        · have z1 : cnt (fun f => ar 11 f != 0 && decide ((fi 22).toInt - ch.toInt < (ar 15 f).toInt)) 3000 = 0 := by
            refine cnt_no ?_
            · intro f hf
              cases hu : (ar 11 f != 0) with
              | false => rfl
              | true =>
                have hm : mU (ar 11) f := ⟨hf, by simpa using hu⟩
                have := (hD.1 f hm).2.1
                simp only [Bool.true_and, decide_eq_false_iff_not]
                omega
          have z2 : cnt (fun f => ar 11 f != 0 && decide ((fi 22).toInt - ch.toInt < (ar 16 f).toInt)) 3000 = 0 := by
            refine cnt_no ?_
            · intro f hf
              cases hu : (ar 11 f != 0) with
              | false => rfl
              | true =>
                have hm : mU (ar 11) f := ⟨hf, by simpa using hu⟩
                have := (hD.1 f hm).2.2.1
                simp only [Bool.true_and, decide_eq_false_iff_not]
                omega
          rw [z1, z2]; omega
      · rw [c2 h0]
        obtain ⟨g1, g2, g3, g4, g5⟩ := hH (by omega)
        refine ⟨g1, g2, g3, fun i hi => ?_, g5⟩
        by_cases hq : i = ix (fi 27)
        · rw [hq, va_up_self]; omega
        · rw [va_up_ne _ _ hq]; exact g4 i (by omega)
    · simp only [wIf, mw hb]
      refine ⟨fun h => hK 0 (fun _ => by decide) (fun z => absurd (by rw [h]; decide) z), fun h => ?_⟩
      have := hK (fi 25) (fun z => absurd (i_ext (by rw [z]; decide)) h) (fun _ => rfl)
      have e : va_up (va_up fi 0 0) 25 (fi 25) = va_up fi 0 0 := va_same (va_up fi 0 0) 25
      rw [e] at this
      exact this
  · simp only [wIf, mw hb]
    exact ⟨fun _ => hK.1 1 (by decide), fun h => hK.2 h⟩
/-- a walk along a row, from p: what is done at each changes nothing that counts -/
theorem m_walk {ρ : Nat → Nat} {tables kept : Int} (hL : GL ρ tables kept (ar 11) (ar 12) (ar 17) (ar 18) (ar 7) (ar 8)) {p : Int32} (h1 : mP (ar 11) p) (h2 : ¬ p < 0) : wIn p 3000 ∧ mU (ar 11) (ix p) ∧ mP (ar 11) (ar 18 (ix p)) ∧ mR ρ (ar 18 (ix p)) < mR ρ p := by
  obtain ⟨hv, hu⟩ := mP_in h1 h2
  obtain ⟨b1, b2⟩ := mP_behind hL hu
  refine ⟨hv, hu, b1, ?_⟩
  have : mR ρ p = ρ (ix p) + 1 := by
    unfold mR; rw [if_neg]; simp only [i32, Int32.reduceToInt] at h2; exact h2
  omega
theorem s_byNumber (hb : MB b) (n : Int32) (hQ : ∀ r : Int32, (r.toInt = -1 ∧ ∀ f, mU (ar 11) f → ar 14 f ≠ n) ∨ (wIn r 3000 ∧ mU (ar 11) (ix r) ∧ ar 14 (ix r) = n) → Q r (mS b fi ar)) : w_X12_byNumber (some b.o) n (mS b fi ar) Q X := by
  simp only [w_X12_byNumber]
  refine wLoop_i (fun m v x => x = mS b fi ar ∧ 0 ≤ v.toInt ∧ v.toInt ≤ 3000 ∧ m = (3000 - v.toInt).toNat ∧ ∀ f : Nat, (f : Int) < v.toInt → ar 11 f ≠ 0 → ar 14 f ≠ n) 3000 ⟨rfl, by decide, by decide, by decide, fun f hf => absurd hf (by rw [show (0 : Int32).toInt = 0 from by decide]; omega)⟩ ?_
  rintro m v x again ha ⟨rfl, h1, h2, h3, h6⟩
  simp only [wJoin, wIf, mw hb]
  refine ⟨fun h4 => hQ _ (Or.inl ⟨by decide, fun f hf => h6 f (by have := hf.1; simp only [i32, Int32.reduceToInt] at h4; omega) hf.2⟩), fun h4 => ?_⟩
  have h5 : v.toInt < 3000 := by simp only [i32, Int32.reduceToInt] at h4; omega
  have hin : wIn v 3000 := ⟨h1, by omega⟩
  have hi : ((ix v : Nat) : Int) = v.toInt := ix_int h1
  have hv : (v + 1).toInt = v.toInt + 1 := by simp only [i32, Int32.reduceToInt]; omega
  have hag : (ar 11 (ix v) ≠ 0 → ar 14 (ix v) ≠ n) → again (v + 1) (mS b fi ar) := fun hz => ha _ _ _ (by omega) ⟨rfl, by omega, by omega, rfl, fun f hf hu => by
    by_cases hq : f = ix v
    · rw [hq] at hu ⊢; exact hz hu
    · exact h6 f (by omega) hu⟩
  exact ⟨hin, fun hu => hag (fun z => absurd hu z), fun hu => ⟨hin, fun he => hQ _ (Or.inr ⟨hin, ⟨ix_lt hin, hu⟩, he⟩), fun he => hag (fun _ => he)⟩⟩
theorem s_ahead (hb : MB b) {ρ : Nat → Nat} {tables kept : Int} (hL : GL ρ tables kept (ar 11) (ar 12) (ar 17) (ar 18) (ar 7) (ar 8)) (hk : kept ≤ 3000) (f : Int32) (h1 : wIn f 3000) (h2 : mU (ar 11) (ix f)) (hQ : ∀ r : Int32, Q r (mS b fi ar)) : w_X12_ahead (some b.o) f (mS b fi ar) Q X := by
  have hbf : ∀ g : Nat, mU (ar 11) g → ρ g < 3000 ∧ (((ar 17 g).toInt = -1) ∨ ∃ h : Nat, mU (ar 11) h ∧ (ar 17 g).toInt = h ∧ ρ g < ρ h) := by
    intro g hg
    obtain ⟨c1, c2, c3, c4, c5⟩ := hL.1 g hg
    refine ⟨by omega, ?_⟩
    rcases c5 with ⟨d1, d2⟩ | ⟨h, d1, d2, d3⟩
    · exact Or.inl d1
    · refine Or.inr ⟨h, d1, d2, ?_⟩
      obtain ⟨e1, e2, e3, e4, e5⟩ := hL.1 h d1
      rcases e4 with ⟨f1, f2⟩ | ⟨g2, f1, f2, f3, f4, f5⟩
      · omega
      · have : g2 = g := by omega
        rw [← this]; exact f3
  simp only [w_X12_ahead, mw hb, h1, true_and]
  refine wLoop_i (fun n v x => x = mS b fi ar ∧ (v.2.toInt = -1 ∨ ∃ g : Nat, mU (ar 11) g ∧ v.2.toInt = g ∧ n = 3000 - ρ g)) (if (ar 17 (ix f)).toInt < 0 then 0 else 3000 - ρ (ix (ar 17 (ix f)))) ⟨rfl, ?_⟩ ?_
  · rcases (hbf _ h2).2 with h | ⟨h, d1, d2, d3⟩
    · exact Or.inl h
    · refine Or.inr ⟨h, d1, d2, ?_⟩
      rw [if_neg (by omega), ix_of d2]
  · rintro n v x again ha ⟨rfl, h3⟩
    simp only [wIf, mw hb]
    refine ⟨fun _ => hQ _, fun h4 => ?_⟩
    rcases h3 with h3 | ⟨g, g1, g2, g3⟩
    · simp only [i32, Int32.reduceToInt] at h4; omega
    · obtain ⟨g4, g5⟩ := hbf g g1
      have := g1.1
      refine ⟨⟨by omega, by omega⟩, ?_⟩
      rw [ix_of g2]
      rcases g5 with g5 | ⟨h, d1, d2, d3⟩
      · exact ha 0 _ _ (by omega) ⟨rfl, Or.inl g5⟩
      · exact ha _ _ _ (by have := (hbf h d1).1; omega) ⟨rfl, Or.inr ⟨h, d1, d2, rfl⟩⟩
theorem t_fact (hb : MB b) (hG : G N fi ar) (hQ : OKQ b N ar Q) (n w : Int32) : w_X12_fact (some b.o) n w (mS b fi ar) Q X := by
  have hg1 := G_up hG
  obtain ⟨⟨a1, a2, a3, a4, a5, a6⟩, hT, ⟨ρ, hL⟩, hK0, hD, hH, hC⟩ := id hg1
  simp only [w_X12_fact]
  have hq : ∀ (w : Int32) (r : Int32), Q r (mS b (va_up fi 0 w) ar) := fun w r => hQ _ _ _ hg1 rfl
  refine wJoin_i (fun K => (∀ v, v ≠ 0 → K v (mS b fi ar)) ∧ (0 ≤ w.toInt → w.toInt ≤ 7 → (∃ f, mU (ar 11) f ∧ ar 14 f = n) → K 0 (mS b fi ar))) ⟨fun v hv => ?_, fun h1 h2 h3 => ?_⟩ (fun K hK => ?_)
  · rw [m_recv hb, s_fN hb hv]
    exact hq _ _
  · rw [m_recv hb, s_f0 hb, m_recv hb]
    refine s_byNumber hb n (fun r hr => ?_)
    obtain ⟨f, f1, f2⟩ := h3
    rcases hr with ⟨-, hr⟩ | ⟨r1, r2, -⟩
    · exact absurd f2 (hr f f1)
    · simp only [wIf, mw hb, r1, true_and]
      refine ⟨fun _ => hq _ _, fun w4 => ⟨fun _ => hq _ _, fun w5 => ⟨fun _ => hq _ _, fun w6 => ⟨fun _ => ?_, fun w7 => ⟨?_, hq _ _⟩⟩⟩⟩⟩
      · exact s_ahead hb hL a3.2 r r1 r2 (fun _ => hq _ _)
      · obtain ⟨q1, q2⟩ := r1
        have n4 : w.toInt ≠ 4 := fun z => w4 (i_ext (by rw [z]; decide))
        have n5 : w.toInt ≠ 5 := fun z => w5 (i_ext (by rw [z]; decide))
        have n6 : w.toInt ≠ 6 := fun z => w6 (i_ext (by rw [z]; decide))
        have n7 : w.toInt ≠ 7 := fun z => w7 (i_ext (by rw [z]; decide))
        simp only [wIn, i32, Int32.reduceToInt]; omega
  · simp only [wJoin]
    have k1 := hK.1 1 (by decide)
    refine ⟨fun _ => k1, fun h1 => ⟨fun h2 => ?_, fun _ => k1⟩⟩
    rw [m_recv hb]
    refine s_byNumber hb n (fun r hr => ⟨fun h3 => hK.2 ?_ ?_ ?_, fun _ => hK.1 2 (by decide)⟩)
    · simp only [i32, Int32.reduceToInt] at h1; omega
    · simp only [i32, Int32.reduceToInt] at h2; omega
    · rcases hr with ⟨hr, -⟩ | ⟨-, r2, r3⟩
      · simp only [i32, Int32.reduceToInt] at h3; omega
      · exact ⟨_, r2, r3⟩
theorem s_find0 (hb : MB b) {Q : HS → Prop} (n : Int32) (h1 : wIn (fi 37) 6000) (hQ : Q (mS b (va_up fi 37 (fi 37 + 1)) (up2 ar 36 (ix (fi 37)) n))) : w_X12_find0 (some b.o) n (mS b fi ar) Q X := by
  simp only [w_X12_find0, mw hb, h1, true_and]
  exact hQ
theorem t_changes (hb : MB b) (hG : G N fi ar) (hQ : OKQ b N ar Q) (t a c : Int32) : w_X12_changes (some b.o) t a c (mS b fi ar) Q X := by
  have hg1 := G_up hG
  obtain ⟨⟨a1, a2, a3, a4, a5, a6⟩, hT, ⟨ρ, hL⟩, hK0, hD, hH, hC⟩ := id hg1
  have hq : ∀ (w fm r : Int32) (ar2 : Nat → Nat → Int32), (∀ j, j ≠ 36 → ar2 j = ar j) → 0 ≤ fm.toInt → fm.toInt ≤ 6000 → Q r (mS b (va_up (va_up fi 0 w) 37 fm) ar2) := by
    intro w fm r ar2 e h1 h2
    refine hQ _ _ _ ?_ (e 3 (by decide))
    simp only [G, GB, va_up_self, va_up_ne, ne_eq, Nat.reduceEqDiff, not_false_eq_true, e 4 (by decide), e 6 (by decide), e 7 (by decide), e 8 (by decide), e 11 (by decide), e 12 (by decide), e 15 (by decide), e 16 (by decide), e 17 (by decide), e 18 (by decide), e 19 (by decide), e 24 (by decide), e 26 (by decide), e 28 (by decide), e 30 (by decide), e 33 (by decide)]
    exact ⟨⟨a1, a2, a3, a4, a5, h1, h2⟩, hT, ⟨ρ, hL⟩, hK0, hD, hH, hC⟩
  simp only [w_X12_changes, m_recv hb]
  refine s_isTime hb _ (fun r1 hr1 => ?_)
  refine wJoin_i (fun K => (∀ v, v ≠ 0 → K v (mS b fi ar)) ∧ ((0 ≤ t ∧ t < fi 10) → K 0 (mS b fi ar))) ⟨fun v hv => ?_, fun h1 => ?_⟩ (fun K hK => ?_)
  · rw [m_recv hb, s_fN hb hv]
    exact hQ _ _ _ hg1 rfl
  · rw [m_recv hb, s_f0 hb, m_recv hb]
    refine s_timeOf hb _ (fun t1 => ?_)
    rw [m_recv hb]
    refine s_timeOf hb _ (fun t2 => ?_)
    obtain ⟨q1, q2, q3, q4, q5, q6⟩ := G_tab hG h1
    obtain ⟨hfi, -⟩ := mP_first hL q4
    simp only [mw hb, q1, true_and]
    -- the first walk
    refine wLoop_i (fun n v x => ∃ fm ar2, x = mS b (va_up (va_up fi 0 0) 37 fm) ar2 ∧ (∀ j, j ≠ 36 → ar2 j = ar j) ∧ mP (ar 11) v ∧ n = mR ρ v ∧ 0 ≤ fm.toInt ∧ fm.toInt + n ≤ 3000) (mR ρ (ar 7 (ix t))) ⟨0, ar, rfl, fun _ _ => rfl, hfi, rfl, by decide, ?_⟩ ?_
    · rcases hfi with h | ⟨f, f1, f2⟩
      · unfold mR; rw [if_pos (by omega)]; decide
      · unfold mR; rw [if_neg (by omega), ix_of f2]
        have := (hL.1 f f1).2.2.1
        have z : (0 : Int32).toInt = 0 := by decide
        omega
    rintro n v x again ha ⟨fm, ar2, rfl, e, p1, p2, p3, p4⟩
    simp only [wIf]
    refine ⟨fun _ => ?_, fun p5 => ?_⟩
    · -- the second walk
      simp only [mw hb, q1, true_and, e 7 (by decide)]
      refine wLoop_i (fun n v x => ∃ fm ar2, x = mS b (va_up (va_up fi 0 0) 37 fm) ar2 ∧ (∀ j, j ≠ 36 → ar2 j = ar j) ∧ mP (ar 11) v ∧ n = mR ρ v ∧ 0 ≤ fm.toInt ∧ fm.toInt + n ≤ 6000) (mR ρ (ar 7 (ix t))) ⟨fm, ar2, rfl, e, hfi, rfl, p3, ?_⟩ ?_
      · rcases hfi with h | ⟨f, f1, f2⟩
        · unfold mR; rw [if_pos (by omega)]; omega
        · unfold mR; rw [if_neg (by omega), ix_of f2]
          have := (hL.1 f f1).2.2.1
          omega
      rintro n2 v2 x2 again2 ha2 ⟨fm2, ar3, rfl, e2, r1, r2, r3, r4⟩
      refine ⟨fun _ => ?_, fun r5 => ?_⟩
      · rw [m_getI hb]
        exact hq _ _ _ _ e2 r3 (by omega)
      · obtain ⟨w1, w2, w3, w4⟩ := m_walk hL r1 r5
        have hgo : ∀ fm3 ar4, (∀ j, j ≠ 36 → ar4 j = ar j) → 0 ≤ fm3.toInt → fm3.toInt ≤ fm2.toInt + 1 → again2 (ar 18 (ix v2)) (mS b (va_up (va_up fi 0 0) 37 fm3) ar4) := fun fm3 ar4 z1 z2 z3 => ha2 _ _ _ (by omega) ⟨fm3, ar4, rfl, z1, w3, rfl, z2, by omega⟩
        rw [m_recv hb, s_isThere hb _ _ w1]
        simp only [wJoin, mw hb, w1, true_and, e2 18 (by decide)]
        refine ⟨fun _ => hgo _ _ e2 r3 (by omega), fun _ => ?_⟩
        rw [s_isThere hb _ _ w1]
        simp only [mw hb, w1, true_and, e2 18 (by decide)]
        refine ⟨fun _ => ?_, fun _ => hgo _ _ e2 r3 (by omega)⟩
        have hfm : wIn fm2 6000 := ⟨r3, by
          have : 0 < n2 := by omega
          omega⟩
        refine s_find0 hb _ (by rw [va_up_self]; exact hfm) ?_
        have hup : (fm2 + 1).toInt = fm2.toInt + 1 := by obtain ⟨z1, z2⟩ := hfm; simp only [i32, Int32.reduceToInt]; omega
        simp only [mw hb, w1, true_and, va_up_self, va_twice, up2_rn, ne_eq, Nat.reduceEqDiff, not_false_eq_true, e2 18 (by decide)]
        exact hgo _ _ (fun j hj => by rw [up2_rn _ _ _ hj]; exact e2 j hj) (by omega) (by omega)
    · obtain ⟨w1, w2, w3, w4⟩ := m_walk hL p1 p5
      have hgo : ∀ fm3 ar4, (∀ j, j ≠ 36 → ar4 j = ar j) → 0 ≤ fm3.toInt → fm3.toInt ≤ fm.toInt + 1 → again (ar 18 (ix v)) (mS b (va_up (va_up fi 0 0) 37 fm3) ar4) := fun fm3 ar4 z1 z2 z3 => ha _ _ _ (by omega) ⟨fm3, ar4, rfl, z1, w3, rfl, z2, by omega⟩
      rw [m_recv hb, s_isThere hb _ _ w1]
      simp only [wJoin, mw hb, w1, true_and, e 18 (by decide)]
      refine ⟨fun _ => hgo _ _ e p3 (by omega), fun _ => ?_⟩
      rw [s_isThere hb _ _ w1]
      simp only [mw hb, w1, true_and, e 18 (by decide)]
      refine ⟨fun _ => ?_, fun _ => hgo _ _ e p3 (by omega)⟩
      have hfm : wIn fm 6000 := ⟨p3, by omega⟩
      refine s_find0 hb _ (by rw [va_up_self]; exact hfm) ?_
      have hup : (fm + 1).toInt = fm.toInt + 1 := by obtain ⟨z1, z2⟩ := hfm; simp only [i32, Int32.reduceToInt]; omega
      simp only [mw hb, w1, true_and, va_up_self, va_twice, up2_rn, ne_eq, Nat.reduceEqDiff, not_false_eq_true, e 18 (by decide)]
      exact hgo _ _ (fun j hj => by rw [up2_rn _ _ _ hj]; exact e j hj) (by omega) (by omega)
  · simp only [wJoin, wIf]
    have k1 := hK.1 1 (by decide)
    refine ⟨fun _ => k1, fun _ => ?_⟩
    rw [m_recv hb]
    refine s_isTime hb _ (fun r2 hr2 => ⟨fun _ => k1, fun _ => ?_⟩)
    rw [m_recv hb]
    have := m_isT hb (t := t) (fi := fi) (ar := ar) (X := X) (A := fun _ x => K 2 x) (B := fun _ x => K 0 x)
    simp only [wIf] at this
    rw [this]
    exact ⟨fun _ => hK.1 2 (by decide), fun h => hK.2 h⟩
end S4
