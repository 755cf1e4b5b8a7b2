set_option linter.unusedVariables false
set_option linter.unusedSimpArgs false
/-! the reference: feed and solution -/
theorem and1_0 (w : Int32) : (w &&& 1) = 0 ↔ ¬ (w &&& 1) = 1 := by
  have e : (w &&& 1).toBitVec.toNat = w.toBitVec.toNat % 2 := by
    rw [Int32.toBitVec_and, BitVec.toNat_and]
    show w.toBitVec.toNat &&& 1 = _
    exact Nat.and_one_is_mod _
  constructor
  · intro h1 h2
    rw [h1] at h2
    exact absurd h2 (by decide)
  · intro h1
    have h01 : w.toBitVec.toNat % 2 = 0 ∨ w.toBitVec.toNat % 2 = 1 := by omega
    rcases h01 with y | y
    · apply Int32.toBitVec_inj.mp
      apply BitVec.eq_of_toNat_eq
      rw [e, y]; rfl
    · refine absurd ?_ h1
      apply Int32.toBitVec_inj.mp
      apply BitVec.eq_of_toNat_eq
      rw [e, y]; rfl
section HH1
variable {b : MT} {fi fi' : Nat → Int32} {ar ar' : Nat → Nat → Int32} {n : Nat} {p : Int32} {X X' : String → HS → Prop} {Q Q' : HS → Prop} {QI QI' : Int32 → HS → Prop}
theorem nf_four (hb : MB b) (hn : (fi 2).toInt = (n : Int)) (hn4 : n + 4 ≤ 400) (h : ∀ fi' ar', (fi' 2).toInt = ((n + 4 : Nat) : Int) → ar' 1 = putK (ar 1) n p 4 → (∀ j, j ≠ 2 → fi' j = fi j) → (∀ j, j ≠ 1 → ar' j = ar j) → Q (mS b fi' ar') → Q' (mS b fi' ar')) : w_X12_four (some b.o) p (mS b fi ar) Q X → w_X12_four (some b.o) p (mS b fi ar) Q' X' := by
  unfold w_X12_four
  refine n_loopV (b := b) (fun (v : Int32) fi' ar' => (∀ j, j ≠ 2 → fi' j = fi j) ∧ (∀ j, j ≠ 1 → ar' j = ar j) ∧ ∃ k : Nat, v.toInt = 24 - 8 * (k : Int) ∧ k ≤ 4 ∧ (fi' 2).toInt = ((n + k : Nat) : Int) ∧ ar' 1 = putK (ar 1) n p k) ⟨fun _ _ => rfl, fun _ _ => rfl, 0, by decide, by omega, hn, rfl⟩ (fun v fi' ar' again again' ⟨e1, e2, k, k1, k2, k3, k4⟩ ha => ?_)
  refine qv_if (fun z => ?_) (fun z => ?_)
  · rw [i32.1, show (0 : Int32).toInt = 0 by decide] at z
    have e4 : k = 4 := by omega
    rw [e4] at k3 k4
    exact h fi' ar' k3 k4 e1 e2
  rw [i32.1, show (0 : Int32).toInt = 0 by decide] at z
  refine n_getF hb (by decide) (nv_getI hb (nv_astB hb (by decide) (by decide) (fun _ => nv_getI hb (nv_putI hb ?_))))
  rw [ix_of k3]
  refine ha _ _ _ ⟨fun j hj => by rw [va_up_ne _ _ hj]; exact e1 j hj, fun j hj => by rw [up2_row _ _ _ hj]; exact e2 j hj, k + 1, ?_, by omega, ?_, ?_⟩
  · rw [i_add k1 (show (-8 : Int32).toInt = -8 by decide) (by omega)]; omega
  · rw [va_up_self, i_add k3 (show (1 : Int32).toInt = 1 by decide) (by omega)]; omega
  · rw [up2_rs, k4, ofI k1]; rfl
theorem nf_feed {p1 p2 p3 p4 p5 : Int32} (hb : MB b) (hn : (fi 2).toInt = (n : Int)) (hn4 : n ≤ 400) (h1 : ∀ r fi' ar', n ≤ 380 → ar' 1 = feedA (ar 1) n p1 p2 p3 p4 p5 → (∀ j, j ∉ [0, 2] → fi' j = fi j) → (∀ j, j ≠ 1 → ar' j = ar j) → QI r (mS b fi' ar') → QI' r (mS b fi' ar')) (h0 : ∀ r fi', ¬ n ≤ 380 → (∀ j, j ∉ [0, 2] → fi' j = fi j) → QI r (mS b fi' ar) → QI' r (mS b fi' ar)) : w_X12_feed (some b.o) p1 p2 p3 p4 p5 (mS b fi ar) QI X → w_X12_feed (some b.o) p1 p2 p3 p4 p5 (mS b fi ar) QI' X' := by
  unfold w_X12_feed
  refine nv_getI hb ?_
  dsimp only [wJoin]
  have e20 : (fi 2 + 20).toInt = (n : Int) + 20 := i_add hn (show (20 : Int32).toInt = 20 by decide) (by omega)
  refine qv_if (fun z => ?_) (fun z => ?_)
  · rw [i32.2.1, e20, show (400 : Int32).toInt = 400 by decide] at z
    have hn380 : n ≤ 380 := by omega
    refine nv_f0 hb ?_
    have hn0 : (va_up fi 0 0 2).toInt = (n : Int) := by rw [va_up_ne _ _ (by decide)]; exact hn
    have f0 : ∀ j, j ∉ [0, 2] → va_up fi 0 0 j = fi j := fun j hj => va_up_ne _ _ (fun z => hj (by rw [z]; decide))
    generalize va_up fi 0 0 = g0 at hn0 f0 ⊢
    refine q_recv (nf_four hb hn0 (by omega) (fun g1 a1 j1 c1 d1 e1 => ?_))
    refine q_recv (nf_four hb j1 (by omega) (fun g2 a2 j2 c2 d2 e2 => ?_))
    refine q_recv (nf_four hb j2 (by omega) (fun g3 a3 j3 c3 d3 e3 => ?_))
    refine q_recv (nf_four hb j3 (by omega) (fun g4 a4 j4 c4 d4 e4 => ?_))
    refine q_recv (nf_four hb j4 (by omega) (fun g5 a5 j5 c5 d5 e5 => ?_))
    refine nv_getI hb (h1 _ g5 a5 hn380 ?_ (fun j hj => ?_) (fun j hj => ?_))
    · rw [c5, c4, c3, c2, c1]; rfl
    · have h2 : j ≠ 2 := fun z => hj (by rw [z]; decide)
      rw [d5 j h2, d4 j h2, d3 j h2, d2 j h2, d1 j h2, f0 j hj]
    · rw [e5 j hj, e4 j hj, e3 j hj, e2 j hj, e1 j hj]
  · rw [i32.2.1, e20, show (400 : Int32).toInt = 400 by decide] at z
    exact nv_fN hb (by decide) (h0 _ _ (by omega) (fun j hj => va_up_ne _ _ (fun z => hj (by rw [z]; decide))))
end HH1
/-- both pictures of the reference are one -/
theorem QM_rep {b : MT} {fi : Nat → Int32} {ar : Nat → Nat → Int32} {q : AT3} (hb : MB b) (h : QM b.o q (mS b fi ar)) : QMc q fi ar := by
  obtain ⟨b2, fi2, ar2, hb2, ho, e, hq⟩ := h
  obtain ⟨e1, e2⟩ := mS_inj2 hb hb2 ho.symm e
  subst e1
  unfold QMc at hq ⊢
  rw [e2 1 (by decide), e2 53 (by decide)]
  exact hq
section HH2
variable {mo M : Nat} {qa : AT3} {y : HS} {X X' : String → HS → Prop}
theorem rq_feed (h : RQ3 mo M qa y) (hM : M < 300000) (p1 p2 p3 p4 p5 : Int32) : w_X12_feed (some mo) p1 p2 p3 p4 p5 y (fun r u => OKq_feed qa p1 p2 p3 p4 p5 (u.I mo 0) r ∧ RQ3 mo (M + 1) (nxq_feed qa p1 p2 p3 p4 p5) u) X := by
  have h1 := rc_feed (X := X) h.1 hM p1 p2 p3 p4 p5
  obtain ⟨hr, hq⟩ := h
  obtain ⟨b, fi, ar, hb, rfl, rfl, hG, hA, hX, hV⟩ := hr
  obtain ⟨q1, q2, q3, q4⟩ := QM_rep hb hq
  have e2 : fi 2 = qa.1.tl := hA.2.1
  have hg := hG
  have h40 : 0 ≤ (fi 2).toInt ∧ (fi 2).toInt ≤ 400 := hG.1.1
  have hn : (fi 2).toInt = (qa.1.tl.toInt.toNat : Int) := by rw [← e2]; omega
  have hle : qa.1.tl.toInt.toNat ≤ 380 ↔ qa.1.tl.toInt ≤ 380 := by rw [← e2]; omega
  refine nf_feed (n := qa.1.tl.toInt.toNat) hb hn (by rw [← e2]; omega) (fun r fi' ar' hl ha hf har hz => ⟨hz.1, hz.2, b, fi', ar', hb, rfl, rfl, ?_⟩) (fun r fi' hl hf hz => ⟨hz.1, hz.2, b, fi', ar, hb, rfl, rfl, ?_⟩) h1
  · show QMc (nx_feed qa.1 p1 p2 p3 p4 p5, (if qa.1.tl.toInt ≤ 380 then feedA qa.tp qa.1.tl.toInt.toNat p1 p2 p3 p4 p5 else qa.tp), qa.2.2) fi' ar'
    rw [if_pos (hle.mp hl)]
    refine ⟨by rw [ha, q1], by rw [hf 55 (by decide)]; exact q2, by rw [hf 56 (by decide)]; exact q3, fun i k z1 z2 z3 z4 => by rw [har 53 (by decide)]; exact q4 i k z1 z2 z3 z4⟩
  · show QMc (nx_feed qa.1 p1 p2 p3 p4 p5, (if qa.1.tl.toInt ≤ 380 then feedA qa.tp qa.1.tl.toInt.toNat p1 p2 p3 p4 p5 else qa.tp), qa.2.2) fi' ar
    rw [if_neg (fun z => hl (hle.mpr z))]
    exact ⟨q1, by rw [hf 55 (by decide)]; exact q2, by rw [hf 56 (by decide)]; exact q3, q4⟩
theorem rq_solution (h : RQ3 mo M qa y) (hM : M < 300000) (p1 p2 : Int32) : w_X12_solution (some mo) p1 p2 y (fun r u => OKq_solution qa p1 p2 (u.I mo 0) r ∧ RQ3 mo (M + 1) (nxq_solution qa p1 p2) u) X := by
  have h1 := rc_solution (X := X) h.1 hM p1 p2
  obtain ⟨hr, hq⟩ := h
  obtain ⟨b, fi, ar, hb, rfl, rfl, hG, hA, hX, hV⟩ := hr
  have hqm := QM_rep hb hq
  obtain ⟨q1, q2, q3, q4⟩ := id hqm
  have n1 : (1 : Int32) ≠ 0 := by decide
  have n2 : (2 : Int32) ≠ 0 := by decide
  have keep : ∀ v, QMc (nxq_solution qa p1 p2) (va_up fi 0 v) ar := fun v => ⟨q1, by rw [va_up_ne _ _ (by decide)]; exact q2, by rw [va_up_ne _ _ (by decide)]; exact q3, q4⟩
  have I0 : ∀ v, (mS b (va_up fi 0 v) ar).I b.o 0 = v := fun v => by rw [m_I, va_up_self]
  revert h1
  unfold w_X12_solution
  dsimp only [wJoin]
  -- an exception
  have bad : ∀ (c : Int32), c ≠ 0 → sCd qa p1 p2 = c → ∀ {A A' : Int32 → HS → Prop}, wRecv (mS b fi ar) 12 (some b.o) (w_X12_fails (some b.o) c (mS b fi ar) (fun v5 x4 => wIf (v5 = 0) (A v5 x4) (OK_solution qa.1 p1 p2 (x4.I b.o 0) 0 ∧ RM b.o (M + 1) (nx_solution qa.1 p1 p2) x4)) X) → wRecv (mS b fi ar) 12 (some b.o) (w_X12_fails (some b.o) c (mS b fi ar) (fun v5 x4 => wIf (v5 = 0) (A' v5 x4) (OKq_solution qa p1 p2 (x4.I b.o 0) 0 ∧ RQ3 b.o (M + 1) (nxq_solution qa p1 p2) x4)) X) := fun c hc0 hc {A A'} => by
    refine nv_fN hb hc0 (fun hz => ⟨⟨?_, fun y => absurd (hc.symm.trans y) hc0⟩, hz.2, b, _, ar, hb, rfl, rfl, keep c⟩)
    rw [I0]; exact hc.symm
  have c7 : ∀ {P : Prop}, (0 ≤ p2.toInt ∧ p2.toInt ≤ 7 → P) → (0 ≤ p2.toInt ∧ p2.toInt ≤ 7 → P) := fun h => h
  refine qv_if (fun z => bad 1 n1 (if_neg (fun y => ?_))) (fun z => ?_)
  · rw [i32.1, show (0 : Int32).toInt = 0 by decide] at z
    have := y.1; omega
  rw [i32.1, show (0 : Int32).toInt = 0 by decide] at z
  refine qv_if (fun z7 => ?_) (fun z7 => bad 1 n1 (if_neg (fun y => z7 ?_)))
  rotate_left
  · rw [i32.2.1, show (7 : Int32).toInt = 7 by decide]; exact y.2
  rw [i32.2.1, show (7 : Int32).toInt = 7 by decide] at z7
  have hr7 : 0 ≤ p2.toInt ∧ p2.toInt ≤ 7 := ⟨by omega, z7⟩
  have hk8 : p2.toInt = ((ix p2 : Nat) : Int) := (ix_int hr7.1).symm
  have two : ¬ (0 ≤ p1.toInt ∧ p1.toInt < (qa.sc : Int) ∧ p1.toInt < 100 ∧ qa.sk (ix p2) = true) → sCd qa p1 p2 = 2 := fun hno => by unfold sCd; rw [if_pos hr7, if_neg hno]
  refine qv_if (fun z2 => bad 2 n2 (two (fun y => ?_))) (fun z2 => nv_getI hb ?_)
  · rw [i32.1, show (0 : Int32).toInt = 0 by decide] at z2
    have := y.1; omega
  rw [i32.1, show (0 : Int32).toInt = 0 by decide] at z2
  refine qv_if (fun z3 => bad 2 n2 (two (fun y => ?_))) (fun z3 => ?_)
  · rw [i32.2.1, q2] at z3
    have := y.2.1; omega
  rw [i32.2.1, q2] at z3
  refine qv_if (fun z4 => bad 2 n2 (two (fun y => ?_))) (fun z4 => nv_getI hb ?_)
  · rw [i32.2.1, show (100 : Int32).toInt = 100 by decide] at z4
    have := y.2.2.1; omega
  rw [i32.2.1, show (100 : Int32).toInt = 100 by decide] at z4
  have hbit := bitm_iff (m := fi 56) hk8
  rw [q3 (ix p2) (by omega)] at hbit
  have b01 : ((fi 56 >>> (p2 &&& 31)) &&& 1) = 0 ↔ ¬ ((fi 56 >>> (p2 &&& 31)) &&& 1) = 1 := and1_0 _
  refine qv_if (fun z5 => bad 2 n2 (two (fun y => (b01.mp z5) (hbit.mpr y.2.2.2)))) (fun z5 => ?_)
  have hkk : qa.sk (ix p2) = true := hbit.mp (Classical.byContradiction fun y => z5 (b01.mpr y))
  refine nv_f0 hb ?_
  have hi1 : p1.toInt = ((ix p1 : Nat) : Int) := (ix_int (by omega)).symm
  have ep : ((8 : Int32) * p1 + p2).toInt = ((8 * ix p1 + ix p2 : Nat) : Int) := by rw [i_add (i_mul (show (8 : Int32).toInt = 8 by decide) hi1 (by omega)) hk8 (by omega)]; omega
  refine n_getF hb (by decide) (nv_ald hb (by decide) (by decide) (fun _ => ?_))
  rw [ix_of ep, q4 (ix p1) (ix p2) (by omega) (by omega) (by omega) hkk]
  have hc : sCd qa p1 p2 = 0 := by unfold sCd; rw [if_pos hr7, if_pos ⟨by omega, by omega, by omega, hkk⟩]
  exact fun hz => ⟨⟨by rw [I0]; exact hc.symm, fun _ => rfl⟩, hz.2, b, _, ar, hb, rfl, rfl, keep 0⟩
end HH2
