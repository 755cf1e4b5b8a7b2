set_option linter.unusedVariables false
set_option linter.unusedSimpArgs false
section C30
variable {b : CT} {g : Gh} {o s h N r q : Nat} {vv vv' : Nat → Int32} {x : HS} {I I' I'' : Nat → Nat → Int32} {F F' : Nat → Nat → Option Nat} {A A' : Nat → Nat → Nat → Int32} {E : Nat → Nat → Nat → Option Nat} {W : Nat → Prop} {X : String → HS → Prop} {Q : HS → Prop} {QI : Int32 → HS → Prop} {QF : Option Nat → HS → Prop}
theorem KS_F (hs : KRs b g o s h vv r I F A E N) (hq : Is b 2 q) {v : Option Nat} : KRs b g o s h vv r I (up2 F q 3 v) A E N := by
  obtain ⟨hk, hz, k3, k4, k5, k6⟩ := hs
  refine ⟨KV_eq0 hk (EQ_F EQ_rf hq (by decide)) (fun l hl => ⟨up2_k _ _ _ _ (by decide), up2_k _ _ _ _ (by decide)⟩), hz, k3, ?_, ?_, k6⟩
  · rw [up2_k _ _ _ _ (by decide)]; exact k4
  · rw [up2_k _ _ _ _ (by decide)]; exact k5
theorem KS_q (hs : KRs b g o s h vv r I F A E N) (hq : Is b 2 q) {j : Nat} {v : Int32} (hj : j = 5 → wIn v 8) : KRs b g o s h vv r (up2 I q j v) F A E N :=
  KS_G hs hq (Ol_up2 Ol_rf) Ol_rf (fun q' hq' => by
    obtain ⟨h1, h2⟩ := KS_GO hs q' hq'
    refine ⟨h1, ?_⟩
    unfold up2
    split
    · rename_i hh; exact hj hh.2.symm
    · exact h2)
/-- others than the reader and the goal stay -/
def Oo (r q : Nat) (I I' : Nat → Nat → Int32) : Prop := ∀ a, a ≠ r → a ≠ q → I' a = I a
theorem Oo_r (h : Ol r I I') : Oo r q I I' := fun a z _ => h a z
theorem Oo_q {j : Nat} {v : Int32} : Oo r q I (up2 I q j v) := fun a _ z => up2_row _ _ _ z
theorem Oo_f (h : Fq r q I I') : Oo r q I I' := h.1
theorem Oo_tr (h : Oo r q I I') (h2 : Oo r q I' I'') : Oo r q I I'' := fun a z1 z2 => by rw [h2 a z1 z2, h a z1 z2]
theorem r_tableGoal (hs : KRs b g o s h vv r I F A E N) (hq : Is b 2 q) (hX : ∀ x', KInv o N vv x' → X eUO x') (hQ : ∀ I' F' A', KRs b g o s h vv r I' F' A' E N → Oo r q I I' → (∀ a, a ≠ q → F' a = F a) → TbG b I' F' q → Q (cS b I' F' A' E)) : w_X6_readTableGoal (some r) (some q) (cS b I F A E) Q X := by
  have h3 := hs.2.2.1
  have hb := hs.1.1
  have hqr : q ≠ r := Is_ne hq h3 (by decide)
  simp only [w_X6_readTableGoal]
  rw [c_recv h3]
  refine r_here hs (fun v hv => ?_)
  rw [c_putI hq, c_getI hq, up2_self]
  have g0 := KS_q (j := 2) (v := v) hs hq (fun z => absurd z (by decide))
  have o0 : Oo r q I (up2 I q 2 v) := Oo_q
  have e6 : up2 I q 2 v r = I r := up2_row _ _ _ (Ne.symm hqr)
  refine wJoin_i (fun K => ∀ I1, KRs b g o s h vv r I1 F A E N → Oo r q I I1 → K (cS b I1 F A E)) (fun I1 p1 p2 => ?_) (fun K hK => ⟨fun q1 => ?_, fun _ => hK _ g0 o0⟩)
  · rw [c_recv h3]
    refine r_table p1 hX (fun t I2 ht q1 q2 => ?_)
    rw [c_putF hb hq (by decide), c_putI hq, c_recv h3]
    have g1 := KS_q (j := 4) (v := 0) (KS_F (v := some t) q1 hq) hq (fun z => absurd z (by decide))
    have o1 : Oo r q I (up2 I2 q 4 0) := Oo_tr p2 (Oo_tr (Oo_r q2) Oo_q)
    have fq : up2 F q 3 (some t) q 3 = some t := up2_self _ _ _ _
    have fo : ∀ a, a ≠ q → up2 F q 3 (some t) a = F a := fun a ha => up2_row _ _ _ ha
    generalize up2 F q 3 (some t) = F1 at g1 fq fo ⊢
    generalize up2 I2 q 4 0 = I3 at g1 o1 ⊢
    refine r_skip g1 (fun I4 a1 a2 => ?_)
    rw [c_recv h3]
    refine r_take a1 (by decide) hX (fun I5 a3 a4 => ?_)
    have o5 : Oo r q I I5 := Oo_tr o1 (Oo_tr (Oo_r a2) (Oo_r a4))
    refine wLoop_i (fun n w x => ∃ I6 A6, x = cS b I6 F1 A6 E ∧ KRs b g o s h vv r I6 F1 A6 E N ∧ Oo r q I I6 ∧ 0 ≤ w.2.toInt ∧ w.2.toInt ≤ 4 ∧ n = (4 - w.2.toInt).toNat) 4 ⟨I5, A, rfl, a3, o5, by decide, by decide, by decide⟩ ?_
    rintro n ⟨w1, w2⟩ x again ha ⟨I6, A6, rfl, b1, b2, b3, b4, b5⟩
    dsimp only at b3 b4 b5 ⊢
    have tc := (b1.1.2.1.1.2.2.1 t ht).1
    simp only [cw hb, hq, fq, ht, h3]
    refine ⟨fun _ => ?_, fun q5 => ?_⟩
    · refine r_tooMuch b1 hX ?_
      rw [c_recv h3]
      refine r_take b1 (by decide) hX (fun I7 c1 c2 => ?_)
      simp only [cw hb, hq, h3, wJoin, wIf]
      have o7 : Oo r q I I7 := Oo_tr b2 (Oo_r c2)
      refine ⟨fun _ => hQ _ _ _ (KS_j c1 (by omega)) (Oo_tr o7 (Oo_r (Ol_up2 Ol_rf))) fo (fun _ => ⟨t, fq, ht⟩), fun _ => hQ _ _ _ c1 o7 fo (fun _ => ⟨t, fq, ht⟩)⟩
    · have hw4 : w2.toInt < 4 := by simp only [i32] at q5; omega
      have ev : (w2 + 1).toInt = w2.toInt + 1 := i_add rfl (by decide) (by omega)
      refine wJoin_i (fun K => ∀ I7, KRs b g o s h vv r I7 F1 A6 E N → Oo r q I I7 → K (cS b I7 F1 A6 E)) (fun I7 c1 c2 => ?_) (fun K hK2 => ⟨fun _ => hK2 _ b1 b2, fun _ => r_take b1 (by decide) hX (fun I7 c1 c2 => hK2 _ c1 (Oo_tr b2 (Oo_r c2)))⟩)
      rw [c_recv h3]
      refine r_skip c1 (fun I8 d1 d2 => ?_)
      rw [c_recv h3]
      refine r_arg d1 hq ⟨b3, by omega⟩ hX (fun I9 A9 d3 d4 => ?_)
      rw [c_recv h3]
      refine r_sort d3 hq ⟨b3, by omega⟩ (fun v10 I10 A10 d5 d6 => ?_)
      rw [c_recv h3]
      refine r_skip d5 (fun I11 d7 d8 => ?_)
      generalize w2 + 1 = w3 at ev ⊢
      exact ha (4 - w3.toInt).toNat _ _ (by omega) ⟨I11, A10, rfl, d7, Oo_tr c2 (Oo_tr (Oo_r d2) (Oo_tr (Oo_f d4) (Oo_tr (Oo_f d6) (Oo_r d8)))), by show 0 ≤ w3.toInt; omega, by show w3.toInt ≤ 4; omega, rfl⟩
  · simp only [cw hb, h3]
    obtain ⟨z1, z2⟩ := KS_6 g0 (by rw [e6]; exact hv.resolve_left (fun z => by rw [z] at q1; exact absurd q1 (by decide)))
    refine r_skip z1 (fun I2 a1 a2 => hK _ a1 (Oo_tr o0 (Oo_tr (Oo_r (Ol_up2 Ol_rf)) (Oo_r a2))))
theorem r_signGoal (hs : KRs b g o s h vv r I F A E N) (hq : Is b 2 q) (hX : ∀ x', KInv o N vv x' → X eUO x') (hQ : ∀ I' A', KRs b g o s h vv r I' F A' E N → Oo r q I I' → TbG b I' F q → Q (cS b I' F A' E)) : w_X6_readSignGoal (some r) (some q) (cS b I F A E) Q X := by
  have h3 := hs.2.2.1
  have hb := hs.1.1
  have hqr : q ≠ r := Is_ne hq h3 (by decide)
  simp only [w_X6_readSignGoal, cw hb, h3]
  refine r_arg hs hq ⟨by decide, by decide⟩ hX (fun I1 A1 p1 p2 => ?_)
  rw [c_recv h3]
  refine r_skip p1 (fun I2 p3 p4 => ?_)
  rw [c_recv h3]
  have o2 : Oo r q I I2 := Oo_tr (Oo_f p2) (Oo_r p4)
  refine r_here p3 (fun v hv => ?_)
  refine wJoin_i (fun K => ∀ w I3 A3, KRs b g o s h vv r I3 F A3 E N → Oo r q I I3 → (I3 q 2 ≠ 116 ∧ I3 q 2 ≠ 33) → K w (cS b I3 F A3 E)) (fun w I3 A3 a1 a2 a3 => ?_) (fun K hK => ?_)
  · rw [c_recv h3]
    refine r_knownArg a1 hq ⟨by decide, by decide⟩ hX (fun I4 A4 a4 a5 => ?_)
    simp only [cw hb, h3]
    refine hQ _ _ (KS_j a4 (by omega)) (Oo_tr a2 (Oo_tr (Oo_f a5) (Oo_r (Ol_up2 Ol_rf)))) (fun z => ?_)
    rw [up2_a _ _ _ _ hqr, a5.2] at z
    exact absurd z (fun z => z.elim a3.1 a3.2)
  · refine wJoin_i (fun K => ∀ I3 A3, KRs b g o s h vv r I3 F A3 E N → Oo r q I I3 → K (cS b I3 F A3 E)) (fun I3 A3 a1 a2 => ?_) (fun K2 hK2 => ⟨fun q1 => ?_, fun _ => hK2 _ _ p3 o2⟩)
    · rw [c_recv h3]
      refine r_sign a1 (by decide) hX (fun sg I4 hsg a3 a4 => ?_)
      rw [c_putI hq, c_recv h3]
      have g1 := KS_q (j := 2) (v := sg) a3 hq (fun z => absurd z (by decide))
      refine r_known g1 hq ⟨by decide, by decide⟩ hX (fun A5 a5 => hK _ _ _ a5 (Oo_tr a2 (Oo_tr (Oo_r a4) Oo_q)) ?_)
      rw [up2_self]
      rcases hsg with rfl | rfl | rfl <;> decide
    · have h04 : wIn 0 4 := ⟨by decide, by decide⟩
      simp only [cw hb, h3, hq, h04, true_and, show ix 0 = 0 from by decide]
      refine ⟨fun q2 => ?_, fun _ => hK2 _ _ p3 o2⟩
      have hin := (KS_GO p3 q hq).1 0 (by decide) (Or.inr (Or.inl q2))
      rw [up2_self]
      have g1 := KS_q (j := 5) (v := A1 q 1 0) p3 hq (fun _ => hin)
      have o3 : Oo r q I (up2 I2 q 5 (A1 q 1 0)) := Oo_tr o2 Oo_q
      have e6 : up2 I2 q 5 (A1 q 1 0) r = I2 r := up2_row _ _ _ (Ne.symm hqr)
      have hlt := hv.resolve_left (fun z => by rw [z] at q1; exact absurd q1 (by decide))
      rw [← e6] at hlt
      generalize up2 I2 q 5 (A1 q 1 0) = I3 at g1 o3 hlt ⊢
      refine wJoin_i (fun K => K (cS b I3 F A1 E)) ?_ (fun K3 hK3 => ⟨fun _ => hK3, fun _ => r_refuse g1 hX⟩)
      simp only [cw hb, h3]
      obtain ⟨z1, z2⟩ := KS_6 g1 hlt
      refine r_knownArg z1 hq h04 hX (fun I4 A4 a4 a5 => ?_)
      rw [c_recv h3]
      refine r_skip a4 (fun I5 a6 a7 => ?_)
      rw [c_recv h3]
      refine r_sign a6 (by decide) hX (fun sg I6 hsg a8 a9 => ?_)
      rw [c_putI hq]
      have g2 := KS_q (j := 2) (v := sg) a8 hq (fun z => absurd z (by decide))
      refine hK _ _ _ g2 (Oo_tr o3 (Oo_tr (Oo_r (Ol_up2 Ol_rf)) (Oo_tr (Oo_f a5) (Oo_tr (Oo_r a7) (Oo_tr (Oo_r a9) Oo_q))))) ?_
      rw [up2_self]
      rcases hsg with rfl | rfl | rfl <;> decide
/-- all goals that were read are good -/
theorem r_question (hk : KV b g o s h vv I F A E (N + 1) NW) (hz : HZ h I) (h3 : Is b 6 r) {l : Int32} (hl : 0 ≤ l.toInt ∧ l.toInt ≤ 400) (hX : ∀ x', KInv o N vv x' → X eUO x') (hQ : ∀ I' F' A', KRs b g o s h vv r I' F' A' E N → (0 ≤ (I' r 1).toInt ∧ (I' r 1).toInt ≤ 10) → (∀ (i q : Nat), (i : Int) < (I' r 1).toInt → E r 0 i = some q → TbG b I' F' q) → I' o = I o → F' o = F o → Q (cS b I' F' A' E)) : w_X6_readQuestion (some r) (some (b.ad o 0)) l (some s) (cS b I F A E) Q X := by
  have hb := hk.1
  obtain ⟨s1, s2, s3, s4, s5, s6, s7, s8, s9, s10, s11, s12⟩ := id hk.2.2.1
  simp only [w_X6_readQuestion, cw hb, h3]
  have hs0 : KRs b g o s h vv r (up2 (up2 (up2 I r 5 l) r 6 0) r 2 0) (up2 (up2 F r 4 (some (b.ad o 0))) r 7 (some s)) A E N := by
    have k1 : KV b g o s h vv I (up2 (up2 F r 4 (some (b.ad o 0))) r 7 (some s)) A E (N + 1) NW := KV_eq0 hk (EQ_F (EQ_F EQ_rf h3 (by decide)) h3 (by decide)) (fun l' hl' => by
      have : l' ≠ r := Is_ne hl' h3 (by decide)
      rw [up2_a _ _ _ _ this, up2_a _ _ _ _ this, up2_a _ _ _ _ this, up2_a _ _ _ _ this]; exact ⟨rfl, rfl⟩)
    obtain ⟨y1, y2⟩ := KV_I (v := l) k1 hz h3 (no6 5)
    obtain ⟨y3, y4⟩ := KV_I (v := 0) y1 y2 h3 (no6 6)
    obtain ⟨y5, y6⟩ := KV_I (v := 0) y3 y4 h3 (no6 2)
    refine ⟨y5, y6, h3, ?_, ?_, ?_, ?_, ?_⟩
    · rw [up2_k _ _ _ _ (by decide), up2_self]
    · rw [up2_self]
    · rw [up2_k _ _ _ _ (by decide), up2_self]; decide
    · rw [up2_k _ _ _ _ (by decide), up2_self, up2_k _ _ _ _ (by decide), up2_k _ _ _ _ (by decide), up2_self]; exact hl.1
    · rw [up2_k _ _ _ _ (by decide), up2_k _ _ _ _ (by decide), up2_self]; exact hl.2
  have hro : o ≠ r := Is_ne s1 h3 (by decide)
  have ho0 : up2 (up2 (up2 I r 5 l) r 6 0) r 2 0 o = I o := by rw [up2_row _ _ _ hro, up2_row _ _ _ hro, up2_row _ _ _ hro]
  refine wLoop_i (fun n v x => ∃ I1 F1 A1, x = cS b I1 F1 A1 E ∧ KRs b g o s h vv r I1 F1 A1 E N ∧ (∀ i q, i < ix v → E r 0 i = some q → TbG b I1 F1 q) ∧ (I1 o = I o ∧ F1 o = F o) ∧ 0 ≤ v.toInt ∧ v.toInt ≤ 10 ∧ n = (10 - v.toInt).toNat) 10 ⟨_, _, A, rfl, hs0, fun i q hi => absurd hi (by show ¬ i < 0; omega), ⟨ho0, by rw [up2_row _ _ _ hro, up2_row _ _ _ hro]⟩, by decide, by decide, by decide⟩ ?_
  rintro n v x again ha ⟨I1, F1, A1, rfl, p1, p2, ⟨p3, pF⟩, p4, p5, p6⟩
  refine ⟨fun _ => ?_, fun hv => ?_⟩
  · rw [c_recv h3]
    refine r_skip p1 (fun I2 q1 q2 => ?_)
    simp only [cw hb, h3]
    exact r_refuse q1 hX
  · have hv1 : v.toInt < 10 := by simp only [i32, Int32.reduceToInt] at hv; omega
    have ev : (v + 1).toInt = v.toInt + 1 := i_add rfl (by decide) (by omega)
    have eix : ix (v + 1) = ix v + 1 := ix_of (by have := ix_int p4; omega)
    have hin : wIn v 10 := ⟨p4, by omega⟩
    obtain ⟨q, hq, hq2⟩ := s11 r h3 (ix v) (ix_lt hin)
    have hqr : ∀ q', Is b 2 q' → q' ≠ r := fun q' hq' => Is_ne hq' h3 (by decide)
    have hoq : o ≠ q := Is_ne s1 hq2 (by decide)
    have tr : ∀ I2 I3 q', Is b 2 q' → Ol r I2 I3 → TbG b I2 F1 q' → TbG b I3 F1 q' := fun I2 I3 q' hq' hO ht => by
      unfold TbG; rw [hO q' (hqr q' hq')]; exact ht
    rw [c_recv h3]
    refine r_skip p1 (fun I2 q1 q2 => ?_)
    rw [c_recv h3]
    have isq : ∀ i q', i < 10 → E r 0 i = some q' → Is b 2 q' := fun i q' hi he => by
      obtain ⟨q'', z1, z2⟩ := s11 r h3 i hi
      rw [he] at z1; cases z1; exact z2
    have hvi : ((ix v : Nat) : Int) = v.toInt := ix_int p4
    have p2' : ∀ i q', i < ix v → E r 0 i = some q' → TbG b I2 F1 q' := fun i q' hi he => tr I1 I2 q' (isq i q' (by omega) he) q2 (p2 i q' hi he)
    have o2 : I2 o = I o := by rw [q2 o hro]; exact p3
    refine r_here q1 (fun c hc => ?_)
    refine wJoin_i (fun K => ∀ I3 F3 A3, KRs b g o s h vv r I3 F3 A3 E N → Oo r q I2 I3 → (∀ a, a ≠ q → F3 a = F1 a) → TbG b I3 F3 q → K (cS b I3 F3 A3 E)) (fun I3 F3 A3 a1 a2 a3 a4 => ?_) (fun K hK => ?_)
    · have all : ∀ i q', i < ix v + 1 → E r 0 i = some q' → TbG b I3 F3 q' := fun i q' hi he => by
        by_cases hqq : q' = q
        · rw [hqq]; exact a4
        · have hne : i ≠ ix v := fun z => hqq (by rw [z, hq] at he; cases he; rfl)
          have := p2' i q' (by omega) he
          unfold TbG
          rw [a2 q' (hqr q' (isq i q' (by omega) he)) hqq, a3 q' hqq]; exact this
      have o3 : I3 o = I o := by rw [a2 o hro hoq]; exact o2
      rw [c_putI h3, c_recv h3]
      have g1 := KS_j (j := 1) (v := v + 1) a1 (by omega)
      have e1 : up2 I3 r 1 (v + 1) r 1 = v + 1 := up2_self _ _ _ _
      have o4 : Ol r I3 (up2 I3 r 1 (v + 1)) := Ol_up2 Ol_rf
      refine r_skip1 g1 (fun I4 b1 b2 b3 => ?_)
      have o5 : Ol r I3 I4 := Ol_tr o4 b2
      have e5 : I4 r 1 = v + 1 := by rw [b3, e1]
      have all4 : ∀ I5, Ol r I3 I5 → ∀ i q', i < ix v + 1 → E r 0 i = some q' → TbG b I5 F3 q' := fun I5 hO i q' hi he => by
        unfold TbG
        rw [hO q' (hqr q' (isq i q' (by omega) he))]; exact all i q' hi he
      simp only [cw hb, h3]
      refine ⟨fun _ => r_take b1 (by decide) hX (fun I5 c1 c2 => ?_), fun _ => ?_⟩
      · have o6 := Ol_tr o5 c2
        exact ha _ _ _ (by omega) ⟨I5, F3, A3, rfl, c1, by rw [eix]; exact all4 I5 o6, ⟨by rw [o6 o hro]; exact o3, by rw [a3 o hoq]; exact pF⟩, by omega, by omega, rfl⟩
      · refine hQ _ _ _ b1 ?_ (fun i q' hi he => all4 I4 o5 i q' ?_ he) (by rw [o5 o hro]; exact o3) (by rw [a3 o hoq]; exact pF)
        · rw [e5, ev]; exact ⟨by omega, by omega⟩
        · rw [e5, ev] at hi; omega
    · have go : w_X6_readTableGoal (some r) (some q) (cS b I2 F1 A1 E) (fun x32 => K x32) X := r_tableGoal q1 hq2 hX (fun I3 F3 A3 z1 z2 z3 z4 => hK _ _ _ z1 z2 z3 z4)
      refine wJoin_i (fun K => K (cS b I2 F1 A1 E)) ?_ (fun K2 hK2 => ⟨fun _ => hK2, fun _ => ?_⟩)
      · simp only [cw hb, h3, hin, true_and, hq]
        exact go
      · rw [c_recv h3]
        refine r_here q1 (fun c2 _ => ⟨fun _ => hK2, fun _ => ?_⟩)
        simp only [cw hb, h3, hin, true_and, hq]
        exact r_signGoal q1 hq2 hX (fun I3 A3 z1 z2 z3 => hK _ _ _ z1 z2 (fun _ _ => rfl) z3)
end C30
