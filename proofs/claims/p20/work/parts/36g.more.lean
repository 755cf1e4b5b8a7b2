set_option linter.unusedVariables false
set_option linter.unusedSimpArgs false
section C33
variable {b : CT} {g : Gh} {o s h N r q v sp : Nat} {vv vv' : Nat → Int32} {x : HS} {I I' I'' : Nat → Nat → Int32} {F F' F'' : Nat → Nat → Option Nat} {A A' : Nat → Nat → Nat → Int32} {E : Nat → Nat → Nat → Option Nat} {W : Nat → Prop} {X : String → HS → Prop} {Q : HS → Prop} {QI : Int32 → HS → Prop} {QF : Option Nat → HS → Prop}
theorem z_keep (hs : ZS b g o s h vv v sp r I F A E N) (hc : (I sp 2).toInt ≤ (I v 1).toInt) (hQ : ∀ I' A', ZS b g o s h vv v sp r I' F A' E N → Mo b g v I I' F F → I' v = I v → (I' sp 2).toInt = (I sp 2).toInt + 1 → Q (cS b I' F A' E)) : w_X7_keep (some sp) (some (b.ad v 4)) (cS b I F A E) Q X := by
  have hb := hs.1.1
  have hv := hs.2.2.1
  have hsp := hs.2.2.2.2.2.2.1
  have hr1 := hs.2.2.2.2.2.2.2.2.1
  have hc0 := hs.2.2.2.2.2.2.2.2.2
  have e1 : (I sp 2 + 1).toInt = (I sp 2).toInt + 1 := i_add rfl (by decide) (by omega)
  simp only [w_X7_keep, cw hb, hsp]
  refine wJoin_i (fun K => ∀ A', ZS b g o s h vv v sp r I F A' E N → K (cS b I F A' E)) (fun A1 p1 => ?_) (fun K hK => ⟨fun _ => hK _ hs, fun h1 => ?_⟩)
  · simp only [cw hb, hsp]
    obtain ⟨y3, y4⟩ := KV_I (v := I sp 2 + 1) p1.1 p1.2.1 hsp (j := 2) (by decide)
    have ev : up2 I sp 2 (I sp 2 + 1) v = I v := up2_row _ _ _ (Is_ne hv hsp (by decide))
    have es : up2 I sp 2 (I sp 2 + 1) sp 2 = I sp 2 + 1 := up2_self _ _ _ _
    have mo : Mo b g v I (up2 I sp 2 (I sp 2 + 1)) F F := Mo_I hsp (Or.inl rfl)
    exact hQ _ _ (ZS_Mo p1 mo y3 y4 (by rw [ev]; exact hr1) (by rw [es, e1]; omega)) mo ev (by rw [es, e1])
  · have h100 : (I sp 2).toInt < 100 := by simp only [i32, Int32.reduceToInt] at h1; omega
    have e8 : (I sp 2 * 8).toInt = (I sp 2).toInt * 8 := i_mul rfl (by decide) (by omega)
    exact c_copy hb hv hsp ⟨by omega, by omega⟩ (fun A1 hA => hK _ (ZS_A hs hsp hA (Or.inl rfl)))
theorem z_look (hs : ZS b g o s h vv v sp r I F A E N) {gi : Int32} (hg : wIn gi 10) : ∃ l, E v 3 (ix gi) = some l ∧ Is b 5 l := (hs.1.2.2.1.2.2.2.2.2.2.2.2.2.2.2 v hs.2.2.1).2.2 (ix gi) (ix_lt hg)
theorem z_holds (hs : ZS b g o s h vv v sp r I F A E N) (hq : Is b 2 q) (hT : TbG b I F q) {gi : Int32} (hg : wIn gi 10) (hX : ∀ x', KInv o N vv x' → X eAE x') (hQ : ∀ w I' F' A', ZS b g o s h vv v sp r I' F' A' E N → Mo b g v I I' F F' → I' sp = I sp → (I v 1).toInt ≤ (I' v 1).toInt → QI w (cS b I' F' A' E)) : w_X8_holds (some v) (some q) gi (cS b I F A E) QI X := by
  have hb := hs.1.1
  have hv := hs.2.2.1
  obtain ⟨l, hl, hl5⟩ := z_look hs hg
  have bit : ∀ {P : Int32 → Prop} {w : Int32}, (w = 0 ∨ w = 1) → P w → wBit w (P w) := fun h1 h2 => ⟨h1, h2⟩
  simp only [w_X8_holds, cw hb, hq, hv, hg, true_and, hl]
  refine ⟨fun h33 => ?_, fun _ => ?_⟩
  · obtain ⟨t, ht, ht2⟩ := hT (Or.inr h33)
    refine z_begin hs hq hl5 ht ht2 (fun I1 F1 A1 p1 p2 p3 p4 p5 p6 => ?_)
    simp only [cw hb, hv, hg, true_and, hl]
    have ht1 : F1 q 3 = some t := by rw [(p2.2.2.1 q hq).2]; exact ht
    refine z_adv p1 hq ht1 ht2 p3 p4 hX (fun w I2 F2 A2 hw q1 q2 q3 q4 q5 q6 q7 => ?_)
    have := fun u => hQ u I2 F2 A2 q1 (Mo_tr p2 q2) (by rw [q5, p6]) (by rw [p5] at q6; exact q6)
    simp only [wJoin, wIf, wBit0, wBit1]
    exact ⟨fun _ => this 1, fun _ => this 0⟩
  · refine z_value hs hq ⟨by decide, by decide⟩ (fun w1 => ?_)
    rw [c_recv hv]
    refine z_value hs hq ⟨by decide, by decide⟩ (fun w2 => ?_)
    have h5 := (ZS_GO hs q hq).2
    simp only [cw hb, hq, hv, h5, true_and, wJoin, wIf, wBit0, wBit1]
    have ok : ∀ u, QI u (cS b I F A E) := fun u => hQ u _ _ _ hs Mo_rf rfl (Int.le_refl _)
    have ok2 : ∀ u i w, QI u (cS b I F (up3 A v 4 i w) E) := fun u i w => hQ u _ _ _ (ZS_A hs hv (Ol_up3 Ol_rf) (Or.inr rfl)) Mo_rf rfl (Int.le_refl _)
    exact ⟨fun _ => ⟨fun _ => ok _, fun _ => ok _⟩, fun _ => ⟨fun _ => ok2 _ _ _, fun _ => ⟨fun _ => ok2 _ _ _, fun _ => ⟨fun _ => ⟨fun _ => ok _, fun _ => ok _⟩, fun _ => ⟨fun _ => ⟨fun _ => ok _, fun _ => ok _⟩, fun _ => ok2 _ _ _⟩⟩⟩⟩⟩
/-- going through the goals from gi on -/
def SOK (SV : Option Nat → Int32 → HS → (HS → Prop) → (String → HS → Prop) → Prop) (b : CT) (g : Gh) (o s h : Nat) (vv : Nat → Int32) (v sp r : Nat) (E : Nat → Nat → Nat → Option Nat) (N : Nat) (gi : Int32) : Prop :=
  ∀ (I : Nat → Nat → Int32) (F : Nat → Nat → Option Nat) (A : Nat → Nat → Nat → Int32) (Q : HS → Prop) (X : String → HS → Prop), ZS b g o s h vv v sp r I F A E N → (I sp 2).toInt ≤ (I v 1).toInt → (∀ x', KInv o N vv x' → X eAE x') →
    (∀ I' F' A', ZS b g o s h vv v sp r I' F' A' E N → Mo b g v I I' F F' → (I v 1).toInt ≤ (I' v 1).toInt → (I' sp 2).toInt ≤ (I' v 1).toInt + 1 → Q (cS b I' F' A' E)) → SV (some v) gi (cS b I F A E) Q X
theorem z_each {SV : Option Nat → Int32 → HS → (HS → Prop) → (String → HS → Prop) → Prop} (hs : ZS b g o s h vv v sp r I F A E N) (hq : Is b 2 q) {t : Nat} (ht : F q 3 = some t) (ht2 : Is b 10 t) {gi : Int32} (hg : wIn gi 10) (hSV : SOK SV b g o s h vv v sp r E N (gi + 1)) (hc : (I sp 2).toInt ≤ (I v 1).toInt) (hX : ∀ x', KInv o N vv x' → X eAE x')
    (hQ : ∀ I' F' A', ZS b g o s h vv v sp r I' F' A' E N → Mo b g v I I' F F' → (I v 1).toInt ≤ (I' v 1).toInt → (I' sp 2).toInt ≤ (I' v 1).toInt + 1 → Q (cS b I' F' A' E)) : w_X8_solveEach SV (some v) (some q) gi (cS b I F A E) Q X := by
  have hb := hs.1.1
  have hv := hs.2.2.1
  obtain ⟨l, hl, hl5⟩ := z_look hs hg
  simp only [w_X8_solveEach, cw hb, hv, hg, true_and, hl]
  refine z_begin hs hq hl5 ht ht2 (fun I1 F1 A1 p1 p2 p3 p4 p5 p6 => ?_)
  refine wLoop_i (fun n k x => ∃ I2 F2 A2, x = cS b I2 F2 A2 E ∧ ZS b g o s h vv v sp r I2 F2 A2 E N ∧ Mo b g v I I2 F F2 ∧ Rd b g F2 l ∧ I2 l 7 = 0 ∧ (I v 1).toInt ≤ (I2 v 1).toInt ∧ (I2 sp 2).toInt ≤ (I2 v 1).toInt + 1 ∧ 0 ≤ k.toInt ∧ n = (3000 - k.toInt).toNat) 3000 ⟨I1, F1, A1, rfl, p1, p2, p3, p4, by rw [p5]; omega, by rw [p5, p6]; omega, by decide, by decide⟩ ?_
  rintro n k x again ha ⟨I2, F2, A2, rfl, q1, q2, q3, q4, q5, q6, q7, q8⟩
  refine ⟨fun _ => hQ _ _ _ q1 q2 q5 q6, fun hk => ?_⟩
  have hk4 : k.toInt < 3000 := by simp only [i32, Int32.reduceToInt] at hk; omega
  have ek : (k + 1).toInt = k.toInt + 1 := i_add rfl (by decide) (by omega)
  generalize k + 1 = k1 at ek ⊢
  rw [c_recv hv]
  have htt : F2 q 3 = some t := by rw [(q2.2.2.1 q hq).2]; exact ht
  refine z_adv q1 hq htt ht2 q3 q4 hX (fun w I3 F3 A3 hw a1 a2 a3 a4 a5 a6 a7 => ⟨fun _ => hQ _ _ _ a1 (Mo_tr q2 a2) (by omega) (by rw [a5]; omega), fun hw0 => ?_⟩)
  rw [c_recv hv]
  have h7 := a7 hw0
  refine hSV I3 F3 A3 _ _ a1 (by rw [a5]; omega) hX (fun I4 F4 A4 b1 b2 b3 b4 => ?_)
  exact ha (3000 - k1.toInt).toNat _ _ (by omega) ⟨I4, F4, A4, rfl, b1, Mo_tr q2 (Mo_tr a2 b2), b2.1 l a3, b2.2.1 l hl5 a4, by omega, b4, by omega, rfl⟩
theorem z_solve : ∀ (n : Nat) (gi : Int32), 0 ≤ gi.toInt → gi.toInt ≤ 10 → 11 ≤ gi.toInt + n → SOK (w_X8_solve n) b g o s h vv v sp r E N gi
  | 0, gi, h1, h2, h3 => by omega
  | n + 1, gi, h1, h2, h3 => by
    intro I F A Q X hs hc hX hQ
    have hb := hs.1.1
    have hv := hs.2.2.1
    obtain ⟨-, -, -, z2, z3, z4, z5, z6, z7, z8⟩ := id hs
    show w_X8_solveB (w_X8_solve n) (some v) gi (cS b I F A E) Q X
    simp only [w_X8_solveB, cw hb, hv, z2, z3]
    refine wJoin_i (fun K => K (cS b I F A E)) ?_ (fun K hK => ⟨fun _ => hK, fun h4 => ⟨fun h5 => ?_, fun _ => hK⟩⟩)
    · simp only [cw hb, hv, z4, z5]
      exact z_keep hs hc (fun I1 A1 p1 p2 p3 p4 => hQ _ _ _ p1 p2 (by rw [p3]; omega) (by rw [p3, p4]; omega))
    · have h4' : gi.toInt < (I r 1).toInt := by simp only [i32] at h4; omega
      have h5' : gi.toInt < 10 := by simp only [i32, Int32.reduceToInt] at h5; exact h5
      have hin : wIn gi 10 := ⟨h1, by omega⟩
      have hgi : ((ix gi : Nat) : Int) = gi.toInt := ix_int h1
      have eg : (gi + 1).toInt = gi.toInt + 1 := i_add rfl (by decide) (by omega)
      have rec1 := z_solve n (gi + 1) (by omega) (by omega) (by omega)
      obtain ⟨q, hq, hq2⟩ := hs.1.2.2.1.2.2.2.2.2.2.2.2.2.2.1 r z3 (ix gi) (ix_lt hin)
      have hT := z6 (ix gi) q (by omega) (ix_lt hin) hq
      simp only [hin, true_and, hq, cw hb, hq2, hv]
      refine wJoin_i (fun K => ∀ I' F' A', ZS b g o s h vv v sp r I' F' A' E N → Mo b g v I I' F F' → (I v 1).toInt ≤ (I' v 1).toInt → (I' sp 2).toInt ≤ (I' v 1).toInt + 1 → K (cS b I' F' A' E)) hQ (fun K2 hK2 => ⟨fun h116 => ?_, fun _ => ?_⟩)
      · obtain ⟨t, ht, ht2⟩ := hT (Or.inl h116)
        exact z_each hs hq2 ht ht2 hin rec1 hc hX hK2
      · refine z_holds hs hq2 hT hin hX (fun w I1 F1 A1 p1 p2 p3 p4 => ⟨fun _ => hK2 _ _ _ p1 p2 p4 (by rw [p3]; omega), fun _ => ?_⟩)
        rw [c_recv hv]
        exact rec1 I1 F1 A1 _ _ p1 (by rw [p3]; omega) hX (fun I2 F2 A2 b1 b2 b3 b4 => hK2 _ _ _ b1 (Mo_tr p2 b2) (by omega) b4)
end C33
