set_option linter.unusedVariables false
set_option linter.unusedSimpArgs false
/-! the reference: solving, all of it -/
section SZD
variable {b : MT} {fi fi' fi'' : Nat → Int32} {ar ar' ar'' : Nat → Nat → Int32} {a : AS} {sl : Nat → Nat} {Ga Gs Gs0 : List QG} {G : QG} {env : Nat → Int32} {kn kf : Nat → Bool} {R s : SQ} {T : Int32} {st st0 : List Pd} {v : Int32 × Int32 × Int32} {X X' : String → HS → Prop} {QI QI' : Int32 → HS → Prop} {again again' : Int32 × Int32 × Int32 → HS → Prop}
/-- where one stands, ahead or back -/
theorem sv_uni (q5 : Ga = pdG st ++ Gs) (q6 : StOk a sl ar st) (ne3 : v.2.1.toInt ≠ (Ga.length : Int)) (hz : ¬ v.2.1.toInt < 0) (q7 : AhI a kf R T.toInt st Gs s v ar ∨ BkI a R T.toInt st Gs s v) : ∃ (st0 : List Pd) (G : QG) (Gs0 : List QG) (env : Nat → Int32), Ga = pdG st0 ++ G :: Gs0 ∧ v.2.1.toInt = (st0.length : Int) ∧ StOk a sl ar st0 ∧ (∀ p, p ∈ st0 → ∀ j, p.1.kn j = true → G.kn j = true) ∧ EnvM G.kn env ar ∧ s.2.1 ≤ s.1 + 1 ∧ ((v.2.2 = 0 ∧ s.2.1 ≤ s.1 ∧ R = retQ a T.toInt st0 (G :: Gs0) (solA a T.toInt (G :: Gs0) env s)) ∨ (v.2.2 = 1 ∧ (G.kd ≠ 0 → R = retQ a T.toInt st0 (G :: Gs0) s) ∧ (G.kd = 0 → ∃ x rest, (ar 51 st0.length).toInt = (sl x : Int) ∧ (∃ P, a.rw G.tb = P ++ x :: rest) ∧ R = retQ a T.toInt st0 (G :: Gs0) (foldQ a T.toInt G env (fun x s => solA a T.toInt Gs0 (bindE a env G x) s) rest s)))) := by
  have hlen : Ga.length = st.length + Gs.length := by rw [q5, List.length_append, pdG_len]
  rcases q7 with ⟨y1, y2, y3, kn, env, y4, y5, y6, yR⟩ | ⟨y1, y2, y3, yR⟩
  · cases Gs with
    | nil => exact absurd (by rw [y2, hlen]; rfl) ne3
    | cons G Gs0 =>
      have ekn : G.kn = kn := y4.2.1
      exact ⟨st, G, Gs0, env, q5, y2, q6, by rw [ekn]; exact y6, by rw [ekn]; exact y5, by omega, Or.inl ⟨y1, y3, yR⟩⟩
  · cases st with
    | nil =>
      have y2 : v.2.1.toInt = (0 : Int) - 1 := y2
      omega
    | cons f st0 =>
      obtain ⟨g1, g2, g3, g4⟩ := q6
      refine ⟨st0, f.1, Gs, f.2.1, by rw [q5, pdG_cons, List.append_assoc]; rfl, by rw [y2, List.length_cons]; omega, g4, g3, g2, y3, Or.inr ⟨y1, fun hk => ?_, fun hk => ?_⟩⟩
      · rw [yR]
        show retQ a T.toInt st0 (f.1 :: Gs) (if f.1.kd = 0 then _ else s) = _
        rw [if_neg hk]
      · obtain ⟨x, x1, x2⟩ := g1 hk
        refine ⟨x, f.2.2, x1, x2, ?_⟩
        rw [yR]
        show retQ a T.toInt st0 (f.1 :: Gs) (if f.1.kd = 0 then _ else s) = _
        rw [if_pos hk]
theorem ns_solve (hb : MB b) (hS : SMh a sl Ga fi ar) (hV : AV a) (hch : KnCh a.tn a.co kf Ga (fun _ => false)) (h38 : fi 38 = 0) {env0 : Nat → Int32} {z0 : Nat → Nat → Int32} (hR : R = solA a T.toInt Ga env0 (0, 0, z0))
    (h : ∀ r fi' ar', FrSv fi fi' ar ar' → SlO kf R r fi' ar' → QI r (mS b fi' ar') → QI' r (mS b fi' ar')) : w_X12_solve (some b.o) T (mS b fi ar) QI X → w_X12_solve (some b.o) T (mS b fi ar) QI' X' := by
  have mL : mostL = 50000 := rfl
  unfold w_X12_solve
  refine n_loopV (b := b) (fun v fi' ar' => FrSv fi fi' ar ar' ∧ SvI a sl Ga kf R T.toInt v fi' ar')
    ⟨FrSv_rf, hS, Or.inr ⟨[], Ga, (0, 0, z0), ⟨Nat.zero_le _, h38, show (0 : Int32).toInt = ((0 : Nat) : Int) by decide, fun i k hi => absurd hi (Nat.not_lt_zero _), rfl, trivial⟩, Or.inl ⟨rfl, show (0 : Int32).toInt = ((0 : Nat) : Int) by decide, Nat.le_refl _, fun _ => false, env0, hch, fun j hj z => (by cases z), fun p hp => absurd hp List.not_mem_nil, hR⟩⟩⟩
    (fun v fi' ar' again again' ⟨hfr, hS', hinv⟩ ha0 => ?_)
  have ha : ∀ v2 fi2 ar2, FrSv fi' fi2 ar' ar2 → SvI a sl Ga kf R T.toInt v2 fi2 ar2 → again v2 (mS b fi2 ar2) → again' v2 (mS b fi2 ar2) := fun v2 fi2 ar2 z1 z2 => ha0 v2 fi2 ar2 ⟨FrSv_tr hfr z1, z2⟩
  dsimp only [wJoin]
  rcases hinv with ⟨hov, l', o1, o2, o3⟩ | ⟨st, Gs, s, ⟨q1, q2, q3, q4, q5, q6⟩, q7⟩
  · -- too many
    refine qv_if (fun _ => h _ _ _ hfr (Or.inr ⟨hov, l', o1, o2, o3⟩)) (fun _ => nv_getI hb ?_)
    rw [o1]
    refine qv_if (fun _ => h _ _ _ hfr (Or.inr ⟨hov, l', o1, o2, o3⟩)) (fun z => ?_)
    exfalso
    apply z
    rw [show ((50000 : Int32) < Int32.ofNat l') = ((50000 : Int32).toInt < (Int32.ofNat l').toInt) from i32.1 _ _, Int32.toInt_ofNat_of_lt (by omega), show (50000 : Int32).toInt = 50000 by decide]
    omega
  have s4 := hS'.2.2.2.1
  have s5 := hS'.2.2.2.2.1
  refine qv_if (fun z => ?_) (fun z => ?_)
  · rw [show (v.2.1 < (0 : Int32)) = (v.2.1.toInt < (0 : Int32).toInt) from i32.1 _ _, show (0 : Int32).toInt = 0 by decide] at z
    rcases q7 with ⟨-, y, -⟩ | ⟨-, y, -, yR⟩
    · omega
    · have e0 : st = [] := List.length_eq_zero_iff.mp (by omega)
      rw [e0] at yR
      have yR : R = s := yR
      exact h _ _ _ hfr (Or.inl ⟨by rw [yR]; exact q1, by rw [yR]; exact q2, by rw [yR]; exact q3, by rw [yR]; exact q4⟩)
  rw [show (v.2.1 < (0 : Int32)) = (v.2.1.toInt < (0 : Int32).toInt) from i32.1 _ _, show (0 : Int32).toInt = 0 by decide] at z
  refine nv_getI hb ?_
  rw [q2]
  refine qv_if (fun z2 => ?_) (fun _ => nv_getI hb ?_)
  · exfalso
    rw [show ((50000 : Int32) < Int32.ofNat s.1) = ((50000 : Int32).toInt < (Int32.ofNat s.1).toInt) from i32.1 _ _, Int32.toInt_ofNat_of_lt (by omega), show (50000 : Int32).toInt = 50000 by decide] at z2
    omega
  refine qv_if (fun z3 => ?_) (fun z3 => ?_)
  · -- a solution
    have e3 : v.2.1.toInt = (Ga.length : Int) := by rw [z3]; exact s4
    have hlen : Ga.length = st.length + Gs.length := by rw [q5, List.length_append, pdG_len]
    rcases q7 with ⟨y1, y2, y3, kn, env, y4, y5, y6, yR⟩ | ⟨-, y, -⟩
    rotate_left
    · omega
    have e0 : Gs = [] := List.length_eq_zero_iff.mp (by omega)
    subst e0
    have y4 : kn = kf := y4
    rw [y4] at y5
    exact ns_solSt hb hS' ⟨q1, q2, q3, q4, q5, q6⟩ y2 y3 y5 yR ha
  -- a goal
  have ne3 : v.2.1.toInt ≠ (Ga.length : Int) := fun y => z3 (i_ext (by rw [y]; exact s4.symm))
  obtain ⟨st0, G, Gs0, env, u1, u2, u3, u4, u5, u6, u7⟩ := sv_uni q5 q6 ne3 z q7
  have hst : st0.length < 10 := by
    have := congrArg List.length u1
    rw [List.length_append, pdG_len, List.length_cons] at this
    omega
  have hG : Ga[st0.length]? = some G := by rw [u1, List.getElem?_append_right (by rw [pdG_len]; exact Nat.le_refl _), pdG_len, Nat.sub_self]; rfl
  have hgo := hS'.2.2.2.2.2 _ G hG
  have hw : WfG a.tn a.co G := (KnCh_at (by rw [u1] at hch; exact hch)).1
  have hkd := hw.1
  have vi : ix v.2.1 = st0.length := ix_of u2
  have ek0 : ar' 44 st0.length = 0 ↔ G.kd = 0 := by rw [hgo.1]; exact ofN (j := 0) (by omega) (by omega)
  refine n_getF hb (by decide) (nv_ald hb (by decide) (by decide) (fun _ => ?_))
  rw [vi]
  refine qv_if (fun z4 => ?_) (fun z4 => ?_)
  · -- a table's
    have k0 := ek0.mp z4
    obtain ⟨g10, e45, e4, el, el4, hin⟩ := goal_at hS' hV hG (by omega) hw
    have hrow := (hS'.1.1 _ hin).1
    rcases u7 with ⟨y1, y2, yR⟩ | ⟨y1, -, y3⟩
    · rw [y1]
      refine qv_if (fun _ => n_getF hb (by decide) (n_getF hb (by decide) (nv_ald hb (by decide) (by decide) (fun _ => nv_ald hb (by decide) (by decide) (fun _ => ?_))))) (fun c => absurd rfl c)
      rw [vi, e45]
      refine ns_solTb hb hS' hV hch q1 q2 q3 q4 u1 u2 u3 u4 u5 u6 k0 (L := a.rw G.tb) hrow ⟨[], rfl⟩ ?_ ha
      rw [yR]
      show retQ a T.toInt st0 (G :: Gs0) (if G.kd = 0 then _ else _) = _
      rw [if_pos k0]
    · obtain ⟨x, rest, x1, ⟨P, hP⟩, yR⟩ := y3 k0
      rw [y1]
      refine qv_if (fun c => absurd c (by decide)) (fun _ => n_getF hb (by decide) (n_getF hb (by decide) (nv_ald hb (by decide) (by decide) (fun _ => nv_ald hb (by decide) (by decide) (fun _ => ?_)))))
      rw [vi, ix_of x1]
      exact ns_solTb hb hS' hV hch q1 q2 q3 q4 u1 u2 u3 u4 u5 u6 k0 (L := rest) (LnK_tail (A := P) (by rw [← hP]; exact hrow)) ⟨P ++ [x], by rw [hP, List.append_assoc]; rfl⟩ yR ha
  · -- another
    have k0 : G.kd ≠ 0 := fun y => z4 (ek0.mpr y)
    rcases u7 with ⟨y1, y2, yR⟩ | ⟨y1, y2, -⟩
    · rw [y1]
      refine qv_if (fun _ => ?_) (fun c => absurd rfl c)
      exact ns_solOt hb hS' hV hch q1 q2 q3 q4 u1 u2 u3 u4 u5 y2 k0 yR ha
    · rw [y1]
      refine qv_if (fun c => absurd c (by decide)) (fun _ => qv_if (fun c => absurd c (by decide)) (fun _ => ?_))
      have vm : (v.2.1 + (-1)).toInt = (st0.length : Int) - 1 := by rw [i_add u2 (show (-1 : Int32).toInt = -1 by decide) (by omega)]; omega
      exact ha _ _ _ FrSv_rf ⟨hS', Or.inr ⟨st0, G :: Gs0, s, ⟨q1, q2, q3, q4, u1, u3⟩, Or.inr ⟨rfl, vm, u6, y2 k0⟩⟩⟩
end SZD
