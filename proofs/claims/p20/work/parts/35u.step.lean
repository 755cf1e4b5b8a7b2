set_option linter.unusedVariables false
set_option linter.unusedSimpArgs false
section C21
variable {b : CT} {g : Gh} {o s h N : Nat} {vv : Nat → Int32} {I : Nat → Nat → Int32} {F : Nat → Nat → Option Nat} {A : Nat → Nat → Nat → Int32} {E : Nat → Nat → Nat → Option Nat} {W : Nat → Prop} {X : String → HS → Prop} {Q : HS → Prop} {QI : Int32 → HS → Prop} {QF : Option Nat → HS → Prop}
/-- what a step of filling the index keeps -/
def IL (b0 b b1 b2 : CT) (g g2 : Gh) (t q K : Nat) (I1 I2 : Nat → Nat → Int32) (F F1 F2 : Nat → Nat → Option Nat) (A1 : Nat → Nat → Nat → Int32) (E E1 E2 : Nat → Nat → Nat → Option Nat) (w : Option Nat) : Prop :=
  CB b2 ∧ Fr b1 b2 I1 I2 F1 F2 E1 E2 ∧ LO b2 g2 I2 F2 E2 ∧ PR g2 F2 E2 ∧ CE b2 g2 I2 F2 A1 E2 ∧ VC g2 F2 E2 (fun k' f' => k' = K ∧ F f' 2 = some t) ∧
  (∀ l f, g2.V l f → g.V l f ∨ l = K ∧ g.V 4 f ∧ F f 2 = some t) ∧ (∀ l f, g.V l f → g2.V l f) ∧ g2.U q = t ∧
  (∀ f, g2.V K f → F f 2 = some t → rk g 4 w ≤ g.R 4 f ∧ ∃ n, Fdn I2 F2 n (E2 q 1 (ix (A1 f 0 K &&& 63))) (A1 f 0 K)) ∧
  (∀ f, g.V 4 f → F f 2 = some t → g2.V K f ∨ w = some f ∨ ∃ p, g.V 4 p ∧ F p 2 = some t ∧ E p 1 4 = some f ∧ ¬ g2.V K p) ∧
  (∀ a, Is b 1 a → E2 a 1 4 = E a 1 4) ∧ On g F 4 t w
theorem c_idx_step (hL : LO b g I F E) (hP : PR g F E) {b1 b2 : CT} {g2 : Gh} {t q f K : Nat} {I1 I2 : Nat → Nat → Int32} {F1 F2 : Nat → Nat → Option Nat} {A1 : Nat → Nat → Nat → Int32} {E1 E2 : Nat → Nat → Nat → Option Nat} (hK : K < 4) (up : ∀ c a, Is b c a → Is b1 c a) (of : ∀ c a j, Is b c a → ¬ (c = 0 ∧ (j = 3 ∨ j = 4)) → F1 a j = F a j) (htb : Is b 10 t) (ht : Is b1 10 t) (hq : Is b1 4 q) (hqk : (I1 q 0).toInt = K) (hnone : E1 t 3 K = none)
    (hI : IL b b b1 b2 g g2 t q K I1 I2 F F1 F2 A1 E E1 E2 (some f)) (hc : 1 ≤ b2.B.c) (hz : 5 ≤ b2.B.z) {again : Option Nat → HS → Prop}
    (ha : ∀ b3 g3 I3 F3 E3, IL b b b1 b3 g g3 t q K I1 I3 F F1 F3 A1 E E1 E3 (E f 1 4) → b2.B.c ≤ b3.B.c + 1 → b2.B.z ≤ b3.B.z + 5 → again (E f 1 4) (cS b3 I3 F3 A1 E3)) :
    w_X4_chainFor (some q) (some f) (cS b2 I2 F2 A1 E2) (fun v19 x18 => wRecv x18 0 v19 (w_X0_putBehind v19 (some f) x18 (fun x20 => wGetF x20 1 1 (some f) fun v22 => wAldG x20 25 v22 4 fun v23 => again v23 x20) X)) X := by
  obtain ⟨c1, c2, c3, c4, c5, c6, c7, c8, c9, c10, c11, c12, c13⟩ := hI
  obtain ⟨r1, r2, r3, r4, r5, r6⟩ := id c2
  obtain ⟨v1, v2⟩ := c13 f rfl
  obtain ⟨s1, s2, s3'⟩ := On_step hL c13
  have hq2 := r1.1 _ _ hq
  have ht2 := r1.1 _ _ ht
  have hf1 := up _ _ s1
  have hf2 := r1.1 _ _ hf1
  have eqI2 : I2 q 0 = I1 q 0 := by rw [r4 q hq.1]
  have exK : ix (I2 q 0) = K := by rw [eqI2]; exact ix_of hqk
  have eF2 : ∀ c a, Is b c a → F2 a 2 = F a 2 := fun c a hca => by rw [r5 c a 2 (up _ _ hca) (by omega), of c a 2 hca (by omega)]
  have hnV : ¬ g2.V K f := fun z => by
    have := (c10 f z v2).1
    exact absurd this (by show ¬ g.R 4 f + 1 ≤ g.R 4 f; omega)
  refine c_chainFor (g := g2) c1 c3 c4 c5 c6 hq2 hf2 (Or.inr ⟨hc, hz⟩) (fun c b3 g3 I3 F3 E3 q1 q2 q3 q4 q5 q6 q7 q8 q9 q10 q11 q12 q13 q14 q15 q16 q17 => ?_)
  obtain ⟨u1, u2, u3, u4, u5, u6⟩ := id q2
  have hV3 : ∀ l f', g3.V l f' ↔ g2.V l f' := fun l f' => by show g3.1 l f' ↔ g2.1 l f'; rw [show g3.1 = g2.1 from q7]
  have el : ix (I3 c 0) = K := by rw [q15]; exact exK
  have hTc : g3.T c = t := by rw [q14]; exact c9
  have hF3 : F3 f 2 = some t := by rw [u5 1 f 2 hf2 (by omega), eF2 1 f s1]; exact v2
  have hf3 := u1.1 _ _ hf2
  rw [c_recv q13]
  refine c_putBehind q1 q3 q4 q13 hf3 (by rw [hTc]; exact hF3) (by rw [el, hV3]; exact hnV) (fun z => ?_) (fun g4 F4 E4 w1 w2 w3 => ?_)
  · rw [z] at el
    have : ix 4 = 4 := by decide
    omega
  · rw [el] at w1
    have hFr4 := Fr_tr c2 (Fr_tr q2 (Fr_Ins (I := I3) q13 w1))
    have e44 : ∀ a, Is b 1 a → E4 a 1 4 = E a 1 4 := fun a hfa => by
      rw [w1.2.2.2.2.2.1 a 1 4 (fun z => absurd z.2.2 (by omega)), q11 a 1 (fun z => Is_ne (r1.1 _ _ (up _ _ hfa)) hq2 (by decide) z.1)]
      exact c12 a hfa
    have hb3 := q1
    simp only [cw hb3, hf3, show wIn 4 5 from ⟨by decide, by decide⟩, true_and, show ix 4 = 4 from by decide]
    rw [e44 f s1]
    have eT3 : E3 t 3 = E1 t 3 := by rw [u6 10 t 3 ht2 (by decide) (by decide), r6 10 t 3 ht (by decide) (by decide)]
    have f42 : ∀ a, F4 a 2 = F3 a 2 := fun a => w1.2.2.2.2.1 a 2 (by rintro ⟨-, h⟩; omega)
    have e4E : ∀ c a j, Is b3 c a → c ≠ 1 → E4 a j = E3 a j := fun c a j hca hc => funext fun i => w1.2.2.2.2.2.1 a j i (fun z => hc (by rw [← hca.2, z.1.2]))
    refine ha b3 g4 I3 F4 E4 ⟨q1, hFr4, w2, w3, ?_, ⟨fun l f' hv => ?_, fun k' f' t' hk' hv ht' hx => ?_⟩, fun l f' hv => ?_, fun l f' hv => ?_, ?_, fun f' hv hft' => ?_, fun f' hv hft' => ?_, e44, s2⟩ ?_ ?_
    · refine CE_Ins q3 hf3 q13 q5 w1 (fun _ t' x' ht' hx' => ?_)
      rw [hF3] at ht'; cases ht'
      rw [eT3, hnone] at hx'; exact absurd hx' (by simp)
    · rcases (w1.1 l f').mp hv with h | ⟨rfl, rfl⟩
      · exact ⟨(w1.1 _ _).mpr (Or.inl ((hV3 _ _).mpr (c6.1 l f' ((hV3 _ _).mp h)).1)), (c6.1 l f' ((hV3 _ _).mp h)).2⟩
      · exact ⟨(w1.1 _ _).mpr (Or.inl ((hV3 _ _).mpr (c8 _ _ v1))), by omega⟩
    · have hv4 : g3.V 4 f' := by
        rcases (w1.1 4 f').mp hv with h | ⟨h, -⟩
        · exact h
        · omega
      rw [f42] at ht'
      have ht3 : Is b3 10 t' := tab_of q3 hv4 ht'
      rw [e4E 10 t' 3 ht3 (by decide), q6.2 k' f' t' hk' hv4 ht' hx, w1.1 k' f']
      refine ⟨fun z => Or.inl z, fun z => z.resolve_right (fun y => hx ⟨y.1, by rw [y.2]; exact v2⟩)⟩
    · rcases (w1.1 l f').mp hv with h | ⟨h1, h2⟩
      · exact c7 l f' ((hV3 _ _).mp h)
      · exact Or.inr ⟨h1, by rw [h2]; exact v1, by rw [h2]; exact v2⟩
    · exact (w1.1 l f').mpr (Or.inl ((hV3 _ _).mpr (c8 l f' hv)))
    · have : g4.U q = g3.U q := congrFun w1.2.2.2.1 q
      rw [this]
      have : g3.U q = g2.U q := congrFun q9 q
      rw [this]; exact c9
    · have hpush : ∀ f', (∃ n, Fdn I3 F3 n (E3 q 1 (ix (A1 f' 0 K &&& 63))) (A1 f' 0 K)) → ∃ n, Fdn I3 F4 n (E4 q 1 (ix (A1 f' 0 K &&& 63))) (A1 f' 0 K) := fun f' ⟨n, hn⟩ => by
        have hq3 := u1.1 _ _ hq2
        rw [e4E 4 q 1 hq3 (by decide)]
        exact ⟨n, Fd_mono q3 (fun c _ => ⟨rfl, f42 c⟩) (fun c hc => ((q3.2.1 q hq3).2.2 _ c hc).1) hn⟩
      rcases (w1.1 K f').mp hv with h | ⟨-, rfl⟩
      · obtain ⟨z1, z2⟩ := c10 f' ((hV3 _ _).mp h) hft'
        exact ⟨by omega, hpush f' (q17 q _ _ hq2 z2)⟩
      · refine ⟨by have : rk g 4 (some f') = g.R 4 f' + 1 := rfl; omega, hpush f' ?_⟩
        rw [exK] at q16; exact q16
    · by_cases hff : f' = f
      · exact Or.inl ((w1.1 K f').mpr (Or.inr ⟨rfl, hff⟩))
      · rcases c11 f' hv hft' with z | z | ⟨p, z1, z2, z3, z4⟩
        · exact Or.inl ((w1.1 _ _).mpr (Or.inl ((hV3 _ _).mpr z)))
        · cases z; exact absurd rfl hff
        · by_cases hpf : p = f
          · rw [hpf] at z3; exact Or.inr (Or.inl z3)
          · refine Or.inr (Or.inr ⟨p, z1, z2, z3, fun y => ?_⟩)
            rcases (w1.1 K p).mp y with y | ⟨-, y⟩
            · exact z4 ((hV3 _ _).mp y)
            · exact hpf y
    · rcases q12 with ⟨y1, -⟩ | ⟨y, -⟩
      · rw [y1]; omega
      · rw [y]; omega
    · rcases q12 with ⟨y1, -⟩ | ⟨-, y, -⟩
      · rw [y1]; omega
      · rw [y]; omega
end C21
