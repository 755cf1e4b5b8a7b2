set_option linter.unusedVariables false
set_option linter.unusedSimpArgs false
section C37
variable {b b' b'' : CT} {I I' I'' : Nat → Nat → Int32} {F F' F'' : Nat → Nat → Option Nat} {A A' A'' : Nat → Nat → Nat → Int32} {E E' E'' : Nat → Nat → Nat → Option Nat} {NT NT' : Nat → Nat → Prop} {X : List Nat} {q a j ci s h r v : Nat}
/-- ten looks are made and put into an array of q -/
theorem m_looks {kd : Nat} (hci : oF ci j = 26) (hcl : oL ci j = 10) (hb : CBX b X) (hq : Is b ci q) (hqX : q ∉ X) (hc : 20 ≤ b.B.c) (hz : 120 ≤ b.B.z) {Z : HS → Prop} {XF : String → HS → Prop} (hZ : ∀ b' I' F' A' E', CBX b' X → (∀ c a, Is b c a → Is b' c a) → (∀ c a, Is b' c a → Is b c a ∨ a ∉ b.B.LP ∧ (c = 5 ∨ 20 ≤ c)) → (∀ a j, a ∈ b.B.LP → b'.ad a j = b.ad a j) → (∀ a d, a ∈ b.B.LP → Pa b a d → Pa b' a d) → (∀ a, a ∈ b.B.LP → I' a = I a ∧ F' a = F a ∧ A' a = A a ∧ (a ≠ q → E' a = E a)) → (∀ i, i < 10 → ∃ l, E' q j i = some l ∧ Is b' 5 l) → (∀ j', j' ≠ j → E' q j' = E q j') → b.B.c ≤ b'.B.c + 20 → b.B.z ≤ b'.B.z + 120 → Z (cS b' I' F' A' E')) :
    wLoop (σ := Int32) (fun v23 x22 again20 => wIf (10 ≤ v23) (Z x22) (wGetF x22 ci j (some q) fun v24 => wNew x22 5 8 fun q25 x26 => w_X5_init q25 x26 (fun x27 => wAstG x27 26 5 v24 v23 q25 fun x29 => again20 (v23 + 1) x29) XF)) 0 (cS b I F A E) := by
  refine wLoop_i (fun n v y => ∃ b1 I1 F1 A1 E1, y = cS b1 I1 F1 A1 E1 ∧ CBX b1 X ∧ (∀ c a, Is b c a → Is b1 c a) ∧ (∀ c a, Is b1 c a → Is b c a ∨ a ∉ b.B.LP ∧ (c = 5 ∨ 20 ≤ c)) ∧ (∀ a j, a ∈ b.B.LP → b1.ad a j = b.ad a j) ∧ (∀ a d, a ∈ b.B.LP → Pa b a d → Pa b1 a d) ∧ (∀ a, a ∈ b.B.LP → I1 a = I a ∧ F1 a = F a ∧ A1 a = A a ∧ (a ≠ q → E1 a = E a)) ∧ (∀ i, i < ix v → ∃ l, E1 q j i = some l ∧ Is b1 5 l) ∧ (∀ j', j' ≠ j → E1 q j' = E q j') ∧ b.B.c ≤ b1.B.c + 2 * ix v ∧ b.B.z ≤ b1.B.z + 12 * ix v ∧ 0 ≤ v.toInt ∧ v.toInt ≤ 10 ∧ n = (10 - v.toInt).toNat) 10 ⟨b, I, F, A, E, rfl, hb, fun _ _ h => h, fun _ _ h => Or.inl h, fun _ _ _ => rfl, fun _ _ _ h => h, fun _ _ => ⟨rfl, rfl, rfl, fun _ => rfl⟩, fun i hi => absurd hi (by show ¬ i < 0; omega), fun _ _ => rfl, by omega, by omega, by decide, by decide, by decide⟩ ?_
  rintro n w y again ha ⟨b1, I1, F1, A1, E1, rfl, p1, p2, p2b, p2c, p2d, p3, p5, p5b, p6, p7, p8, p9, p10⟩
  have hwi : ((ix w : Nat) : Int) = w.toInt := ix_int p8
  refine ⟨fun hw => ?_, fun hw => ?_⟩
  · have : w.toInt = 10 := by simp only [i32, Int32.reduceToInt] at hw; omega
    have e10 : ix w = 10 := ix_of this
    rw [e10] at p5 p6 p7
    exact hZ b1 I1 F1 A1 E1 p1 p2 p2b p2c p2d p3 p5 p5b (by omega) (by omega)
  · have hw4 : w.toInt < 10 := by simp only [i32, Int32.reduceToInt] at hw; omega
    have ev : (w + 1).toInt = w.toInt + 1 := i_add rfl (by decide) (by omega)
    have eix : ix (w + 1) = ix w + 1 := ix_of (by omega)
    have q1 := p2 _ _ hq
    rw [c_getA0 (p1.2 q q1.1 hqX) q1 (by rw [hci]; decide)]
    refine m_look p1 (by omega) (by omega) (fun gg b2 I2 F2 A2 E2 y1 y2 y3 y4 y5 y6 => ?_)
    have q2 := y4.1 _ _ q1
    have ead : b1.ad q j = b2.ad q j := (y4.2.2.1 q j q1.1).symm
    rw [ead]
    refine c_astG0 y1.1 (y1.2 q q2.1 hqX) q2 hci (by decide) ⟨p8, by rw [hcl]; show w.toInt < 10; omega⟩ (fun z hz => by cases hz; exact y2) ?_
    have lp : ∀ a, a ∈ b.B.LP → a ∈ b1.B.LP := fun a ha => (p2 (b.B.k a) a ⟨ha, rfl⟩).1
    obtain ⟨v1, v2, v3, v4⟩ := y4.2.2.2.2 q q1.1
    refine ha _ _ _ (by omega) ⟨b2, I2, F2, A2, _, rfl, y1, fun c a z => y4.1 c a (p2 c a z), fun c a z => ?_, fun a j' ha => by rw [y4.2.2.1 a j' (lp a ha), p2c a j' ha], fun a d ha z => y4.2.2.2.1 a d (lp a ha) (p2d a d ha z), fun a ha => ?_, fun i hi => ?_, fun j' hj' => by rw [up3_ne (fun z => hj' z.2), v4, p5b j' hj'], by rw [eix]; omega, by rw [eix]; omega, by omega, by omega, rfl⟩
    · rcases y4.2.1 c a z with z | ⟨z1, z2⟩
      · exact p2b c a z
      · exact Or.inr ⟨fun y => z1 (lp a y), z2.imp (fun y => y.1) id⟩
    · obtain ⟨a1, a2, a3, a4⟩ := p3 a ha
      obtain ⟨w1, w2, w3, w4⟩ := y4.2.2.2.2 a (lp a ha)
      refine ⟨by rw [w1, a1], by rw [w2, a2], by rw [w3, a3], fun haq => ?_⟩
      have : up3 E2 q j (ix w) (some gg) a = E2 a := funext fun j' => up3_ne (fun z => haq z.1)
      rw [this, w4, a4 haq]
    · rw [eix] at hi
      rw [up3_at]
      by_cases hiw : i = ix w
      · rw [hiw, va_up_self]; exact ⟨gg, rfl, y2⟩
      · rw [va_up_ne _ _ hiw, v4]
        obtain ⟨g', z1, z2⟩ := p5 i (by omega)
        exact ⟨g', z1, y4.1 _ _ z2⟩
theorem m_solver (hb : CBX b X) (hXL : ∀ a, a ∈ X → a ∈ b.B.LP) (hc : 28 ≤ b.B.c) (hz : 1756 ≤ b.B.z) {Z : Option Nat → HS → Prop} {XF : String → HS → Prop} (hZ : ∀ q b' I' F' A' E', CBX b' X → q ∉ b.B.LP → Ex b b' I I' F F' A A' E E' (fun c a => c = 8 ∧ a = q ∨ c = 7 ∨ c = 5) → VP b' F' E' q → b.B.c ≤ b'.B.c + 28 → b.B.z ≤ b'.B.z + 1756 → Z (some q) (cS b' I' F' A' E')) : wNew (cS b I F A E) 8 8 fun q x1 => w_X8_init q x1 (fun x2 => Z q x2) XF := by
  refine c_new hb.1 (by omega) (by omega) (fun q hq => ?_)
  have x1 := CBX_new (ci := 8) (N := 8) hb hq
  have t1 := Pa_new (ci := 8) (N := 8) hb.1 hq
  have e1 := Ex_new (ci := 8) (N := 8) (I := I) (F := F) (A := A) (E := E) hb.1 hq
  have q1 : Is (bnew b q 8 8) 8 q := (bnew_Is hq 8 q).mpr (Or.inr ⟨rfl, rfl⟩)
  have hqX : q ∉ X := fun z => hq (hXL q z)
  simp only [w_X8_init, wRef, Option.some.injEq, exists_eq', true_and]
  have c1 : (bnew b q 8 8).B.c = b.B.c - 1 := by simp only [barr_c, barr_z, bnew_c, bnew_z]
  have z1 : (bnew b q 8 8).B.z = b.B.z - 8 := by simp only [barr_c, barr_z, bnew_c, bnew_z]
  generalize bnew b q 8 8 = b1 at x1 t1 e1 q1 c1 z1 ⊢
  refine m_sols x1 (by omega) (by omega) (fun l1 b2 I2 F2 A2 E2 y1 y2 y3 y4 y5 y6 => ?_)
  have q2 := y4.1 _ _ q1
  rw [c_putF0 y1.1 q2 (by decide)]
  have t2 := y4.2.2.2.1 q _ q1.1 t1
  have e2 := Ex_pF (j := 0) (v := some l1) (Ex_tr e1 y4) hq
  refine m_sols y1 (by omega) (by omega) (fun l2 b3 I3 F3 A3 E3 w1 w2 w3 w4 w5 w6 => ?_)
  have q3 := w4.1 _ _ q2
  rw [c_putF0 w1.1 q3 (by decide)]
  have t3 := w4.2.2.2.1 q _ q2.1 t2
  have e3 := Ex_pF (j := 2) (v := some l2) (Ex_tr e2 w4) hq
  have f0 : up2 F3 q 2 (some l2) q 0 = some l1 := by rw [up2_k _ _ _ _ (by decide), (w4.2.2.2.2 q q2.1).2.1, up2_self]
  have f2 : up2 F3 q 2 (some l2) q 2 = some l2 := up2_self _ _ _ _
  have l13 := w4.1 _ _ y2
  generalize up2 F3 q 2 (some l2) = F4 at e3 f0 f2 ⊢
  refine c_newG (j := 3) (N := 10) w1.1 q3 (Pa_no t3 (by decide)) (by decide) (by decide) (by omega) (by omega) (fun p e hp => ?_)
  obtain ⟨x4, t4⟩ := Pa_arr (kd := 26) (N := 10) w1 q3 t3 List.mem_cons_self hp (j := 3) (by decide) (by decide) (by decide) (by decide)
  have q4 := (barr_Is (q := q) (j := 3) (kd := 26) (N := 10) hp 8 q).mpr (Or.inl q3)
  have e4 := Ex_arr (u := e) (w := fun _ => none) (j := 3) (N := 10) (kd := 26) e3 w1.1 hq hp (by decide)
  have i4 := (barr_Is (q := q) (j := 3) (kd := 26) (N := 10) hp)
  refine c_newJ (j := 4) (N := 8) x4.1 q4 (Pa_no t4 (by decide)) (by decide) (by decide) (by simp only [barr_c, barr_z, bnew_c, bnew_z]; omega) (by simp only [barr_c, barr_z, bnew_c, bnew_z]; omega) (fun p2 f hp2 => ?_)
  obtain ⟨x5, t5⟩ := Pa_arr (kd := 20) (N := 8) x4 q4 t4 List.mem_cons_self hp2 (j := 4) (by decide) (by decide) (by decide) (by decide)
  have q5 := (barr_Is (q := q) (j := 4) (kd := 20) (N := 8) hp2 8 q).mpr (Or.inl q4)
  have e5 := Ex_arr (u := fun _ => 0) (w := f) (j := 4) (N := 8) (kd := 20) e4 x4.1 hq hp2 (by decide)
  have i5 := (barr_Is (q := q) (j := 4) (kd := 20) (N := 8) hp2)
  refine c_newJ (j := 5) (N := 4) x5.1 q5 (Pa_no t5 (by decide)) (by decide) (by decide) (by simp only [barr_c, barr_z, bnew_c, bnew_z]; omega) (by simp only [barr_c, barr_z, bnew_c, bnew_z]; omega) (fun p3 f3 hp3 => ?_)
  obtain ⟨x6, t6⟩ := Pa_arr (kd := 20) (N := 4) x5 q5 t5 List.mem_cons_self hp3 (j := 5) (by decide) (by decide) (by decide) (by decide)
  have q6 := (barr_Is (q := q) (j := 5) (kd := 20) (N := 4) hp3 8 q).mpr (Or.inl q5)
  have e6 := Ex_arr (u := fun _ => 0) (w := f3) (j := 5) (N := 4) (kd := 20) e5 x5.1 hq hp3 (by decide)
  have i6 := (barr_Is (q := q) (j := 5) (kd := 20) (N := 4) hp3)
  have c6 : (barr (barr (barr b3 q 3 p 26 10) q 4 p2 20 8) q 5 p3 20 4).B.c = b3.B.c - 3 := by simp only [barr_c, barr_z, bnew_c, bnew_z]; omega
  have z6 : (barr (barr (barr b3 q 3 p 26 10) q 4 p2 20 8) q 5 p3 20 4).B.z = b3.B.z - 22 := by simp only [barr_c, barr_z, bnew_c, bnew_z]; omega
  have x7 := Pa_end x6 t6 q6 oF8
  have l16 := (i6 7 l1).mpr (Or.inl ((i5 7 l1).mpr (Or.inl ((i4 7 l1).mpr (Or.inl l13)))))
  have l26 := (i6 7 l2).mpr (Or.inl ((i5 7 l2).mpr (Or.inl ((i4 7 l2).mpr (Or.inl w2)))))
  clear x6 t6 x5 t5 x4 t4 e5 e4
  generalize barr (barr (barr b3 q 3 p 26 10) q 4 p2 20 8) q 5 p3 20 4 = b6 at x7 q6 e6 c6 z6 l16 l26 ⊢
  refine m_looks (kd := 26) (by decide) (by decide) x7 q6 hqX (by omega) (by omega) (fun b7 I7 F7 A7 E7 g1 g2 g3 g4 g5 g6 g7 g8 g9 g10 => ?_)
  refine hZ q b7 I7 F7 A7 E7 g1 hq ⟨fun c a z => g2 c a (e6.1 c a z), fun c a z => ?_, fun a j ha => by rw [g4 a j (Ex_LP e6 ha), e6.2.2.1 a j ha], fun a d ha z => g5 a d (Ex_LP e6 ha) (e6.2.2.2.1 a d ha z), fun a ha => ?_⟩ ⟨g2 _ _ q6, ⟨l1, ?_, g2 _ _ l16⟩, ⟨l2, ?_, g2 _ _ l26⟩, g7⟩ (by omega) (by omega)
  · rcases g3 c a z with z | ⟨z1, z2⟩
    · rcases e6.2.1 c a z with z | ⟨z1, z2⟩
      · exact Or.inl z
      · refine Or.inr ⟨z1, z2.imp (fun y => ?_) id⟩
        rcases y with (y | y) | y
        · exact Or.inl y
        · exact Or.inr (Or.inl y.1)
        · exact Or.inr (Or.inl y.1)
    · exact Or.inr ⟨fun y => z1 (Ex_LP e6 y), z2.imp (fun y => Or.inr (Or.inr y)) id⟩
  · obtain ⟨a1, a2, a3, a4⟩ := e6.2.2.2.2 a ha
    obtain ⟨b1', b2', b3', b4'⟩ := g6 a (Ex_LP e6 ha)
    have haq : a ≠ q := fun z => hq (by rw [← z]; exact ha)
    exact ⟨by rw [b1', a1], by rw [b2', a2], by rw [b3', a3], by rw [b4' haq, a4]⟩
  · rw [(g6 q q6.1).2.1]; exact f0
  · rw [(g6 q q6.1).2.1]; exact f2
end C37
