set_option linter.unusedVariables false
set_option linter.unusedSimpArgs false
/-! the class: making it -/
/-- a keeper that was just made -/
def CY (o : Nat) (x : HS) : Prop := ∃ (b : CT) (s h r l v : Nat) (I : Nat → Nat → Int32) (F : Nat → Nat → Option Nat) (A : Nat → Nat → Nat → Int32) (E : Nat → Nat → Nat → Option Nat), x = cS b I F A E ∧ CB b ∧ Is b 11 o ∧ CL b (fun c a => c = 11 ∨ c = 9 ∧ a = s ∨ c = 3 ∨ c = 5 ∨ c = 6 ∧ a = r ∨ c = 2 ∨ c = 8 ∧ a = v ∨ c = 7) ∧ SP b I F E s h ∧ F o 2 = some s ∧ F o 6 = some l ∧ Is b 5 l ∧ (∀ i, i < 10 → ∃ q, E o 3 i = some q ∧ Is b 5 q ∧ q ≠ l) ∧ (∀ i i' q, i < 10 → i' < 10 → E o 3 i = some q → E o 3 i' = some q → i = i') ∧ (∀ i q, E v 3 i = some q → q ≠ l ∧ ∀ i', i' < 10 → E o 3 i' ≠ some q) ∧ (∀ j, I o j = 0) ∧ A o 1 = (fun _ => 0) ∧ A o 4 = (fun _ => 0)
section C39i
variable {b b' b'' : CT} {I I' I'' : Nat → Nat → Int32} {F F' F'' : Nat → Nat → Option Nat} {A A' A'' : Nat → Nat → Nat → Int32} {E E' E'' : Nat → Nat → Nat → Option Nat} {NT NT' : Nat → Nat → Prop} {X : List Nat} {q a j ci s h r v : Nat}
theorem mm_looks {kd : Nat} (hci : oF ci j = 26) (hcl : oL ci j = 10) (hb : CBX b X) (hq : Is b ci q) (hqX : q ∉ X) (hc : 20 ≤ b.B.c) (hz : 120 ≤ b.B.z) {Z : HS → Prop} {XF : String → HS → Prop} (hZ : ∀ b' I' F' A' E', CBX b' X → (∀ c a, Is b c a → Is b' c a) → (∀ c a, Is b' c a → Is b c a ∨ a ∉ b.B.LP ∧ (c = 5 ∨ 20 ≤ c)) → (∀ a j, a ∈ b.B.LP → b'.ad a j = b.ad a j) → (∀ a d, a ∈ b.B.LP → Pa b a d → Pa b' a d) → (∀ a, a ∈ b.B.LP → I' a = I a ∧ F' a = F a ∧ A' a = A a ∧ (a ≠ q → E' a = E a)) → (∀ i, i < 10 → ∃ l, E' q j i = some l ∧ Is b' 5 l ∧ l ∉ b.B.LP) → (∀ i i' l, i < 10 → i' < 10 → E' q j i = some l → E' q j i' = some l → i = i') → (∀ i, 10 ≤ i → E' q j i = E q j i) → (∀ j', j' ≠ j → E' q j' = E q j') → b.B.c ≤ b'.B.c + 20 → b.B.z ≤ b'.B.z + 120 → Z (cS b' I' F' A' E')) :
    wLoop (σ := Int32) (fun v23 x22 again20 => wIf (10 ≤ v23) (Z x22) (wGetF x22 ci j (some q) fun v24 => wNew x22 5 8 fun q25 x26 => w_X5_init q25 x26 (fun x27 => wAstG x27 26 5 v24 v23 q25 fun x29 => again20 (v23 + 1) x29) XF)) 0 (cS b I F A E) := by
  refine wLoop_i (fun n v y => ∃ b1 I1 F1 A1 E1, y = cS b1 I1 F1 A1 E1 ∧ CBX b1 X ∧ (∀ c a, Is b c a → Is b1 c a) ∧ (∀ c a, Is b1 c a → Is b c a ∨ a ∉ b.B.LP ∧ (c = 5 ∨ 20 ≤ c)) ∧ (∀ a j, a ∈ b.B.LP → b1.ad a j = b.ad a j) ∧ (∀ a d, a ∈ b.B.LP → Pa b a d → Pa b1 a d) ∧ (∀ a, a ∈ b.B.LP → I1 a = I a ∧ F1 a = F a ∧ A1 a = A a ∧ (a ≠ q → E1 a = E a)) ∧ (∀ i, i < ix v → ∃ l, E1 q j i = some l ∧ Is b1 5 l ∧ l ∉ b.B.LP) ∧ (∀ i i' l, i < ix v → i' < ix v → E1 q j i = some l → E1 q j i' = some l → i = i') ∧ (∀ i, ix v ≤ i → E1 q j i = E q j i) ∧ (∀ j', j' ≠ j → E1 q j' = E q j') ∧ b.B.c ≤ b1.B.c + 2 * ix v ∧ b.B.z ≤ b1.B.z + 12 * ix v ∧ 0 ≤ v.toInt ∧ v.toInt ≤ 10 ∧ n = (10 - v.toInt).toNat) 10 ⟨b, I, F, A, E, rfl, hb, fun _ _ h => h, fun _ _ h => Or.inl h, fun _ _ _ => rfl, fun _ _ _ h => h, fun _ _ => ⟨rfl, rfl, rfl, fun _ => rfl⟩, fun i hi => absurd hi (by show ¬ i < 0; omega), fun i i' l hi => absurd hi (by show ¬ i < 0; omega), fun _ _ => rfl, fun _ _ => rfl, by omega, by omega, by decide, by decide, by decide⟩ ?_
  rintro n w y again ha ⟨b1, I1, F1, A1, E1, rfl, p1, p2, p2b, p2c, p2d, p3, p5, p5x, p5y, p5b, p6, p7, p8, p9, p10⟩
  have hwi : ((ix w : Nat) : Int) = w.toInt := ix_int p8
  refine ⟨fun hw => ?_, fun hw => ?_⟩
  · have : w.toInt = 10 := by simp only [i32, Int32.reduceToInt] at hw; omega
    have e10 : ix w = 10 := ix_of this
    rw [e10] at p5 p5x p5y p6 p7
    exact hZ b1 I1 F1 A1 E1 p1 p2 p2b p2c p2d p3 p5 p5x p5y p5b (by omega) (by omega)
  · have hw4 : w.toInt < 10 := by simp only [i32, Int32.reduceToInt] at hw; omega
    have ev : (w + 1).toInt = w.toInt + 1 := i_add rfl (by decide) (by omega)
    have eix : ix (w + 1) = ix w + 1 := ix_of (by omega)
    have q1 := p2 _ _ hq
    rw [c_getA0 (p1.2 q q1.1 hqX) q1 (by rw [hci]; decide)]
    refine m_look p1 (by omega) (by omega) (fun gg b2 I2 F2 A2 E2 y1 y2 y3 y4 y5 y6 => ?_)
    have q2 := y4.1 _ _ q1
    have ead : b1.ad q j = b2.ad q j := (y4.2.2.1 q j q1.1).symm
    rw [ead]
    refine c_astG0 y1.1 (y1.2 q q2.1 hqX) q2 hci (by decide) ⟨p8, by rw [hcl]; show w.toInt < 10; omega⟩ (fun z hz => by cases hz; exact y2) ?_
    have lp : ∀ a, a ∈ b.B.LP → a ∈ b1.B.LP := fun a ha => (p2 (b.B.k a) a ⟨ha, rfl⟩).1
    obtain ⟨v1, v2, v3, v4⟩ := y4.2.2.2.2 q q1.1
    refine ha _ _ _ (by omega) ⟨b2, I2, F2, A2, _, rfl, y1, fun c a z => y4.1 c a (p2 c a z), fun c a z => ?_, fun a j' ha => by rw [y4.2.2.1 a j' (lp a ha), p2c a j' ha], fun a d ha z => y4.2.2.2.1 a d (lp a ha) (p2d a d ha z), fun a ha => ?_, fun i hi => ?_, fun i i' l hi hi' => ?_, fun i hi => ?_, fun j' hj' => by rw [up3_ne (fun z => hj' z.2), v4, p5b j' hj'], by rw [eix]; omega, by rw [eix]; omega, by omega, by omega, rfl⟩
    · rcases y4.2.1 c a z with z | ⟨z1, z2⟩
      · exact p2b c a z
      · exact Or.inr ⟨fun y => z1 (lp a y), z2.imp (fun y => y.1) id⟩
    · obtain ⟨a1, a2, a3, a4⟩ := p3 a ha
      obtain ⟨w1, w2, w3, w4⟩ := y4.2.2.2.2 a (lp a ha)
      refine ⟨by rw [w1, a1], by rw [w2, a2], by rw [w3, a3], fun haq => ?_⟩
      have : up3 E2 q j (ix w) (some gg) a = E2 a := funext fun j' => up3_ne (fun z => haq z.1)
      rw [this, w4, a4 haq]
    · rw [eix] at hi
      rw [up3_at]
      by_cases hiw : i = ix w
      · rw [hiw, va_up_self]; exact ⟨gg, rfl, y2, fun z => y3 (lp gg z)⟩
      · rw [va_up_ne _ _ hiw, v4]
        obtain ⟨g', z1, z2, z3⟩ := p5 i (by omega)
        exact ⟨g', z1, y4.1 _ _ z2, z3⟩
    · rw [eix] at hi hi'
      rw [up3_at]
      have nw : ∀ k, k < ix w → E1 q j k ≠ some gg := fun k hk z => by
        obtain ⟨g', z1, z2, z3⟩ := p5 k hk
        rw [z1] at z; cases z
        exact y3 z2.1
      by_cases hiw : i = ix w
      · by_cases hiw' : i' = ix w
        · rw [hiw, hiw']; exact fun _ _ => rfl
        · rw [hiw, va_up_self, va_up_ne _ _ hiw', v4]
          intro z z'
          exact absurd (z'.trans z.symm) (nw i' (by omega))
      · rw [va_up_ne _ _ hiw, v4]
        by_cases hiw' : i' = ix w
        · rw [hiw', va_up_self]
          intro z z'
          exact absurd (z.trans z'.symm) (nw i (by omega))
        · rw [va_up_ne _ _ hiw']
          exact p5x i i' l (by omega) (by omega)
    · rw [eix] at hi
      rw [up3_at, va_up_ne _ _ (by omega), v4]
      exact p5y i (by omega)
theorem mm_solver (hb : CBX b X) (hXL : ∀ a, a ∈ X → a ∈ b.B.LP) (hc : 28 ≤ b.B.c) (hz : 1756 ≤ b.B.z) {Z : Option Nat → HS → Prop} {XF : String → HS → Prop} (hZ : ∀ q b' I' F' A' E', CBX b' X → q ∉ b.B.LP → Ex b b' I I' F F' A A' E E' (fun c a => c = 8 ∧ a = q ∨ c = 7 ∨ c = 5) → VP b' F' E' q → (∀ i l, E' q 3 i = some l → l ∈ b'.B.LP ∧ l ∉ b.B.LP) → b.B.c ≤ b'.B.c + 28 → b.B.z ≤ b'.B.z + 1756 → Z (some q) (cS b' I' F' A' E')) : wNew (cS b I F A E) 8 8 fun q x1 => w_X8_init q x1 (fun x2 => Z q x2) XF := by
  refine c_new hb.1 (by omega) (by omega) (fun q hq => ?_)
  have x1 := CBX_new (ci := 8) (N := 8) hb hq
  have t1 := Pa_new (ci := 8) (N := 8) hb.1 hq
  have e1 := Ex_new (ci := 8) (N := 8) (I := I) (F := F) (A := A) (E := E) hb.1 hq
  have q1 : Is (bnew b q 8 8) 8 q := (bnew_Is hq 8 q).mpr (Or.inr ⟨rfl, rfl⟩)
  have hqX : q ∉ X := fun z => hq (hXL q z)
  simp only [w_X8_init, wRef, Option.some.injEq, exists_eq', true_and]
  have c1 : (bnew b q 8 8).B.c = b.B.c - 1 := by simp only [barr_c, barr_z, bnew_c, bnew_z]
  have z1 : (bnew b q 8 8).B.z = b.B.z - 8 := by simp only [barr_c, barr_z, bnew_c, bnew_z]
  generalize bnew b q 8 8 = b1 at x1 t1 e1 q1 c1 z1 ⊢
  refine m_sols x1 (by omega) (by omega) (fun l1 b2 I2 F2 A2 E2 y1 y2 y3 y4 y5 y6 => ?_)
  have q2 := y4.1 _ _ q1
  rw [c_putF0 y1.1 q2 (by decide)]
  have t2 := y4.2.2.2.1 q _ q1.1 t1
  have e2 := Ex_pF (j := 0) (v := some l1) (Ex_tr e1 y4) hq
  refine m_sols y1 (by omega) (by omega) (fun l2 b3 I3 F3 A3 E3 w1 w2 w3 w4 w5 w6 => ?_)
  have q3 := w4.1 _ _ q2
  rw [c_putF0 w1.1 q3 (by decide)]
  have t3 := w4.2.2.2.1 q _ q2.1 t2
  have e3 := Ex_pF (j := 2) (v := some l2) (Ex_tr e2 w4) hq
  have f0 : up2 F3 q 2 (some l2) q 0 = some l1 := by rw [up2_k _ _ _ _ (by decide), (w4.2.2.2.2 q q2.1).2.1, up2_self]
  have f2 : up2 F3 q 2 (some l2) q 2 = some l2 := up2_self _ _ _ _
  have l13 := w4.1 _ _ y2
  generalize up2 F3 q 2 (some l2) = F4 at e3 f0 f2 ⊢
  refine c_newG (j := 3) (N := 10) w1.1 q3 (Pa_no t3 (by decide)) (by decide) (by decide) (by omega) (by omega) (fun p e hp => ?_)
  obtain ⟨x4, t4⟩ := Pa_arr (kd := 26) (N := 10) w1 q3 t3 List.mem_cons_self hp (j := 3) (by decide) (by decide) (by decide) (by decide)
  have q4 := (barr_Is (q := q) (j := 3) (kd := 26) (N := 10) hp 8 q).mpr (Or.inl q3)
  have e4 := Ex_arr (u := e) (w := fun _ => none) (j := 3) (N := 10) (kd := 26) e3 w1.1 hq hp (by decide)
  have i4 := (barr_Is (q := q) (j := 3) (kd := 26) (N := 10) hp)
  refine c_newJ (j := 4) (N := 8) x4.1 q4 (Pa_no t4 (by decide)) (by decide) (by decide) (by simp only [barr_c, barr_z, bnew_c, bnew_z]; omega) (by simp only [barr_c, barr_z, bnew_c, bnew_z]; omega) (fun p2 f hp2 => ?_)
  obtain ⟨x5, t5⟩ := Pa_arr (kd := 20) (N := 8) x4 q4 t4 List.mem_cons_self hp2 (j := 4) (by decide) (by decide) (by decide) (by decide)
  have q5 := (barr_Is (q := q) (j := 4) (kd := 20) (N := 8) hp2 8 q).mpr (Or.inl q4)
  have e5 := Ex_arr (u := fun _ => 0) (w := f) (j := 4) (N := 8) (kd := 20) e4 x4.1 hq hp2 (by decide)
  have i5 := (barr_Is (q := q) (j := 4) (kd := 20) (N := 8) hp2)
  refine c_newJ (j := 5) (N := 4) x5.1 q5 (Pa_no t5 (by decide)) (by decide) (by decide) (by simp only [barr_c, barr_z, bnew_c, bnew_z]; omega) (by simp only [barr_c, barr_z, bnew_c, bnew_z]; omega) (fun p3 f3 hp3 => ?_)
  obtain ⟨x6, t6⟩ := Pa_arr (kd := 20) (N := 4) x5 q5 t5 List.mem_cons_self hp3 (j := 5) (by decide) (by decide) (by decide) (by decide)
  have q6 := (barr_Is (q := q) (j := 5) (kd := 20) (N := 4) hp3 8 q).mpr (Or.inl q5)
  have e6 := Ex_arr (u := fun _ => 0) (w := f3) (j := 5) (N := 4) (kd := 20) e5 x5.1 hq hp3 (by decide)
  have i6 := (barr_Is (q := q) (j := 5) (kd := 20) (N := 4) hp3)
  have c6 : (barr (barr (barr b3 q 3 p 26 10) q 4 p2 20 8) q 5 p3 20 4).B.c = b3.B.c - 3 := by simp only [barr_c, barr_z, bnew_c, bnew_z]; omega
  have z6 : (barr (barr (barr b3 q 3 p 26 10) q 4 p2 20 8) q 5 p3 20 4).B.z = b3.B.z - 22 := by simp only [barr_c, barr_z, bnew_c, bnew_z]; omega
  have x7 := Pa_end x6 t6 q6 oF8
  have l16 := (i6 7 l1).mpr (Or.inl ((i5 7 l1).mpr (Or.inl ((i4 7 l1).mpr (Or.inl l13)))))
  have l26 := (i6 7 l2).mpr (Or.inl ((i5 7 l2).mpr (Or.inl ((i4 7 l2).mpr (Or.inl w2)))))
  have e30 : ∀ i, up2 (up2 (up2 E3 q 3 (fun _ => none)) q 4 f) q 5 f3 q 3 i = none := fun i => by rw [up2_k _ _ _ _ (by decide), up2_k _ _ _ _ (by decide), up2_self]
  generalize up2 (up2 (up2 E3 q 3 (fun _ => none)) q 4 f) q 5 f3 = E6 at e6 e30 ⊢
  clear x6 t6 x5 t5 x4 t4 e5 e4
  generalize barr (barr (barr b3 q 3 p 26 10) q 4 p2 20 8) q 5 p3 20 4 = b6 at x7 q6 e6 c6 z6 l16 l26 ⊢
  refine mm_looks (kd := 26) (by decide) (by decide) x7 q6 hqX (by omega) (by omega) (fun b7 I7 F7 A7 E7 g1 g2 g3 g4 g5 g6 g7 g7x g7y g8 g9 g10 => ?_)
  refine hZ q b7 I7 F7 A7 E7 g1 hq ⟨fun c a z => g2 c a (e6.1 c a z), fun c a z => ?_, fun a j ha => by rw [g4 a j (Ex_LP e6 ha), e6.2.2.1 a j ha], fun a d ha z => g5 a d (Ex_LP e6 ha) (e6.2.2.2.1 a d ha z), fun a ha => ?_⟩ ⟨g2 _ _ q6, ⟨l1, ?_, g2 _ _ l16⟩, ⟨l2, ?_, g2 _ _ l26⟩, fun i hi => by obtain ⟨l, y1, y2, y3⟩ := g7 i hi; exact ⟨l, y1, y2⟩⟩ (fun i l hl => ?_) (by omega) (by omega)
  · rcases g3 c a z with z | ⟨z1, z2⟩
    · rcases e6.2.1 c a z with z | ⟨z1, z2⟩
      · exact Or.inl z
      · refine Or.inr ⟨z1, z2.imp (fun y => ?_) id⟩
        rcases y with (y | y) | y
        · exact Or.inl y
        · exact Or.inr (Or.inl y.1)
        · exact Or.inr (Or.inl y.1)
    · exact Or.inr ⟨fun y => z1 (Ex_LP e6 y), z2.imp (fun y => Or.inr (Or.inr y)) id⟩
  · obtain ⟨a1, a2, a3, a4⟩ := e6.2.2.2.2 a ha
    obtain ⟨b1', b2', b3', b4'⟩ := g6 a (Ex_LP e6 ha)
    have haq : a ≠ q := fun z => hq (by rw [← z]; exact ha)
    exact ⟨by rw [b1', a1], by rw [b2', a2], by rw [b3', a3], by rw [b4' haq, a4]⟩
  · rw [(g6 q q6.1).2.1]; exact f0
  · rw [(g6 q q6.1).2.1]; exact f2
  · by_cases hi : i < 10
    · obtain ⟨l', y1, y2, y3⟩ := g7 i hi
      rw [y1] at hl; cases hl
      exact ⟨y2.1, fun z => y3 (Ex_LP e6 z)⟩
    · rw [g7y i (by omega), e30] at hl
      exact absurd hl (by simp)
end C39i
section C39j
variable {b b' b'' : CT} {I I' I'' : Nat → Nat → Int32} {F F' F'' : Nat → Nat → Option Nat} {A A' A'' : Nat → Nat → Nat → Int32} {E E' E'' : Nat → Nat → Nat → Option Nat} {NT NT' : Nat → Nat → Prop} {X : List Nat} {q a j ci s h r v o N : Nat} {Q : HS → Prop} {XF : String → HS → Prop}
theorem kk_init3 (r1 : CBX b []) (o9 : Is b 11 o) (cl9 : CL b (fun c a => c = 11 ∨ c = 9 ∧ a = s ∨ c = 3 ∨ c = 5 ∨ c = 6 ∧ a = r ∨ c = 2)) (i9 : ∀ j, I o j = 0) (a9 : A o 1 = fun _ => 0) (a9b : A o 4 = fun _ => 0) (f92 : F o 2 = some s) {l : Nat} (f96 : F o 6 = some l) (f97 : F o 7 = some r) (s9 : SP b I F E s h) (l9 : Is b 5 l) (r4 : RP b E r) (r5 : GZ b I A) (hc : 153096 + 16 * N + 48 ≤ b.B.c) (hz : 772800 + 100 * N + 1876 ≤ b.B.z) (hQ : ∀ x', KInv o N (fun _ => 0) x' → CY o x' → Q x') :
    wNew (cS b I F A E) 8 8 fun q31 x32 => w_X8_init q31 x32 (fun x33 => wPutF x33 11 8 (some o) q31 fun x35 => wLoop (σ := Int32) (fun v39 x38 again36 => wIf (10 ≤ v39) (Q x38) (wGetF x38 11 3 (some o) fun v40 => wNew x38 5 8 fun q41 x42 => w_X5_init q41 x42 (fun x43 => wAstG x43 26 5 v40 v39 q41 fun x45 => again36 (v39 + 1) x45) (fun _ _ => False))) 0 x35) (fun _ _ => False) := by
  -- the solver
  refine mm_solver r1 (fun a ha => absurd ha List.not_mem_nil) (by omega) (by omega) (fun v b11 I11 F11 A11 E11 w1 w2 w3 w4 w4x w5 w6 => ?_)
  have o11 := w3.1 _ _ o9
  rw [c_putF0 w1.1 o11 (by decide)]
  have cl11 := CL_Ex cl9 w3
  obtain ⟨v1, v2, v3, v4⟩ := w3.2.2.2.2 o o9.1
  have i11 : ∀ j, I11 o j = 0 := fun j => by rw [v1]; exact i9 j
  have a11 : A11 o 1 = fun _ => 0 := by rw [v3]; exact a9
  have a11b : A11 o 4 = fun _ => 0 := by rw [v3]; exact a9b
  have f112 : up2 F11 o 8 (some v) o 2 = some s := by rw [up2_k _ _ _ _ (by decide), v2]; exact f92
  have f116 : up2 F11 o 8 (some v) o 6 = some l := by rw [up2_k _ _ _ _ (by decide), v2]; exact f96
  have f117 : up2 F11 o 8 (some v) o 7 = some r := by rw [up2_k _ _ _ _ (by decide), v2]; exact f97
  have f118 : up2 F11 o 8 (some v) o 8 = some v := up2_self _ _ _ _
  have pv11 := PV_F (j := 8) (w := some v) (I := I11) (F := F11) (E := E11) (A := A11) o11
  have s11 := SP_PV (SP_PV s9 (PV_Ex w3)) pv11
  have r11 := RP_PV r4 (PV_Ex w3)
  have v11 := VP_PV w4 pv11
  have g11 := GZ_Ex r5 w3 (fun c a z => by omega)
  have l11 := w3.1 _ _ l9
  generalize up2 F11 o 8 (some v) = F12 at f112 f116 f117 f118 s11 v11 ⊢
  clear v1 v2 v3 v4 s9 cl9 a9 a9b w3 pv11 r4 r5
  -- the cursors
  refine mm_looks (kd := 26) (by decide) (by decide) w1 o11 List.not_mem_nil (by omega) (by omega) (fun b13 I13 F13 A13 E13 g1 g2 g3 g4 g5 g6 g7 g7x g7y g8 g9 g10 => ?_)
  obtain ⟨v1, v2, v3, -⟩ := g6 o o11.1
  have pv13 : PV b11 b13 I11 I13 F12 F13 A11 A13 E11 E13 := ⟨g2, fun c a ha hc => by
    obtain ⟨d1, d2, d3, d4⟩ := g6 a ha.1
    exact ⟨d1, d2, d3, d4 (Is_ne ha o11 hc)⟩⟩
  have cl13 : CL b13 (fun c a => c = 11 ∨ c = 9 ∧ a = s ∨ c = 3 ∨ c = 5 ∨ c = 6 ∧ a = r ∨ c = 2 ∨ c = 8 ∧ a = v ∨ c = 7) := fun c a z => by
    rcases g3 c a z with z | ⟨-, z⟩
    · have := cl11 c a z
      omega
    · omega
  have g13 : GZ b13 I13 A13 := fun q hq => by
    rcases g3 2 q hq with z | ⟨-, z | z⟩
    · obtain ⟨d1, d2, d3, d4⟩ := g6 q z.1
      rw [d1, d3]; exact g11 q z
    · exact absurd z (by decide)
    · exact absurd z (by decide)
  obtain ⟨gg, k1, k2⟩ := KV_new (N := N) (l := l) (CBX_nil.mp g1) (g2 _ _ o11) cl13 (SP_PV s11 pv13) (RP_PV r11 pv13) (VP_PV v11 pv13) g13 (by rw [v2]; exact f112) (by rw [v2]; exact f116) (g2 _ _ l11) (by rw [v2]; exact f117) (by rw [v2]; exact f118) (fun i hi => by obtain ⟨l, y1, y2, y3⟩ := g7 i hi; exact ⟨l, y1, y2⟩) (by rw [v1]; exact i11 9) (by rw [v1]; exact i11 10) (by rw [v3]; exact a11) (by rw [v3]; exact a11b) (by omega) (by omega)
  have ve : E13 v = E11 v := (g6 v v11.1.1).2.2.2 (Is_ne v11.1 o11 (by decide))
  refine hQ _ ⟨b13, gg, s, h, I13, F13, A13, E13, rfl, k1, k2⟩ ⟨b13, s, h, r, l, v, I13, F13, A13, E13, rfl, CBX_nil.mp g1, g2 _ _ o11, cl13, SP_PV s11 pv13, by rw [v2]; exact f112, by rw [v2]; exact f116, g2 _ _ l11, fun i hi => ?_, g7x, fun i q hq => ?_, fun j => by rw [v1]; exact i11 j, by rw [v3]; exact a11, by rw [v3]; exact a11b⟩
  · obtain ⟨q, y1, y2, y3⟩ := g7 i hi
    exact ⟨q, y1, y2, fun z => y3 (by rw [z]; exact l11.1)⟩
  · rw [ve] at hq
    obtain ⟨y1, y2⟩ := w4x i q hq
    refine ⟨fun z => y2 (by rw [z]; exact l9.1), fun i' hi' z => ?_⟩
    obtain ⟨q', y3, y4, y5⟩ := g7 i' hi'
    rw [z] at y3; cases y3
    exact y5 y1
theorem kk_init2 (y6 : CBX b []) (o6 : Is b 11 o) (cl6 : CL b (fun c a => c = 11 ∨ c = 9 ∧ a = s ∨ c = 3)) (i3 : ∀ j, I o j = 0) (a6 : A o 1 = fun _ => 0) (a6b : A o 4 = fun _ => 0) (f3 : F o 2 = some s) (s6 : SP b I F E s h) (hc : 153096 + 16 * N + 82 ≤ b.B.c) (hz : 772800 + 100 * N + 2046 ≤ b.B.z) (hQ : ∀ x', KInv o N (fun _ => 0) x' → CY o x' → Q x') :
    wNew (cS b I F A E) 5 8 fun q21 x22 => w_X5_init q21 x22 (fun x23 => wPutF x23 11 6 (some o) q21 fun x25 => wNew x25 6 8 fun q26 x27 => w_X6_init q26 x27 (fun x28 => wPutF x28 11 7 (some o) q26 fun x30 => wNew x30 8 8 fun q31 x32 => w_X8_init q31 x32 (fun x33 => wPutF x33 11 8 (some o) q31 fun x35 => wLoop (σ := Int32) (fun v39 x38 again36 => wIf (10 ≤ v39) (Q x38) (wGetF x38 11 3 (some o) fun v40 => wNew x38 5 8 fun q41 x42 => w_X5_init q41 x42 (fun x43 => wAstG x43 26 5 v40 v39 q41 fun x45 => again36 (v39 + 1) x45) (fun _ _ => False))) 0 x35) (fun _ _ => False)) (fun _ _ => False)) (fun _ _ => False) := by
  -- the look
  refine m_look y6 (by omega) (by omega) (fun l b7 I7 F7 A7 E7 n1 n2 n3 n4 n5 n6 => ?_)
  have o7 := n4.1 _ _ o6
  rw [c_putF0 n1.1 o7 (by decide)]
  have cl7 := CL_Ex cl6 n4
  obtain ⟨v1, v2, v3, v4⟩ := n4.2.2.2.2 o o6.1
  have i7 : ∀ j, I7 o j = 0 := fun j => by rw [v1]; exact i3 j
  have a7 : A7 o 1 = fun _ => 0 := by rw [v3]; exact a6
  have a7b : A7 o 4 = fun _ => 0 := by rw [v3]; exact a6b
  have f72 : up2 F7 o 6 (some l) o 2 = some s := by rw [up2_k _ _ _ _ (by decide), v2]; exact f3
  have f76 : up2 F7 o 6 (some l) o 6 = some l := up2_self _ _ _ _
  have s7 := SP_PV (A' := A7) (A := A7) (SP_PV s6 (PV_Ex n4)) (PV_F (j := 6) (w := some l) (I := I7) (F := F7) (E := E7) o7)
  generalize up2 F7 o 6 (some l) = F8 at f72 f76 s7 ⊢
  clear v1 v2 v3 v4 s6 cl6 y6 a6 a6b n4
  -- the reader
  have gz : GZ b7 I7 A7 := fun q hq => by have := cl7 2 q hq; omega
  refine m_reader n1 (fun a ha => absurd ha List.not_mem_nil) gz (by omega) (by omega) (fun r b9 I9 F9 A9 E9 r1 r2 r3 r4 r5 r6 r7 => ?_)
  have o9 := r3.1 _ _ o7
  rw [c_putF0 r1.1 o9 (by decide)]
  have cl9 := CL_Ex cl7 r3
  obtain ⟨v1, v2, v3, v4⟩ := r3.2.2.2.2 o o7.1
  have i9 : ∀ j, I9 o j = 0 := fun j => by rw [v1]; exact i7 j
  have a9 : A9 o 1 = fun _ => 0 := by rw [v3]; exact a7
  have a9b : A9 o 4 = fun _ => 0 := by rw [v3]; exact a7b
  have f92 : up2 F9 o 7 (some r) o 2 = some s := by rw [up2_k _ _ _ _ (by decide), v2]; exact f72
  have f96 : up2 F9 o 7 (some r) o 6 = some l := by rw [up2_k _ _ _ _ (by decide), v2]; exact f76
  have f97 : up2 F9 o 7 (some r) o 7 = some r := up2_self _ _ _ _
  have pv9 := PV_F (j := 7) (w := some r) (I := I9) (F := F9) (E := E9) (A := A9) o9
  have s9 := SP_PV (SP_PV s7 (PV_Ex r3)) pv9
  have l9 := r3.1 _ _ n2
  generalize up2 F9 o 7 (some r) = F10 at f92 f96 f97 s9 ⊢
  clear v1 v2 v3 v4 s7 cl7 gz a7 a7b r3 pv9
  have cl9' : CL b9 (fun c a => c = 11 ∨ c = 9 ∧ a = s ∨ c = 3 ∨ c = 5 ∨ c = 6 ∧ a = r ∨ c = 2) := fun c a z => by
    have := cl9 c a z
    omega
  exact kk_init3 r1 o9 cl9' i9 a9 a9b f92 f96 f97 s9 l9 r4 r5 (by omega) (by omega) hQ
theorem kk_init {x : HS} (hLP : x.LP = [o]) (hk : x.k o = 11) (hI : ∀ j, x.I o j = 0) (hc : 153096 + 16 * N + 94 ≤ x.c) (hz : 772800 + 100 * N + 20503 ≤ x.z) (hQ : ∀ x', KInv o N (fun _ => 0) x' → CY o x' → Q x') : w_X11_init (some o) x Q XF := by
  have e0 : x = cS (bz x) x.I x.F (fun _ _ _ => 0) (fun _ _ _ => none) := by
    show HS.mk x.LP x.k x.n x.I x.F x.J x.G x.c x.z = _
    unfold cS
    have : cF (bz x) x.F = x.F := by
      funext a j
      exact if_neg (by show ¬ (none : Option (Nat × Nat)) = some (a, j); simp)
    rw [this]
    rfl
  have hb : CBX (bz x) [o] := ⟨fun q a j z => absurd z (by show ¬ (none : Option (Nat × Nat)) = some (a, j); simp), fun a ha haX => absurd (by rw [← hLP]; exact ha) haX⟩
  have ho : Is (bz x) 11 o := ⟨by show o ∈ x.LP; rw [hLP]; exact List.mem_singleton.mpr rfl, hk⟩
  have t0 : Pa (bz x) o [] := ⟨fun j hj => absurd hj List.not_mem_nil, fun r j z => absurd z (by show ¬ (none : Option (Nat × Nat)) = some (o, j); simp)⟩
  have cl0 : CL (bz x) (fun c a => c = 11) := fun c a ha => by
    have h1 : a ∈ x.LP := ha.1
    rw [hLP, List.mem_singleton] at h1
    rw [h1] at ha
    have h2 : x.k o = c := ha.2
    exact Or.inl (by rw [← h2]; exact hk)
  have hcb : (bz x).B.c = x.c := rfl
  have hzb : (bz x).B.z = x.z := rfl
  rw [e0]
  clear e0
  generalize bz x = b at hb ho t0 cl0 hcb hzb ⊢
  generalize hx : x.I = I at hI ⊢
  generalize x.F = F
  generalize (fun _ _ _ => (0 : Int32) : Nat → Nat → Nat → Int32) = A
  generalize (fun _ _ _ => none : Nat → Nat → Nat → Option Nat) = E
  simp only [w_X11_init, wRef, Option.some.injEq, exists_eq', true_and]
  -- tape and values
  refine c_newJ (j := 0) (N := 400) hb.1 ho (Pa_no t0 (by decide)) (by decide) (by decide) (by omega) (by omega) (fun p1 u1 hp1 => ?_)
  obtain ⟨x1, t1⟩ := Pa_arr (kd := 21) (N := 400) hb ho t0 List.mem_cons_self hp1 (j := 0) (by decide) (by decide) (by decide) (by decide)
  have o1 := (barr_Is (q := o) (j := 0) (kd := 21) (N := 400) hp1 11 o).mpr (Or.inl ho)
  have cl1 := CL_arr (q := o) (j := 0) (kd := 21) (N := 400) cl0 hp1 (by decide)
  have c1 : (barr b o 0 p1 21 400).B.c = x.c - 1 := by rw [barr_c, hcb]
  have z1 : (barr b o 0 p1 21 400).B.z = x.z - 400 := by rw [barr_z, hzb]
  generalize barr b o 0 p1 21 400 = b1 at x1 t1 o1 cl1 c1 z1 ⊢
  refine c_newJ (j := 1) (N := 4) x1.1 o1 (Pa_no t1 (by decide)) (by decide) (by decide) (by omega) (by omega) (fun p2 u2 hp2 => ?_)
  obtain ⟨x2, t2⟩ := Pa_arr (kd := 20) (N := 4) x1 o1 t1 List.mem_cons_self hp2 (j := 1) (by decide) (by decide) (by decide) (by decide)
  have o2 := (barr_Is (q := o) (j := 1) (kd := 20) (N := 4) hp2 11 o).mpr (Or.inl o1)
  have cl2 := CL_arr (q := o) (j := 1) (kd := 20) (N := 4) cl1 hp2 (by decide)
  have c2 : (barr b1 o 1 p2 20 4).B.c = x.c - 2 := by rw [barr_c, c1]; omega
  have z2 : (barr b1 o 1 p2 20 4).B.z = x.z - 404 := by rw [barr_z, z1]; omega
  have a2 : up2 (up2 A o 0 (fun _ => 0)) o 1 (fun _ => 0) o 1 = fun _ => (0 : Int32) := up2_self _ _ _ _
  generalize barr b1 o 1 p2 20 4 = b2 at x2 t2 o2 cl2 c2 z2 ⊢
  generalize up2 (up2 A o 0 (fun _ => 0)) o 1 (fun _ => 0) = A2 at a2 ⊢
  generalize up2 (up2 E o 0 u1) o 1 u2 = E2
  clear x1 t1 cl1 hb t0 cl0
  -- the store
  refine m_store x2 (by omega) (by omega) (fun s h b3 I3 F3 A3 E3 m1 m2 m3 m4 m5 m6 m7 => ?_)
  have o3 := m4.1 _ _ o2
  rw [c_putF0 m1.1 o3 (by decide)]
  have t3 := m4.2.2.2.1 o _ o2.1 t2
  have cl3 := CL_Ex cl2 m4
  obtain ⟨v1, v2, v3, v4⟩ := m4.2.2.2.2 o o2.1
  have i3 : ∀ j, I3 o j = 0 := fun j => by rw [v1]; exact hI j
  have a3 : A3 o 1 = fun _ => 0 := by rw [v3]; exact a2
  have f3 : up2 F3 o 2 (some s) o 2 = some s := up2_self _ _ _ _
  have s3 := SP_PV (A' := A3) (A := A3) m5 (PV_F (j := 2) (w := some s) (I := I3) (F := F3) (E := E3) o3)
  generalize up2 F3 o 2 (some s) = F4 at f3 s3 ⊢
  clear x2 t2 cl2 m4 m5 v1 v2 v3 v4
  -- cursors, what is open, what was found
  refine c_newG (j := 3) (N := 10) m1.1 o3 (Pa_no t3 (by decide)) (by decide) (by decide) (by omega) (by omega) (fun p4 u4 hp4 => ?_)
  obtain ⟨x4, t4⟩ := Pa_arr (kd := 26) (N := 10) m1 o3 t3 List.mem_cons_self hp4 (j := 3) (by decide) (by decide) (by decide) (by decide)
  have o4 := (barr_Is (q := o) (j := 3) (kd := 26) (N := 10) hp4 11 o).mpr (Or.inl o3)
  have cl4 := CL_arr (q := o) (j := 3) (kd := 26) (N := 10) cl3 hp4 (by decide)
  have c4 : (barr b3 o 3 p4 26 10).B.c = x.c - 10 := by rw [barr_c, m6, c2]; omega
  have z4 : (barr b3 o 3 p4 26 10).B.z = x.z - 15447 := by rw [barr_z, m7, z2]; omega
  have a4 : up2 A3 o 3 u4 o 1 = fun _ => 0 := by rw [up2_k _ _ _ _ (by decide)]; exact a3
  have s4 := SP_PV s3 (PV_arr (j := 3) (kd := 26) (N := 10) (I := I3) (F := F4) (A := A3) (E := E3) (u := u4) (w := fun _ => none) o3 hp4)
  generalize barr b3 o 3 p4 26 10 = b4 at x4 t4 o4 cl4 c4 z4 s4 ⊢
  generalize up2 A3 o 3 u4 = A4 at a4 ⊢
  generalize up2 E3 o 3 (fun _ => none) = E4 at s4 ⊢
  refine c_newJ (j := 4) (N := 10) x4.1 o4 (Pa_no t4 (by decide)) (by decide) (by decide) (by omega) (by omega) (fun p5 u5 hp5 => ?_)
  obtain ⟨x5, t5⟩ := Pa_arr (kd := 22) (N := 10) x4 o4 t4 List.mem_cons_self hp5 (j := 4) (by decide) (by decide) (by decide) (by decide)
  have o5 := (barr_Is (q := o) (j := 4) (kd := 22) (N := 10) hp5 11 o).mpr (Or.inl o4)
  have cl5 := CL_arr (q := o) (j := 4) (kd := 22) (N := 10) cl4 hp5 (by decide)
  have c5 : (barr b4 o 4 p5 22 10).B.c = x.c - 11 := by rw [barr_c, c4]; omega
  have z5 : (barr b4 o 4 p5 22 10).B.z = x.z - 15457 := by rw [barr_z, z4]; omega
  have a5 : up2 A4 o 4 (fun _ => 0) o 1 = fun _ => 0 := by rw [up2_k _ _ _ _ (by decide)]; exact a4
  have a5b : up2 A4 o 4 (fun _ => 0) o 4 = fun _ => 0 := up2_self _ _ _ _
  have s5 := SP_PV s4 (PV_arr (j := 4) (kd := 22) (N := 10) (I := I3) (F := F4) (A := A4) (E := E4) (u := fun _ => 0) (w := u5) o4 hp5)
  generalize barr b4 o 4 p5 22 10 = b5 at x5 t5 o5 cl5 c5 z5 s5 ⊢
  generalize up2 A4 o 4 (fun _ => 0) = A5 at a5 a5b ⊢
  generalize up2 E4 o 4 u5 = E5 at s5 ⊢
  refine c_newJ (j := 5) (N := 3000) x5.1 o5 (Pa_no t5 (by decide)) (by decide) (by decide) (by omega) (by omega) (fun p6 u6 hp6 => ?_)
  obtain ⟨x6, t6⟩ := Pa_arr (kd := 20) (N := 3000) x5 o5 t5 List.mem_cons_self hp6 (j := 5) (by decide) (by decide) (by decide) (by decide)
  have o6 := (barr_Is (q := o) (j := 5) (kd := 20) (N := 3000) hp6 11 o).mpr (Or.inl o5)
  have cl6 := CL_arr (q := o) (j := 5) (kd := 20) (N := 3000) cl5 hp6 (by decide)
  have c6 : (barr b5 o 5 p6 20 3000).B.c = x.c - 12 := by rw [barr_c, c5]; omega
  have z6 : (barr b5 o 5 p6 20 3000).B.z = x.z - 18457 := by rw [barr_z, z5]; omega
  have a6 : up2 A5 o 5 (fun _ => 0) o 1 = fun _ => 0 := by rw [up2_k _ _ _ _ (by decide)]; exact a5
  have a6b : up2 A5 o 5 (fun _ => 0) o 4 = fun _ => 0 := by rw [up2_k _ _ _ _ (by decide)]; exact a5b
  have s6 := SP_PV s5 (PV_arr (j := 5) (kd := 20) (N := 3000) (I := I3) (F := F4) (A := A5) (E := E5) (u := fun _ => 0) (w := u6) o5 hp6)
  have y6 := Pa_end x6 t6 o6 oF11
  generalize barr b5 o 5 p6 20 3000 = b6 at y6 o6 cl6 c6 z6 s6 ⊢
  generalize up2 A5 o 5 (fun _ => 0) = A6 at a6 a6b ⊢
  generalize up2 E5 o 5 u6 = E6 at s6 ⊢
  clear s5 s4 s3 cl5 cl4 cl3 t5 t4 t3 x5 x4 m1 a5 a5b a4 a3 a2
  have cl6' : CL b6 (fun c a => c = 11 ∨ c = 9 ∧ a = s ∨ c = 3) := fun c a z => by
    rcases cl6 c a z with (y | y | y) | y
    · exact Or.inl (Or.inl y)
    · exact Or.inl (Or.inr (Or.inl y))
    · exact Or.inl (Or.inr (Or.inr y.1))
    · exact Or.inr y
  exact kk_init2 y6 o6 cl6' i3 a6 a6b f3 s6 (by rw [c6]; omega) (by rw [z6]; omega) hQ
end C39j
