set_option linter.unusedVariables false
set_option linter.unusedSimpArgs false
def GZ (b : CT) (I : Nat → Nat → Int32) (A : Nat → Nat → Nat → Int32) : Prop := ∀ q, Is b 2 q → I q 5 = 0 ∧ ∀ i, A q 0 i = 0
def SP (b : CT) (I : Nat → Nat → Int32) (F : Nat → Nat → Option Nat) (E : Nat → Nat → Nat → Option Nat) (s h : Nat) : Prop := Is b 9 s ∧ Is b 3 h ∧ F s 2 = some h ∧ I s 3 = 0 ∧ I s 4 = 0 ∧ I h 3 = 0 ∧ I h 4 = 0 ∧ (∀ i, E s 0 i = none) ∧ ∀ i, E s 1 i = none
def RP (b : CT) (E : Nat → Nat → Nat → Option Nat) (r : Nat) : Prop := Is b 6 r ∧ ∀ i, i < 10 → ∃ q, E r 0 i = some q ∧ Is b 2 q
def VP (b : CT) (F : Nat → Nat → Option Nat) (E : Nat → Nat → Nat → Option Nat) (v : Nat) : Prop := Is b 8 v ∧ (∃ l, F v 0 = some l ∧ Is b 7 l) ∧ (∃ l, F v 2 = some l ∧ Is b 7 l) ∧ ∀ i, i < 10 → ∃ q, E v 3 i = some q ∧ Is b 5 q
/-- all but the keeper itself is as it was -/
def PV (b b' : CT) (I I' : Nat → Nat → Int32) (F F' : Nat → Nat → Option Nat) (A A' : Nat → Nat → Nat → Int32) (E E' : Nat → Nat → Nat → Option Nat) : Prop := (∀ c a, Is b c a → Is b' c a) ∧ ∀ c a, Is b c a → c ≠ 11 → I' a = I a ∧ F' a = F a ∧ A' a = A a ∧ E' a = E a
section C36
variable {b b' b'' : CT} {I I' I'' : Nat → Nat → Int32} {F F' F'' : Nat → Nat → Option Nat} {A A' A'' : Nat → Nat → Nat → Int32} {E E' E'' : Nat → Nat → Nat → Option Nat} {NT NT' : Nat → Nat → Prop} {X : List Nat} {q a j ci s h r v : Nat}
theorem PV_Ex (h : Ex b b' I I' F F' A A' E E' NT) : PV b b' I I' F F' A A' E E' := ⟨h.1, fun c a ha _ => h.2.2.2.2 a ha.1⟩
theorem SP_PV (h0 : SP b I F E s h) (hp : PV b b' I I' F F' A A' E E') : SP b' I' F' E' s h := by
  obtain ⟨h1, h2, h3, h4, h5, h6, h7, h8, h9⟩ := h0
  obtain ⟨a1, a2, a3, a4⟩ := hp.2 9 s h1 (by decide)
  obtain ⟨b1, b2, b3, b4⟩ := hp.2 3 h h2 (by decide)
  unfold SP
  rw [a1, a2, a4, b1]
  exact ⟨hp.1 _ _ h1, hp.1 _ _ h2, h3, h4, h5, h6, h7, h8, h9⟩
theorem RP_PV (h0 : RP b E r) (hp : PV b b' I I' F F' A A' E E') : RP b' E' r := by
  obtain ⟨a1, a2, a3, a4⟩ := hp.2 6 r h0.1 (by decide)
  unfold RP
  rw [a4]
  exact ⟨hp.1 _ _ h0.1, fun i hi => by obtain ⟨q, z1, z2⟩ := h0.2 i hi; exact ⟨q, z1, hp.1 _ _ z2⟩⟩
theorem VP_PV (h0 : VP b F E v) (hp : PV b b' I I' F F' A A' E E') : VP b' F' E' v := by
  obtain ⟨h1, ⟨l1, h2, h3⟩, ⟨l2, h4, h5⟩, h6⟩ := h0
  obtain ⟨a1, a2, a3, a4⟩ := hp.2 8 v h1 (by decide)
  unfold VP
  rw [a2, a4]
  exact ⟨hp.1 _ _ h1, ⟨l1, h2, hp.1 _ _ h3⟩, ⟨l2, h4, hp.1 _ _ h5⟩, fun i hi => by obtain ⟨q, z1, z2⟩ := h6 i hi; exact ⟨q, z1, hp.1 _ _ z2⟩⟩
theorem GZ_Ex (h0 : GZ b I A) (hp : Ex b b' I I' F F' A A' E E' NT) (hn : ∀ c a, NT c a → c ≠ 2) : GZ b' I' A' := fun q hq => by
  rcases hp.2.1 2 q hq with z | ⟨-, z | z⟩
  · obtain ⟨a1, a2, a3, a4⟩ := hp.2.2.2.2 q z.1
    rw [a1, a3]; exact h0 q z
  · exact absurd rfl (hn 2 q z)
  · omega
theorem c_arr0 (hb : CB0 b) (hf : CFull b a) (h : Is b ci a) (hj : oF ci j ≠ 0) : b.own (b.ad a j) = some (a, j) ∧ b.ad a j ∈ b.B.LP ∧ b.B.k (b.ad a j) = oF ci j ∧ b.B.n (b.ad a j) = oL ci j := by
  have h1 := hf j (by rw [h.2]; exact hj)
  obtain ⟨p1, p2, p3, p4, p5, p6⟩ := hb _ _ _ h1
  rw [h.2] at p5 p6
  exact ⟨h1, p1, p5, p6⟩
theorem c_getA0 (hf : CFull b a) (h : Is b ci a) (hj : oF ci j ≠ 0) {Z : Option Nat → Prop} : wGetF (cS b I F A E) ci j (some a) Z = Z (some (b.ad a j)) := by
  have e : (cS b I F A E).F a j = some (b.ad a j) := if_pos (hf j (by rw [h.2]; exact hj))
  refine propext ⟨?_, fun z => ⟨a, rfl, h.1, h.2, by rw [e]; exact z⟩⟩
  rintro ⟨a', e', -, -, z⟩; cases e'; rw [e] at z; exact z
theorem c_astG0 (hb : CB0 b) (hf : CFull b a) (h : Is b ci a) {kd c2 : Nat} (hk : oF ci j = kd) (h0 : kd ≠ 0) {i : Int32} {v : Option Nat} {Z : HS → Prop} (hi : wIn i (oL ci j)) (hv : Rf b c2 v) (hZ : Z (cS b I F A (up3 E a j (ix i) v))) : wAstG (cS b I F A E) kd c2 (some (b.ad a j)) i v Z := by
  obtain ⟨h1, h2, h3, h4⟩ := c_arr0 hb hf h (j := j) (by rw [hk]; exact h0)
  have eg : up2 (cG b E) (b.ad a j) (ix i) v = cG b (up3 E a j (ix i) v) := by
    funext q i'
    unfold up2 cG
    by_cases hq : q = b.ad a j
    · subst hq
      rw [h1]
      unfold up3
      by_cases hi : i' = ix i <;> simp [hi]
    · rw [if_neg (fun z => hq z.1)]
      cases ho : b.own q with
      | none => rfl
      | some p =>
        show E p.1 p.2 i' = up3 E a j (ix i) v p.1 p.2 i'
        unfold up3
        rw [if_neg]
        rintro ⟨e1, e2, -⟩
        have := (hb q p.1 p.2 ho).2.2.1
        rw [e1, e2] at this
        exact hq this.symm
  have e : (cS b I F A E).wG (up2 (cS b I F A E).G (b.ad a j) (ix i) v) = cS b I F A (up3 E a j (ix i) v) := by
    show HS.mk _ _ _ _ _ _ (up2 (cG b E) (b.ad a j) (ix i) v) _ _ = _
    rw [eg]; rfl
  exact ⟨_, rfl, h2, h3.trans hk, by show wIn i (b.B.n (b.ad a j)); rw [h4]; exact hi, hv, by rw [e]; exact hZ⟩
theorem m_store (hb : CBX b X) (hc : 7 ≤ b.B.c) (hz : 15033 ≤ b.B.z) {Z : Option Nat → HS → Prop} {XF : String → HS → Prop} (hZ : ∀ q h b' I' F' A' E', CBX b' X → q ∉ b.B.LP → h ∉ b.B.LP → Ex b b' I I' F F' A A' E E' (fun c a => c = 9 ∧ a = q ∨ c = 3 ∧ a = h) → SP b' I' F' E' q h → b'.B.c = b.B.c - 7 → b'.B.z = b.B.z - 15033 → Z (some q) (cS b' I' F' A' E')) : wNew (cS b I F A E) 9 8 fun q x1 => w_X9_init q x1 (fun x2 => Z q x2) XF := by
  refine c_new hb.1 (by omega) (by omega) (fun q hq => ?_)
  have x1 := CBX_new (ci := 9) (N := 8) hb hq
  have t1 := Pa_new (ci := 9) (N := 8) hb.1 hq
  have e1 := Ex_new (ci := 9) (N := 8) (I := I) (F := F) (A := A) (E := E) hb.1 hq
  have q1 : Is (bnew b q 9 8) 9 q := (bnew_Is hq 9 q).mpr (Or.inr ⟨rfl, rfl⟩)
  simp only [w_X9_init, wRef, Option.some.injEq, exists_eq', true_and]
  refine c_newG (j := 0) (N := 12) x1.1 q1 (Pa_no t1 (by decide)) (by decide) (by decide) (by simp only [barr_c, barr_z, bnew_c, bnew_z]; omega) (by simp only [barr_c, barr_z, bnew_c, bnew_z]; omega) (fun p e hp => ?_)
  obtain ⟨x2, t2⟩ := Pa_arr (kd := 24) (N := 12) x1 q1 t1 List.mem_cons_self hp (j := 0) (by decide) (by decide) (by decide) (by decide)
  have q2 := (barr_Is (q := q) (j := 0) (kd := 24) (N := 12) hp 9 q).mpr (Or.inl q1)
  have e2 := Ex_arr (u := e) (w := fun _ => none) (j := 0) (N := 12) (kd := 24) e1 x1.1 hq hp (by decide)
  refine c_newG (j := 1) (N := 3000) x2.1 q2 (Pa_no t2 (by decide)) (by decide) (by decide) (by simp only [barr_c, barr_z, bnew_c, bnew_z]; omega) (by simp only [barr_c, barr_z, bnew_c, bnew_z]; omega) (fun p2 f hp2 => ?_)
  obtain ⟨x3, t3⟩ := Pa_arr (kd := 25) (N := 3000) x2 q2 t2 List.mem_cons_self hp2 (j := 1) (by decide) (by decide) (by decide) (by decide)
  have q3 := (barr_Is (q := q) (j := 1) (kd := 25) (N := 3000) hp2 9 q).mpr (Or.inl q2)
  have e3 := Ex_arr (u := f) (w := fun _ => none) (j := 1) (N := 3000) (kd := 25) e2 x2.1 hq hp2 (by decide)
  have c3 : (barr (barr (bnew b q 9 8) q 0 p 24 12) q 1 p2 25 3000).B.c = b.B.c - 3 := by simp only [barr_c, barr_z, bnew_c, bnew_z]; omega
  have z3 : (barr (barr (bnew b q 9 8) q 0 p 24 12) q 1 p2 25 3000).B.z = b.B.z - 3020 := by simp only [barr_c, barr_z, bnew_c, bnew_z]; omega
  generalize barr (barr (bnew b q 9 8) q 0 p 24 12) q 1 p2 25 3000 = b3 at x3 t3 q3 e3 c3 z3 ⊢
  refine m_hist x3 (by omega) (by omega) (fun hh b4 I4 F4 A4 E4 y1 y2 y3 y4 y5 y6 y7 y8 => ?_)
  have q4 := y4.1 _ _ q3
  rw [c_putF0 y1.1 q4 (by decide)]
  have t4 := y4.2.2.2.1 q _ q3.1 t3
  have x4 := Pa_end y1 t4 q4 oF9
  have hhq : hh ≠ q := fun z => y3 (by rw [z]; exact q3.1)
  have hhb : hh ∉ b.B.LP := fun z => y3 (Ex_LP e3 z)
  obtain ⟨v1, v2, v3, v4⟩ := y4.2.2.2.2 q q3.1
  have e4 := Ex_pF (j := 2) (v := some hh) (Ex_tr e3 y4) hq
  have c4 : b4.B.c = b.B.c - 7 := by rw [y5, c3]; omega
  have z4 : b4.B.z = b.B.z - 15033 := by rw [y6, z3]; omega
  refine hZ q hh b4 I4 _ A4 E4 x4 hq hhb e4 ⟨q4, y2, up2_self _ _ _ _, ?_, ?_, y7, y8, ?_, ?_⟩ c4 z4
  · rw [v1, va_up_self]
  · rw [v1, va_up_self]
  · intro i; rw [v4, up2_k _ _ _ _ (by decide), up2_self]
  · intro i; rw [v4, up2_self]
theorem m_reader (hb : CBX b X) (hXL : ∀ a, a ∈ X → a ∈ b.B.LP) (hg : GZ b I A) (hc : 32 ≤ b.B.c) (hz : 158 ≤ b.B.z) {Z : Option Nat → HS → Prop} {XF : String → HS → Prop} (hZ : ∀ q b' I' F' A' E', CBX b' X → q ∉ b.B.LP → Ex b b' I I' F F' A A' E E' (fun c a => c = 6 ∧ a = q ∨ c = 2) → RP b' E' q → GZ b' I' A' → b.B.c ≤ b'.B.c + 32 → b.B.z ≤ b'.B.z + 158 → Z (some q) (cS b' I' F' A' E')) : wNew (cS b I F A E) 6 8 fun q x1 => w_X6_init q x1 (fun x2 => Z q x2) XF := by
  refine c_new hb.1 (by omega) (by omega) (fun q hq => ?_)
  have x1 := CBX_new (ci := 6) (N := 8) hb hq
  have t1 := Pa_new (ci := 6) (N := 8) hb.1 hq
  have e1 := Ex_new (ci := 6) (N := 8) (I := I) (F := F) (A := A) (E := E) hb.1 hq
  have q1 : Is (bnew b q 6 8) 6 q := (bnew_Is hq 6 q).mpr (Or.inr ⟨rfl, rfl⟩)
  simp only [w_X6_init, wRef, Option.some.injEq, exists_eq', true_and]
  refine c_newG (j := 0) (N := 10) x1.1 q1 (Pa_no t1 (by decide)) (by decide) (by decide) (by simp only [barr_c, barr_z, bnew_c, bnew_z]; omega) (by simp only [barr_c, barr_z, bnew_c, bnew_z]; omega) (fun p e hp => ?_)
  obtain ⟨x2, t2⟩ := Pa_arr (kd := 27) (N := 10) x1 q1 t1 List.mem_cons_self hp (j := 0) (by decide) (by decide) (by decide) (by decide)
  have q2 := (barr_Is (q := q) (j := 0) (kd := 27) (N := 10) hp 6 q).mpr (Or.inl q1)
  have e2 := Ex_arr (u := e) (w := fun _ => none) (j := 0) (N := 10) (kd := 27) e1 x1.1 hq hp (by decide)
  rw [c_putI q2]
  have x3 := Pa_end x2 t2 q2 oF6
  have e3' := Ex_pI (j := 3) (v := -1) e2 hq
  have g3 := GZ_Ex hg e3' (fun c a z => by omega)
  have e3 := Ex_mono (NT' := fun c a => c = 6 ∧ a = q ∨ c = 2) e3' (fun c a z => Or.inl z)
  have c3 : (barr (bnew b q 6 8) q 0 p 27 10).B.c = b.B.c - 2 := by simp only [barr_c, barr_z, bnew_c, bnew_z]; omega
  have z3 : (barr (bnew b q 6 8) q 0 p 27 10).B.z = b.B.z - 18 := by simp only [barr_c, barr_z, bnew_c, bnew_z]; omega
  generalize barr (bnew b q 6 8) q 0 p 27 10 = b3 at x3 q2 e3 g3 c3 z3 ⊢
  clear e3' x2 t2 e2
  have hqX : q ∉ X := fun z => hq (hXL q z)
  refine wLoop_i (fun n v y => ∃ b1 I1 F1 A1 E1, y = cS b1 I1 F1 A1 E1 ∧ CBX b1 X ∧ Ex b b1 I I1 F F1 A A1 E E1 (fun c a => c = 6 ∧ a = q ∨ c = 2) ∧ GZ b1 I1 A1 ∧ Is b1 6 q ∧ (∀ i, i < ix v → ∃ g, E1 q 0 i = some g ∧ Is b1 2 g) ∧ b.B.c ≤ b1.B.c + 2 + 3 * ix v ∧ b.B.z ≤ b1.B.z + 18 + 14 * ix v ∧ 0 ≤ v.toInt ∧ v.toInt ≤ 10 ∧ n = (10 - v.toInt).toNat) 10 ⟨b3, _, _, _, _, rfl, x3, e3, g3, q2, fun i hi => absurd hi (by show ¬ i < 0; omega), by rw [c3]; show b.B.c ≤ b.B.c - 2 + 2 + 3 * 0; omega, by rw [z3]; show b.B.z ≤ b.B.z - 18 + 18 + 14 * 0; omega, by decide, by decide, by decide⟩ ?_
  rintro n w y again ha ⟨b1, I1, F1, A1, E1, rfl, p1, p2, p3, p4, p5, p6, p7, p8, p9, p10⟩
  have hwi : ((ix w : Nat) : Int) = w.toInt := ix_int p8
  refine ⟨fun hw => ?_, fun hw => ?_⟩
  · have : w.toInt = 10 := by simp only [i32, Int32.reduceToInt] at hw; omega
    have e10 : ix w = 10 := ix_of this
    rw [e10] at p5 p6 p7
    exact hZ q b1 I1 F1 A1 E1 p1 hq p2 ⟨p4, p5⟩ p3 (by omega) (by omega)
  · have hw4 : w.toInt < 10 := by simp only [i32, Int32.reduceToInt] at hw; omega
    have ev : (w + 1).toInt = w.toInt + 1 := i_add rfl (by decide) (by omega)
    have eix : ix (w + 1) = ix w + 1 := ix_of (by omega)
    rw [c_getA0 (p1.2 q p4.1 hqX) p4 (by decide)]
    refine m_goal p1 (by omega) (by omega) (fun gg b2 I2 F2 A2 E2 y1 y2 y3 y4 y5 y6 y7 y8 => ?_)
    have q2' := y4.1 _ _ p4
    have ead : b1.ad q 0 = b2.ad q 0 := (y4.2.2.1 q 0 p4.1).symm
    rw [ead]
    refine c_astG0 y1.1 (y1.2 q q2'.1 hqX) q2' (show oF 6 0 = 27 by decide) (by decide) ⟨p8, by show w.toInt < 10; omega⟩ (fun z hz => by cases hz; exact y2) ?_
    obtain ⟨v1, v2, v3, v4⟩ := y4.2.2.2.2 q p4.1
    refine ha _ _ _ (by omega) ⟨b2, I2, F2, A2, _, rfl, y1, Ex_pE (Ex_mono (Ex_tr p2 y4) (fun c a z => ?_)) hq, fun q' hq' => ?_, q2', fun i hi => ?_, by rw [eix]; omega, by rw [eix]; omega, by omega, by omega, rfl⟩
    · rcases z with z | z
      · exact z
      · exact Or.inr z.1
    · rcases y4.2.1 2 q' hq' with z | ⟨-, z | z⟩
      · obtain ⟨a1, a2, a3, a4⟩ := y4.2.2.2.2 q' z.1
        rw [a1, a3]; exact p3 q' z
      · rw [z.2]; exact ⟨y7, y8⟩
      · omega
    · rw [eix] at hi
      rw [up3_at]
      by_cases hiw : i = ix w
      · rw [hiw, va_up_self]; exact ⟨gg, rfl, y2⟩
      · rw [va_up_ne _ _ hiw, v4]
        obtain ⟨g', z1, z2⟩ := p5 i (by omega)
        exact ⟨g', z1, y4.1 _ _ z2⟩
end C36
