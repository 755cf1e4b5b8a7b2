set_option linter.unusedVariables false
set_option linter.unusedSimpArgs false
/-! the class: calls that leave alone what is said of it: rules -/
/-- no cursor's look -/
def NLk (lk : Nat → Nat) (q : Nat) : Prop := ∀ c, c < 10 → q ≠ lk c
def PQ (b : CT) (lk : Nat → Nat) (I0 : Nat → Nat → Int32) (F0 : Nat → Nat → Option Nat) (A0 : Nat → Nat → Nat → Int32) (E0 : Nat → Nat → Nat → Option Nat) (x : HS) : Prop := ∃ c z I F A, x = cS (b.B.wC c z, b.2) I F A E0 ∧ sI b cxI I0 I ∧ sF b cxF F0 F ∧ sA b cxA A0 A ∧ sK lk I0 I F0 F A0 A
/-- what the frames rest on -/
def HQk (b : CT) (lk : Nat → Nat) (E0 : Nat → Nat → Nat → Option Nat) : Prop := CB b ∧ (∀ c, c < 10 → Is b 5 (lk c)) ∧ ∀ v i q, Is b 8 v → E0 v 3 i = some q → NLk lk q
section VY1
variable {b : CT} {lk : Nat → Nat} {I0 : Nat → Nat → Int32} {F0 : Nat → Nat → Option Nat} {A0 : Nat → Nat → Nat → Int32} {E0 : Nat → Nat → Nat → Option Nat} {x : HS} {ci a j : Nat} {r w : Option Nat} {i v : Int32} {Z Z' : HS → Prop}
theorem qp_getA (H : HQk b lk E0) (hj : oF ci j ≠ 0) (hx : PQ b lk I0 F0 A0 E0 x) {Z Z' : Option Nat → Prop} (h : ∀ a, r = some a → Is b ci a → Z (some (b.ad a j)) → Z' (some (b.ad a j))) : wGetF x ci j r Z → wGetF x ci j r Z' := by
  obtain ⟨c, z, I, F, A, rfl, -⟩ := hx
  rintro ⟨a, e, h1, h2, h3⟩
  have hI : Is b ci a := ⟨h1, h2⟩
  have e1 : (cS (b.B.wC c z, b.2) I F A E0).F a j = some (b.ad a j) := cF_ow H.1 hI hj
  rw [e1] at h3
  exact ⟨a, e, h1, h2, by rw [e1]; exact h a e hI h3⟩
theorem sK_ne (H : HQk b lk E0) (ha : Is b ci a) (h5 : ci ≠ 5 ∨ NLk lk a) {c : Nat} (hc : c < 10) : lk c ≠ a := by
  rcases h5 with h5 | h5
  · exact Is_ne (H.2.1 c hc) ha (fun z => h5 z.symm)
  · exact fun z => h5 c hc z.symm
theorem qp_putI (H : HQk b lk E0) (hj : (ci, j) ∉ cxI) (h5 : ∀ a, r = some a → ci ≠ 5 ∨ NLk lk a) (hx : PQ b lk I0 F0 A0 E0 x) (h : ∀ x', PQ b lk I0 F0 A0 E0 x' → Z x' → Z' x') : wPutI x ci j r v Z → wPutI x ci j r v Z' := by
  obtain ⟨c, z, I, F, A, rfl, h1, h2, h3, h4⟩ := hx
  rintro ⟨a, e, m1, m2, m3⟩
  have hI : Is b ci a := ⟨m1, m2⟩
  exact ⟨a, e, m1, m2, h _ ⟨c, z, up2 I a j v, F, A, rfl, sI_up h1 hI hj, h2, h3, fun k hk => ⟨(funext fun j' => if_neg (fun y => sK_ne H hI (h5 a e) hk y.1)).trans (h4 k hk).1, (h4 k hk).2⟩⟩ m3⟩
theorem qp_putZ (H : HQk b lk E0) (hj : (ci, j) ∉ cxI) (h5 : ∀ a, r = some a → ci ≠ 5 ∨ NLk lk a) (hx : PQ b lk I0 F0 A0 E0 x) (h : ∀ x', PQ b lk I0 F0 A0 E0 x' → Z x' → Z' x') : wPutZ x ci j r v Z → wPutZ x ci j r v Z' := by
  obtain ⟨c, z, I, F, A, rfl, h1, h2, h3, h4⟩ := hx
  rintro ⟨a, e, m1, m2, m0, m3⟩
  have hI : Is b ci a := ⟨m1, m2⟩
  exact ⟨a, e, m1, m2, m0, h _ ⟨c, z, up2 I a j v, F, A, rfl, sI_up h1 hI hj, h2, h3, fun k hk => ⟨(funext fun j' => if_neg (fun y => sK_ne H hI (h5 a e) hk y.1)).trans (h4 k hk).1, (h4 k hk).2⟩⟩ m3⟩
theorem qp_putF (H : HQk b lk E0) (ho : oF ci j = 0) (hj : (ci, j) ∉ cxF) (h5 : ∀ a, r = some a → ci ≠ 5 ∨ NLk lk a) (hx : PQ b lk I0 F0 A0 E0 x) (h : ∀ x', PQ b lk I0 F0 A0 E0 x' → Z x' → Z' x') : wPutF x ci j r w Z → wPutF x ci j r w Z' := by
  obtain ⟨c, z, I, F, A, rfl, h1, h2, h3, h4⟩ := hx
  intro m
  obtain ⟨a, e, m1, m2, -⟩ := id m
  have hI : Is b ci a := ⟨m1, m2⟩
  subst e
  have hb' : CB (b.B.wC c z, b.2) := H.1
  have hI' : Is (b.B.wC c z, b.2) ci a := hI
  rw [c_putF hb' hI' ho] at m ⊢
  exact h _ ⟨c, z, I, up2 F a j w, A, rfl, h1, sF_up h2 hI hj, h3, fun k hk => ⟨(h4 k hk).1, (funext fun j' => if_neg (fun y => sK_ne H hI (h5 a rfl) hk y.1)).trans (h4 k hk).2.1, (h4 k hk).2.2⟩⟩ m
theorem PQ_A (H : HQk b lk E0) (ha : Is b ci a) (hj : (ci, j) ∉ cxA) (h5 : ci ≠ 5 ∨ NLk lk a) {c z : Nat} {I : Nat → Nat → Int32} {F : Nat → Nat → Option Nat} {A A' : Nat → Nat → Nat → Int32} (h1 : sI b cxI I0 I) (h2 : sF b cxF F0 F) (h3 : sA b cxA A0 A) (h4 : sK lk I0 I F0 F A0 A) (hA : ∀ x k, ¬ (x = a ∧ k = j) → A' x k = A x k) : PQ b lk I0 F0 A0 E0 (cS (b.B.wC c z, b.2) I F A' E0) :=
  ⟨c, z, I, F, A', rfl, h1, h2, fun ci' x k hx hk => (hA x k (fun y => hj (by
    have e : ci' = ci := by rw [← hx.2, y.1]; exact ha.2
    rw [← e, ← y.2]; exact hk))).trans (h3 ci' x k hx hk), fun k hk => ⟨(h4 k hk).1, (h4 k hk).2.1, (funext fun j' => hA _ _ (fun y => sK_ne H ha h5 hk y.1)).trans (h4 k hk).2.2⟩⟩
theorem qp_astI (H : HQk b lk E0) (ha : Is b ci a) (ho : oF ci j = 20) (hj : (ci, j) ∉ cxA) (h5 : ci ≠ 5 ∨ NLk lk a) (hx : PQ b lk I0 F0 A0 E0 x) (h : ∀ x', PQ b lk I0 F0 A0 E0 x' → Z x' → Z' x') : wAstI x (some (b.ad a j)) i v Z → wAstI x (some (b.ad a j)) i v Z' := by
  obtain ⟨c, z, I, F, A, rfl, h1, h2, h3, h4⟩ := hx
  have hb' : CB (b.B.wC c z, b.2) := H.1
  have hI' : Is (b.B.wC c z, b.2) ci a := ha
  exact qc_astI (b := (b.B.wC c z, b.2)) hb' hI' ho (fun _ => h _ (PQ_A H ha hj h5 h1 h2 h3 h4 (fun x k hx => up3_ne hx)))
theorem qp_astB (H : HQk b lk E0) (ha : Is b ci a) (ho : oF ci j = 21) (hj : (ci, j) ∉ cxA) (h5 : ci ≠ 5 ∨ NLk lk a) (hx : PQ b lk I0 F0 A0 E0 x) (h : ∀ x', PQ b lk I0 F0 A0 E0 x' → Z x' → Z' x') : wAstB x (some (b.ad a j)) i v Z → wAstB x (some (b.ad a j)) i v Z' := by
  obtain ⟨c, z, I, F, A, rfl, h1, h2, h3, h4⟩ := hx
  have hb' : CB (b.B.wC c z, b.2) := H.1
  have hI' : Is (b.B.wC c z, b.2) ci a := ha
  intro m
  have e := c_astB (I := I) (F := F) (A := A) (E := E0) (i := i) (v := v) hb' hI' ho (Z := Z)
  have e' := c_astB (I := I) (F := F) (A := A) (E := E0) (i := i) (v := v) hb' hI' ho (Z := Z')
  have m' := e.mp m
  exact e'.mpr ⟨m'.1, h _ (PQ_A H ha hj h5 h1 h2 h3 h4 (fun x k hx => up3_ne hx)) m'.2⟩
theorem qp_copy (H : HQk b lk E0) (ha : Is b ci a) (ho : oF ci j ≠ 0) (hj : (ci, j) ∉ cxA) (h5 : ci ≠ 5 ∨ NLk lk a) (hx : PQ b lk I0 F0 A0 E0 x) {i0 n : Int32} (h : ∀ x', PQ b lk I0 F0 A0 E0 x' → Z x' → Z' x') : wCopy x r i0 (some (b.ad a j)) i n Z → wCopy x r i0 (some (b.ad a j)) i n Z' := by
  obtain ⟨c, z, I, F, A, rfl, h1, h2, h3, h4⟩ := hx
  have hb' : CB (b.B.wC c z, b.2) := H.1
  have hI' : Is (b.B.wC c z, b.2) ci a := ha
  rintro ⟨a1, b1, e1, e2, m3, m4, m5, m6, m7, m8, m9, m10, m11, m12, m13⟩
  refine ⟨a1, b1, e1, e2, m3, m4, m5, m6, m7, m8, m9, m10, m11, m12, h _ ?_ m13⟩
  have eb : b.ad a j = b1 := Option.some.inj e2
  subst eb
  have hown := (c_arr H.1 ha ho).1
  have key : (cS (b.B.wC c z, b.2) I F A E0).wJ (fun q k => if q = b.ad a j ∧ i.toInt.toNat ≤ k ∧ k < i.toInt.toNat + n.toInt.toNat then (cS (b.B.wC c z, b.2) I F A E0).J a1 (i0.toInt.toNat + (k - i.toInt.toNat)) else (cS (b.B.wC c z, b.2) I F A E0).J q k) = cS (b.B.wC c z, b.2) I F (fun a' j' k => if (a' = a ∧ j' = j) ∧ i.toInt.toNat ≤ k ∧ k < i.toInt.toNat + n.toInt.toNat then (cS (b.B.wC c z, b.2) I F A E0).J a1 (i0.toInt.toNat + (k - i.toInt.toNat)) else A a' j' k) E0 := by
    show HS.mk _ _ _ _ _ _ _ _ _ = HS.mk _ _ _ _ _ _ _ _ _
    congr 1
    funext q k
    show (if q = b.ad a j ∧ _ then _ else cJ (b.B.wC c z, b.2) A q k) = cJ (b.B.wC c z, b.2) _ q k
    by_cases hq : q = b.ad a j
    · subst hq
      have o1 : CT.own (b.B.wC c z, b.2) (b.ad a j) = some (a, j) := hown
      unfold cJ
      rw [o1]
      simp
    · rw [if_neg (fun y => hq y.1)]
      unfold cJ
      cases hoq : CT.own (b.B.wC c z, b.2) q with
      | none => rfl
      | some p =>
        show A p.1 p.2 k = if (p.1 = a ∧ p.2 = j) ∧ _ then _ else A p.1 p.2 k
        rw [if_neg]
        rintro ⟨⟨y1, y2⟩, -⟩
        have := (H.1.1 q p.1 p.2 hoq).2.2.1
        rw [y1, y2] at this
        exact hq this.symm
  rw [key]
  exact PQ_A H ha hj h5 h1 h2 h3 h4 (fun x k hx => funext fun k' => if_neg (fun y => hx y.1))
theorem qp_aldLook (H : HQk b lk E0) (ha : Is b 8 a) (hx : PQ b lk I0 F0 A0 E0 x) {Z Z' : Option Nat → Prop} (h : ∀ w, (∀ q, w = some q → NLk lk q) → Z w → Z' w) : wAldG x 26 (some (b.ad a 3)) i Z → wAldG x 26 (some (b.ad a 3)) i Z' := by
  obtain ⟨c, z, I, F, A, rfl, h1, h2, h3, h4⟩ := hx
  have hb' : CB (b.B.wC c z, b.2) := H.1
  have hI' : Is (b.B.wC c z, b.2) 8 a := ha
  exact qc_aldG (b := (b.B.wC c z, b.2)) hb' hI' (by decide) (by decide) (fun _ => h _ (fun q hq => H.2.2 a _ q ha hq))
theorem qp_throw (hx : PQ b lk I0 F0 A0 E0 x) {S : String} {X X' : String → HS → Prop} (h : ∀ e u, PQ b lk I0 F0 A0 E0 u → X e u → X' e u) : wThrow x S X → wThrow x S X' := fun z => ⟨z.1, z.2.1, h _ _ (by
  obtain ⟨c, zz, I, F, A, rfl, h1, h2, h3, h4⟩ := hx
  exact ⟨c - 1, zz - 6, I, F, A, rfl, h1, h2, h3, h4⟩) z.2.2⟩
end VY1
