set_option linter.unusedVariables false
set_option linter.unusedSimpArgs false
/-! THE CLASS'S HEAP: things with their fields; an array belongs to the one field that holds it. I, F: ints and references of a thing's fields; A, E: ints and references of the array in a thing's field -/
def oF (ci j : Nat) : Nat := if (ci, j) ∈ [(1, 0), (2, 0), (2, 1), (3, 2), (5, 1), (7, 0), (8, 4), (8, 5), (10, 4), (11, 1), (11, 5)] then 20 else if (ci, j) = (11, 0) then 21 else if (ci, j) = (3, 1) ∨ (ci, j) = (11, 4) then 22 else if (ci, j) = (9, 0) then 24 else if (ci, j) ∈ [(1, 1), (3, 0), (9, 1)] then 25 else if (ci, j) = (8, 3) ∨ (ci, j) = (11, 3) then 26 else if (ci, j) = (6, 0) then 27 else if (ci, j) = (10, 3) then 28 else if (ci, j) = (4, 1) then 29 else 0
def oL (ci j : Nat) : Nat := if (ci, j) ∈ [(1, 0), (2, 0), (2, 1), (5, 1), (8, 5), (11, 1), (10, 3)] then 4 else if (ci, j) = (1, 1) then 5 else if (ci, j) = (3, 0) ∨ (ci, j) = (3, 1) then 6000 else if (ci, j) = (3, 2) ∨ (ci, j) = (8, 4) then 8 else if (ci, j) = (4, 1) then 64 else if (ci, j) ∈ [(6, 0), (8, 3), (11, 3), (11, 4)] then 10 else if (ci, j) = (7, 0) then 800 else if (ci, j) = (9, 0) then 12 else if (ci, j) = (9, 1) ∨ (ci, j) = (11, 5) then 3000 else if (ci, j) = (10, 4) then 3 else if (ci, j) = (11, 0) then 400 else 0
def CT : Type := HS × (Nat → Nat → Nat) × (Nat → Option (Nat × Nat))
abbrev CT.B (b : CT) : HS := b.1
abbrev CT.ad (b : CT) (a j : Nat) : Nat := b.2.1 a j
abbrev CT.own (b : CT) (q : Nat) : Option (Nat × Nat) := b.2.2 q
/-- a thing of the class ci -/
def Is (b : CT) (ci a : Nat) : Prop := a ∈ b.B.LP ∧ b.B.k a = ci
def CB0 (b : CT) : Prop := ∀ q a j, b.own q = some (a, j) → q ∈ b.B.LP ∧ a ∈ b.B.LP ∧ b.ad a j = q ∧ oF (b.B.k a) j ≠ 0 ∧ b.B.k q = oF (b.B.k a) j ∧ b.B.n q = oL (b.B.k a) j
def CFull (b : CT) (a : Nat) : Prop := ∀ j, oF (b.B.k a) j ≠ 0 → b.own (b.ad a j) = some (a, j)
def CB (b : CT) : Prop := CB0 b ∧ ∀ a, a ∈ b.B.LP → CFull b a
def up3 {α : Type} (f : Nat → Nat → Nat → α) (a j i : Nat) (v : α) : Nat → Nat → Nat → α := fun a' j' i' => if a' = a ∧ j' = j ∧ i' = i then v else f a' j' i'
def cJ (b : CT) (A : Nat → Nat → Nat → Int32) : Nat → Nat → Int32 := fun q i => match b.own q with
  | some p => A p.1 p.2 i
  | none => b.B.J q i
def cG (b : CT) (E : Nat → Nat → Nat → Option Nat) : Nat → Nat → Option Nat := fun q i => match b.own q with
  | some p => E p.1 p.2 i
  | none => b.B.G q i
def cF (b : CT) (F : Nat → Nat → Option Nat) : Nat → Nat → Option Nat := fun a j => if b.own (b.ad a j) = some (a, j) then some (b.ad a j) else F a j
def cS (b : CT) (I : Nat → Nat → Int32) (F : Nat → Nat → Option Nat) (A : Nat → Nat → Nat → Int32) (E : Nat → Nat → Nat → Option Nat) : HS := HS.mk b.B.LP b.B.k b.B.n I (cF b F) (cJ b A) (cG b E) b.B.c b.B.z
section CW
variable {b : CT} {I : Nat → Nat → Int32} {F : Nat → Nat → Option Nat} {A : Nat → Nat → Nat → Int32} {E : Nat → Nat → Nat → Option Nat} {ci a j : Nat}
theorem c_getI (h : Is b ci a) {Z : Int32 → Prop} : wGetI (cS b I F A E) ci j (some a) Z = Z (I a j) := by
  refine propext ⟨?_, fun z => ⟨a, rfl, h.1, h.2, z⟩⟩
  rintro ⟨a', e, -, -, z⟩; cases e; exact z
theorem c_recv (h : Is b ci a) {Z : Prop} : wRecv (cS b I F A E) ci (some a) Z = Z := propext ⟨fun z => z.2, fun z => ⟨⟨a, rfl, h.1, h.2⟩, z⟩⟩
theorem c_putI (h : Is b ci a) {v : Int32} {Z : HS → Prop} : wPutI (cS b I F A E) ci j (some a) v Z = Z (cS b (up2 I a j v) F A E) := by
  refine propext ⟨?_, fun z => ⟨a, rfl, h.1, h.2, z⟩⟩
  rintro ⟨a', e, -, -, z⟩; cases e; exact z
theorem c_putZ (h : Is b ci a) {v : Int32} {Z : HS → Prop} : wPutZ (cS b I F A E) ci j (some a) v Z = ((v = 0 ∨ v = 1) ∧ Z (cS b (up2 I a j v) F A E)) := by
  refine propext ⟨?_, fun z => ⟨a, rfl, h.1, h.2, z.1, z.2⟩⟩
  rintro ⟨a', e, -, -, z1, z⟩; cases e; exact ⟨z1, z⟩
theorem cF_no (hb : CB b) (h : Is b ci a) (hj : oF ci j = 0) : cF b F a j = F a j := by
  refine if_neg (fun z => ?_)
  have := (hb.1 _ _ _ z).2.2.2.1
  rw [h.2] at this; exact this hj
theorem cF_ow (hb : CB b) (h : Is b ci a) (hj : oF ci j ≠ 0) : cF b F a j = some (b.ad a j) := if_pos (hb.2 a h.1 j (by rw [h.2]; exact hj))
theorem c_getF (hb : CB b) (h : Is b ci a) (hj : oF ci j = 0) {Z : Option Nat → Prop} : wGetF (cS b I F A E) ci j (some a) Z = Z (F a j) := by
  have e : (cS b I F A E).F a j = F a j := cF_no hb h hj
  refine propext ⟨?_, fun z => ⟨a, rfl, h.1, h.2, by rw [e]; exact z⟩⟩
  rintro ⟨a', e', -, -, z⟩; cases e'; rw [e] at z; exact z
theorem c_getA (hb : CB b) (h : Is b ci a) (hj : oF ci j ≠ 0) {Z : Option Nat → Prop} : wGetF (cS b I F A E) ci j (some a) Z = Z (some (b.ad a j)) := by
  have e : (cS b I F A E).F a j = some (b.ad a j) := cF_ow hb h hj
  refine propext ⟨?_, fun z => ⟨a, rfl, h.1, h.2, by rw [e]; exact z⟩⟩
  rintro ⟨a', e', -, -, z⟩; cases e'; rw [e] at z; exact z
theorem c_putF (hb : CB b) (h : Is b ci a) (hj : oF ci j = 0) {v : Option Nat} {Z : HS → Prop} : wPutF (cS b I F A E) ci j (some a) v Z = Z (cS b I (up2 F a j v) A E) := by
  have e : (cS b I F A E).wF (up2 (cS b I F A E).F a j v) = cS b I (up2 F a j v) A E := by
    have : up2 (cF b F) a j v = cF b (up2 F a j v) := by
      funext a' j'
      by_cases hq : a' = a ∧ j' = j
      · obtain ⟨rfl, rfl⟩ := hq
        rw [up2_self, cF_no hb h hj, up2_self]
      · show (if a' = a ∧ j' = j then v else cF b F a' j') = if b.own (b.ad a' j') = some (a', j') then some (b.ad a' j') else (if a' = a ∧ j' = j then v else F a' j')
        rw [if_neg hq, if_neg hq]; rfl
    show HS.mk _ _ _ _ (up2 (cF b F) a j v) _ _ _ _ = _
    rw [this]; rfl
  refine propext ⟨?_, fun z => ⟨a, rfl, h.1, h.2, by rw [e]; exact z⟩⟩
  rintro ⟨a', e', -, -, z⟩; cases e'; rw [e] at z; exact z
theorem c_arr (hb : CB b) (h : Is b ci a) (hj : oF ci j ≠ 0) : b.own (b.ad a j) = some (a, j) ∧ b.ad a j ∈ b.B.LP ∧ b.B.k (b.ad a j) = oF ci j ∧ b.B.n (b.ad a j) = oL ci j := by
  have h1 := hb.2 a h.1 j (by rw [h.2]; exact hj)
  obtain ⟨p1, p2, p3, p4, p5, p6⟩ := hb.1 _ _ _ h1
  rw [h.2] at p5 p6
  exact ⟨h1, p1, p5, p6⟩
theorem cJ_at (hb : CB b) (h : Is b ci a) (hj : oF ci j ≠ 0) {i : Nat} : cJ b A (b.ad a j) i = A a j i := by
  unfold cJ; rw [(c_arr hb h hj).1]
theorem cG_at (hb : CB b) (h : Is b ci a) (hj : oF ci j ≠ 0) {i : Nat} : cG b E (b.ad a j) i = E a j i := by
  unfold cG; rw [(c_arr hb h hj).1]
theorem cJ_up (hb : CB b) (h : Is b ci a) (hj : oF ci j ≠ 0) {i : Nat} {v : Int32} : up2 (cJ b A) (b.ad a j) i v = cJ b (up3 A a j i v) := by
  have h1 := (c_arr hb h hj).1
  funext q i'
  unfold up2 cJ
  by_cases hq : q = b.ad a j
  · subst hq
    rw [h1]
    unfold up3
    by_cases hi : i' = i <;> simp [hi]
  · rw [if_neg (fun z => hq z.1)]
    cases ho : b.own q with
    | none => rfl
    | some p =>
      show A p.1 p.2 i' = up3 A a j i v p.1 p.2 i'
      unfold up3
      rw [if_neg]
      rintro ⟨e1, e2, -⟩
      have := (hb.1 q p.1 p.2 ho).2.2.1
      rw [e1, e2] at this
      exact hq this.symm
theorem cG_up (hb : CB b) (h : Is b ci a) (hj : oF ci j ≠ 0) {i : Nat} {v : Option Nat} : up2 (cG b E) (b.ad a j) i v = cG b (up3 E a j i v) := by
  have h1 := (c_arr hb h hj).1
  funext q i'
  unfold up2 cG
  by_cases hq : q = b.ad a j
  · subst hq
    rw [h1]
    unfold up3
    by_cases hi : i' = i <;> simp [hi]
  · rw [if_neg (fun z => hq z.1)]
    cases ho : b.own q with
    | none => rfl
    | some p =>
      show E p.1 p.2 i' = up3 E a j i v p.1 p.2 i'
      unfold up3
      rw [if_neg]
      rintro ⟨e1, e2, -⟩
      have := (hb.1 q p.1 p.2 ho).2.2.1
      rw [e1, e2] at this
      exact hq this.symm
theorem c_ald (hb : CB b) (h : Is b ci a) {kd : Nat} (hk : oF ci j = kd) (h0 : kd ≠ 0) {i : Int32} {Z : Int32 → Prop} : wAldJ (cS b I F A E) kd (some (b.ad a j)) i Z = (wIn i (oL ci j) ∧ Z (A a j (ix i))) := by
  obtain ⟨h1, h2, h3, h4⟩ := c_arr hb h (j := j) (by rw [hk]; exact h0)
  have e : (cS b I F A E).J (b.ad a j) (ix i) = A a j (ix i) := cJ_at hb h (by rw [hk]; exact h0)
  refine propext ⟨?_, fun z => ⟨_, rfl, h2, h3.trans hk, by show wIn i (b.B.n (b.ad a j)); rw [h4]; exact z.1, by rw [e]; exact z.2⟩⟩
  rintro ⟨a', e', -, -, z1, z⟩
  cases e'
  rw [e] at z
  exact ⟨by rw [← h4]; exact z1, z⟩
theorem c_aldG (hb : CB b) (h : Is b ci a) {kd : Nat} (hk : oF ci j = kd) (h0 : kd ≠ 0) {i : Int32} {Z : Option Nat → Prop} : wAldG (cS b I F A E) kd (some (b.ad a j)) i Z = (wIn i (oL ci j) ∧ Z (E a j (ix i))) := by
  obtain ⟨h1, h2, h3, h4⟩ := c_arr hb h (j := j) (by rw [hk]; exact h0)
  have e : (cS b I F A E).G (b.ad a j) (ix i) = E a j (ix i) := cG_at hb h (by rw [hk]; exact h0)
  refine propext ⟨?_, fun z => ⟨_, rfl, h2, h3.trans hk, by show wIn i (b.B.n (b.ad a j)); rw [h4]; exact z.1, by rw [e]; exact z.2⟩⟩
  rintro ⟨a', e', -, -, z1, z⟩
  cases e'
  rw [e] at z
  exact ⟨by rw [← h4]; exact z1, z⟩
theorem cS_putJ (hb : CB b) (h : Is b ci a) (hj : oF ci j ≠ 0) {i : Nat} {v : Int32} : (cS b I F A E).wJ (up2 (cS b I F A E).J (b.ad a j) i v) = cS b I F (up3 A a j i v) E := by
  show HS.mk _ _ _ _ _ (up2 (cJ b A) (b.ad a j) i v) _ _ _ = _
  rw [cJ_up hb h hj]; rfl
theorem c_astI (hb : CB b) (h : Is b ci a) (hk : oF ci j = 20) {i v : Int32} {Z : HS → Prop} : wAstI (cS b I F A E) (some (b.ad a j)) i v Z = (wIn i (oL ci j) ∧ Z (cS b I F (up3 A a j (ix i) v) E)) := by
  obtain ⟨h1, h2, h3, h4⟩ := c_arr hb h (j := j) (by rw [hk]; decide)
  have e := cS_putJ (I := I) (F := F) (A := A) (E := E) hb h (j := j) (i := ix i) (v := v) (by rw [hk]; decide)
  refine propext ⟨?_, fun z => ⟨_, rfl, h2, h3.trans hk, by show wIn i (b.B.n (b.ad a j)); rw [h4]; exact z.1, by rw [e]; exact z.2⟩⟩
  rintro ⟨a', e', -, -, z1, z⟩
  cases e'
  rw [e] at z
  exact ⟨by rw [← h4]; exact z1, z⟩
theorem c_astB (hb : CB b) (h : Is b ci a) (hk : oF ci j = 21) {i v : Int32} {Z : HS → Prop} : wAstB (cS b I F A E) (some (b.ad a j)) i v Z = (wIn i (oL ci j) ∧ Z (cS b I F (up3 A a j (ix i) v.toInt8.toInt32) E)) := by
  obtain ⟨h1, h2, h3, h4⟩ := c_arr hb h (j := j) (by rw [hk]; decide)
  have e := cS_putJ (I := I) (F := F) (A := A) (E := E) hb h (j := j) (i := ix i) (v := v.toInt8.toInt32) (by rw [hk]; decide)
  refine propext ⟨?_, fun z => ⟨_, rfl, h2, h3.trans hk, by show wIn i (b.B.n (b.ad a j)); rw [h4]; exact z.1, by rw [e]; exact z.2⟩⟩
  rintro ⟨a', e', -, -, z1, z⟩
  cases e'
  rw [e] at z
  exact ⟨by rw [← h4]; exact z1, z⟩
theorem c_astZ (hb : CB b) (h : Is b ci a) (hk : oF ci j = 22) {i v : Int32} {Z : HS → Prop} : wAstZ (cS b I F A E) (some (b.ad a j)) i v Z = (wIn i (oL ci j) ∧ (v = 0 ∨ v = 1) ∧ Z (cS b I F (up3 A a j (ix i) v) E)) := by
  obtain ⟨h1, h2, h3, h4⟩ := c_arr hb h (j := j) (by rw [hk]; decide)
  have e := cS_putJ (I := I) (F := F) (A := A) (E := E) hb h (j := j) (i := ix i) (v := v) (by rw [hk]; decide)
  refine propext ⟨?_, fun z => ⟨_, rfl, h2, h3.trans hk, by show wIn i (b.B.n (b.ad a j)); rw [h4]; exact z.1, z.2.1, by rw [e]; exact z.2.2⟩⟩
  rintro ⟨a', e', -, -, z1, z2, z⟩
  cases e'
  rw [e] at z
  exact ⟨by rw [← h4]; exact z1, z2, z⟩
/-- none, or a thing of the class -/
def Rf (b : CT) (ci : Nat) (v : Option Nat) : Prop := ∀ y, v = some y → Is b ci y
theorem c_astG (hb : CB b) (h : Is b ci a) {kd c2 : Nat} (hk : oF ci j = kd) (h0 : kd ≠ 0) {i : Int32} {v : Option Nat} {Z : HS → Prop} : wAstG (cS b I F A E) kd c2 (some (b.ad a j)) i v Z = (wIn i (oL ci j) ∧ Rf b c2 v ∧ Z (cS b I F A (up3 E a j (ix i) v))) := by
  obtain ⟨h1, h2, h3, h4⟩ := c_arr hb h (j := j) (by rw [hk]; exact h0)
  have e : (cS b I F A E).wG (up2 (cS b I F A E).G (b.ad a j) (ix i) v) = cS b I F A (up3 E a j (ix i) v) := by
    show HS.mk _ _ _ _ _ _ (up2 (cG b E) (b.ad a j) (ix i) v) _ _ = _
    rw [cG_up hb h (by rw [hk]; exact h0)]; rfl
  refine propext ⟨?_, fun z => ⟨_, rfl, h2, h3.trans hk, by show wIn i (b.B.n (b.ad a j)); rw [h4]; exact z.1, z.2.1, by rw [e]; exact z.2.2⟩⟩
  rintro ⟨a', e', -, -, z1, z2, z⟩
  cases e'
  rw [e] at z
  exact ⟨by rw [← h4]; exact z1, z2, z⟩
theorem c_throw {S : String} {X : String → HS → Prop} : wThrow (cS b I F A E) S X = (1 ≤ b.B.c ∧ 6 ≤ b.B.z ∧ X S (cS (b.B.wC (b.B.c - 1) (b.B.z - 6), b.2) I F A E)) := rfl
end CW
