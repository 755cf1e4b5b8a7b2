/-! the reference's rows of facts, both ways linked, with ranks -/
theorem up2_rs {α : Type} (f : Nat → Nat → α) (a k : Nat) (v : α) : up2 f a k v a = va_up (f a) k v := by
  funext j; simp [up2, va_up]
theorem up2_rn {α : Type} (f : Nat → Nat → α) {a b : Nat} (k : Nat) (v : α) (h : b ≠ a) : up2 f a k v b = f b := by
  funext j; simp [up2, h]
/-- f is one of the facts that are used -/
def mU (U : Nat → Int32) (f : Nat) : Prop := f < 3000 ∧ U f ≠ 0
/-- what stands behind f: nothing, and f is its table's last; or g -/
def mBH (ρ : Nat → Nat) (U TB BF BH LA : Nat → Int32) (f : Nat) : Prop := ((BH f).toInt = -1 ∧ (LA (ix (TB f))).toInt = f) ∨ ∃ g : Nat, mU U g ∧ (BH f).toInt = g ∧ ρ g < ρ f ∧ (BF g).toInt = f ∧ TB g = TB f
def mBF (U TB BF BH FI : Nat → Int32) (f : Nat) : Prop := ((BF f).toInt = -1 ∧ (FI (ix (TB f))).toInt = f) ∨ ∃ g : Nat, mU U g ∧ (BF f).toInt = g ∧ (BH g).toInt = f
def mFI (U TB BF FI : Nat → Int32) (t : Nat) : Prop := (FI t).toInt = -1 ∨ ∃ f : Nat, mU U f ∧ (FI t).toInt = f ∧ (TB f).toInt = t ∧ (BF f).toInt = -1
def GL (ρ : Nat → Nat) (tables kept : Int) (U TB BF BH FI LA : Nat → Int32) : Prop :=
  (∀ f, mU U f → 0 ≤ (TB f).toInt ∧ (TB f).toInt < tables ∧ (ρ f : Int) < kept ∧ mBH ρ U TB BF BH LA f ∧ mBF U TB BF BH FI f) ∧
  (∀ f g, mU U f → mU U g → ρ f = ρ g → f = g) ∧
  (∀ t : Nat, (t : Int) < tables → mFI U TB BF FI t ∧ mFI U TB BH LA t ∧ ((FI t).toInt = -1 ↔ (LA t).toInt = -1))
theorem ix_of {i : Int32} {n : Nat} (h : i.toInt = n) : ix i = n := by unfold ix; omega
theorem i_ext {a b : Int32} (h : a.toInt = b.toInt) : a = b := Int32.toInt_inj.mp h
theorem mU_up {U : Nat → Int32} {f0 : Nat} {u : Int32} (hf : f0 < 3000) (hu : u ≠ 0) {f : Nat} : mU (va_up U f0 u) f ↔ f = f0 ∨ mU U f := by
  unfold mU va_up
  by_cases h : f = f0
  · subst h; simp [hu, hf]
  · simp [h]
theorem GL_inj {ρ : Nat → Nat} {kept : Int} {U : Nat → Int32} {f0 : Nat} {u : Int32} (hf : f0 < 3000) (hu : u ≠ 0) (hU : U f0 = 0) (hk : 0 ≤ kept) (h1 : ∀ f, mU U f → (ρ f : Int) < kept) (h2 : ∀ f g, mU U f → mU U g → ρ f = ρ g → f = g) : ∀ f g, mU (va_up U f0 u) f → mU (va_up U f0 u) g → va_up ρ f0 kept.toNat f = va_up ρ f0 kept.toNat g → f = g := by
  intro f g hfu hgu e
  rcases (mU_up hf hu).mp hfu with a | a
  · rcases (mU_up hf hu).mp hgu with b | b
    · rw [a, b]
    · have n : g ≠ f0 := fun q => b.2 (q ▸ hU)
      rw [a, va_up_self, va_up_ne _ _ n] at e
      have := h1 g b; omega
  · have n : f ≠ f0 := fun q => a.2 (q ▸ hU)
    rcases (mU_up hf hu).mp hgu with b | b
    · rw [b, va_up_self, va_up_ne _ _ n] at e
      have := h1 f a; omega
    · have n2 : g ≠ f0 := fun q => b.2 (q ▸ hU)
      rw [va_up_ne _ _ n, va_up_ne _ _ n2] at e
      exact h2 f g a b e
/-- a new one ahead of all -/
theorem GL_front {ρ : Nat → Nat} {tables kept : Int} {U TB BF BH FI LA : Nat → Int32} {f0 : Nat} {u t : Int32} (h : GL ρ tables kept U TB BF BH FI LA) (hf : f0 < 3000) (hU : U f0 = 0) (hu : u ≠ 0) (ht0 : 0 ≤ t.toInt) (ht : t.toInt < tables) (hk : 0 ≤ kept) {w none : Int32} (hw : w.toInt = f0) (hno : none.toInt = -1) :
    GL (va_up ρ f0 kept.toNat) tables (kept + 1) (va_up U f0 u) (va_up TB f0 t) (if (FI (ix t)).toInt < 0 then va_up BF f0 none else va_up (va_up BF f0 none) (ix (FI (ix t))) w) (va_up BH f0 (FI (ix t))) (va_up FI (ix t) w) (if (FI (ix t)).toInt < 0 then va_up LA (ix t) w else LA) := by
  obtain ⟨h1, h2, h3⟩ := h
  have hT : ((ix t : Nat) : Int) = t.toInt := ix_int ht0
  obtain ⟨hFI, hLA, hiff⟩ := h3 (ix t) (by omega)
  have hne : ∀ g, mU U g → g ≠ f0 := fun g hg e => hg.2 (e ▸ hU)
  have hUf0 : mU (va_up U f0 u) f0 := (mU_up hf hu).mpr (Or.inl rfl)
  have hUo : ∀ g, mU U g → mU (va_up U f0 u) g := fun g hg => (mU_up hf hu).mpr (Or.inr hg)
  have hTB : ∀ g, mU U g → ((ix (TB g) : Nat) : Int) = (TB g).toInt := fun g hg => ix_int (h1 g hg).1
  rcases hFI with hE | ⟨fe, hfe, hE, hTe, hBe⟩
  · have hL := hiff.mp hE
    rw [if_pos (by omega), if_pos (by omega)]
    refine ⟨fun f hfu => ?_, fun f g hfu hgu => ?_, fun t' ht' => ?_⟩
    · rcases (mU_up hf hu).mp hfu with rfl | hfo
      · refine ⟨by rw [va_up_self]; exact ht0, by rw [va_up_self]; exact ht, by rw [va_up_self]; omega, Or.inl ⟨by rw [va_up_self]; exact hE, by rw [va_up_self, va_up_self]; exact hw⟩, Or.inl ⟨by rw [va_up_self]; exact hno, by rw [va_up_self, va_up_self]; exact hw⟩⟩
      · have n0 := hne f hfo
        obtain ⟨a1, a2, a3, a4, a5⟩ := h1 f hfo
        refine ⟨by rw [va_up_ne _ _ n0]; exact a1, by rw [va_up_ne _ _ n0]; exact a2, by rw [va_up_ne _ _ n0]; omega, ?_, ?_⟩
        · rcases a4 with ⟨b1, b2⟩ | ⟨g, b1, b2, b3, b4, b5⟩
          · have hq : ix (TB f) ≠ ix t := fun q => by rw [q] at b2; omega
            exact Or.inl ⟨by rw [va_up_ne _ _ n0]; exact b1, by rw [va_up_ne _ _ n0, va_up_ne _ _ hq]; exact b2⟩
          · have g0 := hne g b1
            exact Or.inr ⟨g, hUo g b1, by rw [va_up_ne _ _ n0]; exact b2, by rw [va_up_ne _ _ n0, va_up_ne _ _ g0]; exact b3, by rw [va_up_ne _ _ g0]; exact b4, by rw [va_up_ne _ _ n0, va_up_ne _ _ g0]; exact b5⟩
        · rcases a5 with ⟨b1, b2⟩ | ⟨g, b1, b2, b3⟩
          · have hq : ix (TB f) ≠ ix t := fun q => by rw [q] at b2; omega
            exact Or.inl ⟨by rw [va_up_ne _ _ n0]; exact b1, by rw [va_up_ne _ _ n0, va_up_ne _ _ hq]; exact b2⟩
          · have g0 := hne g b1
            exact Or.inr ⟨g, hUo g b1, by rw [va_up_ne _ _ n0]; exact b2, by rw [va_up_ne _ _ g0]; exact b3⟩
    · exact GL_inj hf hu hU hk (fun f hf => (h1 f hf).2.2.1) h2 f g hfu hgu
    · obtain ⟨c1, c2, c3⟩ := h3 t' ht'
      by_cases hq : t' = ix t
      · subst hq
        refine ⟨Or.inr ⟨f0, hUf0, by rw [va_up_self]; exact hw, by rw [va_up_self]; omega, by rw [va_up_self]; exact hno⟩, Or.inr ⟨f0, hUf0, by rw [va_up_self]; exact hw, by rw [va_up_self]; omega, by rw [va_up_self]; exact hE⟩, ?_⟩
        rw [va_up_self, va_up_self]
      · refine ⟨?_, ?_, by rw [va_up_ne _ _ hq, va_up_ne _ _ hq]; exact c3⟩
        · rcases c1 with c1 | ⟨f, d1, d2, d3, d4⟩
          · exact Or.inl (by rw [va_up_ne _ _ hq]; exact c1)
          · have n0 := hne f d1
            exact Or.inr ⟨f, hUo f d1, by rw [va_up_ne _ _ hq]; exact d2, by rw [va_up_ne _ _ n0]; exact d3, by rw [va_up_ne _ _ n0]; exact d4⟩
        · rcases c2 with c1 | ⟨f, d1, d2, d3, d4⟩
          · exact Or.inl (by rw [va_up_ne _ _ hq]; exact c1)
          · have n0 := hne f d1
            exact Or.inr ⟨f, hUo f d1, by rw [va_up_ne _ _ hq]; exact d2, by rw [va_up_ne _ _ n0]; exact d3, by rw [va_up_ne _ _ n0]; exact d4⟩
  · have hne1 := hne fe hfe
    have hie : ix (FI (ix t)) = fe := ix_of hE
    rw [if_neg (by omega), if_neg (by omega), hie]
    refine ⟨fun f hfu => ?_, fun f g hfu hgu => ?_, fun t' ht' => ?_⟩
    · rcases (mU_up hf hu).mp hfu with rfl | hfo
      · have hte : TB fe = t := i_ext (by omega)
        have ha := (h1 fe hfe).2.2.1
        refine ⟨by rw [va_up_self]; exact ht0, by rw [va_up_self]; exact ht, by rw [va_up_self]; omega, Or.inr ⟨fe, hUo fe hfe, by rw [va_up_self]; exact hE, by rw [va_up_self, va_up_ne _ _ hne1]; omega, by rw [va_up_self]; exact hw, by rw [va_up_self, va_up_ne _ _ hne1]; exact hte⟩, Or.inl ⟨by rw [va_up_ne _ _ (Ne.symm hne1), va_up_self]; exact hno, by rw [va_up_self, va_up_self]; exact hw⟩⟩
      · have n0 := hne f hfo
        obtain ⟨a1, a2, a3, a4, a5⟩ := h1 f hfo
        refine ⟨by rw [va_up_ne _ _ n0]; exact a1, by rw [va_up_ne _ _ n0]; exact a2, by rw [va_up_ne _ _ n0]; omega, ?_, ?_⟩
        · rcases a4 with ⟨b1, b2⟩ | ⟨g, b1, b2, b3, b4, b5⟩
          · exact Or.inl ⟨by rw [va_up_ne _ _ n0]; exact b1, by rw [va_up_ne _ _ n0]; exact b2⟩
          · have g0 := hne g b1
            have g1 : g ≠ fe := fun q => by rw [q, hBe] at b4; omega
            exact Or.inr ⟨g, hUo g b1, by rw [va_up_ne _ _ n0]; exact b2, by rw [va_up_ne _ _ n0, va_up_ne _ _ g0]; exact b3, by rw [va_up_ne _ _ g1, va_up_ne _ _ g0]; exact b4, by rw [va_up_ne _ _ n0, va_up_ne _ _ g0]; exact b5⟩
        · rcases a5 with ⟨b1, b2⟩ | ⟨g, b1, b2, b3⟩
          · by_cases hq : ix (TB f) = ix t
            · have hff : f = fe := by rw [hq] at b2; omega
              exact Or.inr ⟨f0, hUf0, by rw [hff, va_up_self]; exact hw, by rw [va_up_self, hff]; exact hE⟩
            · have hff : f ≠ fe := fun q => hq (by rw [q]; unfold ix; omega)
              exact Or.inl ⟨by rw [va_up_ne _ _ hff, va_up_ne _ _ n0]; exact b1, by rw [va_up_ne _ _ n0, va_up_ne _ _ hq]; exact b2⟩
          · have g0 := hne g b1
            have hff : f ≠ fe := fun q => by rw [q, hBe] at b2; omega
            exact Or.inr ⟨g, hUo g b1, by rw [va_up_ne _ _ hff, va_up_ne _ _ n0]; exact b2, by rw [va_up_ne _ _ g0]; exact b3⟩
    · exact GL_inj hf hu hU hk (fun f hf => (h1 f hf).2.2.1) h2 f g hfu hgu
    · obtain ⟨c1, c2, c3⟩ := h3 t' ht'
      have hl2 : mFI (va_up U f0 u) (va_up TB f0 t) (va_up BH f0 (FI (ix t))) LA t' := by
        rcases c2 with c2 | ⟨f, d1, d2, d3, d4⟩
        · exact Or.inl c2
        · have n0 := hne f d1
          exact Or.inr ⟨f, hUo f d1, d2, by rw [va_up_ne _ _ n0]; exact d3, by rw [va_up_ne _ _ n0]; exact d4⟩
      by_cases hq : t' = ix t
      · subst hq
        refine ⟨Or.inr ⟨f0, hUf0, by rw [va_up_self]; exact hw, by rw [va_up_self]; omega, by rw [va_up_ne _ _ (Ne.symm hne1), va_up_self]; exact hno⟩, hl2, ?_⟩
        rw [va_up_self]
        constructor <;> intro q <;> omega
      · refine ⟨?_, hl2, by rw [va_up_ne _ _ hq]; exact c3⟩
        rcases c1 with c1 | ⟨f, d1, d2, d3, d4⟩
        · exact Or.inl (by rw [va_up_ne _ _ hq]; exact c1)
        · have n0 := hne f d1
          have hff : f ≠ fe := fun q => hq (by rw [q] at d3; omega)
          exact Or.inr ⟨f, hUo f d1, by rw [va_up_ne _ _ hq]; exact d2, by rw [va_up_ne _ _ n0]; exact d3, by rw [va_up_ne _ _ hff, va_up_ne _ _ n0]; exact d4⟩
/-- a new one behind a -/
theorem GL_after {ρ : Nat → Nat} {tables kept : Int} {U TB BF BH FI LA : Nat → Int32} {f0 a : Nat} {u : Int32} (h : GL ρ tables kept U TB BF BH FI LA) (hf : f0 < 3000) (hU : U f0 = 0) (hu : u ≠ 0) (ha : mU U a) {w wa : Int32} (hw : w.toInt = f0) (hwa : wa.toInt = a) :
    GL (fun g => if g = f0 then ρ a else if ρ a ≤ ρ g then ρ g + 1 else ρ g) tables (kept + 1) (va_up U f0 u) (va_up TB f0 (TB a)) (if (BH a).toInt < 0 then va_up BF f0 wa else va_up (va_up BF f0 wa) (ix (BH a)) w) (va_up (va_up BH f0 (BH a)) a w) FI (if (BH a).toInt < 0 then va_up LA (ix (TB a)) w else LA) := by
  obtain ⟨h1, h2, h3⟩ := h
  have hne : ∀ g, mU U g → g ≠ f0 := fun g hg e => hg.2 (e ▸ hU)
  have hUf0 : mU (va_up U f0 u) f0 := (mU_up hf hu).mpr (Or.inl rfl)
  have hUo : ∀ g, mU U g → mU (va_up U f0 u) g := fun g hg => (mU_up hf hu).mpr (Or.inr hg)
  have ha0 := hne a ha
  obtain ⟨ta, tb, tc, td, te⟩ := h1 a ha
  have hinj : ∀ f g, mU (va_up U f0 u) f → mU (va_up U f0 u) g → (if f = f0 then ρ a else if ρ a ≤ ρ f then ρ f + 1 else ρ f) = (if g = f0 then ρ a else if ρ a ≤ ρ g then ρ g + 1 else ρ g) → f = g := by
    intro f g hfu hgu e
    rcases (mU_up hf hu).mp hfu with x1 | x1
    · rcases (mU_up hf hu).mp hgu with x2 | x2
      · rw [x1, x2]
      · rw [if_pos x1, if_neg (hne g x2)] at e
        split at e <;> omega
    · rw [if_neg (hne f x1)] at e
      rcases (mU_up hf hu).mp hgu with x2 | x2
      · rw [if_pos x2] at e
        split at e <;> omega
      · rw [if_neg (hne g x2)] at e
        refine h2 f g x1 x2 ?_
        split at e <;> split at e <;> omega
  have hmon : ∀ f g, mU U f → mU U g → ρ g < ρ f → (if g = f0 then ρ a else if ρ a ≤ ρ g then ρ g + 1 else ρ g) < (if f = f0 then ρ a else if ρ a ≤ ρ f then ρ f + 1 else ρ f) := by
    intro f g x1 x2 e
    rw [if_neg (hne f x1), if_neg (hne g x2)]
    split <;> split <;> omega
  have hbd : ∀ f, mU U f → (((if f = f0 then ρ a else if ρ a ≤ ρ f then ρ f + 1 else ρ f : Nat)) : Int) < kept + 1 := by
    intro f x1
    have := (h1 f x1).2.2.1
    rw [if_neg (hne f x1)]
    split <;> omega
  rcases td with ⟨hE, hLa⟩ | ⟨fb, hfb, hE, hrb, hBb, hTb⟩
  · rw [if_pos (by omega), if_pos (by omega)]
    refine ⟨fun f hfu => ?_, hinj, fun t' ht' => ?_⟩
    · rcases (mU_up hf hu).mp hfu with x1 | hfo
      · subst x1
        refine ⟨by rw [va_up_self]; exact ta, by rw [va_up_self]; exact tb, by dsimp only; rw [if_pos rfl]; omega, Or.inl ⟨by rw [va_up_ne _ _ (Ne.symm ha0), va_up_self]; exact hE, by rw [va_up_self, va_up_self]; exact hw⟩, Or.inr ⟨a, hUo a ha, by rw [va_up_self]; exact hwa, by rw [va_up_self]; exact hw⟩⟩
      · have n0 := hne f hfo
        by_cases hfa : f = a
        · subst hfa
          refine ⟨by rw [va_up_ne _ _ n0]; exact ta, by rw [va_up_ne _ _ n0]; exact tb, hbd f hfo, Or.inr ⟨f0, hUf0, by rw [va_up_self]; exact hw, by dsimp only; rw [if_pos rfl, if_neg n0, if_pos (Nat.le_refl _)]; omega, by rw [va_up_self]; exact hwa, by rw [va_up_self, va_up_ne _ _ n0]⟩, ?_⟩
          rcases te with ⟨b1, b2⟩ | ⟨g, b1, b2, b3⟩
          · exact Or.inl ⟨by rw [va_up_ne _ _ n0]; exact b1, by rw [va_up_ne _ _ n0]; exact b2⟩
          · have gf : g ≠ f := fun q => by rw [q, hE] at b3; omega
            exact Or.inr ⟨g, hUo g b1, by rw [va_up_ne _ _ n0]; exact b2, by rw [va_up_ne _ _ gf, va_up_ne _ _ (hne g b1)]; exact b3⟩
        · obtain ⟨a1, a2, a3, a4, a5⟩ := h1 f hfo
          refine ⟨by rw [va_up_ne _ _ n0]; exact a1, by rw [va_up_ne _ _ n0]; exact a2, hbd f hfo, ?_, ?_⟩
          · rcases a4 with ⟨b1, b2⟩ | ⟨g, b1, b2, b3, b4, b5⟩
            · have hq : ix (TB f) ≠ ix (TB a) := fun q => hfa (by rw [q] at b2; omega)
              exact Or.inl ⟨by rw [va_up_ne _ _ hfa, va_up_ne _ _ n0]; exact b1, by rw [va_up_ne _ _ n0, va_up_ne _ _ hq]; exact b2⟩
            · have g0 := hne g b1
              exact Or.inr ⟨g, hUo g b1, by rw [va_up_ne _ _ hfa, va_up_ne _ _ n0]; exact b2, hmon f g hfo b1 b3, by rw [va_up_ne _ _ g0]; exact b4, by rw [va_up_ne _ _ n0, va_up_ne _ _ g0]; exact b5⟩
          · rcases a5 with ⟨b1, b2⟩ | ⟨g, b1, b2, b3⟩
            · exact Or.inl ⟨by rw [va_up_ne _ _ n0]; exact b1, by rw [va_up_ne _ _ n0]; exact b2⟩
            · have g0 := hne g b1
              have ga : g ≠ a := fun q => by rw [q, hE] at b3; omega
              exact Or.inr ⟨g, hUo g b1, by rw [va_up_ne _ _ n0]; exact b2, by rw [va_up_ne _ _ ga, va_up_ne _ _ g0]; exact b3⟩
    · obtain ⟨c1, c2, c3⟩ := h3 t' ht'
      have hTa : ((ix (TB a) : Nat) : Int) = (TB a).toInt := ix_int ta
      refine ⟨?_, ?_, ?_⟩
      · rcases c1 with c1 | ⟨f, d1, d2, d3, d4⟩
        · exact Or.inl c1
        · have n0 := hne f d1
          exact Or.inr ⟨f, hUo f d1, d2, by rw [va_up_ne _ _ n0]; exact d3, by rw [va_up_ne _ _ n0]; exact d4⟩
      · by_cases hq : t' = ix (TB a)
        · subst hq
          exact Or.inr ⟨f0, hUf0, by rw [va_up_self]; exact hw, by rw [va_up_self]; omega, by rw [va_up_ne _ _ (Ne.symm ha0), va_up_self]; exact hE⟩
        · rcases c2 with c2 | ⟨f, d1, d2, d3, d4⟩
          · exact Or.inl (by rw [va_up_ne _ _ hq]; exact c2)
          · have n0 := hne f d1
            have fa : f ≠ a := fun q => hq (by rw [q] at d3; omega)
            exact Or.inr ⟨f, hUo f d1, by rw [va_up_ne _ _ hq]; exact d2, by rw [va_up_ne _ _ n0]; exact d3, by rw [va_up_ne _ _ fa, va_up_ne _ _ n0]; exact d4⟩
      · by_cases hq : t' = ix (TB a)
        · subst hq
          rw [va_up_self]
          constructor
          · intro q; have := c3.mp q; omega
          · intro q; omega
        · rw [va_up_ne _ _ hq]; exact c3
  · have hie : ix (BH a) = fb := ix_of hE
    have nb := hne fb hfb
    have ab : a ≠ fb := fun q => by rw [← q] at hrb; omega
    rw [if_neg (by omega), if_neg (by omega), hie]
    refine ⟨fun f hfu => ?_, hinj, fun t' ht' => ?_⟩
    · rcases (mU_up hf hu).mp hfu with x1 | hfo
      · subst x1
        refine ⟨by rw [va_up_self]; exact ta, by rw [va_up_self]; exact tb, by dsimp only; rw [if_pos rfl]; omega, Or.inr ⟨fb, hUo fb hfb, by rw [va_up_ne _ _ (Ne.symm ha0), va_up_self]; exact hE, by dsimp only; rw [if_pos rfl, if_neg nb, if_neg (by omega)]; exact hrb, by rw [va_up_self]; exact hw, by rw [va_up_self, va_up_ne _ _ nb]; exact hTb⟩, Or.inr ⟨a, hUo a ha, by rw [va_up_ne _ _ (Ne.symm nb), va_up_self]; exact hwa, by rw [va_up_self]; exact hw⟩⟩
      · have n0 := hne f hfo
        by_cases hfa : f = a
        · subst hfa
          refine ⟨by rw [va_up_ne _ _ n0]; exact ta, by rw [va_up_ne _ _ n0]; exact tb, hbd f hfo, Or.inr ⟨f0, hUf0, by rw [va_up_self]; exact hw, by dsimp only; rw [if_pos rfl, if_neg n0, if_pos (Nat.le_refl _)]; omega, by rw [va_up_ne _ _ (Ne.symm nb), va_up_self]; exact hwa, by rw [va_up_self, va_up_ne _ _ n0]⟩, ?_⟩
          rcases te with ⟨b1, b2⟩ | ⟨g, b1, b2, b3⟩
          · exact Or.inl ⟨by rw [va_up_ne _ _ ab, va_up_ne _ _ n0]; exact b1, by rw [va_up_ne _ _ n0]; exact b2⟩
          · have gf : g ≠ f := fun q => by rw [q] at b3; omega
            exact Or.inr ⟨g, hUo g b1, by rw [va_up_ne _ _ ab, va_up_ne _ _ n0]; exact b2, by rw [va_up_ne _ _ gf, va_up_ne _ _ (hne g b1)]; exact b3⟩
        · obtain ⟨a1, a2, a3, a4, a5⟩ := h1 f hfo
          refine ⟨by rw [va_up_ne _ _ n0]; exact a1, by rw [va_up_ne _ _ n0]; exact a2, hbd f hfo, ?_, ?_⟩
          · rcases a4 with ⟨b1, b2⟩ | ⟨g, b1, b2, b3, b4, b5⟩
            · exact Or.inl ⟨by rw [va_up_ne _ _ hfa, va_up_ne _ _ n0]; exact b1, by rw [va_up_ne _ _ n0]; exact b2⟩
            · have g0 := hne g b1
              have gb : g ≠ fb := fun q => hfa (by rw [q] at b4; omega)
              exact Or.inr ⟨g, hUo g b1, by rw [va_up_ne _ _ hfa, va_up_ne _ _ n0]; exact b2, hmon f g hfo b1 b3, by rw [va_up_ne _ _ gb, va_up_ne _ _ g0]; exact b4, by rw [va_up_ne _ _ n0, va_up_ne _ _ g0]; exact b5⟩
          · rcases a5 with ⟨b1, b2⟩ | ⟨g, b1, b2, b3⟩
            · have fb1 : f ≠ fb := fun q => by rw [q] at b1; omega
              exact Or.inl ⟨by rw [va_up_ne _ _ fb1, va_up_ne _ _ n0]; exact b1, by rw [va_up_ne _ _ n0]; exact b2⟩
            · have g0 := hne g b1
              by_cases hfb1 : f = fb
              · subst hfb1
                exact Or.inr ⟨f0, hUf0, by rw [va_up_self]; exact hw, by rw [va_up_ne _ _ (Ne.symm ha0), va_up_self]; exact hE⟩
              · have ga : g ≠ a := fun q => hfb1 (by rw [q] at b3; omega)
                exact Or.inr ⟨g, hUo g b1, by rw [va_up_ne _ _ hfb1, va_up_ne _ _ n0]; exact b2, by rw [va_up_ne _ _ ga, va_up_ne _ _ g0]; exact b3⟩
    · obtain ⟨c1, c2, c3⟩ := h3 t' ht'
      refine ⟨?_, ?_, c3⟩
      · rcases c1 with c1 | ⟨f, d1, d2, d3, d4⟩
        · exact Or.inl c1
        · have n0 := hne f d1
          have fb1 : f ≠ fb := fun q => by rw [q] at d4; omega
          exact Or.inr ⟨f, hUo f d1, d2, by rw [va_up_ne _ _ n0]; exact d3, by rw [va_up_ne _ _ fb1, va_up_ne _ _ n0]; exact d4⟩
      · rcases c2 with c2 | ⟨f, d1, d2, d3, d4⟩
        · exact Or.inl c2
        · have n0 := hne f d1
          have fa : f ≠ a := fun q => by rw [q] at d4; omega
          exact Or.inr ⟨f, hUo f d1, d2, by rw [va_up_ne _ _ n0]; exact d3, by rw [va_up_ne _ _ fa, va_up_ne _ _ n0]; exact d4⟩
/-- one is taken out -/
theorem GL_del {ρ : Nat → Nat} {tables kept : Int} {U TB BF BH FI LA : Nat → Int32} {d : Nat} (h : GL ρ tables kept U TB BF BH FI LA) (hd : mU U d) :
    GL (fun g => if ρ d < ρ g then ρ g - 1 else ρ g) tables (kept - 1) (va_up U d 0) TB (if (BH d).toInt < 0 then BF else va_up BF (ix (BH d)) (BF d)) (if (BF d).toInt < 0 then BH else va_up BH (ix (BF d)) (BH d)) (if (BF d).toInt < 0 then va_up FI (ix (TB d)) (BH d) else FI) (if (BH d).toInt < 0 then va_up LA (ix (TB d)) (BF d) else LA) := by
  obtain ⟨h1, h2, h3⟩ := h
  obtain ⟨ta, tb, tc, td, te⟩ := h1 d hd
  have hTd : ((ix (TB d) : Nat) : Int) = (TB d).toInt := ix_int ta
  have hun : ∀ {f : Nat}, mU (va_up U d 0) f ↔ f ≠ d ∧ mU U f := by
    intro f
    unfold mU va_up
    by_cases q : f = d
    · subst q; simp
    · simp [q]
  have hinj : ∀ f g, mU (va_up U d 0) f → mU (va_up U d 0) g → (if ρ d < ρ f then ρ f - 1 else ρ f) = (if ρ d < ρ g then ρ g - 1 else ρ g) → f = g := by
    intro f g hfu hgu e
    obtain ⟨x1, x2⟩ := hun.mp hfu
    obtain ⟨y1, y2⟩ := hun.mp hgu
    have e1 : ρ f ≠ ρ d := fun q => x1 (h2 f d x2 hd q)
    have e2 : ρ g ≠ ρ d := fun q => y1 (h2 g d y2 hd q)
    refine h2 f g x2 y2 ?_
    split at e <;> split at e <;> omega
  have hmon : ∀ f g, f ≠ d → g ≠ d → mU U f → mU U g → ρ g < ρ f → (if ρ d < ρ g then ρ g - 1 else ρ g) < (if ρ d < ρ f then ρ f - 1 else ρ f) := by
    intro f g x1 y1 x2 y2 e
    have e1 : ρ f ≠ ρ d := fun q => x1 (h2 f d x2 hd q)
    have e2 : ρ g ≠ ρ d := fun q => y1 (h2 g d y2 hd q)
    split <;> split <;> omega
  have hbd : ∀ f, f ≠ d → mU U f → (((if ρ d < ρ f then ρ f - 1 else ρ f : Nat)) : Int) < kept - 1 := by
    intro f x1 x2
    have e1 : ρ f ≠ ρ d := fun q => x1 (h2 f d x2 hd q)
    have := (h1 f x2).2.2.1
    split <;> omega
  refine ⟨fun f hfu => ?_, hinj, fun t' ht' => ?_⟩
  · obtain ⟨fd, hfo⟩ := hun.mp hfu
    obtain ⟨a1, a2, a3, a4, a5⟩ := h1 f hfo
    refine ⟨a1, a2, hbd f fd hfo, ?_, ?_⟩
    · -- what stands behind f
      rcases a4 with ⟨b1, b2⟩ | ⟨g, b1, b2, b3, b4, b5⟩
      · -- f was the last
        have e1 : (if (BF d).toInt < 0 then BH else va_up BH (ix (BF d)) (BH d)) f = BH f := by
          split
          · rfl
          · rcases te with ⟨q1, q2⟩ | ⟨g, q1, q2, q3⟩
            · omega
            · rw [ix_of q2, va_up_ne]
              intro z; rw [← z] at q3; omega
        have e2 : ((if (BH d).toInt < 0 then va_up LA (ix (TB d)) (BF d) else LA) (ix (TB f))).toInt = f := by
          split
          · rw [va_up_ne]; · exact b2
            intro z
            rcases td with ⟨q1, q2⟩ | ⟨g, q1, q2, q3⟩
            · rw [z] at b2; omega
            · omega
          · exact b2
        exact Or.inl ⟨by rw [e1]; exact b1, e2⟩
      · by_cases gd : g = d
        · -- d stood behind f
          subst gd
          have e0 : ix (BF g) = f := ix_of b4
          rw [if_neg (show ¬ (BF g).toInt < 0 by omega), e0]
          rcases td with ⟨q1, q2⟩ | ⟨g2, q1, q2, q3, q4, q5⟩
          · rw [if_pos (by omega), if_pos (by omega)]
            refine Or.inl ⟨by rw [va_up_self]; exact q1, ?_⟩
            rw [show TB f = TB g from b5.symm, va_up_self]; exact b4
          · have g2d : g2 ≠ g := fun z => by rw [z] at q3; omega
            rw [if_neg (show ¬ (BH g).toInt < 0 by omega), if_neg (show ¬ (BH g).toInt < 0 by omega), ix_of q2]
            exact Or.inr ⟨g2, hun.mpr ⟨g2d, q1⟩, by rw [va_up_self]; exact q2, hmon f g2 fd g2d hfo q1 (by omega), by rw [va_up_self]; exact b4, by rw [q5]; exact b5⟩
        · have e1 : (if (BF d).toInt < 0 then BH else va_up BH (ix (BF d)) (BH d)) f = BH f := by
            split
            · rfl
            · rcases te with ⟨q1, q2⟩ | ⟨g2, q1, q2, q3⟩
              · omega
              · rw [ix_of q2, va_up_ne]
                intro z; rw [← z] at q3; exact gd (by omega)
          have e2 : (if (BH d).toInt < 0 then BF else va_up BF (ix (BH d)) (BF d)) g = BF g := by
            split
            · rfl
            · rcases td with ⟨q1, q2⟩ | ⟨g2, q1, q2, q3, q4, q5⟩
              · omega
              · rw [ix_of q2, va_up_ne]
                intro z; rw [← z] at q4; exact fd (by omega)
          exact Or.inr ⟨g, hun.mpr ⟨gd, b1⟩, by rw [e1]; exact b2, hmon f g fd gd hfo b1 b3, by rw [e2]; exact b4, b5⟩
    · rcases a5 with ⟨b1, b2⟩ | ⟨g, b1, b2, b3⟩
      · have e1 : (if (BH d).toInt < 0 then BF else va_up BF (ix (BH d)) (BF d)) f = BF f := by
          split
          · rfl
          · rcases td with ⟨q1, q2⟩ | ⟨g2, q1, q2, q3, q4, q5⟩
            · omega
            · rw [ix_of q2, va_up_ne]
              intro z; rw [← z] at q4; omega
        have e2 : ((if (BF d).toInt < 0 then va_up FI (ix (TB d)) (BH d) else FI) (ix (TB f))).toInt = f := by
          split
          · rw [va_up_ne]; · exact b2
            intro z
            rcases te with ⟨q1, q2⟩ | ⟨g, q1, q2, q3⟩
            · rw [z] at b2; omega
            · omega
          · exact b2
        exact Or.inl ⟨by rw [e1]; exact b1, e2⟩
      · by_cases gd : g = d
        · subst gd
          have e0 : ix (BH g) = f := ix_of b3
          rw [if_neg (show ¬ (BH g).toInt < 0 by omega), e0]
          rcases te with ⟨q1, q2⟩ | ⟨g2, q1, q2, q3⟩
          · rw [if_pos (by omega), if_pos (by omega)]
            have htf : TB f = TB g := by
              rcases td with ⟨p1, p2⟩ | ⟨g3, p1, p2, p3, p4, p5⟩
              · omega
              · have : g3 = f := by omega
                rw [← this]; exact p5
            refine Or.inl ⟨by rw [va_up_self]; exact q1, ?_⟩
            rw [htf, va_up_self]; exact b3
          · have g2d : g2 ≠ g := by
              intro z
              rw [z] at q3
              rcases td with ⟨p1, p2⟩ | ⟨g3, p1, p2, p3, p4, p5⟩
              · omega
              · have : g3 = g := by omega
                rw [this] at p3; omega
            rw [if_neg (show ¬ (BF g).toInt < 0 by omega), ix_of q2]
            exact Or.inr ⟨g2, hun.mpr ⟨g2d, q1⟩, by rw [va_up_self]; exact q2, by rw [va_up_self]; exact b3⟩
        · have e1 : (if (BH d).toInt < 0 then BF else va_up BF (ix (BH d)) (BF d)) f = BF f := by
            split
            · rfl
            · rcases td with ⟨q1, q2⟩ | ⟨g2, q1, q2, q3, q4, q5⟩
              · omega
              · rw [ix_of q2, va_up_ne]
                intro z; rw [← z] at q4; exact gd (by omega)
          have e2 : (if (BF d).toInt < 0 then BH else va_up BH (ix (BF d)) (BH d)) g = BH g := by
            split
            · rfl
            · rcases te with ⟨q1, q2⟩ | ⟨g2, q1, q2, q3⟩
              · omega
              · rw [ix_of q2, va_up_ne]
                intro z; rw [← z] at q3; exact fd (by omega)
          exact Or.inr ⟨g, hun.mpr ⟨gd, b1⟩, by rw [e1]; exact b2, by rw [e2]; exact b3⟩
  · obtain ⟨c1, c2, c3⟩ := h3 t' ht'
    have kF : ∀ f, f ≠ d → (BF f).toInt = -1 → ((if (BH d).toInt < 0 then BF else va_up BF (ix (BH d)) (BF d)) f).toInt = -1 := by
      intro f fd b1
      split
      · exact b1
      · rcases td with ⟨q1, q2⟩ | ⟨g2, q1, q2, q3, q4, q5⟩
        · omega
        · rw [ix_of q2, va_up_ne]; · exact b1
          intro z; rw [← z] at q4; omega
    have kL : ∀ f, f ≠ d → (BH f).toInt = -1 → ((if (BF d).toInt < 0 then BH else va_up BH (ix (BF d)) (BH d)) f).toInt = -1 := by
      intro f fd b1
      split
      · exact b1
      · rcases te with ⟨q1, q2⟩ | ⟨g2, q1, q2, q3⟩
        · omega
        · rw [ix_of q2, va_up_ne]; · exact b1
          intro z; rw [← z] at q3; omega
    refine ⟨?_, ?_, ?_⟩
    · by_cases hq : (BF d).toInt < 0 ∧ t' = ix (TB d)
      · obtain ⟨hq1, rfl⟩ := hq
        rw [if_pos hq1]
        rcases td with ⟨q1, q2⟩ | ⟨g2, q1, q2, q3, q4, q5⟩
        · exact Or.inl (by rw [va_up_self]; exact q1)
        · have g2d : g2 ≠ d := fun z => by rw [z] at q3; omega
          refine Or.inr ⟨g2, hun.mpr ⟨g2d, q1⟩, by rw [va_up_self]; exact q2, by rw [q5]; omega, ?_⟩
          rw [if_neg (by omega), ix_of q2, va_up_self]
          rcases te with ⟨p1, p2⟩ | ⟨g3, p1, p2, p3⟩
          · exact p1
          · omega
      · have e1 : (if (BF d).toInt < 0 then va_up FI (ix (TB d)) (BH d) else FI) t' = FI t' := by
          split
          · rename_i hh; rw [va_up_ne]; intro z; exact hq ⟨hh, z⟩
          · rfl
        unfold mFI
        rw [e1]
        rcases c1 with c1 | ⟨f, d1, d2, d3, d4⟩
        · exact Or.inl c1
        · have fd : f ≠ d := by
            intro z
            rw [z] at d3 d4
            exact hq ⟨by omega, by omega⟩
          exact Or.inr ⟨f, hun.mpr ⟨fd, d1⟩, d2, d3, kF f fd d4⟩
    · by_cases hq : (BH d).toInt < 0 ∧ t' = ix (TB d)
      · obtain ⟨hq1, rfl⟩ := hq
        rw [if_pos hq1]
        rcases te with ⟨q1, q2⟩ | ⟨g2, q1, q2, q3⟩
        · exact Or.inl (by rw [va_up_self]; exact q1)
        · have g2d : g2 ≠ d := fun z => by rw [z] at q3; omega
          have ht2 : TB d = TB g2 := by
            obtain ⟨z1, z2, z3, z4, z5⟩ := h1 g2 q1
            rcases z4 with ⟨y1, y2⟩ | ⟨g4, y1, y2, y3, y4, y5⟩
            · omega
            · have : g4 = d := by omega
              rw [← this]; exact y5
          refine Or.inr ⟨g2, hun.mpr ⟨g2d, q1⟩, by rw [va_up_self]; exact q2, by rw [← ht2]; omega, ?_⟩
          rw [if_neg (by omega), ix_of q2, va_up_self]
          rcases td with ⟨p1, p2⟩ | ⟨g3, p1, p2, p3, p4, p5⟩
          · exact p1
          · omega
      · have e1 : (if (BH d).toInt < 0 then va_up LA (ix (TB d)) (BF d) else LA) t' = LA t' := by
          split
          · rename_i hh; rw [va_up_ne]; intro z; exact hq ⟨hh, z⟩
          · rfl
        unfold mFI
        rw [e1]
        rcases c2 with c1 | ⟨f, d1, d2, d3, d4⟩
        · exact Or.inl c1
        · have fd : f ≠ d := by
            intro z
            rw [z] at d3 d4
            exact hq ⟨by omega, by omega⟩
          exact Or.inr ⟨f, hun.mpr ⟨fd, d1⟩, d2, d3, kL f fd d4⟩
    · by_cases hq : t' = ix (TB d)
      · subst hq
        rcases td with ⟨q1, q2⟩ | ⟨g2, q1, q2, q3, q4, q5⟩
        · rw [if_pos (show (BH d).toInt < 0 by omega)]
          rcases te with ⟨p1, p2⟩ | ⟨g3, p1, p2, p3⟩
          · rw [if_pos (show (BF d).toInt < 0 by omega), va_up_self, va_up_self, q1, p1]
          · rw [if_neg (show ¬ (BF d).toInt < 0 by omega), va_up_self]
            constructor
            · intro z; have := c3.mp z; omega
            · intro z; omega
        · rw [if_neg (show ¬ (BH d).toInt < 0 by omega)]
          rcases te with ⟨p1, p2⟩ | ⟨g3, p1, p2, p3⟩
          · rw [if_pos (show (BF d).toInt < 0 by omega), va_up_self]
            constructor
            · intro z; omega
            · intro z; have := c3.mpr z; omega
          · rw [if_neg (show ¬ (BF d).toInt < 0 by omega)]; exact c3
      · have e1 : (if (BF d).toInt < 0 then va_up FI (ix (TB d)) (BH d) else FI) t' = FI t' := by
          split
          · rw [va_up_ne _ _ hq]
          · rfl
        have e2 : (if (BH d).toInt < 0 then va_up LA (ix (TB d)) (BF d) else LA) t' = LA t' := by
          split
          · rw [va_up_ne _ _ hq]
          · rfl
        rw [e1, e2]; exact c3
