set_option linter.unusedVariables false
set_option linter.unusedSimpArgs false
/-! coming and going, in the rows -/
theorem mP_up {U : Nat → Int32} {f0 : Nat} {u p : Int32} (hf : f0 < 3000) (hu : u ≠ 0) (h : mP U p) : mP (va_up U f0 u) p := by
  rcases h with h | ⟨f, h1, h2⟩
  · exact Or.inl h
  · exact Or.inr ⟨f, (mU_up hf hu).mpr (Or.inr h1), h2⟩
theorem GD_come {time : Int} {U BO DI SD : Nat → Int32} {f0 : Nat} {u tm no st : Int32} (h : GD time U BO DI SD) (ht : 0 ≤ time) (hf : f0 < 3000) (hU : U f0 = 0) (hu : u ≠ 0) (htm : tm.toInt = time + 1) (hno : no.toInt = -1) (hst : st.toInt = f0) : GD (time + 1) (va_up U f0 u) (va_up BO f0 tm) (va_up DI f0 no) (va_up SD f0 st) := by
  obtain ⟨h1, h2, h3, h4⟩ := h
  have hne : ∀ g, mU U g → g ≠ f0 := fun g hg e => hg.2 (e ▸ hU)
  refine ⟨fun f hfu => ?_, fun f g hfu hgu e => ?_, fun f g hfu hgu e0 e => ?_, fun f g hfu hgu e => ?_⟩
  · rcases (mU_up hf hu).mp hfu with rfl | x1
    · rw [va_up_self, va_up_self, va_up_self]
      exact ⟨by omega, by omega, Or.inl hno, Or.inl hst⟩
    · have n0 := hne f x1
      obtain ⟨a1, a2, a3, a4⟩ := h1 f x1
      rw [va_up_ne _ _ n0, va_up_ne _ _ n0, va_up_ne _ _ n0]
      refine ⟨a1, by clear a4; omega, by clear a4; omega, ?_⟩
      rcases a4 with a4 | ⟨g, b1, b2, b3, b4⟩
      · exact Or.inl a4
      · exact Or.inr ⟨g, (mU_up hf hu).mpr (Or.inr b1), b2, b3, by rw [va_up_ne _ _ (hne g b1)]; exact b4⟩
  · rcases (mU_up hf hu).mp hfu with x1 | x1
    · rcases (mU_up hf hu).mp hgu with x2 | x2
      · rw [x1, x2]
      · rw [x1, va_up_self, va_up_ne _ _ (hne g x2)] at e
        have := (h1 g x2).2.1; omega
    · rw [va_up_ne _ _ (hne f x1)] at e
      rcases (mU_up hf hu).mp hgu with x2 | x2
      · rw [x2, va_up_self] at e
        have := (h1 f x1).2.1; omega
      · rw [va_up_ne _ _ (hne g x2)] at e
        exact h2 f g x1 x2 e
  · rcases (mU_up hf hu).mp hfu with x1 | x1
    · rw [x1, va_up_self] at e0; omega
    · rw [va_up_ne _ _ (hne f x1)] at e e0
      rcases (mU_up hf hu).mp hgu with x2 | x2
      · rw [x2, va_up_self] at e; omega
      · rw [va_up_ne _ _ (hne g x2)] at e
        exact h3 f g x1 x2 e0 e
  · rcases (mU_up hf hu).mp hfu with x1 | x1
    · rw [x1, va_up_self] at e
      rcases (mU_up hf hu).mp hgu with x2 | x2
      · rw [x2, va_up_self] at e; omega
      · rw [va_up_ne _ _ (hne g x2)] at e
        have := (h1 g x2).2.2.1; omega
    · rw [va_up_ne _ _ (hne f x1)] at e
      rcases (mU_up hf hu).mp hgu with x2 | x2
      · rw [x2, va_up_self] at e
        have := (h1 f x1).1; omega
      · rw [va_up_ne _ _ (hne g x2)] at e
        exact h4 f g x1 x2 e
theorem GD_go {time : Int} {U BO DI SD : Nat → Int32} {f0 : Nat} {tm : Int32} (h : GD time U BO DI SD) (hf : mU U f0) (hd : (DI f0).toInt = -1) (htm : tm.toInt = time + 1) : GD (time + 1) U BO (va_up DI f0 tm) SD := by
  obtain ⟨h1, h2, h3, h4⟩ := h
  refine ⟨fun f hfu => ?_, h2, fun f g hfu hgu e0 e => ?_, fun f g hfu hgu e => ?_⟩
  · obtain ⟨a1, a2, a3, a4⟩ := h1 f hfu
    by_cases q : f = f0
    · subst q
      rw [va_up_self]
      refine ⟨a1, by clear a4; omega, Or.inr ⟨by clear a4; omega, by clear a4; omega⟩, ?_⟩
      rcases a4 with a4 | ⟨g, b1, b2, b3, b4⟩
      · exact Or.inl a4
      · omega
    · rw [va_up_ne _ _ q]
      exact ⟨a1, by clear a4; omega, by clear a4; omega, a4⟩
  · by_cases q : f = f0
    · rw [q, va_up_self] at e
      by_cases q2 : g = f0
      · rw [q, q2]
      · rw [va_up_ne _ _ q2] at e
        obtain ⟨y1, y2, y3, -⟩ := h1 g hgu
        clear e0; omega
    · rw [va_up_ne _ _ q] at e e0
      by_cases q2 : g = f0
      · rw [q2, va_up_self] at e
        obtain ⟨y1, y2, y3, -⟩ := h1 f hfu
        omega
      · rw [va_up_ne _ _ q2] at e
        exact h3 f g hfu hgu e0 e
  · by_cases q2 : g = f0
    · rw [q2, va_up_self] at e
      have := (h1 f hfu).2.1; omega
    · rw [va_up_ne _ _ q2] at e
      exact h4 f g hfu hgu e
theorem GD_stand {time : Int} {U BO DI SD : Nat → Int32} {f g : Nat} {w : Int32} (h : GD time U BO DI SD) (hg : mU U g) (hw : w.toInt = g) (h0 : 0 ≤ (DI f).toInt) (h1 : (DI f).toInt < (BO g).toInt) : GD time U BO DI (va_up SD f w) := by
  obtain ⟨k1, k2⟩ := h
  refine ⟨fun x hx => ?_, k2⟩
  obtain ⟨a1, a2, a3, a4⟩ := k1 x hx
  refine ⟨a1, a2, a3, ?_⟩
  by_cases q : x = f
  · subst q
    rw [va_up_self]
    exact Or.inr ⟨g, hg, hw, h0, h1⟩
  · rw [va_up_ne _ _ q]; exact a4
theorem GH_come {time changes marks : Int} {U BO DI CH MK : Nat → Int32} {f0 : Nat} {u tm no w : Int32} (h : GH time changes marks U BO DI CH MK) (hm : 0 < marks) (hf : f0 < 3000) (hU : U f0 = 0) (hu : u ≠ 0) (htm : tm.toInt = time + 1) (hno : no.toInt = -1) (hw : w.toInt = f0) {c : Nat} (hc : (c : Int) = changes) : GH (time + 1) (changes + 1) marks (va_up U f0 u) (va_up BO f0 tm) (va_up DI f0 no) (va_up CH c w) MK := by
  intro _
  obtain ⟨h1, h2, h3, h4, h5⟩ := h hm
  have hne : ∀ g, mU U g → g ≠ f0 := fun g hg e => hg.2 (e ▸ hU)
  have hUo : ∀ g, mU U g → mU (va_up U f0 u) g := fun g hg => (mU_up hf hu).mpr (Or.inr hg)
  refine ⟨by omega, by omega, fun k hk => ?_, fun i hi => ?_, ?_⟩
  · by_cases q : k = c
    · subst q
      rw [va_up_self]
      refine Or.inl ⟨by omega, ?_, ?_⟩
      · rw [ix_of hw]; exact (mU_up hf hu).mpr (Or.inl rfl)
      · rw [ix_of hw, va_up_self]; omega
    · rw [va_up_ne _ _ q]
      rcases h3 k (by omega) with ⟨a1, a2, a3⟩ | ⟨f, a1, a2, a3⟩
      · exact Or.inl ⟨a1, hUo _ a2, by rw [va_up_ne _ _ (hne _ a2)]; omega⟩
      · exact Or.inr ⟨f, hUo _ a1, a2, by rw [va_up_ne _ _ (hne _ a1)]; omega⟩
  · have := h4 i hi; omega
  · have e0 : time + 1 - (changes + 1) = time - changes := by omega
    rw [e0]
    have c1 : cnt (fun f => va_up U f0 u f != 0 && decide (time - changes < (va_up BO f0 tm f).toInt)) 3000 = cnt (fun f => U f != 0 && decide (time - changes < (BO f).toInt)) 3000 + 1 := by
      refine cnt_set (f := f0) ?_ ?_ ?_ hf
      · rw [hU]; rfl
      · rw [va_up_self, va_up_self]
        simp only [Bool.and_eq_true, bne_iff_ne, ne_eq, decide_eq_true_eq]
        exact ⟨hu, by omega⟩
      · intro i hi
        rw [va_up_ne _ _ hi, va_up_ne _ _ hi]
    have c2 : cnt (fun f => va_up U f0 u f != 0 && decide (time - changes < (va_up DI f0 no f).toInt)) 3000 = cnt (fun f => U f != 0 && decide (time - changes < (DI f).toInt)) 3000 := by
      refine cnt_congr (fun i hi => ?_)
      by_cases q : i = f0
      · subst q
        rw [va_up_self, va_up_self, hU]
        have : decide (time - changes < no.toInt) = false := by rw [decide_eq_false_iff_not]; omega
        rw [this]; simp
      · rw [va_up_ne _ _ q, va_up_ne _ _ q]
    rw [c1, c2]; omega
theorem GH_go {time changes marks : Int} {U BO DI CH MK : Nat → Int32} {f0 : Nat} {tm w : Int32} (h : GH time changes marks U BO DI CH MK) (hm : 0 < marks) (hf : mU U f0) (hd : (DI f0).toInt = -1) (htm : tm.toInt = time + 1) (hw : w.toInt = -1 - f0) {c : Nat} (hc : (c : Int) = changes) : GH (time + 1) (changes + 1) marks U BO (va_up DI f0 tm) (va_up CH c w) MK := by
  intro _
  obtain ⟨h1, h2, h3, h4, h5⟩ := h hm
  refine ⟨by omega, by omega, fun k hk => ?_, fun i hi => ?_, ?_⟩
  · by_cases q : k = c
    · subst q
      rw [va_up_self]
      exact Or.inr ⟨f0, hf, hw, by rw [va_up_self]; omega⟩
    · rw [va_up_ne _ _ q]
      rcases h3 k (by omega) with ⟨a1, a2, a3⟩ | ⟨f, a1, a2, a3⟩
      · exact Or.inl ⟨a1, a2, by omega⟩
      · have : f ≠ f0 := fun z => by rw [z] at a3; omega
        exact Or.inr ⟨f, a1, a2, by rw [va_up_ne _ _ this]; omega⟩
  · have := h4 i hi; omega
  · have e0 : time + 1 - (changes + 1) = time - changes := by omega
    rw [e0]
    have c2 : cnt (fun f => U f != 0 && decide (time - changes < (va_up DI f0 tm f).toInt)) 3000 = cnt (fun f => U f != 0 && decide (time - changes < (DI f).toInt)) 3000 + 1 := by
      refine cnt_set (f := f0) ?_ ?_ ?_ hf.1
      · have : decide (time - changes < (DI f0).toInt) = false := by rw [decide_eq_false_iff_not]; omega
        simp only [this, Bool.and_false]
      · rw [va_up_self]
        simp only [Bool.and_eq_true, bne_iff_ne, ne_eq, decide_eq_true_eq]
        exact ⟨hf.2, by omega⟩
      · intro i hi
        rw [va_up_ne _ _ hi]
    rw [c2]; omega
theorem GH_ch {time changes marks : Int} {U BO DI CH MK : Nat → Int32} (h : GH time changes marks U BO DI CH MK) (hm : 0 < marks) : 0 ≤ changes ∧ changes ≤ 6000 := by
  obtain ⟨h1, h2, h3, h4, h5⟩ := h hm
  have := cnt_le (fun f => U f != 0 && decide (time - changes < (BO f).toInt)) 3000
  have := cnt_le (fun f => U f != 0 && decide (time - changes < (DI f).toInt)) 3000
  omega
section S7
variable {b : MT} {fi : Nat → Int32} {ar : Nat → Nat → Int32} {X : String → HS → Prop} {N : Nat}
theorem s_note (hb : MB b) {Q : HS → Prop} (w : Int32) (h : fi 27 ≠ 0 → wIn (fi 25) 12000) (h0 : fi 27 = 0 → Q (mS b fi ar)) (h1 : fi 27 ≠ 0 → Q (mS b (va_up fi 25 (fi 25 + 1)) (up2 ar 24 (ix (fi 25)) w))) : w_X12_note (some b.o) w (mS b fi ar) Q X := by
  simp only [w_X12_note, wIf, wJoin, mw hb]
  refine ⟨fun q => ?_, fun q => ?_⟩
  all_goals first
    | exact h0 q
    | exact ⟨h q, h1 q⟩
    | trace_state
theorem s_free (hb : MB b) {Q : Int32 → HS → Prop} (hk : cnt (fun f => ar 11 f != 0) 3000 < 3000) (hQ : ∀ r : Int32, wIn r 3000 → ar 11 (ix r) = 0 → Q r (mS b fi ar)) : w_X12_free (some b.o) (mS b fi ar) Q X := by
  obtain ⟨u0, u1, u2⟩ := cnt_lt hk
  have u2 : ar 11 u0 = 0 := by simpa using u2
  simp only [w_X12_free]
  refine wLoop_i (fun n v x => x = mS b fi ar ∧ 0 ≤ v.toInt ∧ v.toInt ≤ u0 ∧ n = (u0 - v.toInt).toNat) u0 ⟨rfl, by decide, by rw [show (0 : Int32).toInt = 0 from by decide]; omega, by rw [show (0 : Int32).toInt = 0 from by decide]; omega⟩ ?_
  rintro n v x again ha ⟨rfl, h1, h2, h3⟩
  have hin : wIn v 3000 := ⟨h1, by omega⟩
  simp only [wIf, mw hb, hin, true_and]
  refine ⟨fun q => hQ v hin q, fun q => ?_⟩
  have : v.toInt ≠ u0 := fun z => q (by rw [ix_of z]; exact u2)
  have hv : (v + 1).toInt = v.toInt + 1 := i_add rfl (by decide) (by omega)
  exact ha _ _ _ (by omega) ⟨rfl, by omega, by omega, rfl⟩
end S7
