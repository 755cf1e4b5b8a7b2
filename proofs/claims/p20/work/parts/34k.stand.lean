set_option linter.unusedVariables false
set_option linter.unusedSimpArgs false
/-! taking back: whoever was there at a time has, by who stands in for whom, one that is there now, each its own -/
def thenThere (T : Int) (BO DI : Nat → Int32) (f : Nat) : Prop := (BO f).toInt ≤ T ∧ ((DI f).toInt = -1 ∨ T < (DI f).toInt)
def SG (E : Nat → Nat) (S : Nat → Prop) (T : Int) (U BO DI SD : Nat → Int32) : Prop :=
  (∀ f, mU U f → thenThere T BO DI f → S f ∧ (DI (E f)).toInt = -1) ∧
  (∀ f, S f → mU U f ∧ mU U (E f) ∧ (thenThere T BO DI f ∨ T < (BO f).toInt) ∧ (((SD f).toInt = f ∧ E f = f) ∨ ((SD f).toInt ≠ f ∧ S (ix (SD f)) ∧ E (ix (SD f)) = E f))) ∧
  (∀ f g, mU U f → mU U g → thenThere T BO DI f → thenThere T BO DI g → E f = E g → f = g)
theorem SG_init {time : Int} {U BO DI SD : Nat → Int32} (h : GD time U BO DI SD) : SG (fun f => f) (fun f => mU U f ∧ (DI f).toInt = -1) time U BO DI SD := by
  obtain ⟨h1, h2, h3, h4⟩ := h
  refine ⟨fun f hf ht => ?_, fun f hf => ?_, fun f g _ _ _ _ e => e⟩
  · obtain ⟨a1, a2, a3, -⟩ := h1 f hf
    have : (DI f).toInt = -1 := by rcases ht.2 with q | q <;> omega
    exact ⟨⟨hf, this⟩, this⟩
  · obtain ⟨f1, f2⟩ := hf
    obtain ⟨a1, a2, a3, a4⟩ := h1 f f1
    refine ⟨f1, f1, Or.inl ⟨a2, Or.inl f2⟩, ?_⟩
    rcases a4 with a4 | ⟨g, b1, b2, b3, b4⟩
    · exact Or.inl ⟨a4, rfl⟩
    · omega
/-- a coming is taken back: who stands in for e0 goes -/
theorem SG_go {E : Nat → Nat} {S : Nat → Prop} {T time : Int} {U BO DI SD : Nat → Int32} {e0 : Nat} {tm : Int32} (h : SG E S T U BO DI SD) (hD : GD time U BO DI SD) (he : mU U e0) (hb : (BO e0).toInt = T) (htm : T < tm.toInt) : SG E S (T - 1) U BO (va_up DI (E e0) tm) SD := by
  obtain ⟨h1, h2, h3⟩ := h
  have hth : thenThere T BO DI e0 := by
    obtain ⟨a1, a2, a3, -⟩ := hD.1 e0 he
    refine ⟨by omega, ?_⟩
    rcases a3 with a3 | a3
    · exact Or.inl a3
    · exact Or.inr (by omega)
  -- there at T - 1, behind: then there at T, before
  have key : ∀ f, mU U f → thenThere (T - 1) BO (va_up DI (E e0) tm) f → thenThere T BO DI f ∧ f ≠ e0 := by
    intro f hf ht
    have n0 : f ≠ e0 := fun q => by have := ht.1; rw [q] at this; omega
    refine ⟨⟨by have := ht.1; omega, ?_⟩, n0⟩
    by_cases q : f = E e0
    · rw [q]; exact Or.inl (h1 e0 he hth).2
    · have h5 := ht.2
      rw [va_up_ne _ _ q] at h5
      rcases h5 with h5 | h5
      · exact Or.inl h5
      · have := hD.2.2.2 e0 f he hf
        exact Or.inr (by omega)
  refine ⟨fun f hf ht => ?_, fun f hf => ?_, fun f g hf hg htf htg e => ?_⟩
  · obtain ⟨k1, k2⟩ := key f hf ht
    obtain ⟨s1, s2⟩ := h1 f hf k1
    refine ⟨s1, ?_⟩
    rw [va_up_ne]
    · exact s2
    · intro q; exact k2 (h3 f e0 hf he k1 hth q)
  · obtain ⟨s1, s2, s3, s4⟩ := h2 f hf
    refine ⟨s1, s2, ?_, s4⟩
    rcases s3 with s3 | s3
    · by_cases q : (BO f).toInt = T
      · exact Or.inr (by omega)
      · refine Or.inl ⟨by have := s3.1; omega, ?_⟩
        by_cases q2 : f = E e0
        · rw [q2, va_up_self]; exact Or.inr (by omega)
        · rw [va_up_ne _ _ q2]
          rcases s3.2 with y | y
          · exact Or.inl y
          · exact Or.inr (by omega)
    · exact Or.inr (by omega)
  · exact h3 f g hf hg (key f hf htf).1 (key g hg htg).1 e
/-- a going is taken back: g comes and stands in for f0 -/
theorem SG_come {E : Nat → Nat} {S : Nat → Prop} {T time : Int} {U BO DI SD : Nat → Int32} {f0 g : Nat} {u tm no st w : Int32} (h : SG E S T U BO DI SD) (hD : GD time U BO DI SD) (hT0 : 0 < T) (hT : T ≤ time) (hf : mU U f0) (hd : (DI f0).toInt = T) (hg : g < 3000) (hU : U g = 0) (hu : u ≠ 0) (htm : tm.toInt = time + 1) (hno : no.toInt = -1) (hst : st.toInt = g) (hw : w.toInt = g) :
    SG (va_up (va_up E g g) f0 g) (fun f => S f ∨ f = f0 ∨ f = g) (T - 1) (va_up U g u) (va_up BO g tm) (va_up DI g no) (va_up (va_up SD g st) f0 w) := by
  obtain ⟨h1, h2, h3⟩ := h
  have hne : ∀ x, mU U x → x ≠ g := fun x hx e => hx.2 (e ▸ hU)
  have hf0 := hne f0 hf
  obtain ⟨b1, b2, b3, -⟩ := hD.1 f0 hf
  have hS0 : ∀ x, S x → x ≠ f0 := by
    intro x hx q
    obtain ⟨s1, s2, s3, s4⟩ := h2 x hx
    rw [q] at s3
    rcases s3 with s3 | s3
    · rcases s3.2 with y | y <;> omega
    · omega
  have hSg : ∀ x, S x → x ≠ g := fun x hx => hne x (h2 x hx).1
  -- there at T - 1, behind: f0, or there at T, before
  have key : ∀ f, mU (va_up U g u) f → thenThere (T - 1) (va_up BO g tm) (va_up DI g no) f → f ≠ g ∧ mU U f ∧ (f = f0 ∨ (f ≠ f0 ∧ thenThere T BO DI f)) := by
    intro f hfu ht
    have hfg : f ≠ g := fun q => by have := ht.1; rw [q, va_up_self] at this; omega
    have hfo : mU U f := by
      rcases (mU_up hg hu).mp hfu with q | q
      · exact absurd q hfg
      · exact q
    refine ⟨hfg, hfo, ?_⟩
    by_cases q : f = f0
    · exact Or.inl q
    · refine Or.inr ⟨q, ?_⟩
      have t1 := ht.1; have t2 := ht.2
      rw [va_up_ne _ _ hfg] at t1 t2
      refine ⟨by omega, ?_⟩
      rcases t2 with t2 | t2
      · exact Or.inl t2
      · have : (DI f).toInt ≠ T := fun z => q ((hD.2.2.1 f f0 hfo hf (by omega) (by omega)))
        exact Or.inr (by omega)
  refine ⟨fun f hfu ht => ?_, fun f hfs => ?_, fun f g2 hfu hgu htf htg e => ?_⟩
  · obtain ⟨k1, k2, k3⟩ := key f hfu ht
    rcases k3 with k3 | ⟨k3, k4⟩
    · refine ⟨Or.inr (Or.inl k3), ?_⟩
      rw [k3, va_up_self, va_up_self]; exact hno
    · obtain ⟨s1, s2⟩ := h1 f k2 k4
      refine ⟨Or.inl s1, ?_⟩
      rw [va_up_ne _ _ k3, va_up_ne _ _ k1, va_up_ne _ _ (hne _ (h2 f s1).2.1)]
      exact s2
  · rcases hfs with hfs | hfs | hfs
    · have n0 := hS0 f hfs
      have ng := hSg f hfs
      obtain ⟨s1, s2, s3, s4⟩ := h2 f hfs
      have eE : va_up (va_up E g g) f0 g f = E f := by rw [va_up_ne _ _ n0, va_up_ne _ _ ng]
      have eS : va_up (va_up SD g st) f0 w f = SD f := by rw [va_up_ne _ _ n0, va_up_ne _ _ ng]
      rw [eE, eS]
      refine ⟨(mU_up hg hu).mpr (Or.inr s1), (mU_up hg hu).mpr (Or.inr s2), ?_, ?_⟩
      · unfold thenThere
        rw [va_up_ne _ _ ng, va_up_ne _ _ ng]
        rcases s3 with s3 | s3
        · by_cases q : (BO f).toInt = T
          · exact Or.inr (by omega)
          · refine Or.inl ⟨by have := s3.1; omega, ?_⟩
            rcases s3.2 with y | y
            · exact Or.inl y
            · exact Or.inr (by omega)
        · exact Or.inr (by omega)
      · rcases s4 with s4 | ⟨s4, s5, s6⟩
        · exact Or.inl s4
        · refine Or.inr ⟨s4, Or.inl s5, ?_⟩
          rw [va_up_ne _ _ (hS0 _ s5), va_up_ne _ _ (hSg _ s5)]; exact s6
    · subst hfs
      refine ⟨(mU_up hg hu).mpr (Or.inr hf), ?_, Or.inl ⟨?_, ?_⟩, Or.inr ⟨?_, ?_, ?_⟩⟩
      · rw [va_up_self]; exact (mU_up hg hu).mpr (Or.inl rfl)
      · rw [va_up_ne _ _ hf0]; omega
      · rw [va_up_ne _ _ hf0]; exact Or.inr (by omega)
      · rw [va_up_self]; intro q; exact hf0 (by omega)
      · rw [va_up_self, ix_of hw]; exact Or.inr (Or.inr rfl)
      · rw [va_up_self, va_up_self, ix_of hw, va_up_ne _ _ (Ne.symm hf0), va_up_self]
    · subst hfs
      refine ⟨(mU_up hg hu).mpr (Or.inl rfl), ?_, Or.inr ?_, Or.inl ⟨?_, ?_⟩⟩
      · rw [va_up_ne _ _ (Ne.symm hf0), va_up_self]; exact (mU_up hg hu).mpr (Or.inl rfl)
      · rw [va_up_self]; omega
      · rw [va_up_ne _ _ (Ne.symm hf0), va_up_self]; exact hst
      · rw [va_up_ne _ _ (Ne.symm hf0), va_up_self]
  · obtain ⟨k1, k2, k3⟩ := key f hfu htf
    obtain ⟨l1, l2, l3⟩ := key g2 hgu htg
    rcases k3 with k3 | ⟨k3, k4⟩
    · rcases l3 with l3 | ⟨l3, l4⟩
      · rw [k3, l3]
      · rw [k3, va_up_self, va_up_ne _ _ l3, va_up_ne _ _ l1] at e
        exact absurd e.symm (hne _ (h2 g2 (h1 g2 l2 l4).1).2.1)
    · rcases l3 with l3 | ⟨l3, l4⟩
      · rw [l3, va_up_self, va_up_ne _ _ k3, va_up_ne _ _ k1] at e
        exact absurd e (hne _ (h2 f (h1 f k2 k4).1).2.1)
      · rw [va_up_ne _ _ k3, va_up_ne _ _ k1, va_up_ne _ _ l3, va_up_ne _ _ l1] at e
        exact h3 f g2 k2 l2 k4 l4 e
