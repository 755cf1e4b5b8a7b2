theorem KInv_o {o N : Nat} {vv : Nat → Int32} {x : HS} (h : KInv o N vv x) : o ∈ x.LP ∧ x.k o = 11 := by
  obtain ⟨b, g, s, hh, I, F, A, E, rfl, hk, -⟩ := h
  exact hk.2.2.1.1
