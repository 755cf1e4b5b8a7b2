set_option linter.unusedVariables false
set_option linter.unusedSimpArgs false
/-! the class: a new keeper's reader, solver, text and solutions -/
/-- all that was there is as it was -/
def Gn (x0 x : HS) : Prop := ∀ a, a ∈ x0.LP → a ∈ x.LP ∧ x.k a = x0.k a ∧ x.F a = x0.F a ∧ x.I a = x0.I a ∧ x.J a = x0.J a ∧ x.G a = x0.G a
section HJ1
variable {x0 x y : HS} {q a j i ci kd N : Nat} {w : Option Nat} {v : Int32} {Z Z' : HS → Prop} {Q Q' : HS → Prop} {X X' : String → HS → Prop}
theorem Gn_rf : Gn x x := fun a h => ⟨h, rfl, rfl, rfl, rfl, rfl⟩
theorem Gn_tr (h : Gn x0 x) (h2 : Gn x y) : Gn x0 y := fun a ha => by
  obtain ⟨p1, p2, p3, p4, p5, p6⟩ := h a ha
  obtain ⟨q1, q2, q3, q4, q5, q6⟩ := h2 a p1
  exact ⟨q1, q2.trans p2, q3.trans p3, q4.trans p4, q5.trans p5, q6.trans p6⟩
theorem Gn_new (hq : q ∉ x.LP) : Gn x (x.new q ci N) := fun a ha => by
  have n : a ≠ q := fun z => hq (by rw [← z]; exact ha)
  exact ⟨List.mem_append_left _ ha, va_up_ne _ _ n, va_up_ne _ _ n, va_up_ne _ _ n, rfl, rfl⟩
theorem Gn_newJ (hq : q ∉ x.LP) : Gn x (x.newJ q kd N) := fun a ha => by
  have n : a ≠ q := fun z => hq (by rw [← z]; exact ha)
  exact ⟨List.mem_append_left _ ha, va_up_ne _ _ n, rfl, rfl, va_up_ne _ _ n, rfl⟩
theorem Gn_newG (hq : q ∉ x.LP) : Gn x (x.newG q kd N) := fun a ha => by
  have n : a ≠ q := fun z => hq (by rw [← z]; exact ha)
  exact ⟨List.mem_append_left _ ha, va_up_ne _ _ n, rfl, rfl, rfl, va_up_ne _ _ n⟩
theorem Gn_wF (h : Gn x0 x) (hq : q ∉ x0.LP) : Gn x0 (x.wF (up2 x.F q j w)) := fun a ha => by
  obtain ⟨p1, p2, p3, p4, p5, p6⟩ := h a ha
  have n : a ≠ q := fun z => hq (by rw [← z]; exact ha)
  exact ⟨p1, p2, (up2_row _ _ _ n).trans p3, p4, p5, p6⟩
theorem Gn_wI (h : Gn x0 x) (hq : q ∉ x0.LP) : Gn x0 (x.wI (up2 x.I q j v)) := fun a ha => by
  obtain ⟨p1, p2, p3, p4, p5, p6⟩ := h a ha
  have n : a ≠ q := fun z => hq (by rw [← z]; exact ha)
  exact ⟨p1, p2, p3, (up2_row _ _ _ n).trans p4, p5, p6⟩
theorem Gn_wG {u : Option Nat} (h : Gn x0 x) (hq : q ∉ x0.LP) : Gn x0 (x.wG (up2 x.G q i u)) := fun a ha => by
  obtain ⟨p1, p2, p3, p4, p5, p6⟩ := h a ha
  have n : a ≠ q := fun z => hq (by rw [← z]; exact ha)
  exact ⟨p1, p2, p3, p4, p5, (up2_row _ _ _ n).trans p6⟩
theorem Gn_no (h : Gn x0 x) (hq : q ∉ x.LP) : q ∉ x0.LP := fun z => hq (h q z).1
/-! the words -/
theorem r_ref (h : Q x → Q' x) : wRef (some q) (Q x) → wRef (some q) (Q' x) := fun z => ⟨z.1, h z.2⟩
theorem r_new {Z Z' : Option Nat → HS → Prop} (h : ∀ q, q ∉ x.LP → Z (some q) (x.new q ci N) → Z' (some q) (x.new q ci N)) : wNew x ci N Z → wNew x ci N Z' := fun z => ⟨z.1, z.2.1, fun q hq => h q hq (z.2.2 q hq)⟩
theorem r_newJ {Z Z' : Option Nat → HS → Prop} (h : ∀ q, q ∉ x.LP → Z (some q) (x.newJ q kd v.toInt.toNat) → Z' (some q) (x.newJ q kd v.toInt.toNat)) : wNewJ x kd v Z → wNewJ x kd v Z' := fun z => ⟨z.1, z.2.1, z.2.2.1, z.2.2.2.1, fun q hq => h q hq (z.2.2.2.2 q hq)⟩
theorem r_newG {Z Z' : Option Nat → HS → Prop} (h : ∀ q, q ∉ x.LP → Z (some q) (x.newG q kd v.toInt.toNat) → Z' (some q) (x.newG q kd v.toInt.toNat)) : wNewG x kd v Z → wNewG x kd v Z' := fun z => ⟨z.1, z.2.1, z.2.2.1, z.2.2.2.1, fun q hq => h q hq (z.2.2.2.2 q hq)⟩
theorem r_putF (h : Z (x.wF (up2 x.F q j w)) → Z' (x.wF (up2 x.F q j w))) : wPutF x ci j (some q) w Z → wPutF x ci j (some q) w Z' := fun ⟨a, h1, h2, h3, h4⟩ => by
  cases h1; exact ⟨q, rfl, h2, h3, h h4⟩
theorem r_putI (h : Z (x.wI (up2 x.I q j v)) → Z' (x.wI (up2 x.I q j v))) : wPutI x ci j (some q) v Z → wPutI x ci j (some q) v Z' := fun ⟨a, h1, h2, h3, h4⟩ => by
  cases h1; exact ⟨q, rfl, h2, h3, h h4⟩
theorem r_getF {Z Z' : Option Nat → Prop} (h : Z (x.F q j) → Z' (x.F q j)) : wGetF x ci j (some q) Z → wGetF x ci j (some q) Z' := fun ⟨a, h1, h2, h3, h4⟩ => by
  cases h1; exact ⟨q, rfl, h2, h3, h h4⟩
theorem r_astG {c2 : Nat} {iv : Int32} (h : Z (x.wG (up2 x.G q (ix iv) w)) → Z' (x.wG (up2 x.G q (ix iv) w))) : wAstG x kd c2 (some q) iv w Z → wAstG x kd c2 (some q) iv w Z' := fun ⟨a, h1, h2, h3, h4, h5, h6⟩ => by
  cases h1; exact ⟨q, rfl, h2, h3, h4, h5, h h6⟩
/-! small things: a look, a goal, solutions, the store -/
theorem gi_X5 (hx : Gn x0 x) (hq : q ∉ x0.LP) (h : ∀ u, Gn x0 u → (∀ a, a ∈ x.LP → a ∈ u.LP) → Q u → Q' u) : w_X5_init (some q) x Q X → w_X5_init (some q) x Q' X' := by
  unfold w_X5_init
  refine q_ref (r_newJ (fun q1 h1 => r_putF (h _ (Gn_wF (Gn_tr hx (Gn_newJ h1)) hq) (fun a ha => List.mem_append_left _ ha))))
theorem gi_X2 (hx : Gn x0 x) (hq : q ∉ x0.LP) (h : ∀ u, Gn x0 u → (∀ a, a ∈ x.LP → a ∈ u.LP) → Q u → Q' u) : w_X2_init (some q) x Q X → w_X2_init (some q) x Q' X' := by
  unfold w_X2_init
  refine q_ref (r_newJ (fun q1 h1 => r_putF (r_newJ (fun q4 h4 => r_putF (h _ (Gn_wF (Gn_tr (Gn_wF (Gn_tr hx (Gn_newJ h1)) hq) (Gn_newJ h4)) hq) (fun a ha => List.mem_append_left _ (List.mem_append_left _ ha)))))))
theorem gi_X3 (hx : Gn x0 x) (hq : q ∉ x0.LP) (h : ∀ u, Gn x0 u → Q u → Q' u) : w_X3_init (some q) x Q X → w_X3_init (some q) x Q' X' := by
  unfold w_X3_init
  refine q_ref (r_newG (fun q1 h1 => r_putF (r_newJ (fun q4 h4 => r_putF (r_newJ (fun q7 h7 => r_putF (h _ (Gn_wF (Gn_tr (Gn_wF (Gn_tr (Gn_wF (Gn_tr hx (Gn_newG h1)) hq) (Gn_newJ h4)) hq) (Gn_newJ h7)) hq))))))))
theorem gi_X9 (hx : Gn x0 x) (hq : q ∉ x0.LP) (h : ∀ u, Gn x0 u → Q u → Q' u) : w_X9_init (some q) x Q X → w_X9_init (some q) x Q' X' := by
  unfold w_X9_init
  refine q_ref (r_newG (fun q1 h1 => r_putF (r_newG (fun q4 h4 => r_putF (r_new (fun q7 h7 => ?_))))))
  have g1 := Gn_wF (j := 0) (w := some q1) (Gn_tr hx (Gn_newG (kd := 24) (N := (12 : Int32).toInt.toNat) h1)) hq
  have g2 := Gn_wF (j := 1) (w := some q4) (Gn_tr g1 (Gn_newG (kd := 25) (N := (3000 : Int32).toInt.toNat) h4)) hq
  have n7 := Gn_no g2 h7
  exact gi_X3 (Gn_tr g2 (Gn_new h7)) n7 (fun u hu => r_putF (h _ (Gn_wF hu hq)))
/-- solutions: nothing yet -/
theorem gi_X7 (hx : Gn x0 x) (hq : q ∉ x0.LP) (hI : x.I q 1 = 0 ∧ x.I q 2 = 0) (hL : q ∈ x.LP ∧ x.k q = 7) (h : ∀ u, Gn x0 u → q ∈ u.LP ∧ u.k q = 7 → u.I q 1 = 0 ∧ u.I q 2 = 0 → Q u → Q' u) : w_X7_init (some q) x Q X → w_X7_init (some q) x Q' X' := by
  unfold w_X7_init
  refine q_ref (r_newJ (fun q1 h1 => r_putF ?_))
  have n1 : q ≠ q1 := fun z => h1 (by rw [← z]; exact hL.1)
  exact h _ (Gn_wF (Gn_tr hx (Gn_newJ h1)) hq) ⟨List.mem_append_left _ hL.1, (va_up_ne _ _ n1).trans hL.2⟩ hI
/-- ten of a kind, each another one -/
def Inj10 (f : Nat → Option Nat) : Prop := ∀ i i' z, i < 10 → i' < 10 → f i = some z → f i' = some z → i = i'
/-- one more -/
theorem inj_put {f : Nat → Option Nat} {m z : Nat} {L : List Nat} (h1 : ∀ i, i < m → ∃ z, f i = some z ∧ z ∈ L) (h2 : ∀ i i' z, i < m → i' < m → f i = some z → f i' = some z → i = i') (hz : z ∉ L) : ∀ i i' w, i < m + 1 → i' < m + 1 → va_up f m (some z) i = some w → va_up f m (some z) i' = some w → i = i' := fun i i' w hi hi' e e' => by
  have old : ∀ k, k < m → f k ≠ some z := fun k hk y => by
    obtain ⟨z', y1, y2⟩ := h1 k hk
    rw [y] at y1; cases y1
    exact hz y2
  by_cases c : i = m
  · by_cases c' : i' = m
    · rw [c, c']
    · rw [c, va_up_self] at e
      rw [va_up_ne _ _ c'] at e'
      cases e
      exact absurd e' (old i' (by omega))
  · rw [va_up_ne _ _ c] at e
    by_cases c' : i' = m
    · rw [c', va_up_self] at e'
      cases e'
      exact absurd e (old i (by omega))
    · rw [va_up_ne _ _ c'] at e'
      exact h2 i i' w (by omega) (by omega) e e'
theorem gi_X6 (hx : Gn x0 x) (hq : q ∉ x0.LP) (hL : q ∈ x.LP ∧ x.k q = 6) (h : ∀ u, Gn x0 u → q ∈ u.LP ∧ u.k q = 6 → (∃ ga, ga ∈ u.LP ∧ ga ∉ x.LP ∧ u.F q 0 = some ga ∧ Inj10 (u.G ga)) → Q u → Q' u) : w_X6_init (some q) x Q X → w_X6_init (some q) x Q' X' := by
  unfold w_X6_init
  refine q_ref (r_newG (fun ga hga => r_putF (r_putI ?_)))
  have nq : q ≠ ga := fun z => hga (by rw [← z]; exact hL.1)
  have g0 : Gn x0 (((x.newG ga 27 (10 : Int32).toInt.toNat).wF (up2 (x.newG ga 27 (10 : Int32).toInt.toNat).F q 0 (some ga))).wI (up2 ((x.newG ga 27 (10 : Int32).toInt.toNat).wF (up2 (x.newG ga 27 (10 : Int32).toInt.toNat).F q 0 (some ga))).I q 3 (-1))) := Gn_wI (Gn_wF (Gn_tr hx (Gn_newG hga)) hq) hq
  have l0 : q ∈ (((x.newG ga 27 (10 : Int32).toInt.toNat).wF (up2 (x.newG ga 27 (10 : Int32).toInt.toNat).F q 0 (some ga))).wI (up2 ((x.newG ga 27 (10 : Int32).toInt.toNat).wF (up2 (x.newG ga 27 (10 : Int32).toInt.toNat).F q 0 (some ga))).I q 3 (-1))).LP := List.mem_append_left _ hL.1
  have k0 : (((x.newG ga 27 (10 : Int32).toInt.toNat).wF (up2 (x.newG ga 27 (10 : Int32).toInt.toNat).F q 0 (some ga))).wI (up2 ((x.newG ga 27 (10 : Int32).toInt.toNat).wF (up2 (x.newG ga 27 (10 : Int32).toInt.toNat).F q 0 (some ga))).I q 3 (-1))).k q = 6 := (va_up_ne _ _ nq).trans hL.2
  have f0 : (((x.newG ga 27 (10 : Int32).toInt.toNat).wF (up2 (x.newG ga 27 (10 : Int32).toInt.toNat).F q 0 (some ga))).wI (up2 ((x.newG ga 27 (10 : Int32).toInt.toNat).wF (up2 (x.newG ga 27 (10 : Int32).toInt.toNat).F q 0 (some ga))).I q 3 (-1))).F q 0 = some ga := up2_self _ _ _ _
  have a0 : ga ∈ (((x.newG ga 27 (10 : Int32).toInt.toNat).wF (up2 (x.newG ga 27 (10 : Int32).toInt.toNat).F q 0 (some ga))).wI (up2 ((x.newG ga 27 (10 : Int32).toInt.toNat).wF (up2 (x.newG ga 27 (10 : Int32).toInt.toNat).F q 0 (some ga))).I q 3 (-1))).LP := List.mem_append_right _ (List.mem_singleton.mpr rfl)
  have nga : ga ∉ x0.LP := Gn_no hx hga
  generalize (((x.newG ga 27 (10 : Int32).toInt.toNat).wF (up2 (x.newG ga 27 (10 : Int32).toInt.toNat).F q 0 (some ga))).wI (up2 ((x.newG ga 27 (10 : Int32).toInt.toNat).wF (up2 (x.newG ga 27 (10 : Int32).toInt.toNat).F q 0 (some ga))).I q 3 (-1))) = y0 at g0 l0 k0 f0 a0 ⊢
  refine q_loopV (fun (u : Int32) y => Gn x0 y ∧ (q ∈ y.LP ∧ y.k q = 6) ∧ ga ∈ y.LP ∧ y.F q 0 = some ga ∧ ∃ m : Nat, u.toInt = (m : Int) ∧ m ≤ 10 ∧ (∀ i, i < m → ∃ z, y.G ga i = some z ∧ z ∈ y.LP) ∧ ∀ i i' z, i < m → i' < m → y.G ga i = some z → y.G ga i' = some z → i = i') ⟨g0, ⟨l0, k0⟩, a0, f0, 0, by decide, by omega, fun i hi => absurd hi (by omega), fun i i' z hi => absurd hi (by omega)⟩ (fun u y again again' ⟨p1, p2, p3, p4, m, m1, m2, m3, m4⟩ ha => ?_)
  refine qv_if (fun z => ?_) (fun z => ?_)
  · rw [i32.2.1, show (10 : Int32).toInt = 10 by decide] at z
    have e : m = 10 := by omega
    rw [e] at m4
    exact h y p1 p2 ⟨ga, p3, hga, p4, m4⟩
  rw [i32.2.1, show (10 : Int32).toInt = 10 by decide] at z
  refine r_getF ?_
  rw [p4]
  refine r_new (fun g1 hg1 => ?_)
  refine gi_X2 (x0 := y) (Gn_new hg1) hg1 (fun u2 hu2 hl2 => r_astG ?_)
  rw [ix_of m1]
  have ng : g1 ∉ x0.LP := Gn_no p1 hg1
  obtain ⟨e1, e2, e3, e4, e5, e6⟩ := hu2 q p2.1
  obtain ⟨d1, d2, d3, d4, d5, d6⟩ := hu2 ga p3
  refine ha _ _ ⟨Gn_wG (Gn_tr p1 hu2) nga, ⟨e1, e2.trans p2.2⟩, d1, by show u2.F q 0 = some ga; rw [e3]; exact p4, m + 1, by rw [i_add m1 (show (1 : Int32).toInt = 1 by decide) (by omega)]; omega, by omega, fun i hi => ?_, ?_⟩
  · show ∃ z, up2 u2.G ga m (some g1) ga i = some z ∧ z ∈ u2.LP
    rw [up2_rs]
    by_cases c : i = m
    · rw [c, va_up_self]
      exact ⟨g1, rfl, hl2 g1 (List.mem_append_right _ (List.mem_singleton.mpr rfl))⟩
    · rw [va_up_ne _ _ c, d6]
      obtain ⟨z', y1, y2⟩ := m3 i (by omega)
      exact ⟨z', y1, (hu2 z' y2).1⟩
  · show ∀ i i' z, i < m + 1 → i' < m + 1 → up2 u2.G ga m (some g1) ga i = some z → up2 u2.G ga m (some g1) ga i' = some z → i = i'
    rw [up2_rs, d6]
    exact inj_put m3 m4 hg1
/-- looks in an array, one by one -/
theorem gi_looks {ci j la : Nat} {y0 : HS} (hcj : ci ≠ 99) (g0 : Gn x0 y0) (l0 : q ∈ y0.LP) (f0 : y0.F q j = some la) (a0 : la ∈ y0.LP) (nla : la ∉ x0.LP) (h : ∀ u, Gn x0 u → (∀ a, a ∈ y0.LP → a ∈ u.LP ∧ u.k a = y0.k a ∧ u.F a = y0.F a ∧ u.I a = y0.I a ∧ u.J a = y0.J a ∧ (a ≠ la → u.G a = y0.G a)) → Inj10 (u.G la) → Q u → Q' u) :
    wLoop (σ := Int32) (fun v23 x22 again20 => wIf (10 ≤ v23) (Q x22) (wGetF x22 ci j (some q) fun v24 => wNew x22 5 8 fun q25 x26 => w_X5_init q25 x26 (fun x27 => wAstG x27 26 5 v24 v23 q25 fun x29 => again20 (v23 + 1) x29) X)) 0 y0 →
    wLoop (σ := Int32) (fun v23 x22 again20 => wIf (10 ≤ v23) (Q' x22) (wGetF x22 ci j (some q) fun v24 => wNew x22 5 8 fun q25 x26 => w_X5_init q25 x26 (fun x27 => wAstG x27 26 5 v24 v23 q25 fun x29 => again20 (v23 + 1) x29) X)) 0 y0 := by
  refine q_loopV (fun (u : Int32) y => Gn x0 y ∧ (∀ a, a ∈ y0.LP → a ∈ y.LP ∧ y.k a = y0.k a ∧ y.F a = y0.F a ∧ y.I a = y0.I a ∧ y.J a = y0.J a ∧ (a ≠ la → y.G a = y0.G a)) ∧ ∃ m : Nat, u.toInt = (m : Int) ∧ m ≤ 10 ∧ (∀ i, i < m → ∃ z, y.G la i = some z ∧ z ∈ y.LP) ∧ ∀ i i' z, i < m → i' < m → y.G la i = some z → y.G la i' = some z → i = i') ⟨g0, fun a ha => ⟨ha, rfl, rfl, rfl, rfl, fun _ => rfl⟩, 0, by decide, by omega, fun i hi => absurd hi (by omega), fun i i' z hi => absurd hi (by omega)⟩ (fun u y again again' ⟨p1, p2, m, m1, m2, m3, m4⟩ ha => ?_)
  refine qv_if (fun z => ?_) (fun z => ?_)
  · rw [i32.2.1, show (10 : Int32).toInt = 10 by decide] at z
    have e : m = 10 := by omega
    rw [e] at m4
    exact h y p1 p2 m4
  rw [i32.2.1, show (10 : Int32).toInt = 10 by decide] at z
  obtain ⟨b1, b2, b3, b4, b5, b6⟩ := p2 q l0
  obtain ⟨c1, c2, c3, c4, c5, c6⟩ := p2 la a0
  refine r_getF ?_
  rw [b3, f0]
  refine r_new (fun g1 hg1 => ?_)
  refine gi_X5 (x0 := y) (Gn_new hg1) hg1 (fun u2 hu2 hl2 => r_astG ?_)
  rw [ix_of m1]
  obtain ⟨d1, d2, d3, d4, d5, d6⟩ := hu2 la c1
  refine ha _ _ ⟨Gn_wG (Gn_tr p1 hu2) nla, fun a haa => ?_, m + 1, by rw [i_add m1 (show (1 : Int32).toInt = 1 by decide) (by omega)]; omega, by omega, fun i hi => ?_, ?_⟩
  · obtain ⟨w1, w2, w3, w4, w5, w6⟩ := p2 a haa
    obtain ⟨v1, v2, v3, v4, v5, v6⟩ := hu2 a w1
    exact ⟨v1, v2.trans w2, v3.trans w3, v4.trans w4, v5.trans w5, fun hne => ((up2_row _ _ _ hne).trans v6).trans (w6 hne)⟩
  · show ∃ z, up2 u2.G la m (some g1) la i = some z ∧ z ∈ u2.LP
    rw [up2_rs]
    by_cases c : i = m
    · rw [c, va_up_self]
      exact ⟨g1, rfl, hl2 g1 (List.mem_append_right _ (List.mem_singleton.mpr rfl))⟩
    · rw [va_up_ne _ _ c, d6]
      obtain ⟨z', y1, y2⟩ := m3 i (by omega)
      exact ⟨z', y1, (hu2 z' y2).1⟩
  · show ∀ i i' z, i < m + 1 → i' < m + 1 → up2 u2.G la m (some g1) la i = some z → up2 u2.G la m (some g1) la i' = some z → i = i'
    rw [up2_rs, d6]
    exact inj_put m3 m4 hg1
/-- the solver: both solutions, its looks -/
theorem gi_X8 (hx : Gn x0 x) (hq : q ∉ x0.LP) (hL : q ∈ x.LP ∧ x.k q = 8) (h : ∀ u, Gn x0 u → q ∈ u.LP ∧ u.k q = 8 → (∃ lt sp la, (lt ∈ u.LP ∧ u.k lt = 7) ∧ (sp ∈ u.LP ∧ u.k sp = 7) ∧ u.F q 0 = some lt ∧ u.F q 2 = some sp ∧ lt ≠ sp ∧ (u.I lt 1 = 0 ∧ u.I lt 2 = 0) ∧ u.F q 3 = some la ∧ la ∈ u.LP ∧ Inj10 (u.G la) ∧ lt ∉ x0.LP ∧ la ∉ x0.LP) → Q u → Q' u) : w_X8_init (some q) x Q (fun _ _ => False) → w_X8_init (some q) x Q' (fun _ _ => False) := by
  unfold w_X8_init
  refine q_ref (r_new (fun lt hlt => ?_))
  have qlt : q ≠ lt := fun z => hlt (by rw [← z]; exact hL.1)
  have nlt := Gn_no hx hlt
  refine gi_X7 (x0 := x) (Gn_new hlt) hlt ⟨congrFun (va_up_self _ _ _) 1, congrFun (va_up_self _ _ _) 2⟩ ⟨List.mem_append_right _ (List.mem_singleton.mpr rfl), va_up_self _ _ _⟩ (fun u1 g1 l1 i1 => r_putF ?_)
  obtain ⟨a1, a2, a3, a4, a5, a6⟩ := g1 q hL.1
  have g1' : Gn x0 (u1.wF (up2 u1.F q 0 (some lt))) := Gn_wF (Gn_tr hx g1) hq
  have f10 : (u1.wF (up2 u1.F q 0 (some lt))).F q 0 = some lt := up2_self _ _ _ _
  have lq1 : q ∈ (u1.wF (up2 u1.F q 0 (some lt))).LP ∧ (u1.wF (up2 u1.F q 0 (some lt))).k q = 8 := ⟨a1, a2.trans hL.2⟩
  have ll1 : lt ∈ (u1.wF (up2 u1.F q 0 (some lt))).LP ∧ (u1.wF (up2 u1.F q 0 (some lt))).k lt = 7 := l1
  have li1 : (u1.wF (up2 u1.F q 0 (some lt))).I lt 1 = 0 ∧ (u1.wF (up2 u1.F q 0 (some lt))).I lt 2 = 0 := i1
  generalize u1.wF (up2 u1.F q 0 (some lt)) = y1 at g1' f10 lq1 ll1 li1 ⊢
  refine r_new (fun sp hsp => ?_)
  have nsp := Gn_no g1' hsp
  refine gi_X7 (x0 := y1) (Gn_new hsp) hsp ⟨congrFun (va_up_self _ _ _) 1, congrFun (va_up_self _ _ _) 2⟩ ⟨List.mem_append_right _ (List.mem_singleton.mpr rfl), va_up_self _ _ _⟩ (fun u2 g2 l2 i2 => r_putF ?_)
  obtain ⟨b1, b2, b3, b4, b5, b6⟩ := g2 q lq1.1
  obtain ⟨c1, c2, c3, c4, c5, c6⟩ := g2 lt ll1.1
  have lts : lt ≠ sp := fun z => hsp (by rw [← z]; exact ll1.1)
  have g2' : Gn x0 (u2.wF (up2 u2.F q 2 (some sp))) := Gn_wF (Gn_tr g1' g2) hq
  have f20 : (u2.wF (up2 u2.F q 2 (some sp))).F q 0 = some lt := by
    show up2 u2.F q 2 (some sp) q 0 = some lt
    rw [up2_k _ _ _ _ (by decide), b3]; exact f10
  have f22 : (u2.wF (up2 u2.F q 2 (some sp))).F q 2 = some sp := up2_self _ _ _ _
  have lq2 : q ∈ (u2.wF (up2 u2.F q 2 (some sp))).LP ∧ (u2.wF (up2 u2.F q 2 (some sp))).k q = 8 := ⟨b1, b2.trans lq1.2⟩
  have ll2 : lt ∈ (u2.wF (up2 u2.F q 2 (some sp))).LP ∧ (u2.wF (up2 u2.F q 2 (some sp))).k lt = 7 := ⟨c1, c2.trans ll1.2⟩
  have ls2 : sp ∈ (u2.wF (up2 u2.F q 2 (some sp))).LP ∧ (u2.wF (up2 u2.F q 2 (some sp))).k sp = 7 := l2
  have li2 : (u2.wF (up2 u2.F q 2 (some sp))).I lt 1 = 0 ∧ (u2.wF (up2 u2.F q 2 (some sp))).I lt 2 = 0 := by
    show u2.I lt 1 = 0 ∧ u2.I lt 2 = 0
    rw [c4]; exact li1
  generalize u2.wF (up2 u2.F q 2 (some sp)) = y2 at g2' f20 f22 lq2 ll2 ls2 li2 ⊢
  refine r_newG (fun la hla => r_putF ?_)
  have nla := Gn_no g2' hla
  have qla : q ≠ la := fun z => hla (by rw [← z]; exact lq2.1)
  have g3 : Gn x0 ((y2.newG la 26 (10 : Int32).toInt.toNat).wF (up2 (y2.newG la 26 (10 : Int32).toInt.toNat).F q 3 (some la))) := Gn_wF (Gn_tr g2' (Gn_newG hla)) hq
  have k3 : ∀ a, a ∈ y2.LP → ((y2.newG la 26 (10 : Int32).toInt.toNat).wF (up2 (y2.newG la 26 (10 : Int32).toInt.toNat).F q 3 (some la))).k a = y2.k a := fun a ha => va_up_ne _ _ (fun z => hla (by rw [← z]; exact ha))
  have f3 : ∀ j, j ≠ 3 → ((y2.newG la 26 (10 : Int32).toInt.toNat).wF (up2 (y2.newG la 26 (10 : Int32).toInt.toNat).F q 3 (some la))).F q j = y2.F q j := fun j hj => up2_k _ _ _ _ hj
  have f33 : ((y2.newG la 26 (10 : Int32).toInt.toNat).wF (up2 (y2.newG la 26 (10 : Int32).toInt.toNat).F q 3 (some la))).F q 3 = some la := up2_self _ _ _ _
  have m3 : ∀ a, a ∈ y2.LP → a ∈ ((y2.newG la 26 (10 : Int32).toInt.toNat).wF (up2 (y2.newG la 26 (10 : Int32).toInt.toNat).F q 3 (some la))).LP := fun a ha => List.mem_append_left _ ha
  have mla : la ∈ ((y2.newG la 26 (10 : Int32).toInt.toNat).wF (up2 (y2.newG la 26 (10 : Int32).toInt.toNat).F q 3 (some la))).LP := List.mem_append_right _ (List.mem_singleton.mpr rfl)
  have i3 : ((y2.newG la 26 (10 : Int32).toInt.toNat).wF (up2 (y2.newG la 26 (10 : Int32).toInt.toNat).F q 3 (some la))).I = y2.I := rfl
  generalize (y2.newG la 26 (10 : Int32).toInt.toNat).wF (up2 (y2.newG la 26 (10 : Int32).toInt.toNat).F q 3 (some la)) = y3 at g3 k3 f3 f33 m3 mla i3 ⊢
  refine r_newJ (fun va hva => r_putF ?_)
  have nva : ∀ a, a ∈ y3.LP → a ≠ va := fun a ha z => hva (by rw [← z]; exact ha)
  have g4 : Gn x0 ((y3.newJ va 20 (8 : Int32).toInt.toNat).wF (up2 (y3.newJ va 20 (8 : Int32).toInt.toNat).F q 4 (some va))) := Gn_wF (Gn_tr g3 (Gn_newJ hva)) hq
  have k4 : ∀ a, a ∈ y3.LP → ((y3.newJ va 20 (8 : Int32).toInt.toNat).wF (up2 (y3.newJ va 20 (8 : Int32).toInt.toNat).F q 4 (some va))).k a = y3.k a := fun a ha => va_up_ne _ _ (nva a ha)
  have f4 : ∀ j, j ≠ 4 → ((y3.newJ va 20 (8 : Int32).toInt.toNat).wF (up2 (y3.newJ va 20 (8 : Int32).toInt.toNat).F q 4 (some va))).F q j = y3.F q j := fun j hj => up2_k _ _ _ _ hj
  have m4 : ∀ a, a ∈ y3.LP → a ∈ ((y3.newJ va 20 (8 : Int32).toInt.toNat).wF (up2 (y3.newJ va 20 (8 : Int32).toInt.toNat).F q 4 (some va))).LP := fun a ha => List.mem_append_left _ ha
  have i4 : ((y3.newJ va 20 (8 : Int32).toInt.toNat).wF (up2 (y3.newJ va 20 (8 : Int32).toInt.toNat).F q 4 (some va))).I = y3.I := rfl
  generalize (y3.newJ va 20 (8 : Int32).toInt.toNat).wF (up2 (y3.newJ va 20 (8 : Int32).toInt.toNat).F q 4 (some va)) = y4 at g4 k4 f4 m4 i4 ⊢
  refine r_newJ (fun wa hwa => r_putF ?_)
  have nwa : ∀ a, a ∈ y4.LP → a ≠ wa := fun a ha z => hwa (by rw [← z]; exact ha)
  have g5 : Gn x0 ((y4.newJ wa 20 (4 : Int32).toInt.toNat).wF (up2 (y4.newJ wa 20 (4 : Int32).toInt.toNat).F q 5 (some wa))) := Gn_wF (Gn_tr g4 (Gn_newJ hwa)) hq
  have k5 : ∀ a, a ∈ y4.LP → ((y4.newJ wa 20 (4 : Int32).toInt.toNat).wF (up2 (y4.newJ wa 20 (4 : Int32).toInt.toNat).F q 5 (some wa))).k a = y4.k a := fun a ha => va_up_ne _ _ (nwa a ha)
  have f5 : ∀ j, j ≠ 5 → ((y4.newJ wa 20 (4 : Int32).toInt.toNat).wF (up2 (y4.newJ wa 20 (4 : Int32).toInt.toNat).F q 5 (some wa))).F q j = y4.F q j := fun j hj => up2_k _ _ _ _ hj
  have m5 : ∀ a, a ∈ y4.LP → a ∈ ((y4.newJ wa 20 (4 : Int32).toInt.toNat).wF (up2 (y4.newJ wa 20 (4 : Int32).toInt.toNat).F q 5 (some wa))).LP := fun a ha => List.mem_append_left _ ha
  have i5 : ((y4.newJ wa 20 (4 : Int32).toInt.toNat).wF (up2 (y4.newJ wa 20 (4 : Int32).toInt.toNat).F q 5 (some wa))).I = y4.I := rfl
  generalize (y4.newJ wa 20 (4 : Int32).toInt.toNat).wF (up2 (y4.newJ wa 20 (4 : Int32).toInt.toNat).F q 5 (some wa)) = y5 at g5 k5 f5 m5 i5 ⊢
  have up : ∀ a, a ∈ y2.LP → a ∈ y5.LP ∧ y5.k a = y2.k a := fun a ha => ⟨m5 a (m4 a (m3 a ha)), by rw [k5 a (m4 a (m3 a ha)), k4 a (m3 a ha), k3 a ha]⟩
  have fq : ∀ j, j ≠ 3 → j ≠ 4 → j ≠ 5 → y5.F q j = y2.F q j := fun j h3 h4 h5 => by rw [f5 j h5, f4 j h4, f3 j h3]
  have f53 : y5.F q 3 = some la := by rw [f5 3 (by decide), f4 3 (by decide)]; exact f33
  refine gi_looks (by decide) g5 (up q lq2.1).1 f53 (m5 la (m4 la mla)) nla (fun u6 g6 h6 j6 => ?_)
  obtain ⟨q1, q2, q3, -⟩ := h6 q (up q lq2.1).1
  obtain ⟨s1, s2, -⟩ := h6 sp (up sp ls2.1).1
  obtain ⟨t1, t2, -, t4, -⟩ := h6 lt (up lt ll2.1).1
  refine h u6 g6 ⟨q1, by rw [q2, (up q lq2.1).2]; exact lq2.2⟩ ⟨lt, sp, la, ⟨t1, by rw [t2, (up lt ll2.1).2]; exact ll2.2⟩, ⟨s1, by rw [s2, (up sp ls2.1).2]; exact ls2.2⟩, by rw [q3, fq 0 (by decide) (by decide) (by decide)]; exact f20, by rw [q3, fq 2 (by decide) (by decide) (by decide)]; exact f22, lts, ?_, by rw [q3]; exact f53, (h6 la (m5 la (m4 la mla))).1, j6, nlt, nla⟩
  rw [t4, i5, i4, i3]; exact li2
end HJ1
