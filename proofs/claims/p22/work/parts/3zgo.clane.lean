set_option linter.unusedVariables false
set_option linter.unusedSimpArgs false
/-! the class: which lane is taken, exactly -/
/-- nothing before l is asked for and has an index -/
def LaX (E : Nat → Nat → Nat → Option Nat) (m : Int32) (dt : Nat) (c : Int) (l : Nat) : Prop := ∀ i : Nat, i < 4 → (i : Int) < c → i < l → ¬ (bitm m i = true ∧ E dt 3 i ≠ none)
section SO1
variable {b : CT} {I : Nat → Nat → Int32} {F : Nat → Nat → Option Nat} {A : Nat → Nat → Nat → Int32} {E : Nat → Nat → Nat → Option Nat} {t q : Nat} {m : Int32} {a : AS} {X X' : String → HS → Prop} {QI QI' : Int32 → HS → Prop}
theorem qs_laneFor (hb : CB b) {dt : Nat} (hc : (I dt 1).toInt ≤ 4) (h : ∀ v l, LaO E m dt v l → (l < 4 → (l : Int) < (I dt 1).toInt) → LaX E m dt (I dt 1).toInt l → QI v (cS b I F A E) → QI' v (cS b I F A E)) : w_X10_laneFor (some dt) m (cS b I F A E) QI X → w_X10_laneFor (some dt) m (cS b I F A E) QI' X' := by
  unfold w_X10_laneFor
  refine qc_loop0 (fun v => ∃ i : Nat, v.toInt = (i : Int) ∧ ∀ j, j < i → ¬ (bitm m j = true ∧ E dt 3 j ≠ none)) ⟨0, by decide, fun j hj => absurd hj (by omega)⟩ (fun v again again' ⟨i, i1, i2⟩ ha => ?_)
  refine qc_getI (fun hd => ?_)
  refine qv_if (fun z => ?_) (fun z => ?_)
  · simp only [i32] at z
    exact h 4 4 ⟨by decide, Or.inl rfl⟩ (fun y => absurd y (by omega)) (fun j _ hj _ => i2 j (by omega))
  simp only [i32] at z
  have nxt : ¬ (bitm m i = true ∧ E dt 3 i ≠ none) → again (v + 1) (cS b I F A E) → again' (v + 1) (cS b I F A E) := fun hno => ha _ ⟨i + 1, by rw [i_add i1 (show (1 : Int32).toInt = 1 by decide) (by omega)]; omega, fun j hj => by
    by_cases e : j = i
    · rw [e]; exact hno
    · exact i2 j (by omega)⟩
  refine qc_isIn i1 ?_
  dsimp only [wJoin]
  cases hbm : bitm m i with
  | false => exact qv_if (fun _ => nxt (fun y => by rw [hbm] at y; cases y.1)) (fun z => absurd rfl z)
  | true =>
    refine qv_if (fun z => absurd z (by decide)) (fun _ => ?_)
    refine qc_getA hb (by decide) (fun _ => ?_)
    refine qc_aldG hb hd (by decide) (by decide) (fun _ => ?_)
    rw [ix_of i1]
    exact qv_if (fun z2 => nxt (fun y => y.2 z2)) (fun z2 => h v i ⟨i1, Or.inr ⟨by omega, hbm, z2⟩⟩ (fun _ => by omega) (fun j _ _ hj => i2 j hj))
/-- what that is in words of the tables -/
theorem lane_eq {dt l : Nat} {mm : Int32} (hm : ∀ k, k < 4 → bitm mm k = (bitm m k && decide ((k : Int) < (a.co t).toInt))) (hix : ∀ k, k < 4 → (E dt 3 k ≠ none ↔ a.ix t k = true)) (hl : l = 4 ∨ l < 4 ∧ bitm mm l = true ∧ E dt 3 l ≠ none) (hX : LaX E mm dt (a.co t).toInt l) : laneA a t m = if l = 4 then none else some l := by
  have no : ∀ i, i < 4 → i < l → (decide ((i : Int) < (a.co t).toInt) && (bitm m i && a.ix t i)) = false := fun i hi hil => by
    by_cases hc : (i : Int) < (a.co t).toInt
    · have := hX i hi hc hil
      rw [hm i hi, hix i hi] at this
      rw [decide_eq_true hc]
      cases h1 : bitm m i with
      | false => rfl
      | true =>
        cases h2 : a.ix t i with
        | false => rfl
        | true => exact absurd ⟨by rw [h1, decide_eq_true hc]; rfl, h2⟩ this
    · rw [decide_eq_false hc]; rfl
  unfold laneA
  rcases hl with hl | ⟨h4, hb, he⟩
  · rw [if_pos hl, List.find?_eq_none]
    intro i hi
    rw [no i (List.mem_range.mp hi) (by have := List.mem_range.mp hi; omega)]
    decide
  · rw [if_neg (by omega)]
    have yes : (decide ((l : Int) < (a.co t).toInt) && (bitm m l && a.ix t l)) = true := by
      rw [hm l h4] at hb
      have hb := Bool.and_eq_true_iff.mp hb
      rw [hb.1, hb.2, (hix l h4).mp he]; rfl
    have gen : ∀ (p : Nat → Bool), p l = true → (∀ i, i < 4 → i < l → p i = false) → (List.range 4).find? p = some l := fun p h1 h2 => by
      have e4 : List.range 4 = [0, 1, 2, 3] := rfl
      rw [e4]
      have c4 : l = 0 ∨ l = 1 ∨ l = 2 ∨ l = 3 := by omega
      rcases c4 with e | e | e | e
      · rw [e] at h1 ⊢
        rw [List.find?_cons, h1]
      · rw [e] at h1 ⊢
        rw [List.find?_cons, h2 0 (by omega) (by omega)]
        show List.find? p [1, 2, 3] = _
        rw [List.find?_cons, h1]
      · rw [e] at h1 ⊢
        rw [List.find?_cons, h2 0 (by omega) (by omega)]
        show List.find? p [1, 2, 3] = _
        rw [List.find?_cons, h2 1 (by omega) (by omega)]
        show List.find? p [2, 3] = _
        rw [List.find?_cons, h1]
      · rw [e] at h1 ⊢
        rw [List.find?_cons, h2 0 (by omega) (by omega)]
        show List.find? p [1, 2, 3] = _
        rw [List.find?_cons, h2 1 (by omega) (by omega)]
        show List.find? p [2, 3] = _
        rw [List.find?_cons, h2 2 (by omega) (by omega)]
        show List.find? p [3] = _
        rw [List.find?_cons, h1]
    exact gen _ yes no
end SO1
