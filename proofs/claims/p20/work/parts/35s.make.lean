set_option linter.unusedVariables false
set_option linter.unusedSimpArgs false
section C19
variable {b : CT} {g : Gh} {o s h N : Nat} {vv : Nat → Int32} {I : Nat → Nat → Int32} {F : Nat → Nat → Option Nat} {A : Nat → Nat → Nat → Int32} {E : Nat → Nat → Nat → Option Nat} {W : Nat → Prop} {X : String → HS → Prop} {Q : HS → Prop} {QI : Int32 → HS → Prop} {QF : Option Nat → HS → Prop}
theorem cnt_mono {p q : Nat → Bool} : ∀ {n : Nat}, (∀ i, i < n → p i = true → q i = true) → cnt p n ≤ cnt q n
  | 0, _ => Nat.le_refl _
  | n + 1, h => by
    have := cnt_mono (n := n) (fun i hi => h i (by omega))
    rw [cnt_succ, cnt_succ]
    by_cases hp : p n = true
    · rw [if_pos hp, if_pos (h n (by omega) hp)]; omega
    · rw [if_neg hp]; omega
theorem cnt_less {p q : Nat → Bool} {i0 : Nat} : ∀ {n : Nat}, i0 < n → (∀ i, i < n → p i = true → q i = true) → p i0 = false → q i0 = true → cnt p n + 1 ≤ cnt q n
  | 0, h, _, _, _ => absurd h (Nat.not_lt_zero _)
  | n + 1, h0, h, h1, h2 => by
    rw [cnt_succ, cnt_succ]
    by_cases he : i0 = n
    · subst he
      have := cnt_mono (n := i0) (fun i hi => h i (by omega))
      rw [if_pos h2, if_neg (by rw [h1]; decide)]; omega
    · have := cnt_less (n := n) (by omega) (fun i hi => h i (by omega)) h1 h2
      by_cases hp : p n = true
      · rw [if_pos hp, if_pos (h n (by omega) hp)]; omega
      · rw [if_neg hp]; omega
/-- how many are left in a row -/
theorem row_cnt (hL : LO b g I F E) (hK : KP b g s I E) : ∃ C : Option Nat → Nat, (∀ w, C w ≤ 3000) ∧ ∀ f t, On g F 4 t (some f) → C (E f 1 4) + 1 ≤ C (some f) := by
  refine ⟨fun w => cnt (fun i => @decide (∃ f, E s 1 i = some f ∧ g.R 4 f < rk g 4 w) (Classical.propDecidable _)) 3000, fun w => cnt_le _ _, fun f t hf => ?_⟩
  obtain ⟨h1, h2, h3⟩ := On_step hL hf
  obtain ⟨i, hi, hi2⟩ := hK.2.2.2.2.2 f (hf f rfl).1
  have := hK.2.1
  have e : rk g 4 (some f) = g.R 4 f + 1 := rfl
  refine cnt_less (i0 := i) (by omega) (fun j hj hp => ?_) ?_ ?_
  · obtain ⟨f', z1, z2⟩ := @of_decide_eq_true _ (Classical.propDecidable _) hp
    exact @decide_eq_true _ (Classical.propDecidable _) ⟨f', z1, by omega⟩
  · refine @decide_eq_false _ (Classical.propDecidable _) (fun ⟨f', z1, z2⟩ => ?_)
    rw [hi2] at z1; cases z1
    rw [e] at h3; omega
  · exact @decide_eq_true _ (Classical.propDecidable _) ⟨f, hi2, by omega⟩
theorem c_newIndex (hb : CB b) (hc : 2 ≤ b.B.c) (hz : 66 ≤ b.B.z) {k : Int32} {Z : Option Nat → HS → Prop} (hZ : ∀ q b' I' F' A' E', CB b' → Xt b b' → q ∉ b.B.LP → Is b' 4 q → (∀ c a, Is b' c a → Is b c a ∨ a = q ∧ c = 4 ∨ a ∉ b.B.LP ∧ 20 ≤ c) → b'.B.c = b.B.c - 2 → b'.B.z = b.B.z - 66 → (∀ a, a ∈ b.B.LP → I' a = I a ∧ F' a = F a ∧ A' a = A a ∧ E' a = E a) → I' q 0 = k → (∀ i, E' q 1 i = none) → Z (some q) (cS b' I' F' A' E')) :
    wNew (cS b I F A E) 4 2 fun q6 x7 => w_X4_init q6 k x7 (fun x8 => Z q6 x8) (fun _ _ => False) := by
  refine c_new hb.1 (by omega) (by omega) (fun q hq => ?_)
  have x1 := CBX_new (ci := 4) (N := 2) (CBX_nil.mpr hb) hq
  have t1 := Pa_new (ci := 4) (N := 2) hb.1 hq
  have is1 := bnew_Is (ci := 4) (N := 2) hq
  have q1 : Is (bnew b q 4 2) 4 q := (is1 4 q).mpr (Or.inr ⟨rfl, rfl⟩)
  simp only [w_X4_init, wRef, Option.some.injEq, exists_eq', true_and]
  refine c_newG (j := 1) (N := 64) x1.1 q1 (Pa_no t1 (by decide)) (by decide) (by decide) (by show 1 ≤ b.B.c - 1; omega) (by show 64 ≤ b.B.z - 2; omega) (fun p e hp => ?_)
  obtain ⟨x2, t2⟩ := Pa_arr (kd := 29) (N := 64) x1 q1 t1 List.mem_cons_self hp (j := 1) (by decide) (by decide) (by decide) (by decide)
  have is2 := barr_Is (b := bnew b q 4 2) (q := q) (j := 1) (kd := 29) (N := 64) hp
  have q2 := (is2 4 q).mpr (Or.inl q1)
  have x3 := CBX_nil.mp (Pa_end x2 t2 q2 oF4)
  rw [c_putI q2]
  have l1 : ∀ a, a ∈ b.B.LP → a ≠ q := fun a ha => bnew_k hq ha
  refine hZ q _ _ _ _ _ x3 ⟨fun c a h => (is2 c a).mpr (Or.inl ((is1 c a).mpr (Or.inl h))), fun a j ha => ?_⟩ hq q2 (fun c a h => ?_) ?_ ?_ (fun a ha => ⟨?_, ?_, ?_, ?_⟩) ?_ ?_
  · show up2 (fun a j => (bnew b q 4 2).ad a j) q 1 p a j = b.ad a j
    rw [up2_a _ _ _ _ (l1 a ha)]; rfl
  · rcases (is2 c a).mp h with h | ⟨rfl, rfl⟩
    · rcases (is1 c a).mp h with h | ⟨rfl, rfl⟩
      · exact Or.inl h
      · exact Or.inr (Or.inl ⟨rfl, rfl⟩)
    · exact Or.inr (Or.inr ⟨fun z => hp (List.mem_append_left _ z), by decide⟩)
  · show b.B.c - 1 - 1 = _; omega
  · show b.B.z - 2 - 64 = _; omega
  · funext j; rw [up2_a _ _ _ _ (l1 a ha), va_up_ne _ _ (l1 a ha)]
  · rw [va_up_ne _ _ (l1 a ha)]
  · funext j; rw [up2_a _ _ _ _ (l1 a ha)]
  · funext j; rw [up2_a _ _ _ _ (l1 a ha)]
  · rw [up2_self]
  · intro i; rw [up2_self]
end C19
