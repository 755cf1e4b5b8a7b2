set_option linter.unusedVariables false
set_option linter.unusedSimpArgs false
/-! the reference: solving, a solution -/
section SZA
variable {b : MT} {fi fi' fi'' : Nat → Int32} {ar ar' ar'' : Nat → Nat → Int32} {a : AS} {sl : Nat → Nat} {Ga Gs Gs0 : List QG} {G : QG} {env : Nat → Int32} {kn kf : Nat → Bool} {R s : SQ} {T : Int32} {st st0 : List Pd} {v : Int32 × Int32 × Int32} {X X' : String → HS → Prop} {QI QI' : Int32 → HS → Prop} {again again' : Int32 × Int32 × Int32 → HS → Prop}
theorem ns_solSt (hb : MB b) (hS : SMh a sl Ga fi ar) (hq : s.1 ≤ mostL ∧ fi 38 = Int32.ofNat s.1 ∧ v.1.toInt = (s.2.1 : Int) ∧ KpM kf s ar ∧ Ga = pdG st ++ [] ∧ StOk a sl ar st) (hv : v.2.1.toInt = (st.length : Int)) (hc : s.2.1 ≤ s.1) (he : EnvM kf env ar) (hR : R = retQ a T.toInt st [] (solA a T.toInt [] env s)) (ha : ∀ v' fi' ar', FrSv fi fi' ar ar' → SvI a sl Ga kf R T.toInt v' fi' ar' → again v' (mS b fi' ar') → again' v' (mS b fi' ar')) :
    wLoop (σ := Int32 × Int32 × Int32) (fun v12 x11 again9 => wIf (8 ≤ v12.2.2) (again ((v12.1 + 1), (v12.2.1 + (-1)), 1) x11) (wIf (100 ≤ v12.1) (again ((v12.1 + 1), (v12.2.1 + (-1)), 1) x11) (wGetF x11 12 54 (some b.o) fun v15 => wGetF x11 12 50 (some b.o) fun v16 => wAldJ x11 20 v16 v12.2.2 fun v17 => wAstI x11 v15 (((8 : Int32) * v12.1) + v12.2.2) v17 fun x18 => again9 (v12.1, v12.2.1, (v12.2.2 + 1)) x18))) (v.1, v.2.1, 0) (mS b fi ar) →
    wLoop (σ := Int32 × Int32 × Int32) (fun v12 x11 again9 => wIf (8 ≤ v12.2.2) (again' ((v12.1 + 1), (v12.2.1 + (-1)), 1) x11) (wIf (100 ≤ v12.1) (again' ((v12.1 + 1), (v12.2.1 + (-1)), 1) x11) (wGetF x11 12 54 (some b.o) fun v15 => wGetF x11 12 50 (some b.o) fun v16 => wAldJ x11 20 v16 v12.2.2 fun v17 => wAstI x11 v15 (((8 : Int32) * v12.1) + v12.2.2) v17 fun x18 => again9 (v12.1, v12.2.1, (v12.2.2 + 1)) x18))) (v.1, v.2.1, 0) (mS b fi ar) := by
  obtain ⟨q1, q2, q3, q4, q5, q6⟩ := hq
  have mL : mostL = 50000 := rfl
  have c1 : ((1 : Int32)).toInt = 1 := by decide
  have cm1 : ((-1 : Int32)).toInt = -1 := by decide
  have h10 := hS.2.2.2.2.1
  have hlen : st.length ≤ 10 := by
    have := congrArg List.length q5
    rw [List.length_append, pdG_len] at this
    have e0 : ([] : List QG).length = 0 := rfl
    omega
  have vm : (v.2.1 + (-1)).toInt = (st.length : Int) - 1 := by rw [i_add hv cm1 (by omega)]; omega
  have vn : (v.1 + 1).toInt = ((s.2.1 + 1 : Nat) : Int) := by rw [i_add q3 c1 (by omega)]; omega
  have leave : ∀ ar2, (∀ j, j ≠ 54 → ar2 j = ar j) → KpM kf (solA a T.toInt [] env s) ar2 → again (v.1 + 1, v.2.1 + (-1), 1) (mS b fi ar2) → again' (v.1 + 1, v.2.1 + (-1), 1) (mS b fi ar2) := fun ar2 h2 hk2 => by
    have hf : FrSv fi fi ar ar2 := FrSv_ar (j0 := 54) (by decide) h2
    refine ha _ _ _ hf ⟨SMh_fr hS hf, Or.inr ⟨st, [], solA a T.toInt [] env s, ⟨q1, q2, vn, hk2, q5, StOk_cg q6 (fun i _ => by rw [h2 51 (by decide)]) (fun p _ j _ _ => by rw [h2 50 (by decide)])⟩, Or.inr ⟨rfl, vm, ?_, hR⟩⟩⟩
    show s.2.1 + 1 ≤ s.1 + 1
    omega
  have fin : ∀ ar2 : Nat → Nat → Int32, (s.2.1 < 100 → ∀ p, ar2 54 p = if 8 * s.2.1 ≤ p ∧ p < 8 * s.2.1 + 8 then ar 50 (p - 8 * s.2.1) else ar 54 p) → (100 ≤ s.2.1 → ar2 54 = ar 54) → KpM kf (solA a T.toInt [] env s) ar2 := fun ar2 m3 m4 i k h1 h2 h3 h4 => by
    have h1 : i < s.2.1 + 1 := h1
    show ar2 54 (8 * i + k) = (if s.2.1 < 100 then va_up s.2.2 s.2.1 env else s.2.2) i k
    by_cases hl : s.2.1 < 100
    · rw [if_pos hl, m3 hl]
      by_cases e : i = s.2.1
      · subst e
        rw [if_pos (by omega), va_up_self, Nat.add_sub_cancel_left]
        exact he k h3 h4
      · rw [if_neg (by omega), va_up_ne _ _ e]
        exact q4 i k (by omega) h2 h3 h4
    · rw [if_neg hl, m4 (by omega)]
      exact q4 i k (by omega) h2 h3 h4
  refine n_loopV (b := b) (fun (u : Int32 × Int32 × Int32) fi2 ar2 => fi2 = fi ∧ u.1 = v.1 ∧ u.2.1 = v.2.1 ∧ (∀ j, j ≠ 54 → ar2 j = ar j) ∧ ∃ m : Nat, u.2.2.toInt = (m : Int) ∧ m ≤ 8 ∧ (s.2.1 < 100 → ∀ p, ar2 54 p = if 8 * s.2.1 ≤ p ∧ p < 8 * s.2.1 + m then ar 50 (p - 8 * s.2.1) else ar 54 p) ∧ (100 ≤ s.2.1 → ar2 54 = ar 54)) ⟨rfl, rfl, rfl, fun _ _ => rfl, 0, show (0 : Int32).toInt = ((0 : Nat) : Int) by decide, by omega, fun _ p => by rw [if_neg (by omega)], fun _ => rfl⟩ (fun u fi2 ar2 again2 again2' ⟨e1, e2, e3, hA, m, m1, m2, m3, m4⟩ ha2 => ?_)
  subst e1
  rw [e2, e3]
  refine qv_if (fun c => ?_) (fun c => qv_if (fun c2 => ?_) (fun c2 => ?_))
  · rw [i32.2.1, show (8 : Int32).toInt = 8 by decide] at c
    have em : m = 8 := by omega
    rw [em] at m3
    exact leave ar2 hA (fin ar2 m3 m4)
  · rw [i32.2.1, show (100 : Int32).toInt = 100 by decide] at c2
    exact leave ar2 hA (fin ar2 (fun y => absurd y (by omega)) m4)
  · rw [i32.2.1, show (8 : Int32).toInt = 8 by decide] at c
    rw [i32.2.1, show (100 : Int32).toInt = 100 by decide] at c2
    have hl : s.2.1 < 100 := by omega
    have ep : ((8 : Int32) * v.1 + u.2.2).toInt = ((8 * s.2.1 + m : Nat) : Int) := by rw [i_add (i_mul (show (8 : Int32).toInt = 8 by decide) q3 (by omega)) m1 (by omega)]; omega
    refine n_getF hb (by decide) (n_getF hb (by decide) (nv_ald hb (by decide) (by decide) (fun _ => nv_astI hb (by decide) (by decide) (fun _ => ?_))))
    rw [ix_of ep, ix_of m1, hA 50 (by decide)]
    refine ha2 _ _ _ ⟨rfl, rfl, rfl, fun j hj => by rw [up2_row _ _ _ hj]; exact hA j hj, m + 1, by show (u.2.2 + 1).toInt = _; rw [i_add m1 c1 (by omega)]; omega, by omega, fun _ p => ?_, fun y => absurd y (by omega)⟩
    by_cases e : p = 8 * s.2.1 + m
    · rw [e, up2_self, if_pos (by omega), Nat.add_sub_cancel_left]
    · rw [up2_k _ _ _ _ e, m3 hl p]
      by_cases c3 : 8 * s.2.1 ≤ p ∧ p < 8 * s.2.1 + m
      · rw [if_pos c3, if_pos (by omega)]
      · rw [if_neg c3, if_neg (by omega)]
end SZA
