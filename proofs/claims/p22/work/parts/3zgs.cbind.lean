set_option linter.unusedVariables false
set_option linter.unusedSimpArgs false
/-! the class: a fact is bound -/
/-- only the variables of v have changed -/
def Av4 (v : Nat) (A A' : Nat → Nat → Nat → Int32) : Prop := (∀ x, x ≠ v → A' x = A x) ∧ ∀ j, j ≠ 4 → A' v j = A v j
/-- the known ones stay -/
def KpV (kn : Nat → Bool) (v : Nat) (A A' : Nat → Nat → Nat → Int32) : Prop := ∀ j, j < 8 → kn j = true → A' v 4 j = A v 4 j
section SS3
variable {b : CT} {I I' : Nat → Nat → Int32} {F F' : Nat → Nat → Option Nat} {A A' A'' : Nat → Nat → Nat → Int32} {E : Nat → Nat → Nat → Option Nat} {v q i j k n t : Nat} {d fa : Nat → Nat} {kn : Nat → Bool} {G : QG} {a : AS} {env : Nat → Int32} {X X' : String → HS → Prop} {QI QI' : Int32 → HS → Prop}
theorem Av4_rf : Av4 v A A := ⟨fun _ _ => rfl, fun _ _ => rfl⟩
theorem Av4_tr (h : Av4 v A A') (h2 : Av4 v A' A'') : Av4 v A A'' := ⟨fun x z => (h2.1 x z).trans (h.1 x z), fun j z => (h2.2 j z).trans (h.2 j z)⟩
theorem KpV_rf : KpV kn v A A := fun _ _ _ => rfl
theorem KpV_tr (h : KpV kn v A A') (h2 : KpV kn v A' A'') : KpV kn v A A'' := fun j z1 z2 => (h2 j z1 z2).trans (h j z1 z2)
theorem KpV_of (h : A' v 4 = A v 4) : KpV kn v A A' := fun j _ _ => by rw [h]
theorem EnvC_kp (h : EnvC kn env A v) (h2 : KpV kn v A A') : EnvC kn env A' v := fun j z1 z2 => (h2 j z1 z2).trans (h j z1 z2)
/-- the same variable, the same value: what binding sees of it -/
theorem oneB_yes {W : Nat → Int32} (hok : ∀ x, x ∈ G.ag → argOk x) (hfit : ∀ k x, G.ag[k]? = some x → x.1 = 1 → G.kn (ix x.2) = true → a.fc n k = env (ix x.2)) (hJ : ∀ k x, G.ag[k]? = some x → x.1 = 1 → G.kn (ix x.2) = false → W (ix x.2) = a.fc n k) : oneB a G.ag n = true := by
  unfold oneB
  rw [range_all]
  intro k hk
  rw [range_all]
  intro i hi
  cases hx : G.ag[k]? with
  | none => rfl
  | some x =>
    cases hy : G.ag[i]? with
    | none => rfl
    | some y =>
      show (!(x.1 == 1 && y.1 == 1 && x.2 == y.2) || a.fc n k == a.fc n i) = true
      by_cases hc : x.1 = 1 ∧ y.1 = 1 ∧ x.2 = y.2
      · obtain ⟨e1, e2, e3⟩ := hc
        have : a.fc n k = a.fc n i := by
          cases hkn : G.kn (ix x.2) with
          | true => rw [hfit k x hx e1 hkn, hfit i y hy e2 (by rw [← e3]; exact hkn), e3]
          | false => rw [← hJ k x hx e1 hkn, ← hJ i y hy e2 (by rw [← e3]; exact hkn), e3]
        rw [this]; simp
      · have : (x.1 == 1 && y.1 == 1 && x.2 == y.2) = false := by
          cases hq : (x.1 == 1 && y.1 == 1 && x.2 == y.2) with
          | false => rfl
          | true =>
            exfalso
            simp only [Bool.and_eq_true, beq_iff_eq] at hq
            exact hc ⟨hq.1.1, hq.1.2, hq.2⟩
        rw [this]; rfl
theorem oneB_no {x y : QA} (hx : G.ag[k]? = some x) (hy : G.ag[i]? = some y) (hik : i < k) (h1 : x.1 = 1) (h2 : y.1 = 1) (h3 : x.2 = y.2) (hne : a.fc n k ≠ a.fc n i) : oneB a G.ag n = false := by
  cases ho : oneB a G.ag n with
  | false => rfl
  | true =>
    exfalso
    unfold oneB at ho
    have := range_all.mp (range_all.mp ho k (List.getElem?_eq_some_iff.mp hx).1) i hik
    rw [hx, hy] at this
    have this : (!(x.1 == 1 && y.1 == 1 && x.2 == y.2) || a.fc n k == a.fc n i) = true := this
    rw [h1, h2, h3] at this
    simp at this
    exact hne this
theorem bind_env (hok : ∀ x, x ∈ G.ag → argOk x) (he : EnvC G.kn env A v) (hkp : KpV G.kn v A A') (hJ : ∀ k x, G.ag[k]? = some x → x.1 = 1 → G.kn (ix x.2) = false → A' v 4 (ix x.2) = a.fc n k) : EnvC (mkKn G.kn G.ag) (bindE a env G n) A' v := fun j hj hk => by
  unfold bindE
  cases hkn : G.kn j with
  | true => rw [if_pos rfl, hkp j hj hkn]; exact he j hj hkn
  | false =>
    rw [if_neg (by decide)]
    unfold mkKn at hk
    rw [hkn, Bool.false_or] at hk
    cases hf : G.ag.findIdx? (isV j) with
    | none =>
      exfalso
      obtain ⟨x, hx, hv⟩ := List.any_eq_true.mp hk
      have := List.findIdx?_eq_none_iff.mp hf x hx
      rw [hv] at this; cases this
    | some k =>
      obtain ⟨hlt, hp, -⟩ := List.findIdx?_eq_some_iff_getElem.mp hf
      have hx : G.ag[k]? = some (G.ag[k]) := List.getElem?_eq_getElem hlt
      unfold isV at hp
      have hp := Bool.and_eq_true_iff.mp hp
      have e1 : (G.ag[k]).1 = 1 := beq_iff_eq.mp hp.1
      have e2 : ix (G.ag[k]).2 = j := beq_iff_eq.mp hp.2
      have := hJ k _ hx e1 (by rw [e2]; exact hkn)
      rw [e2] at this
      exact this
theorem qs_bind (hb : CB b) (hv : Is b 8 v) (hq : Is b 2 q) (hf : CF1 a b d fa I F A t n) (hgo : GoC q d G I F A) (hk : G.kd ≤ 1) (hw : WfG a.tn a.co G) (hcol : I (d G.tb) 1 = a.co G.tb) (hc4 : (a.co G.tb).toInt ≤ 4) (hfit : ∀ k x, G.ag[k]? = some x → x.1 = 1 → G.kn (ix x.2) = true → a.fc n k = env (ix x.2)) (he : EnvC G.kn env A v)
    (h1 : ∀ A', Av4 v A A' → KpV G.kn v A A' → oneB a G.ag n = true → EnvC (mkKn G.kn G.ag) (bindE a env G n) A' v → QI 1 (cS b I F A' E) → QI' 1 (cS b I F A' E))
    (h0 : ∀ A', Av4 v A A' → KpV G.kn v A A' → oneB a G.ag n = false → QI 0 (cS b I F A' E) → QI' 0 (cS b I F A' E)) : w_X8_bind (some v) (some q) (some (fa n)) (cS b I F A E) QI X → w_X8_bind (some v) (some q) (some (fa n)) (cS b I F A E) QI' X' := by
  obtain ⟨c1, c2, c30, -, -⟩ := hgo
  obtain ⟨c3, c4, c5⟩ := c30 hk
  obtain ⟨w1, w2, w30, -, -⟩ := hw
  obtain ⟨w3, w4⟩ := w30 hk
  have hqv : q ≠ v := Is_ne hq hv (by decide)
  have hfv : fa n ≠ v := Is_ne hf.1 hv (by decide)
  unfold w_X8_bind
  refine qc_loop (fun u b' I' F' A' E' => b' = b ∧ I' = I ∧ F' = F ∧ E' = E ∧ Av4 v A A' ∧ KpV G.kn v A A' ∧ ∃ m : Nat, u.toInt = (m : Int) ∧ m ≤ G.ag.length ∧ ∀ k x, k < m → G.ag[k]? = some x → x.1 = 1 → G.kn (ix x.2) = false → A' v 4 (ix x.2) = a.fc n k) ⟨rfl, rfl, rfl, rfl, Av4_rf, KpV_rf, 0, by decide, by omega, fun k x hk => absurd hk (by omega)⟩ (fun u b' I' F' A' E' again again' ⟨e1, e2, e3, e4, hA1, hA2, m, m1, m2, m3⟩ ha => ?_)
  subst e1; subst e2; subst e3; subst e4
  refine qc_getF hb (by decide) (fun _ => ?_)
  rw [c3]
  refine qc_getI (fun _ => ?_)
  rw [hcol]
  refine qv_if (fun z => ?_) (fun z => ?_)
  · simp only [i32] at z
    have em : m = G.ag.length := by omega
    have J : ∀ k x, G.ag[k]? = some x → x.1 = 1 → G.kn (ix x.2) = false → A' v 4 (ix x.2) = a.fc n k := fun k x hx => m3 k x (by have := (List.getElem?_eq_some_iff.mp hx).1; omega) hx
    exact qc_bit (h1 A' hA1 hA2 (oneB_yes (W := A' v 4) w2 hfit J) (bind_env w2 he hA2 J))
  · simp only [i32] at z
    have hm : m < G.ag.length := by omega
    have hm4 : m < 4 := by omega
    have um : ix u = m := ix_of m1
    have hx : G.ag[m]? = some (G.ag[m]) := List.getElem?_eq_getElem hm
    generalize G.ag[m] = x at hx
    have okx := w2 x (List.mem_of_getElem? hx)
    obtain ⟨d1, d2⟩ := c5 m x hx
    have nxt : ∀ A2, Av4 v A A2 → KpV G.kn v A A2 → (∀ k y, k < m + 1 → G.ag[k]? = some y → y.1 = 1 → G.kn (ix y.2) = false → A2 v 4 (ix y.2) = a.fc n k) → again (u + 1) (cS b' I' F' A2 E') → again' (u + 1) (cS b' I' F' A2 E') := fun A2 z1 z2 z3 => ha _ _ _ _ _ _ ⟨rfl, rfl, rfl, rfl, z1, z2, m + 1, by rw [i_add m1 (show (1 : Int32).toInt = 1 by decide) (by omega)]; omega, hm, z3⟩
    have stay : (x.1 = 1 → G.kn (ix x.2) = true) → again (u + 1) (cS b' I' F' A' E') → again' (u + 1) (cS b' I' F' A' E') := fun hno => nxt A' hA1 hA2 (fun k y hk hy e1 e2 => by
      by_cases e : k = m
      · rw [e, hx] at hy
        cases hy
        rw [hno e1] at e2; cases e2
      · exact m3 k y (by omega) hy e1 e2)
    have a0 : A' q 0 m = kdS G.kn (G.ag.take m) x := by rw [hA1.1 q hqv]; exact d1
    have a1 : x.1 ≠ 2 → A' q 1 m = x.2 := fun y => by rw [hA1.1 q hqv]; exact d2 y
    have af : A' (fa n) 0 m = a.fc n m := by rw [hA1.1 _ hfv]; exact hf.2.2.1 m hm4
    refine qc_getA hb (by decide) (fun _ => ?_)
    refine qc_ald hb hq (by decide) (by decide) (fun _ => ?_)
    rw [um, a0]
    dsimp only [wJoin]
    by_cases hx1 : x.1 = 1
    · have a1 := a1 (by omega)
      obtain ⟨x0, x8⟩ := okx.2 hx1
      have hxi : ix x.2 < 8 := by have := ix_int x0; omega
      cases hkx : G.kn (ix x.2) with
      | true =>
        have ek : kdS G.kn (G.ag.take m) x = 1 := by unfold kdS; rw [if_pos hx1, hkx]; rfl
        rw [ek]
        refine qv_if (fun z => absurd z (by decide)) (fun _ => ?_)
        refine qc_getA hb (by decide) (fun _ => ?_)
        refine qc_ald hb hq (by decide) (by decide) (fun _ => ?_)
        rw [um, a0, ek]
        exact qv_if (fun z => absurd z (by decide)) (fun _ => stay (fun _ => hkx))
      | false =>
        cases han : (G.ag.take m).any (isV (ix x.2)) with
        | false =>
          have ek : kdS G.kn (G.ag.take m) x = 2 := by unfold kdS; rw [if_pos hx1, hkx, han]; rfl
          rw [ek]
          refine qv_if (fun _ => ?_) (fun z => absurd rfl z)
          refine qc_getA hb (by decide) (fun _ => ?_)
          refine qc_getA hb (by decide) (fun _ => ?_)
          refine qc_ald hb hq (by decide) (by decide) (fun _ => ?_)
          rw [um, a1]
          refine qc_getA hb (by decide) (fun _ => ?_)
          refine qc_ald hb hf.1 (by decide) (by decide) (fun _ => ?_)
          rw [um, af]
          refine qc_astI hb hv (by decide) (fun _ => ?_)
          refine nxt _ ⟨fun y hy => ?_, fun j hj => ?_⟩ (fun j hj hkj => ?_) (fun k y hk hy e1 e2 => ?_)
          · rw [← hA1.1 y hy]; funext j; exact up3_ne (fun z => hy z.1)
          · rw [← hA1.2 j hj]; exact up3_ne (fun z => hj z.2)
          · rw [up3_at, va_up_ne _ _ (fun z => by rw [z, hkx] at hkj; cases hkj)]
            exact hA2 j hj hkj
          · rw [up3_at]
            by_cases e : k = m
            · rw [e, hx] at hy
              cases hy
              rw [va_up_self, e]
            · have hne : ix y.2 ≠ ix x.2 := fun z => by
                have : (G.ag.take m).any (isV (ix x.2)) = true := List.any_eq_true.mpr ⟨y, List.mem_of_getElem? (i := k) (by rw [List.getElem?_take, if_pos (by omega)]; exact hy), by unfold isV; rw [e1, z]; simp⟩
                rw [han] at this; cases this
              rw [va_up_ne _ _ hne]
              exact m3 k y (by omega) hy e1 e2
        | true =>
          have ek : kdS G.kn (G.ag.take m) x = 3 := by unfold kdS; rw [if_pos hx1, hkx, han]; rfl
          obtain ⟨y, hy, hyv⟩ := List.any_eq_true.mp han
          obtain ⟨k, hk2, hk3⟩ := List.getElem_of_mem hy
          have hkm : k < m := by rw [List.length_take] at hk2; omega
          have hyk : G.ag[k]? = some y := by
            have : (G.ag.take m)[k]? = some y := by rw [List.getElem?_eq_getElem hk2, hk3]
            rw [List.getElem?_take, if_pos hkm] at this; exact this
          unfold isV at hyv
          have hyv := Bool.and_eq_true_iff.mp hyv
          have y1 : y.1 = 1 := beq_iff_eq.mp hyv.1
          have y2 : ix y.2 = ix x.2 := beq_iff_eq.mp hyv.2
          have old : A' v 4 (ix x.2) = a.fc n k := by
            have := m3 k y hkm hyk y1 (by rw [y2]; exact hkx)
            rw [y2] at this; exact this
          rw [ek]
          refine qv_if (fun z => absurd z (by decide)) (fun _ => ?_)
          refine qc_getA hb (by decide) (fun _ => ?_)
          refine qc_ald hb hq (by decide) (by decide) (fun _ => ?_)
          rw [um, a0, ek]
          refine qv_if (fun _ => ?_) (fun z => absurd rfl z)
          refine qc_getA hb (by decide) (fun _ => ?_)
          refine qc_getA hb (by decide) (fun _ => ?_)
          refine qc_ald hb hq (by decide) (by decide) (fun _ => ?_)
          rw [um, a1]
          refine qc_ald hb hv (by decide) (by decide) (fun _ => ?_)
          rw [old]
          refine qc_getA hb (by decide) (fun _ => ?_)
          refine qc_ald hb hf.1 (by decide) (by decide) (fun _ => ?_)
          rw [um, af]
          refine qv_if (fun z2 => ?_) (fun z2 => ?_)
          · refine nxt A' hA1 hA2 (fun k' y' hk' hy' e1 e2 => ?_)
            by_cases e : k' = m
            · rw [e, hx] at hy'
              cases hy'
              rw [old, e, z2]
            · exact m3 k' y' (by omega) hy' e1 e2
          · have okyy := (w2 y (List.mem_of_getElem? hyk)).2 y1
            have exy : x.2 = y.2 := i_ext (by have := ix_int x0; have := ix_int okyy.1; omega)
            exact qc_bit (h0 A' hA1 hA2 (oneB_no hx hyk hkm hx1 y1 exy (fun z => z2 z.symm)))
    · have ek : kdS G.kn (G.ag.take m) x = kdN x := by unfold kdS; rw [if_neg hx1]
      have ek2 : kdN x ≠ 2 ∧ kdN x ≠ 3 := by
        unfold kdN
        rw [if_neg hx1]
        split <;> exact ⟨by decide, by decide⟩
      rw [ek]
      refine qv_if (fun z => absurd z ek2.1) (fun _ => ?_)
      refine qc_getA hb (by decide) (fun _ => ?_)
      refine qc_ald hb hq (by decide) (by decide) (fun _ => ?_)
      rw [um, a0, ek]
      exact qv_if (fun z => absurd z ek2.2) (fun _ => stay (fun y => absurd y hx1))
end SS3
