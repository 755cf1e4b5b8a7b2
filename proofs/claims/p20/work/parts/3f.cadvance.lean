set_option linter.unusedVariables false
set_option linter.unusedSimpArgs false
/-! the class: a look goes on -/
/-- of a thing q only these fields may have changed -/
def Iq (q : Nat) (js : List Nat) (I I' : Nat → Nat → Int32) : Prop := (∀ x, x ≠ q → I' x = I x) ∧ ∀ j, j ∉ js → I' q j = I q j
theorem Iq_rf {q : Nat} {js : List Nat} {I : Nat → Nat → Int32} : Iq q js I I := ⟨fun _ _ => rfl, fun _ _ => rfl⟩
theorem Iq_up {q j : Nat} {js : List Nat} {I I' : Nat → Nat → Int32} {v : Int32} (h : Iq q js I I') (hj : j ∈ js) : Iq q js I (up2 I' q j v) := ⟨fun x hx => by
  rw [← h.1 x hx]; funext j'; exact if_neg (fun z => hx z.1), fun j' hj' => by
  rw [← h.2 j' hj']; exact if_neg (fun z => hj' (by rw [z.2]; exact hj))⟩
theorem Iq_mono {q : Nat} {js js' : List Nat} {I I' : Nat → Nat → Int32} (h : Iq q js I I') (hs : ∀ j, j ∈ js → j ∈ js') : Iq q js' I I' := ⟨h.1, fun j hj => h.2 j (fun z => hj (hs j z))⟩
section VF1
variable {b : CT} {I : Nat → Nat → Int32} {F : Nat → Nat → Option Nat} {A : Nat → Nat → Nat → Int32} {E : Nat → Nat → Nat → Option Nat} {o t n n' k f c p x w j ci q : Nat} {m : Int32} {T : Int} {a : AS} {g : CGs} {ov : Bool} {la : Option Nat} {vs : Nat → Int32} {X X' : String → HS → Prop} {Q Q' : HS → Prop} {QI QI' : Int32 → HS → Prop} {QF QF' : Option Nat → HS → Prop}
/-- one of the rest -/
def lkO (a : AS) (t : Nat) (ov : Bool) (m : Int32) (T : Int) (la : Option Nat) (vs : Nat → Int32) : Option Nat := if ov then none else (restA (a.rw t) la).find? (askB a t m vs T)
theorem qc_advance (hx : CXx o a g b I F A E) (hV : AV a) (hq : Is b 5 q) (hL : Lk1 a q t ov m T la vs g.d g.fa I F A)
    (h0 : ov = true → QF none (cS b I F A E) → QF' none (cS b I F A E))
    (h1 : ∀ I', ov = false → lkO a t ov m T la vs = none → Iq q [6, 7] I I' → I' q 6 = 1 → QF none (cS b I' F A E) → QF' none (cS b I' F A E))
    (h2 : ∀ I' n, ov = false → lkO a t ov m T la vs = some n → n ∈ a.rw t → askB a t m vs T n = true → Iq q [0, 7] I I' → I' q 0 = I q 0 + 1 → QF (some (g.fa n)) (cS b I' (up2 F q 5 (some (g.fa n))) A E) → QF' (some (g.fa n)) (cS b I' (up2 F q 5 (some (g.fa n))) A E)) : w_X5_advance (some q) (cS b I F A E) QF X → w_X5_advance (some q) (cS b I F A E) QF' X' := by
  obtain ⟨hb, hs, ht, hF, hR, hK, hN, hH, hC, hO⟩ := id hx
  obtain ⟨l0, l1, l2, l3, l4, l5, l6, l7⟩ := hL
  obtain ⟨t1, t2, t3, t4, t5, t6, t7, t8, -⟩ := ht.2 t l0
  have hco := (hV.2.1.2 t l0).2.1
  unfold w_X5_advance
  refine qc_getI (fun _ => ?_)
  dsimp only [wJoin]
  refine qv_if (fun z => ?_) (fun z => h0 (l1.mp z))
  have hov : ov = false := by
    cases hq : ov with
    | false => rfl
    | true => exact absurd z (l1.mpr hq)
  have lk : lkO a t ov m T la vs = (restA (a.rw t) la).find? (askB a t m vs T) := by unfold lkO; rw [hov]; rfl
  refine qc_getF hb (by decide) (fun _ => ?_)
  rw [l2]
  refine qv_if (fun z => absurd z (by simp)) (fun _ => ?_)
  refine qc_getF hb (by decide) (fun _ => ?_)
  rw [l2]
  refine qc_getI (fun _ => ?_)
  refine qc_recv (fun _ => ?_)
  refine qc_laneFor hb (by rw [t4]; exact hco.2) (fun lv l hl => ?_)
  refine qc_getF hb (by decide) (fun _ => ?_)
  rw [l5]
  -- who is asked for stands in the lane
  have inl : ∀ n, askB a t m vs T n = true → l = 4 ∨ a.fc n l = vs l := fun n hn => by
    rcases hl.2 with y | ⟨y1, y2, y3⟩
    · exact Or.inl y
    · right
      rw [l3 l y1] at y2
      unfold askB at hn
      have hf := (Bool.and_eq_true_iff.mp hn).2
      have := range_all.mp hf l y1
      rw [y2] at this
      simpa using this
  -- the walk
  have walk : ∀ (w0 : Option Nat) (S0 : List Nat), LnO (fun q => E q 1 l) w0 (S0.map g.fa) → (∀ n, n ∈ S0 → n ∈ a.rw t) → S0.find? (askB a t m vs T) = lkO a t ov m T la vs →
      wLoop (σ := Option Nat) (fun v16 x15 again13 => wIf (v16 = none) (wPutZ x15 5 6 (some q) 1 fun x17 => QF none x17) (wGetI x15 5 7 (some q) fun v18 => wPutI x15 5 7 (some q) (v18 + 1) fun x19 => wGetI x19 5 4 (some q) fun v20 => wRecv x19 1 v16 (w_X1_isThere v16 v20 x19 (fun v22 x21 => wIf (v22 = 0) (wGetF x21 1 1 v16 fun v25 => wAldG x21 25 v25 lv fun v26 => again13 v26 x21) (wGetI x21 5 3 (some q) fun v27 => wGetF x21 5 1 (some q) fun v28 => wRecv x21 1 v16 (w_X1_fits v16 v27 v28 x21 (fun v30 x29 => wIf (v30 = 0) (wGetF x29 1 1 v16 fun v25 => wAldG x29 25 v25 lv fun v26 => again13 v26 x29) (wPutF x29 5 5 (some q) v16 fun x31 => wGetI x31 5 0 (some q) fun v32 => wPutI x31 5 0 (some q) (v32 + 1) fun x33 => QF v16 x33)) X))) X))) w0 (cS b I F A E) →
      wLoop (σ := Option Nat) (fun v16 x15 again13 => wIf (v16 = none) (wPutZ x15 5 6 (some q) 1 fun x17 => QF' none x17) (wGetI x15 5 7 (some q) fun v18 => wPutI x15 5 7 (some q) (v18 + 1) fun x19 => wGetI x19 5 4 (some q) fun v20 => wRecv x19 1 v16 (w_X1_isThere v16 v20 x19 (fun v22 x21 => wIf (v22 = 0) (wGetF x21 1 1 v16 fun v25 => wAldG x21 25 v25 lv fun v26 => again13 v26 x21) (wGetI x21 5 3 (some q) fun v27 => wGetF x21 5 1 (some q) fun v28 => wRecv x21 1 v16 (w_X1_fits v16 v27 v28 x21 (fun v30 x29 => wIf (v30 = 0) (wGetF x29 1 1 v16 fun v25 => wAldG x29 25 v25 lv fun v26 => again13 v26 x29) (wPutF x29 5 5 (some q) v16 fun x31 => wGetI x31 5 0 (some q) fun v32 => wPutI x31 5 0 (some q) (v32 + 1) fun x33 => QF' v16 x33)) X'))) X'))) w0 (cS b I F A E) := fun w0 S0 hw hm hfd => by
    refine qc_loop (fun v b' I' F' A' E' => b' = b ∧ F' = F ∧ A' = A ∧ E' = E ∧ Iq q [7] I I' ∧ ∃ S, LnO (fun q => E q 1 l) v (S.map g.fa) ∧ (∀ n, n ∈ S → n ∈ a.rw t) ∧ S.find? (askB a t m vs T) = lkO a t ov m T la vs) ⟨rfl, rfl, rfl, rfl, Iq_rf, S0, hw, hm, hfd⟩ (fun v b' I' F' A' E' again again' ⟨e1, e2, e3, e4, hI, S, hS, hSm, hSf⟩ ha => ?_)
    subst e1; subst e2; subst e3; subst e4
    cases v with
    | none =>
      refine qv_if (fun _ => ?_) (fun z => absurd rfl z)
      have hS0 : S = [] := List.map_eq_nil_iff.mp (LnO_none hS)
      rw [hS0] at hSf
      refine qc_putZ (fun _ => ?_)
      exact h1 _ hov hSf.symm (Iq_up (Iq_mono hI (by decide)) (by decide)) (up2_self _ _ _ _)
    | some f =>
      refine qv_if (fun z => absurd z (by simp)) (fun _ => ?_)
      obtain ⟨S', eS, hS'⟩ := LnO_some hS
      cases S with
      | nil => simp at eS
      | cons n S =>
        rw [List.map_cons] at eS
        have ef : f = g.fa n := (List.cons.inj eS).1.symm
        have eS' : S' = S.map g.fa := (List.cons.inj eS).2.symm
        subst ef; subst eS'
        have hn := hSm n List.mem_cons_self
        have hFn := hF t n hn
        have hfq : g.fa n ≠ q := Is_ne hFn.1 hq (by decide)
        refine qc_getI (fun _ => ?_)
        refine qc_putI (fun _ => ?_)
        have hI2 : Iq q [7] I (up2 I' q 7 (I' q 7 + 1)) := Iq_up hI (by decide)
        generalize up2 I' q 7 (I' q 7 + 1) = I2 at hI2 ⊢
        have hF2 : CF1 a b' g.d g.fa I2 F' A' t n := by
          unfold CF1
          rw [hI2.1 _ hfq]; exact hFn
        refine qc_getI (fun _ => ?_)
        rw [hI2.2 4 (by decide)]
        refine qc_recv (fun _ => ?_)
        refine qc_isThere (fun _ => ?_)
        rw [th_fa hF2 hV hn l4]
        have nxt : askB a t m vs T n = false → (wGetF (cS b' I2 F' A' E') 1 1 (some (g.fa n)) fun v25 => wAldG (cS b' I2 F' A' E') 25 v25 lv fun v26 => again v26 (cS b' I2 F' A' E')) → (wGetF (cS b' I2 F' A' E') 1 1 (some (g.fa n)) fun v25 => wAldG (cS b' I2 F' A' E') 25 v25 lv fun v26 => again' v26 (cS b' I2 F' A' E')) := fun hno => by
          refine qc_getA hb (by decide) (fun _ => ?_)
          refine qc_aldG hb hFn.1 (by decide) (by decide) (fun _ => ?_)
          rw [ix_of hl.1]
          refine ha _ _ _ _ _ _ ⟨rfl, rfl, rfl, rfl, hI2, S, hS', fun x hx => hSm x (List.mem_cons_of_mem _ hx), ?_⟩
          rw [← hSf, List.find?_cons, hno]
        cases hth : thereB a T n with
        | false =>
          refine qv_if (fun _ => nxt ?_) (fun z => absurd rfl z)
          unfold askB; rw [hth]; rfl
        | true =>
          refine qv_if (fun z => absurd z (by decide)) (fun _ => ?_)
          refine qc_getI (fun _ => ?_)
          refine qc_getA hb (by decide) (fun _ => ?_)
          refine qc_recv (fun _ => ?_)
          refine qc_fits hb hFn.1 hq (by decide) ?_
          rw [hI2.2 3 (by decide), fit_fa hF2 l3 l6]
          cases hfi : fitB a t m vs n with
          | false =>
            refine qv_if (fun _ => nxt ?_) (fun z => absurd rfl z)
            unfold askB; rw [hth, hfi]; rfl
          | true =>
            have hask : askB a t m vs T n = true := by unfold askB; rw [hth, hfi]; rfl
            refine qv_if (fun z => absurd z (by decide)) (fun _ => ?_)
            refine qc_putF hb (by decide) (fun _ => ?_)
            refine qc_getI (fun _ => ?_)
            refine qc_putI (fun _ => ?_)
            rw [List.find?_cons, hask] at hSf
            refine h2 _ n hov hSf.symm hn hask (Iq_up (Iq_mono hI2 (by decide)) (by decide)) ?_
            rw [up2_self, hI2.2 0 (by decide)]
  cases la with
  | none =>
    refine qv_if (fun _ => ?_) (fun z => absurd rfl z)
    refine qc_getF hb (by decide) (fun _ => ?_)
    rw [l2]
    refine qc_getA hb (by decide) (fun _ => ?_)
    refine qc_recv (fun _ => ?_)
    refine qc_firstIn hb hR l0 ⟨t2, t5, t6, t7, t8⟩ hq hl (fun w hw => ?_)
    refine walk w _ hw (fun n hn => ?_) ?_
    · unfold rowL at hn
      split at hn
      · exact hn
      · exact (List.mem_filter.mp hn).1
    · rw [lk]
      unfold rowL
      rcases hl.2 with y | ⟨y1, y2, y3⟩
      · rw [if_pos y]; rfl
      · rw [if_neg (by omega), find_filter (fun n hn => ?_)]
        · rfl
        · have := (inl n hn).resolve_left (by omega)
          rw [l6 l y1, this]; simp
  | some n0 =>
    obtain ⟨hn0, hfit⟩ := l7 n0 rfl
    refine qv_if (fun z => absurd z (by simp)) (fun _ => ?_)
    refine qc_getF hb (by decide) (fun _ => ?_)
    rw [l5]
    have hF0 := hF t n0 hn0
    show (wGetF (cS b I F A E) 1 1 (some (g.fa n0)) _) → (wGetF (cS b I F A E) 1 1 (some (g.fa n0)) _)
    refine qc_getA hb (by decide) (fun _ => ?_)
    refine qc_aldG hb hF0.1 (by decide) (by decide) (fun _ => ?_)
    rw [ix_of hl.1]
    obtain ⟨P, eP⟩ := rest_split hn0 (hV.1.2.2.1 t)
    have hsub := rest_mem (L := a.rw t) (o := some n0) (fun n hn => by cases hn; exact hn0) (hV.1.2.2.1 t)
    by_cases el : l = 4
    · refine walk _ (restA (a.rw t) (some n0)) (lane_next hR l0 ⟨t6, t7, t8⟩ hl hn0 (P := P) ?_) hsub lk.symm
      unfold rowL; rw [if_pos el]; exact eP
    · refine walk _ ((restA (a.rw t) (some n0)).filter fun n => a.fc n l == a.fc n0 l) (lane_next hR l0 ⟨t6, t7, t8⟩ hl hn0 (P := P.filter fun n => a.fc n l == a.fc n0 l) ?_) (fun n hn => hsub n ((List.mem_filter.mp hn).1)) ?_
      · unfold rowL
        rw [if_neg el]
        conv => lhs; rw [eP]
        rw [List.filter_append, List.filter_cons_of_pos (by simp)]
      · rw [lk]
        refine find_filter (fun n hn => ?_) _
        have h1' := (inl n hn).resolve_left el
        obtain ⟨y1, y2, y3⟩ := hl.2.resolve_left el
        have h2' : a.fc n0 l = vs l := by
          rw [l3 l y1] at y2
          have := range_all.mp hfit l y1
          rw [y2] at this
          simpa using this
        rw [h1', h2']; simp
end VF1
