set_option linter.unusedVariables false
set_option linter.unusedSimpArgs false
/-! the class: purge, put together -/
theorem swp_inj {m i k1 k2 : Nat} (h : (if k1 = m then i else if k1 = i then m else k1) = if k2 = m then i else if k2 = i then m else k2) : k1 = k2 := by
  by_cases e1 : k1 = m
  · rw [if_pos e1] at h
    by_cases e3 : k2 = m
    · omega
    · rw [if_neg e3] at h
      by_cases e4 : k2 = i
      · rw [if_pos e4] at h; omega
      · rw [if_neg e4] at h; omega
  · rw [if_neg e1] at h
    by_cases e2 : k1 = i
    · rw [if_pos e2] at h
      by_cases e3 : k2 = m
      · rw [if_pos e3] at h; omega
      · rw [if_neg e3] at h
        by_cases e4 : k2 = i
        · omega
        · rw [if_neg e4] at h; omega
    · rw [if_neg e2] at h
      by_cases e3 : k2 = m
      · rw [if_pos e3] at h; omega
      · rw [if_neg e3] at h
        by_cases e4 : k2 = i
        · rw [if_pos e4] at h; omega
        · rw [if_neg e4] at h; omega
section VW1
variable {b b' : CT} {I I' : Nat → Nat → Int32} {F F' : Nat → Nat → Option Nat} {A A' : Nat → Nat → Nat → Int32} {E E' : Nat → Nat → Nat → Option Nat} {o t n n' k f p w j ci q s h l N : Nat} {a c : AS} {g : CGs} {cs : Nat → Int32} {d r ct fa : Nat → Nat} {x y : HS} {X X' : String → HS → Prop} {Q Q' : HS → Prop} {QI QI' : Int32 → HS → Prop} {QF QF' : Option Nat → HS → Prop}
theorem qc_openCursors (hx : CXx o a g b I F A E) (h : ∀ v : Int32, (v.toInt = 0 ∨ 0 < v.toInt) → (v.toInt = 0 ↔ ∀ c, c < 10 → a.op c = false) → QI v (cS b I F A E) → QI' v (cS b I F A E)) : w_X11_openCursors (some o) (cS b I F A E) QI X → w_X11_openCursors (some o) (cS b I F A E) QI' X' := by
  have hC := hx.2.2.2.2.2.2.2.2.1
  unfold w_X11_openCursors
  refine qc_loop0 (fun v => ∃ i m : Nat, v.2.toInt = (i : Int) ∧ i ≤ 10 ∧ v.1.toInt = (m : Int) ∧ m ≤ i ∧ (m = 0 ↔ ∀ c, c < i → a.op c = false)) ⟨0, 0, by show (0 : Int32).toInt = ((0 : Nat) : Int); decide, by omega, by show (0 : Int32).toInt = ((0 : Nat) : Int); decide, by omega, ⟨fun _ c hc => absurd hc (by omega), fun _ => rfl⟩⟩ (fun v again again' ⟨i, m, i1, i2, m1, m2, m3⟩ ha => ?_)
  refine qv_if (fun z => h _ (by omega) ?_) (fun z => ?_)
  · simp only [i32, Int32.reduceToInt] at z
    have : i = 10 := by omega
    subst this
    rw [← m3, m1]; omega
  · simp only [i32, Int32.reduceToInt] at z
    have hi10 : i < 10 := by omega
    refine qc_getA hx.1 (by decide) (fun _ => ?_)
    refine qc_ald hx.1 hx.2.1.1 (by decide) (by decide) (fun _ => ?_)
    rw [ix_of i1]
    dsimp only [wJoin]
    have n2 : (v.2 + 1).toInt = ((i + 1 : Nat) : Int) := by rw [i_add i1 (show (1 : Int32).toInt = 1 by decide) (by omega)]; omega
    have hop := (hC i hi10).1
    refine qv_if (fun z2 => ?_) (fun z2 => ?_)
    · have hf : a.op i = false := by
        cases hq : a.op i with
        | false => rfl
        | true => exact absurd z2 (hop.mpr hq)
      refine ha _ ⟨i + 1, m, n2, by omega, m1, by omega, m3.trans ⟨fun y c hc => ?_, fun y c hc => y c (by omega)⟩⟩
      by_cases e : c = i
      · rw [e]; exact hf
      · exact y c (by omega)
    · have ht := hop.mp z2
      refine ha _ ⟨i + 1, m + 1, n2, by omega, ?_, by omega, ⟨fun y => absurd y (by omega), fun y => ?_⟩⟩
      · show (v.1 + 1).toInt = _
        rw [i_add m1 (show (1 : Int32).toInt = 1 by decide) (by omega)]; omega
      · have := y i (by omega)
        rw [ht] at this; exact absurd this (by decide)
/-- those that stay are brought together -/
theorem qc_compact (hb : CB b) (s3 : Is b 9 s) (hFa : ∀ t n, n ∈ a.rw t → Is b 1 (fa n) ∧ (I (fa n) 6).toInt = a.fd n) (hfi : ∀ t t' n n', n ∈ a.rw t → n' ∈ a.rw t' → fa n = fa n' → n = n') (hV : AV a) {KL : List Nat} (hKL : KL.length = (allF a).length) (hK1 : ∀ (k n : Nat), KL[k]? = some n → (∃ t, n ∈ a.rw t) ∧ E s 1 k = some (fa n)) (hinj : ∀ i j q, i < 3000 → j < 3000 → E s 1 i = some q → E s 1 j = some q → i = j) (his : ∀ i q, i < 3000 → E s 1 i = some q → Is b 1 q) {T : Int} (hT : (I s 7).toInt = T) (hT0 : 0 ≤ T) {v8 : Int32} (hv8 : v8.toInt = ((allF a).length : Int)) (h4 : I s 4 = 0)
    (hQ : ∀ I2 E2, (∀ x j, ¬ (x = s ∧ j = 4) → I2 x j = I x j) → (∀ x j, ¬ (x = s ∧ j = 1) → E2 x j = E x j) → (I2 s 4).toInt = ((KL.filter fun n => !(goneB a T n)).length : Int) → (∀ i j q, i < 3000 → j < 3000 → E2 s 1 i = some q → E2 s 1 j = some q → i = j) → (∀ i q, i < 3000 → E2 s 1 i = some q → Is b 1 q) → (∀ k, k < (KL.filter fun n => !(goneB a T n)).length → ∃ n, n ∈ KL.filter (fun n => !(goneB a T n)) ∧ E2 s 1 k = some (fa n)) → (∀ n, n ∈ KL.filter (fun n => !(goneB a T n)) → ∃ k, k < (KL.filter fun n => !(goneB a T n)).length ∧ E2 s 1 k = some (fa n)) → QI (v8 - I2 s 4) (cS b I2 F A E2) → QI' (v8 - I2 s 4) (cS b I2 F A E2)) :
    wLoop (σ := Int32) (fun v13 x12 again10 => wIf (v8 ≤ v13) (wGetI x12 9 4 (some s) fun v14 => QI (v8 - v14) x12) (wGetF x12 9 1 (some s) fun v15 => wAldG x12 25 v15 v13 fun v16 => wRecv x12 1 v16 (w_X1_isThereNow v16 x12 (fun v18 x17 => wJoin (κ := HS → Prop) (fun x20 => again10 (v13 + 1) x20) (fun j19 => wJoin (κ := HS → Prop) (fun x22 => wGetF x22 9 1 (some s) fun v23 => wGetF x22 9 1 (some s) fun v24 => wGetI x22 9 4 (some s) fun v25 => wAldG x22 25 v24 v25 fun v26 => wAstG x22 25 1 v23 v13 v26 fun x27 => wGetF x27 9 1 (some s) fun v28 => wGetI x27 9 4 (some s) fun v29 => wAstG x27 25 1 v28 v29 v16 fun x30 => wGetI x30 9 4 (some s) fun v31 => wPutI x30 9 4 (some s) (v31 + 1) fun x32 => j19 x32) (fun j21 => wIf (v18 = 0) (wGetI x17 1 6 v16 fun v33 => wGetI x17 9 7 (some s) fun v34 => wIf (v33 ≤ v34) (j19 x17) (j21 x17)) (j21 x17)))) X))) 0 (cS b I F A E) →
    wLoop (σ := Int32) (fun v13 x12 again10 => wIf (v8 ≤ v13) (wGetI x12 9 4 (some s) fun v14 => QI' (v8 - v14) x12) (wGetF x12 9 1 (some s) fun v15 => wAldG x12 25 v15 v13 fun v16 => wRecv x12 1 v16 (w_X1_isThereNow v16 x12 (fun v18 x17 => wJoin (κ := HS → Prop) (fun x20 => again10 (v13 + 1) x20) (fun j19 => wJoin (κ := HS → Prop) (fun x22 => wGetF x22 9 1 (some s) fun v23 => wGetF x22 9 1 (some s) fun v24 => wGetI x22 9 4 (some s) fun v25 => wAldG x22 25 v24 v25 fun v26 => wAstG x22 25 1 v23 v13 v26 fun x27 => wGetF x27 9 1 (some s) fun v28 => wGetI x27 9 4 (some s) fun v29 => wAstG x27 25 1 v28 v29 v16 fun x30 => wGetI x30 9 4 (some s) fun v31 => wPutI x30 9 4 (some s) (v31 + 1) fun x32 => j19 x32) (fun j21 => wIf (v18 = 0) (wGetI x17 1 6 v16 fun v33 => wGetI x17 9 7 (some s) fun v34 => wIf (v33 ≤ v34) (j19 x17) (j21 x17)) (j21 x17)))) X'))) 0 (cS b I F A E) := by
  have hle := hV.1.2.2.2.2.2.2.1
  refine qc_loop (fun v b' I2 F' A' E2 => b' = b ∧ F' = F ∧ A' = A ∧ ∃ i : Nat, v.toInt = (i : Int) ∧ i ≤ KL.length ∧ (∀ x j, ¬ (x = s ∧ j = 4) → I2 x j = I x j) ∧ (∀ x j, ¬ (x = s ∧ j = 1) → E2 x j = E x j) ∧ (I2 s 4).toInt = (((KL.take i).filter fun n => !(goneB a T n)).length : Int) ∧ (∀ i j q, i < 3000 → j < 3000 → E2 s 1 i = some q → E2 s 1 j = some q → i = j) ∧ (∀ i q, i < 3000 → E2 s 1 i = some q → Is b 1 q) ∧ (∀ k, k < ((KL.take i).filter fun n => !(goneB a T n)).length → ∃ n, n ∈ (KL.take i).filter (fun n => !(goneB a T n)) ∧ E2 s 1 k = some (fa n)) ∧ (∀ n, n ∈ (KL.take i).filter (fun n => !(goneB a T n)) → ∃ k, k < ((KL.take i).filter fun n => !(goneB a T n)).length ∧ E2 s 1 k = some (fa n)) ∧ ∀ k, i ≤ k → E2 s 1 k = E s 1 k) ⟨rfl, rfl, rfl, 0, by decide, by omega, fun _ _ _ => rfl, fun _ _ _ => rfl, by rw [h4]; show (0 : Int32).toInt = ((0 : Nat) : Int); decide, hinj, his, fun k hk => absurd hk (by simp), fun n hn => absurd hn (by simp), fun _ _ => rfl⟩ (fun v b' I2 F' A' E2 again again' ⟨e1, e2, e3, i, i1, i2, j1, j2, j3, j4, j5, j6, j7, j8⟩ ha => ?_)
  subst e1; subst e2; subst e3
  have hml : ((KL.take i).filter fun n => !(goneB a T n)).length ≤ i := by
    have h1 := List.length_filter_le (fun n => !(goneB a T n)) (KL.take i)
    have h2 := List.length_take_le i KL
    omega
  refine qv_if (fun z => ?_) (fun z => ?_)
  · simp only [i32] at z
    have hi : i = KL.length := by omega
    rw [hi, List.take_length] at j3 j6 j7
    exact qc_getI (fun _ => hQ I2 E2 j1 j2 j3 j4 j5 j6 j7)
  · simp only [i32] at z
    have hlt : i < KL.length := by omega
    have hget := List.getElem?_eq_getElem hlt
    obtain ⟨⟨t, hn⟩, hE⟩ := hK1 i _ hget
    generalize hnn : KL[i] = n at hget hn hE
    obtain ⟨hf1, hf6⟩ := hFa t n hn
    have hfs : fa n ≠ s := Is_ne hf1 s3 (by decide)
    have htake : KL.take (i + 1) = KL.take i ++ [n] := by rw [List.take_add_one, hget]; rfl
    have hEi : E2 s 1 i = some (fa n) := by rw [j8 i (Nat.le_refl _)]; exact hE
    have n1 : (v + 1).toInt = ((i + 1 : Nat) : Int) := by rw [i_add i1 (show (1 : Int32).toInt = 1 by decide) (by omega)]; omega
    have hfd := (hV.1.2.2.2.1 t n hn).2.2
    have h26 : I2 (fa n) 6 = I (fa n) 6 := j1 _ _ (fun z => hfs z.1)
    refine qc_getA hb (by decide) (fun _ => ?_)
    refine qc_aldG hb s3 (by decide) (by decide) (fun _ => ?_)
    rw [ix_of i1, hEi]
    refine qc_recv (fun _ => ?_)
    refine qc_isNow (fun _ => ?_)
    dsimp only [wJoin]
    have skip : goneB a T n = true → again (v + 1) (cS b' I2 F' A' E2) → again' (v + 1) (cS b' I2 F' A' E2) := fun hg => by
      have ef : (KL.take (i + 1)).filter (fun n => !(goneB a T n)) = (KL.take i).filter (fun n => !(goneB a T n)) := by
        rw [htake, List.filter_append, List.filter_cons_of_neg (by simp [hg])]; simp
      refine ha _ _ _ _ _ _ ⟨rfl, rfl, rfl, i + 1, n1, by omega, j1, j2, by rw [ef]; exact j3, j4, j5, by rw [ef]; exact j6, by rw [ef]; exact j7, fun k hk => j8 k (by omega)⟩
    have put : goneB a T n = false → (wGetF (cS b' I2 F' A' E2) 9 1 (some s) fun v23 => wGetF (cS b' I2 F' A' E2) 9 1 (some s) fun v24 => wGetI (cS b' I2 F' A' E2) 9 4 (some s) fun v25 => wAldG (cS b' I2 F' A' E2) 25 v24 v25 fun v26 => wAstG (cS b' I2 F' A' E2) 25 1 v23 v v26 fun x27 => wGetF x27 9 1 (some s) fun v28 => wGetI x27 9 4 (some s) fun v29 => wAstG x27 25 1 v28 v29 (some (fa n)) fun x30 => wGetI x30 9 4 (some s) fun v31 => wPutI x30 9 4 (some s) (v31 + 1) fun x32 => again (v + 1) x32) → (wGetF (cS b' I2 F' A' E2) 9 1 (some s) fun v23 => wGetF (cS b' I2 F' A' E2) 9 1 (some s) fun v24 => wGetI (cS b' I2 F' A' E2) 9 4 (some s) fun v25 => wAldG (cS b' I2 F' A' E2) 25 v24 v25 fun v26 => wAstG (cS b' I2 F' A' E2) 25 1 v23 v v26 fun x27 => wGetF x27 9 1 (some s) fun v28 => wGetI x27 9 4 (some s) fun v29 => wAstG x27 25 1 v28 v29 (some (fa n)) fun x30 => wGetI x30 9 4 (some s) fun v31 => wPutI x30 9 4 (some s) (v31 + 1) fun x32 => again' (v + 1) x32) := fun hg => by
      have ef : (KL.take (i + 1)).filter (fun n => !(goneB a T n)) = (KL.take i).filter (fun n => !(goneB a T n)) ++ [n] := by
        rw [htake, List.filter_append, List.filter_cons_of_pos (by simp [hg])]; rfl
      refine qc_getA hb (by decide) (fun _ => ?_)
      refine qc_getA hb (by decide) (fun _ => ?_)
      refine qc_getI (fun _ => ?_)
      refine qc_aldG hb s3 (by decide) (by decide) (fun _ => ?_)
      refine qc_astG hb s3 (by decide) (by decide) (fun _ _ => ?_)
      refine qc_getA hb (by decide) (fun _ => ?_)
      refine qc_getI (fun _ => ?_)
      refine qc_astG hb s3 (by decide) (by decide) (fun _ _ => ?_)
      refine qc_getI (fun _ => ?_)
      refine qc_putI (fun _ => ?_)
      rw [ix_of j3, ix_of i1]
      generalize hm : ((KL.take i).filter fun n => !(goneB a T n)).length = m at j3 j6 j7 hml
      -- a swap
      have hsw : ∀ k, up3 (up3 E2 s 1 i (E2 s 1 m)) s 1 m (some (fa n)) s 1 k = if k = m then some (fa n) else if k = i then E2 s 1 m else E2 s 1 k := fun k => by
        rw [up3_at, up3_at]
        by_cases e1 : k = m
        · rw [e1, va_up_self, if_pos rfl]
        · rw [va_up_ne _ _ e1, if_neg e1]
          by_cases e2 : k = i
          · rw [e2, va_up_self, if_pos rfl]
          · rw [va_up_ne _ _ e2, if_neg e2]
      have hsw2 : ∀ k, ∃ k', (k < 3000 → k' < 3000) ∧ up3 (up3 E2 s 1 i (E2 s 1 m)) s 1 m (some (fa n)) s 1 k = E2 s 1 k' ∧ k' = if k = m then i else if k = i then m else k := fun k => by
        rw [hsw k]
        by_cases e1 : k = m
        · exact ⟨i, fun _ => by omega, by rw [if_pos e1]; exact hEi.symm, by rw [if_pos e1]⟩
        · by_cases e2 : k = i
          · exact ⟨m, fun _ => by omega, by rw [if_neg e1, if_pos e2], by rw [if_neg e1, if_pos e2]⟩
          · exact ⟨k, id, by rw [if_neg e1, if_neg e2], by rw [if_neg e1, if_neg e2]⟩
      refine ha _ _ _ _ _ _ ⟨rfl, rfl, rfl, i + 1, n1, by omega, fun x j hx => (if_neg hx).trans (j1 x j hx), fun x j hx => (up3_ne hx).trans ((up3_ne hx).trans (j2 x j hx)), ?_, fun k1 k2 q hk1 hk2 hq1 hq2 => ?_, fun k1 q hk1 hq1 => ?_, ?_, ?_, fun k hk => ?_⟩
      · rw [up2_self, i_add j3 (show (1 : Int32).toInt = 1 by decide) (by omega), ef, List.length_append, hm]; rfl
      · obtain ⟨k1', a1, a2, a3⟩ := hsw2 k1
        obtain ⟨k2', b1, b2, b3⟩ := hsw2 k2
        rw [a2] at hq1
        rw [b2] at hq2
        have := j4 k1' k2' q (a1 hk1) (b1 hk2) hq1 hq2
        rw [a3, b3] at this
        exact swp_inj this
      · obtain ⟨k1', a1, a2, -⟩ := hsw2 k1
        rw [a2] at hq1
        exact j5 k1' q (a1 hk1) hq1
      · rw [ef, List.length_append, hm]
        intro k hk
        rw [hsw k]
        by_cases e1 : k = m
        · exact ⟨n, List.mem_append_right _ (List.mem_singleton.mpr rfl), by rw [if_pos e1]⟩
        · have hkm : k < m := by simp at hk; omega
          obtain ⟨n', y1, y2⟩ := j6 k hkm
          refine ⟨n', List.mem_append_left _ y1, ?_⟩
          rw [if_neg e1, if_neg (by omega)]; exact y2
      · rw [ef, List.length_append, hm]
        intro n' hn'
        rcases List.mem_append.mp hn' with y | y
        · obtain ⟨k, y1, y2⟩ := j7 n' y
          refine ⟨k, by simp; omega, ?_⟩
          rw [hsw k, if_neg (by omega), if_neg (by omega)]; exact y2
        · rw [List.mem_singleton.mp y]
          exact ⟨m, by simp, by rw [hsw m, if_pos rfl]⟩
      · rw [hsw k, if_neg (by omega), if_neg (by omega)]
        exact j8 k (by omega)
    by_cases hal : a.fd n = -1
    · rw [if_pos (by rw [h26, hf6, hal]; decide)]
      refine qv_if (fun z => absurd z (by decide)) (fun _ => put ?_)
      unfold goneB
      exact decide_eq_false (by omega)
    · rw [if_neg (by rw [h26, hf6]; exact fun z => hal (of_decide_eq_true z))]
      refine qv_if (fun _ => ?_) (fun z => absurd rfl z)
      refine qc_getI (fun _ => ?_)
      refine qc_getI (fun _ => ?_)
      have h27 : I2 s 7 = I s 7 := j1 _ _ (fun z => absurd z.2 (by decide))
      rw [h26, h27]
      refine qv_if (fun z => skip ?_) (fun z => put ?_)
      · simp only [i32] at z
        unfold goneB
        exact decide_eq_true (by omega)
      · simp only [i32] at z
        unfold goneB
        exact decide_eq_false (by omega)
end VW1
