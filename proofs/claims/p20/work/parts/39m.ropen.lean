set_option linter.unusedVariables false
set_option linter.unusedSimpArgs false
/-! the reference: open, fact, changes -/
theorem freeC_eq {op : Nat → Bool} {i : Nat} (h1 : i ≤ 10) (h2 : ∀ k, k < i → op k = true) (h3 : i = 10 ∨ op i = false) : freeC op = i := by
  unfold freeC
  by_cases hi : i = 10
  · have : (List.range 10).find? (fun i => !(op i)) = none := by
      rw [List.find?_eq_none]
      intro k hk
      have := h2 k (by rw [hi]; exact List.mem_range.mp hk)
      simp [this]
    rw [this, hi]; rfl
  · have : (List.range 10).find? (fun i => !(op i)) = some i := by
      rw [List.find?_range_eq_some]
      refine ⟨by simp [h3.resolve_left hi], List.mem_range.mpr (by omega), fun k hk => by simp [h2 k hk]⟩
    rw [this]; rfl
section RM1
variable {b : MT} {fi : Nat → Int32} {ar : Nat → Nat → Int32} {mo M : Nat} {a : AS} {y : HS} {sl : Nat → Nat} {X X' : String → HS → Prop} {Q Q' : HS → Prop} {QI QI' : Int32 → HS → Prop}
/-- the values are copied to the cursor c -/
theorem n_copy35 (hb : MB b) {c : Int32} {cN : Nat} (hc : c.toInt = (cN : Int)) (hc2 : cN < 10) {vv : Nat → Int32} (h3 : ar 3 = vv) (h : ∀ ar', (∀ j, j ≠ 35 → ar' j = ar j) → (∀ k, k < 4 → ar' 35 (4 * cN + k) = vv k) → (∀ i, i < 4 * cN ∨ 4 * cN + 4 ≤ i → ar' 35 i = ar 35 i) → Q (mS b fi ar') → Q' (mS b fi ar')) :
    wLoop (σ := Int32) (fun v33 x32 again30 => wIf (4 ≤ v33) (Q x32) (wGetF x32 12 35 (some b.o) fun v34 => wGetF x32 12 3 (some b.o) fun v35 => wAldJ x32 20 v35 v33 fun v36 => wAstI x32 v34 (((4 : Int32) * c) + v33) v36 fun x37 => again30 (v33 + 1) x37)) 0 (mS b fi ar) →
    wLoop (σ := Int32) (fun v33 x32 again30 => wIf (4 ≤ v33) (Q' x32) (wGetF x32 12 35 (some b.o) fun v34 => wGetF x32 12 3 (some b.o) fun v35 => wAldJ x32 20 v35 v33 fun v36 => wAstI x32 v34 (((4 : Int32) * c) + v33) v36 fun x37 => again30 (v33 + 1) x37)) 0 (mS b fi ar) := by
  refine n_loopV (fun w fi' ar' => fi' = fi ∧ (∀ j, j ≠ 35 → ar' j = ar j) ∧ (∀ i, i < 4 * cN ∨ 4 * cN + 4 ≤ i → ar' 35 i = ar 35 i) ∧ ∃ i : Nat, w.toInt = (i : Int) ∧ i ≤ 4 ∧ ∀ k, k < i → ar' 35 (4 * cN + k) = vv k) ⟨rfl, fun _ _ => rfl, fun _ _ => rfl, 0, by decide, by omega, fun k hk => absurd hk (by omega)⟩ (fun w fi' ar' again again' ⟨e1, e2, e3, i, i1, i2, i3⟩ ha => ?_)
  subst e1
  refine qv_if (fun c1 => ?_) (fun c1 => ?_)
  · simp only [i32, Int32.reduceToInt] at c1
    exact h ar' e2 (fun k hk => i3 k (by omega)) e3
  · simp only [i32, Int32.reduceToInt] at c1
    refine n_getF hb (by decide) ?_
    refine n_getF hb (by decide) ?_
    refine nv_ald hb (by decide) (by decide) (fun _ => ?_)
    refine nv_astI hb (by decide) (by decide) (fun _ => ?_)
    have e4 : ((4 : Int32) * c + w).toInt = ((4 * cN + i : Nat) : Int) := by
      rw [i_add (i_mul (show (4 : Int32).toInt = 4 by decide) hc (by omega)) i1 (by omega)]; omega
    rw [ix_of e4, ix_of i1, e2 3 (by decide), h3]
    refine ha _ _ _ ⟨rfl, fun j hj => ?_, fun k hk => ?_, i + 1, ?_, by omega, fun k hk => ?_⟩
    · rw [← e2 j hj]; funext q; exact if_neg (fun z => hj z.1)
    · rw [← e3 k hk]; exact if_neg (fun z => by omega)
    · rw [i_add i1 (show (1 : Int32).toInt = 1 by decide) (by omega)]; omega
    · by_cases e : k = i
      · rw [e]; exact if_pos ⟨rfl, rfl⟩
      · rw [← i3 k (by omega)]; exact if_neg (fun z => by omega)
theorem n_openC (hb : MB b) (hA : RA a.1 fi ar) (hS : RXs a fi) {t m q v : Int32} (hv10 : v = 10 ↔ freeC a.op = 10) {K K' : Int32 → HS → Prop} (hk : K (openCd a t m q) (mS b fi ar) → K' (openCd a t m q) (mS b fi ar)) :
    wRecv (mS b fi ar) 12 (some b.o) (w_X12_isMask (some b.o) m (mS b fi ar) (fun v8 x7 => wJoin (κ := Int32 → HS → Prop) K (fun j9 => wJoin (κ := HS → Prop) (fun x39 => j9 1 x39) (fun j38 => wIf (v8 = 0) (j38 x7) (wRecv x7 12 (some b.o) (w_X12_isTime (some b.o) q x7 (fun v41 x40 => wIf (v41 = 0) (j38 x40) (wRecv x40 12 (some b.o) (w_X12_isTable (some b.o) t x40 (fun v43 x42 => wIf (v43 = 0) (j9 2 x42) (wIf (v = 10) (j9 3 x42) (j9 0 x42))) X))) X))))) X) →
    wRecv (mS b fi ar) 12 (some b.o) (w_X12_isMask (some b.o) m (mS b fi ar) (fun v8 x7 => wJoin (κ := Int32 → HS → Prop) K' (fun j9 => wJoin (κ := HS → Prop) (fun x39 => j9 1 x39) (fun j38 => wIf (v8 = 0) (j38 x7) (wRecv x7 12 (some b.o) (w_X12_isTime (some b.o) q x7 (fun v41 x40 => wIf (v41 = 0) (j38 x40) (wRecv x40 12 (some b.o) (w_X12_isTable (some b.o) t x40 (fun v43 x42 => wIf (v43 = 0) (j9 2 x42) (wIf (v = 10) (j9 3 x42) (j9 0 x42))) X'))) X'))))) X') := by
  dsimp only [wJoin]
  unfold openCd at hk
  refine n_isM hb (fun c => ?_) (fun c => ?_)
  · rw [if_neg (fun z => c z.1)] at hk; exact hk
  · refine n_isTi hb hS (fun c2 => ?_) (fun c2 => ?_)
    · rw [if_neg (fun z => c2 z.2)] at hk; exact hk
    · rw [if_pos ⟨c, c2⟩] at hk
      refine n_isT hb hA (fun c3 => ?_) (fun c3 => ?_)
      · rw [if_neg c3] at hk; exact hk
      · rw [if_pos c3] at hk
        refine qv_if (fun c4 => ?_) (fun c4 => ?_)
        · rw [if_pos (hv10.mp c4)] at hk; exact hk
        · rw [if_neg (fun z => c4 (hv10.mpr z))] at hk; exact hk
theorem open_cases (a : AS) (t m q : Int32) : openCd a t m q = 0 ∧ tabOk a t ∧ maskOk m ∧ timeOk a q ∧ freeC a.op ≠ 10 ∨ openCd a t m q ≠ 0 := by
  unfold openCd
  split
  · rename_i h1
    split
    · rename_i h2
      split
      · exact Or.inr (by decide)
      · rename_i h3; exact Or.inl ⟨rfl, h2, h1.1, h1.2, h3⟩
    · exact Or.inr (by decide)
  · exact Or.inr (by decide)
theorem rc_open (h : RM mo M a y) (hM : M < 300000) (t m q : Int32) : w_X12_open (some mo) t m q y (fun r u => OK_open a t m q (u.I mo 0) r ∧ RM mo (M + 1) (nx_open a t m q) u) X := by
  obtain ⟨b, fi, ar, hb, rfl, rfl, hG, hA, hX, hV⟩ := h
  have h := t_open (X := X) hb hG RG_ok t m q
  revert h
  obtain ⟨sl, hx⟩ := id hX
  have hx : RXx a sl fi ar := hx
  obtain ⟨hF, hK, hS, hH, hC, hO⟩ := id hx
  unfold w_X12_open OK_open nx_open
  refine n_loopV (fun v fi' ar' => fi' = fi ∧ ar' = ar ∧ ∃ i : Nat, v.toInt = (i : Int) ∧ i ≤ 10 ∧ ∀ k, k < i → a.op k = true) ⟨rfl, rfl, 0, by decide, by omega, fun k hk => absurd hk (by omega)⟩ (fun v fi' ar' again again' ⟨e1, e2, i, i1, i2, i3⟩ ha => ?_)
  subst e1; subst e2
  refine qv_join (fun K K' => (i = 10 ∨ a.op i = false) → K (mS b fi' ar') → K' (mS b fi' ar')) (fun hi => ?_) (fun K K' hKK => ?_)
  · have hfree : freeC a.op = i := freeC_eq i2 i3 hi
    have hv10 : v = 10 ↔ freeC a.op = 10 := by
      rw [hfree]
      have h10 : (10 : Int32).toInt = 10 := by decide
      exact ⟨fun z => by rw [z] at i1; omega, fun z => i_ext (by rw [i1, z]; decide)⟩
    dsimp only
    refine n_openC hb hA hS hv10 ?_
    rcases open_cases a t m q with ⟨e0, ht, hm, hq, hf⟩ | e0
    · rw [e0, if_pos rfl]
      have hi10 : i < 10 := by rw [hfree] at hf; omega
      refine nv_f0 hb ?_
      refine n_getF hb (by decide) ?_
      refine nv_astZ hb (by decide) (by decide) (fun _ => ?_)
      refine n_getF hb (by decide) ?_
      refine nv_astZ hb (by decide) (by decide) (fun _ => ?_)
      refine n_getF hb (by decide) ?_
      refine nv_astI hb (by decide) (by decide) (fun _ => ?_)
      refine n_getF hb (by decide) ?_
      refine nv_astI hb (by decide) (by decide) (fun _ => ?_)
      refine n_getF hb (by decide) ?_
      have hS0 : RXs a (va_up fi' 0 0) := by
        simp only [RXs, va_up_ne, ne_eq, Nat.reduceEqDiff, not_false_eq_true]; exact hS
      refine n_timeOf hb hS0 (fun T hT => ?_)
      refine nv_astI hb (by decide) (by decide) (fun _ => ?_)
      refine n_getF hb (by decide) ?_
      refine nv_astI hb (by decide) (by decide) (fun _ => ?_)
      refine n_getF hb (by decide) ?_
      refine nv_astI hb (by decide) (by decide) (fun _ => ?_)
      rw [ix_of i1]
      have ff : frM [0, 38] [28, 29, 30, 31, 32, 33, 34, 35] fi' ar' (va_up fi' 0 0) (up2 (up2 (up2 (up2 (up2 (up2 (up2 ar' 28 i 1) 29 i 0) 30 i t) 31 i m) 32 i T) 33 i (-1)) 34 i 0) := frM_clo.2 34 (by decide) _ _ _ _ (frM_clo.2 33 (by decide) _ _ _ _ (frM_clo.2 32 (by decide) _ _ _ _ (frM_clo.2 31 (by decide) _ _ _ _ (frM_clo.2 30 (by decide) _ _ _ _ (frM_clo.2 29 (by decide) _ _ _ _ (frM_clo.2 28 (by decide) _ _ _ _ (frM_clo.1 0 (by decide) _ _ _ frM_rf)))))))
      have e28 : up2 (up2 (up2 (up2 (up2 (up2 (up2 ar' 28 i 1) 29 i 0) 30 i t) 31 i m) 32 i T) 33 i (-1)) 34 i 0 28 = va_up (ar' 28) i 1 := by funext k; unfold up2 va_up; by_cases hk : k = i <;> simp [hk]
      have e29 : up2 (up2 (up2 (up2 (up2 (up2 (up2 ar' 28 i 1) 29 i 0) 30 i t) 31 i m) 32 i T) 33 i (-1)) 34 i 0 29 = va_up (ar' 29) i 0 := by funext k; unfold up2 va_up; by_cases hk : k = i <;> simp [hk]
      have e30 : up2 (up2 (up2 (up2 (up2 (up2 (up2 ar' 28 i 1) 29 i 0) 30 i t) 31 i m) 32 i T) 33 i (-1)) 34 i 0 30 = va_up (ar' 30) i t := by funext k; unfold up2 va_up; by_cases hk : k = i <;> simp [hk]
      have e31 : up2 (up2 (up2 (up2 (up2 (up2 (up2 ar' 28 i 1) 29 i 0) 30 i t) 31 i m) 32 i T) 33 i (-1)) 34 i 0 31 = va_up (ar' 31) i m := by funext k; unfold up2 va_up; by_cases hk : k = i <;> simp [hk]
      have e32 : up2 (up2 (up2 (up2 (up2 (up2 (up2 ar' 28 i 1) 29 i 0) 30 i t) 31 i m) 32 i T) 33 i (-1)) 34 i 0 32 = va_up (ar' 32) i T := by funext k; unfold up2 va_up; by_cases hk : k = i <;> simp [hk]
      have e33 : up2 (up2 (up2 (up2 (up2 (up2 (up2 ar' 28 i 1) 29 i 0) 30 i t) 31 i m) 32 i T) 33 i (-1)) 34 i 0 33 = va_up (ar' 33) i (-1) := by funext k; unfold up2 va_up; by_cases hk : k = i <;> simp [hk]
      have e34 : up2 (up2 (up2 (up2 (up2 (up2 (up2 ar' 28 i 1) 29 i 0) 30 i t) 31 i m) 32 i T) 33 i (-1)) 34 i 0 34 = va_up (ar' 34) i 0 := by funext k; unfold up2 va_up; by_cases hk : k = i <;> simp [hk]
      have e35 : up2 (up2 (up2 (up2 (up2 (up2 (up2 ar' 28 i 1) 29 i 0) 30 i t) 31 i m) 32 i T) 33 i (-1)) 34 i 0 35 = ar' 35 := by funext k; unfold up2; simp
      have e3 : up2 (up2 (up2 (up2 (up2 (up2 (up2 ar' 28 i 1) 29 i 0) 30 i t) 31 i m) 32 i T) 33 i (-1)) 34 i 0 3 = ar' 3 := by funext k; unfold up2; simp
      generalize up2 (up2 (up2 (up2 (up2 (up2 (up2 ar' 28 i 1) 29 i 0) 30 i t) 31 i m) 32 i T) 33 i (-1)) 34 i 0 = az at ff e28 e29 e30 e31 e32 e33 e34 e35 e3 ⊢
      refine n_copy35 hb i1 hi10 (vv := a.vv) (e3.trans hA.1) (fun ay g1 g2 g3 hg => ?_)
      have f2 : frM [0, 38] [28, 29, 30, 31, 32, 33, 34, 35] fi' ar' (va_up fi' 0 0) ay := ⟨ff.1, fun j hj => (g1 j (fun z => hj (by rw [z]; decide))).trans (ff.2 j hj)⟩
      rw [hfree]
      refine ⟨⟨by rw [rv_I, va_up_self], fun _ => num_of i1⟩, RM_g hb hg (RA_fr hA f2 (by decide) (by decide)) (RX_cur hx f2 ?_) (AV_cur hV ?_)⟩
      · intro c' hc'
        rw [g1 28 (by decide), g1 29 (by decide), g1 30 (by decide), g1 31 (by decide), g1 32 (by decide), g1 33 (by decide), g1 34 (by decide), e28, e29, e30, e31, e32, e33, e34]
        show (va_up (ar' 28) i 1 c' ≠ 0 ↔ va_up a.op i true c' = true) ∧ (va_up a.op i true c' = true → (va_up (ar' 29) i 0 c' ≠ 0 ↔ va_up a.ov i false c' = true) ∧ (va_up (ar' 30) i t c').toInt = ((va_up a.ct i (ix t) c' : Nat) : Int) ∧ va_up (ar' 31) i m c' = va_up a.cm i m c' ∧ (va_up (ar' 32) i T c').toInt = va_up a.ci i (timeOf a q) c' ∧ (va_up (ar' 33) i (-1) c').toInt = (match va_up a.cl i none c' with | none => -1 | some n => (sl n : Int)) ∧ va_up (ar' 34) i 0 c' = va_up a.cd i 0 c' ∧ ∀ k, k < 4 → ay 35 (4 * c' + k) = va_up a.cv i a.vv c' k)
        by_cases e : c' = i
        · subst e
          simp only [va_up_self]
          exact ⟨⟨fun _ => trivial, fun _ => by decide⟩, fun _ => ⟨⟨fun z => absurd rfl z, fun z => absurd z (by decide)⟩, (ix_int ht.1).symm, trivial, hT, by decide, trivial, g2⟩⟩
        · simp only [va_up_ne _ _ e]
          obtain ⟨q1, q2⟩ := hC c' hc'
          refine ⟨q1, fun z => ?_⟩
          obtain ⟨r1, r2, r3, r4, r5, r6, r7⟩ := q2 z
          exact ⟨r1, r2, r3, r4, r5, r6, fun k hk => by rw [g3 _ (by omega), e35]; exact r7 k hk⟩
      · intro c' hc' hop'
        have hop' : va_up a.op i true c' = true := hop'
        show inT a (va_up a.ct i (ix t) c') ∧ (∀ n, va_up a.cl i none c' = some n → n ∈ a.rw (va_up a.ct i (ix t) c')) ∧ maskOk (va_up a.cm i m c') ∧ va_up a.ci i (timeOf a q) c' ≤ a.tm
        by_cases e : c' = i
        · subst e
          simp only [va_up_self]
          refine ⟨tab_in ht, fun n hn => absurd hn (by simp), hm, ?_⟩
          unfold timeOf
          split
          · exact Int.le_refl _
          · rename_i z; exact (hq.resolve_left z).2
        · simp only [va_up_ne _ _ e] at hop' ⊢
          exact hV.2.2.2.1 c' hc' hop'
    · rw [if_neg e0]
      exact nv_fN hb e0 (fun hg => ⟨⟨by rw [rv_I, va_up_self], fun z => absurd z e0⟩, RM_g hb hg (RA_0 hA) (RX_0 hX) hV⟩)
  · refine qv_if (fun c1 => ?_) (fun c1 => ?_)
    · simp only [i32, Int32.reduceToInt] at c1
      exact hKK (Or.inl (by omega))
    · simp only [i32, Int32.reduceToInt] at c1
      refine n_getF hb (by decide) ?_
      refine nv_ald hb (by decide) (by decide) (fun _ => ?_)
      rw [ix_of i1]
      have hop := (hC i (by omega)).1
      refine qv_if (fun c2 => hKK (Or.inr ?_)) (fun c2 => ?_)
      · rw [Bool.eq_false_iff]; exact fun z => (hop.mpr z) c2
      · refine ha _ _ _ ⟨rfl, rfl, i + 1, by rw [i_add i1 (show (1 : Int32).toInt = 1 by decide) (by omega)]; omega, by omega, fun k hk => ?_⟩
        by_cases e : k = i
        · rw [e]; exact hop.mp c2
        · exact i3 k (by omega)
end RM1
