set_option linter.unusedVariables false
set_option linter.unusedSimpArgs false
/-! the reference: changes, table -/
def FOL (L : List Int32) (fi : Nat → Int32) (ar : Nat → Nat → Int32) : Prop := (fi 37).toInt = (L.length : Int) ∧ ∀ (i : Nat) (v : Int32), L[i]? = some v → ar 36 i = v
section RO1
variable {b : MT} {fi : Nat → Int32} {ar : Nat → Nat → Int32} {mo M : Nat} {a : AS} {y : HS} {sl : Nat → Nat} {X X' : String → HS → Prop} {Q Q' : HS → Prop} {QI QI' : Int32 → HS → Prop}
theorem n_find0 (hb : MB b) {L : List Int32} {v : Int32} {fj : Nat → Int32} {aj : Nat → Nat → Int32} (hL : FOL L fi ar) (hl : L.length ≤ 6000) (hf : frM [37] [36] fj aj fi ar) (h : ∀ fi' ar', FOL (L ++ [v]) fi' ar' → frM [37] [36] fj aj fi' ar' → Q (mS b fi' ar') → Q' (mS b fi' ar')) : wRecv (mS b fi ar) 12 (some b.o) (w_X12_find0 (some b.o) v (mS b fi ar) Q X) → wRecv (mS b fi ar) 12 (some b.o) (w_X12_find0 (some b.o) v (mS b fi ar) Q' X') := by
  rw [m_recv hb, m_recv hb]
  unfold w_X12_find0
  refine n_getF hb (by decide) ?_
  refine nv_getI hb ?_
  refine nv_astI hb (by decide) (by decide) (fun _ => ?_)
  refine nv_getI hb ?_
  refine nv_putI hb ?_
  rw [ix_of hL.1]
  refine h _ _ ⟨?_, ?_⟩ (frM_clo.1 37 (by decide) _ _ _ (frM_clo.2 36 (by decide) _ _ _ _ hf))
  · rw [va_up_self, i_add hL.1 (show (1 : Int32).toInt = 1 by decide) (by omega), List.length_append]; rfl
  · intro i w hw
    by_cases hi : i < L.length
    · rw [List.getElem?_append_left hi] at hw
      rw [← hL.2 i w hw]
      exact if_neg (fun z => by omega)
    · rw [List.getElem?_append_right (by omega)] at hw
      have hi2 : i = L.length := by
        have := (List.getElem?_eq_some_iff.mp hw).1
        simp at this; omega
      subst hi2
      simp at hw
      subst hw
      exact if_pos ⟨rfl, rfl⟩
/-- one way through the row: those that are there at P and not at R -/
theorem n_chg (hb : MB b) (hF : RXf a sl ar) (hV : AV a) {t : Nat} {P R : Int32} {P' R' : Int} (hP : P.toInt = P') (hR : R.toInt = R') {h0 : Int32} (hL : LnK (ar 18) h0 ((a.rw t).map sl)) {g : Int32 → Int32} {L0 : List Int32} (hl0 : L0.length ≤ 3000) (hO : FOL L0 fi ar)
    {fj : Nat → Int32} {aj : Nat → Nat → Int32} (hf : frM [37] [36] fj aj fi ar) {K K' : HS → Prop}
    (h : ∀ fi' ar', FOL (L0 ++ ((a.rw t).filter fun n => thereB a P' n && !(thereB a R' n)).map fun n => g (num n)) fi' ar' → frM [37] [36] fj aj fi' ar' → (∀ j, j ≠ 36 → ar' j = ar j) → K (mS b fi' ar') → K' (mS b fi' ar')) :
    wLoop (σ := Int32) (fun v18 x17 again15 => wIf (v18 < 0) (K x17) (wRecv x17 12 (some b.o) (w_X12_isThere (some b.o) v18 P x17 (fun v39 x38 => wJoin (κ := HS → Prop) (fun x41 => wGetF x41 12 18 (some b.o) fun v42 => wAldJ x41 20 v42 v18 fun v43 => again15 v43 x41) (fun j40 => wIf (v39 = 0) (j40 x38) (wRecv x38 12 (some b.o) (w_X12_isThere (some b.o) v18 R x38 (fun v45 x44 => wIf (v45 = 0) (wGetF x44 12 14 (some b.o) fun v46 => wAldJ x44 20 v46 v18 fun v47 => wRecv x44 12 (some b.o) (w_X12_find0 (some b.o) (g v47) x44 (fun x48 => j40 x48) X)) (j40 x44)) X)))) X))) h0 (mS b fi ar) →
    wLoop (σ := Int32) (fun v18 x17 again15 => wIf (v18 < 0) (K' x17) (wRecv x17 12 (some b.o) (w_X12_isThere (some b.o) v18 P x17 (fun v39 x38 => wJoin (κ := HS → Prop) (fun x41 => wGetF x41 12 18 (some b.o) fun v42 => wAldJ x41 20 v42 v18 fun v43 => again15 v43 x41) (fun j40 => wIf (v39 = 0) (j40 x38) (wRecv x38 12 (some b.o) (w_X12_isThere (some b.o) v18 R x38 (fun v45 x44 => wIf (v45 = 0) (wGetF x44 12 14 (some b.o) fun v46 => wAldJ x44 20 v46 v18 fun v47 => wRecv x44 12 (some b.o) (w_X12_find0 (some b.o) (g v47) x44 (fun x48 => j40 x48) X)) (j40 x44)) X)))) X))) h0 (mS b fi ar) := by
  refine n_loopV (fun v fi' ar' => (∀ j, j ≠ 36 → ar' j = ar j) ∧ frM [37] [36] fj aj fi' ar' ∧ ∃ A S, a.rw t = A ++ S ∧ LnK (ar 18) v (S.map sl) ∧ FOL (L0 ++ (A.filter fun n => thereB a P' n && !(thereB a R' n)).map fun n => g (num n)) fi' ar') ⟨fun _ _ => rfl, hf, [], a.rw t, rfl, hL, by simpa using hO⟩ (fun v fi' ar' again again' ⟨e2, f1, A, S, s1, s2, s3⟩ ha => ?_)
  refine qv_if (fun c => ?_) (fun c => ?_)
  · simp only [i32, Int32.reduceToInt] at c
    have : S = [] := by
      have := LnK_neg s2 c
      exact List.map_eq_nil_iff.mp this
    rw [this, List.append_nil] at s1
    rw [← s1] at s3
    exact h _ _ s3 f1 e2
  · simp only [i32, Int32.reduceToInt] at c
    obtain ⟨L', e, l4⟩ := LnK_pos s2 (by omega)
    cases S with
    | nil => simp at e
    | cons n S =>
      rw [List.map_cons] at e
      have en : ix v = sl n := (List.cons.inj e).1.symm
      have eL : L' = S.map sl := (List.cons.inj e).2.symm
      subst eL
      have hn : n ∈ a.rw t := by rw [s1]; exact List.mem_append_right _ List.mem_cons_self
      have hq := hF.2.1 t n hn
      have s1' : a.rw t = (A ++ [n]) ++ S := by rw [s1]; simp
      have ehP : thS ar' (ix v) P = thereB a P' n := by
        rw [en]
        unfold thS thereB
        rw [e2 15 (by decide), e2 16 (by decide), hq.2.2.2.2.2.1, hq.2.2.2.2.2.2, hP]
      have ehR : thS ar' (ix v) R = thereB a R' n := by
        rw [en]
        unfold thS thereB
        rw [e2 15 (by decide), e2 16 (by decide), hq.2.2.2.2.2.1, hq.2.2.2.2.2.2, hR]
      have hlen : (L0 ++ (A.filter fun n => thereB a P' n && !(thereB a R' n)).map fun n => g (num n)).length ≤ 6000 := by
        have h1 := List.length_filter_le (fun n => thereB a P' n && !(thereB a R' n)) A
        have h2 := row_le hV t
        rw [s1] at h2
        simp only [List.length_append, List.length_map] at h2 ⊢
        omega
      have go : ∀ fi2 ar2, (∀ j, j ≠ 36 → ar2 j = ar j) → frM [37] [36] fj aj fi2 ar2 → FOL (L0 ++ ((A ++ [n]).filter fun n => thereB a P' n && !(thereB a R' n)).map fun n => g (num n)) fi2 ar2 → (wGetF (mS b fi2 ar2) 12 18 (some b.o) fun v42 => wAldJ (mS b fi2 ar2) 20 v42 v fun v43 => again v43 (mS b fi2 ar2)) → (wGetF (mS b fi2 ar2) 12 18 (some b.o) fun v42 => wAldJ (mS b fi2 ar2) 20 v42 v fun v43 => again' v43 (mS b fi2 ar2)) := fun fi2 ar2 z1 z2 z3 => n_getF hb (by decide) (nv_ald hb (by decide) (by decide) (fun _ => ha _ _ _ ⟨z1, z2, A ++ [n], S, s1', by rw [z1 18 (by decide)]; exact l4, z3⟩))
      rw [m_recv hb, m_recv hb]
      refine n_isThere hb (fun _ => ?_)
      rw [ehP]
      dsimp only [wJoin]
      cases hp : thereB a P' n with
      | false =>
        refine qv_if (fun _ => ?_) (fun z => absurd rfl z)
        refine go _ _ e2 f1 ?_
        rw [List.filter_append, List.filter_cons_of_neg (by simp [hp])]
        simpa using s3
      | true =>
        refine qv_if (fun z => absurd z (by decide)) (fun _ => ?_)
        rw [m_recv hb, m_recv hb]
        refine n_isThere hb (fun _ => ?_)
        rw [ehR]
        cases hr : thereB a R' n with
        | false =>
          refine qv_if (fun _ => ?_) (fun z => absurd rfl z)
          refine n_getF hb (by decide) ?_
          refine nv_ald hb (by decide) (by decide) (fun _ => ?_)
          have e14 : ar' 14 (ix v) = num n := by rw [en, e2 14 (by decide)]; exact num_of hq.2.2.2.2.1
          rw [e14]
          refine n_find0 hb s3 hlen f1 (fun fi2 ar2 z1 z2 => ?_)
          refine go _ _ (fun j hj => ?_) z2 ?_
          · have := z2.2 j (by simpa using hj)
            rw [this, ← e2 j hj]
            exact (f1.2 j (by simpa using hj)).symm
          · rw [List.filter_append, List.filter_cons_of_pos (by simp [hp, hr])]
            simpa [List.append_assoc] using z1
        | true =>
          refine qv_if (fun z => absurd z (by decide)) (fun _ => ?_)
          refine go _ _ e2 f1 ?_
          rw [List.filter_append, List.filter_cons_of_neg (by simp [hp, hr])]
          simpa using s3
theorem n_chgC (hb : MB b) (hA : RA a.1 fi ar) (hS : RXs a fi) {t p q : Int32} {K K' : Int32 → HS → Prop} (hk : K (chgCd a t p q) (mS b fi ar) → K' (chgCd a t p q) (mS b fi ar)) :
    wRecv (mS b fi ar) 12 (some b.o) (w_X12_isTime (some b.o) p (mS b fi ar) (fun v2 x1 => wJoin (κ := Int32 → HS → Prop) K (fun j3 => wJoin (κ := HS → Prop) (fun x51 => j3 1 x51) (fun j50 => wIf (v2 = 0) (j50 x1) (wRecv x1 12 (some b.o) (w_X12_isTime (some b.o) q x1 (fun v53 x52 => wIf (v53 = 0) (j50 x52) (wRecv x52 12 (some b.o) (w_X12_isTable (some b.o) t x52 (fun v55 x54 => wIf (v55 = 0) (j3 2 x54) (j3 0 x54)) X))) X))))) X) →
    wRecv (mS b fi ar) 12 (some b.o) (w_X12_isTime (some b.o) p (mS b fi ar) (fun v2 x1 => wJoin (κ := Int32 → HS → Prop) K' (fun j3 => wJoin (κ := HS → Prop) (fun x51 => j3 1 x51) (fun j50 => wIf (v2 = 0) (j50 x1) (wRecv x1 12 (some b.o) (w_X12_isTime (some b.o) q x1 (fun v53 x52 => wIf (v53 = 0) (j50 x52) (wRecv x52 12 (some b.o) (w_X12_isTable (some b.o) t x52 (fun v55 x54 => wIf (v55 = 0) (j3 2 x54) (j3 0 x54)) X'))) X'))))) X') := by
  dsimp only [wJoin]
  unfold chgCd at hk
  refine n_isTi hb hS (fun c => ?_) (fun c => ?_)
  · rw [if_neg (fun z => c z.1)] at hk; exact hk
  · refine n_isTi hb hS (fun c2 => ?_) (fun c2 => ?_)
    · rw [if_neg (fun z => c2 z.2)] at hk; exact hk
    · rw [if_pos ⟨c, c2⟩] at hk
      refine n_isT hb hA (fun c3 => ?_) (fun c3 => ?_)
      · rw [if_neg c3] at hk; exact hk
      · rw [if_pos c3] at hk; exact hk
theorem chg_cases (a : AS) (t p q : Int32) : chgCd a t p q = 0 ∧ tabOk a t ∨ chgCd a t p q ≠ 0 := by
  unfold chgCd
  split
  · split
    · exact Or.inl ⟨rfl, by assumption⟩
    · exact Or.inr (by decide)
  · exact Or.inr (by decide)
theorem rc_changes (h : RM mo M a y) (hM : M < 300000) (t p q : Int32) : w_X12_changes (some mo) t p q y (fun r u => OK_changes a t p q (u.I mo 0) r ∧ RM mo (M + 1) (nx_changes a t p q) u) X := by
  obtain ⟨b, fi, ar, hb, rfl, rfl, hG, hA, hX, hV⟩ := h
  have h := t_changes (X := X) hb hG RG_ok t p q
  revert h
  obtain ⟨sl, hx⟩ := id hX
  have hx : RXx a sl fi ar := hx
  obtain ⟨hF, hK, hS, hH, hC, hO⟩ := id hx
  unfold w_X12_changes OK_changes nx_changes
  refine n_chgC hb hA hS ?_
  rcases chg_cases a t p q with ⟨e0, ht⟩ | e0
  · rw [e0, if_pos rfl]
    have hti := tab_in ht
    refine nv_f0 hb ?_
    have hS0 : RXs a (va_up fi 0 0) := by
      simp only [RXs, va_up_ne, ne_eq, Nat.reduceEqDiff, not_false_eq_true]; exact hS
    refine n_timeOf hb hS0 (fun P hP => ?_)
    refine n_timeOf hb hS0 (fun R hR => ?_)
    refine nv_putI hb ?_
    refine n_getF hb (by decide) ?_
    refine nv_ald hb (by decide) (by decide) (fun _ => ?_)
    have hL := (hF.1 _ hti).1
    have f0 : frM [0, 37] [36] fi ar (va_up (va_up fi 0 0) 37 0) ar := frM_clo.1 37 (by decide) _ _ _ (frM_clo.1 0 (by decide) _ _ _ frM_rf)
    have t0 : va_up (va_up fi 0 0) 37 0 0 = 0 := by rw [va_up_ne _ _ (by decide), va_up_self]
    have o0 : FOL [] (va_up (va_up fi 0 0) 37 0) ar := ⟨by rw [va_up_self]; decide, fun i v hv => by simp at hv⟩
    generalize va_up (va_up fi 0 0) 37 0 = fz at f0 t0 o0 ⊢
    refine n_chg hb hF hV (g := fun v => v) hR hP hL (L0 := []) (by simp) o0 (frM_rf (fi := fz) (ar := ar)) (fun fi1 ar1 o1 f1 g1 => ?_)
    refine n_getF hb (by decide) ?_
    refine nv_ald hb (by decide) (by decide) (fun _ => ?_)
    have hF1 : RXf a sl ar1 := by
      unfold RXf RF1 at hF ⊢
      rw [g1 18 (by decide), g1 7 (by decide), g1 17 (by decide), g1 8 (by decide), g1 11 (by decide), g1 12 (by decide), g1 13 (by decide), g1 14 (by decide), g1 15 (by decide), g1 16 (by decide)]
      exact hF
    have hL1 := (hF1.1 _ hti).1
    have hlen1 : ([] ++ List.map (fun n => (fun v => v) (num n)) ((a.rw (ix t)).filter fun n => thereB a (timeOf a q) n && !(thereB a (timeOf a p) n))).length ≤ 3000 := by
      have h1 := List.length_filter_le (fun n => thereB a (timeOf a q) n && !(thereB a (timeOf a p) n)) (a.rw (ix t))
      have h2 := row_le hV (ix t)
      simp only [List.nil_append, List.length_map]; omega
    refine n_chg hb hF1 hV (g := fun v => (-1 : Int32) - v) hP hR hL1 hlen1 o1 f1 (fun fi2 ar2 o2 f2 g2 => ?_)
    refine nv_getI hb (fun hg => ?_)
    have eL : ([] ++ List.map (fun n => (fun v => v) (num n)) ((a.rw (ix t)).filter fun n => thereB a (timeOf a q) n && !(thereB a (timeOf a p) n))) ++ List.map (fun n => (fun v => (-1 : Int32) - v) (num n)) ((a.rw (ix t)).filter fun n => thereB a (timeOf a p) n && !(thereB a (timeOf a q) n)) = chgL a (ix t) (timeOf a p) (timeOf a q) := by
      unfold chgL; rw [List.nil_append]
    rw [eL] at o2
    have ff : frM [0, 37] [36] fi ar fi2 ar2 := ⟨fun j hj => (f2.1 j (fun z => hj ((by decide : ∀ j, j ∈ [37] → j ∈ [0, 37]) j z))).trans (f0.1 j hj), fun j hj => (f2.2 j hj)⟩
    refine ⟨⟨by rw [rv_I, f2.1 0 (by decide)]; exact t0, fun _ => num_of o2.1⟩, RM_g hb hg (RA_fr hA ff (by decide) (by decide)) ⟨sl, ?_, ?_, ?_, ?_, ?_, o2⟩ ?_⟩
    · unfold RXf RF1 at hF ⊢
      rw [ff.2 18 (by decide), ff.2 7 (by decide), ff.2 17 (by decide), ff.2 8 (by decide), ff.2 11 (by decide), ff.2 12 (by decide), ff.2 13 (by decide), ff.2 14 (by decide), ff.2 15 (by decide), ff.2 16 (by decide)]
      exact hF
    · unfold RXk at hK ⊢
      rw [ff.2 6 (by decide), ff.2 9 (by decide)]; exact hK
    · unfold RXs at hS ⊢
      rw [ff.1 20 (by decide), ff.1 21 (by decide), ff.1 22 (by decide), ff.1 23 (by decide), ff.1 39 (by decide)]; exact hS
    · unfold RXh at hH ⊢
      rw [ff.1 27 (by decide), ff.1 25 (by decide), ff.2 26 (by decide), ff.2 24 (by decide), ff.2 19 (by decide)]; exact hH
    · unfold RXc at hC ⊢
      rw [ff.2 28 (by decide), ff.2 29 (by decide), ff.2 30 (by decide), ff.2 31 (by decide), ff.2 32 (by decide), ff.2 33 (by decide), ff.2 34 (by decide), ff.2 35 (by decide)]; exact hC
    · refine ⟨hV.1, hV.2.1, hV.2.2.1, hV.2.2.2.1, ?_⟩
      show (chgL a (ix t) (timeOf a p) (timeOf a q)).length ≤ 3000
      exact chg_le hV _ _ _
  · rw [if_neg e0]
    exact nv_fN hb e0 (fun hg => ⟨⟨by rw [rv_I, va_up_self], fun z => absurd z e0⟩, RM_g hb hg (RA_0 hA) (RX_0 hX) hV⟩)
end RO1
