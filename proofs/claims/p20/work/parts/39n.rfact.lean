set_option linter.unusedVariables false
set_option linter.unusedSimpArgs false
/-! the reference: fact, changes, table -/
section RN1
variable {b : MT} {fi : Nat → Int32} {ar : Nat → Nat → Int32} {mo M : Nat} {a : AS} {y : HS} {sl : Nat → Nat} {X X' : String → HS → Prop} {Q Q' : HS → Prop} {QI QI' : Int32 → HS → Prop}
/-- which fact a number names -/
def isNo (a : AS) (n : Int32) : Option Nat := if 0 ≤ n.toInt ∧ n.toInt.toNat ∈ allF a then some n.toInt.toNat else none
theorem n_byNumber (hb : MB b) (hF : RXf a sl ar) (hV : AV a) {n : Int32} (h : ∀ r : Int32, (match isNo a n with | none => r.toInt = -1 | some k => r.toInt = (sl k : Int)) → QI r (mS b fi ar) → QI' r (mS b fi ar)) : wRecv (mS b fi ar) 12 (some b.o) (w_X12_byNumber (some b.o) n (mS b fi ar) QI X) → wRecv (mS b fi ar) 12 (some b.o) (w_X12_byNumber (some b.o) n (mS b fi ar) QI' X') := by
  rw [m_recv hb, m_recv hb]
  unfold w_X12_byNumber
  refine n_loopV (fun v fi' ar' => fi' = fi ∧ ar' = ar ∧ ∃ i : Nat, v.toInt = (i : Int) ∧ i ≤ 3000 ∧ ∀ s, s < i → ar 11 s ≠ 0 → ar 14 s ≠ n) ⟨rfl, rfl, 0, by decide, by omega, fun k hk => absurd hk (by omega)⟩ (fun v fi' ar' again again' ⟨e1, e2, i, i1, i2, i3⟩ ha => ?_)
  subst e1; subst e2
  refine qv_if (fun c => ?_) (fun c => ?_)
  · simp only [i32, Int32.reduceToInt] at c
    refine h _ ?_
    have : isNo a n = none := by
      unfold isNo
      refine if_neg (fun ⟨z1, z2⟩ => ?_)
      obtain ⟨t, ht⟩ := (mem_allF hV.1).mp z2
      obtain ⟨q1, q2, q3, q4, q5, -⟩ := hF.2.1 t _ ht
      exact i3 _ (by omega) q2 (i_ext (by rw [q5]; omega))
    rw [this]
    show (-1 : Int32).toInt = -1
    decide
  · simp only [i32, Int32.reduceToInt] at c
    have go : (ar' 11 i ≠ 0 → ar' 14 i ≠ n) → again (v + 1) (mS b fi' ar') → again' (v + 1) (mS b fi' ar') := fun hne => ha _ _ _ ⟨rfl, rfl, i + 1, by rw [i_add i1 (show (1 : Int32).toInt = 1 by decide) (by omega)]; omega, by omega, fun s hs hu => by
      by_cases e : s = i
      · subst e; exact hne hu
      · exact i3 s (by omega) hu⟩
    refine n_getF hb (by decide) ?_
    refine nv_ald hb (by decide) (by decide) (fun _ => ?_)
    rw [ix_of i1]
    dsimp only [wJoin]
    refine qv_if (fun c2 => go (fun z => absurd c2 z)) (fun c2 => ?_)
    refine n_getF hb (by decide) ?_
    refine nv_ald hb (by decide) (by decide) (fun _ => ?_)
    rw [ix_of i1]
    refine qv_if (fun c3 => ?_) (fun c3 => go (fun _ => c3))
    refine h v ?_
    obtain ⟨t, k, k1, k2⟩ := hF.2.2 i (by omega) c2
    have k5 := (hF.2.1 t k k1).2.2.2.2.1
    rw [k2, c3] at k5
    have : isNo a n = some k := by
      unfold isNo
      have e : n.toInt.toNat = k := by omega
      rw [e]
      exact if_pos ⟨by omega, (mem_allF hV.1).mpr ⟨t, k1⟩⟩
    rw [this]
    show v.toInt = (sl k : Int)
    rw [k2]; exact i1
theorem n_ahead (hb : MB b) {g : Int32} {A B : List Nat} {k : Nat} {l : Int32} (hg : g.toInt = (k : Int)) (hl : LnK (ar 17) l (A ++ k :: B).reverse) (hA : A.length ≤ 3000) (h : ∀ r : Int32, r.toInt = (A.length : Int) → QI r (mS b fi ar) → QI' r (mS b fi ar)) : wRecv (mS b fi ar) 12 (some b.o) (w_X12_ahead (some b.o) g (mS b fi ar) QI X) → wRecv (mS b fi ar) 12 (some b.o) (w_X12_ahead (some b.o) g (mS b fi ar) QI' X') := by
  rw [m_recv hb, m_recv hb]
  unfold w_X12_ahead
  refine n_getF hb (by decide) ?_
  refine nv_ald hb (by decide) (by decide) (fun _ => ?_)
  rw [ix_of hg]
  have hA2 : LnK (ar 17) (ar 17 k) A.reverse := by
    have e : (A ++ k :: B).reverse = B.reverse ++ k :: A.reverse := by simp
    rw [e] at hl
    obtain ⟨q, -, h2⟩ := LnK_app.mp hl
    exact (LnK_cons.mp h2).2
  refine n_loopV (fun v fi' ar' => fi' = fi ∧ ar' = ar ∧ ∃ L, LnK (ar 17) v.2 L ∧ v.1.toInt + L.length = A.length ∧ 0 ≤ v.1.toInt) ⟨rfl, rfl, A.reverse, hA2, by rw [List.length_reverse]; show (0 : Int32).toInt + _ = _; rw [show (0 : Int32).toInt = 0 by decide]; omega, by show 0 ≤ (0 : Int32).toInt; decide⟩ (fun v fi' ar' again again' ⟨e1, e2, L, l1, l2, l3⟩ ha => ?_)
  subst e1; subst e2
  refine qv_if (fun c => ?_) (fun c => ?_)
  · simp only [i32, Int32.reduceToInt] at c
    have : L = [] := LnK_neg l1 c
    rw [this] at l2
    exact h _ (by simpa using l2)
  · simp only [i32, Int32.reduceToInt] at c
    obtain ⟨L', e, l4⟩ := LnK_pos l1 (by omega)
    subst e
    refine n_getF hb (by decide) ?_
    refine nv_ald hb (by decide) (by decide) (fun _ => ?_)
    simp only [List.length_cons] at l2
    have e1 : (v.1 + 1).toInt = v.1.toInt + 1 := i_add rfl (by decide) (by omega)
    exact ha _ _ _ ⟨rfl, rfl, L', l4, by show (v.1 + 1).toInt + _ = _; omega, by show 0 ≤ (v.1 + 1).toInt; omega⟩
theorem idx_split {A B : List Nat} {k : Nat} (h : k ∉ A) : (A ++ k :: B).idxOf k = A.length := by
  rw [List.idxOf_append, if_neg h, List.idxOf_cons_self]; omega
theorem fact_cases (a : AS) (n w : Int32) : (factCd a n w = 0 ∧ (0 ≤ w.toInt ∧ w.toInt ≤ 7) ∧ ∃ k, isNo a n = some k ∧ k = n.toInt.toNat ∧ k ∈ allF a) ∨ (factCd a n w = 1 ∧ ¬ (0 ≤ w.toInt ∧ w.toInt ≤ 7)) ∨ (factCd a n w = 2 ∧ (0 ≤ w.toInt ∧ w.toInt ≤ 7) ∧ isNo a n = none) := by
  unfold factCd isNo
  split
  · rename_i h1
    split
    · rename_i h2; exact Or.inl ⟨rfl, h1, _, rfl, rfl, h2.2⟩
    · exact Or.inr (Or.inr ⟨rfl, h1, rfl⟩)
  · rename_i h1; exact Or.inr (Or.inl ⟨rfl, h1⟩)
theorem rc_fact (h : RM mo M a y) (hM : M < 300000) (n w : Int32) : w_X12_fact (some mo) n w y (fun r u => OK_fact a n w (u.I mo 0) r ∧ RM mo (M + 1) (nx_fact a n w) u) X := by
  obtain ⟨b, fi, ar, hb, rfl, rfl, hG, hA, hX, hV⟩ := h
  have h := t_fact (X := X) hb hG RG_ok n w
  revert h
  obtain ⟨sl, hx⟩ := id hX
  have hx : RXx a sl fi ar := hx
  obtain ⟨hF, hK, hS, hH, hC, hO⟩ := id hx
  unfold w_X12_fact OK_fact nx_fact
  dsimp only [wJoin]
  have bad : ∀ v : Int32, v ≠ 0 → factCd a n w = v → RG b M (ar 3) (mS b (va_up fi 0 v) ar) → EX (factCd a n w) (factR a n.toInt.toNat w.toInt) ((mS b (va_up fi 0 v) ar).I b.o 0) 0 ∧ RM b.o (M + 1) a (mS b (va_up fi 0 v) ar) := fun v h0 hv hg => ⟨⟨by rw [rv_I, va_up_self]; exact hv.symm, fun z => absurd (hv.symm.trans z) h0⟩, RM_g hb hg (RA_0 hA) (RX_0 hX) hV⟩
  rcases fact_cases a n w with ⟨e0, hw, k, hk1, hk2, hk3⟩ | ⟨e0, hw⟩ | ⟨e0, hw, hk⟩
  · refine qv_if (fun c => ?_) (fun c => ?_)
    · simp only [i32, Int32.reduceToInt] at c; omega
    · refine qv_if (fun c2 => ?_) (fun c2 => ?_)
      · refine n_byNumber hb hF hV (fun r hr => ?_)
        rw [hk1] at hr
        have hr : r.toInt = (sl k : Int) := hr
        refine qv_if (fun _ => ?_) (fun z => ?_)
        · refine nv_f0 hb ?_
          refine n_byNumber hb hF hV (fun r hr => ?_)
          rw [hk1] at hr
          have hr : r.toInt = (sl k : Int) := hr
          rw [e0, ← hk2]
          obtain ⟨t, ht⟩ := (mem_allF hV.1).mp hk3
          obtain ⟨q1, q2, q3, q4, q5, q6, q7⟩ := hF.2.1 t k ht
          have hft := (hV.1.2.2.2.1 t k ht).2.1
          have fin : ∀ v : Int32, v = factR a k w.toInt → RG b M (ar 3) (mS b (va_up fi 0 0) ar) → EX 0 (factR a k w.toInt) ((mS b (va_up fi 0 0) ar).I b.o 0) v ∧ RM b.o (M + 1) a (mS b (va_up fi 0 0) ar) := fun v hv hg => ⟨⟨by rw [rv_I, va_up_self], fun _ => hv⟩, RM_g hb hg (RA_0 hA) (RX_0 hX) hV⟩
          have wn : ∀ (j : Int32) (m : Int), j.toInt = m → (w = j ↔ w.toInt = m) := fun j m hj => ⟨fun z => by rw [z]; exact hj, fun z => i_ext (by rw [z]; exact hj.symm)⟩
          unfold factR at fin
          refine qv_if (fun c4 => ?_) (fun c4 => ?_)
          · have c4 := (wn 4 4 (by decide)).mp c4
            refine n_getF hb (by decide) ?_
            refine nv_ald hb (by decide) (by decide) (fun _ => fin _ ?_)
            rw [if_pos c4, ix_of hr, hft]
            exact num_of q3
          · have c4 : ¬ w.toInt = 4 := fun z => c4 ((wn 4 4 (by decide)).mpr z)
            refine qv_if (fun c5 => ?_) (fun c5 => ?_)
            · have c5 := (wn 5 5 (by decide)).mp c5
              refine n_getF hb (by decide) ?_
              refine nv_ald hb (by decide) (by decide) (fun _ => fin _ ?_)
              rw [if_neg c4, if_pos c5, ix_of hr]
              exact ofI q6
            · have c5 : ¬ w.toInt = 5 := fun z => c5 ((wn 5 5 (by decide)).mpr z)
              refine qv_if (fun c6 => ?_) (fun c6 => ?_)
              · have c6 := (wn 6 6 (by decide)).mp c6
                refine n_getF hb (by decide) ?_
                refine nv_ald hb (by decide) (by decide) (fun _ => fin _ ?_)
                rw [if_neg c4, if_neg c5, if_pos c6, ix_of hr]
                exact ofI q7
              · have c6 : ¬ w.toInt = 6 := fun z => c6 ((wn 6 6 (by decide)).mpr z)
                refine qv_if (fun c7 => ?_) (fun c7 => ?_)
                · have c7 := (wn 7 7 (by decide)).mp c7
                  have hti : inT a t := Classical.byContradiction fun z => by
                    rw [hV.1.1 t z] at ht; exact absurd ht List.not_mem_nil
                  obtain ⟨A, B, s1, s2⟩ := mem_split ht
                  have hl := (hF.1 t hti).2
                  rw [s1, List.map_append, List.map_cons] at hl
                  have hlen : (A.map sl).length ≤ 3000 := by
                    have := row_le hV t
                    rw [s1] at this
                    simp only [List.length_append, List.length_map] at this ⊢
                    omega
                  refine n_ahead hb hr hl hlen (fun r2 hr2 => fin _ ?_)
                  rw [if_neg c4, if_neg c5, if_neg c6, if_pos c7, hft, s1, idx_split s2]
                  rw [List.length_map] at hr2
                  exact num_of hr2
                · have c7 : ¬ w.toInt = 7 := fun z => c7 ((wn 7 7 (by decide)).mpr z)
                  refine n_getF hb (by decide) ?_
                  refine nv_ald hb (by decide) (by decide) (fun _ => fin _ ?_)
                  rw [if_neg c4, if_neg c5, if_neg c6, if_neg c7]
                  have e4 : ((4 : Int32) * r + w).toInt = ((4 * sl k + w.toInt.toNat : Nat) : Int) := by
                    rw [i_add (i_mul (show (4 : Int32).toInt = 4 by decide) hr (by omega)) rfl (by omega)]; omega
                  rw [ix_of e4]
                  exact q4 _ (by omega)
        · simp only [i32, Int32.reduceToInt] at z; omega
      · simp only [i32, Int32.reduceToInt] at c2; omega
  · refine qv_if (fun c => nv_fN hb (by decide) (bad 1 (by decide) e0)) (fun c => ?_)
    refine qv_if (fun c2 => ?_) (fun c2 => nv_fN hb (by decide) (bad 1 (by decide) e0))
    simp only [i32, Int32.reduceToInt] at c c2; omega
  · refine qv_if (fun c => ?_) (fun c => ?_)
    · simp only [i32, Int32.reduceToInt] at c; omega
    · refine qv_if (fun c2 => ?_) (fun c2 => ?_)
      · refine n_byNumber hb hF hV (fun r hr => ?_)
        rw [hk] at hr
        have hr : r.toInt = -1 := hr
        refine qv_if (fun z => ?_) (fun _ => nv_fN hb (by decide) (bad 2 (by decide) e0))
        simp only [i32, Int32.reduceToInt] at z; omega
      · simp only [i32, Int32.reduceToInt] at c2; omega
end RN1
