set_option linter.unusedVariables false
set_option linter.unusedSimpArgs false
/-! the reference: a new table -/
theorem tab_e {a : AS} {n : Int32} (hc : (1 ≤ n.toInt ∧ n.toInt ≤ 4) ∧ a.tn.toInt ≠ 12) : (nx1_table a.1 n).tn = a.tn + 1 ∧ (nx1_table a.1 n).co = va_up a.co (ix a.tn) n := by
  have e : nx1_table a.1 n = (a.1.vv, a.1.tl, a.1.tn + 1, va_up a.1.co (ix a.1.tn) n, va_up a.1.ix (ix a.1.tn) (fun _ => false)) := if_pos hc
  rw [e]
  exact ⟨rfl, rfl⟩
theorem av_tab {a : AS} (h : AV a) {a1 : A1} {n : Int32} (hn : 1 ≤ n.toInt ∧ n.toInt ≤ 4) (h12 : a.tn.toInt ≠ 12) (et : a1.tn = a.tn + 1) (ec : a1.co = va_up a.co (ix a.tn) n) : AV (a.w_1 a1) := by
  obtain ⟨⟨r1, r2, r3, r4, r5, r6, r7, r8⟩, ⟨k1, k2⟩, hh, hc, ho⟩ := h
  have e1 : (a.w_1 a1).tn.toInt = a.tn.toInt + 1 := by
    show a1.tn.toInt = _
    rw [et]; exact i_add rfl (by decide) (by omega)
  have hix : ((ix a.tn : Nat) : Int) = a.tn.toInt := ix_int r8.1
  have up : ∀ t, inT a t → inT (a.w_1 a1) t := fun t ht => by
    have ht : (t : Int) < a.tn.toInt := ht
    show (t : Int) < (a.w_1 a1).tn.toInt
    omega
  refine ⟨⟨fun t ht => r1 t (fun z => ht (up t z)), r2, r3, r4, r5, r6, r7, by omega⟩, ⟨fun t ht => k1 t (fun z => ht (up t z)), fun t ht => ?_⟩, hh, fun c hc' hop => ?_, ho⟩
  · have ht : (t : Int) < (a.w_1 a1).tn.toInt := ht
    show (a.ky t).length ≤ 3 ∧ (1 ≤ (a1.co t).toInt ∧ (a1.co t).toInt ≤ 4) ∧ ∀ m, m ∈ a.ky t → 1 ≤ m.toInt ∧ m.toInt < 2 ^ (a1.co t).toInt.toNat
    by_cases e : t = ix a.tn
    · have hno : a.ky t = [] := k1 t (fun z => by
        have z : (t : Int) < a.tn.toInt := z
        omega)
      rw [hno, ec, e, va_up_self]
      exact ⟨by simp, hn, fun m hm => absurd hm List.not_mem_nil⟩
    · rw [ec, va_up_ne _ _ e]
      exact k2 t (by show (t : Int) < a.tn.toInt; omega)
  · obtain ⟨q1, q2⟩ := hc c hc' hop
    exact ⟨up _ q1, q2⟩
section RS1
variable {b : MT} {fi : Nat → Int32} {ar : Nat → Nat → Int32} {mo M : Nat} {a : AS} {y : HS} {sl : Nat → Nat} {X X' : String → HS → Prop} {Q Q' : HS → Prop} {QI QI' : Int32 → HS → Prop}
theorem rx_tab (hx : RXx a sl fi ar) (hV : AV a) {a1 : A1} (et : a1.tn = a.tn + 1) (h12 : a.tn.toInt ≠ 12) {fz : Nat → Int32} {az : Nat → Nat → Int32} (hf : frM [0, 10] [4, 5, 6, 7, 8] fi ar fz az) (e6 : az 6 = va_up (ar 6) (ix a.tn) 0) (e7 : az 7 = va_up (ar 7) (ix a.tn) (-1)) (e8 : az 8 = va_up (ar 8) (ix a.tn) (-1)) : RXx (a.w_1 a1) sl fz az := by
  obtain ⟨hF, hK, hS, hH, hC, hO⟩ := hx
  have r8 := hV.1.2.2.2.2.2.2.2
  have e1 : (a.w_1 a1).tn.toInt = a.tn.toInt + 1 := by
    show a1.tn.toInt = _
    rw [et]; exact i_add rfl (by decide) (by omega)
  have hix : ((ix a.tn : Nat) : Int) = a.tn.toInt := ix_int r8.1
  have hno : ¬ inT a (ix a.tn) := fun z => by
    have z : ((ix a.tn : Nat) : Int) < a.tn.toInt := z
    omega
  refine ⟨⟨fun t ht => ?_, ?_, ?_⟩, fun t ht => ?_, ?_, ?_, ?_, ?_⟩
  · have ht : (t : Int) < (a.w_1 a1).tn.toInt := ht
    show LnK (az 18) (az 7 t) ((a.rw t).map sl) ∧ LnK (az 17) (az 8 t) ((a.rw t).map sl).reverse
    rw [hf.2 18 (by decide), hf.2 17 (by decide), e7, e8]
    by_cases e : t = ix a.tn
    · rw [e, hV.1.1 _ hno, va_up_self, va_up_self]
      exact ⟨LnK_nil.mpr (by decide), LnK_nil.mpr (by decide)⟩
    · rw [va_up_ne _ _ e, va_up_ne _ _ e]
      exact hF.1 t (by show (t : Int) < a.tn.toInt; omega)
  · show ∀ t n, n ∈ a.rw t → RF1 a sl az t n
    unfold RF1
    rw [hf.2 11 (by decide), hf.2 12 (by decide), hf.2 13 (by decide), hf.2 14 (by decide), hf.2 15 (by decide), hf.2 16 (by decide)]
    exact hF.2.1
  · rw [hf.2 11 (by decide)]; exact hF.2.2
  · have ht : (t : Int) < (a.w_1 a1).tn.toInt := ht
    show (az 6 t).toInt = ((a.ky t).length : Int) ∧ ∀ (i : Nat) (m : Int32), (a.ky t)[i]? = some m → az 9 (3 * t + i) = m
    rw [hf.2 9 (by decide), e6]
    by_cases e : t = ix a.tn
    · rw [e, hV.2.1.1 _ hno, va_up_self]
      exact ⟨by decide, fun i m hm => by simp at hm⟩
    · rw [va_up_ne _ _ e]
      exact hK t (by show (t : Int) < a.tn.toInt; omega)
  · show RXs a fz
    unfold RXs at hS ⊢
    rw [hf.1 20 (by decide), hf.1 21 (by decide), hf.1 22 (by decide), hf.1 23 (by decide), hf.1 39 (by decide)]; exact hS
  · show RXh a sl fz az
    unfold RXh at hH ⊢
    rw [hf.1 27 (by decide), hf.1 25 (by decide), hf.2 26 (by decide), hf.2 24 (by decide), hf.2 19 (by decide)]; exact hH
  · show RXc a sl az
    unfold RXc at hC ⊢
    rw [hf.2 28 (by decide), hf.2 29 (by decide), hf.2 30 (by decide), hf.2 31 (by decide), hf.2 32 (by decide), hf.2 33 (by decide), hf.2 34 (by decide), hf.2 35 (by decide)]; exact hC
  · show RXo a fz az
    unfold RXo at hO ⊢
    rw [hf.1 37 (by decide), hf.2 36 (by decide)]; exact hO
theorem rc_table (h : RM mo M a y) (hM : M < 300000) (n : Int32) : w_X12_table (some mo) n y (fun r u => OK_table a n (u.I mo 0) r ∧ RM mo (M + 1) (nx_table a n) u) X := by
  have h1 := rc1_table (X := X) (RM_1 h) hM n
  obtain ⟨b, fi, ar, hb, rfl, rfl, hG, hA, hX, hV⟩ := h
  revert h1
  unfold w_X12_table OK_table
  dsimp only [wJoin]
  have bad : ¬ ((1 ≤ n.toInt ∧ n.toInt ≤ 4) ∧ a.tn.toInt ≠ 12) → ∀ (k r : Int32), OK1_table a.1 n ((mS b (va_up fi 0 k) ar).I b.o 0) r ∧ RM1 b.o (M + 1) (nx1_table a.1 n) (mS b (va_up fi 0 k) ar) → OK1_table a.1 n ((mS b (va_up fi 0 k) ar).I b.o 0) r ∧ RM b.o (M + 1) (nx_table a n) (mS b (va_up fi 0 k) ar) := fun c k r hq => by
    have e : nx1_table a.1 n = a.1 := if_neg c
    have e2 : nx_table a n = a := (congrArg (fun z => a.w_1 z) e : a.w_1 (nx1_table a.1 n) = a.w_1 a.1)
    rw [e2]
    exact ⟨hq.1, RM_of hb hq.2 e (RX_0 hX) hV⟩
  refine qv_if (fun c => nv_fN hb (by decide) (bad ?_ 1 0)) (fun c => ?_)
  · simp only [i32, Int32.reduceToInt] at c; omega
  · simp only [i32, Int32.reduceToInt] at c
    refine qv_if (fun c2 => ?_) (fun c2 => nv_fN hb (by decide) (bad ?_ 1 0))
    · simp only [i32, Int32.reduceToInt] at c2
      refine nv_getI hb ?_
      rw [hA.2.2.1]
      refine qv_if (fun c3 => nv_fN hb (by decide) (bad ?_ 2 0)) (fun c3 => ?_)
      · have c3 : a.tn = 12 := c3
        exact fun z => z.2 (by rw [c3]; decide)
      · have e12 : ¬ a.tn.toInt = 12 := fun z => c3 (i_ext (by rw [z]; decide))
        have cc : (1 ≤ n.toInt ∧ n.toInt ≤ 4) ∧ a.tn.toInt ≠ 12 := ⟨⟨by omega, c2⟩, e12⟩
        refine nv_f0 hb ?_
        have e10 : va_up fi 0 0 10 = a.tn := by rw [va_up_ne _ _ (by decide)]; exact hA.2.2.1
        refine n_getF hb (by decide) ?_
        refine nv_getI hb ?_
        rw [e10]
        refine nv_astI hb (by decide) (by decide) (fun _ => ?_)
        refine n_getF hb (by decide) ?_
        refine nv_getI hb ?_
        rw [e10]
        refine nv_astI hb (by decide) (by decide) (fun _ => ?_)
        refine n_getF hb (by decide) ?_
        refine nv_getI hb ?_
        rw [e10]
        refine nv_astI hb (by decide) (by decide) (fun _ => ?_)
        refine n_getF hb (by decide) ?_
        refine nv_getI hb ?_
        rw [e10]
        refine nv_astI hb (by decide) (by decide) (fun _ => ?_)
        refine n_getF hb (by decide) ?_
        refine nv_getI hb ?_
        rw [e10]
        refine nv_astI hb (by decide) (by decide) (fun _ => ?_)
        refine nv_getI hb ?_
        rw [e10]
        refine nv_putI hb ?_
        refine nv_getI hb (fun hq => ?_)
        obtain ⟨sl, hx⟩ := hX
        obtain ⟨et, ec⟩ := tab_e cc
        refine ⟨hq.1, RM_of hb hq.2 rfl ⟨sl, rx_tab (fi := fi) (ar := ar) hx hV et e12 ?_ ?_ ?_ ?_⟩ (av_tab hV cc.1 e12 et ec)⟩
        · exact frM_clo.1 10 (by decide) _ _ _ (frM_clo.2 8 (by decide) _ _ _ _ (frM_clo.2 7 (by decide) _ _ _ _ (frM_clo.2 6 (by decide) _ _ _ _ (frM_clo.2 5 (by decide) _ _ _ _ (frM_clo.2 4 (by decide) _ _ _ _ (frM_clo.1 0 (by decide) _ _ _ frM_rf))))))
        · simp only [up2_nj, up2_at, ne_eq, Nat.reduceEqDiff, not_false_eq_true]
        · simp only [up2_nj, up2_at, ne_eq, Nat.reduceEqDiff, not_false_eq_true]
        · simp only [up2_nj, up2_at, ne_eq, Nat.reduceEqDiff, not_false_eq_true]
    · simp only [i32, Int32.reduceToInt] at c2; omega
end RS1
