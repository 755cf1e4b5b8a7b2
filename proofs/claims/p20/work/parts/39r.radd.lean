set_option linter.unusedVariables false
set_option linter.unusedSimpArgs false
/-! the reference: a fact comes -/
section RR1
variable {b : MT} {fi : Nat → Int32} {ar : Nat → Nat → Int32} {mo M : Nat} {a : AS} {y : HS} {sl : Nat → Nat} {X X' : String → HS → Prop} {Q Q' : HS → Prop} {QI QI' : Int32 → HS → Prop}
theorem n_free (hb : MB b) (h : ∀ (r : Int32) (s : Nat), r.toInt = (s : Int) → s < 3000 → ar 11 s = 0 → QI r (mS b fi ar) → QI' r (mS b fi ar)) : wRecv (mS b fi ar) 12 (some b.o) (w_X12_free (some b.o) (mS b fi ar) QI X) → wRecv (mS b fi ar) 12 (some b.o) (w_X12_free (some b.o) (mS b fi ar) QI' X') := by
  rw [m_recv hb, m_recv hb]
  unfold w_X12_free
  refine n_loopV (fun v fi' ar' => fi' = fi ∧ ar' = ar) ⟨rfl, rfl⟩ (fun v fi' ar' again again' ⟨e1, e2⟩ ha => ?_)
  subst e1; subst e2
  refine n_getF hb (by decide) ?_
  refine nv_ald hb (by decide) (by decide) (fun hw => ?_)
  have hw : wIn v 3000 := hw
  have hi := ix_int hw.1
  refine qv_if (fun c => h v (ix v) hi.symm (by have := hw.2; omega) c) (fun c => ha _ _ _ ⟨rfl, rfl⟩)
/-- what fresh does: the slot s, for the table t -/
def FrS (fi : Nat → Int32) (ar : Nat → Nat → Int32) (r t : Int32) (s : Nat) (fi' : Nat → Int32) (ar' : Nat → Nat → Int32) : Prop :=
  frM [20, 21, 22, 25] [11, 12, 14, 15, 16, 19, 24] fi ar fi' ar' ∧ fi' 20 = fi 20 + 1 ∧ fi' 21 = fi 21 + 1 ∧ fi' 22 = fi 22 + 1 ∧ ar' 11 = va_up (ar 11) s 1 ∧ ar' 12 = va_up (ar 12) s t ∧ ar' 14 = va_up (ar 14) s (fi 21) ∧ ar' 15 = va_up (ar 15) s (fi 22 + 1) ∧ ar' 16 = va_up (ar 16) s (-1) ∧ ar' 19 = va_up (ar 19) s r ∧
  ((fi 27 = 0 ∧ fi' 25 = fi 25 ∧ ar' 24 = ar 24) ∨ (fi 27 ≠ 0 ∧ wIn (fi 25) 12000 ∧ fi' 25 = fi 25 + 1 ∧ ar' 24 = va_up (ar 24) (ix (fi 25)) r))
theorem n_fresh (hb : MB b) {t : Int32} (h : ∀ (r : Int32) (s : Nat) (fi' : Nat → Int32) (ar' : Nat → Nat → Int32), r.toInt = (s : Int) → s < 3000 → ar 11 s = 0 → FrS fi ar r t s fi' ar' → QI r (mS b fi' ar') → QI' r (mS b fi' ar')) : wRecv (mS b fi ar) 12 (some b.o) (w_X12_fresh (some b.o) t (mS b fi ar) QI X) → wRecv (mS b fi ar) 12 (some b.o) (w_X12_fresh (some b.o) t (mS b fi ar) QI' X') := by
  rw [m_recv hb, m_recv hb]
  unfold w_X12_fresh
  refine n_free hb (fun r s hr hs hu => ?_)
  have hir : ix r = s := ix_of hr
  refine n_getF hb (by decide) ?_
  refine nv_astZ hb (by decide) (by decide) (fun _ => ?_)
  refine n_getF hb (by decide) ?_
  refine nv_astI hb (by decide) (by decide) (fun _ => ?_)
  refine n_getF hb (by decide) ?_
  refine nv_getI hb ?_
  refine nv_astI hb (by decide) (by decide) (fun _ => ?_)
  refine nv_getI hb ?_
  refine nv_putI hb ?_
  refine nv_getI hb ?_
  refine nv_putI hb ?_
  refine nv_getI hb ?_
  refine nv_putI hb ?_
  refine n_getF hb (by decide) ?_
  refine nv_getI hb ?_
  refine nv_astI hb (by decide) (by decide) (fun _ => ?_)
  refine n_getF hb (by decide) ?_
  refine nv_astI hb (by decide) (by decide) (fun _ => ?_)
  refine n_getF hb (by decide) ?_
  refine nv_astI hb (by decide) (by decide) (fun _ => ?_)
  rw [hir]
  simp only [va_up_self, va_up_ne, ne_eq, Nat.reduceEqDiff, not_false_eq_true]
  have f1 : frM [20, 21, 22, 25] [11, 12, 14, 15, 16, 19, 24] fi ar (va_up (va_up (va_up fi 21 (fi 21 + 1)) 20 (fi 20 + 1)) 22 (fi 22 + 1)) (up2 (up2 (up2 (up2 (up2 (up2 ar 11 s 1) 12 s t) 14 s (fi 21)) 15 s (fi 22 + 1)) 16 s (-1)) 19 s r) := frM_clo.2 19 (by decide) _ _ _ _ (frM_clo.2 16 (by decide) _ _ _ _ (frM_clo.2 15 (by decide) _ _ _ _ (frM_clo.2 14 (by decide) _ _ _ _ (frM_clo.2 12 (by decide) _ _ _ _ (frM_clo.2 11 (by decide) _ _ _ _ (frM_clo.1 22 (by decide) _ _ _ (frM_clo.1 20 (by decide) _ _ _ (frM_clo.1 21 (by decide) _ _ _ frM_rf))))))))
  have e11 : (up2 (up2 (up2 (up2 (up2 (up2 ar 11 s 1) 12 s t) 14 s (fi 21)) 15 s (fi 22 + 1)) 16 s (-1)) 19 s r) 11 = va_up (ar 11) s 1 := by simp only [up2_nj, up2_at, ne_eq, Nat.reduceEqDiff, not_false_eq_true]
  have e12 : (up2 (up2 (up2 (up2 (up2 (up2 ar 11 s 1) 12 s t) 14 s (fi 21)) 15 s (fi 22 + 1)) 16 s (-1)) 19 s r) 12 = va_up (ar 12) s t := by simp only [up2_nj, up2_at, ne_eq, Nat.reduceEqDiff, not_false_eq_true]
  have e14 : (up2 (up2 (up2 (up2 (up2 (up2 ar 11 s 1) 12 s t) 14 s (fi 21)) 15 s (fi 22 + 1)) 16 s (-1)) 19 s r) 14 = va_up (ar 14) s (fi 21) := by simp only [up2_nj, up2_at, ne_eq, Nat.reduceEqDiff, not_false_eq_true]
  have e15 : (up2 (up2 (up2 (up2 (up2 (up2 ar 11 s 1) 12 s t) 14 s (fi 21)) 15 s (fi 22 + 1)) 16 s (-1)) 19 s r) 15 = va_up (ar 15) s (fi 22 + 1) := by simp only [up2_nj, up2_at, ne_eq, Nat.reduceEqDiff, not_false_eq_true]
  have e16 : (up2 (up2 (up2 (up2 (up2 (up2 ar 11 s 1) 12 s t) 14 s (fi 21)) 15 s (fi 22 + 1)) 16 s (-1)) 19 s r) 16 = va_up (ar 16) s (-1) := by simp only [up2_nj, up2_at, ne_eq, Nat.reduceEqDiff, not_false_eq_true]
  have e19 : (up2 (up2 (up2 (up2 (up2 (up2 ar 11 s 1) 12 s t) 14 s (fi 21)) 15 s (fi 22 + 1)) 16 s (-1)) 19 s r) 19 = va_up (ar 19) s r := by simp only [up2_nj, up2_at, ne_eq, Nat.reduceEqDiff, not_false_eq_true]
  have e24 : (up2 (up2 (up2 (up2 (up2 (up2 ar 11 s 1) 12 s t) 14 s (fi 21)) 15 s (fi 22 + 1)) 16 s (-1)) 19 s r) 24 = ar 24 := by simp only [up2_nj, ne_eq, Nat.reduceEqDiff, not_false_eq_true]
  have v20 : va_up (va_up (va_up fi 21 (fi 21 + 1)) 20 (fi 20 + 1)) 22 (fi 22 + 1) 20 = fi 20 + 1 := by simp only [va_up_self, va_up_ne, ne_eq, Nat.reduceEqDiff, not_false_eq_true]
  have v21 : va_up (va_up (va_up fi 21 (fi 21 + 1)) 20 (fi 20 + 1)) 22 (fi 22 + 1) 21 = fi 21 + 1 := by simp only [va_up_self, va_up_ne, ne_eq, Nat.reduceEqDiff, not_false_eq_true]
  have v22 : va_up (va_up (va_up fi 21 (fi 21 + 1)) 20 (fi 20 + 1)) 22 (fi 22 + 1) 22 = fi 22 + 1 := va_up_self _ _ _
  have v25 : va_up (va_up (va_up fi 21 (fi 21 + 1)) 20 (fi 20 + 1)) 22 (fi 22 + 1) 25 = fi 25 := by simp only [va_up_ne, ne_eq, Nat.reduceEqDiff, not_false_eq_true]
  have v27 : va_up (va_up (va_up fi 21 (fi 21 + 1)) 20 (fi 20 + 1)) 22 (fi 22 + 1) 27 = fi 27 := by simp only [va_up_ne, ne_eq, Nat.reduceEqDiff, not_false_eq_true]
  generalize up2 (up2 (up2 (up2 (up2 (up2 ar 11 s 1) 12 s t) 14 s (fi 21)) 15 s (fi 22 + 1)) 16 s (-1)) 19 s r = az at f1 e11 e12 e14 e15 e16 e19 e24 ⊢
  generalize va_up (va_up (va_up fi 21 (fi 21 + 1)) 20 (fi 20 + 1)) 22 (fi 22 + 1) = fz at f1 v20 v21 v22 v25 v27 ⊢
  rw [m_recv hb, m_recv hb]
  refine n_note hb (fun c => ?_) (fun c hw => ?_)
  · rw [v27] at c
    exact h r s _ _ hr hs hu ⟨f1, v20, v21, v22, e11, e12, e14, e15, e16, e19, Or.inl ⟨c, v25, e24⟩⟩
  · rw [v27] at c
    rw [v25] at hw ⊢
    refine h r s _ _ hr hs hu ⟨frM_clo.2 24 (by decide) _ _ _ _ (frM_clo.1 25 (by decide) _ _ _ f1), ?_, ?_, ?_, ?_, ?_, ?_, ?_, ?_, ?_, Or.inr ⟨c, hw, va_up_self _ _ _, ?_⟩⟩
    · rw [va_up_ne _ _ (by decide)]; exact v20
    · rw [va_up_ne _ _ (by decide)]; exact v21
    · rw [va_up_ne _ _ (by decide)]; exact v22
    · rw [up2_nj (by decide)]; exact e11
    · rw [up2_nj (by decide)]; exact e12
    · rw [up2_nj (by decide)]; exact e14
    · rw [up2_nj (by decide)]; exact e15
    · rw [up2_nj (by decide)]; exact e16
    · rw [up2_nj (by decide)]; exact e19
    · rw [up2_at, e24]
theorem map_sl {sl : Nat → Nat} {n s : Nat} {L : List Nat} (h : n ∉ L) : L.map (va_up sl n s) = L.map sl := List.map_congr_left (fun x hx => va_up_ne _ _ (fun z => h (by rw [← z]; exact hx)))
/-- the reference, when a fact has come: fresh, its columns, its place in the row -/
theorem rx_come (hx : RXx a sl fi ar) (hV : AV a) {t s : Nat} {r t' : Int32} (ht : inT a t) (htt : t'.toInt = (t : Int)) (hr : r.toInt = (s : Int)) (hs : s < 3000) (hu : ar 11 s = 0) {cs : Nat → Int32} {L1 L2 : List Nat} (hL : a.rw t = L1 ++ L2) (hT : a.tm < 2000000000) {fi1 : Nat → Int32} {ar1 ar2 ar3 : Nat → Nat → Int32} (h1 : FrS fi ar r t' s fi1 ar1)
    (h2 : (∀ j, j ≠ 13 → ar2 j = ar1 j) ∧ (∀ k, k < 4 → ar2 13 (4 * s + k) = cs k) ∧ ∀ i, i < 4 * s ∨ 4 * s + 4 ≤ i → ar2 13 i = ar1 13 i) (h3 : LK ar2 ar3 t s (L1.map sl) (L2.map sl)) : RXx (comeA a t cs L1 L2) (va_up sl a.nn s) fi1 ar3 := by
  obtain ⟨hF, hK, hS, hH, hC, hO⟩ := hx
  obtain ⟨g0, g1, g2, g3, g4, g5, g6, g7, g8, g9, g10, g11, g12, g13⟩ := comeA_f a t cs L1 L2
  have gb := base_come a t cs L1 L2
  have e1 : (comeA a t cs L1 L2).tn = a.tn := congrArg A1.tn g0
  have e3 : (comeA a t cs L1 L2).fo = a.fo := congrArg Prod.snd g13
  have e4 : (comeA a t cs L1 L2).2.2.1 = a.2.2.1 := congrArg Prod.fst g13
  obtain ⟨f1, q20, q21, q22, q11, q12, q14, q15, q16, q19, qn⟩ := h1
  obtain ⟨c1, c2, c3⟩ := h2
  obtain ⟨k1, k2, k3, k4, k5⟩ := h3
  have r4 := hV.1.2.2.2.1
  have hnn : ∀ t' n, n ∈ a.rw t' → n ≠ a.nn := fun t' n hn z => by have := (r4 t' n hn).1; omega
  have memR : ∀ t' n, n ∈ (comeA a t cs L1 L2).rw t' ↔ n ∈ a.rw t' ∨ (n = a.nn ∧ t' = t) := fun t' n => by rw [g2]; exact mem_come hL
  have hsn : ∀ t' n, n ∈ a.rw t' → sl n ≠ s := fun t' n hn z => (hF.2.1 t' n hn).2.1 (by rw [z]; exact hu)
  have lo : ∀ j, j ≠ 13 → j ≠ 17 → j ≠ 18 → j ≠ 7 → j ≠ 8 → ar3 j = ar1 j := fun j j0 j1 j2 j3 j4 => (k1 j j1 j2 j3 j4).trans (c1 j j0)
  have lo2 : ∀ j, j ∉ [11, 12, 14, 15, 16, 19, 24] → j ≠ 13 → j ≠ 17 → j ≠ 18 → j ≠ 7 → j ≠ 8 → ar3 j = ar j := fun j i0 j0 j1 j2 j3 j4 => (lo j j0 j1 j2 j3 j4).trans (f1.2 j i0)
  have l13 : ar3 13 = ar2 13 := k1 13 (by decide) (by decide) (by decide) (by decide)
  have m1 : (L1 ++ a.nn :: L2).map (va_up sl a.nn s) = L1.map sl ++ s :: L2.map sl := by
    have hno : a.nn ∉ L1 ++ L2 := fun z => hnn t a.nn (by rw [hL]; exact z) rfl
    rw [List.map_append, List.map_cons, va_up_self, map_sl (fun z => hno (List.mem_append_left _ z)), map_sl (fun z => hno (List.mem_append_right _ z))]
  have hmk : a.mk = [] ↔ fi 27 = 0 := (mk_0 hH).symm
  have h0 : 0 ≤ a.tm := by have := hV.1.2.2.2.2.1; omega
  have hnt := hV.1.2.2.2.2.2.1
  refine ⟨⟨fun t1 ht1 => ?_, fun t1 n hn => ?_, fun z hz hzu => ?_⟩, fun t1 ht1 => ?_, ?_, ⟨?_, ?_, fun hm => ⟨?_, ?_, ?_⟩⟩, fun c hc => ?_, ?_⟩
  · have ht1 : inT a t1 := by unfold inT at ht1 ⊢; rw [e1] at ht1; exact ht1
    rw [g2]
    by_cases e : t1 = t
    · subst e
      rw [va_up_self, m1]
      exact ⟨k2, k3⟩
    · rw [va_up_ne _ _ e, map_sl (fun z => hnn t1 a.nn z rfl), (k5 t1 e).1, (k5 t1 e).2, c1 7 (by decide), c1 8 (by decide), f1.2 7 (by decide), f1.2 8 (by decide)]
      obtain ⟨z1, z2⟩ := hF.1 t1 ht1
      have nin : ∀ x, x ∈ (a.rw t1).map sl → x ∉ L1.map sl ++ s :: L2.map sl := fun x hx y => by
        obtain ⟨n, hn, rfl⟩ := List.mem_map.mp hx
        rcases List.mem_append.mp y with y | y
        · obtain ⟨n', hn', e'⟩ := List.mem_map.mp y
          have hn'' : n' ∈ a.rw t := by rw [hL]; exact List.mem_append_left _ hn'
          have := sl_inj hF hn'' hn e'
          subst this
          exact e (hV.1.2.1 t1 t _ hn hn'')
        · rcases List.mem_cons.mp y with y | y
          · exact hsn t1 n hn y
          · obtain ⟨n', hn', e'⟩ := List.mem_map.mp y
            have hn'' : n' ∈ a.rw t := by rw [hL]; exact List.mem_append_right _ hn'
            have := sl_inj hF hn'' hn e'
            subst this
            exact e (hV.1.2.1 t1 t _ hn hn'')
      refine ⟨LnK_congr (fun x hx => ?_) z1, LnK_congr (fun x hx => ?_) z2⟩
      · rw [(k4 x (nin x hx)).1, c1 18 (by decide), f1.2 18 (by decide)]
      · rw [(k4 x (nin x (List.mem_reverse.mp hx))).2, c1 17 (by decide), f1.2 17 (by decide)]
  · unfold RF1
    rw [lo 11 (by decide) (by decide) (by decide) (by decide) (by decide), lo 12 (by decide) (by decide) (by decide) (by decide) (by decide), l13, lo 14 (by decide) (by decide) (by decide) (by decide) (by decide), lo 15 (by decide) (by decide) (by decide) (by decide) (by decide), lo 16 (by decide) (by decide) (by decide) (by decide) (by decide), q11, q12, q14, q15, q16, g3, g4, g5]
    rcases (memR t1 n).mp hn with z | ⟨z, z'⟩
    · obtain ⟨p1, p2, p3, p4, p5, p6, p7⟩ := hF.2.1 t1 n z
      have en := hnn t1 n z
      have es := hsn t1 n z
      simp only [va_up_ne _ _ en, va_up_ne _ _ es]
      refine ⟨p1, p2, p3, fun k hk => ?_, p5, p6, p7⟩
      rw [c3 _ (by omega), f1.2 13 (by decide)]; exact p4 k hk
    · subst z; subst z'
      simp only [va_up_self]
      refine ⟨hs, by decide, htt, c2, hS.2.1, ?_, by decide⟩
      exact i_add hS.2.2.1 (by decide) (by omega)
  · rw [lo 11 (by decide) (by decide) (by decide) (by decide) (by decide), q11] at hzu
    by_cases e : z = s
    · exact ⟨t, a.nn, (memR _ _).mpr (Or.inr ⟨rfl, rfl⟩), by rw [va_up_self]; exact e.symm⟩
    · rw [va_up_ne _ _ e] at hzu
      obtain ⟨t1, n, p1, p2⟩ := hF.2.2 z hz hzu
      exact ⟨t1, n, (memR _ _).mpr (Or.inl p1), by rw [va_up_ne _ _ (hnn t1 n p1)]; exact p2⟩
  · have ht1 : inT a t1 := by unfold inT at ht1 ⊢; rw [e1] at ht1; exact ht1
    rw [lo2 6 (by decide) (by decide) (by decide) (by decide) (by decide) (by decide), lo2 9 (by decide) (by decide) (by decide) (by decide) (by decide) (by decide), g1]
    exact hK t1 ht1
  · unfold RXs
    rw [q20, q21, q22, f1.1 23 (by decide), f1.1 39 (by decide), allF_come hV ht hL, g8, g9, g10]
    have hl := hV.1.2.2.2.2.2.2.1
    refine ⟨?_, ?_, ?_, hS.2.2.2.1, hS.2.2.2.2⟩
    · rw [i_add hS.1 (show (1 : Int32).toInt = 1 by decide) (by omega)]; omega
    · rw [i_add hS.2.1 (show (1 : Int32).toInt = 1 by decide) (by omega)]; omega
    · exact i_add hS.2.2.1 (by decide) (by omega)
  · rw [f1.1 27 (by decide), g11]; exact hH.1
  · rw [lo2 26 (by decide) (by decide) (by decide) (by decide) (by decide) (by decide), g11]; exact hH.2.1
  · rw [g11] at hm
    have l25 := (hH.2.2 hm).1
    rcases qn with ⟨z, -⟩ | ⟨-, hw, z, -⟩
    · exact absurd (hmk.mpr z) hm
    · rw [g12, if_neg hm, List.length_append, z, i_add l25 (show (1 : Int32).toInt = 1 by decide) (by have := hw.2; omega)]; rfl
  · rw [g11] at hm
    have l25 := (hH.2.2 hm).1
    rcases qn with ⟨z, -⟩ | ⟨-, -, -, z⟩
    · exact absurd (hmk.mpr z) hm
    · rw [g12, if_neg hm, lo 24 (by decide) (by decide) (by decide) (by decide) (by decide), z, ix_of l25]
      intro i e he
      by_cases hk : i < a.hs.length
      · rw [List.getElem?_append_left hk] at he
        rw [va_up_ne _ _ (by omega)]
        have hmem := (hV.2.2.1.2.2.2.2.1 i e he).1
        rw [va_up_ne _ _ (hnn _ _ hmem)]
        exact (hH.2.2 hm).2.1 i e he
      · rw [List.getElem?_append_right (by omega)] at he
        have hk2 : i = a.hs.length := by
          have := (List.getElem?_eq_some_iff.mp he).1
          simp at this; omega
        subst hk2
        simp at he
        subst he
        rw [va_up_self, va_up_self]
        exact hr
  · rw [g11] at hm
    rw [lo 19 (by decide) (by decide) (by decide) (by decide) (by decide), q19, g4, g7, gb, if_neg hm]
    intro t1 n hn hb'
    rcases (memR t1 n).mp hn with z | ⟨z, z'⟩
    · have en := hnn t1 n z
      rw [va_up_ne _ _ en] at hb' ⊢
      rw [va_up_ne _ _ en, va_up_ne _ _ (hsn t1 n z)]
      have hm2 := (hV.2.2.1.2.2.2.2.2 t1 n z hb').1
      rw [va_up_ne _ _ (hnn _ _ hm2)]
      exact (hH.2.2 hm).2.2 t1 n z hb'
    · subst z
      simp only [va_up_self]
      exact hr
  · have eop : (comeA a t cs L1 L2).op = a.op := congrArg (fun z => z.1) e4
    have eov : (comeA a t cs L1 L2).ov = a.ov := congrArg (fun z => z.2.1) e4
    have ect : (comeA a t cs L1 L2).ct = a.ct := congrArg (fun z => z.2.2.1) e4
    have ecm : (comeA a t cs L1 L2).cm = a.cm := congrArg (fun z => z.2.2.2.1) e4
    have eci : (comeA a t cs L1 L2).ci = a.ci := congrArg (fun z => z.2.2.2.2.1) e4
    have ecl : (comeA a t cs L1 L2).cl = a.cl := congrArg (fun z => z.2.2.2.2.2.1) e4
    have ecd : (comeA a t cs L1 L2).cd = a.cd := congrArg (fun z => z.2.2.2.2.2.2.1) e4
    have ecv : (comeA a t cs L1 L2).cv = a.cv := congrArg (fun z => z.2.2.2.2.2.2.2) e4
    have lq : ∀ j, j ∈ [28, 29, 30, 31, 32, 33, 34, 35] → ar3 j = ar j := fun j hj => by
      simp only [List.mem_cons, List.not_mem_nil, or_false] at hj
      refine lo2 j ?_ (by omega) (by omega) (by omega) (by omega) (by omega)
      simp only [List.mem_cons, List.not_mem_nil, or_false]; omega
    rw [eop, eov, ect, ecm, eci, ecl, ecd, ecv, lq 28 (by decide), lq 29 (by decide), lq 30 (by decide), lq 31 (by decide), lq 32 (by decide), lq 33 (by decide), lq 34 (by decide), lq 35 (by decide)]
    obtain ⟨p1, p2⟩ := hC c hc
    refine ⟨p1, fun hop => ?_⟩
    obtain ⟨y1, y2, y3, y4, y5, y6, y7⟩ := p2 hop
    refine ⟨y1, y2, y3, y4, ?_, y6, y7⟩
    have hcl := (hV.2.2.2.1 c hc hop).2.1
    cases hq : a.cl c with
    | none => rw [hq] at y5; exact y5
    | some n =>
      rw [hq] at y5
      show (ar 33 c).toInt = ((va_up sl a.nn s n : Nat) : Int)
      rw [va_up_ne _ _ (hnn _ _ (hcl n hq))]
      exact y5
  · unfold RXo
    rw [f1.1 37 (by decide), lo2 36 (by decide) (by decide) (by decide) (by decide) (by decide) (by decide), e3]; exact hO
end RR1
