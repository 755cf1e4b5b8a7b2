set_option linter.unusedVariables false
set_option linter.unusedSimpArgs false
/-! the reference: cursors -/
section RL1
variable {b : MT} {fi : Nat → Int32} {ar : Nat → Nat → Int32} {mo M : Nat} {a : AS} {y : HS} {sl : Nat → Nat} {X X' : String → HS → Prop} {Q Q' : HS → Prop} {QI QI' : Int32 → HS → Prop}
theorem n_wrongC (hb : MB b) (hC : RXc a sl ar) {c : Int32} (h : QI (curCd a c) (mS b fi ar) → QI' (curCd a c) (mS b fi ar)) : wRecv (mS b fi ar) 12 (some b.o) (w_X12_wrongCursor (some b.o) c (mS b fi ar) QI X) → wRecv (mS b fi ar) 12 (some b.o) (w_X12_wrongCursor (some b.o) c (mS b fi ar) QI' X') := by
  rw [m_recv hb, m_recv hb]
  unfold w_X12_wrongCursor curCd at *
  dsimp only [wJoin]
  refine qv_if (fun c1 => ?_) (fun c1 => ?_)
  · simp only [i32, Int32.reduceToInt] at c1
    rw [if_neg (fun z => by omega)] at h; exact h
  · simp only [i32, Int32.reduceToInt] at c1
    refine qv_if (fun c2 => ?_) (fun c2 => ?_)
    · simp only [i32, Int32.reduceToInt] at c2
      rw [if_pos ⟨by omega, c2⟩] at h
      have hc : ix c < 10 := by have := ix_int (i := c) (by omega); omega
      have hop := (hC (ix c) hc).1
      refine n_getF hb (by decide) ?_
      refine nv_ald hb (by decide) (by decide) (fun _ => ?_)
      refine qv_if (fun c3 => ?_) (fun c3 => ?_)
      · rw [if_neg (fun z => (hop.mpr z) c3)] at h; exact h
      · rw [if_pos (hop.mp c3)] at h; exact h
    · simp only [i32, Int32.reduceToInt] at c2
      rw [if_neg (fun z => by omega)] at h; exact h
theorem cur_cases (a : AS) (c : Int32) : curCd a c = 0 ∧ (0 ≤ c.toInt ∧ c.toInt < 10) ∧ a.op (ix c) = true ∨ curCd a c ≠ 0 := by
  unfold curCd
  split
  · rename_i h1
    split
    · rename_i h2; exact Or.inl ⟨rfl, h1, h2⟩
    · exact Or.inr (by decide)
  · exact Or.inr (by decide)
/-- what RX says but of cursors stays, the cursors anew -/
theorem RX_cur (hX : RXx a sl fi ar) {c' : AC} {fi' : Nat → Int32} {ar' : Nat → Nat → Int32} (hf : frM [0, 38] [28, 29, 30, 31, 32, 33, 34, 35] fi ar fi' ar') (hC : RXc (a.1, a.2.1, c', a.2.2.2) sl ar') : RX (a.1, a.2.1, c', a.2.2.2) fi' ar' := by
  obtain ⟨hF, hK, hS, hH, -, hO⟩ := hX
  refine ⟨sl, ?_, ?_, ?_, ?_, hC, ?_⟩
  · unfold RXf RF1 at hF ⊢
    rw [hf.2 18 (by decide), hf.2 7 (by decide), hf.2 17 (by decide), hf.2 8 (by decide), hf.2 11 (by decide), hf.2 12 (by decide), hf.2 13 (by decide), hf.2 14 (by decide), hf.2 15 (by decide), hf.2 16 (by decide)]
    exact hF
  · unfold RXk at hK ⊢
    rw [hf.2 6 (by decide), hf.2 9 (by decide)]; exact hK
  · unfold RXs at hS ⊢
    rw [hf.1 20 (by decide), hf.1 21 (by decide), hf.1 22 (by decide), hf.1 23 (by decide), hf.1 39 (by decide)]; exact hS
  · unfold RXh at hH ⊢
    rw [hf.1 27 (by decide), hf.1 25 (by decide), hf.2 26 (by decide), hf.2 24 (by decide), hf.2 19 (by decide)]; exact hH
  · unfold RXo at hO ⊢
    rw [hf.1 37 (by decide), hf.2 36 (by decide)]; exact hO
theorem AV_cur (hV : AV a) {c' : AC} (hC : AVc (a.1, a.2.1, c', a.2.2.2)) : AV (a.1, a.2.1, c', a.2.2.2) := ⟨hV.1, hV.2.1, hV.2.2.1, hC, hV.2.2.2.2⟩
theorem rc_close (h : RM mo M a y) (hM : M < 300000) (c : Int32) : w_X12_close (some mo) c y (fun r u => OK_close a c (u.I mo 0) r ∧ RM mo (M + 1) (nx_close a c) u) X := by
  obtain ⟨b, fi, ar, hb, rfl, rfl, hG, hA, hX, hV⟩ := h
  have h := t_close (X := X) hb hG RG_ok c
  revert h
  obtain ⟨sl, hx⟩ := id hX
  have hx : RXx a sl fi ar := hx
  obtain ⟨hF, hK, hS, hH, hC, hO⟩ := id hx
  unfold w_X12_close OK_close nx_close
  refine n_wrongC hb hC ?_
  rcases cur_cases a c with ⟨e0, hc, hop⟩ | e0
  · rw [e0, if_pos rfl]
    refine nv_f0 hb ?_
    refine n_getF hb (by decide) ?_
    refine nv_astZ hb (by decide) (by decide) (fun _ => ?_)
    refine n_getF hb (by decide) ?_
    refine nv_ald hb (by decide) (by decide) (fun _ hg => ?_)
    have hi : ix c < 10 := by have := ix_int hc.1; omega
    have ff : frM [0, 38] [28, 29, 30, 31, 32, 33, 34, 35] fi ar (va_up fi 0 0) (up2 ar 28 (ix c) 0) := frM_clo.2 28 (by decide) _ _ _ _ (frM_clo.1 0 (by decide) _ _ _ frM_rf)
    have e28 : up2 ar 28 (ix c) 0 28 = va_up (ar 28) (ix c) 0 := by
      funext i; unfold up2 va_up; by_cases hi : i = ix c <;> simp [hi]
    have eo : ∀ j, j ≠ 28 → up2 ar 28 (ix c) 0 j = ar j := fun j hj => by
      funext i; exact if_neg (fun z => hj z.1)
    refine ⟨⟨by rw [rv_I, va_up_self], fun _ => ?_⟩, RM_g hb hg (RA_fr hA ff (by decide) (by decide)) (RX_cur hx ff ?_) (AV_cur hV ?_)⟩
    · rw [eo 34 (by decide)]
      exact ((hC (ix c) hi).2 hop).2.2.2.2.2.1
    · intro c' hc'
      rw [e28, eo 29 (by decide), eo 30 (by decide), eo 31 (by decide), eo 32 (by decide), eo 33 (by decide), eo 34 (by decide), eo 35 (by decide)]
      by_cases e : c' = ix c
      · subst e
        rw [va_up_self]
        have z : va_up a.op (ix c) false (ix c) = false := va_up_self _ _ _
        refine ⟨⟨fun y => absurd rfl y, fun y => ?_⟩, fun y => ?_⟩
        · have y : va_up a.op (ix c) false (ix c) = true := y
          rw [z] at y; exact absurd y (by decide)
        · have y : va_up a.op (ix c) false (ix c) = true := y
          rw [z] at y; exact absurd y (by decide)
      · rw [va_up_ne _ _ e]
        have z : va_up a.op (ix c) false c' = a.op c' := va_up_ne _ _ e
        refine ⟨?_, fun y => (hC c' hc').2 ?_⟩
        · show _ ↔ va_up a.op (ix c) false c' = true
          rw [z]; exact (hC c' hc').1
        · have y : va_up a.op (ix c) false c' = true := y
          rw [z] at y; exact y
    · intro c' hc' hop'
      have hop' : va_up a.op (ix c) false c' = true := hop'
      have e : c' ≠ ix c := fun z => by rw [z, va_up_self] at hop'; exact absurd hop' (by decide)
      rw [va_up_ne _ _ e] at hop'
      exact hV.2.2.2.1 c' hc' hop'
  · rw [if_neg e0]
    exact nv_fN hb e0 (fun hg => ⟨⟨by rw [rv_I, va_up_self], fun z => absurd z e0⟩, RM_g hb hg (RA_0 hA) (RX_0 hX) hV⟩)
theorem rest_split {L : List Nat} {n : Nat} (h : n ∈ L) (hd : L.Nodup) : ∃ A, L = A ++ n :: restA L (some n) := by
  obtain ⟨A, B, h1, h2⟩ := mem_split h
  refine ⟨A, ?_⟩
  have e : L.dropWhile (fun x => x != n) = n :: B := by
    rw [h1]
    clear h1 hd h
    induction A with
    | nil => simp
    | cons x A ih =>
      have hx : x ≠ n := fun z => h2 (by rw [z]; exact List.mem_cons_self)
      rw [List.cons_append, List.dropWhile_cons_of_pos (by simpa using hx)]
      exact ih (fun z => h2 (List.mem_cons_of_mem _ z))
  show L = A ++ n :: (L.dropWhile (fun x => x != n)).drop 1
  rw [e]; exact h1
theorem rest_mem {L : List Nat} {o : Option Nat} (h : ∀ n, o = some n → n ∈ L) (hd : L.Nodup) : ∀ x, x ∈ restA L o → x ∈ L := by
  cases o with
  | none => exact fun x hx => hx
  | some n =>
    obtain ⟨A, hA⟩ := rest_split (h n rfl) hd
    intro x hx
    rw [hA]; exact List.mem_append_right _ (List.mem_cons_of_mem _ hx)
theorem rc_next (h : RM mo M a y) (hM : M < 300000) (c : Int32) : w_X12_next (some mo) c y (fun r u => OK_next a c (u.I mo 0) r ∧ RM mo (M + 1) (nx_next a c) u) X := by
  obtain ⟨b, fi, ar, hb, rfl, rfl, hG, hA, hX, hV⟩ := h
  have h := t_next (X := X) hb hG RG_ok c
  revert h
  obtain ⟨sl, hx⟩ := id hX
  have hx : RXx a sl fi ar := hx
  obtain ⟨hF, hK, hS, hH, hC, hO⟩ := id hx
  unfold w_X12_next OK_next nx_next
  refine n_wrongC hb hC ?_
  rcases cur_cases a c with ⟨e0, hc, hop⟩ | e0
  · rw [e0, if_pos rfl]
    have hi : ix c < 10 := by have := ix_int hc.1; omega
    have hic : ((ix c : Nat) : Int) = c.toInt := ix_int hc.1
    obtain ⟨-, hcc⟩ := hC (ix c) hi
    obtain ⟨k1, k2, k3, k4, k5, k6, k7⟩ := hcc hop
    obtain ⟨v1, v2, v3, v5⟩ := hV.2.2.2.1 (ix c) hi hop
    refine nv_f0 hb ?_
    refine nv_putI hb ?_
    refine n_getF hb (by decide) ?_
    refine nv_ald hb (by decide) (by decide) (fun _ => ?_)
    have f0 : frM [0, 38] [28, 29, 30, 31, 32, 33, 34, 35] fi ar (va_up (va_up fi 0 0) 38 0) ar := frM_clo.1 38 (by decide) _ _ _ (frM_clo.1 0 (by decide) _ _ _ frM_rf)
    refine qv_if (fun c1 => ?_) (fun c1 hg => ?_)
    · have hov : a.ov (ix c) = false := by rw [Bool.eq_false_iff]; exact fun z => (k1.mpr z) c1
      have eN : nextO a (ix c) = (restA (a.rw (a.ct (ix c))) (a.cl (ix c))).find? (askB a (a.ct (ix c)) (a.cm (ix c)) (a.cv (ix c)) (a.ci (ix c))) := by unfold nextO; rw [hov]; rfl
      refine n_getF hb (by decide) ?_
      refine nv_ald hb (by decide) (by decide) (fun _ => ?_)
      refine n_getF hb (by decide) ?_
      refine nv_ald hb (by decide) (by decide) (fun _ => ?_)
      have ht : tabOk a (ar 30 (ix c)) := ⟨by omega, by rw [k2]; exact v1⟩
      have et : ix (ar 30 (ix c)) = a.ct (ix c) := ix_of k2
      have hnd := hV.1.2.2.1 (a.ct (ix c))
      have hL := (hF.1 _ v1).1
      have body : ∀ fr : Int32, LnK (ar 18) fr ((restA (a.rw (a.ct (ix c))) (a.cl (ix c))).map sl) → _ → _ := fun fr hfr => n_getF (fi := va_up (va_up fi 0 0) 38 0) (ar := ar) hb (j := 31) (by decide) (Z := fun v15 => wAldJ (mS b (va_up (va_up fi 0 0) 38 0) ar) 20 v15 c fun v16 => wGetF (mS b (va_up (va_up fi 0 0) 38 0) ar) 12 32 (some b.o) fun v17 => wAldJ (mS b (va_up (va_up fi 0 0) 38 0) ar) 20 v17 c fun v18 => wGetF (mS b (va_up (va_up fi 0 0) 38 0) ar) 12 35 (some b.o) fun v19 => wRecv (mS b (va_up (va_up fi 0 0) 38 0) ar) 12 (some b.o) (w_X12_seek (some b.o) (ar 30 (ix c)) fr v16 v18 v19 ((4 : Int32) * c) (mS b (va_up (va_up fi 0 0) 38 0) ar) (fun v21 x20 => wIf (0 ≤ v21) (wGetF x20 12 33 (some b.o) fun v22 => wAstI x20 v22 c v21 fun x23 => wGetF x23 12 34 (some b.o) fun v24 => wAldJ x23 20 v24 c fun v25 => wAstI x23 v24 c (v25 + 1) fun x26 => wGetF x26 12 14 (some b.o) fun v27 => wAldJ x26 20 v27 v21 fun v28 => RG b M (ar 3) x26) (wGetF x20 12 29 (some b.o) fun v29 => wAstZ x20 v29 c 1 fun x30 => RG b M (ar 3) x30)) X)) (Z' := fun v15 => wAldJ (mS b (va_up (va_up fi 0 0) 38 0) ar) 20 v15 c fun v16 => wGetF (mS b (va_up (va_up fi 0 0) 38 0) ar) 12 32 (some b.o) fun v17 => wAldJ (mS b (va_up (va_up fi 0 0) 38 0) ar) 20 v17 c fun v18 => wGetF (mS b (va_up (va_up fi 0 0) 38 0) ar) 12 35 (some b.o) fun v19 => wRecv (mS b (va_up (va_up fi 0 0) 38 0) ar) 12 (some b.o) (w_X12_seek (some b.o) (ar 30 (ix c)) fr v16 v18 v19 ((4 : Int32) * c) (mS b (va_up (va_up fi 0 0) 38 0) ar) (fun v21 x20 => wIf (0 ≤ v21) (wGetF x20 12 33 (some b.o) fun v22 => wAstI x20 v22 c v21 fun x23 => wGetF x23 12 34 (some b.o) fun v24 => wAldJ x23 20 v24 c fun v25 => wAstI x23 v24 c (v25 + 1) fun x26 => wGetF x26 12 14 (some b.o) fun v27 => wAldJ x26 20 v27 v21 fun v28 => EX 0 (numO (nextO a (ix c))) (x26.I b.o 0) v28 ∧ RM b.o (M + 1) (nextA a (ix c)) x26) (wGetF x20 12 29 (some b.o) fun v29 => wAstZ x20 v29 c 1 fun x30 => EX 0 (numO (nextO a (ix c))) (x30.I b.o 0) (-1) ∧ RM b.o (M + 1) (nextA a (ix c)) x30)) X)) (by
        refine nv_ald hb (by decide) (by decide) (fun _ => ?_)
        refine n_getF hb (by decide) ?_
        refine nv_ald hb (by decide) (by decide) (fun _ => ?_)
        refine n_getF hb (by decide) ?_
        rw [k3]
        have e4 : ((4 : Int32) * c).toInt = ((4 * ix c : Nat) : Int) := by rw [i_mul (show (4 : Int32).toInt = 4 by decide) rfl (by omega)]; omega
        have ei4 : ix ((4 : Int32) * c) = 4 * ix c := ix_of e4
        refine n_seekA hb hF (RA_38 (RA_0 hA)) hV (by rw [va_up_ne _ _ (by decide), va_up_ne _ _ (by decide)]; exact hS.2.2.2.2) ht (j := 35) (by decide) (by decide) (by omega) (by rw [show mLen 35 = 40 from by decide]; omega) (by decide) (vs := a.cv (ix c)) (fun k hk => by rw [ei4]; exact k7 k hk) k4 (S := restA (a.rw (a.ct (ix c))) (a.cl (ix c))) hfr (fun n hn => by rw [et]; exact rest_mem v2 hnd n hn) (fun r lk hr => ?_)
        rw [et] at hr
        rw [va_twice]
        have f1 : frM [0, 38] [28, 29, 30, 31, 32, 33, 34, 35] fi ar (va_up (va_up fi 0 0) 38 lk) ar := frM_clo.1 38 (by decide) _ _ _ (frM_clo.1 0 (by decide) _ _ _ frM_rf)
        have t0 : va_up (va_up fi 0 0) 38 lk 0 = 0 := by rw [va_up_ne _ _ (by decide), va_up_self]
        generalize va_up (va_up fi 0 0) 38 lk = fj at f1 t0 ⊢
        unfold At at hr
        rw [← eN] at hr
        cases hN : nextO a (ix c) with
        | none =>
          rw [hN] at hr
          have hr : r.toInt = -1 := hr
          refine qv_if (fun z => ?_) (fun _ => ?_)
          · simp only [i32, Int32.reduceToInt] at z; omega
          · refine n_getF hb (by decide) ?_
            refine nv_astZ hb (by decide) (by decide) (fun _ hg => ?_)
            have f2 := frM_clo.2 29 (by decide) _ _ (ix c) 1 f1
            have e29 : up2 ar 29 (ix c) 1 29 = va_up (ar 29) (ix c) 1 := by
              funext i; unfold up2 va_up; by_cases hi : i = ix c <;> simp [hi]
            have eo : ∀ j, j ≠ 29 → up2 ar 29 (ix c) 1 j = ar j := fun j hj => by
              funext i; exact if_neg (fun z => hj z.1)
            have eA : nextA a (ix c) = a.w_ov (va_up a.ov (ix c) true) := by unfold nextA; rw [hN]
            rw [eA]
            refine ⟨⟨by rw [rv_I]; exact t0, fun _ => rfl⟩, RM_g hb hg (RA_fr hA f2 (by decide) (by decide)) (RX_cur hx f2 ?_) (AV_cur hV ?_)⟩
            · intro c' hc'
              rw [eo 28 (by decide), e29, eo 30 (by decide), eo 31 (by decide), eo 32 (by decide), eo 33 (by decide), eo 34 (by decide), eo 35 (by decide)]
              refine ⟨(hC c' hc').1, fun hop' => ?_⟩
              obtain ⟨q1, q2⟩ := (hC c' hc').2 hop'
              refine ⟨?_, q2⟩
              show va_up (ar 29) (ix c) 1 c' ≠ 0 ↔ va_up a.ov (ix c) true c' = true
              by_cases e : c' = ix c
              · subst e; rw [va_up_self, va_up_self]; exact ⟨fun _ => rfl, fun _ => by decide⟩
              · rw [va_up_ne _ _ e, va_up_ne _ _ e]; exact q1
            · exact hV.2.2.2.1
        | some n =>
          rw [hN] at hr
          have hr : r.toInt = (sl n : Int) := hr
          have hn : n ∈ a.rw (a.ct (ix c)) := by
            rw [eN] at hN
            exact rest_mem v2 hnd n (List.mem_of_find?_eq_some hN)
          refine qv_if (fun _ => ?_) (fun z => ?_)
          · refine n_getF hb (by decide) ?_
            refine nv_astI hb (by decide) (by decide) (fun _ => ?_)
            refine n_getF hb (by decide) ?_
            refine nv_ald hb (by decide) (by decide) (fun _ => ?_)
            refine nv_astI hb (by decide) (by decide) (fun _ => ?_)
            refine n_getF hb (by decide) ?_
            refine nv_ald hb (by decide) (by decide) (fun _ hg => ?_)
            have e34 : up2 ar 33 (ix c) r 34 (ix c) = ar 34 (ix c) := if_neg (fun z => absurd z.1 (by decide))
            have f2 := frM_clo.2 34 (by decide) _ _ (ix c) (up2 ar 33 (ix c) r 34 (ix c) + 1) (frM_clo.2 33 (by decide) _ _ (ix c) r f1)
            have eA : nextA a (ix c) = (a.w_cl (va_up a.cl (ix c) (some n))).w_cd (va_up a.cd (ix c) (a.cd (ix c) + 1)) := by unfold nextA; rw [hN]
            rw [eA]
            have e33 : up2 (up2 ar 33 (ix c) r) 34 (ix c) (up2 ar 33 (ix c) r 34 (ix c) + 1) 33 = va_up (ar 33) (ix c) r := by
              funext i; unfold up2 va_up; by_cases hi : i = ix c <;> simp [hi]
            have e34' : up2 (up2 ar 33 (ix c) r) 34 (ix c) (up2 ar 33 (ix c) r 34 (ix c) + 1) 34 = va_up (ar 34) (ix c) (ar 34 (ix c) + 1) := by
              funext i; unfold up2 va_up; by_cases hi : i = ix c <;> simp [hi]
            have eo : ∀ j, j ≠ 33 → j ≠ 34 → up2 (up2 ar 33 (ix c) r) 34 (ix c) (up2 ar 33 (ix c) r 34 (ix c) + 1) j = ar j := fun j h1 h2 => by
              funext i
              show (if j = 34 ∧ i = ix c then _ else if j = 33 ∧ i = ix c then _ else _) = _
              rw [if_neg (fun z => h2 z.1), if_neg (fun z => h1 z.1)]
            refine ⟨⟨by rw [rv_I]; exact t0, fun _ => ?_⟩, RM_g hb hg (RA_fr hA f2 (by decide) (by decide)) (RX_cur hx f2 ?_) (AV_cur hV ?_)⟩
            · rw [eo 14 (by decide) (by decide), ix_of hr]
              exact num_of (hF.2.1 _ n hn).2.2.2.2.1
            · intro c' hc'
              rw [eo 28 (by decide) (by decide), eo 29 (by decide) (by decide), eo 30 (by decide) (by decide), eo 31 (by decide) (by decide), eo 32 (by decide) (by decide), e33, e34', eo 35 (by decide) (by decide)]
              refine ⟨(hC c' hc').1, fun hop' => ?_⟩
              obtain ⟨q1, q2, q3, q4, q5, q6, q7⟩ := (hC c' hc').2 hop'
              refine ⟨q1, q2, q3, q4, ?_, ?_, q7⟩
              · show (va_up (ar 33) (ix c) r c').toInt = (match va_up a.cl (ix c) (some n) c' with | none => -1 | some n => (sl n : Int))
                by_cases e : c' = ix c
                · subst e; rw [va_up_self, va_up_self]; exact hr
                · rw [va_up_ne _ _ e, va_up_ne _ _ e]; exact q5
              · show va_up (ar 34) (ix c) (ar 34 (ix c) + 1) c' = va_up a.cd (ix c) (a.cd (ix c) + 1) c'
                by_cases e : c' = ix c
                · subst e; rw [va_up_self, va_up_self, k6]
                · rw [va_up_ne _ _ e, va_up_ne _ _ e]; exact q6
            · intro c' hc' hop'
              obtain ⟨q1, q2, q3, q5⟩ := hV.2.2.2.1 c' hc' hop'
              refine ⟨q1, fun n' hn' => ?_, q3, q5⟩
              · have hn' : va_up a.cl (ix c) (some n) c' = some n' := hn'
                by_cases e : c' = ix c
                · subst e; rw [va_up_self] at hn'; cases hn'; exact hn
                · rw [va_up_ne _ _ e] at hn'; exact q2 n' hn'
          · simp only [i32, Int32.reduceToInt] at z; omega)
      dsimp only [wJoin]
      cases hcl : a.cl (ix c) with
      | none =>
        rw [hcl] at k5
        have k5 : (ar 33 (ix c)).toInt = -1 := k5
        refine qv_if (fun z => ?_) (fun _ => ?_)
        · simp only [i32, Int32.reduceToInt] at z; omega
        · refine n_getF hb (by decide) ?_
          refine nv_ald hb (by decide) (by decide) (fun _ => ?_)
          rw [et]
          exact body _ (by rw [hcl]; exact hL)
      | some n =>
        rw [hcl] at k5
        have k5 : (ar 33 (ix c)).toInt = (sl n : Int) := k5
        refine qv_if (fun _ => ?_) (fun z => ?_)
        · refine n_getF hb (by decide) ?_
          refine n_getF hb (by decide) ?_
          refine nv_ald hb (by decide) (by decide) (fun _ => ?_)
          refine nv_ald hb (by decide) (by decide) (fun _ => ?_)
          rw [ix_of k5]
          refine body _ ?_
          rw [hcl]
          obtain ⟨A, hAe⟩ := rest_split (v2 n hcl) hnd
          rw [hAe] at hL
          exact LnK_tail hL
        · simp only [i32, Int32.reduceToInt] at z; omega
    · have hov : a.ov (ix c) = true := k1.mp c1
      have eN : nextO a (ix c) = none := by unfold nextO; rw [hov]; rfl
      have eA : nextA a (ix c) = a := by
        unfold nextA; rw [eN]
        show a.w_ov (va_up a.ov (ix c) true) = a
        have : va_up a.ov (ix c) true = a.ov := by rw [← hov]; exact va_same _ _
        rw [this]
      rw [eN, eA]
      exact ⟨⟨by rw [rv_I, va_up_ne _ _ (by decide), va_up_self], fun _ => rfl⟩, RM_g hb hg (RA_38 (RA_0 hA)) (RX_38 (RX_0 hX)) hV⟩
  · rw [if_neg e0]
    exact nv_fN hb e0 (fun hg => ⟨⟨by rw [rv_I, va_up_self], fun z => absurd z e0⟩, RM_g hb hg (RA_0 hA) (RX_0 hX) hV⟩)
end RL1
