set_option linter.unusedVariables false
set_option linter.unusedSimpArgs false
/-! the reference: calls that leave the facts alone -/
theorem av_w1 {a : AS} (h : AV a) {v : A1} (h1 : v.tn = a.tn) (h2 : v.co = a.co) : AV (a.w_1 v) := by
  obtain ⟨hr, hk, hh, hc, ho⟩ := h
  unfold AV AVr AVk AVc at *
  unfold inT at *
  show (_ ∧ _ ∧ _ ∧ _ ∧ _ ∧ _ ∧ _ ∧ _) ∧ _ ∧ _ ∧ _ ∧ _
  have e1 : (a.w_1 v).tn = a.tn := h1
  have e2 : (a.w_1 v).co = a.co := h2
  rw [e1, e2]
  exact ⟨hr, hk, hh, hc, ho⟩
section RK
variable {b : MT} {fi : Nat → Int32} {ar : Nat → Nat → Int32} {mo M : Nat} {a : AS} {y : HS} {sl : Nat → Nat} {X X' : String → HS → Prop} {Q Q' : HS → Prop} {QI QI' : Int32 → HS → Prop}
theorem rx_w1 (h : RX a fi ar) {v : A1} (h1 : v.tn = a.tn) : RX (a.w_1 v) fi ar := by
  obtain ⟨sl, hF, hK, hS, hH, hC, hO⟩ := h
  have e1 : (a.w_1 v).tn = a.tn := h1
  refine ⟨sl, ⟨fun t ht => hF.1 t (by unfold inT at ht ⊢; rw [e1] at ht; exact ht), hF.2⟩, fun t ht => hK t (by unfold inT at ht ⊢; rw [e1] at ht; exact ht), hS, hH, hC, hO⟩
theorem rc_feed (h : RM mo M a y) (hM : M < 300000) (p1 p2 p3 p4 p5 : Int32) : w_X12_feed (some mo) p1 p2 p3 p4 p5 y (fun r u => OK_feed a p1 p2 p3 p4 p5 (u.I mo 0) r ∧ RM mo (M + 1) (nx_feed a p1 p2 p3 p4 p5) u) X := by
  have h1 := rc1_feed (X := X) (RM_1 h) hM p1 p2 p3 p4 p5
  obtain ⟨b, fi, ar, hb, rfl, rfl, hG, hA, hX, hV⟩ := h
  have e : (nx1_feed a.1 p1 p2 p3 p4 p5).tn = a.tn ∧ (nx1_feed a.1 p1 p2 p3 p4 p5).co = a.co := by unfold nx1_feed; split <;> exact ⟨rfl, rfl⟩
  exact fr_X12_feed (X := X) (X' := X) hb (P := frM [0, 2] [1] fi ar) frM_clo (fun r fi' ar' hf hq => ⟨hq.1, RM_of hb hq.2 rfl (rx_w1 (RX_fr hX hf (by decide) (by decide)) e.1) (av_w1 hV e.1 e.2)⟩) frM_rf h1
theorem rc_end (h : RM mo M a y) (hM : M < 300000) (p1 : Int32) : w_X12_end (some mo) p1 y (fun r u => OK_end a p1 (u.I mo 0) r ∧ RM mo (M + 1) (nx_end a p1) u) X := by
  have h1 := rc1_end (X := X) (RM_1 h) hM p1
  obtain ⟨b, fi, ar, hb, rfl, rfl, hG, hA, hX, hV⟩ := h
  have e : (nx1_end a.1 p1).tn = a.tn ∧ (nx1_end a.1 p1).co = a.co := by unfold nx1_end; split <;> exact ⟨rfl, rfl⟩
  exact fr_X12_end (X := X) (X' := X) hb (P := frM [0, 2] [] fi ar) frM_clo (fun r fi' ar' hf hq => ⟨hq.1, RM_of hb hq.2 rfl (rx_w1 (RX_fr hX hf (by decide) (by decide)) e.1) (av_w1 hV e.1 e.2)⟩) frM_rf h1
theorem rc_value (h : RM mo M a y) (hM : M < 300000) (p1 p2 : Int32) : w_X12_value (some mo) p1 p2 y (fun r u => OK_value a p1 p2 (u.I mo 0) r ∧ RM mo (M + 1) (nx_value a p1 p2) u) X := by
  have h1 := rc1_value (X := X) (RM_1 h) hM p1 p2
  obtain ⟨b, fi, ar, hb, rfl, rfl, hG, hA, hX, hV⟩ := h
  have e : (nx1_value a.1 p1 p2).tn = a.tn ∧ (nx1_value a.1 p1 p2).co = a.co := by unfold nx1_value; split <;> exact ⟨rfl, rfl⟩
  exact fr_X12_value (X := X) (X' := X) hb (P := frM [0] [3] fi ar) frM_clo (fun r fi' ar' hf hq => ⟨hq.1, RM_of hb hq.2 rfl (rx_w1 (RX_fr hX hf (by decide) (by decide)) e.1) (av_w1 hV e.1 e.2)⟩) frM_rf h1
theorem rc_index (h : RM mo M a y) (hM : M < 300000) (p1 p2 : Int32) : w_X12_index (some mo) p1 p2 y (fun r u => OK_index a p1 p2 (u.I mo 0) r ∧ RM mo (M + 1) (nx_index a p1 p2) u) X := by
  have h1 := rc1_index (X := X) (RM_1 h) hM p1 p2
  obtain ⟨b, fi, ar, hb, rfl, rfl, hG, hA, hX, hV⟩ := h
  have e : (nx1_index a.1 p1 p2).tn = a.tn ∧ (nx1_index a.1 p1 p2).co = a.co := by unfold nx1_index; split <;> exact ⟨rfl, rfl⟩
  exact fr_X12_index (X := X) (X' := X) hb (P := frM [0] [5] fi ar) frM_clo (fun r fi' ar' hf hq => ⟨hq.1, RM_of hb hq.2 rfl (rx_w1 (RX_fr hX hf (by decide) (by decide)) e.1) (av_w1 hV e.1 e.2)⟩) frM_rf h1
theorem rc_solution (h : RM mo M a y) (hM : M < 300000) (p1 p2 : Int32) : w_X12_solution (some mo) p1 p2 y (fun r u => OK_solution a p1 p2 (u.I mo 0) r ∧ RM mo (M + 1) (nx_solution a p1 p2) u) X := by
  have h1 := rc1_solution (X := X) (RM_1 h) hM p1 p2
  obtain ⟨b, fi, ar, hb, rfl, rfl, hG, hA, hX, hV⟩ := h
  exact fr_X12_solution (X := X) (X' := X) hb (P := frM [0] [] fi ar) frM_clo (fun r fi' ar' hf hq => ⟨trivial, RM_of hb hq.2 rfl (RX_fr hX hf (by decide) (by decide)) hV⟩) frM_rf h1
theorem rc_count (h : RM mo M a y) (hM : M < 300000) (p1 : Int32) : w_X12_count (some mo) p1 y (fun r u => OK_count a p1 (u.I mo 0) r ∧ RM mo (M + 1) (nx_count a p1) u) X := by
  have h1 := rc1_count (X := X) (RM_1 h) hM p1
  obtain ⟨b, fi, ar, hb, rfl, rfl, hG, hA, hX, hV⟩ := h
  exact fr_X12_count (X := X) (X' := X) hb (P := frM [0] [] fi ar) frM_clo (fun r fi' ar' hf hq => ⟨trivial, RM_of hb hq.2 rfl (RX_fr hX hf (by decide) (by decide)) hV⟩) frM_rf h1
/-- question: nothing that counts but the tape; and asks is as before -/
theorem rc_question (h : RM mo M a y) (hM : M < 300000) (p : Int32) : w_X12_question (some mo) p y (fun r u => OK_question a p (u.I mo 0) r ∧ RM mo (M + 1) (nx_question a p) u) X := by
  have h1 := rc1_question (X := X) (RM_1 h) hM p
  obtain ⟨b, fi, ar, hb, rfl, rfl, hG, hA, hX, hV⟩ := h
  revert h1
  obtain ⟨PW, hPW⟩ : ∃ PW : List Nat × List Nat, PW = ([0, 2, 38, 40, 41, 42, 43, 49, 55, 56], [44, 45, 46, 47, 48, 50, 51, 52, 53, 54]) := ⟨_, rfl⟩
  have c0 : CloM [0, 2, 38, 40, 41, 42, 43, 49, 55, 56] [44, 45, 46, 47, 48, 50, 51, 52, 53, 54] (frM [0, 2, 38, 40, 41, 42, 43, 49, 55, 56] [44, 45, 46, 47, 48, 50, 51, 52, 53, 54] fi ar) := frM_clo
  have c1 : CloM [0, 2, 38, 40, 41, 42, 43, 49, 55, 56] [44, 45, 46, 47, 48, 50, 51, 52, 53, 54] (fun fi' ar' => frM [0, 2, 38, 39, 40, 41, 42, 43, 49, 55, 56] [44, 45, 46, 47, 48, 50, 51, 52, 53, 54] fi ar fi' ar') := frM_clo.mono (by decide) (by decide)
  have key : ∀ fi' ar', frM [0, 2, 38, 40, 41, 42, 43, 49, 55, 56] [44, 45, 46, 47, 48, 50, 51, 52, 53, 54] fi ar fi' ar' → RM1 b.o (M + 1) (nx1_question a.1 p) (mS b fi' ar') → RM b.o (M + 1) (nx_question a p) (mS b fi' ar') := fun fi' ar' hf h9 => RM_of hb h9 rfl (rx_w1 (RX_fr hX hf (by decide) (by decide)) rfl) (av_w1 hV rfl rfl)
  unfold w_X12_question
  refine nv_getI hb ?_
  refine nv_putI hb ?_
  refine nv_putI hb ?_
  have f0 := c0.1 42 (by decide) _ _ (-1) (c0.1 2 (by decide) _ _ 0 frM_rf)
  generalize va_up (va_up fi 2 0) 42 (-1) = fa at f0 ⊢
  refine q_recv ?_
  refine fr_X12_isTime hb (c0.mono (by decide) (by decide)) (fun v5 fi1 ar1 f1 => ?_) f0
  refine n_join1 (b := b) (P := frM [0, 2, 38, 40, 41, 42, 43, 49, 55, 56] [44, 45, 46, 47, 48, 50, 51, 52, 53, 54] fi ar) (fun v8 fi2 ar2 f2 => ?_) (fun _ _ k => q_if (k _ _ _ f1) (k _ _ _ f1))
  refine q_recv ?_
  refine fr_X12_fails hb (c0.mono (by decide) (by decide)) (fun v10 fi3 ar3 f3 => ?_) f2
  refine q_if ?_ (fun hq => ⟨trivial, key _ _ f3 hq.2⟩)
  refine q_recv ?_
  refine fr_X12_isQuestion hb (c0.mono (by decide) (by decide)) (fun v12 fi4 ar4 f4 => ?_) f3
  refine n_join1 (b := b) (P := frM [0, 2, 38, 40, 41, 42, 43, 49, 55, 56] [44, 45, 46, 47, 48, 50, 51, 52, 53, 54] fi ar) (fun v15 fi5 ar5 f5 => ?_) (fun _ _ k => q_if (k _ _ _ f4) (k _ _ _ f4))
  refine q_recv ?_
  refine fr_X12_fails hb (c0.mono (by decide) (by decide)) (fun v17 fi6 ar6 f6 => ?_) f5
  refine q_if ?_ (fun hq => ⟨trivial, key _ _ f6 hq.2⟩)
  refine nv_putI hb ?_
  refine nv_putZ hb ?_
  have f7 : frM [0, 2, 38, 39, 40, 41, 42, 43, 49, 55, 56] [44, 45, 46, 47, 48, 50, 51, 52, 53, 54] fi ar (va_up (va_up fi6 38 0) 39 1) ar6 := frM_clo.1 39 (by decide) _ _ _ (frM_clo.1 38 (by decide) _ _ _ ⟨fun j hj => f6.1 j (fun z => hj ((by decide : ∀ j, j ∈ [0, 2, 38, 40, 41, 42, 43, 49, 55, 56] → j ∈ [0, 2, 38, 39, 40, 41, 42, 43, 49, 55, 56]) j z)), f6.2⟩)
  generalize va_up (va_up fi6 38 0) 39 1 = fb at f7 ⊢
  refine q_recv ?_
  refine fr_X12_timeOf hb (c1.mono (by decide) (by decide)) (fun v21 fi8 ar8 f8 => ?_) f7
  refine q_recv ?_
  refine fr_X12_solve hb (c1.mono (by decide) (by decide)) (fun v23 fi9 ar9 f9 => ?_) f8
  refine nv_putZ hb ?_
  have f10 : frM [0, 2, 38, 40, 41, 42, 43, 49, 55, 56] [44, 45, 46, 47, 48, 50, 51, 52, 53, 54] fi ar (va_up fi9 39 0) ar9 := ⟨fun j hj => by
    by_cases e : j = 39
    · subst e; rw [va_up_self]
      obtain ⟨sl, -, -, hS, -⟩ := hX
      exact hS.2.2.2.2.symm
    · rw [va_up_ne _ _ e]
      exact f9.1 j (fun z => hj (by simp only [List.mem_cons, List.not_mem_nil, or_false] at z ⊢; omega)), f9.2⟩
  generalize va_up fi9 39 0 = fc at f10 ⊢
  refine nv_getI hb ?_
  refine q_if ?_ ?_
  · refine n_putI hb (c0.1 _ (by decide)) f10 (fun fi11 f11 => ?_)
    refine n_getF hb (by decide) ?_
    refine q_getI (fun _ => ?_)
    refine q_aldJ (fun _ => ?_)
    refine n_putI hb (c0.1 _ (by decide)) f11 (fun fi12 f12 => ?_)
    refine n_loop (b := b) (P := frM [0, 2, 38, 40, 41, 42, 43, 49, 55, 56] [44, 45, 46, 47, 48, 50, 51, 52, 53, 54] fi ar) f12 (fun v34 fi13 ar13 _ _ f13 k13 => ?_)
    refine q_if (fun hq => ⟨trivial, key _ _ f13 hq.2⟩) ?_
    refine n_getF hb (by decide) ?_
    refine n_getF hb (by decide) ?_
    refine q_aldJ (fun _ => ?_)
    refine n_astI hb (by decide) (by decide) (c0.2 _ (by decide)) f13 (fun ar14 f14 => ?_)
    exact k13 _ _ _ f14
  · refine n_putI hb (c0.1 _ (by decide)) f10 (fun fi11 f11 => ?_)
    refine n_putI hb (c0.1 _ (by decide)) f11 (fun fi12 f12 => ?_)
    exact fun hq => ⟨trivial, key _ _ f12 hq.2⟩
theorem rc_found (h : RM mo M a y) (hM : M < 300000) (i : Int32) : w_X12_found (some mo) i y (fun r u => OK_found a i (u.I mo 0) r ∧ RM mo (M + 1) (nx_found a i) u) X := by
  obtain ⟨b, fi, ar, hb, rfl, rfl, hG, hA, hX, hV⟩ := h
  have h := t_found (X := X) hb hG RG_ok i
  revert h
  obtain ⟨sl, hF, hK, hS, hH, hC, hO⟩ := id hX
  unfold w_X12_found OK_found nx_found
  dsimp only [wJoin]
  have bad : ¬ (0 ≤ i.toInt ∧ i.toInt < (a.fo.length : Int)) → RG b M (ar 3) (mS b (va_up fi 0 1) ar) → EX (if 0 ≤ i.toInt ∧ i.toInt < (a.fo.length : Int) then 0 else 1) (a.fo[ix i]?.getD 0) ((mS b (va_up fi 0 1) ar).I b.o 0) 0 ∧ RM b.o (M + 1) a (mS b (va_up fi 0 1) ar) := fun c hg => by
    rw [if_neg c]
    exact ⟨⟨by rw [rv_I, va_up_self], fun z => absurd z (by decide)⟩, RM_g hb hg (RA_0 hA) (RX_0 hX) hV⟩
  refine qv_if (fun c => nv_fN hb (by decide) (bad ?_)) (fun c => ?_)
  · simp only [i32, Int32.reduceToInt] at c; omega
  · simp only [i32, Int32.reduceToInt] at c
    refine nv_getI hb ?_
    refine qv_if (fun c2 => ?_) (fun c2 => nv_fN hb (by decide) (bad ?_))
    · simp only [i32] at c2
      rw [hO.1] at c2
      have cc : 0 ≤ i.toInt ∧ i.toInt < (a.fo.length : Int) := ⟨by omega, c2⟩
      refine nv_f0 hb ?_
      refine n_getF hb (by decide) ?_
      refine nv_ald hb (by decide) (by decide) (fun _ hg => ?_)
      rw [if_pos cc]
      refine ⟨⟨by rw [rv_I, va_up_self], fun _ => ?_⟩, RM_g hb hg (RA_0 hA) (RX_0 hX) hV⟩
      have hi : ix i < a.fo.length := by have := ix_int cc.1; omega
      have he : a.fo[ix i]? = some a.fo[ix i] := List.getElem?_eq_getElem hi
      rw [he]
      exact hO.2 _ _ he
    · simp only [i32] at c2
      rw [hO.1] at c2; omega
theorem rc_mark (h : RM mo M a y) (hM : M < 300000) : w_X12_mark (some mo) y (fun r u => OK_mark a (u.I mo 0) r ∧ RM mo (M + 1) (nx_mark a) u) X := by
  obtain ⟨b, fi, ar, hb, rfl, rfl, hG, hA, hX, hV⟩ := h
  have h := t_mark (X := X) hb hG RG_ok
  revert h
  obtain ⟨sl, hF, hK, hS, hH, hC, hO⟩ := id hX
  unfold w_X12_mark OK_mark nx_mark
  refine nv_getI hb ?_
  dsimp only [wJoin]
  have h8 : fi 27 = 8 ↔ a.mk.length = 8 := by
    have h1 := hH.1
    have h2 : (8 : Int32).toInt = 8 := by decide
    exact ⟨fun z => by rw [z] at h1; omega, fun z => i_ext (by rw [h1, z]; decide)⟩
  refine qv_if (fun c => ?_) (fun c => ?_)
  · refine nv_fN hb (by decide) (fun hg => ?_)
    rw [if_pos (h8.mp c), if_pos (h8.mp c)]
    exact ⟨⟨by rw [rv_I, va_up_self], fun z => absurd z (by decide)⟩, RM_g hb hg (RA_0 hA) (RX_0 hX) hV⟩
  · have c8 : ¬ a.mk.length = 8 := fun z => c (h8.mpr z)
    have hl8 := hV.2.2.1.1
    rw [if_neg c8, if_neg c8]
    refine nv_f0 hb ?_
    refine nv_getI hb ?_
    have e27 : va_up fi 0 0 27 = fi 27 := va_up_ne _ _ (by decide)
    rw [e27]
    have fin : ∀ (fj : Nat → Int32), frM [0, 25] [] fi ar fj ar → fj 0 = 0 → (fj 25).toInt = (a.hs.length : Int) → (wGetF (mS b fj ar) 12 26 (some b.o) fun v10 => wGetI (mS b fj ar) 12 27 (some b.o) fun v11 => wGetI (mS b fj ar) 12 25 (some b.o) fun v12 => wAstI (mS b fj ar) v10 v11 v12 fun x13 => wGetI x13 12 27 (some b.o) fun v14 => wPutI x13 12 27 (some b.o) (v14 + 1) fun x15 => wGetI x15 12 27 (some b.o) fun v16 => RG b M (ar 3) x15) → (wGetF (mS b fj ar) 12 26 (some b.o) fun v10 => wGetI (mS b fj ar) 12 27 (some b.o) fun v11 => wGetI (mS b fj ar) 12 25 (some b.o) fun v12 => wAstI (mS b fj ar) v10 v11 v12 fun x13 => wGetI x13 12 27 (some b.o) fun v14 => wPutI x13 12 27 (some b.o) (v14 + 1) fun x15 => wGetI x15 12 27 (some b.o) fun v16 => EX 0 (num (a.mk.length + 1)) (x15.I b.o 0) v16 ∧ RM b.o (M + 1) (a.w_mk (a.mk ++ [a.hs.length])) x15) := fun fj ff f0 f25 => by
      have g27 : fj 27 = fi 27 := ff.1 27 (by decide)
      refine n_getF hb (by decide) ?_
      refine nv_getI hb ?_
      refine nv_getI hb ?_
      refine nv_astI hb (by decide) (by decide) (fun _ => ?_)
      refine nv_getI hb ?_
      refine nv_putI hb ?_
      refine nv_getI hb (fun hg => ?_)
      rw [g27] at hg
      rw [va_up_self, g27]
      have e1 : (fi 27 + 1).toInt = ((a.mk.length + 1 : Nat) : Int) := by rw [i_add hH.1 (show (1 : Int32).toInt = 1 by decide) (by omega)]; omega
      have ei : ix (fi 27) = a.mk.length := ix_of hH.1
      refine ⟨⟨by rw [rv_I, va_up_ne _ _ (by decide)]; exact f0, fun _ => num_of e1⟩, RM_g hb hg ?_ ?_ ?_⟩
      · exact RA_fr hA (frM_clo.1 27 (by decide) _ _ _ (frM_clo.2 26 (by decide) _ _ _ _ (⟨fun j hj => ff.1 j (fun z => hj ((by decide : ∀ j, j ∈ [0, 25] → j ∈ [0, 25, 27]) j z)), fun j _ => ff.2 j (by simp)⟩ : frM [0, 25, 27] [26] fi ar fj ar))) (by decide) (by decide)
      · have e26 : up2 ar 26 (ix (fi 27)) (fj 25) 26 = va_up (ar 26) a.mk.length (fj 25) := by
          rw [ei]; funext i; unfold up2 va_up; by_cases hi : i = a.mk.length <;> simp [hi]
        have eo : ∀ j, j ≠ 26 → up2 ar 26 (ix (fi 27)) (fj 25) j = ar j := fun j hj => by
          funext i; exact if_neg (fun z => hj z.1)
        have ef : ∀ j, j ≠ 0 → j ≠ 25 → j ≠ 27 → va_up fj 27 (fi 27 + 1) j = fi j := fun j h1 h2 h3 => by
          rw [va_up_ne _ _ h3]; exact ff.1 j (by simp [h1, h2])
        refine ⟨sl, ⟨?_, ?_, ?_⟩, ?_, ?_, ⟨?_, ?_, ?_⟩, ?_, ?_⟩
        · rw [eo 18 (by decide), eo 7 (by decide), eo 17 (by decide), eo 8 (by decide)]; exact hF.1
        · unfold RF1
          rw [eo 11 (by decide), eo 12 (by decide), eo 13 (by decide), eo 14 (by decide), eo 15 (by decide), eo 16 (by decide)]; exact hF.2.1
        · rw [eo 11 (by decide)]; exact hF.2.2
        · unfold RXk
          rw [eo 6 (by decide), eo 9 (by decide)]; exact hK
        · unfold RXs
          rw [ef 20 (by decide) (by decide) (by decide), ef 21 (by decide) (by decide) (by decide), ef 22 (by decide) (by decide) (by decide), ef 23 (by decide) (by decide) (by decide), ef 39 (by decide) (by decide) (by decide)]; exact hS
        · rw [va_up_self, e1]; show _ = (((a.mk ++ [a.hs.length]).length : Nat) : Int); rw [List.length_append]; rfl
        · rw [e26]
          intro i m hm
          have hm : (a.mk ++ [a.hs.length])[i]? = some m := hm
          by_cases hi : i < a.mk.length
          · rw [List.getElem?_append_left hi] at hm
            rw [va_up_ne _ _ (by omega)]
            exact hH.2.1 i m hm
          · rw [List.getElem?_append_right (by omega)] at hm
            have hi2 : i = a.mk.length := by
              have := (List.getElem?_eq_some_iff.mp hm).1
              simp at this; omega
            subst hi2
            simp at hm
            subst hm
            rw [va_up_self]; exact f25
        · intro _
          rw [va_up_ne _ _ (by decide), eo 24 (by decide), eo 19 (by decide)]
          refine ⟨f25, ?_, ?_⟩
          · by_cases hm : a.mk = []
            · have := hV.2.2.1.2.2.1 hm
              intro i e he
              have he : a.hs[i]? = some e := he
              rw [this] at he; simp at he
            · exact (hH.2.2 hm).2.1
          · by_cases hm : a.mk = []
            · have h9 := hV.2.2.1.2.2.1 hm
              intro t n hn hb9
              have hb9 : baseT a < a.fb n := hb9
              have := (hV.1.2.2.2.1 t n hn).2.2.2.1
              unfold baseT at hb9
              rw [h9] at hb9
              simp at hb9; omega
            · exact (hH.2.2 hm).2.2
        · unfold RXc
          rw [eo 28 (by decide), eo 29 (by decide), eo 30 (by decide), eo 31 (by decide), eo 32 (by decide), eo 33 (by decide), eo 34 (by decide), eo 35 (by decide)]; exact hC
        · unfold RXo
          rw [ef 37 (by decide) (by decide) (by decide), eo 36 (by decide)]; exact hO
      · obtain ⟨hr, hk, ⟨h1, h2, h3, h4, h5, h6⟩, hc, ho⟩ := hV
        refine ⟨hr, hk, ⟨?_, ?_, ?_, h4, h5, h6⟩, hc, ho⟩
        · show (a.mk ++ [a.hs.length]).length ≤ 8
          rw [List.length_append]; simp only [List.length_cons, List.length_nil]; omega
        · intro m hm
          have hm : m ∈ a.mk ++ [a.hs.length] := hm
          rcases List.mem_append.mp hm with z | z
          · exact h2 m z
          · rw [List.mem_singleton.mp z]; exact Nat.le_refl _
        · intro z
          exact absurd z (by show ¬ a.mk ++ [a.hs.length] = []; simp)
    refine qv_if (fun c2 => ?_) (fun c2 => ?_)
    · have hm := (mk_0 hH).mp c2
      refine nv_putI hb ?_
      refine fin _ (frM_clo.1 25 (by decide) _ _ _ (frM_clo.1 0 (by decide) _ _ _ frM_rf)) (by rw [va_up_ne _ _ (by decide), va_up_self]) ?_
      rw [va_up_self, hV.2.2.1.2.2.1 hm]; decide
    · have hm : a.mk ≠ [] := fun z => c2 ((mk_0 hH).mpr z)
      refine fin _ (frM_clo.1 0 (by decide) _ _ _ frM_rf) (va_up_self _ _ _) ?_
      rw [va_up_ne _ _ (by decide)]; exact (hH.2.2 hm).1
end RK
