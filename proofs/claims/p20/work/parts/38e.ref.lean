set_option linter.unusedVariables false
set_option linter.unusedSimpArgs false
/-! the reference: what is seen of it -/
def maskOf (f : Nat → Bool) : Int32 := (if f 0 then 1 else 0) + (if f 1 then 2 else 0) + (if f 2 then 4 else 0) + (if f 3 then 8 else 0)
def RA (a : A1) (fi : Nat → Int32) (ar : Nat → Nat → Int32) : Prop := ar 3 = a.vv ∧ fi 2 = a.tl ∧ fi 10 = a.tn ∧ ∀ t : Nat, (t : Int) < a.tn.toInt → ar 4 t = a.co t ∧ ar 5 t = maskOf (a.ix t)
def RM1 (mo M : Nat) (a : A1) (y : HS) : Prop := ∃ (b : MT) (fi : Nat → Int32) (ar : Nat → Nat → Int32), MB b ∧ b.o = mo ∧ y = mS b fi ar ∧ G M fi ar ∧ RA a fi ar
theorem mS_inj {b : MT} (hb : MB b) {fi fi' : Nat → Int32} {ar ar' : Nat → Nat → Int32} (h : mS b fi ar = mS b fi' ar') : fi = fi' ∧ ∀ j, j ∈ mIds → ar j = ar' j := by
  refine ⟨funext fun j => ?_, fun j hj => funext fun i => ?_⟩
  · have := congrArg (fun x : HS => x.I b.o j) h
    simpa only [m_I] using this
  · have := congrArg (fun x : HS => x.J (b.a j) i) h
    simpa only [m_J, mJ_at hb hj] using this
theorem G_congr {M : Nat} {fi : Nat → Int32} {ar ar' : Nat → Nat → Int32} (h : G M fi ar) (he : ∀ j, j ∈ mIds → ar j = ar' j) : G M fi ar' := by
  unfold G GB at h ⊢
  rw [← he 4 (by decide), ← he 6 (by decide), ← he 11 (by decide), ← he 12 (by decide), ← he 17 (by decide), ← he 18 (by decide), ← he 7 (by decide), ← he 8 (by decide), ← he 15 (by decide), ← he 16 (by decide), ← he 19 (by decide), ← he 24 (by decide), ← he 26 (by decide), ← he 28 (by decide), ← he 30 (by decide), ← he 33 (by decide)]
  exact h
/-- what the safety of a call says of what comes out -/
def RG (b : MT) (M : Nat) (vv : Nat → Int32) (u : HS) : Prop := ∃ fi' ar', u = mS b fi' ar' ∧ G (M + 1) fi' ar' ∧ ar' 3 = vv
theorem RG_ok {b : MT} {M : Nat} {ar : Nat → Nat → Int32} : OKQ b M ar (fun _ u => RG b M (ar 3) u) := fun r fi' ar' hG h3 => ⟨fi', ar', rfl, hG, h3⟩
theorem RG_RM1 {b : MT} (hb : MB b) {M : Nat} {vv : Nat → Int32} {a : A1} {fi : Nat → Int32} {ar : Nat → Nat → Int32} (h : RG b M vv (mS b fi ar)) (hA : RA a fi ar) : RM1 b.o (M + 1) a (mS b fi ar) := by
  obtain ⟨fi', ar', e, hG, -⟩ := h
  obtain ⟨e1, e2⟩ := mS_inj hb e
  subst e1
  exact ⟨b, fi, ar, hb, rfl, rfl, G_congr hG (fun j hj => (e2 j hj).symm), hA⟩
section NV
variable {b : MT} {fi : Nat → Int32} {ar : Nat → Nat → Int32} {j kd mo M : Nat} {i v : Int32} {a : A1} {y : HS} {X X' : String → HS → Prop} {Q Q' : HS → Prop} {QI QI' : Int32 → HS → Prop}
theorem RM1_o (h : RM1 mo M a y) : mo ∈ y.LP ∧ y.k mo = 12 := by
  obtain ⟨b, fi, ar, hb, rfl, rfl, hG, hv⟩ := h
  exact ⟨hb.1, hb.2.1⟩
theorem rc1_thrown (h : RM1 mo M a y) : w_X12_thrown (some mo) y (fun r u => r = y.I mo 0 ∧ u = y) X := by
  obtain ⟨h1, h2⟩ := RM1_o h
  exact ⟨mo, rfl, h1, h2, rfl, rfl⟩
theorem nv_getI (hb : MB b) {Z Z' : Int32 → Prop} (h : Z (fi j) → Z' (fi j)) : wGetI (mS b fi ar) 12 j (some b.o) Z → wGetI (mS b fi ar) 12 j (some b.o) Z' := by
  rw [m_getI hb, m_getI hb]; exact h
theorem nv_putI (hb : MB b) {Z Z' : HS → Prop} (h : Z (mS b (va_up fi j v) ar) → Z' (mS b (va_up fi j v) ar)) : wPutI (mS b fi ar) 12 j (some b.o) v Z → wPutI (mS b fi ar) 12 j (some b.o) v Z' := by
  rw [m_putI hb, m_putI hb]; exact h
theorem nv_putZ (hb : MB b) {Z Z' : HS → Prop} (h : Z (mS b (va_up fi j v) ar) → Z' (mS b (va_up fi j v) ar)) : wPutZ (mS b fi ar) 12 j (some b.o) v Z → wPutZ (mS b fi ar) 12 j (some b.o) v Z' := by
  rw [m_putZ hb, m_putZ hb]; exact fun z => ⟨z.1, h z.2⟩
theorem nv_ald (hb : MB b) (hj : j ∈ mIds) (hk : mKind j = kd) {Z Z' : Int32 → Prop} (h : wIn i (mLen j) → Z (ar j (ix i)) → Z' (ar j (ix i))) : wAldJ (mS b fi ar) kd (some (b.a j)) i Z → wAldJ (mS b fi ar) kd (some (b.a j)) i Z' := by
  rw [m_ald hb hj hk, m_ald hb hj hk]; exact qv_and h
theorem nv_astI (hb : MB b) (hj : j ∈ mIds) (hk : mKind j = 20) {Z Z' : HS → Prop} (h : wIn i (mLen j) → Z (mS b fi (up2 ar j (ix i) v)) → Z' (mS b fi (up2 ar j (ix i) v))) : wAstI (mS b fi ar) (some (b.a j)) i v Z → wAstI (mS b fi ar) (some (b.a j)) i v Z' := by
  rw [m_astI hb hj hk, m_astI hb hj hk]; exact qv_and h
theorem nv_astB (hb : MB b) (hj : j ∈ mIds) (hk : mKind j = 21) {Z Z' : HS → Prop} (h : wIn i (mLen j) → Z (mS b fi (up2 ar j (ix i) v.toInt8.toInt32)) → Z' (mS b fi (up2 ar j (ix i) v.toInt8.toInt32))) : wAstB (mS b fi ar) (some (b.a j)) i v Z → wAstB (mS b fi ar) (some (b.a j)) i v Z' := by
  rw [m_astB hb hj hk, m_astB hb hj hk]; exact qv_and h
theorem nv_astZ (hb : MB b) (hj : j ∈ mIds) (hk : mKind j = 22) {Z Z' : HS → Prop} (h : wIn i (mLen j) → Z (mS b fi (up2 ar j (ix i) v)) → Z' (mS b fi (up2 ar j (ix i) v))) : wAstZ (mS b fi ar) (some (b.a j)) i v Z → wAstZ (mS b fi ar) (some (b.a j)) i v Z' := by
  rw [m_astZ hb hj hk, m_astZ hb hj hk]; exact fun z => ⟨z.1, z.2.1, h z.1 z.2.2⟩
theorem nv_f0 (hb : MB b) {A B A' B' : Int32 → HS → Prop} (h : A 0 (mS b (va_up fi 0 0) ar) → A' 0 (mS b (va_up fi 0 0) ar)) : wRecv (mS b fi ar) 12 (some b.o) (w_X12_fails (some b.o) 0 (mS b fi ar) (fun v x => wIf (v = 0) (A v x) (B v x)) X) → wRecv (mS b fi ar) 12 (some b.o) (w_X12_fails (some b.o) 0 (mS b fi ar) (fun v x => wIf (v = 0) (A' v x) (B' v x)) X') := by
  rw [m_recv hb, m_recv hb, s_f0 hb, s_f0 hb]; exact h
theorem nv_fN (hb : MB b) (hv : v ≠ 0) {A B A' B' : Int32 → HS → Prop} (h : B 1 (mS b (va_up fi 0 v) ar) → B' 1 (mS b (va_up fi 0 v) ar)) : wRecv (mS b fi ar) 12 (some b.o) (w_X12_fails (some b.o) v (mS b fi ar) (fun v x => wIf (v = 0) (A v x) (B v x)) X) → wRecv (mS b fi ar) 12 (some b.o) (w_X12_fails (some b.o) v (mS b fi ar) (fun v x => wIf (v = 0) (A' v x) (B' v x)) X') := by
  rw [m_recv hb, m_recv hb, s_fN hb hv, s_fN hb hv]; exact h
theorem frM_tr {WF WA : List Nat} {fi' fi'' : Nat → Int32} {ar' ar'' : Nat → Nat → Int32} (h1 : frM WF WA fi ar fi' ar') (h2 : frM WF WA fi' ar' fi'' ar'') : frM WF WA fi ar fi'' ar'' := ⟨fun j hj => (h2.1 j hj).trans (h1.1 j hj), fun j hj => (h2.2 j hj).trans (h1.2 j hj)⟩
theorem ns_four (hb : MB b) {p : Int32} {n : Int} (hn : (fi 2).toInt = n) (h0 : 0 ≤ n) (h1 : n ≤ 396) (hQ : ∀ fi' ar', (fi' 2).toInt = n + 4 → frM [2] [1] fi ar fi' ar' → Q (mS b fi' ar') → Q' (mS b fi' ar')) : w_X12_four (some b.o) p (mS b fi ar) Q X → w_X12_four (some b.o) p (mS b fi ar) Q' X' := by
  unfold w_X12_four
  refine n_loopV (fun v fi' ar' => frM [2] [1] fi ar fi' ar' ∧ ∃ i : Int, 0 ≤ i ∧ i ≤ 4 ∧ v.toInt = 24 - 8 * i ∧ (fi' 2).toInt = n + i) ⟨frM_rf, 0, by omega, by omega, by decide, by omega⟩ (fun v fi' ar' again again' ⟨hf, i, i0, i1, i2, i3⟩ ha => ?_)
  refine qv_if (fun c => hQ _ _ ?_ hf) (fun c => ?_)
  · simp only [i32, Int32.reduceToInt] at c; omega
  · simp only [i32, Int32.reduceToInt] at c
    refine n_getF hb (by decide) ?_
    refine nv_getI hb ?_
    refine nv_astB hb (by decide) (by decide) (fun _ => ?_)
    refine nv_getI hb ?_
    refine nv_putI hb ?_
    refine ha _ _ _ ⟨frM_clo.1 2 (by decide) _ _ _ (frM_clo.2 1 (by decide) _ _ _ _ hf), i + 1, by omega, by omega, ?_, ?_⟩
    · rw [i_add i2 (show (-8 : Int32).toInt = -8 by decide) (by omega)]; omega
    · rw [va_up_self, i_add i3 (show (1 : Int32).toInt = 1 by decide) (by omega)]; omega
theorem RA_fr {WF WA : List Nat} {fi' : Nat → Int32} {ar' : Nat → Nat → Int32} (h : RA a fi ar) (hf : frM WF WA fi ar fi' ar') (h1 : 2 ∉ WF ∧ 10 ∉ WF) (h2 : 3 ∉ WA ∧ 4 ∉ WA ∧ 5 ∉ WA) : RA a fi' ar' := by
  unfold RA
  rw [hf.1 2 h1.1, hf.1 10 h1.2, hf.2 3 h2.1, hf.2 4 h2.2.1, hf.2 5 h2.2.2]
  exact h
theorem RA_tl {WF WA : List Nat} {fi' : Nat → Int32} {ar' : Nat → Nat → Int32} {v : Int32} (h : RA a fi ar) (hf : frM WF WA fi ar fi' ar') (hv : fi' 2 = v) (h1 : 10 ∉ WF) (h2 : 3 ∉ WA ∧ 4 ∉ WA ∧ 5 ∉ WA) : RA (a.wtl v) fi' ar' := by
  unfold RA
  rw [hf.1 10 h1, hf.2 3 h2.1, hf.2 4 h2.2.1, hf.2 5 h2.2.2]
  exact ⟨h.1, hv, h.2.2⟩
theorem rc1_feed (h : RM1 mo M a y) (hM : M < 300000) (p1 p2 p3 p4 p5 : Int32) : w_X12_feed (some mo) p1 p2 p3 p4 p5 y (fun r u => OK1_feed a p1 p2 p3 p4 p5 (u.I mo 0) r ∧ RM1 mo (M + 1) (nx1_feed a p1 p2 p3 p4 p5) u) X := by
  obtain ⟨b, fi, ar, hb, rfl, rfl, hG, hA⟩ := h
  have h := t_feed (X := X) hb hG RG_ok p1 p2 p3 p4 p5
  revert h
  have tl := hG.1.1
  rw [hA.2.1] at tl
  unfold w_X12_feed OK1_feed nx1_feed
  refine nv_getI hb ?_
  dsimp only [wJoin]
  rw [hA.2.1]
  have e20 : (a.tl + 20).toInt = a.tl.toInt + 20 := i_add rfl (by decide) (by omega)
  refine qv_if (fun c => ?_) (fun c => ?_)
  · simp only [i32.2.1, e20, Int32.reduceToInt] at c
    have c : a.tl.toInt ≤ 380 := by omega
    rw [if_pos c]
    refine nv_f0 hb ?_
    rw [m_recv hb, m_recv hb]
    have e0 : (va_up fi 0 0 2).toInt = a.tl.toInt := by rw [va_up_ne _ _ (by decide), hA.2.1]
    have f0 : frM [0, 2] [1] fi ar (va_up fi 0 0) ar := frM_clo.1 0 (by decide) _ _ _ frM_rf
    have wk : ∀ {fi ar fi' ar'}, frM [2] [1] fi ar fi' ar' → frM [0, 2] [1] fi ar fi' ar' := fun h => ⟨fun j hj => h.1 j (fun z => hj (List.mem_cons_of_mem _ z)), h.2⟩
    refine ns_four hb e0 tl.1 (by omega) (fun fi1 ar1 n1 f1 => ?_)
    rw [m_recv hb, m_recv hb]
    refine ns_four hb n1 (by omega) (by omega) (fun fi2 ar2 n2 f2 => ?_)
    rw [m_recv hb, m_recv hb]
    refine ns_four hb n2 (by omega) (by omega) (fun fi3 ar3 n3 f3 => ?_)
    rw [m_recv hb, m_recv hb]
    refine ns_four hb n3 (by omega) (by omega) (fun fi4 ar4 n4 f4 => ?_)
    rw [m_recv hb, m_recv hb]
    refine ns_four hb n4 (by omega) (by omega) (fun fi5 ar5 n5 f5 => ?_)
    refine nv_getI hb (fun hg => ?_)
    have ff := frM_tr f0 (wk (frM_tr f1 (frM_tr f2 (frM_tr f3 (frM_tr f4 f5)))))
    have e : fi5 2 = a.tl + 20 := i_ext (by rw [e20]; omega)
    have e9 : fi5 0 = 0 := by
      rw [f5.1 0 (by decide), f4.1 0 (by decide), f3.1 0 (by decide), f2.1 0 (by decide), f1.1 0 (by decide)]; exact va_up_self _ _ _
    refine ⟨⟨?_, fun _ => e⟩, ?_⟩
    · rw [rv_I, e9]
    · exact RG_RM1 hb hg (by rw [if_pos c]; exact RA_tl hA ff e (by decide) (by decide))
  · simp only [i32.2.1, e20, Int32.reduceToInt] at c
    have c : ¬ a.tl.toInt ≤ 380 := by omega
    rw [if_neg c]
    refine nv_fN hb (by decide) (fun hg => ⟨⟨?_, fun z => absurd z (by decide)⟩, ?_⟩)
    · rw [rv_I, va_up_self]
    · exact RG_RM1 hb hg (by rw [if_neg c]; exact RA_fr hA (frM_clo.1 0 (by decide) _ _ _ (frM_rf (WF := [0]) (WA := []))) (by decide) (by decide))
theorem rc1_end (h : RM1 mo M a y) (hM : M < 300000) (n : Int32) : w_X12_end (some mo) n y (fun r u => OK1_end a n (u.I mo 0) r ∧ RM1 mo (M + 1) (nx1_end a n) u) X := by
  obtain ⟨b, fi, ar, hb, rfl, rfl, hG, hA⟩ := h
  have h := t_end (X := X) hb hG RG_ok n
  revert h
  unfold w_X12_end OK1_end nx1_end
  dsimp only [wJoin]
  have bad : ¬ (0 ≤ n.toInt ∧ n.toInt ≤ a.tl.toInt) → RG b M (ar 3) (mS b (va_up fi 0 1) ar) → EX (if 0 ≤ n.toInt ∧ n.toInt ≤ a.tl.toInt then 0 else 1) n ((mS b (va_up fi 0 1) ar).I b.o 0) 0 ∧ RM1 b.o (M + 1) (if 0 ≤ n.toInt ∧ n.toInt ≤ a.tl.toInt then a.wtl n else a) (mS b (va_up fi 0 1) ar) := fun c hg => by
    rw [if_neg c, if_neg c]
    refine ⟨⟨by rw [rv_I, va_up_self], fun z => absurd z (by decide)⟩, ?_⟩
    exact RG_RM1 hb hg (RA_fr hA (frM_clo.1 0 (by decide) _ _ _ (frM_rf (WF := [0]) (WA := []))) (by decide) (by decide))
  refine qv_if (fun c => nv_fN hb (by decide) (bad ?_)) (fun c => ?_)
  · simp only [i32, Int32.reduceToInt] at c; omega
  · simp only [i32, Int32.reduceToInt] at c
    refine nv_getI hb ?_
    rw [hA.2.1]
    refine qv_if (fun c2 => ?_) (fun c2 => nv_fN hb (by decide) (bad ?_))
    · simp only [i32] at c2
      have c3 : 0 ≤ n.toInt ∧ n.toInt ≤ a.tl.toInt := ⟨by omega, c2⟩
      refine nv_f0 hb ?_
      refine nv_putI hb (fun hg => ?_)
      rw [if_pos c3, if_pos c3]
      refine ⟨⟨by rw [rv_I, va_up_ne _ _ (by decide), va_up_self], fun _ => rfl⟩, ?_⟩
      exact RG_RM1 hb hg (RA_tl hA (frM_clo.1 2 (by decide) _ _ _ (frM_clo.1 0 (by decide) _ _ _ (frM_rf (WF := [0, 2]) (WA := [])))) (va_up_self _ _ _) (by decide) (by decide))
    · simp only [i32] at c2; omega
theorem rc1_value (h : RM1 mo M a y) (hM : M < 300000) (k v : Int32) : w_X12_value (some mo) k v y (fun r u => OK1_value a k v (u.I mo 0) r ∧ RM1 mo (M + 1) (nx1_value a k v) u) X := by
  obtain ⟨b, fi, ar, hb, rfl, rfl, hG, hA⟩ := h
  have hg1 := G_up hG
  unfold OK1_value nx1_value
  refine t_value hb k v (fun hk => ?_) (fun hk => ?_)
  · have hk : 0 ≤ k.toInt ∧ k.toInt < 4 := hk
    rw [if_pos hk, if_pos hk]
    refine ⟨⟨by rw [rv_I, va_up_self], fun _ => by rw [hA.1]⟩, ⟨b, _, _, hb, rfl, rfl, ?_, ?_⟩⟩
    · simp only [G, GB, up2_rs, up2_rn, va_up_self, va_up_ne, ne_eq, Nat.reduceEqDiff, not_false_eq_true] at hg1 ⊢
      exact hg1
    · unfold RA
      simp only [up2_rs, up2_rn, va_up_self, va_up_ne, ne_eq, Nat.reduceEqDiff, not_false_eq_true]
      exact ⟨by rw [hA.1], hA.2⟩
  · have hk : ¬ (0 ≤ k.toInt ∧ k.toInt < 4) := hk
    rw [if_neg hk, if_neg hk]
    refine ⟨⟨by rw [rv_I, va_up_self], fun z => absurd z (by decide)⟩, ⟨b, _, _, hb, rfl, rfl, ?_, ?_⟩⟩
    · simp only [G, GB, up2_rs, up2_rn, va_up_self, va_up_ne, ne_eq, Nat.reduceEqDiff, not_false_eq_true] at hg1 ⊢
      exact hg1
    · exact RA_fr hA (frM_clo.1 0 (by decide) _ _ _ (frM_rf (WF := [0]) (WA := []))) (by decide) (by decide)
theorem rc1_table (h : RM1 mo M a y) (hM : M < 300000) (n : Int32) : w_X12_table (some mo) n y (fun r u => OK1_table a n (u.I mo 0) r ∧ RM1 mo (M + 1) (nx1_table a n) u) X := by
  obtain ⟨b, fi, ar, hb, rfl, rfl, hG, hA⟩ := h
  have h := t_table (X := X) hb hG RG_ok n
  revert h
  have tn := hG.1.2.1
  rw [hA.2.2.1] at tn
  unfold w_X12_table OK1_table nx1_table
  dsimp only [wJoin]
  have fr0 : ∀ v : Int32, RA a (va_up fi 0 v) ar := fun v => RA_fr hA (frM_clo.1 0 (by decide) _ _ _ (frM_rf (WF := [0]) (WA := []))) (by decide) (by decide)
  have bad : ¬ (1 ≤ n.toInt ∧ n.toInt ≤ 4) → RG b M (ar 3) (mS b (va_up fi 0 1) ar) → EX (if 1 ≤ n.toInt ∧ n.toInt ≤ 4 then (if a.tn.toInt = 12 then 2 else 0) else 1) a.tn ((mS b (va_up fi 0 1) ar).I b.o 0) 0 ∧ RM1 b.o (M + 1) (if (1 ≤ n.toInt ∧ n.toInt ≤ 4) ∧ a.tn.toInt ≠ 12 then (a.vv, a.tl, a.tn + 1, va_up a.co (ix a.tn) n, va_up a.ix (ix a.tn) (fun _ => false)) else a) (mS b (va_up fi 0 1) ar) := fun c hg => by
    rw [if_neg c, if_neg (fun z => c z.1)]
    exact ⟨⟨by rw [rv_I, va_up_self], fun z => absurd z (by decide)⟩, RG_RM1 hb hg (fr0 1)⟩
  refine qv_if (fun c => nv_fN hb (by decide) (bad ?_)) (fun c => ?_)
  · simp only [i32, Int32.reduceToInt] at c; omega
  · simp only [i32, Int32.reduceToInt] at c
    refine qv_if (fun c2 => ?_) (fun c2 => nv_fN hb (by decide) (bad ?_))
    · simp only [i32, Int32.reduceToInt] at c2
      have cc : 1 ≤ n.toInt ∧ n.toInt ≤ 4 := ⟨by omega, c2⟩
      refine nv_getI hb ?_
      rw [hA.2.2.1]
      refine qv_if (fun c3 => ?_) (fun c3 => ?_)
      · have e12 : a.tn.toInt = 12 := by rw [c3]; decide
        refine nv_fN hb (by decide) (fun hg => ?_)
        rw [if_pos cc, if_pos e12, if_neg (fun z => z.2 e12)]
        exact ⟨⟨by rw [rv_I, va_up_self], fun z => absurd z (by decide)⟩, RG_RM1 hb hg (fr0 2)⟩
      · have e12 : ¬ a.tn.toInt = 12 := fun z => c3 (i_ext (by rw [z]; decide))
        refine nv_f0 hb ?_
        have e10 : va_up fi 0 0 10 = a.tn := by rw [va_up_ne _ _ (by decide)]; exact hA.2.2.1
        refine n_getF hb (by decide) ?_
        refine nv_getI hb ?_
        rw [e10]
        refine nv_astI hb (by decide) (by decide) (fun _ => ?_)
        refine n_getF hb (by decide) ?_
        refine nv_getI hb ?_
        rw [e10]
        refine nv_astI hb (by decide) (by decide) (fun _ => ?_)
        refine n_getF hb (by decide) ?_
        refine nv_getI hb ?_
        rw [e10]
        refine nv_astI hb (by decide) (by decide) (fun _ => ?_)
        refine n_getF hb (by decide) ?_
        refine nv_getI hb ?_
        rw [e10]
        refine nv_astI hb (by decide) (by decide) (fun _ => ?_)
        refine n_getF hb (by decide) ?_
        refine nv_getI hb ?_
        rw [e10]
        refine nv_astI hb (by decide) (by decide) (fun _ => ?_)
        refine nv_getI hb ?_
        rw [e10]
        refine nv_putI hb ?_
        refine nv_getI hb (fun hg => ?_)
        rw [if_pos cc, if_neg e12, if_pos ⟨cc, e12⟩]
        have hnew : (a.tn + 1).toInt = a.tn.toInt + 1 := i_add rfl (by decide) (by omega)
        have hix : ((ix a.tn : Nat) : Int) = a.tn.toInt := ix_int tn.1
        refine ⟨⟨by rw [rv_I, va_up_ne _ _ (by decide), va_up_self], fun _ => ?_⟩, RG_RM1 hb hg ?_⟩
        · rw [va_up_self]
          exact i_ext (by rw [i_sub hnew (show (1 : Int32).toInt = 1 by decide) (by omega)]; omega)
        · unfold RA
          simp only [up2_rs, up2_rn, va_up_self, va_up_ne, ne_eq, Nat.reduceEqDiff, not_false_eq_true]
          refine ⟨hA.1, hA.2.1, trivial, fun t ht => ?_⟩
          have ht : (t : Int) < (a.tn + 1).toInt := ht
          by_cases e : t = ix a.tn
          · subst e
            rw [va_up_self, va_up_self]
            refine ⟨(va_up_self a.co _ n).symm, ?_⟩
            show (0 : Int32) = maskOf (va_up a.ix (ix a.tn) (fun _ => false) (ix a.tn))
            rw [va_up_self]; decide
          · rw [va_up_ne _ _ e, va_up_ne _ _ e]
            refine ⟨((hA.2.2.2 t (by omega)).1).trans (va_up_ne _ _ e).symm, ?_⟩
            show ar 5 t = maskOf (va_up a.ix (ix a.tn) (fun _ => false) t)
            rw [va_up_ne _ _ e]
            exact (hA.2.2.2 t (by omega)).2
    · simp only [i32, Int32.reduceToInt] at c2; omega
theorem mask_ok : ∀ (b0 b1 b2 b3 : Bool) (k : Fin 4), (((if b0 then 1 else 0) + (if b1 then 2 else 0) + (if b2 then 4 else 0) + (if b3 then 8 else 0) : Int32) ||| ((1 : Int32) <<< (Int32.ofNat k.val &&& 31))) = (if b0 || k.val == 0 then 1 else 0) + (if b1 || k.val == 1 then 2 else 0) + (if b2 || k.val == 2 then 4 else 0) + (if b3 || k.val == 3 then 8 else 0) := by decide
theorem mask_or (f : Nat → Bool) {k : Int32} (h : 0 ≤ k.toInt ∧ k.toInt < 4) : maskOf f ||| ((1 : Int32) <<< (k &&& 31)) = maskOf (va_up f (ix k) true) := by
  have hk : k = Int32.ofNat (ix k) := i_ext (by
    have := ix_int h.1
    rw [Int32.toInt_ofNat_of_lt (by omega)]; omega)
  have hlt : ix k < 4 := by have := ix_int h.1; omega
  have := mask_ok (f 0) (f 1) (f 2) (f 3) ⟨ix k, hlt⟩
  rw [← hk] at this
  unfold maskOf
  rw [this]
  have e : ∀ i, va_up f (ix k) true i = (f i || ix k == i) := fun i => by
    unfold va_up
    by_cases z : i = ix k
    · subst z; simp
    · rw [if_neg z]
      have : (ix k == i) = false := by simp; exact fun y => z y.symm
      rw [this, Bool.or_false]
  simp only [e]
theorem mask_eq : ∀ (b0 b1 b2 b3 c0 c1 c2 c3 : Bool), (((if b0 then 1 else 0) + (if b1 then 2 else 0) + (if b2 then 4 else 0) + (if b3 then 8 else 0) : Int32) = (if c0 then 1 else 0) + (if c1 then 2 else 0) + (if c2 then 4 else 0) + (if c3 then 8 else 0)) → b0 = c0 ∧ b1 = c1 ∧ b2 = c2 ∧ b3 = c3 := by decide
theorem mask_bit (f : Nat → Bool) {k : Int32} (h : 0 ≤ k.toInt ∧ k.toInt < 4) : maskOf f = maskOf (va_up f (ix k) true) ↔ f (ix k) = true := by
  have hlt : ix k < 4 := by have := ix_int h.1; omega
  constructor
  · intro e
    obtain ⟨e0, e1, e2, e3⟩ := mask_eq _ _ _ _ _ _ _ _ e
    have : ix k = 0 ∨ ix k = 1 ∨ ix k = 2 ∨ ix k = 3 := by omega
    rcases this with z | z | z | z <;> rw [z] at e0 e1 e2 e3 ⊢
    · rw [e0]; exact va_up_self _ _ _
    · rw [e1]; exact va_up_self _ _ _
    · rw [e2]; exact va_up_self _ _ _
    · rw [e3]; exact va_up_self _ _ _
  · intro e
    have : va_up f (ix k) true = f := by rw [← e]; exact va_same f _
    rw [this]
theorem rc1_index (h : RM1 mo M a y) (hM : M < 300000) (t k : Int32) : w_X12_index (some mo) t k y (fun r u => OK1_index a t k (u.I mo 0) r ∧ RM1 mo (M + 1) (nx1_index a t k) u) X := by
  obtain ⟨b, fi, ar, hb, rfl, rfl, hG, hA⟩ := h
  have h := t_index (X := X) hb hG RG_ok t k
  revert h
  have tn := hG.1.2.1
  rw [hA.2.2.1] at tn
  unfold w_X12_index OK1_index nx1_index
  have fr0 : ∀ v : Int32, RA a (va_up fi 0 v) ar := fun v => RA_fr hA (frM_clo.1 0 (by decide) _ _ _ (frM_rf (WF := [0]) (WA := []))) (by decide) (by decide)
  rw [m_recv hb, m_recv hb, s_isTable hb, s_isTable hb, hA.2.2.1]
  dsimp only [wJoin]
  by_cases hT : 0 ≤ t.toInt ∧ t.toInt < a.tn.toInt
  · have hT' : 0 ≤ t ∧ t < a.tn := by simp only [i32, Int32.reduceToInt]; exact hT
    rw [if_pos hT']
    refine qv_if (fun z => absurd z (by decide)) (fun _ => ?_)
    have hix : ((ix t : Nat) : Int) = t.toInt := ix_int hT.1
    obtain ⟨a1, a2⟩ := hA.2.2.2 (ix t) (by omega)
    have g4 : (ar 4 (ix t)).toInt ≤ 4 := (hG.2.1 (ix t) (by rw [hA.2.2.1]; omega)).2.1
    rw [a1] at g4
    have bad : ¬ (0 ≤ k.toInt ∧ k.toInt < (a.co (ix t)).toInt) → RG b M (ar 3) (mS b (va_up fi 0 2) ar) → EX (if 0 ≤ t.toInt ∧ t.toInt < a.tn.toInt then (if 0 ≤ k.toInt ∧ k.toInt < (a.co (ix t)).toInt then 0 else 2) else 1) (if a.ix (ix t) (ix k) then 0 else 1) ((mS b (va_up fi 0 2) ar).I b.o 0) 0 ∧ RM1 b.o (M + 1) (if (0 ≤ t.toInt ∧ t.toInt < a.tn.toInt) ∧ 0 ≤ k.toInt ∧ k.toInt < (a.co (ix t)).toInt then (a.vv, a.tl, a.tn, a.co, up2 a.ix (ix t) (ix k) true) else a) (mS b (va_up fi 0 2) ar) := fun c hg => by
      rw [if_pos hT, if_neg c, if_neg (show ¬ ((0 ≤ t.toInt ∧ t.toInt < a.tn.toInt) ∧ 0 ≤ k.toInt ∧ k.toInt < (a.co (ix t)).toInt) from fun z => c z.2)]
      exact ⟨⟨by rw [rv_I, va_up_self], fun z => absurd z (by decide)⟩, RG_RM1 hb hg (fr0 2)⟩
    refine qv_if (fun c => nv_fN hb (by decide) (bad ?_)) (fun c => ?_)
    · simp only [i32, Int32.reduceToInt] at c; omega
    · simp only [i32, Int32.reduceToInt] at c
      refine n_getF hb (by decide) ?_
      refine nv_ald hb (by decide) (by decide) (fun _ => ?_)
      rw [a1]
      refine qv_if (fun c2 => ?_) (fun c2 => nv_fN hb (by decide) (bad ?_))
      · simp only [i32] at c2
        have hK : 0 ≤ k.toInt ∧ k.toInt < (a.co (ix t)).toInt := ⟨by omega, c2⟩
        have hk4 : 0 ≤ k.toInt ∧ k.toInt < 4 := ⟨hK.1, by omega⟩
        refine nv_f0 hb ?_
        refine n_getF hb (by decide) ?_
        refine nv_ald hb (by decide) (by decide) (fun _ => ?_)
        refine n_getF hb (by decide) ?_
        refine nv_ald hb (by decide) (by decide) (fun _ => ?_)
        rw [a2, mask_or _ hk4]
        refine nv_astI hb (by decide) (by decide) (fun _ => ?_)
        refine n_getF hb (by decide) ?_
        refine nv_ald hb (by decide) (by decide) (fun _ => ?_)
        have e5 : up2 ar 5 (ix t) (maskOf (va_up (a.ix (ix t)) (ix k) true)) 5 (ix t) = maskOf (va_up (a.ix (ix t)) (ix k) true) := up2_self _ _ _ _
        rw [e5, if_pos hT, if_pos hK, if_pos (show (0 ≤ t.toInt ∧ t.toInt < a.tn.toInt) ∧ 0 ≤ k.toInt ∧ k.toInt < (a.co (ix t)).toInt from ⟨hT, hK⟩)]
        have fin : ∀ r : Int32, r = (if a.ix (ix t) (ix k) then 0 else 1) → RG b M (ar 3) (mS b (va_up fi 0 0) (up2 ar 5 (ix t) (maskOf (va_up (a.ix (ix t)) (ix k) true)))) → EX 0 (if a.ix (ix t) (ix k) then 0 else 1) ((mS b (va_up fi 0 0) (up2 ar 5 (ix t) (maskOf (va_up (a.ix (ix t)) (ix k) true)))).I b.o 0) r ∧ RM1 b.o (M + 1) (a.vv, a.tl, a.tn, a.co, up2 a.ix (ix t) (ix k) true) (mS b (va_up fi 0 0) (up2 ar 5 (ix t) (maskOf (va_up (a.ix (ix t)) (ix k) true)))) := fun r hr hg => by
          refine ⟨⟨by rw [rv_I, va_up_self], fun _ => hr⟩, RG_RM1 hb hg ?_⟩
          unfold RA
          simp only [up2_rs, up2_rn, va_up_self, va_up_ne, ne_eq, Nat.reduceEqDiff, not_false_eq_true]
          refine ⟨hA.1, hA.2.1, hA.2.2.1, fun t' ht' => ?_⟩
          refine ⟨(hA.2.2.2 t' ht').1, ?_⟩
          by_cases e : t' = ix t
          · subst e
            rw [va_up_self]
            congr 1
            funext k'
            show va_up (a.ix (ix t)) (ix k) true k' = up2 a.ix (ix t) (ix k) true (ix t) k'
            unfold va_up up2
            by_cases z : k' = ix k <;> simp [z]
          · rw [va_up_ne _ _ e]
            rw [(hA.2.2.2 t' ht').2]
            congr 1
            funext k'
            show a.ix t' k' = up2 a.ix (ix t) (ix k) true t' k'
            unfold up2
            rw [if_neg (fun z => e z.1)]
        have hbit := mask_bit (a.ix (ix t)) hk4
        refine qv_if (fun z => ?_) (fun z => ?_)
        · exact fin 0 (by rw [hbit.mp z]; rfl)
        · exact fin 1 (by rw [if_neg (fun y => z (hbit.mpr y))])
      · simp only [i32] at c2; omega
  · have hT' : ¬ (0 ≤ t ∧ t < a.tn) := by simp only [i32, Int32.reduceToInt]; exact hT
    rw [if_neg hT']
    refine qv_if (fun _ => ?_) (fun z => absurd rfl z)
    refine nv_fN hb (by decide) (fun hg => ?_)
    rw [if_neg hT, if_neg (show ¬ ((0 ≤ t.toInt ∧ t.toInt < a.tn.toInt) ∧ 0 ≤ k.toInt ∧ k.toInt < (a.co (ix t)).toInt) from fun z => hT z.1)]
    exact ⟨⟨by rw [rv_I, va_up_self], fun z => absurd z (by decide)⟩, RG_RM1 hb hg (fr0 1)⟩
theorem rc1_question (h : RM1 mo M a y) (hM : M < 300000) (p : Int32) : w_X12_question (some mo) p y (fun r u => OK1_question a p (u.I mo 0) r ∧ RM1 mo (M + 1) (nx1_question a p) u) X := by
  obtain ⟨b, fi, ar, hb, rfl, rfl, hG, hA⟩ := h
  have h := t_question (X := X) hb hG RG_ok p
  revert h
  refine fr2_X12_question (X := X) (X' := X) hb (P := frM [0, 38, 39, 40, 41, 42, 43, 49, 55, 56] [44, 45, 46, 47, 48, 50, 51, 52, 53, 54] (va_up fi 2 0) ar) frM_clo (fun r fi' ar' hf hg => ⟨trivial, RG_RM1 hb hg ?_⟩) frM_rf
  have := RA_fr (a := a.wtl 0) (fi := va_up fi 2 0) (ar := ar) ⟨hA.1, va_up_self _ _ _, by rw [va_up_ne _ _ (by decide)]; exact hA.2.2.1, hA.2.2.2⟩ hf (by decide) (by decide)
  exact this
theorem rc1_key (h : RM1 mo M a y) (hM : M < 300000) (p1 p2 : Int32) : w_X12_key (some mo) p1 p2 y (fun r u => OK1_key a p1 p2 (u.I mo 0) r ∧ RM1 mo (M + 1) (nx1_key a p1 p2) u) X := by
  obtain ⟨b, fi, ar, hb, rfl, rfl, hG, hA⟩ := h
  exact fr_X12_key (X := X) (X' := X) hb (P := frM [0] [6, 9] fi ar) frM_clo (fun r fi' ar' hf hg => ⟨trivial, RG_RM1 hb hg (RA_fr hA hf (by decide) (by decide))⟩) frM_rf (t_key (X := X) hb hG RG_ok p1 p2)
theorem rc1_add (h : RM1 mo M a y) (hM : M < 300000) (p1 p2 : Int32) : w_X12_add (some mo) p1 p2 y (fun r u => OK1_add a p1 p2 (u.I mo 0) r ∧ RM1 mo (M + 1) (nx1_add a p1 p2) u) X := by
  obtain ⟨b, fi, ar, hb, rfl, rfl, hG, hA⟩ := h
  exact fr_X12_add (X := X) (X' := X) hb (P := frM [0, 20, 21, 22, 25] [7, 8, 11, 12, 13, 14, 15, 16, 17, 18, 19, 24] fi ar) frM_clo (fun r fi' ar' hf hg => ⟨trivial, RG_RM1 hb hg (RA_fr hA hf (by decide) (by decide))⟩) frM_rf (t_add (X := X) hb hG hM RG_ok p1 p2)
theorem rc1_remove (h : RM1 mo M a y) (hM : M < 300000) (p1 p2 p3 : Int32) : w_X12_remove (some mo) p1 p2 p3 y (fun r u => OK1_remove a p1 p2 p3 (u.I mo 0) r ∧ RM1 mo (M + 1) (nx1_remove a p1 p2 p3) u) X := by
  obtain ⟨b, fi, ar, hb, rfl, rfl, hG, hA⟩ := h
  exact fr_X12_remove (X := X) (X' := X) hb (P := frM [0, 22, 25, 38] [16, 24] fi ar) frM_clo (fun r fi' ar' hf hg => ⟨trivial, RG_RM1 hb hg (RA_fr hA hf (by decide) (by decide))⟩) frM_rf (t_remove (X := X) hb hG hM RG_ok p1 p2 p3)
theorem rc1_find (h : RM1 mo M a y) (hM : M < 300000) (p1 p2 p3 : Int32) : w_X12_find (some mo) p1 p2 p3 y (fun r u => OK1_find a p1 p2 p3 (u.I mo 0) r ∧ RM1 mo (M + 1) (nx1_find a p1 p2 p3) u) X := by
  obtain ⟨b, fi, ar, hb, rfl, rfl, hG, hA⟩ := h
  exact fr_X12_find (X := X) (X' := X) hb (P := frM [0, 38] [] fi ar) frM_clo (fun r fi' ar' hf hg => ⟨trivial, RG_RM1 hb hg (RA_fr hA hf (by decide) (by decide))⟩) frM_rf (t_find (X := X) hb hG RG_ok p1 p2 p3)
theorem rc1_many (h : RM1 mo M a y) (hM : M < 300000) (p1 p2 p3 : Int32) : w_X12_many (some mo) p1 p2 p3 y (fun r u => OK1_many a p1 p2 p3 (u.I mo 0) r ∧ RM1 mo (M + 1) (nx1_many a p1 p2 p3) u) X := by
  obtain ⟨b, fi, ar, hb, rfl, rfl, hG, hA⟩ := h
  exact fr_X12_many (X := X) (X' := X) hb (P := frM [0, 38] [] fi ar) frM_clo (fun r fi' ar' hf hg => ⟨trivial, RG_RM1 hb hg (RA_fr hA hf (by decide) (by decide))⟩) frM_rf (t_many (X := X) hb hG RG_ok p1 p2 p3)
theorem rc1_open (h : RM1 mo M a y) (hM : M < 300000) (p1 p2 p3 : Int32) : w_X12_open (some mo) p1 p2 p3 y (fun r u => OK1_open a p1 p2 p3 (u.I mo 0) r ∧ RM1 mo (M + 1) (nx1_open a p1 p2 p3) u) X := by
  obtain ⟨b, fi, ar, hb, rfl, rfl, hG, hA⟩ := h
  exact fr_X12_open (X := X) (X' := X) hb (P := frM [0] [28, 29, 30, 31, 32, 33, 34, 35] fi ar) frM_clo (fun r fi' ar' hf hg => ⟨trivial, RG_RM1 hb hg (RA_fr hA hf (by decide) (by decide))⟩) frM_rf (t_open (X := X) hb hG RG_ok p1 p2 p3)
theorem rc1_next (h : RM1 mo M a y) (hM : M < 300000) (p1 : Int32) : w_X12_next (some mo) p1 y (fun r u => OK1_next a p1 (u.I mo 0) r ∧ RM1 mo (M + 1) (nx1_next a p1) u) X := by
  obtain ⟨b, fi, ar, hb, rfl, rfl, hG, hA⟩ := h
  exact fr_X12_next (X := X) (X' := X) hb (P := frM [0, 38] [29, 33, 34] fi ar) frM_clo (fun r fi' ar' hf hg => ⟨trivial, RG_RM1 hb hg (RA_fr hA hf (by decide) (by decide))⟩) frM_rf (t_next (X := X) hb hG RG_ok p1)
theorem rc1_close (h : RM1 mo M a y) (hM : M < 300000) (p1 : Int32) : w_X12_close (some mo) p1 y (fun r u => OK1_close a p1 (u.I mo 0) r ∧ RM1 mo (M + 1) (nx1_close a p1) u) X := by
  obtain ⟨b, fi, ar, hb, rfl, rfl, hG, hA⟩ := h
  exact fr_X12_close (X := X) (X' := X) hb (P := frM [0] [28] fi ar) frM_clo (fun r fi' ar' hf hg => ⟨trivial, RG_RM1 hb hg (RA_fr hA hf (by decide) (by decide))⟩) frM_rf (t_close (X := X) hb hG RG_ok p1)
theorem rc1_fact (h : RM1 mo M a y) (hM : M < 300000) (p1 p2 : Int32) : w_X12_fact (some mo) p1 p2 y (fun r u => OK1_fact a p1 p2 (u.I mo 0) r ∧ RM1 mo (M + 1) (nx1_fact a p1 p2) u) X := by
  obtain ⟨b, fi, ar, hb, rfl, rfl, hG, hA⟩ := h
  exact fr_X12_fact (X := X) (X' := X) hb (P := frM [0] [] fi ar) frM_clo (fun r fi' ar' hf hg => ⟨trivial, RG_RM1 hb hg (RA_fr hA hf (by decide) (by decide))⟩) frM_rf (t_fact (X := X) hb hG RG_ok p1 p2)
theorem rc1_mark (h : RM1 mo M a y) (hM : M < 300000) : w_X12_mark (some mo) y (fun r u => OK1_mark a (u.I mo 0) r ∧ RM1 mo (M + 1) (nx1_mark a) u) X := by
  obtain ⟨b, fi, ar, hb, rfl, rfl, hG, hA⟩ := h
  exact fr_X12_mark (X := X) (X' := X) hb (P := frM [0, 25, 27] [26] fi ar) frM_clo (fun r fi' ar' hf hg => ⟨trivial, RG_RM1 hb hg (RA_fr hA hf (by decide) (by decide))⟩) frM_rf (t_mark (X := X) hb hG RG_ok)
theorem rc1_back (h : RM1 mo M a y) (hM : M < 300000) (p1 : Int32) : w_X12_back (some mo) p1 y (fun r u => OK1_back a p1 (u.I mo 0) r ∧ RM1 mo (M + 1) (nx1_back a p1) u) X := by
  obtain ⟨b, fi, ar, hb, rfl, rfl, hG, hA⟩ := h
  exact fr_X12_back (X := X) (X' := X) hb (P := frM [0, 20, 21, 22, 25, 27] [7, 8, 11, 12, 13, 14, 15, 16, 17, 18, 19, 24] fi ar) frM_clo (fun r fi' ar' hf hg => ⟨trivial, RG_RM1 hb hg (RA_fr hA hf (by decide) (by decide))⟩) frM_rf (t_back (X := X) hb hG hM RG_ok p1)
theorem rc1_purge (h : RM1 mo M a y) (hM : M < 300000) (p1 : Int32) : w_X12_purge (some mo) p1 y (fun r u => OK1_purge a p1 (u.I mo 0) r ∧ RM1 mo (M + 1) (nx1_purge a p1) u) X := by
  obtain ⟨b, fi, ar, hb, rfl, rfl, hG, hA⟩ := h
  exact fr_X12_purge (X := X) (X' := X) hb (P := frM [0, 20, 23] [7, 8, 11, 17, 18] fi ar) frM_clo (fun r fi' ar' hf hg => ⟨trivial, RG_RM1 hb hg (RA_fr hA hf (by decide) (by decide))⟩) frM_rf (t_purge (X := X) hb hG RG_ok p1)
theorem rc1_changes (h : RM1 mo M a y) (hM : M < 300000) (p1 p2 p3 : Int32) : w_X12_changes (some mo) p1 p2 p3 y (fun r u => OK1_changes a p1 p2 p3 (u.I mo 0) r ∧ RM1 mo (M + 1) (nx1_changes a p1 p2 p3) u) X := by
  obtain ⟨b, fi, ar, hb, rfl, rfl, hG, hA⟩ := h
  exact fr_X12_changes (X := X) (X' := X) hb (P := frM [0, 37] [36] fi ar) frM_clo (fun r fi' ar' hf hg => ⟨trivial, RG_RM1 hb hg (RA_fr hA hf (by decide) (by decide))⟩) frM_rf (t_changes (X := X) hb hG RG_ok p1 p2 p3)
theorem rc1_found (h : RM1 mo M a y) (hM : M < 300000) (p1 : Int32) : w_X12_found (some mo) p1 y (fun r u => OK1_found a p1 (u.I mo 0) r ∧ RM1 mo (M + 1) (nx1_found a p1) u) X := by
  obtain ⟨b, fi, ar, hb, rfl, rfl, hG, hA⟩ := h
  exact fr_X12_found (X := X) (X' := X) hb (P := frM [0] [] fi ar) frM_clo (fun r fi' ar' hf hg => ⟨trivial, RG_RM1 hb hg (RA_fr hA hf (by decide) (by decide))⟩) frM_rf (t_found (X := X) hb hG RG_ok p1)
theorem rc1_solution (h : RM1 mo M a y) (hM : M < 300000) (p1 p2 : Int32) : w_X12_solution (some mo) p1 p2 y (fun r u => OK1_solution a p1 p2 (u.I mo 0) r ∧ RM1 mo (M + 1) (nx1_solution a p1 p2) u) X := by
  obtain ⟨b, fi, ar, hb, rfl, rfl, hG, hA⟩ := h
  exact fr_X12_solution (X := X) (X' := X) hb (P := frM [0] [] fi ar) frM_clo (fun r fi' ar' hf hg => ⟨trivial, RG_RM1 hb hg (RA_fr hA hf (by decide) (by decide))⟩) frM_rf (t_solution (X := X) hb hG RG_ok p1 p2)
theorem rc1_count (h : RM1 mo M a y) (hM : M < 300000) (p1 : Int32) : w_X12_count (some mo) p1 y (fun r u => OK1_count a p1 (u.I mo 0) r ∧ RM1 mo (M + 1) (nx1_count a p1) u) X := by
  obtain ⟨b, fi, ar, hb, rfl, rfl, hG, hA⟩ := h
  exact fr_X12_count (X := X) (X' := X) hb (P := frM [0] [] fi ar) frM_clo (fun r fi' ar' hf hg => ⟨trivial, RG_RM1 hb hg (RA_fr hA hf (by decide) (by decide))⟩) frM_rf (t_count (X := X) hb hG RG_ok p1)
theorem rc1_init {x : HS} (h1 : mo ∈ x.LP) (h2 : x.k mo = 12) (h3 : x.I mo = fun _ => 0) (hc : 38 ≤ x.c) (hz : 56386 ≤ x.z) : w_X12_init (some mo) x (fun u => RM1 mo 0 A10 u) X :=
  t_init h1 h2 h3 hc hz (fun b hb ho _ _ => ⟨b, fi0, fun _ _ => 0, hb, ho, rfl, G_new, rfl, rfl, rfl, fun t ht => absurd ht (by show ¬ (t : Int) < (0 : Int32).toInt; rw [show (0 : Int32).toInt = 0 by decide]; omega)⟩)
end NV
