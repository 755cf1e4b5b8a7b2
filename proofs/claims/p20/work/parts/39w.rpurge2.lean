set_option linter.unusedVariables false
set_option linter.unusedSimpArgs false
/-! the reference: purge, all of it -/
theorem free10 {op : Nat → Bool} : freeC (fun i => !(op i)) = 10 ↔ ∀ c, c < 10 → op c = false := by
  unfold freeC
  cases h : (List.range 10).find? fun i => !(!(op i)) with
  | none =>
    refine ⟨fun _ c hc => ?_, fun _ => rfl⟩
    have := List.find?_eq_none.mp h c (List.mem_range.mpr hc)
    simpa using this
  | some k =>
    have h1 := List.mem_range.mp (List.mem_of_find?_eq_some h)
    have h2 := List.find?_some h
    refine ⟨fun z => ?_, fun z => ?_⟩
    · have z : k = 10 := z
      omega
    · rw [z k h1] at h2; simp at h2
/-- who is left when the slots below i have been looked at -/
def leftP (a : AS) (sl : Nat → Nat) (T : Int) (i : Nat) (n : Nat) : Bool := !(goneB a T n && decide (sl n < i))
def leftA (a : AS) (sl : Nat → Nat) (H T : Int) (i : Nat) : AS := (a.w_hz H).w_rw (fun t => (a.rw t).filter (leftP a sl T i))
theorem left_same {a : AS} {sl : Nat → Nat} {H T : Int} {i : Nat} (h : ∀ t n, n ∈ (leftA a sl H T i).rw t → sl n = i → goneB a T n = false) : leftA a sl H T (i + 1) = leftA a sl H T i := by
  have e : (fun t => (a.rw t).filter (leftP a sl T (i + 1))) = fun t => (a.rw t).filter (leftP a sl T i) := by
    funext t
    refine List.filter_congr (fun n hn => ?_)
    by_cases hi : sl n = i
    · cases hg : goneB a T n with
      | false => simp [leftP, hg]
      | true =>
        have hm : n ∈ (leftA a sl H T i).rw t := by
          show n ∈ (a.rw t).filter (leftP a sl T i)
          exact List.mem_filter.mpr ⟨hn, by simp [leftP, hi]⟩
        rw [h t n hm hi] at hg
        exact absurd hg (by decide)
    · have : (sl n < i + 1) ↔ (sl n < i) := by omega
      unfold leftP
      rw [decide_eq_decide.mpr this]
  unfold leftA
  rw [e]
theorem left_cut {a : AS} {sl : Nat → Nat} {H T : Int} {i t n : Nat} {L1 L2 : List Nat} (hinj : ∀ t t' x x', x ∈ a.rw t → x' ∈ a.rw t' → sl x = sl x' → x = x') (hd : ∀ t t' x, x ∈ a.rw t → x ∈ a.rw t' → t = t') (hnd : ∀ t, (a.rw t).Nodup) (hL : (leftA a sl H T i).rw t = L1 ++ n :: L2) (hs : sl n = i) (hg : goneB a T n = true) : leftA a sl H T (i + 1) = (leftA a sl H T i).w_rw (va_up (leftA a sl H T i).rw t (L1 ++ L2)) := by
  have hL : (a.rw t).filter (leftP a sl T i) = L1 ++ n :: L2 := hL
  have hn : n ∈ a.rw t := (List.mem_filter.mp (by rw [hL]; exact List.mem_append_right _ List.mem_cons_self)).1
  have q : ∀ x, leftP a sl T (i + 1) x = (leftP a sl T i x && !(goneB a T x && decide (sl x = i))) := fun x => by
    unfold leftP
    have : decide (sl x < i + 1) = (decide (sl x < i) || decide (sl x = i)) := by
      rw [Bool.eq_iff_iff]; simp only [Bool.or_eq_true, decide_eq_true_eq]; omega
    rw [this]
    cases goneB a T x <;> cases decide (sl x < i) <;> cases decide (sl x = i) <;> rfl
  have keep : ∀ t' x, x ∈ a.rw t' → x ≠ n → (!(goneB a T x && decide (sl x = i))) = true := fun t' x hx hne => by
    have : sl x ≠ i := fun z => hne (hinj _ _ _ _ hx hn (by rw [z, hs]))
    simp [this]
  have e : (fun t' => (a.rw t').filter (leftP a sl T (i + 1))) = va_up (fun t' => (a.rw t').filter (leftP a sl T i)) t (L1 ++ L2) := by
    funext t'
    have e1 : (a.rw t').filter (leftP a sl T (i + 1)) = ((a.rw t').filter (leftP a sl T i)).filter (fun x => !(goneB a T x && decide (sl x = i))) := by
      rw [List.filter_filter]
      exact List.filter_congr (fun x _ => by rw [q x, Bool.and_comm])
    by_cases et : t' = t
    · subst et
      rw [va_up_self, e1, hL]
      have hnd2 : (L1 ++ n :: L2).Nodup := by rw [← hL]; exact (hnd t').filter _
      have h2 := List.nodup_append.mp hnd2
      have hm : ∀ x, x ∈ L1 ++ n :: L2 → x ∈ a.rw t' := fun x hx => (List.mem_filter.mp (by rw [hL]; exact hx)).1
      rw [List.filter_append, List.filter_cons_of_neg (by simp [hg, hs])]
      rw [List.filter_eq_self.mpr (fun x hx => keep t' x (hm x (List.mem_append_left _ hx)) (fun z => h2.2.2 x hx n List.mem_cons_self z))]
      rw [List.filter_eq_self.mpr (fun x hx => keep t' x (hm x (List.mem_append_right _ (List.mem_cons_of_mem _ hx))) (fun z => (List.nodup_cons.mp h2.2.1).1 (by rw [← z]; exact hx)))]
    · rw [va_up_ne _ _ et, e1]
      exact List.filter_eq_self.mpr (fun x hx => keep t' x (List.mem_filter.mp hx).1 (fun z => et (hd _ _ _ (by rw [← z]; exact (List.mem_filter.mp hx).1) hn)))
  unfold leftA
  show (a.w_hz H).w_rw _ = (a.w_hz H).w_rw _
  rw [e]
theorem left_0 {a : AS} {sl : Nat → Nat} {H T : Int} : leftA a sl H T 0 = a.w_hz H := by
  have e : (fun t => (a.rw t).filter (leftP a sl T 0)) = a.rw := by
    funext t
    exact List.filter_eq_self.mpr (fun n _ => by simp [leftP])
  unfold leftA
  rw [e]
theorem left_end {a : AS} {sl : Nat → Nat} {H T : Int} (h : ∀ t n, n ∈ a.rw t → sl n < 3000) : leftA a sl H T 3000 = (a.w_hz H).w_rw (fun t => (a.rw t).filter fun n => !(goneB a T n)) := by
  have e : (fun t => (a.rw t).filter (leftP a sl T 3000)) = fun t => (a.rw t).filter fun n => !(goneB a T n) := by
    funext t
    exact List.filter_congr (fun n hn => by simp [leftP, h t n hn])
  unfold leftA
  rw [e]
theorem filter_not_len {p : Nat → Bool} : ∀ (L : List Nat), (L.filter p).length + (L.filter fun n => !(p n)).length = L.length
  | [] => rfl
  | x :: L => by
      have ih := filter_not_len (p := p) L
      rw [List.filter_cons, List.filter_cons]
      cases p x <;> simp <;> omega
theorem av_purge {a : AS} (hV : AV a) (hmk : a.mk = []) (hop : ∀ c, c < 10 → a.op c = false) {T : Int} (hT : T ≤ a.tm) : AV ((a.w_hz (max a.hz T)).w_rw (fun t => (a.rw t).filter fun n => !(goneB a T n))) := by
  obtain ⟨⟨r1, r2, r3, r4, r5, r6, r7, r8⟩, hk, ⟨h1, h2, h3, h4, h5, h6⟩, hc, ho⟩ := hV
  have hh : a.hs = [] := h3 hmk
  have mm : ∀ t n, n ∈ (a.rw t).filter (fun n => !(goneB a T n)) → n ∈ a.rw t := fun t n hn => (List.mem_filter.mp hn).1
  refine ⟨⟨fun t ht => ?_, fun t t' n hn hn' => r2 t t' n (mm _ _ hn) (mm _ _ hn'), fun t => (r3 t).filter _, fun t n hn => r4 t n (mm _ _ hn), ?_, r6, ?_, r8⟩, hk, ⟨h1, h2, h3, h4, ?_, ?_⟩, fun c hc' hop' => ?_, ho⟩
  · show (a.rw t).filter _ = []
    rw [r1 t ht]; rfl
  · show 0 ≤ max a.hz T ∧ max a.hz T ≤ a.tm
    omega
  · show ((List.range 12).flatMap fun t => (a.rw t).filter fun n => !(goneB a T n)).length ≤ 3000
    rw [← List.filter_flatMap]
    exact Nat.le_trans (List.length_filter_le _ _) r7
  · intro k e he
    have he : a.hs[k]? = some e := he
    rw [hh] at he; simp at he
  · intro t n hn hb'
    have hb' : a.tm - (a.hs.length : Int) < a.fb n := hb'
    have := (r4 t n (mm _ _ hn)).2.2.2.1
    rw [hh] at hb'; simp at hb'; omega
  · have hop' : a.op c = true := hop'
    rw [hop c hc'] at hop'
    exact absurd hop' (by decide)
section RW1
variable {b : MT} {fi : Nat → Int32} {ar : Nat → Nat → Int32} {mo M : Nat} {a : AS} {y : HS} {sl : Nat → Nat} {X X' : String → HS → Prop} {Q Q' : HS → Prop} {QI QI' : Int32 → HS → Prop}
theorem rc_purge (h : RM mo M a y) (hM : M < 300000) (q : Int32) : w_X12_purge (some mo) q y (fun r u => OK_purge a q (u.I mo 0) r ∧ RM mo (M + 1) (nx_purge a q) u) X := by
  obtain ⟨b, fi, ar, hb, rfl, rfl, hG, hA, hX, hV⟩ := h
  have h := t_purge (X := X) hb hG RG_ok q
  revert h
  obtain ⟨sl, hx⟩ := id hX
  have hx : RXx a sl fi ar := hx
  obtain ⟨hF, hK, hS, hH, hC, hO⟩ := id hx
  unfold w_X12_purge OK_purge nx_purge
  refine nv_getI hb ?_
  refine n_joinV (b := b) (fun v f g => f = fi ∧ g = ar ∧ (v ≠ 0 ↔ a.mk ≠ [])) (fun v0 f g ⟨e1, e2, hv0⟩ => ?_) (fun k k' hk => qv_if (fun c => hk _ _ _ ⟨rfl, rfl, ?_⟩) (fun c => hk _ _ _ ⟨rfl, rfl, ?_⟩))
  rotate_left
  · simp only [i32, Int32.reduceToInt] at c
    have h27 := hH.1
    have : a.mk = [] := List.eq_nil_of_length_eq_zero (by omega)
    simp [this]
  · simp only [i32, Int32.reduceToInt] at c
    have : a.mk ≠ [] := fun z => c (by have h27 := hH.1; rw [z] at h27; simp at h27; omega)
    exact ⟨fun _ => this, fun _ => by decide⟩
  subst e1; subst e2
  refine n_loopV (fun v f' g' => f' = f ∧ g' = g ∧ ∃ i : Nat, v.2.toInt = (i : Int) ∧ i ≤ 10 ∧ (v.1 ≠ 0 ↔ (a.mk ≠ [] ∨ ∃ c, c < i ∧ a.op c = true))) ⟨rfl, rfl, 0, by show (0 : Int32).toInt = ((0 : Nat) : Int); decide, by omega, by simp [hv0]⟩ (fun v f' g' again again' ⟨e1, e2, i, i1, i2, i3⟩ ha => ?_)
  subst e1; subst e2
  refine qv_if (fun c => ?_) (fun c => ?_)
  rotate_left
  · simp only [i32, Int32.reduceToInt] at c
    refine n_getF hb (by decide) ?_
    refine nv_ald hb (by decide) (by decide) (fun _ => ?_)
    rw [ix_of i1]
    have nxt : ∀ w : Int32, (w ≠ 0 ↔ v.1 ≠ 0 ∨ a.op i = true) → again (w, v.2 + 1) (mS b f' g') → again' (w, v.2 + 1) (mS b f' g') := fun w hw => ha _ _ _ ⟨rfl, rfl, i + 1, by show (v.2 + 1).toInt = _; rw [i_add i1 (show (1 : Int32).toInt = 1 by decide) (by omega)]; omega, by omega, by
      show w ≠ 0 ↔ _
      rw [hw, i3]
      constructor
      · rintro ((z | ⟨k, k1, k2⟩) | z)
        · exact Or.inl z
        · exact Or.inr ⟨k, by omega, k2⟩
        · exact Or.inr ⟨i, by omega, z⟩
      · rintro (z | ⟨k, k1, k2⟩)
        · exact Or.inl (Or.inl z)
        · by_cases e : k = i
          · subst e; exact Or.inr k2
          · exact Or.inl (Or.inr ⟨k, by omega, k2⟩)⟩
    dsimp only [wJoin]
    have ho := (hC i (by omega)).1
    refine qv_if (fun c2 => nxt _ ?_) (fun c2 => nxt _ ?_)
    · have : ¬ a.op i = true := fun z => (ho.mpr z) c2
      simp [this]
    · exact ⟨fun _ => Or.inr (ho.mp c2), fun _ => by decide⟩
  simp only [i32, Int32.reduceToInt] at c
  have hi : i = 10 := by omega
  subst hi
  rw [m_recv hb, m_recv hb, e_isTime hb, e_isTime hb]
  have etm := tm_ok hS q
  refine n_joinV (b := b) (fun w f g => f = f' ∧ g = g' ∧ w = purgeCd a q) (fun w f g ⟨e1, e2, hw⟩ => ?_) (fun k k' hk => qv_if (fun c2 => hk _ _ _ ⟨rfl, rfl, ?_⟩) (fun c2 => qv_if (fun c3 => hk _ _ _ ⟨rfl, rfl, ?_⟩) (fun c3 => hk _ _ _ ⟨rfl, rfl, ?_⟩)))
  rotate_left
  · unfold purgeCd
    rw [if_neg (fun z => by rw [if_pos (etm.mpr z)] at c2; exact absurd c2 (by decide))]
  · have ht : timeOk a q := etm.mp (Classical.byContradiction fun z => c2 (if_neg z))
    have h0 : ¬ (a.mk ≠ [] ∨ ∃ c, c < 10 ∧ a.op c = true) := fun z => (i3.mpr z) c3
    unfold purgeCd
    rw [if_pos ht, if_pos]
    refine ⟨free10.mpr (fun k hk => ?_), Classical.byContradiction fun z => h0 (Or.inl z)⟩
    cases ho : a.op k with
    | false => rfl
    | true => exact absurd (Or.inr ⟨k, hk, ho⟩) h0
  · have ht : timeOk a q := etm.mp (Classical.byContradiction fun z => c2 (if_neg z))
    unfold purgeCd
    rw [if_pos ht, if_neg]
    rintro ⟨z1, z2⟩
    rcases i3.mp c3 with y | ⟨k, k1, k2⟩
    · exact y z2
    · rw [free10.mp z1 k k1] at k2; exact absurd k2 (by decide)
  subst e1; subst e2; subst hw
  by_cases e0 : purgeCd a q = 0
  rotate_left
  · rw [if_neg e0]
    exact nv_fN hb e0 (fun hg => ⟨⟨by rw [rv_I, va_up_self], fun z => absurd z e0⟩, RM_g hb hg (RA_0 hA) (RX_0 hX) hV⟩)
  have hcd : timeOk a q ∧ (∀ c, c < 10 → a.op c = false) ∧ a.mk = [] := by
    unfold purgeCd at e0
    by_cases z : timeOk a q
    · rw [if_pos z] at e0
      by_cases z2 : freeC (fun i => !(a.op i)) = 10 ∧ a.mk = []
      · exact ⟨z, free10.mp z2.1, z2.2⟩
      · rw [if_neg z2] at e0; exact absurd e0 (by decide)
    · rw [if_neg z] at e0; exact absurd e0 (by decide)
  obtain ⟨hti, hop, hmk⟩ := hcd
  rw [e0, if_pos rfl]
  refine nv_f0 hb ?_
  have x0 : RXx a sl (va_up f 0 0) g := RXx_0 hx
  have A0 : RA a.1 (va_up f 0 0) g := RA_0 hA
  have t0 : va_up f 0 0 0 = 0 := va_up_self _ _ _
  generalize va_up f 0 0 = fj at x0 A0 t0 ⊢
  refine n_timeOf hb x0.2.2.1 (fun T hT => ?_)
  have hTm : timeOf a q ≤ a.tm := by
    unfold timeOf
    split
    · exact Int.le_refl _
    · rcases hti with z | z
      · contradiction
      · exact z.2
  generalize timeOf a q = T' at hT hTm ⊢
  refine nv_getI hb ?_
  refine n_joinW (b := b) (fun f2 g2 => g2 = g ∧ f2 0 = 0 ∧ RA a.1 f2 g ∧ RXx (a.w_hz (max a.hz T')) sl f2 g) (fun f2 g2 ⟨e2, t2, A2, x2⟩ => ?_) (fun k k' hk => qv_if (fun c2 => hk _ _ ⟨rfl, t0, A0, ?_⟩) (fun c2 => nv_putI hb (hk _ _ ⟨rfl, by rw [va_up_ne _ _ (by decide)]; exact t0, RA_fr A0 (frM_clo.1 23 (by decide) _ _ _ (frM_rf (WF := [23]) (WA := []))) (by decide) (by decide), ?_⟩)))
  rotate_left
  · simp only [i32] at c2
    rw [hT, x0.2.2.1.2.2.2.1] at c2
    rw [show max a.hz T' = a.hz by omega]
    exact x0
  · simp only [i32] at c2
    rw [hT, x0.2.2.1.2.2.2.1] at c2
    obtain ⟨y1, y2, y3, y4, y5, y6⟩ := x0
    refine ⟨y1, y2, ?_, ?_, y5, ?_⟩
    · show RXs (a.w_hz (max a.hz T')) _
      unfold RXs at y3 ⊢
      refine ⟨by rw [va_up_ne _ _ (by decide)]; exact y3.1, by rw [va_up_ne _ _ (by decide)]; exact y3.2.1, by rw [va_up_ne _ _ (by decide)]; exact y3.2.2.1, ?_, by rw [va_up_ne _ _ (by decide)]; exact y3.2.2.2.2⟩
      rw [va_up_self, hT]
      show T' = max a.hz T'
      omega
    · show RXh a sl _ _
      unfold RXh at y4 ⊢
      rw [va_up_ne _ _ (by decide), va_up_ne _ _ (by decide)]; exact y4
    · show RXo a _ _
      unfold RXo at y6 ⊢
      rw [va_up_ne _ _ (by decide)]; exact y6
  subst e2
  have hsl : ∀ t n, n ∈ a.rw t → sl n < 3000 := fun t n hn => (hF.2.1 t n hn).1
  have hinj : ∀ t t' x x', x ∈ a.rw t → x' ∈ a.rw t' → sl x = sl x' → x = x' := fun t t' x x' h1 h2 => sl_inj hF h1 h2
  have hlen0 := hV.1.2.2.2.2.2.2.1
  have r8 := hV.1.2.2.2.2.2.2.2
  refine n_loopV (fun v f3 g3 => f3 0 = 0 ∧ RA a.1 f3 g3 ∧ ∃ i : Nat, v.2.toInt = (i : Int) ∧ i ≤ 3000 ∧ RXx (leftA a sl (max a.hz T') T' i) sl f3 g3 ∧ v.1.toInt + ((allF (leftA a sl (max a.hz T') T' i)).length : Int) = ((allF a).length : Int)) ⟨t2, A2, 0, by decide, by omega, by rw [left_0]; exact x2, by rw [left_0]; show (0 : Int32).toInt + _ = _; rw [show (0 : Int32).toInt = 0 by decide, Int.zero_add]; rfl⟩ (fun v3 f3 g3 ag ag' ⟨t3, A3, i, i1, i2, x3, n3⟩ hag => ?_)
  refine qv_if (fun c2 => ?_) (fun c2 => ?_)
  · simp only [i32, Int32.reduceToInt] at c2
    have hi : i = 3000 := by omega
    subst hi
    rw [left_end hsl] at x3 n3
    refine fun hg => ⟨⟨by rw [rv_I]; exact t3, fun _ => num_of ?_⟩, RM_g hb hg A3 ⟨sl, x3⟩ (av_purge hV hmk hop hTm)⟩
    have e : allF ((a.w_hz (max a.hz T')).w_rw (fun t => (a.rw t).filter fun n => !(goneB a T' n))) = (allF a).filter fun n => !(goneB a T' n) := by
      show ((List.range 12).flatMap fun t => (a.rw t).filter fun n => !(goneB a T' n)) = ((List.range 12).flatMap a.rw).filter _
      rw [List.filter_flatMap]
    rw [e] at n3
    have := filter_not_len (p := goneB a T') (allF a)
    omega
  · simp only [i32, Int32.reduceToInt] at c2
    refine n_getF hb (by decide) ?_
    refine nv_ald hb (by decide) (by decide) (fun _ => ?_)
    rw [ix_of i1]
    refine n_joinV (b := b) (fun w f4 g4 => f4 0 = 0 ∧ RA a.1 f4 g4 ∧ RXx (leftA a sl (max a.hz T') T' (i + 1)) sl f4 g4 ∧ w.toInt + ((allF (leftA a sl (max a.hz T') T' (i + 1))).length : Int) = ((allF a).length : Int)) (fun w f4 g4 ⟨z1, z2, z3, z4⟩ => hag _ _ _ ⟨z1, z2, i + 1, by show (v3.2 + 1).toInt = _; rw [i_add i1 (show (1 : Int32).toInt = 1 by decide) (by omega)]; omega, by omega, z3, z4⟩) (fun k k' hk => ?_)
    have stay : (∀ t n, n ∈ (leftA a sl (max a.hz T') T' i).rw t → sl n = i → goneB a T' n = false) → k v3.1 (mS b f3 g3) → k' v3.1 (mS b f3 g3) := fun hno => by
      have e := left_same (H := max a.hz T') hno
      exact hk _ _ _ ⟨t3, A3, by rw [e]; exact x3, by rw [e]; exact n3⟩
    refine qv_if (fun c3 => stay (fun t n hn hs => ?_)) (fun c3 => ?_)
    · exact absurd (by rw [hs]; exact c3) (x3.1.2.1 t n hn).2.1
    obtain ⟨t, n, hn, hs⟩ := x3.1.2.2 i (by omega) c3
    have hn' : n ∈ a.rw t := (List.mem_filter.mp hn).1
    have only : goneB a T' n = false → ∀ t1 n1, n1 ∈ (leftA a sl (max a.hz T') T' i).rw t1 → sl n1 = i → goneB a T' n1 = false := fun hg t1 n1 hn1 hs1 => by
      have : n1 = n := hinj _ _ _ _ (List.mem_filter.mp hn1).1 hn' (by rw [hs1, hs])
      rw [this]; exact hg
    have h16 : (g3 16 i).toInt = a.fd n := by rw [← hs]; exact (x3.1.2.1 t n hn).2.2.2.2.2.2
    refine n_getF hb (by decide) ?_
    refine nv_ald hb (by decide) (by decide) (fun _ => ?_)
    rw [ix_of i1]
    refine qv_if (fun c4 => stay (only ?_)) (fun c4 => ?_)
    · simp only [i32, Int32.reduceToInt] at c4
      unfold goneB
      rw [decide_eq_false_iff_not]; omega
    simp only [i32, Int32.reduceToInt] at c4
    refine n_getF hb (by decide) ?_
    refine nv_ald hb (by decide) (by decide) (fun _ => ?_)
    rw [ix_of i1]
    refine qv_if (fun c5 => ?_) (fun c5 => stay (only ?_))
    rotate_left
    · simp only [i32] at c5
      unfold goneB
      rw [decide_eq_false_iff_not]; omega
    simp only [i32] at c5
    have hg : goneB a T' n = true := by unfold goneB; rw [decide_eq_true_eq]; omega
    obtain ⟨L1, L2, eL, -⟩ := mem_split hn
    have htn : inT a t := Classical.byContradiction fun z => by
      rw [hV.1.1 t z] at hn'; exact absurd hn' List.not_mem_nil
    have ht12 : t < 12 := by
      have : (t : Int) < a.tn.toInt := htn
      omega
    have hd' : ∀ t t' x, x ∈ (leftA a sl (max a.hz T') T' i).rw t → x ∈ (leftA a sl (max a.hz T') T' i).rw t' → t = t' := fun t t' x h1 h2 => hV.1.2.1 t t' x (List.mem_filter.mp h1).1 (List.mem_filter.mp h2).1
    have hnd' : ∀ t, ((leftA a sl (max a.hz T') T' i).rw t).Nodup := fun t => (hV.1.2.2.1 t).filter _
    have hndm : (((leftA a sl (max a.hz T') T' i).rw t).map sl).Nodup := List.pairwise_map.mpr ((hnd' t).imp_of_mem (fun h1 h2 hne he => hne (sl_inj x3.1 h1 h2 he)))
    obtain ⟨l1, l2⟩ := x3.1.1 t htn
    rw [eL, List.map_append, List.map_cons, hs] at l1 l2 hndm
    refine n_cut hb (sN := i) (t := t) i1 (by rw [← hs]; exact (x3.1.2.1 t n hn).2.2.1) l1 l2 hndm (fun ar' hc => ?_)
    refine n_getF hb (by decide) ?_
    refine nv_astZ hb (by decide) (by decide) (fun _ => ?_)
    refine nv_getI hb ?_
    refine nv_putI hb ?_
    rw [ix_of i1]
    have ecut := left_cut (H := max a.hz T') hinj hV.1.2.1 hV.1.2.2.1 eL hs hg
    have f5 : frM [20] [11] f3 ar' (va_up f3 20 (f3 20 - 1)) (up2 ar' 11 i 0) := frM_clo.2 11 (by decide) _ _ _ _ (frM_clo.1 20 (by decide) _ _ _ frM_rf)
    have x5 := rx_cut (a := leftA a sl (max a.hz T') T' i) x3 hd' hnd' hmk ht12 eL (by rw [hs]; exact hc) f5 (va_up_self _ _ _) (by rw [up2_at, hs])
    rw [← ecut] at x5
    have hfl := flat_cut (f := (leftA a sl (max a.hz T') T' i).rw) (t := t) (L := L1 ++ L2) (by rw [eL]; simp only [List.length_append, List.length_cons]; omega) List.nodup_range (List.mem_range.mpr ht12)
    have hfl2 : (allF (leftA a sl (max a.hz T') T' i)).length = (allF (leftA a sl (max a.hz T') T' (i + 1))).length + 1 := by
      rw [ecut]; exact hfl
    refine hk _ _ _ ⟨by rw [va_up_ne _ _ (by decide)]; exact t3, ?_, x5, ?_⟩
    · have ej : ∀ j, j = 3 ∨ j = 4 ∨ j = 5 → up2 ar' 11 i 0 j = g3 j := fun j hj => by
        rw [up2_nj (by omega)]; exact hc.1 j (by omega) (by omega) (by omega) (by omega)
      unfold RA
      rw [va_up_ne _ _ (by decide), va_up_ne _ _ (by decide), ej 3 (by decide), ej 4 (by decide), ej 5 (by decide)]
      exact A3
    · rw [i_add rfl (show (1 : Int32).toInt = 1 by decide) (by have := (i_rng v3.1).1; omega)]; omega
end RW1
