set_option linter.unusedVariables false
set_option linter.unusedSimpArgs false
/-! the reference: purge -/
/-- what the cutting of g out of L1 ++ g :: L2 does -/
def CutK (ar ar' : Nat → Nat → Int32) (t g : Nat) (L1 L2 : List Nat) : Prop := (∀ j, j ≠ 17 → j ≠ 18 → j ≠ 7 → j ≠ 8 → ar' j = ar j) ∧ LnK (ar' 18) (ar' 7 t) (L1 ++ L2) ∧ LnK (ar' 17) (ar' 8 t) (L1 ++ L2).reverse ∧ (∀ s, s ∉ L1 ++ L2 → ar' 18 s = ar 18 s ∧ ar' 17 s = ar 17 s) ∧ ∀ t', t' ≠ t → ar' 7 t' = ar 7 t' ∧ ar' 8 t' = ar 8 t'
section RV1
variable {b : MT} {fi : Nat → Int32} {ar : Nat → Nat → Int32} {mo M : Nat} {a : AS} {y : HS} {sl : Nat → Nat} {X X' : String → HS → Prop} {Q Q' : HS → Prop} {QI QI' : Int32 → HS → Prop}
theorem n_joinV {K K' : Int32 → HS → Prop} {B B' : (Int32 → HS → Prop) → Prop} (P : Int32 → (Nat → Int32) → (Nat → Nat → Int32) → Prop) (hK : ∀ v fi ar, P v fi ar → K v (mS b fi ar) → K' v (mS b fi ar)) (hB : ∀ K K' : Int32 → HS → Prop, (∀ v fi ar, P v fi ar → K v (mS b fi ar) → K' v (mS b fi ar)) → B K → B' K') : wJoin K B → wJoin K' B' := fun h => hB K K' hK h
theorem n_joinW {K K' : HS → Prop} {B B' : (HS → Prop) → Prop} (P : (Nat → Int32) → (Nat → Nat → Int32) → Prop) (hK : ∀ fi ar, P fi ar → K (mS b fi ar) → K' (mS b fi ar)) (hB : ∀ K K' : HS → Prop, (∀ fi ar, P fi ar → K (mS b fi ar) → K' (mS b fi ar)) → B K → B' K') : wJoin K B → wJoin K' B' := fun h => hB K K' hK h
theorem n_cut (hb : MB b) {s : Int32} {sN t : Nat} {L1 L2 : List Nat} {K K' : HS → Prop} (hs : s.toInt = (sN : Int)) (ht : (ar 12 sN).toInt = (t : Int)) (h1 : LnK (ar 18) (ar 7 t) (L1 ++ sN :: L2)) (h2 : LnK (ar 17) (ar 8 t) (L1 ++ sN :: L2).reverse) (hn : (L1 ++ sN :: L2).Nodup) (hk : ∀ ar', CutK ar ar' t sN L1 L2 → K (mS b fi ar') → K' (mS b fi ar')) :
    (wGetF (mS b fi ar) 12 17 (some b.o) fun v34 => wAldJ (mS b fi ar) 20 v34 s fun v35 => wJoin (κ := HS → Prop) (fun (x37 : HS) => wGetF x37 12 18 (some b.o) fun v38 => wAldJ x37 20 v38 s fun v39 => wJoin (κ := HS → Prop) K (fun j40 => wIf (0 ≤ v39) (wGetF x37 12 17 (some b.o) fun v46 => wGetF x37 12 18 (some b.o) fun v47 => wAldJ x37 20 v47 s fun v48 => wGetF x37 12 17 (some b.o) fun v49 => wAldJ x37 20 v49 s fun v50 => wAstI x37 v46 v48 v50 fun x51 => j40 x51) (wGetF x37 12 8 (some b.o) fun v52 => wGetF x37 12 12 (some b.o) fun v53 => wAldJ x37 20 v53 s fun v54 => wGetF x37 12 17 (some b.o) fun v55 => wAldJ x37 20 v55 s fun v56 => wAstI x37 v52 v54 v56 fun x57 => j40 x57))) (fun j36 => wIf (0 ≤ v35) (wGetF (mS b fi ar) 12 18 (some b.o) fun v58 => wGetF (mS b fi ar) 12 17 (some b.o) fun v59 => wAldJ (mS b fi ar) 20 v59 s fun v60 => wGetF (mS b fi ar) 12 18 (some b.o) fun v61 => wAldJ (mS b fi ar) 20 v61 s fun v62 => wAstI (mS b fi ar) v58 v60 v62 fun x63 => j36 x63) (wGetF (mS b fi ar) 12 7 (some b.o) fun v64 => wGetF (mS b fi ar) 12 12 (some b.o) fun v65 => wAldJ (mS b fi ar) 20 v65 s fun v66 => wGetF (mS b fi ar) 12 18 (some b.o) fun v67 => wAldJ (mS b fi ar) 20 v67 s fun v68 => wAstI (mS b fi ar) v64 v66 v68 fun x69 => j36 x69))) →
    (wGetF (mS b fi ar) 12 17 (some b.o) fun v34 => wAldJ (mS b fi ar) 20 v34 s fun v35 => wJoin (κ := HS → Prop) (fun (x37 : HS) => wGetF x37 12 18 (some b.o) fun v38 => wAldJ x37 20 v38 s fun v39 => wJoin (κ := HS → Prop) K' (fun j40 => wIf (0 ≤ v39) (wGetF x37 12 17 (some b.o) fun v46 => wGetF x37 12 18 (some b.o) fun v47 => wAldJ x37 20 v47 s fun v48 => wGetF x37 12 17 (some b.o) fun v49 => wAldJ x37 20 v49 s fun v50 => wAstI x37 v46 v48 v50 fun x51 => j40 x51) (wGetF x37 12 8 (some b.o) fun v52 => wGetF x37 12 12 (some b.o) fun v53 => wAldJ x37 20 v53 s fun v54 => wGetF x37 12 17 (some b.o) fun v55 => wAldJ x37 20 v55 s fun v56 => wAstI x37 v52 v54 v56 fun x57 => j40 x57))) (fun j36 => wIf (0 ≤ v35) (wGetF (mS b fi ar) 12 18 (some b.o) fun v58 => wGetF (mS b fi ar) 12 17 (some b.o) fun v59 => wAldJ (mS b fi ar) 20 v59 s fun v60 => wGetF (mS b fi ar) 12 18 (some b.o) fun v61 => wAldJ (mS b fi ar) 20 v61 s fun v62 => wAstI (mS b fi ar) v58 v60 v62 fun x63 => j36 x63) (wGetF (mS b fi ar) 12 7 (some b.o) fun v64 => wGetF (mS b fi ar) 12 12 (some b.o) fun v65 => wAldJ (mS b fi ar) 20 v65 s fun v66 => wGetF (mS b fi ar) 12 18 (some b.o) fun v67 => wAldJ (mS b fi ar) 20 v67 s fun v68 => wAstI (mS b fi ar) v64 v66 v68 fun x69 => j36 x69))) := by
  have his : ix s = sN := ix_of hs
  have hit : ix (ar 12 sN) = t := ix_of ht
  have rv : (L1 ++ sN :: L2).reverse = L2.reverse ++ sN :: L1.reverse := by simp
  have rv0 : (L1 ++ L2).reverse = L2.reverse ++ L1.reverse := by simp
  have hpv := LnK_prev h2
  rw [rv] at h2
  have hn2 : (L2.reverse ++ sN :: L1.reverse).Nodup := by rw [← rv]; exact List.pairwise_reverse.mpr (List.Pairwise.imp (fun z => fun e => z e.symm) hn)
  have c1 := LnK_cut h1 hn
  have c2 := LnK_cut h2 hn2
  have hs1 : sN ∉ L1 ∧ sN ∉ L2 := by
    have := List.nodup_append.mp hn
    exact ⟨fun z => this.2.2 sN z sN List.mem_cons_self rfl, (List.nodup_cons.mp this.2.1).1⟩
  have hnx : LnK (ar 18) (ar 18 sN) L2 := by
    obtain ⟨k, -, z⟩ := LnK_app.mp h1
    exact (LnK_cons.mp z).2
  refine n_getF hb (by decide) ?_
  refine nv_ald hb (by decide) (by decide) (fun _ => ?_)
  rw [his]
  -- the link ahead has been put right: az
  refine n_joinW (b := b) (fun f az => f = fi ∧ (∀ j, j ≠ 18 → j ≠ 7 → az j = ar j) ∧ az 18 sN = ar 18 sN ∧ LnK (az 18) (az 7 t) (L1 ++ L2) ∧ (∀ x, x ∉ L1 ++ L2 → az 18 x = ar 18 x) ∧ ∀ t', t' ≠ t → az 7 t' = ar 7 t') (fun f az ⟨e1, a0, a1, a2, a3, a4⟩ => ?_) (fun k k' hkk => ?_)
  · subst e1
    refine n_getF hb (by decide) ?_
    refine nv_ald hb (by decide) (by decide) (fun _ => ?_)
    rw [his, a1]
    dsimp only [wJoin]
    rcases L2 with _ | ⟨p, L2'⟩
    · have hm := LnK_nil.mp hnx
      refine qv_if (fun c => ?_) (fun _ => ?_)
      · simp only [i32, Int32.reduceToInt] at c; omega
      · refine n_getF hb (by decide) ?_
        refine n_getF hb (by decide) ?_
        refine nv_ald hb (by decide) (by decide) (fun _ => ?_)
        refine n_getF hb (by decide) ?_
        refine nv_ald hb (by decide) (by decide) (fun _ => ?_)
        refine nv_astI hb (by decide) (by decide) (fun _ => ?_)
        rw [his, a0 12 (by decide) (by decide), a0 17 (by decide) (by decide), hit]
        refine hk _ ⟨fun j j1 j2 j3 j4 => by rw [up2_nj j4]; exact a0 j j2 j3, ?_, ?_, fun x hx => ?_, fun t' ht' => ?_⟩
        · rw [up2_nj (by decide), up2_nj (by decide)]; exact a2
        · rw [up2_nj (by decide), up2_at, va_up_self, a0 17 (by decide) (by decide), rv0]
          exact c2.1 rfl
        · rw [up2_nj (by decide), up2_nj (by decide), a0 17 (by decide) (by decide)]
          exact ⟨a3 x hx, rfl⟩
        · rw [up2_nj (by decide), up2_at, va_up_ne _ _ ht', a0 8 (by decide) (by decide)]
          exact ⟨a4 t' ht', rfl⟩
    · have hp := (LnK_cons.mp hnx).1
      refine qv_if (fun _ => ?_) (fun c => ?_)
      · refine n_getF hb (by decide) ?_
        refine n_getF hb (by decide) ?_
        refine nv_ald hb (by decide) (by decide) (fun _ => ?_)
        refine n_getF hb (by decide) ?_
        refine nv_ald hb (by decide) (by decide) (fun _ => ?_)
        refine nv_astI hb (by decide) (by decide) (fun _ => ?_)
        rw [his, a1, ix_of hp, a0 17 (by decide) (by decide)]
        refine hk _ ⟨fun j j1 j2 j3 j4 => by rw [up2_nj j1]; exact a0 j j2 j3, ?_, ?_, fun x hx => ?_, fun t' ht' => ?_⟩
        · rw [up2_nj (by decide), up2_nj (by decide)]; exact a2
        · rw [up2_at, up2_nj (by decide), a0 17 (by decide) (by decide), a0 8 (by decide) (by decide), rv0]
          exact c2.2 L2'.reverse p (by simp)
        · rw [up2_nj (by decide), up2_at, a0 17 (by decide) (by decide)]
          exact ⟨a3 x hx, va_up_ne _ _ (fun z => hx (by rw [z]; exact List.mem_append_right _ List.mem_cons_self))⟩
        · rw [up2_nj (by decide), up2_nj (by decide), a0 8 (by decide) (by decide)]
          exact ⟨a4 t' ht', rfl⟩
      · simp only [i32, Int32.reduceToInt] at c; omega
  · rcases nil_or_end L1 with e | ⟨L, p, e⟩
    · have hm := hpv.1 e
      refine qv_if (fun c => ?_) (fun _ => ?_)
      · simp only [i32, Int32.reduceToInt] at c; omega
      · refine n_getF hb (by decide) ?_
        refine n_getF hb (by decide) ?_
        refine nv_ald hb (by decide) (by decide) (fun _ => ?_)
        refine n_getF hb (by decide) ?_
        refine nv_ald hb (by decide) (by decide) (fun _ => ?_)
        refine nv_astI hb (by decide) (by decide) (fun _ => ?_)
        rw [his, hit]
        refine hkk _ _ ⟨rfl, fun j j1 j2 => up2_nj j2, by rw [up2_nj (by decide)], ?_, fun x _ => by rw [up2_nj (by decide)], fun t' ht' => by rw [up2_at, va_up_ne _ _ ht']⟩
        rw [up2_nj (by decide), up2_at, va_up_self, e, List.nil_append]
        exact c1.1 e
    · have hm := hpv.2 L p e
      refine qv_if (fun _ => ?_) (fun c => ?_)
      · refine n_getF hb (by decide) ?_
        refine n_getF hb (by decide) ?_
        refine nv_ald hb (by decide) (by decide) (fun _ => ?_)
        refine n_getF hb (by decide) ?_
        refine nv_ald hb (by decide) (by decide) (fun _ => ?_)
        refine nv_astI hb (by decide) (by decide) (fun _ => ?_)
        rw [his, ix_of hm]
        have hpm : p ∈ L1 := by rw [e]; exact List.mem_append_right _ (List.mem_singleton.mpr rfl)
        refine hkk _ _ ⟨rfl, fun j j1 j2 => up2_nj j1, ?_, ?_, fun x hx => ?_, fun t' ht' => by rw [up2_nj (by decide)]⟩
        · rw [up2_at, va_up_ne _ _ (fun z => hs1.1 (by rw [z]; exact hpm))]
        · rw [up2_at, up2_nj (by decide)]
          exact c1.2 L p e
        · rw [up2_at, va_up_ne _ _ (fun z => hx (by rw [z]; exact List.mem_append_left _ hpm))]
      · simp only [i32, Int32.reduceToInt] at c; omega
theorem flat_cut {f : Nat → List Nat} {t : Nat} {L : List Nat} (hl : (f t).length = L.length + 1) {R : List Nat} (hn : R.Nodup) (ht : t ∈ R) : (R.flatMap f).length = (R.flatMap (va_up f t L)).length + 1 := by
  have e : va_up (va_up f t L) t (f t) = f := by rw [va_twice]; exact va_same f t
  have := flat_len (f := va_up f t L) (t := t) (L := f t) (by rw [va_up_self]; exact hl) hn ht
  rw [e] at this; exact this
/-- the reference, when a fact has been taken out -/
theorem rx_cut (hx : RXx a sl fi ar) (hd : ∀ t t' n, n ∈ a.rw t → n ∈ a.rw t' → t = t') (hnd : ∀ t, (a.rw t).Nodup) (hmk : a.mk = []) {t n : Nat} (ht : t < 12) {L1 L2 : List Nat} (hL : a.rw t = L1 ++ n :: L2) {ar1 : Nat → Nat → Int32} (hc : CutK ar ar1 t (sl n) (L1.map sl) (L2.map sl)) {fz : Nat → Int32} {az : Nat → Nat → Int32} (hf : frM [20] [11] fi ar1 fz az) (h20 : fz 20 = fi 20 - 1) (h11 : az 11 = va_up (ar1 11) (sl n) 0) : RXx (a.w_rw (va_up a.rw t (L1 ++ L2))) sl fz az := by
  obtain ⟨hF, hK, hS, hH, hC, hO⟩ := hx
  obtain ⟨k1, k2, k3, k4, k5⟩ := hc
  have hnr : n ∈ a.rw t := by rw [hL]; exact List.mem_append_right _ List.mem_cons_self
  have hn12 : n ∉ L1 ++ L2 := fun z => by
    have h1 := hnd t
    rw [hL] at h1
    have h2 := List.nodup_append.mp h1
    rcases List.mem_append.mp z with z | z
    · exact h2.2.2 n z n List.mem_cons_self rfl
    · exact (List.nodup_cons.mp h2.2.1).1 z
  have mem' : ∀ t1 x, x ∈ va_up a.rw t (L1 ++ L2) t1 → x ∈ a.rw t1 ∧ x ≠ n := fun t1 x hx' => by
    by_cases e : t1 = t
    · subst e
      rw [va_up_self] at hx'
      refine ⟨?_, fun z => hn12 (by rw [← z]; exact hx')⟩
      rw [hL]
      rcases List.mem_append.mp hx' with z | z
      · exact List.mem_append_left _ z
      · exact List.mem_append_right _ (List.mem_cons_of_mem _ z)
    · rw [va_up_ne _ _ e] at hx'
      exact ⟨hx', fun z => e (hd _ _ _ hx' (by rw [z]; exact hnr))⟩
  have lo : ∀ j, j ≠ 11 → j ≠ 17 → j ≠ 18 → j ≠ 7 → j ≠ 8 → az j = ar j := fun j j0 j1 j2 j3 j4 => (hf.2 j (by simpa using j0)).trans (k1 j j1 j2 j3 j4)
  have l1 : ∀ j, j ≠ 11 → az j = ar1 j := fun j j0 => hf.2 j (by simpa using j0)
  have e11 : az 11 = va_up (ar 11) (sl n) 0 := by rw [h11, k1 11 (by decide) (by decide) (by decide) (by decide)]
  refine ⟨⟨fun t1 ht1 => ?_, fun t1 x hx' => ?_, fun z hz hzu => ?_⟩, fun t1 ht1 => ?_, ?_, ⟨?_, ?_, fun hm => absurd hmk hm⟩, ?_, ?_⟩
  · have ht1 : inT a t1 := ht1
    show LnK (az 18) (az 7 t1) ((va_up a.rw t (L1 ++ L2) t1).map sl) ∧ LnK (az 17) (az 8 t1) ((va_up a.rw t (L1 ++ L2) t1).map sl).reverse
    rw [l1 18 (by decide), l1 7 (by decide), l1 17 (by decide), l1 8 (by decide)]
    by_cases e : t1 = t
    · subst e
      rw [va_up_self, List.map_append]
      exact ⟨k2, k3⟩
    · rw [va_up_ne _ _ e, (k5 t1 e).1, (k5 t1 e).2]
      obtain ⟨z1, z2⟩ := hF.1 t1 ht1
      have nin : ∀ x, x ∈ (a.rw t1).map sl → x ∉ L1.map sl ++ L2.map sl := fun x hx' y => by
        obtain ⟨m, hm, rfl⟩ := List.mem_map.mp hx'
        rw [← List.map_append] at y
        obtain ⟨m', hm', e'⟩ := List.mem_map.mp y
        have hm2 := (mem' t m' (by rw [va_up_self]; exact hm')).1
        have := sl_inj hF hm2 hm e'
        subst this
        exact e (hd _ _ _ hm hm2)
      exact ⟨LnK_congr (fun x hx' => (k4 x (nin x hx')).1) z1, LnK_congr (fun x hx' => (k4 x (nin x (List.mem_reverse.mp hx'))).2) z2⟩
  · obtain ⟨m1, m2⟩ := mem' t1 x hx'
    have q := hF.2.1 t1 x m1
    show RF1 a sl az t1 x
    unfold RF1 at q ⊢
    rw [lo 12 (by decide) (by decide) (by decide) (by decide) (by decide), lo 13 (by decide) (by decide) (by decide) (by decide) (by decide), lo 14 (by decide) (by decide) (by decide) (by decide) (by decide), lo 15 (by decide) (by decide) (by decide) (by decide) (by decide), lo 16 (by decide) (by decide) (by decide) (by decide) (by decide), e11, va_up_ne _ _ (fun z => m2 (sl_inj hF m1 hnr z))]
    exact q
  · rw [e11] at hzu
    by_cases e : z = sl n
    · rw [e, va_up_self] at hzu; exact absurd rfl hzu
    · rw [va_up_ne _ _ e] at hzu
      obtain ⟨t1, x, p1, p2⟩ := hF.2.2 z hz hzu
      refine ⟨t1, x, ?_, p2⟩
      show x ∈ va_up a.rw t (L1 ++ L2) t1
      have hxn : x ≠ n := fun y => e (by rw [← p2, y])
      by_cases e' : t1 = t
      · subst e'
        rw [va_up_self]
        rw [hL] at p1
        rcases List.mem_append.mp p1 with y | y
        · exact List.mem_append_left _ y
        · exact List.mem_append_right _ ((List.mem_cons.mp y).resolve_left hxn)
      · rw [va_up_ne _ _ e']; exact p1
  · rw [lo 6 (by decide) (by decide) (by decide) (by decide) (by decide), lo 9 (by decide) (by decide) (by decide) (by decide) (by decide)]
    exact hK t1 ht1
  · have hfl := flat_cut (f := a.rw) (t := t) (L := L1 ++ L2) (by rw [hL]; simp only [List.length_append, List.length_cons]; omega) List.nodup_range (List.mem_range.mpr ht)
    have hS1 := hS.1
    have hS1' : (fi 20).toInt = (((List.range 12).flatMap a.rw).length : Int) := hS1
    show (fz 20).toInt = (((List.range 12).flatMap (va_up a.rw t (L1 ++ L2))).length : Int) ∧ (fz 21).toInt = (a.nn : Int) ∧ (fz 22).toInt = a.tm ∧ (fz 23).toInt = a.hz ∧ fz 39 = 0
    rw [h20, hf.1 21 (by decide), hf.1 22 (by decide), hf.1 23 (by decide), hf.1 39 (by decide), i_sub hS1' (show (1 : Int32).toInt = 1 by decide) (by have := (i_rng (fi 20)).2; omega)]
    exact ⟨by omega, hS.2⟩
  · rw [hf.1 27 (by decide)]; exact hH.1
  · rw [lo 26 (by decide) (by decide) (by decide) (by decide) (by decide)]; exact hH.2.1
  · show RXc a sl az
    unfold RXc at hC ⊢
    rw [lo 28 (by decide) (by decide) (by decide) (by decide) (by decide), lo 29 (by decide) (by decide) (by decide) (by decide) (by decide), lo 30 (by decide) (by decide) (by decide) (by decide) (by decide), lo 31 (by decide) (by decide) (by decide) (by decide) (by decide), lo 32 (by decide) (by decide) (by decide) (by decide) (by decide), lo 33 (by decide) (by decide) (by decide) (by decide) (by decide), lo 34 (by decide) (by decide) (by decide) (by decide) (by decide), lo 35 (by decide) (by decide) (by decide) (by decide) (by decide)]
    exact hC
  · show RXo a fz az
    unfold RXo at hO ⊢
    rw [hf.1 37 (by decide), lo 36 (by decide) (by decide) (by decide) (by decide) (by decide)]; exact hO
end RV1
