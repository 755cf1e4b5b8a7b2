set_option linter.unusedVariables false
set_option linter.unusedSimpArgs false
/-! the reference: key -/
theorem shl_co {c : Int32} (h : 1 ≤ c.toInt ∧ c.toInt ≤ 4) : ((1 : Int32) <<< (c &&& 31)).toInt = 2 ^ c.toInt.toNat := by
  have h1 : c.toInt = 1 ∨ c.toInt = 2 ∨ c.toInt = 3 ∨ c.toInt = 4 := by omega
  have h2 : c = 1 ∨ c = 2 ∨ c = 3 ∨ c = 4 := by
    rcases h1 with z | z | z | z
    · exact Or.inl (i_ext (by rw [z]; decide))
    · exact Or.inr (Or.inl (i_ext (by rw [z]; decide)))
    · exact Or.inr (Or.inr (Or.inl (i_ext (by rw [z]; decide))))
    · exact Or.inr (Or.inr (Or.inr (i_ext (by rw [z]; decide))))
  rcases h2 with rfl | rfl | rfl | rfl <;> decide
def likeS (ar : Nat → Nat → Int32) (f g : Nat) (m : Int32) : Bool := (List.range 4).all fun k => !(bitm m k) || ar 13 (4 * f + k) == ar 13 (4 * g + k)
section RU1
variable {b : MT} {fi : Nat → Int32} {ar : Nat → Nat → Int32} {mo M : Nat} {a : AS} {y : HS} {sl : Nat → Nat} {X X' : String → HS → Prop} {Q Q' : HS → Prop} {QI QI' : Int32 → HS → Prop}
theorem n_alike (hb : MB b) {f g m : Int32} {F G' : Nat} (hf : f.toInt = (F : Int)) (hg : g.toInt = (G' : Int)) (hF : F < 3000) (hG : G' < 3000) (h : QI (if likeS ar F G' m then 1 else 0) (mS b fi ar) → QI' (if likeS ar F G' m then 1 else 0) (mS b fi ar)) : w_X12_alike (some b.o) f g m (mS b fi ar) QI X → w_X12_alike (some b.o) f g m (mS b fi ar) QI' X' := by
  unfold w_X12_alike
  refine n_loopV (fun v fi' ar' => fi' = fi ∧ ar' = ar ∧ ∃ i : Nat, v.toInt = (i : Int) ∧ i ≤ 4 ∧ ∀ k, k < i → (!(bitm m k) || ar 13 (4 * F + k) == ar 13 (4 * G' + k)) = true) ⟨rfl, rfl, 0, by decide, by omega, fun k hk => absurd hk (by omega)⟩ (fun v fi' ar' again again' ⟨e1, e2, i, i1, i2, i3⟩ ha => ?_)
  subst e1; subst e2
  refine qv_if (fun c => ?_) (fun c => ?_)
  · simp only [i32, Int32.reduceToInt] at c
    have : likeS ar' F G' m = true := range_all.mpr (fun k hk => i3 k (by omega))
    rw [this] at h
    exact q_bit h
  · simp only [i32, Int32.reduceToInt] at c
    have hv : (v + 1).toInt = ((i + 1 : Nat) : Int) := by rw [i_add i1 (show (1 : Int32).toInt = 1 by decide) (by omega)]; omega
    have go : (!(bitm m i) || ar' 13 (4 * F + i) == ar' 13 (4 * G' + i)) = true → again (v + 1) (mS b fi' ar') → again' (v + 1) (mS b fi' ar') := fun hok => ha _ _ _ ⟨rfl, rfl, i + 1, hv, by omega, fun k hk => by
      by_cases e : k = i
      · rw [e]; exact hok
      · exact i3 k (by omega)⟩
    dsimp only [wJoin]
    refine qv_if (fun c2 => ?_) (fun c2 => go ?_)
    · have hb1 := (bitm_iff i1).mp c2
      have e4 : ((4 : Int32) * f + v).toInt = ((4 * F + i : Nat) : Int) := by
        rw [i_add (i_mul (show (4 : Int32).toInt = 4 by decide) hf (by omega)) i1 (by omega)]; omega
      have e5 : ((4 : Int32) * g + v).toInt = ((4 * G' + i : Nat) : Int) := by
        rw [i_add (i_mul (show (4 : Int32).toInt = 4 by decide) hg (by omega)) i1 (by omega)]; omega
      refine n_getF hb (by decide) ?_
      refine nv_ald hb (by decide) (by decide) (fun _ => ?_)
      refine n_getF hb (by decide) ?_
      refine nv_ald hb (by decide) (by decide) (fun _ => ?_)
      rw [ix_of e4, ix_of e5]
      refine qv_if (fun c3 => go ?_) (fun c3 => ?_)
      · rw [c3]; simp
      · have : likeS ar' F G' m = false := by
          rw [Bool.eq_false_iff]
          intro z
          have := range_all.mp z i (by omega)
          simp [hb1, c3] at this
        rw [this] at h
        exact q_bit h
    · have : bitm m i = false := by rw [Bool.eq_false_iff]; exact fun z => c2 ((bitm_iff i1).mpr z)
      simp [this]
theorem like_sl (hF : RXf a sl ar) {t n g : Nat} (hn : n ∈ a.rw t) (hg : g ∈ a.rw t) {m : Int32} : likeS ar (sl n) (sl g) m = likeB a m n g := by
  have h1 := (hF.2.1 t n hn).2.2.2.1
  have h2 := (hF.2.1 t g hg).2.2.2.1
  unfold likeS likeB
  rw [Bool.eq_iff_iff, range_all, range_all]
  refine forall_congr' (fun k => forall_congr' (fun hk => ?_))
  rw [h1 k hk, h2 k hk]
theorem rx_key (hx : RXx a sl fi ar) (hV : AV a) {t : Nat} (ht : inT a t) {m : Int32} (hl : (a.ky t).length < 3) {az : Nat → Nat → Int32} (hf : frM [] [6, 9] fi ar fi az) (e6 : az 6 = va_up (ar 6) t (ar 6 t + 1)) (e9 : az 9 = va_up (ar 9) (3 * t + (a.ky t).length) m) : RXx (a.w_ky (va_up a.ky t (a.ky t ++ [m]))) sl fi az := by
  obtain ⟨hF, hK, hS, hH, hC, hO⟩ := hx
  refine ⟨⟨?_, ?_, ?_⟩, fun t1 ht1 => ?_, hS, ?_, ?_, ?_⟩
  · rw [hf.2 18 (by decide), hf.2 7 (by decide), hf.2 17 (by decide), hf.2 8 (by decide)]; exact hF.1
  · show ∀ t n, n ∈ a.rw t → RF1 a sl az t n
    unfold RF1
    rw [hf.2 11 (by decide), hf.2 12 (by decide), hf.2 13 (by decide), hf.2 14 (by decide), hf.2 15 (by decide), hf.2 16 (by decide)]
    exact hF.2.1
  · rw [hf.2 11 (by decide)]; exact hF.2.2
  · have ht1 : inT a t1 := ht1
    show (az 6 t1).toInt = ((va_up a.ky t (a.ky t ++ [m]) t1).length : Int) ∧ ∀ (i : Nat) (m' : Int32), (va_up a.ky t (a.ky t ++ [m]) t1)[i]? = some m' → az 9 (3 * t1 + i) = m'
    obtain ⟨kl, kk⟩ := hK t1 ht1
    rw [e6, e9]
    by_cases e : t1 = t
    · subst e
      rw [va_up_self, va_up_self]
      refine ⟨by rw [i_add kl (show (1 : Int32).toInt = 1 by decide) (by omega), List.length_append]; simp, fun i m' hm => ?_⟩
      by_cases hi : i < (a.ky t1).length
      · rw [List.getElem?_append_left hi] at hm
        rw [va_up_ne _ _ (by omega)]; exact kk i m' hm
      · have hi2 : i = (a.ky t1).length := by
          have := (List.getElem?_eq_some_iff.mp hm).1
          simp at this; omega
        subst hi2
        simp at hm
        rw [va_up_self]; exact hm
    · rw [va_up_ne _ _ e, va_up_ne _ _ e]
      refine ⟨kl, fun i m' hm => ?_⟩
      have h1 := (List.getElem?_eq_some_iff.mp hm).1
      have h2 := (hV.2.1.2 t1 ht1).1
      rw [va_up_ne _ _ (by omega)]; exact kk i m' hm
  · show RXh a sl fi az
    unfold RXh at hH ⊢
    rw [hf.2 26 (by decide), hf.2 24 (by decide), hf.2 19 (by decide)]; exact hH
  · show RXc a sl az
    unfold RXc at hC ⊢
    rw [hf.2 28 (by decide), hf.2 29 (by decide), hf.2 30 (by decide), hf.2 31 (by decide), hf.2 32 (by decide), hf.2 33 (by decide), hf.2 34 (by decide), hf.2 35 (by decide)]; exact hC
  · show RXo a fi az
    unfold RXo at hO ⊢
    rw [hf.2 36 (by decide)]; exact hO
theorem av_key (hV : AV a) {t : Nat} (ht : inT a t) {m : Int32} (hl : (a.ky t).length < 3) (hm : 1 ≤ m.toInt ∧ m.toInt < 2 ^ (a.co t).toInt.toNat) : AV (a.w_ky (va_up a.ky t (a.ky t ++ [m]))) := by
  obtain ⟨hr, ⟨k1, k2⟩, hh, hc, ho⟩ := hV
  refine ⟨hr, ⟨fun t1 ht1 => ?_, fun t1 ht1 => ?_⟩, hh, hc, ho⟩
  · have ht1 : ¬ inT a t1 := ht1
    show va_up a.ky t (a.ky t ++ [m]) t1 = []
    rw [va_up_ne _ _ (fun z => ht1 (by rw [z]; exact ht))]; exact k1 t1 ht1
  · have ht1 : inT a t1 := ht1
    show (va_up a.ky t (a.ky t ++ [m]) t1).length ≤ 3 ∧ (1 ≤ (a.co t1).toInt ∧ (a.co t1).toInt ≤ 4) ∧ ∀ m', m' ∈ va_up a.ky t (a.ky t ++ [m]) t1 → 1 ≤ m'.toInt ∧ m'.toInt < 2 ^ (a.co t1).toInt.toNat
    by_cases e : t1 = t
    · subst e
      rw [va_up_self]
      refine ⟨by rw [List.length_append]; simp only [List.length_cons, List.length_nil]; omega, (k2 t1 ht1).2.1, fun m' hm' => ?_⟩
      rcases List.mem_append.mp hm' with z | z
      · exact (k2 t1 ht1).2.2 m' z
      · rw [List.mem_singleton.mp z]; exact hm
    · rw [va_up_ne _ _ e]; exact k2 t1 ht1
theorem rc_key (h : RM mo M a y) (hM : M < 300000) (t m : Int32) : w_X12_key (some mo) t m y (fun r u => OK_key a t m (u.I mo 0) r ∧ RM mo (M + 1) (nx_key a t m) u) X := by
  obtain ⟨b, fi, ar, hb, rfl, rfl, hG, hA, hX, hV⟩ := h
  have h := t_key (X := X) hb hG RG_ok t m
  revert h
  obtain ⟨sl, hx⟩ := id hX
  have hx : RXx a sl fi ar := hx
  unfold w_X12_key OK_key nx_key
  have same : ∀ (fk : Nat → Int32), ¬ keyNew a t m → RA a.1 fk ar → RXx a sl fk ar → RG b M (ar 3) (mS b fk ar) → True ∧ RM b.o (M + 1) (if keyNew a t m then a.w_ky (va_up a.ky (ix t) (a.ky (ix t) ++ [m])) else a) (mS b fk ar) := fun fk c hA' hx' hg => by
    rw [if_neg c]
    exact ⟨trivial, RM_g hb hg hA' ⟨sl, hx'⟩ hV⟩
  dsimp only [wJoin]
  refine n_isT hb hA (fun c => nv_fN hb (by decide) (same _ (fun z => c z.1) (RA_0 hA) (RXx_0 hx))) (fun ht => ?_)
  have hti := tab_in ht
  have htt : t.toInt = ((ix t : Nat) : Int) := (ix_int ht.1).symm
  have r8 := hV.1.2.2.2.2.2.2.2
  obtain ⟨klen, kco, -⟩ := hV.2.1.2 _ hti
  refine qv_if (fun c => nv_fN hb (by decide) (same _ (fun z => ?_) (RA_0 hA) (RXx_0 hx))) (fun c => ?_)
  · simp only [i32, Int32.reduceToInt] at c
    have := z.2.1.1; omega
  simp only [i32, Int32.reduceToInt] at c
  refine n_getF hb (by decide) ?_
  refine nv_ald hb (by decide) (by decide) (fun _ => ?_)
  rw [(hA.2.2.2 _ hti).1]
  have hsh := shl_co kco
  refine qv_if (fun c2 => ?_) (fun c2 => nv_fN hb (by decide) (same _ (fun z => ?_) (RA_0 hA) (RXx_0 hx)))
  rotate_left
  · simp only [i32] at c2
    rw [hsh] at c2
    exact c2 z.2.1.2
  simp only [i32] at c2
  rw [hsh] at c2
  have hm : 1 ≤ m.toInt ∧ m.toInt < 2 ^ (a.co (ix t)).toInt.toNat := ⟨by omega, c2⟩
  refine nv_f0 hb ?_
  have x0 : RXx a sl (va_up fi 0 0) ar := RXx_0 hx
  have A0 : RA a.1 (va_up fi 0 0) ar := RA_0 hA
  generalize va_up fi 0 0 = fj at x0 A0 ⊢
  obtain ⟨hF, hK, hS, hH, hC, hO⟩ := id x0
  obtain ⟨kl, kk⟩ := hK _ hti
  have hL := (hF.1 _ hti).1
  refine n_loopV (fun v fi' ar' => fi' = fj ∧ ar' = ar ∧ ∃ i : Nat, v.toInt = (i : Int) ∧ i ≤ (a.ky (ix t)).length ∧ ∀ k, k < i → (a.ky (ix t))[k]? ≠ some m) ⟨rfl, rfl, 0, by decide, by omega, fun k hk => absurd hk (by omega)⟩ (fun v fi' ar' again again' ⟨e1, e2, i, i1, i2, i3⟩ ha => ?_)
  subst e1; subst e2
  refine n_getF hb (by decide) ?_
  refine nv_ald hb (by decide) (by decide) (fun _ => ?_)
  refine qv_if (fun c3 => ?_) (fun c3 => ?_)
  · -- a mask that is new
    simp only [i32] at c3
    have hnew : m ∉ a.ky (ix t) := fun z => by
      obtain ⟨k, hk, e⟩ := List.mem_iff_getElem.mp z
      exact i3 k (by omega) (by rw [List.getElem?_eq_getElem hk, e])
    refine n_getF hb (by decide) ?_
    refine nv_ald hb (by decide) (by decide) (fun _ => ?_)
    refine n_loopV (fun v fi2 ar2 => fi2 = fi' ∧ ar2 = ar' ∧ ∃ S, LnK (ar' 18) v.2 (S.map sl) ∧ (∀ x, x ∈ S → x ∈ a.rw (ix t)) ∧ ((v.1 ≠ 0 ∨ twinB a m S = true) ↔ twinB a m (a.rw (ix t)) = true)) ⟨rfl, rfl, a.rw (ix t), hL, fun x hx' => hx', by simp⟩ (fun v2 fi2 ar2 ag ag' ⟨e1, e2, S, s1, s2, s3⟩ hag => ?_)
    subst e1; subst e2
    refine qv_if (fun c4 => ?_) (fun c4 => ?_)
    · simp only [i32, Int32.reduceToInt] at c4
      have hS0 : S = [] := List.map_eq_nil_iff.mp (LnK_neg s1 c4)
      rw [hS0] at s3
      refine qv_if (fun c5 => ?_) (fun c5 => nv_fN hb (by decide) (same _ (fun z => ?_) (RA_0 A0) (RXx_0 x0)))
      rotate_left
      · have := s3.mp (Or.inl c5)
        rw [z.2.2.2.1] at this
        exact absurd this (by decide)
      have htw : twinB a m (a.rw (ix t)) = false := by
        rw [Bool.eq_false_iff]
        exact fun z => (s3.mpr z).elim (fun y => y c5) (fun y => by simp [twinB] at y)
      refine n_getF hb (by decide) ?_
      refine nv_ald hb (by decide) (by decide) (fun _ => ?_)
      refine qv_if (fun c6 => nv_fN hb (by decide) (same _ (fun z => ?_) (RA_0 A0) (RXx_0 x0))) (fun c6 => ?_)
      · have h6 := z.2.2.2.2
        rw [c6] at kl
        have : (3 : Int32).toInt = 3 := by decide
        omega
      have hl3 : (a.ky (ix t)).length < 3 := by
        have : (a.ky (ix t)).length ≠ 3 := fun z => c6 (i_ext (by rw [kl, z]; decide))
        omega
      rw [if_pos (show keyNew a t m from ⟨ht, hm, hnew, htw, hl3⟩)]
      refine nv_f0 hb ?_
      have x1 : RXx a sl (va_up fi2 0 0) ar2 := RXx_0 x0
      have A1' : RA a.1 (va_up fi2 0 0) ar2 := RA_0 A0
      generalize va_up fi2 0 0 = fk at x1 A1' ⊢
      refine n_getF hb (by decide) ?_
      refine n_getF hb (by decide) ?_
      refine nv_ald hb (by decide) (by decide) (fun _ => ?_)
      refine nv_astI hb (by decide) (by decide) (fun _ => ?_)
      have e9 : ((3 : Int32) * t + ar2 6 (ix t)).toInt = ((3 * ix t + (a.ky (ix t)).length : Nat) : Int) := by
        rw [i_add (i_mul (show (3 : Int32).toInt = 3 by decide) htt (by have := ht.2; omega)) kl (by have := ht.2; omega)]; omega
      rw [ix_of e9]
      refine n_getF hb (by decide) ?_
      refine nv_ald hb (by decide) (by decide) (fun _ => ?_)
      refine nv_astI hb (by decide) (by decide) (fun _ hg => ?_)
      have f1 : frM [] [6, 9] fk ar2 fk (up2 (up2 ar2 9 (3 * ix t + (a.ky (ix t)).length) m) 6 (ix t) (up2 ar2 9 (3 * ix t + (a.ky (ix t)).length) m 6 (ix t) + 1)) := frM_clo.2 6 (by decide) _ _ _ _ (frM_clo.2 9 (by decide) _ _ _ _ frM_rf)
      refine ⟨trivial, RM_g hb hg (RA_fr A1' f1 (by decide) (by decide)) ⟨sl, rx_key x1 hV hti hl3 f1 ?_ ?_⟩ (av_key hV hti hl3 hm)⟩
      · simp only [up2_nj, up2_at, ne_eq, Nat.reduceEqDiff, not_false_eq_true]
      · simp only [up2_nj, up2_at, ne_eq, Nat.reduceEqDiff, not_false_eq_true]
    · simp only [i32, Int32.reduceToInt] at c4
      obtain ⟨L', e, l4⟩ := LnK_pos s1 (by omega)
      cases S with
      | nil => simp at e
      | cons n S =>
        rw [List.map_cons] at e
        have en : ix v2.2 = sl n := (List.cons.inj e).1.symm
        have eL : L' = S.map sl := (List.cons.inj e).2.symm
        subst eL
        have hn : n ∈ a.rw (ix t) := s2 n List.mem_cons_self
        have hsn := (hF.2.1 _ n hn).1
        have hv2 : v2.2.toInt = (sl n : Int) := by rw [← en]; exact (ix_int (by omega)).symm
        refine n_getF hb (by decide) ?_
        refine nv_ald hb (by decide) (by decide) (fun _ => ?_)
        refine n_loopV (fun w fi3 ar3 => fi3 = fi2 ∧ ar3 = ar2 ∧ w.2.1 = v2.2 ∧ ∃ S2, LnK (ar2 18) w.2.2 (S2.map sl) ∧ (∀ x, x ∈ S2 → x ∈ a.rw (ix t)) ∧ ((w.1 ≠ 0 ∨ (aliveB a n && S2.any (fun g => aliveB a g && likeB a m n g)) = true) ↔ (v2.1 ≠ 0 ∨ (aliveB a n && S.any (fun g => aliveB a g && likeB a m n g)) = true))) ⟨rfl, rfl, rfl, S, l4, fun x hx' => s2 x (List.mem_cons_of_mem _ hx'), Iff.rfl⟩ (fun w fi3 ar3 ah ah' ⟨e1, e2, e3, S2, p1, p2, p3⟩ hah => ?_)
        subst e1; subst e2
        rw [e3]
        have out : (w.1 ≠ 0 ↔ (v2.1 ≠ 0 ∨ (aliveB a n && S.any (fun g => aliveB a g && likeB a m n g)) = true)) → (wGetF (mS b fi3 ar3) 12 18 (some b.o) fun v42 => wAldJ (mS b fi3 ar3) 20 v42 v2.2 fun v43 => ag (w.1, v43) (mS b fi3 ar3)) → (wGetF (mS b fi3 ar3) 12 18 (some b.o) fun v42 => wAldJ (mS b fi3 ar3) 20 v42 v2.2 fun v43 => ag' (w.1, v43) (mS b fi3 ar3)) := fun hd => n_getF hb (by decide) (nv_ald hb (by decide) (by decide) (fun _ => hag _ _ _ ⟨rfl, rfl, S, l4, fun x hx' => s2 x (List.mem_cons_of_mem _ hx'), by
          show (w.1 ≠ 0 ∨ _) ↔ _
          rw [hd, ← s3]
          simp only [twinB, Bool.or_eq_true]
          exact or_assoc⟩))
        refine qv_if (fun c5 => out ?_) (fun c5 => ?_)
        · simp only [i32, Int32.reduceToInt] at c5
          have h0 : S2 = [] := List.map_eq_nil_iff.mp (LnK_neg p1 c5)
          rw [← p3, h0]; simp
        · simp only [i32, Int32.reduceToInt] at c5
          obtain ⟨L2', e', l5⟩ := LnK_pos p1 (by omega)
          cases S2 with
          | nil => simp at e'
          | cons g S2 =>
            rw [List.map_cons] at e'
            have eg : ix w.2.2 = sl g := (List.cons.inj e').1.symm
            have eL' : L2' = S2.map sl := (List.cons.inj e').2.symm
            subst eL'
            have hg : g ∈ a.rw (ix t) := p2 g List.mem_cons_self
            have hsg := (hF.2.1 _ g hg).1
            have hw2 : w.2.2.toInt = (sl g : Int) := by rw [← eg]; exact (ix_int (by omega)).symm
            refine nv_getI hb ?_
            rw [m_recv hb, m_recv hb]
            refine n_isThere hb (fun _ => ?_)
            have eth : thS ar3 (ix v2.2) (fi3 22) = aliveB a n := by
              rw [en, th_sl hF hn hS.2.2.1, there_now hV.1 hn]
            rw [eth]
            cases hal : aliveB a n with
            | false =>
              refine qv_if (fun _ => out ?_) (fun z => absurd rfl z)
              rw [← p3, hal]; simp
            | true =>
              refine qv_if (fun z => absurd z (by decide)) (fun _ => ?_)
              refine nv_getI hb ?_
              rw [m_recv hb, m_recv hb]
              refine n_isThere hb (fun _ => ?_)
              have eth2 : thS ar3 (ix w.2.2) (fi3 22) = aliveB a g := by
                rw [eg, th_sl hF hg hS.2.2.1, there_now hV.1 hg]
              rw [eth2]
              have nxt : ∀ f : Int32, (f ≠ 0 ↔ w.1 ≠ 0 ∨ (aliveB a g && likeB a m n g) = true) → (wGetF (mS b fi3 ar3) 12 18 (some b.o) fun v53 => wAldJ (mS b fi3 ar3) 20 v53 w.2.2 fun v54 => ah (f, v2.2, v54) (mS b fi3 ar3)) → (wGetF (mS b fi3 ar3) 12 18 (some b.o) fun v53 => wAldJ (mS b fi3 ar3) 20 v53 w.2.2 fun v54 => ah' (f, v2.2, v54) (mS b fi3 ar3)) := fun f hf => n_getF hb (by decide) (nv_ald hb (by decide) (by decide) (fun _ => hah _ _ _ ⟨rfl, rfl, rfl, S2, l5, fun x hx' => p2 x (List.mem_cons_of_mem _ hx'), by
                show (f ≠ 0 ∨ _) ↔ _
                rw [← p3, hf, hal, List.any_cons]
                simp only [Bool.true_and, Bool.or_eq_true]
                exact or_assoc⟩))
              cases hag2 : aliveB a g with
              | false => exact qv_if (fun _ => nxt _ (by rw [hag2]; simp)) (fun z => absurd rfl z)
              | true =>
                refine qv_if (fun z => absurd z (by decide)) (fun _ => ?_)
                rw [m_recv hb, m_recv hb]
                refine n_alike hb hv2 hw2 hsn hsg ?_
                rw [like_sl hF hn hg]
                cases hlk : likeB a m n g with
                | false => exact qv_if (fun _ => nxt _ (by rw [hag2, hlk]; simp)) (fun z => absurd rfl z)
                | true => exact qv_if (fun z => absurd z (by decide)) (fun _ => nxt _ (by rw [hag2, hlk]; simp))
  · -- the next key
    simp only [i32] at c3
    have hlt : i < (a.ky (ix t)).length := by omega
    obtain ⟨m', hm'⟩ : ∃ m', (a.ky (ix t))[i]? = some m' := ⟨_, List.getElem?_eq_getElem hlt⟩
    have e9 : ((3 : Int32) * t + v).toInt = ((3 * ix t + i : Nat) : Int) := by
      rw [i_add (i_mul (show (3 : Int32).toInt = 3 by decide) htt (by have := ht.2; omega)) i1 (by have := ht.2; omega)]; omega
    refine n_getF hb (by decide) ?_
    refine nv_ald hb (by decide) (by decide) (fun _ => ?_)
    rw [ix_of e9, kk i m' hm']
    refine qv_if (fun c4 => same _ (fun z => z.2.2.1 ?_) A0 x0) (fun c4 => ha _ _ _ ⟨rfl, rfl, i + 1, by rw [i_add i1 (show (1 : Int32).toInt = 1 by decide) (by omega)]; omega, by omega, fun k hk => ?_⟩)
    · rw [← c4]; exact List.mem_of_getElem? hm'
    · by_cases e : k = i
      · subst e; rw [hm']; exact fun z => c4 (Option.some.inj z)
      · exact i3 k (by omega)
end RU1
