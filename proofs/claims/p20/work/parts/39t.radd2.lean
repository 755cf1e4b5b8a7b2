set_option linter.unusedVariables false
set_option linter.unusedSimpArgs false
/-! the reference: add -/
/-- one of these that is there has the same in a key -/
def brkP (a : AS) (t : Nat) (A : List Nat) : Prop := ∃ n, n ∈ A ∧ aliveB a n = true ∧ ∃ m, m ∈ a.ky t ∧ fitB a t m a.vv n = true
theorem brk_iff {a : AS} {t : Nat} : breakB a t = true ↔ brkP a t (a.rw t) := by
  unfold breakB brkP
  simp only [List.any_eq_true, Bool.and_eq_true]
  exact ⟨fun ⟨m, hm, n, hn, h1, h2⟩ => ⟨n, hn, h1, m, hm, h2⟩, fun ⟨n, hn, h1, m, hm, h2⟩ => ⟨m, hm, n, hn, h1, h2⟩⟩
theorem brk_end {a : AS} {t : Nat} {A : List Nat} {n : Nat} : brkP a t (A ++ [n]) ↔ brkP a t A ∨ (aliveB a n = true ∧ ∃ m, m ∈ a.ky t ∧ fitB a t m a.vv n = true) := by
  unfold brkP
  constructor
  · rintro ⟨k, hk, h1, h2⟩
    rcases List.mem_append.mp hk with z | z
    · exact Or.inl ⟨k, z, h1, h2⟩
    · rw [List.mem_singleton.mp z] at h1 h2; exact Or.inr ⟨h1, h2⟩
  · rintro (⟨k, hk, h1, h2⟩ | ⟨h1, h2⟩)
    · exact ⟨k, List.mem_append_left _ hk, h1, h2⟩
    · exact ⟨n, List.mem_append_right _ (List.mem_singleton.mpr rfl), h1, h2⟩
theorem ahd_last {bf : Nat → Int32} {l : Int32} {L : List Nat} (h : LnK bf l L.reverse) : ahd L l := by
  rcases nil_or_end L with e | ⟨L', p, e⟩
  · subst e; exact Or.inl ⟨rfl, LnK_nil.mp h⟩
  · subst e
    rw [List.reverse_append] at h
    exact Or.inr ⟨L', p, rfl, (LnK_cons.mp h).1⟩
section RT1
variable {b : MT} {fi : Nat → Int32} {ar : Nat → Nat → Int32} {mo M : Nat} {a : AS} {y : HS} {sl : Nat → Nat} {X X' : String → HS → Prop} {Q Q' : HS → Prop} {QI QI' : Int32 → HS → Prop}
theorem sl_nd (hF : RXf a sl ar) (hV : AV a) (t : Nat) : ((a.rw t).map sl).Nodup := List.pairwise_map.mpr ((hV.1.2.2.1 t).imp_of_mem (fun h1 h2 hne he => hne (sl_inj hF h1 h2 he)))
theorem n_addC (hb : MB b) (hA : RA a.1 fi ar) {t h : Int32} {K K' : Int32 → HS → Prop} (k1 : ¬ (0 ≤ h.toInt ∧ h.toInt ≤ 1) → K 1 (mS b fi ar) → K' 1 (mS b fi ar)) (k2 : (0 ≤ h.toInt ∧ h.toInt ≤ 1) → ¬ tabOk a t → K 2 (mS b fi ar) → K' 2 (mS b fi ar)) (k0 : (0 ≤ h.toInt ∧ h.toInt ≤ 1) → tabOk a t → K 0 (mS b fi ar) → K' 0 (mS b fi ar)) :
    wJoin (κ := Int32 → HS → Prop) K (fun j1 => wJoin (κ := HS → Prop) (fun x64 => j1 1 x64) (fun j63 => wIf (h < 0) (j63 (mS b fi ar)) (wIf (h ≤ 1) (wRecv (mS b fi ar) 12 (some b.o) (w_X12_isTable (some b.o) t (mS b fi ar) (fun v66 x65 => wIf (v66 = 0) (j1 2 x65) (j1 0 x65)) X)) (j63 (mS b fi ar))))) →
    wJoin (κ := Int32 → HS → Prop) K' (fun j1 => wJoin (κ := HS → Prop) (fun x64 => j1 1 x64) (fun j63 => wIf (h < 0) (j63 (mS b fi ar)) (wIf (h ≤ 1) (wRecv (mS b fi ar) 12 (some b.o) (w_X12_isTable (some b.o) t (mS b fi ar) (fun v66 x65 => wIf (v66 = 0) (j1 2 x65) (j1 0 x65)) X')) (j63 (mS b fi ar))))) := by
  try dsimp only [wJoin]
  refine qv_if (fun c => k1 ?_) (fun c => ?_)
  · simp only [i32, Int32.reduceToInt] at c; omega
  · simp only [i32, Int32.reduceToInt] at c
    refine qv_if (fun c2 => ?_) (fun c2 => k1 ?_)
    · simp only [i32, Int32.reduceToInt] at c2
      exact n_isT hb hA (k2 ⟨by omega, c2⟩) (k0 ⟨by omega, c2⟩)
    · simp only [i32, Int32.reduceToInt] at c2; omega
theorem rc_add (h : RM mo M a y) (hM : M < 300000) (t h' : Int32) : w_X12_add (some mo) t h' y (fun r u => OK_add a t h' (u.I mo 0) r ∧ RM mo (M + 1) (nx_add a t h') u) X := by
  obtain ⟨b, fi, ar, hb, rfl, rfl, hG, hA, hX, hV⟩ := h
  have h := t_add (X := X) hb hG hM RG_ok t h'
  revert h
  obtain ⟨sl, hx⟩ := id hX
  have hx : RXx a sl fi ar := hx
  have hTm : a.tm < 1900000000 := by
    have := hG.1.2.2.2.1
    rw [hx.2.2.1.2.2.1] at this
    omega
  unfold w_X12_add OK_add nx_add
  have bad : ∀ (k : Int32) (fk : Nat → Int32), k ≠ 0 → addCd a t h' = k → RA a.1 fk ar → RXx a sl fk ar → RG b M (ar 3) (mS b (va_up fk 0 k) ar) → EX (addCd a t h') (num a.nn) ((mS b (va_up fk 0 k) ar).I b.o 0) 0 ∧ RM b.o (M + 1) (if addCd a t h' = 0 then addA a (ix t) h' else a) (mS b (va_up fk 0 k) ar) := fun k fk k0 e hA' hx' hg => by
    rw [e, if_neg k0]
    exact ⟨⟨by rw [rv_I, va_up_self], fun z => absurd z k0⟩, RM_g hb hg (RA_0 hA') ⟨sl, RXx_0 hx'⟩ hV⟩
  refine n_addC hb hA (fun c => nv_fN hb (by decide) (bad 1 fi (by decide) (if_neg c) hA hx)) (fun hh c => nv_fN hb (by decide) (bad 2 fi (by decide) ((if_pos hh).trans (if_neg c)) hA hx)) (fun hh ht => ?_)
  have hti := tab_in ht
  have htt : t.toInt = ((ix t : Nat) : Int) := (ix_int ht.1).symm
  have r8 := hV.1.2.2.2.2.2.2.2
  have ecd : addCd a t h' = if breakB a (ix t) then 3 else if (allF a).length = 3000 then 4 else 0 := (if_pos hh).trans (if_pos ht)
  refine nv_f0 hb ?_
  refine n_getF hb (by decide) ?_
  refine nv_ald hb (by decide) (by decide) (fun _ => ?_)
  have x0 : RXx a sl (va_up fi 0 0) ar := RXx_0 hx
  have A0 : RA a.1 (va_up fi 0 0) ar := RA_0 hA
  have t0 : va_up fi 0 0 0 = 0 := va_up_self _ _ _
  generalize va_up fi 0 0 = fj at x0 A0 t0 ⊢
  obtain ⟨hF, hK, hS, hH, hC, hO⟩ := id x0
  have hL := (hF.1 _ hti).1
  refine n_loopV (fun v fi' ar' => fi' = fj ∧ ar' = ar ∧ ∃ A S, a.rw (ix t) = A ++ S ∧ LnK (ar 18) v.2 (S.map sl) ∧ (v.1 ≠ 0 ↔ brkP a (ix t) A)) ⟨rfl, rfl, [], a.rw (ix t), rfl, hL, by simp [brkP]⟩ (fun v fi' ar' again again' ⟨e1, e2, A, S, s1, s2, s3⟩ ha => ?_)
  subst e1; subst e2
  refine qv_if (fun c => ?_) (fun c => ?_)
  · simp only [i32, Int32.reduceToInt] at c
    have hS0 : S = [] := List.map_eq_nil_iff.mp (LnK_neg s2 c)
    rw [hS0, List.append_nil] at s1
    rw [← s1, ← brk_iff] at s3
    try dsimp only [wJoin]
    refine qv_if (fun c2 => ?_) (fun c2 => nv_fN hb (by decide) (bad 3 fi' (by decide) (by rw [ecd, if_pos (s3.mp c2)]) A0 x0))
    have hbr : ¬ breakB a (ix t) = true := fun z => (s3.mpr z) c2
    rw [if_neg hbr] at ecd
    refine nv_getI hb ?_
    refine qv_if (fun c3 => nv_fN hb (by decide) (bad 4 fi' (by decide) ?_ A0 x0)) (fun c3 => ?_)
    · have h20 := hS.1
      rw [c3] at h20
      rw [ecd, if_pos (by have : (3000 : Int32).toInt = 3000 := by decide
                          omega)]
    have hlen : (allF a).length < 3000 := by
      have h1 := hV.1.2.2.2.2.2.2.1
      have h2 : (allF a).length ≠ 3000 := fun z => c3 (i_ext (by rw [hS.1, z]; decide))
      omega
    rw [if_neg (by omega)] at ecd
    rw [ecd, if_pos rfl]
    refine nv_f0 hb ?_
    have x1 : RXx a sl (va_up fi' 0 0) ar' := RXx_0 x0
    have A1' : RA a.1 (va_up fi' 0 0) ar' := RA_0 A0
    have t1 : va_up fi' 0 0 0 = 0 := va_up_self _ _ _
    generalize va_up fi' 0 0 = fk at x1 A1' t1 ⊢
    refine n_fresh hb (t := t) (fun r s fi1 ar1 hr hs hu h1 => ?_)
    refine n_loopV (fun v fi2 ar2 => fi2 = fi1 ∧ ∃ i : Nat, v.toInt = (i : Int) ∧ i ≤ 4 ∧ (∀ j, j ≠ 13 → ar2 j = ar1 j) ∧ (∀ k, k < i → ar2 13 (4 * s + k) = addCs a (ix t) k) ∧ ∀ x, x < 4 * s ∨ 4 * s + 4 ≤ x → ar2 13 x = ar1 13 x) ⟨rfl, 0, by decide, by omega, fun _ _ => rfl, fun k hk => absurd hk (by omega), fun _ _ => rfl⟩ (fun v2 fi2 ar2 ag ag' ⟨e1, i, i1, i2, c1, c2', c3'⟩ hag => ?_)
    subst e1
    refine qv_if (fun c4 => ?_) (fun c4 => ?_)
    · simp only [i32, Int32.reduceToInt] at c4
      have hi : i = 4 := by omega
      subst hi
      try dsimp only [wJoin]
      have hl1 : LnK (ar2 18) (ar2 7 (ix t)) ((a.rw (ix t)).map sl) := by
        rw [c1 18 (by decide), c1 7 (by decide), h1.1.2 18 (by decide), h1.1.2 7 (by decide)]; exact hL
      have hl2 : LnK (ar2 17) (ar2 8 (ix t)) ((a.rw (ix t)).map sl).reverse := by
        rw [c1 17 (by decide), c1 8 (by decide), h1.1.2 17 (by decide), h1.1.2 8 (by decide)]; exact (hF.1 _ hti).2
      have h12 : (ar2 12 s).toInt = ((ix t : Nat) : Int) := by
        rw [c1 12 (by decide), h1.2.2.2.2.2.1, va_up_self]; exact htt
      have hnd := sl_nd hF hV (ix t)
      have hgn : s ∉ (a.rw (ix t)).map sl := fun z => by
        obtain ⟨n, hn, e⟩ := List.mem_map.mp z
        exact (hF.2.1 _ n hn).2.1 (by rw [e]; exact hu)
      have fin : ∀ (L1 L2 : List Nat) (ar3 : Nat → Nat → Int32), a.rw (ix t) = L1 ++ L2 → addA a (ix t) h' = comeA a (ix t) (addCs a (ix t)) L1 L2 → LK ar2 ar3 (ix t) s (L1.map sl) (L2.map sl) → RG b M (ar' 3) (mS b fi2 ar3) → EX 0 (num a.nn) ((mS b fi2 ar3).I b.o 0) (ar3 14 s) ∧ RM b.o (M + 1) (addA a (ix t) h') (mS b fi2 ar3) := fun L1 L2 ar3 eL eA h3 hg => by
        have xx := rx_come x1 hV hti htt hr hs hu eL (by omega) h1 ⟨c1, c2', c3'⟩ h3
        have gg := comeA_f a (ix t) (addCs a (ix t)) L1 L2
        refine ⟨⟨by rw [rv_I, h1.1.1 0 (by decide)]; exact t1, fun _ => ?_⟩, ?_⟩
        · have hm : a.nn ∈ (comeA a (ix t) (addCs a (ix t)) L1 L2).rw (ix t) := by
            rw [gg.2.2.1, va_up_self]; exact List.mem_append_right _ List.mem_cons_self
          have h14 := (xx.1.2.1 (ix t) a.nn hm).2.2.2.2.1
          rw [va_up_self] at h14
          exact num_of h14
        · rw [eA]
          refine RM_g hb hg ?_ ⟨_, xx⟩ (av_come hV hti hlen eL)
          rw [gg.1]
          have ej : ∀ j, j = 3 ∨ j = 4 ∨ j = 5 → ar3 j = ar' j := fun j hj => by
            rw [h3.1 j (by omega) (by omega) (by omega) (by omega), c1 j (by omega)]
            refine h1.1.2 j ?_
            simp only [List.mem_cons, List.not_mem_nil, or_false]; omega
          unfold RA
          rw [h1.1.1 2 (by decide), h1.1.1 10 (by decide), ej 3 (by decide), ej 4 (by decide), ej 5 (by decide)]
          exact A1'
      refine qv_if (fun c5 => ?_) (fun c5 => ?_)
      · have e1 : h'.toInt = 1 := by rw [c5]; decide
        refine n_link hb (t := ix t) (gN := s) (L1 := []) (L2 := (a.rw (ix t)).map sl) hr (Or.inl ⟨rfl, by decide⟩) h12 hl1 hl2 hnd hgn (fun ar3 h3 => ?_)
        refine n_getF hb (by decide) ?_
        refine nv_ald hb (by decide) (by decide) (fun _ => ?_)
        rw [ix_of hr]
        exact fin [] (a.rw (ix t)) ar3 rfl (by unfold addA comeA; rw [if_pos e1]; rfl) h3
      · have e1 : ¬ h'.toInt = 1 := fun z => c5 (i_ext (by rw [z]; decide))
        refine n_getF hb (by decide) ?_
        refine nv_ald hb (by decide) (by decide) (fun _ => ?_)
        refine n_link hb (t := ix t) (gN := s) (L1 := (a.rw (ix t)).map sl) (L2 := []) hr (ahd_last hl2) h12 (by rw [List.append_nil]; exact hl1) (by rw [List.append_nil]; exact hl2) (by rw [List.append_nil]; exact hnd) (by rw [List.append_nil]; exact hgn) (fun ar3 h3 => ?_)
        refine n_getF hb (by decide) ?_
        refine nv_ald hb (by decide) (by decide) (fun _ => ?_)
        rw [ix_of hr]
        exact fin (a.rw (ix t)) [] ar3 (List.append_nil _).symm (by unfold addA comeA; rw [if_neg e1]) h3
    · simp only [i32, Int32.reduceToInt] at c4
      refine n_getF hb (by decide) ?_
      refine n_getF hb (by decide) ?_
      refine nv_ald hb (by decide) (by decide) (fun _ => ?_)
      have hco : ar2 4 (ix t) = a.co (ix t) := by
        rw [c1 4 (by decide), h1.1.2 4 (by decide)]; exact (A1'.2.2.2 _ hti).1
      rw [hco]
      try dsimp only [wJoin]
      have e4 : ((4 : Int32) * r + v2).toInt = ((4 * s + i : Nat) : Int) := by
        rw [i_add (i_mul (show (4 : Int32).toInt = 4 by decide) hr (by omega)) i1 (by omega)]; omega
      have step : ∀ w, w = addCs a (ix t) i → (wAstI (mS b fi2 ar2) (some (b.a 13)) ((4 : Int32) * r + v2) w fun x38 => ag (v2 + 1) x38) → (wAstI (mS b fi2 ar2) (some (b.a 13)) ((4 : Int32) * r + v2) w fun x38 => ag' (v2 + 1) x38) := fun w hw => nv_astI hb (by decide) (by decide) (fun _ => by
        rw [ix_of e4]
        refine hag _ _ _ ⟨rfl, i + 1, by rw [i_add i1 (show (1 : Int32).toInt = 1 by decide) (by omega)]; omega, by omega, fun j hj => by rw [up2_nj hj]; exact c1 j hj, fun k hk => ?_, fun x hx' => ?_⟩
        · rw [up2_at]
          by_cases e : k = i
          · rw [e, va_up_self]; exact hw
          · rw [va_up_ne _ _ (by omega)]; exact c2' k (by omega)
        · rw [up2_at, va_up_ne _ _ (by omega)]; exact c3' x hx')
      refine qv_if (fun c5 => step _ ?_) (fun c5 => ?_)
      · simp only [i32, Int32.reduceToInt] at c5
        unfold addCs; rw [if_neg (by omega)]
      · simp only [i32, Int32.reduceToInt] at c5
        refine n_getF hb (by decide) ?_
        refine nv_ald hb (by decide) (by decide) (fun _ => ?_)
        refine step _ ?_
        rw [ix_of i1, c1 3 (by decide), h1.1.2 3 (by decide), A1'.1]
        unfold addCs; rw [if_pos (by omega)]
  · simp only [i32, Int32.reduceToInt] at c
    obtain ⟨L', e, l4⟩ := LnK_pos s2 (by omega)
    cases S with
    | nil => simp at e
    | cons n S =>
      rw [List.map_cons] at e
      have en : ix v.2 = sl n := (List.cons.inj e).1.symm
      have eL : L' = S.map sl := (List.cons.inj e).2.symm
      subst eL
      have hn : n ∈ a.rw (ix t) := by rw [s1]; exact List.mem_append_right _ List.mem_cons_self
      have s1' : a.rw (ix t) = (A ++ [n]) ++ S := by rw [s1]; simp
      obtain ⟨kl, kk⟩ := hK _ hti
      have klen := (hV.2.1.2 _ hti).1
      refine n_loopV (fun w fi'' ar'' => fi'' = fi' ∧ ar'' = ar' ∧ w.2.1 = v.2 ∧ ∃ i : Nat, w.2.2.toInt = (i : Int) ∧ i ≤ (a.ky (ix t)).length ∧ (w.1 ≠ 0 ↔ v.1 ≠ 0 ∨ (aliveB a n = true ∧ ∃ k, k < i ∧ ∃ m, (a.ky (ix t))[k]? = some m ∧ fitB a (ix t) m a.vv n = true))) ⟨rfl, rfl, rfl, 0, by show (0 : Int32).toInt = ((0 : Nat) : Int); decide, by omega, by simp⟩ (fun w fi'' ar'' ag ag' ⟨e1, e2, e3, i, i1, i2, i3⟩ hag => ?_)
      subst e1; subst e2
      refine n_getF hb (by decide) ?_
      refine nv_ald hb (by decide) (by decide) (fun _ => ?_)
      try dsimp only [wJoin]
      rw [e3]
      have out : (w.1 ≠ 0 ↔ brkP a (ix t) (A ++ [n])) → (wGetF (mS b fi'' ar'') 12 18 (some b.o) fun v50 => wAldJ (mS b fi'' ar'') 20 v50 v.2 fun v51 => again (w.1, v51) (mS b fi'' ar'')) → (wGetF (mS b fi'' ar'') 12 18 (some b.o) fun v50 => wAldJ (mS b fi'' ar'') 20 v50 v.2 fun v51 => again' (w.1, v51) (mS b fi'' ar'')) := fun hd => n_getF hb (by decide) (nv_ald hb (by decide) (by decide) (fun _ => ha _ _ _ ⟨rfl, rfl, A ++ [n], S, s1', l4, hd⟩))
      refine qv_if (fun c5 => out ?_) (fun c5 => ?_)
      · simp only [i32] at c5
        have hi : i = (a.ky (ix t)).length := by omega
        rw [i3, brk_end, s3]
        refine or_congr Iff.rfl (and_congr Iff.rfl ⟨fun ⟨k, _, m, hm, hf⟩ => ⟨m, List.mem_of_getElem? hm, hf⟩, fun ⟨m, hm, hf⟩ => ?_⟩)
        obtain ⟨k, hk, e⟩ := List.mem_iff_getElem.mp hm
        exact ⟨k, by omega, m, by rw [List.getElem?_eq_getElem hk, e], hf⟩
      · simp only [i32] at c5
        refine nv_getI hb ?_
        rw [m_recv hb, m_recv hb]
        refine n_isThere hb (fun _ => ?_)
        have eth : thS ar'' (ix v.2) (fi'' 22) = aliveB a n := by
          rw [en, th_sl hF hn hS.2.2.1, there_now hV.1 hn]
        rw [eth]
        cases hal : aliveB a n with
        | false =>
          refine qv_if (fun _ => out ?_) (fun z => absurd rfl z)
          rw [i3, brk_end, s3, hal]; simp
        | true =>
          refine qv_if (fun z => absurd z (by decide)) (fun _ => ?_)
          refine n_getF hb (by decide) ?_
          have hlt : i < (a.ky (ix t)).length := by omega
          obtain ⟨m, hm⟩ : ∃ m, (a.ky (ix t))[i]? = some m := ⟨_, List.getElem?_eq_getElem hlt⟩
          have e9 : ((3 : Int32) * t + w.2.2).toInt = ((3 * ix t + i : Nat) : Int) := by
            rw [i_add (i_mul (show (3 : Int32).toInt = 3 by decide) htt (by have := ht.2; omega)) i1 (by have := ht.2; omega)]; omega
          refine nv_ald hb (by decide) (by decide) (fun _ => ?_)
          rw [ix_of e9, kk i m hm]
          refine n_getF hb (by decide) ?_
          rw [m_recv hb, m_recv hb]
          have hco4 : (ar'' 4 (ix (ar'' 12 (ix v.2)))).toInt ≤ 4 := by
            rw [en, ix_of (hF.2.1 _ n hn).2.2.1, (A0.2.2.2 _ hti).1]
            exact (hV.2.1.2 _ hti).2.1.2
          refine n_fits hb (j := 3) (by decide) (by decide) (by decide) (by decide) (by decide) hco4 (fun _ => ?_)
          have efi : fitS ar'' (ix v.2) m 3 (ix 0) = fitB a (ix t) m a.vv n := by
            rw [en]
            exact fit_sl hF A0 hti hn (fun k hk => by rw [A0.1]; show a.vv (0 + k) = a.vv k; rw [Nat.zero_add])
          rw [efi]
          have nxt : ∀ f : Int32, (f ≠ 0 ↔ w.1 ≠ 0 ∨ fitB a (ix t) m a.vv n = true) → ag (f, v.2, w.2.2 + 1) (mS b fi'' ar'') → ag' (f, v.2, w.2.2 + 1) (mS b fi'' ar'') := fun f hf => hag _ _ _ ⟨rfl, rfl, rfl, i + 1, by show (w.2.2 + 1).toInt = _; rw [i_add i1 (show (1 : Int32).toInt = 1 by decide) (by omega)]; omega, by omega, by
            show f ≠ 0 ↔ _
            rw [hf, i3]
            constructor
            · rintro ((z | ⟨z1, k, k1, k2⟩) | z)
              · exact Or.inl z
              · exact Or.inr ⟨z1, k, by omega, k2⟩
              · exact Or.inr ⟨hal, i, by omega, m, hm, z⟩
            · rintro (z | ⟨z1, k, k1, m', k2, k3⟩)
              · exact Or.inl (Or.inl z)
              · by_cases e : k = i
                · subst e
                  rw [hm] at k2
                  rw [← Option.some.inj k2] at k3
                  exact Or.inr k3
                · exact Or.inl (Or.inr ⟨z1, k, by omega, m', k2, k3⟩)⟩
          cases hfb : fitB a (ix t) m a.vv n with
          | false => exact qv_if (fun _ => nxt _ (by rw [hfb]; simp)) (fun z => absurd rfl z)
          | true => exact qv_if (fun z => absurd z (by decide)) (fun _ => nxt _ (by rw [hfb]; simp))
end RT1
