set_option linter.unusedVariables false
set_option linter.unusedSimpArgs false
/-! the reference: back, put together -/
section RZ2
variable {b : MT} {fi fk : Nat → Int32} {ar ak : Nat → Nat → Int32} {mo M : Nat} {a c : AS} {y : HS} {sl sm : Nat → Nat} {X X' : String → HS → Prop} {Q Q' : HS → Prop} {QI QI' : Int32 → HS → Prop}
def backA (a : AS) (k : Int32) : AS := restH (if k ≠ 0 then (a.hs.drop (lastM a)).reverse.foldl turnA (dropA a) else dropA a)
theorem hs_6000 (hG : G M fi ar) (hx0 : RXx a sl fi ar) (hmk : a.mk ≠ []) : a.hs.length ≤ 6000 := by
  have hm : 0 < (fi 27).toInt := by
    have := List.length_pos_iff.mpr hmk
    rw [hx0.2.2.2.1.1]; omega
  have h25 := (hx0.2.2.2.1.2.2 hmk).1
  have := (hG.2.2.2.2.2.1 hm).2.2.2.2
  have c1 := cnt_le (fun f => ar 11 f != 0 && decide ((fi 22).toInt - (fi 25).toInt < (ar 15 f).toInt)) 3000
  have c2 := cnt_le (fun f => ar 11 f != 0 && decide ((fi 22).toInt - (fi 25).toInt < (ar 16 f).toInt)) 3000
  omega
/-- behind the asking: the mark is taken off, and the changes are turned -/
theorem n_backT (hb : MB b) (hG : G M fi ar) (hM : M < 300000) (hx0 : RXx a sl fi ar) (hV : AV a) (hmk : a.mk ≠ []) {fj : Nat → Int32} (hx : RXx a sl fj ar) (hA : RA a.1 fj ar) {k lv hv : Int32} (hlv : lv.toInt = (lastM a : Int)) (hhv : hv.toInt = (a.hs.length : Int)) (hbk : k = 0 ∨ (allF a).length + goneN a ≤ 3000)
    (h : ∀ r sm fk ak, r.toInt = (if k ≠ 0 then ((a.hs.length - lastM a : Nat) : Int) else 0) → RXx (backA a k) sm fk ak → AV (backA a k) → (backA a k).1 = a.1 → RA a.1 fk ak → fk 0 = 0 → QI r (mS b fk ak) → QI' r (mS b fk ak)) :
    wRecv (mS b fj ar) 12 (some b.o) (w_X12_fails (some b.o) 0 (mS b fj ar) (fun v19 x18 => wIf (v19 = 0) (wGetI x18 12 27 (some b.o) fun v20 => wPutI x18 12 27 (some b.o) (v20 - 1) fun x21 => wIf (k = 0) (QI 0 x21) (wLoop (σ := Int32) (fun v25 x24 again22 => wIf (v25 < lv) (QI (hv - lv) x24) (wGetF x24 12 24 (some b.o) fun v26 => wAldJ x24 20 v26 v25 fun v27 => wRecv x24 12 (some b.o) (w_X12_turn (some b.o) v27 x24 (fun x28 => again22 (v25 + (-1)) x28) X))) (hv - 1) x21)) (QI 0 x18)) X) →
    wRecv (mS b fj ar) 12 (some b.o) (w_X12_fails (some b.o) 0 (mS b fj ar) (fun v19 x18 => wIf (v19 = 0) (wGetI x18 12 27 (some b.o) fun v20 => wPutI x18 12 27 (some b.o) (v20 - 1) fun x21 => wIf (k = 0) (QI' 0 x21) (wLoop (σ := Int32) (fun v25 x24 again22 => wIf (v25 < lv) (QI' (hv - lv) x24) (wGetF x24 12 24 (some b.o) fun v26 => wAldJ x24 20 v26 v25 fun v27 => wRecv x24 12 (some b.o) (w_X12_turn (some b.o) v27 x24 (fun x28 => again22 (v25 + (-1)) x28) X'))) (hv - 1) x21)) (QI' 0 x18)) X') := by
  have hTm : a.tm ≤ 1900000000 := by
    have := hG.1.2.2.2.1
    rw [hx0.2.2.1.2.2.1] at this
    omega
  have hHl : a.hs.length ≤ 6000 := hs_6000 hG hx0 hmk
  have hlmH : lastM a ≤ a.hs.length := hV.2.2.1.2.1 _ (mk_last hx0.2.2.2.1 hmk).2
  refine nv_f0 hb ?_
  refine nv_getI hb ?_
  refine nv_putI hb ?_
  have x0 : RXx a sl (va_up fj 0 0) ar := RXx_0 hx
  have A0 : RA a.1 (va_up fj 0 0) ar := RA_0 hA
  have t0 : va_up fj 0 0 0 = 0 := va_up_self _ _ _
  generalize va_up fj 0 0 = fz at x0 A0 t0 ⊢
  have h27 : (fz 27 - 1).toInt = (a.mk.length : Int) - 1 := by
    have h8 := hV.2.2.1.1
    exact i_sub x0.2.2.2.1.1 (by decide) (by omega)
  have A1' : RA a.1 (va_up fz 27 (fz 27 - 1)) ar := RA_fr A0 (frM_clo.1 27 (by decide) _ _ _ (frM_rf (WF := [27]) (WA := []))) (by decide) (by decide)
  have t1 : va_up fz 27 (fz 27 - 1) 0 = 0 := by rw [va_up_ne _ _ (by decide)]; exact t0
  have xd := rx_drop x0 hmk _ h27
  have g0 : (restH (dropA a)).1 = a.1 := by unfold restH; split <;> rfl
  refine qv_if (fun k0 => ?_) (fun k0 => ?_)
  · have eb : backA a k = restH (dropA a) := by unfold backA; rw [if_neg (fun z => z k0)]
    rw [eb] at h
    exact h 0 sl _ _ (by rw [if_neg (fun z => z k0)]; decide) xd (av_drop hV) g0 A1' t1
  · have hlen := hbk.resolve_left k0
    have B0 := BK_0 hG hx0 hV hmk h27 hlen x0
    generalize va_up fz 27 (fz 27 - 1) = fw at A1' t1 B0 ⊢
    have eb : backA a k = (a.hs.drop (lastM a)).reverse.foldl turnA (restH (dropA a)) := by unfold backA; rw [if_pos k0, rest_turns]
    have er : (hv - lv).toInt = ((a.hs.length - lastM a : Nat) : Int) := by
      rw [i_sub hhv hlv (by omega)]; omega
    refine n_loopV (fun v fk ak => ∃ (i : Nat) (sm : Nat → Nat), v.toInt = (i : Int) - 1 ∧ lastM a ≤ i ∧ i ≤ a.hs.length ∧ BKi a sl ar i ((a.hs.drop i).reverse.foldl turnA (restH (dropA a))) sm fk ak ∧ RA a.1 fk ak ∧ fk 0 = 0) ⟨a.hs.length, sl, i_sub hhv (by decide) (by omega), hlmH, Nat.le_refl _, by rw [List.drop_length]; exact B0, A1', t1⟩ (fun v fk ak again again' ⟨i, sm, i1, i2, i3, hI, hA', ht'⟩ ha => ?_)
    refine qv_if (fun z => ?_) (fun z => ?_)
    · simp only [i32] at z
      have : i = lastM a := by omega
      subst this
      rw [eb] at h
      exact h _ sm fk ak (by rw [if_pos k0]; exact er) hI.1 hI.2.1 hI.2.2.1 hA' ht'
    · simp only [i32] at z
      obtain ⟨i', rfl⟩ : ∃ i', i = i' + 1 := ⟨i - 1, by omega⟩
      have hlt : i' < a.hs.length := by omega
      have he : a.hs[i']? = some a.hs[i'] := List.getElem?_eq_getElem hlt
      have ed : (a.hs.drop i').reverse.foldl turnA (restH (dropA a)) = turnA ((a.hs.drop (i' + 1)).reverse.foldl turnA (restH (dropA a))) a.hs[i'] := by
        rw [List.drop_eq_getElem_cons hlt, List.reverse_cons, List.foldl_append]; rfl
      refine n_getF hb (by decide) ?_
      refine nv_ald hb (by decide) (by decide) (fun _ => ?_)
      have ei : ix v = i' := ix_of (by omega)
      rw [ei, m_recv hb, m_recv hb]
      refine n_turn hb hG hx0 hV hmk hI he (by omega) (by rw [hI.2.2.2.1]; omega) (fun sm' fk' ak' hI' ff => ?_)
      rw [← ed] at hI'
      refine ha _ _ _ ⟨i', sm', ?_, by omega, by omega, hI', RA_fr hA' ff (by decide) (by decide), (ff.1 0 (by decide)).trans ht'⟩
      rw [i_add i1 (show (-1 : Int32).toInt = -1 by decide) (by omega)]; omega
theorem rc_back (h : RM mo M a y) (hM : M < 300000) (k : Int32) : w_X12_back (some mo) k y (fun r u => OK_back a k (u.I mo 0) r ∧ RM mo (M + 1) (nx_back a k) u) X := by
  obtain ⟨b, fi, ar, hb, rfl, rfl, hG, hA, hX, hV⟩ := h
  have h := t_back (X := X) hb hG hM RG_ok k
  revert h
  obtain ⟨sl, hx⟩ := id hX
  have hx : RXx a sl fi ar := hx
  have hH := hx.2.2.2.1
  unfold w_X12_back OK_back nx_back
  have bad : ∀ (fk : Nat → Int32), backCd a k = 1 → RA a.1 fk ar → RXx a sl fk ar → RG b M (ar 3) (mS b (va_up fk 0 1) ar) → EX (backCd a k) (if k ≠ 0 then num (a.hs.length - lastM a) else 0) ((mS b (va_up fk 0 1) ar).I b.o 0) 0 ∧ RM b.o (M + 1) (if backCd a k = 0 then restH (if k ≠ 0 then (a.hs.drop (lastM a)).reverse.foldl turnA (dropA a) else dropA a) else a) (mS b (va_up fk 0 1) ar) := fun fk e hA' hx' hg => by
    rw [e]
    refine ⟨⟨by rw [rv_I, va_up_self], fun z => absurd z (by decide)⟩, ?_⟩
    rw [if_neg (show ¬ (1 : Int32) = 0 by decide)]
    exact RM_g hb hg (RA_0 hA') ⟨sl, RXx_0 hx'⟩ hV
  refine nv_getI hb ?_
  dsimp only [wJoin]
  refine qv_if (fun c => nv_fN hb (by decide) (bad fi (if_pos ((mk_0 hH).mp c)) hA hx)) (fun c => ?_)
  have hmk : a.mk ≠ [] := fun z => c ((mk_0 hH).mpr z)
  refine nv_f0 hb ?_
  have x0 : RXx a sl (va_up fi 0 0) ar := RXx_0 hx
  have A0 : RA a.1 (va_up fi 0 0) ar := RA_0 hA
  generalize va_up fi 0 0 = fj at x0 A0 ⊢
  have hlm := mk_last x0.2.2.2.1 hmk
  have hhv := (x0.2.2.2.1.2.2 hmk).1
  have hlH : lastM a ≤ a.hs.length := hV.2.2.1.2.1 _ hlm.2
  have hl31 : (a.hs.length : Int) < 2147483648 := by rw [← hhv]; exact (fj 25).toInt_lt
  refine n_getF hb (by decide) ?_
  refine nv_getI hb ?_
  refine nv_ald hb (by decide) (by decide) (fun _ => ?_)
  refine nv_getI hb ?_
  have hlv := hlm.1
  generalize ar 26 (ix (fj 27 - 1)) = lv at hlv ⊢
  refine n_loopV (fun v fi' ar' => fi' = fj ∧ ar' = ar ∧ ∃ A S, a.hs.drop (lastM a) = A ++ S ∧ v.2.toInt = ((lastM a + A.length : Nat) : Int) ∧ v.1.toInt = ((A.filter fun e => e.2).length : Int)) ⟨rfl, rfl, [], a.hs.drop (lastM a), rfl, hlv, by show (0 : Int32).toInt = ((0 : Nat) : Int); decide⟩ (fun v fi' ar' again again' ⟨e1, e2, A, S, s1, s2, s3⟩ ha => ?_)
  subst e1; subst e2
  have hAS : a.hs.length - lastM a = A.length + S.length := by
    have := congrArg List.length s1
    rw [List.length_drop, List.length_append] at this; exact this
  have hfl := List.length_filter_le (fun e : Nat × Bool => e.2) A
  refine qv_if (fun z => ?_) (fun z => ?_)
  · simp only [i32] at z
    have hS0 : S = [] := List.eq_nil_of_length_eq_zero (by omega)
    rw [hS0, List.append_nil] at s1
    have hgn : v.1.toInt = (goneN a : Int) := by unfold goneN; rw [s1]; exact s3
    have good : (k = 0 ∨ (allF a).length + goneN a ≤ 3000) → backCd a k = 0 := fun hk => by
      unfold backCd
      rw [if_neg hmk, if_neg (fun z => ?_)]
      rcases hk with hk | hk
      · exact z.1 hk
      · exact absurd z.2 (by omega)
    have fin : ∀ (hk : k = 0 ∨ (allF a).length + goneN a ≤ 3000) (r : Int32) (sm : Nat → Nat) (fk : Nat → Int32) (ak : Nat → Nat → Int32), r.toInt = (if k ≠ 0 then ((a.hs.length - lastM a : Nat) : Int) else 0) → RXx (backA a k) sm fk ak → AV (backA a k) → (backA a k).1 = a.1 → RA a.1 fk ak → fk 0 = 0 → RG b M (ar' 3) (mS b fk ak) → EX (backCd a k) (if k ≠ 0 then num (a.hs.length - lastM a) else 0) ((mS b fk ak).I b.o 0) r ∧ RM b.o (M + 1) (if backCd a k = 0 then restH (if k ≠ 0 then (a.hs.drop (lastM a)).reverse.foldl turnA (dropA a) else dropA a) else a) (mS b fk ak) := fun hk r sm fk ak q1 q2 q3 q4 q5 q6 hg => by
      rw [good hk, if_pos rfl]
      refine ⟨⟨by rw [rv_I]; exact q6, fun _ => ?_⟩, RM_g hb hg (by show RA (backA a k).1 fk ak; rw [q4]; exact q5) ⟨sm, q2⟩ q3⟩
      by_cases k0 : k = 0
      · rw [if_neg (fun z => z k0)] at q1 ⊢
        exact i_ext (by rw [q1]; decide)
      · rw [if_pos k0] at q1 ⊢
        exact num_of q1
    refine qv_if (fun k0 => ?_) (fun k0 => ?_)
    · refine n_backT (QI := fun _ u => RG b M (ar' 3) u) (QI' := fun r u => EX (backCd a k) (if k ≠ 0 then num (a.hs.length - lastM a) else 0) (u.I b.o 0) r ∧ RM b.o (M + 1) (if backCd a k = 0 then restH (if k ≠ 0 then (a.hs.drop (lastM a)).reverse.foldl turnA (dropA a) else dropA a) else a) u) hb hG hM hx hV hmk x0 A0 hlv hhv (Or.inl k0) ?_
      exact fin (Or.inl k0)
    · refine nv_getI hb ?_
      have hal := hV.1.2.2.2.2.2.2.1
      have hHl := hs_6000 hG hx hmk
      have hgl : goneN a ≤ a.hs.length := by unfold goneN; rw [s1]; omega
      have es : (fi' 20 + v.1).toInt = ((allF a).length + goneN a : Nat) := by
        rw [i_add x0.2.2.1.1 hgn (by omega)]; omega
      refine qv_if (fun z2 => ?_) (fun z2 => ?_)
      · simp only [i32, es, Int32.reduceToInt] at z2
        have hk : k = 0 ∨ (allF a).length + goneN a ≤ 3000 := Or.inr (by omega)
        refine n_backT (QI := fun _ u => RG b M (ar' 3) u) (QI' := fun r u => EX (backCd a k) (if k ≠ 0 then num (a.hs.length - lastM a) else 0) (u.I b.o 0) r ∧ RM b.o (M + 1) (if backCd a k = 0 then restH (if k ≠ 0 then (a.hs.drop (lastM a)).reverse.foldl turnA (dropA a) else dropA a) else a) u) hb hG hM hx hV hmk x0 A0 hlv hhv hk ?_
        exact fin hk
      · simp only [i32, es, Int32.reduceToInt] at z2
        refine nv_fN hb (by decide) (bad fi' ?_ A0 x0)
        unfold backCd
        rw [if_neg hmk, if_pos ⟨k0, by omega⟩]
  · simp only [i32] at z
    cases S with
    | nil => simp only [List.length_nil] at hAS; omega
    | cons e S =>
      have he : a.hs[lastM a + A.length]? = some e := by
        rw [← List.getElem?_drop, s1, List.getElem?_append_right (Nat.le_refl _), Nat.sub_self]; rfl
      have h24 := (x0.2.2.2.1.2.2 hmk).2.1 _ e he
      refine n_getF hb (by decide) ?_
      refine nv_ald hb (by decide) (by decide) (fun _ => ?_)
      rw [ix_of s2]
      have s1' : a.hs.drop (lastM a) = (A ++ [e]) ++ S := by rw [s1]; simp
      have n2 : (v.2 + 1).toInt = ((lastM a + (A ++ [e]).length : Nat) : Int) := by
        rw [i_add s2 (show (1 : Int32).toInt = 1 by decide) (by simp only [List.length_cons] at hAS; omega), List.length_append]; simp only [List.length_cons, List.length_nil]; omega
      refine qv_if (fun z2 => ?_) (fun z2 => ?_)
      · simp only [i32, Int32.reduceToInt] at z2
        have hw : e.2 = false := by
          cases hq : e.2 with
          | false => rfl
          | true => rw [hq, if_pos rfl] at h24; omega
        refine ha _ _ _ ⟨rfl, rfl, A ++ [e], S, s1', n2, ?_⟩
        show v.1.toInt = _
        rw [List.filter_append, List.filter_cons_of_neg (by simp [hw])]
        simpa using s3
      · simp only [i32, Int32.reduceToInt] at z2
        have hw : e.2 = true := by
          cases hq : e.2 with
          | false => rw [hq, if_neg (by decide)] at h24; omega
          | true => rfl
        refine ha _ _ _ ⟨rfl, rfl, A ++ [e], S, s1', n2, ?_⟩
        show (v.1 + 1).toInt = _
        rw [List.filter_append, List.filter_cons_of_pos (by simp [hw]), List.length_append, i_add s3 (show (1 : Int32).toInt = 1 by decide) (by omega)]
        rfl
end RZ2
/-! a new one -/
theorem tn_0 {t : Nat} : ¬ inT AS0 t := by
  show ¬ (t : Int) < (0 : Int32).toInt
  rw [show (0 : Int32).toInt = 0 by decide]; omega
theorem av_0 : AV AS0 := by
  refine ⟨⟨fun _ _ => rfl, fun _ _ n h => absurd h List.not_mem_nil, fun _ => List.nodup_nil, fun _ n h => absurd h List.not_mem_nil, ⟨by decide, by decide⟩, by decide, by decide, by decide⟩, ⟨fun _ _ => rfl, fun t ht => absurd ht tn_0⟩, ⟨by decide, fun m h => absurd h List.not_mem_nil, fun _ => rfl, by decide, fun k e he => ?_, fun _ n h => absurd h List.not_mem_nil⟩, fun c _ h => absurd (show false = true from h) (by decide), by decide⟩
  have he : ([] : List (Nat × Bool))[k]? = some e := he
  simp at he
theorem rx_0 : RX AS0 fi0 (fun _ _ => 0) := by
  refine ⟨fun n => n, ⟨fun t ht => absurd ht tn_0, fun _ n h => absurd h List.not_mem_nil, fun s _ h => absurd rfl h⟩, fun t ht => absurd ht tn_0, ⟨by decide, by decide, by decide, by decide, by decide⟩, ⟨by decide, fun i m h => ?_, fun h => absurd rfl h⟩, fun c _ => ⟨⟨fun h => absurd rfl h, fun h => absurd (show false = true from h) (by decide)⟩, fun h => absurd (show false = true from h) (by decide)⟩, ⟨by decide, fun i v h => ?_⟩⟩
  · have h : ([] : List Nat)[i]? = some m := h
    simp at h
  · have h : ([] : List Int32)[i]? = some v := h
    simp at h
theorem rc_init {mo : Nat} {x : HS} {X : String → HS → Prop} (h1 : mo ∈ x.LP) (h2 : x.k mo = 12) (h3 : x.I mo = fun _ => 0) (hc : 38 ≤ x.c) (hz : 56386 ≤ x.z) : w_X12_init (some mo) x (fun u => RM mo 0 AS0 u) X :=
  t_init h1 h2 h3 hc hz (fun b hb ho _ _ => ⟨b, fi0, fun _ _ => 0, hb, ho, rfl, G_new, ⟨rfl, rfl, rfl, fun t ht => absurd ht (by show ¬ (t : Int) < (0 : Int32).toInt; rw [show (0 : Int32).toInt = 0 by decide]; omega)⟩, rx_0, av_0⟩)
