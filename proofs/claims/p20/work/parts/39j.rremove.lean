set_option linter.unusedVariables false
set_option linter.unusedSimpArgs false
/-! facts go, one behind the other -/
theorem goL_f : ∀ (L : List Nat) (a : AS), (goL a L).1 = a.1 ∧ (goL a L).rw = a.rw ∧ (goL a L).fc = a.fc ∧ (goL a L).fb = a.fb ∧ (goL a L).tm = a.tm + L.length ∧ ∀ n, n ∉ L → (goL a L).fd n = a.fd n
  | [], a => ⟨rfl, rfl, rfl, rfl, by show a.tm = a.tm + ((0 : Nat) : Int); omega, fun _ _ => rfl⟩
  | x :: L, a => by
      obtain ⟨h1, h2, h3, h4, h5, h6⟩ := goL_f L (goA a x)
      obtain ⟨g0, g1, g2, g3, g4, g5, g6, g7, g8, g9, g10, g11, g12, g13⟩ := goA_f a x
      refine ⟨h1.trans g0, h2.trans g2, h3.trans g3, h4.trans g4, ?_, fun n hn => ?_⟩
      · show (goL (goA a x) L).tm = _
        rw [h5, g9]; simp only [List.length_cons]; omega
      · show (goL (goA a x) L).fd n = _
        rw [h6 n (fun z => hn (List.mem_cons_of_mem _ z)), g5, va_up_ne _ _ (fun z => hn (by rw [z]; exact List.mem_cons_self))]
theorem goL_end (a : AS) (L : List Nat) (n : Nat) : goL a (L ++ [n]) = goA (goL a L) n := by
  unfold goL; rw [List.foldl_append]; rfl
theorem fit_congr {a a' : AS} (h1 : a'.1 = a.1) (h2 : a'.fc = a.fc) {t : Nat} {m : Int32} {vs : Nat → Int32} {n : Nat} : fitB a' t m vs n = fitB a t m vs n := by
  have e : a'.co = a.co := congrArg A1.co h1
  unfold fitB
  rw [h2, e]
/-- who is there now has not gone -/
theorem there_now {a : AS} (h : AVr a) {t n : Nat} (hn : n ∈ a.rw t) : thereB a a.tm n = aliveB a n := by
  obtain ⟨-, -, -, h4, h5⟩ := h.2.2.2.1 t n hn
  unfold thereB aliveB
  rw [Bool.eq_iff_iff, decide_eq_true_eq, decide_eq_true_eq]
  omega
theorem alive_fd {a : AS} (h : AVr a) {t n : Nat} (hn : n ∈ a.rw t) (ha : aliveB a n = true) : a.fd n = -1 := by
  obtain ⟨-, -, h3, -, h5⟩ := h.2.2.2.1 t n hn
  have := of_decide_eq_true ha
  omega
/-- the search goes on where some of those ahead have gone -/
theorem ask_go {a : AS} (hV : AV a) {t : Nat} {m : Int32} {A S : List Nat} (hr : a.rw t = A ++ S) (p : Nat → Bool) {n : Nat} (hn : n ∈ S) (hV2 : AVr (goL a (A.filter p))) : askB (goL a (A.filter p)) t m a.vv (goL a (A.filter p)).tm n = (aliveB a n && fitB a t m a.vv n) := by
  obtain ⟨h1, h2, h3, h4, h5, h6⟩ := goL_f (A.filter p) a
  have hnr : n ∈ a.rw t := by rw [hr]; exact List.mem_append_right _ hn
  have hnA : n ∉ A.filter p := fun z => by
    have hd := hV.1.2.2.1 t
    rw [hr] at hd
    exact (List.nodup_append.mp hd).2.2 n (List.mem_filter.mp z).1 n hn rfl
  unfold askB
  rw [there_now hV2 (by rw [h2]; exact hnr), fit_congr h1 h3]
  unfold aliveB
  rw [h6 n hnA]
theorem find_congr {p p' : Nat → Bool} : ∀ {S : List Nat}, (∀ n, n ∈ S → p n = p' n) → S.find? p = S.find? p'
  | [], _ => rfl
  | x :: S, he => by
      rw [List.find?_cons, List.find?_cons, he x List.mem_cons_self, find_congr (fun n hn => he n (List.mem_cons_of_mem _ hn))]
theorem At_congr {sl : Nat → Nat} {p p' : Nat → Bool} {S : List Nat} {v : Int32} (h : At sl p S v) (he : ∀ n, n ∈ S → p n = p' n) : At sl p' S v := by
  unfold At at h ⊢
  rw [← find_congr he]; exact h
theorem rem_cases (a : AS) (t m l : Int32) : remCd a t m l = 0 ∧ tabOk a t ∨ remCd a t m l ≠ 0 := by
  unfold remCd
  split
  · split
    · exact Or.inl ⟨rfl, by assumption⟩
    · exact Or.inr (by decide)
  · exact Or.inr (by decide)
section RE
variable {b : MT} {fi : Nat → Int32} {ar : Nat → Nat → Int32} {mo M : Nat} {a : AS} {y : HS} {sl : Nat → Nat} {X X' : String → HS → Prop} {Q Q' : HS → Prop} {QI QI' : Int32 → HS → Prop}
theorem RXx_38 (h : RXx a sl fi ar) {v : Int32} : RXx a sl (va_up fi 38 v) ar := by
  unfold RXx RXs RXh RXo at h ⊢
  simp only [va_up_ne, ne_eq, Nat.reduceEqDiff, not_false_eq_true] at h ⊢
  exact h
theorem RXx_0 (h : RXx a sl fi ar) {v : Int32} : RXx a sl (va_up fi 0 v) ar := by
  unfold RXx RXs RXh RXo at h ⊢
  simp only [va_up_ne, ne_eq, Nat.reduceEqDiff, not_false_eq_true] at h ⊢
  exact h
/-- the codes of remove -/
theorem n_rem (hb : MB b) (hA : RA a.1 fi ar) {t m l : Int32} {K K' : Int32 → HS → Prop} (h : K (remCd a t m l) (mS b fi ar) → K' (remCd a t m l) (mS b fi ar)) :
    wRecv (mS b fi ar) 12 (some b.o) (w_X12_isMask (some b.o) m (mS b fi ar) (fun v2 x1 => wJoin (κ := Int32 → HS → Prop) K (fun j3 => wJoin (κ := HS → Prop) (fun x22 => j3 1 x22) (fun j21 => wIf (v2 = 0) (j21 x1) (wIf (l < 0) (j21 x1) (wIf (l ≤ 1) (wRecv x1 12 (some b.o) (w_X12_isTable (some b.o) t x1 (fun v26 x25 => wIf (v26 = 0) (j3 2 x25) (j3 0 x25)) X)) (j21 x1)))))) X) →
    wRecv (mS b fi ar) 12 (some b.o) (w_X12_isMask (some b.o) m (mS b fi ar) (fun v2 x1 => wJoin (κ := Int32 → HS → Prop) K' (fun j3 => wJoin (κ := HS → Prop) (fun x22 => j3 1 x22) (fun j21 => wIf (v2 = 0) (j21 x1) (wIf (l < 0) (j21 x1) (wIf (l ≤ 1) (wRecv x1 12 (some b.o) (w_X12_isTable (some b.o) t x1 (fun v26 x25 => wIf (v26 = 0) (j3 2 x25) (j3 0 x25)) X')) (j21 x1)))))) X') := by
  dsimp only [wJoin]
  unfold remCd at h
  refine n_isM hb (fun c => ?_) (fun c => ?_)
  · rw [if_neg (fun z => c z.1)] at h; exact h
  · refine qv_if (fun c2 => ?_) (fun c2 => ?_)
    · simp only [i32, Int32.reduceToInt] at c2
      rw [if_neg (fun z => by omega)] at h; exact h
    · simp only [i32, Int32.reduceToInt] at c2
      refine qv_if (fun c3 => ?_) (fun c3 => ?_)
      · simp only [i32, Int32.reduceToInt] at c3
        rw [if_pos ⟨c, by omega, c3⟩] at h
        refine n_isT hb hA (fun c4 => ?_) (fun c4 => ?_)
        · rw [if_neg c4] at h; exact h
        · rw [if_pos c4] at h; exact h
      · simp only [i32, Int32.reduceToInt] at c3
        rw [if_neg (fun z => by omega)] at h; exact h
theorem rc_remove (h : RM mo M a y) (hM : M < 300000) (t m l : Int32) : w_X12_remove (some mo) t m l y (fun r u => OK_remove a t m l (u.I mo 0) r ∧ RM mo (M + 1) (nx_remove a t m l) u) X := by
  obtain ⟨b, fi, ar, hb, rfl, rfl, hG, hA, hX, hV⟩ := h
  have h := t_remove (X := X) hb hG hM RG_ok t m l
  revert h
  obtain ⟨sl, hx⟩ := id hX
  have hx : RXx a sl fi ar := hx
  obtain ⟨hF, hK, hS, hH, hC, hO⟩ := id hx
  have hTm : a.tm < 1900000000 := by
    have := hG.1.2.2.2.1
    rw [hS.2.2.1] at this
    omega
  unfold w_X12_remove OK_remove nx_remove
  refine n_rem hb hA ?_
  rcases rem_cases a t m l with ⟨e0, ht⟩ | e0
  · rw [e0]
    rw [if_pos rfl]
    refine nv_f0 hb ?_
    refine nv_putI hb ?_
    have hti := tab_in ht
    refine n_getF hb (by decide) ?_
    refine nv_ald hb (by decide) (by decide) (fun _ => ?_)
    refine nv_getI hb ?_
    refine n_getF hb (by decide) ?_
    have hvs : ∀ k, k < 4 → ar 3 (ix 0 + k) = a.vv k := fun k hk => by rw [hA.1]; show a.vv (0 + k) = a.vv k; rw [Nat.zero_add]
    have hL := (hF.1 _ hti).1
    have x1 := RXx_38 (v := 0) (RXx_0 (v := 0) hx)
    have A1' : RA a.1 (va_up (va_up fi 0 0) 38 0) ar := RA_38 (RA_0 hA)
    have hpe : ∀ n, n ∈ a.rw (ix t) → askB a (ix t) m a.vv a.tm n = (aliveB a n && fitB a (ix t) m a.vv n) := fun n hn => by
      unfold askB; rw [there_now hV.1 hn]
    refine n_seekA hb hF A1' hV x1.2.2.1.2.2.2.2 ht (by decide) (by decide) (by decide) (by decide) (by decide) hvs (T' := a.tm) (by rw [va_up_ne _ _ (by decide), va_up_ne _ _ (by decide)]; exact hS.2.2.1) hL (fun n hn => hn) (fun r lk hr => ?_)
    rw [va_twice]
    have hr := At_congr hr hpe
    have x2 := RXx_38 (v := lk) (RXx_0 (v := 0) hx)
    have A2' : RA a.1 (va_up (va_up fi 0 0) 38 lk) ar := RA_38 (RA_0 hA)
    have t2 : va_up (va_up fi 0 0) 38 lk 0 = 0 := by rw [va_up_ne _ _ (by decide), va_up_self]
    generalize va_up (va_up fi 0 0) 38 lk = fj at x2 A2' t2 ⊢
    have hfin : ∀ (a' : AS) fi' ar' (v w : Int32), fi' 0 = 0 → RA a'.1 fi' ar' → RXx a' sl fi' ar' → AV a' → v = w → RG b M (ar 3) (mS b fi' ar') → EX 0 w ((mS b fi' ar').I b.o 0) v ∧ RM b.o (M + 1) a' (mS b fi' ar') := fun a' fi' ar' v w z1 z2 z3 z4 z5 hg => ⟨⟨by rw [rv_I]; exact z1, fun _ => z5⟩, RM_g hb hg z2 ⟨sl, z3⟩ z4⟩
    refine qv_if (fun c => ?_) (fun c => ?_)
    · -- the first alone
      have l0 : l.toInt = 0 := by rw [c]; decide
      rw [if_pos l0, if_pos l0]
      refine qv_if (fun c2 => ?_) (fun c2 => ?_)
      · simp only [i32, Int32.reduceToInt] at c2
        obtain ⟨S1, n, S2, q1, q2, q3, q4⟩ := At_pos hr c2
        have hn : n ∈ a.rw (ix t) := by rw [q1]; exact List.mem_append_right _ List.mem_cons_self
        have hal : aliveB a n = true := by
          have := q3
          simp only [Bool.and_eq_true] at this
          exact this.1
        have er : remT a (ix t) m = n :: S2.filter (fun n => aliveB a n && fitB a (ix t) m a.vv n) := by
          unfold remT; rw [q1]; exact filter_mid q2 q3
        rw [er]
        rw [m_recv hb, m_recv hb]
        refine n_go hb x2 hV hn q4 (by omega) (fun fi' ar' f1 x3 => ?_)
        refine n_getF hb (by decide) ?_
        refine nv_ald hb (by decide) (by decide) (fun _ => ?_)
        rw [ix_of q4]
        obtain ⟨g0, g1, g2, -⟩ := goA_f a n
        refine hfin (goA a n) _ _ _ _ (by rw [f1.1 0 (by decide)]; exact t2) ?_ x3 (av_go hV hn (alive_fd hV.1 hn hal)) ?_
        · rw [g0]; exact RA_fr A2' f1 (by decide) (by decide)
        · exact num_of (x3.1.2.1 _ n (by rw [g2]; exact hn)).2.2.2.2.1
      · simp only [i32, Int32.reduceToInt] at c2
        have er : remT a (ix t) m = [] := At_neg hr (by omega)
        rw [er]
        exact hfin a _ _ _ _ t2 A2' x2 hV rfl
    · -- all
      have l0 : ¬ l.toInt = 0 := fun z => c (i_ext (by rw [z]; decide))
      rw [if_neg l0, if_neg l0]
      refine n_loopV (fun v fi' ar' => fi' 0 = 0 ∧ ∃ A S, a.rw (ix t) = A ++ S ∧ v.1.toInt = ((A.filter (fun n => aliveB a n && fitB a (ix t) m a.vv n)).length : Int) ∧ At sl (fun n => aliveB a n && fitB a (ix t) m a.vv n) S v.2 ∧ RA a.1 fi' ar' ∧ RXx (goL a (A.filter (fun n => aliveB a n && fitB a (ix t) m a.vv n))) sl fi' ar' ∧ AV (goL a (A.filter (fun n => aliveB a n && fitB a (ix t) m a.vv n)))) ⟨t2, [], a.rw (ix t), rfl, by simp, hr, A2', x2, hV⟩ (fun v fi' ar' again again' ⟨z0, A, S, s1, s2, s3, s4, s5, s6⟩ ha => ?_)
      obtain ⟨p1, p2, p3, p4, p5, p6⟩ := goL_f (A.filter (fun n => aliveB a n && fitB a (ix t) m a.vv n)) a
      refine qv_if (fun c => ?_) (fun c => ?_)
      · simp only [i32, Int32.reduceToInt] at c
        have er : remT a (ix t) m = A.filter (fun n => aliveB a n && fitB a (ix t) m a.vv n) := by
          unfold remT; rw [s1, List.filter_append, At_neg s3 c, List.append_nil]
        rw [er]
        exact hfin _ _ _ _ _ z0 (by rw [p1]; exact s4) s5 s6 (num_of s2)
      · simp only [i32, Int32.reduceToInt] at c
        obtain ⟨S1, n, S2, q1, q2, q3, q4⟩ := At_pos s3 (by omega)
        subst q1
        have hn : n ∈ a.rw (ix t) := by rw [s1]; exact List.mem_append_right _ (List.mem_append_right _ List.mem_cons_self)
        have hd := hV.1.2.2.1 (ix t)
        have hnA : n ∉ A.filter (fun n => aliveB a n && fitB a (ix t) m a.vv n) := fun z => by
          rw [s1] at hd
          exact (List.nodup_append.mp hd).2.2 n (List.mem_filter.mp z).1 n (List.mem_append_right _ List.mem_cons_self) rfl
        have hal : aliveB a n = true := by
          have := q3
          simp only [Bool.and_eq_true] at this
          exact this.1
        have hlen : (A.filter (fun n => aliveB a n && fitB a (ix t) m a.vv n)).length + 1 ≤ 3000 := by
          have h1 : (A.filter (fun n => aliveB a n && fitB a (ix t) m a.vv n)).length + 1 ≤ (a.rw (ix t)).length := by
            rw [s1]
            have := List.length_filter_le (fun n => aliveB a n && fitB a (ix t) m a.vv n) A
            simp only [List.length_append, List.length_cons]; omega
          have h2 := row_le hV (ix t)
          omega
        rw [m_recv hb, m_recv hb]
        have hn' : n ∈ (goL a (A.filter (fun n => aliveB a n && fitB a (ix t) m a.vv n))).rw (ix t) := by rw [p2]; exact hn
        have hfd : (goL a (A.filter (fun n => aliveB a n && fitB a (ix t) m a.vv n))).fd n = -1 := by rw [p6 n hnA]; exact alive_fd hV.1 hn hal
        refine n_go hb s5 s6 hn' q4 (by rw [p5]; omega) (fun fi2 ar2 f1 x3 => ?_)
        have eF : (A ++ S1 ++ [n]).filter (fun n => aliveB a n && fitB a (ix t) m a.vv n) = A.filter (fun n => aliveB a n && fitB a (ix t) m a.vv n) ++ [n] := by
          rw [List.filter_append, List.filter_append, q2, List.append_nil, List.filter_cons_of_pos (p := fun n => aliveB a n && fitB a (ix t) m a.vv n) q3]; rfl
        have e5 : goA (goL a (A.filter (fun n => aliveB a n && fitB a (ix t) m a.vv n))) n = goL a ((A ++ S1 ++ [n]).filter (fun n => aliveB a n && fitB a (ix t) m a.vv n)) := by
          rw [eF, goL_end]
        have v3 := av_go s6 hn' hfd
        rw [e5] at x3 v3
        obtain ⟨p1', p2', p3', p4', p5', p6'⟩ := goL_f ((A ++ S1 ++ [n]).filter (fun n => aliveB a n && fitB a (ix t) m a.vv n)) a
        have s1' : a.rw (ix t) = (A ++ S1 ++ [n]) ++ S2 := by rw [s1]; simp
        refine n_getF hb (by decide) ?_
        refine nv_ald hb (by decide) (by decide) (fun _ => ?_)
        rw [ix_of q4]
        refine nv_getI hb ?_
        refine n_getF hb (by decide) ?_
        have A3 : RA a.1 fi2 ar2 := RA_fr s4 f1 (by decide) (by decide)
        have hL2 : LnK (ar2 18) (ar2 18 (sl n)) (S2.map sl) := by
          have h1 := (x3.1.1 (ix t) (by
            have : (goL a ((A ++ S1 ++ [n]).filter (fun n => aliveB a n && fitB a (ix t) m a.vv n))).tn = a.tn := congrArg A1.tn p1'
            unfold inT; rw [this]; exact hti)).1
          rw [p2', s1', List.append_assoc] at h1
          exact LnK_tail (A := A ++ S1) (by simpa using h1)
        have ht' : tabOk (goL a ((A ++ S1 ++ [n]).filter (fun n => aliveB a n && fitB a (ix t) m a.vv n))) t := by
          have : (goL a ((A ++ S1 ++ [n]).filter (fun n => aliveB a n && fitB a (ix t) m a.vv n))).tn = a.tn := congrArg A1.tn p1'
          unfold tabOk; rw [this]; exact ht
        refine n_seekA hb x3.1 (by rw [p1']; exact A3) v3 x3.2.2.1.2.2.2.2 ht' (by decide) (by decide) (by decide) (by decide) (by decide) (vs := a.vv) (fun k hk => by rw [A3.1]; show a.vv (0 + k) = a.vv k; rw [Nat.zero_add]) x3.2.2.1.2.2.1 hL2 (fun n' hn' => by rw [p2', s1']; exact List.mem_append_right _ hn') (fun r' lk' hr' => ?_)
        refine ha _ _ _ ⟨by rw [va_up_ne _ _ (by decide), f1.1 0 (by decide)]; exact z0, A ++ S1 ++ [n], S2, s1', ?_, At_congr hr' (fun n' hn' => ask_go hV s1' _ hn' v3.1), RA_38 A3, RXx_38 x3, v3⟩
        show (v.1 + 1).toInt = _
        rw [eF, i_add s2 (show (1 : Int32).toInt = 1 by decide) (by omega)]
        simp
  · have : ¬ (remCd a t m l = 0) := e0
    rw [if_neg this]
    refine nv_fN hb e0 (fun hg => ⟨⟨by rw [rv_I, va_up_self], fun z => absurd z e0⟩, RM_g hb hg (RA_0 hA) (RX_0 hX) hV⟩)
end RE
