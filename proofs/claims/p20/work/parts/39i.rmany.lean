set_option linter.unusedVariables false
set_option linter.unusedSimpArgs false
/-! the reference: many, remove -/
theorem LnK_tail {nx : Nat → Int32} {h : Int32} {sl : Nat → Nat} {A B : List Nat} {n : Nat} (hl : LnK nx h ((A ++ n :: B).map sl)) : LnK nx (nx (sl n)) (B.map sl) := by
  rw [List.map_append, List.map_cons] at hl
  obtain ⟨k, -, h2⟩ := LnK_app.mp hl
  exact (LnK_cons.mp h2).2
/-- where a search stands: A is behind it, the next in S is p's first -/
def At (sl : Nat → Nat) (p : Nat → Bool) (S : List Nat) (v : Int32) : Prop := match S.find? p with
  | none => v.toInt = -1
  | some n => v.toInt = (sl n : Int)
theorem At_neg {sl : Nat → Nat} {p : Nat → Bool} {S : List Nat} {v : Int32} (h : At sl p S v) (h0 : v.toInt < 0) : S.filter p = [] := by
  unfold At at h
  cases hf : S.find? p with
  | none =>
    have := List.find?_eq_none.mp hf
    exact List.filter_eq_nil_iff.mpr this
  | some n => rw [hf] at h; have h : v.toInt = (sl n : Int) := h; omega
theorem At_pos {sl : Nat → Nat} {p : Nat → Bool} {S : List Nat} {v : Int32} (h : At sl p S v) (h0 : 0 ≤ v.toInt) : ∃ S1 n S2, S = S1 ++ n :: S2 ∧ S1.filter p = [] ∧ p n = true ∧ v.toInt = (sl n : Int) := by
  unfold At at h
  cases hf : S.find? p with
  | none => rw [hf] at h; have h : v.toInt = -1 := h; omega
  | some n =>
    rw [hf] at h
    have h : v.toInt = (sl n : Int) := h
    obtain ⟨h1, S1, S2, h2, h3⟩ := List.find?_eq_some_iff_append.mp hf
    refine ⟨S1, n, S2, h2, List.filter_eq_nil_iff.mpr (fun x hx => ?_), h1, h⟩
    have := h3 x hx
    simpa using this
theorem filter_mid {p : Nat → Bool} {S1 S2 : List Nat} {n : Nat} (h1 : S1.filter p = []) (h2 : p n = true) : (S1 ++ n :: S2).filter p = n :: S2.filter p := by
  rw [List.filter_append, h1, List.filter_cons_of_pos h2]; rfl
section RD
variable {b : MT} {fi : Nat → Int32} {ar : Nat → Nat → Int32} {mo M : Nat} {a : AS} {y : HS} {sl : Nat → Nat} {X X' : String → HS → Prop} {Q Q' : HS → Prop} {QI QI' : Int32 → HS → Prop}
/-- a search in a row -/
theorem n_seekA (hb : MB b) (hF : RXf a sl ar) (hA : RA a.1 fi ar) (hV : AV a) (h39 : fi 39 = 0) {t from_ m T s : Int32} {j : Nat} {vs : Nat → Int32} {T' : Int} {S : List Nat} (ht : tabOk a t) (hj : j ∈ mIds) (hk : mKind j = 20) (hs : 0 ≤ s.toInt) (hs2 : s.toInt + 4 ≤ mLen j) (hl : mLen j ≤ 12000) (hv : ∀ k, k < 4 → ar j (ix s + k) = vs k) (hT : T.toInt = T') (hL : LnK (ar 18) from_ (S.map sl)) (hS : ∀ n, n ∈ S → n ∈ a.rw (ix t))
    (h : ∀ r lk, At sl (askB a (ix t) m vs T') S r → QI r (mS b (va_up fi 38 lk) ar) → QI' r (mS b (va_up fi 38 lk) ar)) : wRecv (mS b fi ar) 12 (some b.o) (w_X12_seek (some b.o) t from_ m T (some (b.a j)) s (mS b fi ar) QI X) → wRecv (mS b fi ar) 12 (some b.o) (w_X12_seek (some b.o) t from_ m T (some (b.a j)) s (mS b fi ar) QI' X') := by
  rw [m_recv hb, m_recv hb]
  have hti := tab_in ht
  refine n_seek hb (L := S.map sl) hj hk hs hs2 hl (by rw [(hA.2.2.2 _ hti).1]; exact (hV.2.1.2 _ hti).2.1.2) h39 hL (slots_ok hF ht hS) (fun r lk hr => h r lk ?_)
  rw [find_sl hF hA hti hv hT hS] at hr
  unfold At
  cases hf : S.find? (askB a (ix t) m vs T') with
  | none => rw [hf] at hr; exact hr
  | some n => rw [hf] at hr; exact hr
theorem rc_many (h : RM mo M a y) (hM : M < 300000) (t m q : Int32) : w_X12_many (some mo) t m q y (fun r u => OK_many a t m q (u.I mo 0) r ∧ RM mo (M + 1) (nx_many a t m q) u) X := by
  obtain ⟨b, fi, ar, hb, rfl, rfl, hG, hA, hX, hV⟩ := h
  have h := t_many (X := X) hb hG RG_ok t m q
  revert h
  obtain ⟨sl, hF, hK, hS, hH, hC, hO⟩ := id hX
  unfold w_X12_many OK_many nx_many
  refine n_ask hb hA hS ?_
  rcases ask_cases a t m q with ⟨e0, ht⟩ | e0
  · rw [e0]
    refine nv_f0 hb ?_
    refine nv_putI hb ?_
    have hti := tab_in ht
    refine n_getF hb (by decide) ?_
    refine nv_ald hb (by decide) (by decide) (fun _ => ?_)
    have hS2 : ∀ lk, RXs a (va_up (va_up fi 0 0) 38 lk) := fun lk => by
      simp only [RXs, va_up_ne, ne_eq, Nat.reduceEqDiff, not_false_eq_true]; exact hS
    have h39 : ∀ lk, va_up (va_up fi 0 0) 38 lk 39 = 0 := fun lk => (hS2 lk).2.2.2.2
    have hA2 : ∀ lk, RA a.1 (va_up (va_up fi 0 0) 38 lk) ar := fun lk => RA_38 (RA_0 hA)
    have hvs : ∀ k, k < 4 → ar 3 (ix 0 + k) = a.vv k := fun k hk => by rw [hA.1]; show a.vv (0 + k) = a.vv k; rw [Nat.zero_add]
    refine n_timeOf hb (hS2 0) (fun T hT => ?_)
    refine n_getF hb (by decide) ?_
    have hL := (hF.1 _ hti).1
    refine n_seekA hb hF (hA2 0) hV (h39 0) ht (by decide) (by decide) (by decide) (by decide) (by decide) hvs hT hL (fun n hn => hn) (fun r lk hr => ?_)
    rw [va_twice]
    refine n_loopV (fun v fi' ar' => ar' = ar ∧ (∃ lk, fi' = va_up (va_up fi 0 0) 38 lk) ∧ ∃ A S, a.rw (ix t) = A ++ S ∧ v.1.toInt = ((A.filter (askB a (ix t) m a.vv (timeOf a q))).length : Int) ∧ At sl (askB a (ix t) m a.vv (timeOf a q)) S v.2) ⟨rfl, ⟨lk, rfl⟩, [], a.rw (ix t), rfl, by simp, hr⟩ (fun v fi' ar' again again' ⟨e2, ⟨lk, e1⟩, A, S, s1, s2, s3⟩ ha => ?_)
    subst e1; subst e2
    refine qv_if (fun c => ?_) (fun c => ?_)
    · simp only [i32, Int32.reduceToInt] at c
      intro hg
      refine ⟨⟨by rw [rv_I, va_up_ne _ _ (by decide), va_up_self], fun _ => ?_⟩, RM_g hb hg (RA_38 (RA_0 hA)) (RX_38 (RX_0 hX)) hV⟩
      rw [s1, List.filter_append, At_neg s3 c, List.append_nil]
      exact num_of s2
    · simp only [i32, Int32.reduceToInt] at c
      obtain ⟨S1, n, S2, q1, q2, q3, q4⟩ := At_pos s3 (by omega)
      subst q1
      refine n_getF hb (by decide) ?_
      refine nv_ald hb (by decide) (by decide) (fun _ => ?_)
      rw [ix_of q4]
      refine n_timeOf hb (hS2 lk) (fun T hT => ?_)
      refine n_getF hb (by decide) ?_
      have hL2 : LnK (ar' 18) (ar' 18 (sl n)) (S2.map sl) := by
        rw [s1, ← List.append_assoc] at hL
        exact LnK_tail hL
      refine n_seekA hb hF (hA2 lk) hV (h39 lk) ht (by decide) (by decide) (by decide) (by decide) (by decide) hvs hT hL2 (fun n' hn' => by rw [s1]; exact List.mem_append_right _ (List.mem_append_right _ (List.mem_cons_of_mem _ hn'))) (fun r' lk' hr' => ?_)
      rw [va_twice]
      refine ha _ _ _ ⟨rfl, ⟨lk', rfl⟩, A ++ S1 ++ [n], S2, by rw [s1]; simp, ?_, hr'⟩
      have hlen : (A.filter (askB a (ix t) m a.vv (timeOf a q))).length < 3000 := by
        have h1 : (A.filter (askB a (ix t) m a.vv (timeOf a q))).length + 1 ≤ (a.rw (ix t)).length := by
          rw [s1]
          have := List.length_filter_le (askB a (ix t) m a.vv (timeOf a q)) A
          simp only [List.length_append, List.length_cons]; omega
        have h2 := row_le hV (ix t)
        omega
      show (v.1 + 1).toInt = _
      rw [List.filter_append, List.filter_append, q2, List.filter_cons_of_pos q3, i_add s2 (show (1 : Int32).toInt = 1 by decide) (by omega)]
      simp
  · refine nv_fN hb e0 (fun hg => ⟨⟨by rw [rv_I, va_up_self], fun z => absurd z e0⟩, RM_g hb hg (RA_0 hA) (RX_0 hX) hV⟩)
end RD
