set_option linter.unusedVariables false
set_option linter.unusedSimpArgs false
/-! the reference asks -/
theorem i_of {v : Int32} {i : Nat} (h : v.toInt = (i : Int)) : v = Int32.ofNat i := i_ext (by
  have := (i_rng v).2
  rw [Int32.toInt_ofNat_of_lt (by omega)]; exact h)
theorem ofI {v : Int32} {z : Int} (h : v.toInt = z) : v = Int32.ofInt z := by rw [← h]; exact (Int32.ofInt_toInt v).symm
theorem bitm_iff {m v : Int32} {i : Nat} (h : v.toInt = (i : Int)) : ((m >>> (v &&& 31)) &&& 1) = 1 ↔ bitm m i = true := by
  rw [i_of h]; unfold bitm; exact (beq_iff_eq).symm
theorem range_all {p : Nat → Bool} {n : Nat} : (List.range n).all p = true ↔ ∀ k, k < n → p k = true := by
  rw [List.all_eq_true]
  exact ⟨fun h k hk => h k (List.mem_range.mpr hk), fun h k hk => h k (List.mem_range.mp hk)⟩
/-- column k of the slot f fits -/
def okS (ar : Nat → Nat → Int32) (f : Nat) (m : Int32) (j s k : Nat) : Bool := !(bitm m k && decide ((k : Int) < (ar 4 (ix (ar 12 f))).toInt)) || ar 13 (4 * f + k) == ar j (s + k)
def fitS (ar : Nat → Nat → Int32) (f : Nat) (m : Int32) (j s : Nat) : Bool := (List.range 4).all (okS ar f m j s)
def thS (ar : Nat → Nat → Int32) (f : Nat) (T : Int32) : Bool := decide ((ar 15 f).toInt ≤ T.toInt ∧ ((ar 16 f).toInt < 0 ∨ T.toInt < (ar 16 f).toInt))
section RA1
variable {b : MT} {fi : Nat → Int32} {ar : Nat → Nat → Int32} {X X' : String → HS → Prop} {Q Q' : HS → Prop} {QI QI' : Int32 → HS → Prop}
theorem e_isTime (hb : MB b) (q : Int32) : w_X12_isTime (some b.o) q (mS b fi ar) QI X = QI (if q.toInt = -1 ∨ (fi 23).toInt ≤ q.toInt ∧ q.toInt ≤ (fi 22).toInt then 1 else 0) (mS b fi ar) := by
  simp only [w_X12_isTime, wJoin, wIf, wBit0, wBit1, mw hb]
  have e1 : q = -1 ↔ q.toInt = -1 := ⟨fun z => by rw [z]; decide, fun z => i_ext (by rw [z]; decide)⟩
  simp only [e1, i32]
  by_cases h1 : q.toInt = -1
  · simp [h1]
  · by_cases h2 : q.toInt < (fi 23).toInt
    · have : ¬ (fi 23).toInt ≤ q.toInt := by omega
      simp [h1, h2, this]
    · by_cases h3 : q.toInt ≤ (fi 22).toInt
      · have : (fi 23).toInt ≤ q.toInt := by omega
        have h4 : ¬ (fi 22).toInt < q.toInt := by omega
        simp [h1, h2, h3, this, h4]
      · have h4 : (fi 22).toInt < q.toInt := by omega
        simp [h1, h2, h3, h4]
theorem e_timeOf (hb : MB b) (q : Int32) : w_X12_timeOf (some b.o) q (mS b fi ar) QI X = QI (if q.toInt = -1 then fi 22 else q) (mS b fi ar) := by
  simp only [w_X12_timeOf, wJoin, wIf, mw hb]
  have e1 : q = -1 ↔ q.toInt = -1 := ⟨fun z => by rw [z]; decide, fun z => i_ext (by rw [z]; decide)⟩
  simp only [e1]
  by_cases h1 : q.toInt = -1 <;> simp [h1]
theorem n_isThere (hb : MB b) {f T : Int32} (h : wIn f 3000 → QI (if thS ar (ix f) T then 1 else 0) (mS b fi ar) → QI' (if thS ar (ix f) T then 1 else 0) (mS b fi ar)) : w_X12_isThere (some b.o) f T (mS b fi ar) QI X → w_X12_isThere (some b.o) f T (mS b fi ar) QI' X' := by
  by_cases hf : wIn f 3000
  · rw [s_isThere hb _ _ hf, s_isThere hb _ _ hf]
    have e : (if ar 15 (ix f) ≤ T ∧ (ar 16 (ix f) < 0 ∨ T < ar 16 (ix f)) then (1 : Int32) else 0) = if thS ar (ix f) T then 1 else 0 := by
      unfold thS
      simp only [i32, Int32.reduceToInt, decide_eq_true_eq]
    rw [e]
    exact h hf
  · simp only [w_X12_isThere, mw hb]
    exact fun z => absurd z.1 hf
theorem n_fits (hb : MB b) {f m s : Int32} {j : Nat} (hj : j ∈ mIds) (hk : mKind j = 20) (hs : 0 ≤ s.toInt) (hs2 : s.toInt + 4 ≤ mLen j) (hl : mLen j ≤ 12000) (hc : (ar 4 (ix (ar 12 (ix f)))).toInt ≤ 4) (h : wIn f 3000 → QI (if fitS ar (ix f) m j (ix s) then 1 else 0) (mS b fi ar) → QI' (if fitS ar (ix f) m j (ix s) then 1 else 0) (mS b fi ar)) : w_X12_fits (some b.o) f m (some (b.a j)) s (mS b fi ar) QI X → w_X12_fits (some b.o) f m (some (b.a j)) s (mS b fi ar) QI' X' := by
  unfold w_X12_fits
  refine n_getF hb (by decide) ?_
  refine n_getF hb (by decide) ?_
  refine nv_ald hb (by decide) (by decide) (fun hf => ?_)
  have hf' : wIn f 3000 := hf
  have hif : ((ix f : Nat) : Int) = f.toInt := ix_int hf'.1
  have hf2 : f.toInt < 3000 := hf'.2
  have his : ((ix s : Nat) : Int) = s.toInt := ix_int hs
  refine nv_ald hb (by decide) (by decide) (fun _ => ?_)
  refine n_loopV (fun v fi' ar' => fi' = fi ∧ ar' = ar ∧ ∃ i : Nat, v.toInt = (i : Int) ∧ i ≤ 4 ∧ ∀ k, k < i → okS ar (ix f) m j (ix s) k = true) ⟨rfl, rfl, 0, by decide, by omega, fun k hk => absurd hk (by omega)⟩ (fun v fi' ar' again again' ⟨e1, e2, i, i1, i2, i3⟩ ha => ?_)
  subst e1; subst e2
  refine qv_if (fun c => ?_) (fun c => ?_)
  · simp only [i32] at c
    have : fitS ar' (ix f) m j (ix s) = true := range_all.mpr (fun k hk => by
      by_cases hki : k < i
      · exact i3 k hki
      · have : ¬ ((k : Int) < (ar' 4 (ix (ar' 12 (ix f)))).toInt) := by omega
        unfold okS
        simp [this])
    rw [this] at h
    exact q_bit (h hf')
  · simp only [i32] at c
    have hv : (v + 1).toInt = ((i + 1 : Nat) : Int) := by rw [i_add i1 (show (1 : Int32).toInt = 1 by decide) (by omega)]; omega
    have go : okS ar' (ix f) m j (ix s) i = true → again (v + 1) (mS b fi' ar') → again' (v + 1) (mS b fi' ar') := fun hok => ha _ _ _ ⟨rfl, rfl, i + 1, hv, by omega, fun k hk => by
      by_cases e : k = i
      · rw [e]; exact hok
      · exact i3 k (by omega)⟩
    dsimp only [wJoin]
    refine qv_if (fun c2 => ?_) (fun c2 => go ?_)
    · have hb1 := (bitm_iff i1).mp c2
      refine n_getF hb (by decide) ?_
      have e4 : ((4 : Int32) * f + v).toInt = ((4 * ix f + i : Nat) : Int) := by
        rw [i_add (i_mul (show (4 : Int32).toInt = 4 by decide) rfl (by omega)) i1 (by omega)]; omega
      have es : (s + v).toInt = ((ix s + i : Nat) : Int) := by rw [i_add rfl i1 (by omega)]; omega
      refine nv_ald hb (by decide) (by decide) (fun _ => ?_)
      refine nv_ald hb hj hk (fun _ => ?_)
      rw [ix_of e4, ix_of es]
      refine qv_if (fun c3 => go ?_) (fun c3 => ?_)
      · unfold okS; rw [c3]; simp
      · have : fitS ar' (ix f) m j (ix s) = false := by
          rw [Bool.eq_false_iff]
          intro z
          have := range_all.mp z i (by omega)
          unfold okS at this
          have hd : (i : Int) < (ar' 4 (ix (ar' 12 (ix f)))).toInt := by omega
          simp [hb1, hd, c3] at this
        rw [this] at h
        exact q_bit (h hf')
    · have : bitm m i = false := by rw [Bool.eq_false_iff]; exact fun z => c2 ((bitm_iff i1).mpr z)
      unfold okS
      simp [this]
/-- the column by whose index is looked; none: -1. It is in the mask -/
theorem n_indexOf (hb : MB b) {t m : Int32} (hc : (ar 4 (ix t)).toInt ≤ 4) (h : ∀ r : Int32, (r.toInt = -1 ∨ ∃ k : Nat, r.toInt = (k : Int) ∧ k < 4 ∧ (k : Int) < (ar 4 (ix t)).toInt ∧ bitm m k = true) → QI r (mS b fi ar) → QI' r (mS b fi ar)) : w_X12_indexOf (some b.o) t m (mS b fi ar) QI X → w_X12_indexOf (some b.o) t m (mS b fi ar) QI' X' := by
  unfold w_X12_indexOf
  refine n_loopV (fun v fi' ar' => fi' = fi ∧ ar' = ar ∧ ∃ i : Nat, v.toInt = (i : Int) ∧ i ≤ 4) ⟨rfl, rfl, 0, by decide, by omega⟩ (fun v fi' ar' again again' ⟨e1, e2, i, i1, i2⟩ ha => ?_)
  subst e1; subst e2
  refine n_getF hb (by decide) ?_
  refine nv_ald hb (by decide) (by decide) (fun _ => ?_)
  refine qv_if (fun c => h _ (Or.inl (by decide))) (fun c => ?_)
  simp only [i32] at c
  have hv : (v + 1).toInt = ((i + 1 : Nat) : Int) := by rw [i_add i1 (show (1 : Int32).toInt = 1 by decide) (by omega)]; omega
  have go : again (v + 1) (mS b fi' ar') → again' (v + 1) (mS b fi' ar') := ha _ _ _ ⟨rfl, rfl, i + 1, hv, by omega⟩
  dsimp only [wJoin]
  refine qv_if (fun c2 => ?_) (fun c2 => go)
  refine n_getF hb (by decide) ?_
  refine nv_ald hb (by decide) (by decide) (fun _ => ?_)
  refine qv_if (fun c3 => h _ (Or.inr ⟨i, i1, by omega, by omega, (bitm_iff i1).mp c2⟩)) (fun c3 => go)
/-- the first slot of the list that fits and is there -/
theorem n_seek (hb : MB b) {t from_ m T s : Int32} {j : Nat} {L : List Nat} (hj : j ∈ mIds) (hk : mKind j = 20) (hs : 0 ≤ s.toInt) (hs2 : s.toInt + 4 ≤ mLen j) (hl : mLen j ≤ 12000) (hc : (ar 4 (ix t)).toInt ≤ 4) (ha0 : fi 39 = 0) (hL : LnK (ar 18) from_ L) (hT : ∀ f, f ∈ L → f < 3000 ∧ ix (ar 12 f) = ix t)
    (h : ∀ r lk, (match L.find? (fun f => thS ar f T && fitS ar f m j (ix s)) with | none => r.toInt = -1 | some f => r.toInt = (f : Int)) → QI r (mS b (va_up fi 38 lk) ar) → QI' r (mS b (va_up fi 38 lk) ar)) : w_X12_seek (some b.o) t from_ m T (some (b.a j)) s (mS b fi ar) QI X → w_X12_seek (some b.o) t from_ m T (some (b.a j)) s (mS b fi ar) QI' X' := by
  unfold w_X12_seek
  rw [m_recv hb, m_recv hb]
  refine n_indexOf hb hc (fun kr hkr => ?_)
  have his : ((ix s : Nat) : Int) = s.toInt := ix_int hs
  refine n_loopV (fun v fi' ar' => ar' = ar ∧ (∃ lk, fi' = va_up fi 38 lk) ∧ ∃ L', LnK (ar 18) v L' ∧ (∀ f, f ∈ L' → f ∈ L) ∧ L.find? (fun f => thS ar f T && fitS ar f m j (ix s)) = L'.find? (fun f => thS ar f T && fitS ar f m j (ix s))) ⟨rfl, ⟨fi 38, (va_same fi 38).symm⟩, L, hL, fun f hf => hf, rfl⟩ (fun v fi' ar' again again' ⟨e2, ⟨lk, e1⟩, L', l1, l2, l3⟩ hag => ?_)
  subst e1; subst e2
  rw [l3] at h
  refine qv_if (fun c => ?_) (fun c => ?_)
  · simp only [i32, Int32.reduceToInt] at c
    rw [LnK_neg l1 c] at h
    exact h _ lk (by show (-1 : Int32).toInt = -1; decide)
  · simp only [i32, Int32.reduceToInt] at c
    have c0 : 0 ≤ v.toInt := by omega
    obtain ⟨L2, rfl, m2⟩ := LnK_pos l1 c0
    have hiv : ((ix v : Nat) : Int) = v.toInt := ix_int c0
    obtain ⟨hf3, hft⟩ := hT (ix v) (l2 _ List.mem_cons_self)
    have hvw : wIn v 3000 := ⟨c0, by omega⟩
    -- behind it
    have go : ∀ lk', (thS ar' (ix v) T && fitS ar' (ix v) m j (ix s)) = false → again (ar' 18 (ix v)) (mS b (va_up fi 38 lk') ar') → again' (ar' 18 (ix v)) (mS b (va_up fi 38 lk') ar') := fun lk' hno => hag _ _ _ ⟨rfl, ⟨lk', rfl⟩, L2, m2, fun f hf => l2 f (List.mem_cons_of_mem _ hf), by rw [l3, List.find?_cons_of_neg (by simp [hno])]⟩
    have j7 : ∀ lk', (thS ar' (ix v) T && fitS ar' (ix v) m j (ix s)) = false → (wGetF (mS b (va_up fi 38 lk') ar') 12 18 (some b.o) fun v9 => wAldJ (mS b (va_up fi 38 lk') ar') 20 v9 v fun v10 => again v10 (mS b (va_up fi 38 lk') ar')) → (wGetF (mS b (va_up fi 38 lk') ar') 12 18 (some b.o) fun v9 => wAldJ (mS b (va_up fi 38 lk') ar') 20 v9 v fun v10 => again' v10 (mS b (va_up fi 38 lk') ar')) := fun lk' hno => n_getF hb (by decide) (nv_ald hb (by decide) (by decide) (fun _ => go lk' hno))
    dsimp only [wJoin]
    have j11 : (wGetI (mS b (va_up fi 38 lk) ar') 12 38 (some b.o) fun v13 => wPutI (mS b (va_up fi 38 lk) ar') 12 38 (some b.o) (v13 + 1) fun x14 => wRecv x14 12 (some b.o) (w_X12_isThere (some b.o) v T x14 (fun v16 x15 => wIf (v16 = 0) (wGetI x15 12 38 (some b.o) fun v19 => wIf (v19 ≤ 50000) (wGetF x15 12 18 (some b.o) fun v9 => wAldJ x15 20 v9 v fun v10 => again v10 x15) (wGetI x15 12 39 (some b.o) fun v20 => wIf (v20 = 0) (wGetF x15 12 18 (some b.o) fun v9 => wAldJ x15 20 v9 v fun v10 => again v10 x15) (QI (-1) x15))) (wRecv x15 12 (some b.o) (w_X12_fits (some b.o) v m (some (b.a j)) s x15 (fun v22 x21 => wIf (v22 = 0) (wGetI x21 12 38 (some b.o) fun v19 => wIf (v19 ≤ 50000) (wGetF x21 12 18 (some b.o) fun v9 => wAldJ x21 20 v9 v fun v10 => again v10 x21) (wGetI x21 12 39 (some b.o) fun v20 => wIf (v20 = 0) (wGetF x21 12 18 (some b.o) fun v9 => wAldJ x21 20 v9 v fun v10 => again v10 x21) (QI (-1) x21))) (QI v x21)) X))) X)) → (wGetI (mS b (va_up fi 38 lk) ar') 12 38 (some b.o) fun v13 => wPutI (mS b (va_up fi 38 lk) ar') 12 38 (some b.o) (v13 + 1) fun x14 => wRecv x14 12 (some b.o) (w_X12_isThere (some b.o) v T x14 (fun v16 x15 => wIf (v16 = 0) (wGetI x15 12 38 (some b.o) fun v19 => wIf (v19 ≤ 50000) (wGetF x15 12 18 (some b.o) fun v9 => wAldJ x15 20 v9 v fun v10 => again' v10 x15) (wGetI x15 12 39 (some b.o) fun v20 => wIf (v20 = 0) (wGetF x15 12 18 (some b.o) fun v9 => wAldJ x15 20 v9 v fun v10 => again' v10 x15) (QI' (-1) x15))) (wRecv x15 12 (some b.o) (w_X12_fits (some b.o) v m (some (b.a j)) s x15 (fun v22 x21 => wIf (v22 = 0) (wGetI x21 12 38 (some b.o) fun v19 => wIf (v19 ≤ 50000) (wGetF x21 12 18 (some b.o) fun v9 => wAldJ x21 20 v9 v fun v10 => again' v10 x21) (wGetI x21 12 39 (some b.o) fun v20 => wIf (v20 = 0) (wGetF x21 12 18 (some b.o) fun v9 => wAldJ x21 20 v9 v fun v10 => again' v10 x21) (QI' (-1) x21))) (QI' v x21)) X'))) X')) := by
      refine nv_getI hb ?_
      rw [va_up_self]
      refine nv_putI hb ?_
      rw [va_twice]
      have e39 : va_up fi 38 (lk + 1) 39 = 0 := by rw [va_up_ne _ _ (by decide)]; exact ha0
      have j17 : (thS ar' (ix v) T && fitS ar' (ix v) m j (ix s)) = false → (wGetI (mS b (va_up fi 38 (lk + 1)) ar') 12 38 (some b.o) fun v19 => wIf (v19 ≤ 50000) (wGetF (mS b (va_up fi 38 (lk + 1)) ar') 12 18 (some b.o) fun v9 => wAldJ (mS b (va_up fi 38 (lk + 1)) ar') 20 v9 v fun v10 => again v10 (mS b (va_up fi 38 (lk + 1)) ar')) (wGetI (mS b (va_up fi 38 (lk + 1)) ar') 12 39 (some b.o) fun v20 => wIf (v20 = 0) (wGetF (mS b (va_up fi 38 (lk + 1)) ar') 12 18 (some b.o) fun v9 => wAldJ (mS b (va_up fi 38 (lk + 1)) ar') 20 v9 v fun v10 => again v10 (mS b (va_up fi 38 (lk + 1)) ar')) (QI (-1) (mS b (va_up fi 38 (lk + 1)) ar')))) → (wGetI (mS b (va_up fi 38 (lk + 1)) ar') 12 38 (some b.o) fun v19 => wIf (v19 ≤ 50000) (wGetF (mS b (va_up fi 38 (lk + 1)) ar') 12 18 (some b.o) fun v9 => wAldJ (mS b (va_up fi 38 (lk + 1)) ar') 20 v9 v fun v10 => again' v10 (mS b (va_up fi 38 (lk + 1)) ar')) (wGetI (mS b (va_up fi 38 (lk + 1)) ar') 12 39 (some b.o) fun v20 => wIf (v20 = 0) (wGetF (mS b (va_up fi 38 (lk + 1)) ar') 12 18 (some b.o) fun v9 => wAldJ (mS b (va_up fi 38 (lk + 1)) ar') 20 v9 v fun v10 => again' v10 (mS b (va_up fi 38 (lk + 1)) ar')) (QI' (-1) (mS b (va_up fi 38 (lk + 1)) ar')))) := fun hno => nv_getI hb (qv_if (fun _ => j7 _ hno) (fun _ => nv_getI hb (qv_if (fun _ => j7 _ hno) (fun z => absurd e39 z))))
      rw [m_recv hb, m_recv hb]
      refine n_isThere hb (fun _ => ?_)
      by_cases hth : thS ar' (ix v) T = true
      · rw [if_pos hth]
        refine qv_if (fun z => absurd z (by decide)) (fun _ => ?_)
        rw [m_recv hb, m_recv hb]
        refine n_fits hb hj hk hs hs2 hl (by rw [hft]; exact hc) (fun _ => ?_)
        by_cases hfi : fitS ar' (ix v) m j (ix s) = true
        · rw [if_pos hfi]
          refine qv_if (fun z => absurd z (by decide)) (fun _ => ?_)
          refine h v _ ?_
          rw [List.find?_cons_of_pos (by simp [hth, hfi])]
          exact hiv.symm
        · rw [if_neg hfi]
          refine qv_if (fun _ => j17 (by simp [hfi])) (fun z => absurd rfl z)
      · rw [if_neg hth]
        refine qv_if (fun _ => j17 (by simp [hth])) (fun z => absurd rfl z)
    refine qv_if (fun _ => j11) (fun c3 => ?_)
    simp only [i32, Int32.reduceToInt] at c3
    obtain ⟨k, k1, k2, k3, k4⟩ : ∃ k : Nat, kr.toInt = (k : Int) ∧ k < 4 ∧ (k : Int) < (ar' 4 (ix t)).toInt ∧ bitm m k = true := by
      rcases hkr with z | z
      · omega
      · exact z
    refine n_getF hb (by decide) ?_
    have e4 : ((4 : Int32) * v + kr).toInt = ((4 * ix v + k : Nat) : Int) := by
      rw [i_add (i_mul (show (4 : Int32).toInt = 4 by decide) rfl (by omega)) k1 (by omega)]; omega
    have es : (s + kr).toInt = ((ix s + k : Nat) : Int) := by rw [i_add rfl k1 (by omega)]; omega
    refine nv_ald hb (by decide) (by decide) (fun _ => ?_)
    refine nv_ald hb hj hk (fun _ => ?_)
    rw [ix_of e4, ix_of es]
    refine qv_if (fun _ => j11) (fun c4 => ?_)
    refine j7 lk ?_
    have : fitS ar' (ix v) m j (ix s) = false := by
      rw [Bool.eq_false_iff]
      intro z
      have := range_all.mp z k k2
      unfold okS at this
      rw [hft] at this
      simp [k4, k3, c4] at this
    simp [this]
end RA1
