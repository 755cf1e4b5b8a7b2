set_option linter.unusedVariables false
set_option linter.unusedSimpArgs false
section RB
variable {b : MT} {fi : Nat → Int32} {ar : Nat → Nat → Int32} {mo M : Nat} {a : AS} {y : HS} {sl : Nat → Nat} {X X' : String → HS → Prop} {Q Q' : HS → Prop} {QI QI' : Int32 → HS → Prop}
theorem th_sl (hF : RXf a sl ar) {t n : Nat} (hn : n ∈ a.rw t) {T : Int32} {T' : Int} (hT : T.toInt = T') : thS ar (sl n) T = thereB a T' n := by
  obtain ⟨-, -, -, -, -, h5, h6⟩ := hF.2.1 t n hn
  unfold thS thereB
  rw [h5, h6, hT]
theorem fit_sl (hF : RXf a sl ar) (hA : RA a.1 fi ar) {t n : Nat} (ht : inT a t) (hn : n ∈ a.rw t) {m : Int32} {j s : Nat} {vs : Nat → Int32} (hv : ∀ k, k < 4 → ar j (s + k) = vs k) : fitS ar (sl n) m j s = fitB a t m vs n := by
  obtain ⟨h1, -, h3, h4, -⟩ := hF.2.1 t n hn
  have e : ix (ar 12 (sl n)) = t := ix_of h3
  have e4 : ar 4 t = a.co t := (hA.2.2.2 t ht).1
  unfold fitS fitB
  rw [Bool.eq_iff_iff, range_all, range_all]
  refine forall_congr' (fun k => forall_congr' (fun hk => ?_))
  unfold okS
  rw [e, e4, h4 k hk, hv k hk]
/-- the first of a list, as the reference finds it -/
theorem find_sl (hF : RXf a sl ar) (hA : RA a.1 fi ar) {t : Nat} (ht : inT a t) {m : Int32} {j s : Nat} {vs : Nat → Int32} (hv : ∀ k, k < 4 → ar j (s + k) = vs k) {T : Int32} {T' : Int} (hT : T.toInt = T') {L : List Nat} (hL : ∀ n, n ∈ L → n ∈ a.rw t) : (L.map sl).find? (fun f => thS ar f T && fitS ar f m j s) = (L.find? (askB a t m vs T')).map sl := by
  induction L with
  | nil => rfl
  | cons n L ih =>
    have e : (thS ar (sl n) T && fitS ar (sl n) m j s) = askB a t m vs T' n := by
      rw [th_sl hF (hL n List.mem_cons_self) hT, fit_sl hF hA ht (hL n List.mem_cons_self) hv]; rfl
    have ih := ih (fun k hk => hL k (List.mem_cons_of_mem _ hk))
    rw [List.map_cons, List.find?_cons, List.find?_cons, e]
    cases askB a t m vs T' n
    · exact ih
    · rfl
theorem slots_ok (hF : RXf a sl ar) {t : Int32} (ht : tabOk a t) {L : List Nat} (hL : ∀ n, n ∈ L → n ∈ a.rw (ix t)) : ∀ f, f ∈ L.map sl → f < 3000 ∧ ix (ar 12 f) = ix t := fun f hf => by
  obtain ⟨n, hn, rfl⟩ := List.mem_map.mp hf
  obtain ⟨h1, -, h3, -⟩ := hF.2.1 _ n (hL n hn)
  exact ⟨h1, ix_of h3⟩
theorem tab_in {t : Int32} (ht : tabOk a t) : inT a (ix t) := by
  have := ix_int ht.1
  show ((ix t : Nat) : Int) < _
  rw [this]; exact ht.2
/-- what RX says of numbers -/
theorem tmOf (hS : RXs a fi) (q : Int32) : (if q.toInt = -1 then fi 22 else q).toInt = timeOf a q := by
  unfold timeOf
  split
  · exact hS.2.2.1
  · rfl
theorem tm_ok (hS : RXs a fi) (q : Int32) : (q.toInt = -1 ∨ (fi 23).toInt ≤ q.toInt ∧ q.toInt ≤ (fi 22).toInt) ↔ timeOk a q := by
  rw [hS.2.2.1, hS.2.2.2.1]
theorem n_isM (hb : MB b) {m : Int32} {A B A' B' : Int32 → HS → Prop} (h0 : ¬ maskOk m → A 0 (mS b fi ar) → A' 0 (mS b fi ar)) (h1 : maskOk m → B 1 (mS b fi ar) → B' 1 (mS b fi ar)) : wRecv (mS b fi ar) 12 (some b.o) (w_X12_isMask (some b.o) m (mS b fi ar) (fun v x => wIf (v = 0) (A v x) (B v x)) X) → wRecv (mS b fi ar) 12 (some b.o) (w_X12_isMask (some b.o) m (mS b fi ar) (fun v x => wIf (v = 0) (A' v x) (B' v x)) X') := by
  rw [m_recv hb, m_recv hb, m_isM hb, m_isM hb]
  have e : (0 ≤ m ∧ m ≤ 15) ↔ maskOk m := by simp only [i32, Int32.reduceToInt]
  rw [e]
  exact fun h => ⟨fun c => h0 c (h.1 c), fun c => h1 c (h.2 c)⟩
theorem n_isT (hb : MB b) (hA : RA a.1 fi ar) {t : Int32} {A B A' B' : Int32 → HS → Prop} (h0 : ¬ tabOk a t → A 0 (mS b fi ar) → A' 0 (mS b fi ar)) (h1 : tabOk a t → B 1 (mS b fi ar) → B' 1 (mS b fi ar)) : wRecv (mS b fi ar) 12 (some b.o) (w_X12_isTable (some b.o) t (mS b fi ar) (fun v x => wIf (v = 0) (A v x) (B v x)) X) → wRecv (mS b fi ar) 12 (some b.o) (w_X12_isTable (some b.o) t (mS b fi ar) (fun v x => wIf (v = 0) (A' v x) (B' v x)) X') := by
  rw [m_recv hb, m_recv hb, m_isT hb, m_isT hb]
  have e : (0 ≤ t ∧ t < fi 10) ↔ tabOk a t := by rw [hA.2.2.1]; simp only [i32, Int32.reduceToInt]
  rw [e]
  exact fun h => ⟨fun c => h0 c (h.1 c), fun c => h1 c (h.2 c)⟩
theorem n_isTi (hb : MB b) (hS : RXs a fi) {q : Int32} {A B A' B' : Int32 → HS → Prop} (h0 : ¬ timeOk a q → A 0 (mS b fi ar) → A' 0 (mS b fi ar)) (h1 : timeOk a q → B 1 (mS b fi ar) → B' 1 (mS b fi ar)) : wRecv (mS b fi ar) 12 (some b.o) (w_X12_isTime (some b.o) q (mS b fi ar) (fun v x => wIf (v = 0) (A v x) (B v x)) X) → wRecv (mS b fi ar) 12 (some b.o) (w_X12_isTime (some b.o) q (mS b fi ar) (fun v x => wIf (v = 0) (A' v x) (B' v x)) X') := by
  rw [m_recv hb, m_recv hb, e_isTime hb, e_isTime hb]
  have e := tm_ok hS q
  by_cases c : timeOk a q
  · rw [if_pos (e.mpr c)]
    exact qv_if (fun z => absurd z (by decide)) (fun _ => h1 c)
  · rw [if_neg (fun z => c (e.mp z))]
    exact qv_if (fun _ => h0 c) (fun z => absurd rfl z)
theorem n_timeOf (hb : MB b) (hS : RXs a fi) {q : Int32} (h : ∀ T : Int32, T.toInt = timeOf a q → QI T (mS b fi ar) → QI' T (mS b fi ar)) : wRecv (mS b fi ar) 12 (some b.o) (w_X12_timeOf (some b.o) q (mS b fi ar) QI X) → wRecv (mS b fi ar) 12 (some b.o) (w_X12_timeOf (some b.o) q (mS b fi ar) QI' X') := by
  rw [m_recv hb, m_recv hb, e_timeOf hb, e_timeOf hb]
  exact h _ (tmOf hS q)
/-- mask, time and table are asked for: a throw, or on -/
theorem n_ask (hb : MB b) (hA : RA a.1 fi ar) (hS : RXs a fi) {t m q : Int32} {K K' : Int32 → HS → Prop} (h : K (askCd a t m q) (mS b fi ar) → K' (askCd a t m q) (mS b fi ar)) :
    wRecv (mS b fi ar) 12 (some b.o) (w_X12_isMask (some b.o) m (mS b fi ar) (fun v2 x1 => wJoin (κ := Int32 → HS → Prop) K (fun j3 => wJoin (κ := HS → Prop) (fun x22 => j3 1 x22) (fun j21 => wIf (v2 = 0) (j21 x1) (wRecv x1 12 (some b.o) (w_X12_isTime (some b.o) q x1 (fun v24 x23 => wIf (v24 = 0) (j21 x23) (wRecv x23 12 (some b.o) (w_X12_isTable (some b.o) t x23 (fun v26 x25 => wIf (v26 = 0) (j3 2 x25) (j3 0 x25)) X))) X))))) X) →
    wRecv (mS b fi ar) 12 (some b.o) (w_X12_isMask (some b.o) m (mS b fi ar) (fun v2 x1 => wJoin (κ := Int32 → HS → Prop) K' (fun j3 => wJoin (κ := HS → Prop) (fun x22 => j3 1 x22) (fun j21 => wIf (v2 = 0) (j21 x1) (wRecv x1 12 (some b.o) (w_X12_isTime (some b.o) q x1 (fun v24 x23 => wIf (v24 = 0) (j21 x23) (wRecv x23 12 (some b.o) (w_X12_isTable (some b.o) t x23 (fun v26 x25 => wIf (v26 = 0) (j3 2 x25) (j3 0 x25)) X'))) X'))))) X') := by
  dsimp only [wJoin]
  unfold askCd at h
  refine n_isM hb (fun c => ?_) (fun c => ?_)
  · rw [if_neg (fun z => c z.1)] at h; exact h
  · refine n_isTi hb hS (fun c2 => ?_) (fun c2 => ?_)
    · rw [if_neg (fun z => c2 z.2)] at h; exact h
    · rw [if_pos ⟨c, c2⟩] at h
      refine n_isT hb hA (fun c3 => ?_) (fun c3 => ?_)
      · rw [if_neg c3] at h; exact h
      · rw [if_pos c3] at h; exact h
/-- a call that throws, or one that leaves all that counts -/
theorem RX_0 (h : RX a fi ar) {v : Int32} : RX a (va_up fi 0 v) ar := RX_fr h (frM_clo.1 0 (by decide) _ _ _ (frM_rf (WF := [0]) (WA := []))) (by decide) (by decide)
theorem RA_0 {a1 : A1} (h : RA a1 fi ar) {v : Int32} : RA a1 (va_up fi 0 v) ar := RA_fr h (frM_clo.1 0 (by decide) _ _ _ (frM_rf (WF := [0]) (WA := []))) (by decide) (by decide)
theorem RX_38 (h : RX a fi ar) {v : Int32} : RX a (va_up fi 38 v) ar := RX_fr h (frM_clo.1 38 (by decide) _ _ _ (frM_rf (WF := [38]) (WA := []))) (by decide) (by decide)
theorem RA_38 {a1 : A1} (h : RA a1 fi ar) {v : Int32} : RA a1 (va_up fi 38 v) ar := RA_fr h (frM_clo.1 38 (by decide) _ _ _ (frM_rf (WF := [38]) (WA := []))) (by decide) (by decide)
theorem num_of {v : Int32} {n : Nat} (h : v.toInt = (n : Int)) : v = num n := i_of h
theorem ask_cases (a : AS) (t m q : Int32) : askCd a t m q = 0 ∧ tabOk a t ∨ askCd a t m q ≠ 0 := by
  unfold askCd
  split
  · split
    · exact Or.inl ⟨rfl, by assumption⟩
    · exact Or.inr (by decide)
  · exact Or.inr (by decide)
theorem rc_find (h : RM mo M a y) (hM : M < 300000) (t m q : Int32) : w_X12_find (some mo) t m q y (fun r u => OK_find a t m q (u.I mo 0) r ∧ RM mo (M + 1) (nx_find a t m q) u) X := by
  obtain ⟨b, fi, ar, hb, rfl, rfl, hG, hA, hX, hV⟩ := h
  have h := t_find (X := X) hb hG RG_ok t m q
  revert h
  obtain ⟨sl, hF, hK, hS, hH, hC, hO⟩ := id hX
  unfold w_X12_find OK_find nx_find
  refine n_ask hb hA hS ?_
  rcases ask_cases a t m q with ⟨e0, ht⟩ | e0
  · rw [e0]
    refine nv_f0 hb ?_
    refine nv_putI hb ?_
    have hti := tab_in ht
    have hc : (ar 4 (ix t)).toInt ≤ 4 := by rw [(hA.2.2.2 _ hti).1]; exact (hV.2.1.2 _ hti).2.1.2
    refine n_getF hb (by decide) ?_
    refine nv_ald hb (by decide) (by decide) (fun _ => ?_)
    have hS2 : RXs a (va_up (va_up fi 0 0) 38 0) := by
      simp only [RXs, va_up_ne, ne_eq, Nat.reduceEqDiff, not_false_eq_true]; exact hS
    refine n_timeOf hb hS2 (fun T hT => ?_)
    refine n_getF hb (by decide) ?_
    rw [m_recv hb, m_recv hb]
    have hL := (hF.1 _ hti).1
    refine n_seek hb (L := (a.rw (ix t)).map sl) (by decide) (by decide) (by decide) (by decide) (by decide) hc (by simp only [va_up_ne, ne_eq, Nat.reduceEqDiff, not_false_eq_true]; exact hS.2.2.2.2) hL (slots_ok hF ht (fun n hn => hn)) (fun r lk hr => ?_)
    rw [find_sl hF hA hti (j := 3) (s := ix 0) (vs := a.vv) (fun k hk => by rw [hA.1]; show a.vv (0 + k) = a.vv k; rw [Nat.zero_add]) hT (fun n hn => hn)] at hr
    dsimp only [wJoin]
    rw [va_twice]
    have fin : ∀ v : Int32, v = numO ((a.rw (ix t)).find? (askB a (ix t) m a.vv (timeOf a q))) → RG b M (ar 3) (mS b (va_up (va_up fi 0 0) 38 lk) ar) → EX 0 (numO ((a.rw (ix t)).find? (askB a (ix t) m a.vv (timeOf a q)))) ((mS b (va_up (va_up fi 0 0) 38 lk) ar).I b.o 0) v ∧ RM b.o (M + 1) a (mS b (va_up (va_up fi 0 0) 38 lk) ar) := fun v hv hg => ⟨⟨by rw [rv_I, va_up_ne _ _ (by decide), va_up_self], fun _ => hv⟩, RM_g hb hg (RA_38 (RA_0 hA)) (RX_38 (RX_0 hX)) hV⟩
    cases hf : (a.rw (ix t)).find? (askB a (ix t) m a.vv (timeOf a q)) with
    | none =>
      rw [hf] at hr fin
      have hr : r.toInt = -1 := hr
      refine qv_if (fun c => ?_) (fun _ => fin _ rfl)
      simp only [i32, Int32.reduceToInt] at c; omega
    | some n =>
      rw [hf] at hr fin
      have hr : r.toInt = (sl n : Int) := hr
      have hn := List.mem_of_find?_eq_some hf
      refine qv_if (fun c => ?_) (fun c => ?_)
      · refine n_getF hb (by decide) ?_
        refine nv_ald hb (by decide) (by decide) (fun _ => ?_)
        rw [ix_of hr]
        exact fin _ (num_of (hF.2.1 _ n hn).2.2.2.2.1)
      · simp only [i32, Int32.reduceToInt] at c; omega
  · refine nv_fN hb e0 (fun hg => ⟨⟨by rw [rv_I, va_up_self], fun z => absurd z e0⟩, RM_g hb hg (RA_0 hA) (RX_0 hX) hV⟩)
end RB
