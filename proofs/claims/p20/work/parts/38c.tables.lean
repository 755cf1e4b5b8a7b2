set_option linter.unusedVariables false
set_option linter.unusedSimpArgs false
section KT
variable {x x0 : HS} {o N : Nat} {a : A1} {Q Q' : HS → Prop} {QI QI' : Int32 → HS → Prop} {QF QF' : Option Nat → HS → Prop} {X X' : String → HS → Prop}
theorem V1_F0 {q j : Nat} {v : Option Nat} (h : V1 x0 x) (hq : q ∉ x0.LP) : V1 x0 (x.wF (up2 x.F q j v)) := ⟨Vt_F0 h.1 hq, h.2⟩
theorem V1_I0 {q j : Nat} {v : Int32} (h : V1 x0 x) (hq : q ∉ x0.LP) : V1 x0 (x.wI (up2 x.I q j v)) := ⟨Vt_I0 h.1 hq, fun c hc hk => by
  rw [← h.2 c hc hk]; exact if_neg (fun z => hq (by rw [← z.1]; exact hc))⟩
theorem V1_new {q ci n : Nat} (h : V1 x0 x) (hq : q ∉ x.LP) : V1 x0 (x.new q ci n) := ⟨Vt_new h.1 hq, V9_new h.1 h.2 hq⟩
theorem V1_newJ {q ci n : Nat} (h : V1 x0 x) (hq : q ∉ x.LP) : V1 x0 (x.newJ q ci n) := ⟨Vt_newJ h.1 hq, h.2⟩
theorem V1_newG {q ci n : Nat} (h : V1 x0 x) (hq : q ∉ x.LP) : V1 x0 (x.newG q ci n) := ⟨Vt_newG h.1 hq, h.2⟩
theorem V9_tr {x y z : HS} (ht : Vt x y) (h1 : V9 x y) (h2 : V9 y z) : V9 x z := fun c hc hk => (h2 c (ht c hc).1 (by rw [(ht c hc).2.1]; exact hk)).trans (h1 c hc hk)
theorem V1_tr {x y z : HS} (h1 : V1 x y) (h2 : V1 y z) : V1 x z := ⟨Vt_tr h1.1 h2.1, V9_tr h1.1 h1.2 h2.2⟩
/-- a table that has just been made -/
def TI (x : HS) (d y : Nat) (c : Int32) (u : HS) : Prop := V1 x u ∧ (d ∈ u.LP ∧ u.k d = 10) ∧ (y ∈ u.LP ∧ u.k y = 28) ∧ u.I d 1 = c ∧ u.F d 3 = some y ∧ u.G y = (fun _ => none) ∧ y ∉ x.LP
theorem qs_tinit {x5 : HS} {d : Nat} {l1 l2 : Int32} (hd : d ∉ x.LP) (hd5 : d ∈ x5.LP ∧ x5.k d = 10) (hv : V1 x x5) (hQ : ∀ y u, TI x d y l2 u → Q u → Q' u) : w_X10_init (some d) l1 l2 x5 Q X → w_X10_init (some d) l1 l2 x5 Q' X' := by
  unfold w_X10_init
  refine q_ref ?_
  refine qv_new (fun q1 hq1 => ?_)
  refine fr_X0_init (P := V1 x5) (V1_clo (by decide) (by decide) (by decide) (by decide)) (fun x3 h3 => ?_) (V1_new V1_rf hq1)
  refine qv_putF (fun _ _ => ?_)
  refine qv_newG (fun y0 hy => ?_)
  have hy' : y0 ∉ x3.LP := hy
  have d3 := h3.1 d hd5.1
  have hdy : d ≠ y0 := fun z => hy' (by rw [← z]; exact d3.1)
  refine qv_putF (fun m1 m2 => ?_)
  refine qv_newJ (fun q9 h9 => ?_)
  refine qv_putF (fun m3 m4 => ?_)
  refine qv_putI (fun _ _ => ?_)
  refine qv_putI (fun m5 m6 => ?_)
  have y9 : y0 ≠ q9 := fun z => h9 (by rw [← z]; exact List.mem_append_right _ (List.mem_singleton.mpr rfl))
  refine hQ y0 _ ⟨V1_I0 (V1_I0 (V1_F0 (V1_newJ (V1_F0 (V1_newG (V1_F0 (V1_tr hv h3) hd) hy) hd) h9) hd) hd) hd, ⟨m5, m6⟩, ⟨List.mem_append_left _ (List.mem_append_right _ (List.mem_singleton.mpr rfl)), ?_⟩, ?_, ?_, ?_, fun z => hy' (h3.1 y0 (hv.1 y0 z).1).1⟩
  · show va_up _ q9 20 y0 = 28
    rw [va_up_ne _ _ y9]
    exact va_up_self _ _ _
  · exact up2_self _ _ _ _
  · exact (up2_k _ _ _ _ (by decide)).trans (up2_self _ _ _ _)
  · exact va_up_self _ _ _
/-- what a new table does to what is seen -/
def MT1 (x : HS) (s q d y : Nat) (c : Int32) (u : HS) : Prop := ∃ w, TI x d y c w ∧ d ∉ x.LP ∧ u = (w.wG (up2 w.G q (ix (x.I s 3)) (some d))).wI (up2 w.I s 3 (x.I s 3 + 1))
theorem qs_makeTable {s q : Nat} {l1 : Int32} (hs : s ∈ x.LP ∧ x.k s = 9) (hq : x.F s 0 = some q) (h0 : ¬ (x.I s 3).toInt < 12 → QI (-1) x → QI' (-1) x) (hQ : (x.I s 3).toInt < 12 → ∀ d y u, MT1 x s q d y l1 u → QI (x.I s 3 + 1 - 1) u → QI' (x.I s 3 + 1 - 1) u) : w_X9_makeTable (some s) l1 x QI X → w_X9_makeTable (some s) l1 x QI' X' := by
  unfold w_X9_makeTable
  refine qv_getI (fun _ _ => ?_)
  refine qv_if (fun c => ?_) (fun c => h0 ?_)
  · simp only [i32, Int32.reduceToInt] at c
    refine qv_getF (fun _ _ => ?_)
    rw [hq]
    refine qv_getI (fun _ _ => ?_)
    refine qv_new (fun d hd => ?_)
    refine qv_getI (fun _ _ => ?_)
    refine qs_tinit hd ⟨List.mem_append_right _ (List.mem_singleton.mpr rfl), va_up_self _ _ _⟩ (V1_new V1_rf hd) (fun y w hw => ?_)
    have ws := (hw.1.1 s hs.1).2.2.2.1 hs.2
    refine qv_astG (fun _ _ _ => ?_)
    refine qv_getI (fun _ _ => ?_)
    refine qv_putI (fun _ _ => ?_)
    refine qv_getI (fun _ _ => ?_)
    have e1 : (w.wG (up2 w.G q (ix (x.I s 3)) (some d))).I s 3 = x.I s 3 := ws.1
    rw [e1]
    have e2 : ((w.wG (up2 w.G q (ix (x.I s 3)) (some d))).wI (up2 (w.wG (up2 w.G q (ix (x.I s 3)) (some d))).I s 3 (x.I s 3 + 1))).I s 3 = x.I s 3 + 1 := up2_self _ _ _ _
    rw [e2]
    exact hQ c d y _ ⟨w, hw, hd, rfl⟩
  · simp only [i32, Int32.reduceToInt] at c; exact c
theorem KT1_MT1 {s q d0 y0 : Nat} {c : Int32} {u : HS} (hs : s ∈ x.LP ∧ x.k s = 9) (ho : o ∈ x.LP ∧ x.k o = 11) (hm : MT1 x s q d0 y0 c u) {d y : Nat → Nat} (h1 : x.F o 2 = some s) (h3 : x.F s 0 = some q) (h4 : q ∈ x.LP ∧ x.k q = 24) (h5 : x.I s 3 = a.tn) (h6 : 0 ≤ a.tn.toInt ∧ a.tn.toInt < 12)
    (h7 : ∀ t : Nat, (t : Int) < a.tn.toInt → x.G q t = some (d t) ∧ (d t ∈ x.LP ∧ x.k (d t) = 10) ∧ x.I (d t) 1 = a.co t ∧ x.F (d t) 3 = some (y t) ∧ (y t ∈ x.LP ∧ x.k (y t) = 28) ∧ ∀ k, k < 4 → (x.G (y t) k).isSome = a.ix t k) (h8 : ∀ t t' : Nat, (t : Int) < a.tn.toInt → (t' : Int) < a.tn.toInt → y t = y t' → t = t') :
    KT1 o (a.vv, a.tl, a.tn + 1, va_up a.co (ix a.tn) c, va_up a.ix (ix a.tn) (fun _ => false)) u ∧ u.I o 9 = x.I o 9 := by
  obtain ⟨w, ⟨v1, w2, w3, w4, w5, w6, w7⟩, hd, rfl⟩ := hm
  have hix : ((ix a.tn : Nat) : Int) = a.tn.toInt := ix_int h6.1
  have hnew : (a.tn + 1).toInt = a.tn.toInt + 1 := i_add rfl (by decide) (by omega)
  have vs := v1.1 s hs.1
  have vq := v1.1 q h4.1
  have vo := v1.1 o ho.1
  have eI : ∀ c j, c ≠ s → ((w.wG (up2 w.G q (ix (x.I s 3)) (some d0))).wI (up2 w.I s 3 (x.I s 3 + 1))).I c j = w.I c j := fun c j hc => if_neg (fun z => hc z.1)
  have eG : ∀ c, c ≠ q → ((w.wG (up2 w.G q (ix (x.I s 3)) (some d0))).wI (up2 w.I s 3 (x.I s 3 + 1))).G c = w.G c := fun c hc => funext fun i => if_neg (fun z => hc z.1)
  have hso : o ≠ s := fun z => by rw [z, hs.2] at ho; exact absurd ho.2 (by decide)
  have hds : d0 ≠ s := fun z => hd (by rw [z]; exact hs.1)
  have hyq : y0 ≠ q := fun z => w7 (by rw [z]; exact h4.1)
  refine ⟨⟨s, q, va_up d (ix a.tn) d0, va_up y (ix a.tn) y0, ?_, ⟨vs.1, vs.2.1.trans hs.2⟩, ?_, ⟨vq.1, vq.2.1.trans h4.2⟩, ?_, ⟨by show 0 ≤ (a.tn + 1).toInt; omega, by show (a.tn + 1).toInt ≤ 12; omega⟩, fun t ht => ?_, fun t t' ht ht' e => ?_⟩, ?_⟩
  · exact (vo.2.2.1 ho.2).trans h1
  · exact ((vs.2.2.2.1 hs.2).2).trans h3
  · rw [h5]; exact up2_self _ _ _ _
  · have ht : (t : Int) < (a.tn + 1).toInt := ht
    by_cases e : t = ix a.tn
    · subst e
      rw [va_up_self, va_up_self]
      refine ⟨?_, w2, ?_, w5, w3, fun k _ => ?_⟩
      · rw [h5]; exact up2_self _ _ _ _
      · rw [eI _ _ hds]
        exact w4.trans (va_up_self _ _ _).symm
      · rw [eG _ hyq, w6]
        show false = va_up a.ix (ix a.tn) (fun _ => false) (ix a.tn) k
        rw [va_up_self]
    · obtain ⟨p1, p2, p3, p4, p5, p6⟩ := h7 t (by omega)
      rw [va_up_ne _ _ e, va_up_ne _ _ e]
      have vd := v1.1 _ p2.1
      have vy := v1.1 _ p5.1
      have hdt : d t ≠ s := fun z => by rw [z, hs.2] at p2; exact absurd p2.2 (by decide)
      have hyt : y t ≠ q := fun z => by rw [z, h4.2] at p5; exact absurd p5.2 (by decide)
      refine ⟨?_, ⟨vd.1, vd.2.1.trans p2.2⟩, ?_, (vd.2.2.2.2.1 p2.2).2.trans p4, ⟨vy.1, vy.2.1.trans p5.2⟩, fun k hk => ?_⟩
      · refine Eq.trans (if_neg (fun z => e ?_)) ?_
        · rw [← h5]; exact z.2
        · rw [vq.2.2.2.2.2 (Or.inl h4.2)]; exact p1
      · rw [eI _ _ hdt, (vd.2.2.2.2.1 p2.2).1]
        exact p3.trans (va_up_ne _ _ e).symm
      · rw [eG _ hyt, vy.2.2.2.2.2 (Or.inr p5.2), p6 k hk]
        show _ = va_up a.ix (ix a.tn) (fun _ => false) t k
        rw [va_up_ne _ _ e]
  · have ht : (t : Int) < (a.tn + 1).toInt := ht
    have ht' : (t' : Int) < (a.tn + 1).toInt := ht'
    by_cases e1 : t = ix a.tn
    · by_cases e2 : t' = ix a.tn
      · exact e1.trans e2.symm
      · rw [e1, va_up_self, va_up_ne _ _ e2] at e
        exact absurd (by rw [e]; exact (h7 t' (by omega)).2.2.2.2.1.1) w7
    · by_cases e2 : t' = ix a.tn
      · rw [e2, va_up_self, va_up_ne _ _ e1] at e
        exact absurd (by rw [← e]; exact (h7 t (by omega)).2.2.2.2.1.1) w7
      · rw [va_up_ne _ _ e1, va_up_ne _ _ e2] at e
        exact h8 t t' (by omega) (by omega) e
  · rw [eI _ _ hso]; exact v1.2 o ho.1 ho.2
theorem kc1_table (hk : KC1 o (N + 1) a x) (n : Int32) : w_X11_table (some o) n x (fun r u => OK1_table a n 0 r ∧ KC1 o N (nx1_table a n) u) (fun E u => (E = eIA ∧ OK1_table a n 1 0 ∨ E = eIS ∧ OK1_table a n 2 0) ∧ KC1 o N (nx1_table a n) u) := by
  have ho := KC1_o hk
  obtain ⟨k1, k2, k3, k4, k5⟩ := id hk
  obtain ⟨s, q, d, y, h1, h2, h3, h4, h5, h6, h7, h8⟩ := id k2
  have h := k_table (QI := fun r u => KInv o N a.vv u) (X := fun E u => (E = eIA ∨ E = eIS) ∧ KInv o N a.vv u) k1 (n := n) (fun E u h1 h2 => ⟨h1, h2⟩) (fun r u h => h)
  revert h
  unfold w_X11_table OK1_table nx1_table
  refine qs_range (fun c1 c2 => ?_) (fun c h => ?_)
  · have c : 1 ≤ n.toInt ∧ n.toInt ≤ 4 := ⟨c1, c2⟩
    refine qv_getF (fun _ _ => ?_)
    rw [h1]
    refine q_recv ?_
    refine qs_makeTable h2 h3 (fun z => ?_) (fun z d0 y0 u hm => ?_)
    · rw [h5] at z
      have e12 : a.tn.toInt = 12 := by omega
      refine qv_if (fun _ => ?_) (fun z => absurd rfl z)
      refine qv_throw (fun h => ?_)
      rw [if_pos c, if_pos e12, if_neg (fun y => y.2 e12)]
      exact ⟨Or.inr ⟨rfl, rfl, fun z => absurd z (by decide)⟩, KC1_V1 hk h.2 V1_rf⟩
    · rw [h5] at z ⊢
      have e12 : ¬ a.tn.toInt = 12 := by omega
      have e1 : a.tn + 1 - 1 = a.tn := i_ext (by
        rw [i_sub (i_add rfl (show (1 : Int32).toInt = 1 by decide) (by omega)) (show (1 : Int32).toInt = 1 by decide) (by omega)]; omega)
      rw [e1]
      refine qv_if (fun y => ?_) (fun _ h => ?_)
      · rw [y] at h6; exact absurd h6.1 (by decide)
      · rw [if_pos c, if_neg e12, if_pos ⟨c, e12⟩]
        obtain ⟨z1, z2⟩ := KT1_MT1 (a := a) h2 ho hm h1 h3 h4 h5 ⟨h6.1, z⟩ h7 h8
        exact ⟨⟨rfl, fun _ => rfl⟩, h, z1, z2.trans k3, k4, k5⟩
  · have c : ¬ (1 ≤ n.toInt ∧ n.toInt ≤ 4) := c
    rw [if_neg c, if_neg (fun y => c y.1)]
    exact ⟨Or.inl ⟨rfl, rfl, fun z => absurd z (by decide)⟩, KC1_V1 hk h.2 V1_rf⟩
theorem qs_tableOf {s q : Nat} {t : Int32} {d : Nat → Nat} {n : Int32} (h1 : x.F o 2 = some s) (h3 : x.F s 0 = some q) (h5 : x.I s 3 = n) (h7 : ∀ t : Nat, (t : Int) < n.toInt → x.G q t = some (d t)) (hQ : 0 ≤ t.toInt → t.toInt < n.toInt → QF (some (d (ix t))) x → QF' (some (d (ix t))) x) (hX : ¬ (0 ≤ t.toInt ∧ t.toInt < n.toInt) → X eNE (x.wC (x.c - 1) (x.z - 6)) → X' eNE (x.wC (x.c - 1) (x.z - 6))) : w_X11_tableOf (some o) t x QF X → w_X11_tableOf (some o) t x QF' X' := by
  unfold w_X11_tableOf w_X9_tableAt
  refine qv_getF (fun _ _ => ?_)
  rw [h1]
  refine q_recv ?_
  dsimp only [wJoin]
  have bad : ¬ (0 ≤ t.toInt ∧ t.toInt < n.toInt) → (wIf ((none : Option Nat) = none) (wThrow x eNE X) (QF none x) → wIf ((none : Option Nat) = none) (wThrow x eNE X') (QF' none x)) := fun c => qv_if (fun _ => qv_throw (hX c)) (fun z => absurd rfl z)
  refine qv_if (fun c => bad ?_) (fun c => ?_)
  · simp only [i32, Int32.reduceToInt] at c; omega
  · simp only [i32, Int32.reduceToInt] at c
    refine qv_getI (fun _ _ => ?_)
    rw [h5]
    refine qv_if (fun c2 => ?_) (fun c2 => bad ?_)
    · simp only [i32] at c2
      refine qv_getF (fun _ _ => ?_)
      rw [h3]
      refine qv_aldG (fun _ _ _ => ?_)
      have hix : ((ix t : Nat) : Int) = t.toInt := ix_int (by omega)
      rw [h7 (ix t) (by omega)]
      exact qv_if (fun z => absurd z (by simp)) (fun _ => hQ (by omega) c2)
    · simp only [i32] at c2; omega
theorem qs_makeIndex {d y : Nat} {k : Int32} (hd : d ∈ x.LP ∧ x.k d = 10) (hy : x.F d 3 = some y) (hy2 : y ∈ x.LP ∧ x.k y = 28) (hk0 : 0 ≤ k.toInt ∧ k.toInt < (x.I d 1).toInt)
    (h0 : x.G y (ix k) ≠ none → QI 0 x → QI' 0 x) (h1 : x.G y (ix k) = none → ∀ q w, V1 x w → QI 1 (w.wG (up2 w.G y (ix k) (some q))) → QI' 1 (w.wG (up2 w.G y (ix k) (some q)))) : w_X10_makeIndex (some d) k x QI X → w_X10_makeIndex (some d) k x QI' X' := by
  unfold w_X10_makeIndex
  dsimp only [wJoin]
  refine qv_if (fun c => ?_) (fun c => ?_)
  · simp only [i32, Int32.reduceToInt] at c; omega
  · refine qv_getI (fun _ _ => ?_)
    refine qv_if (fun c => ?_) (fun c => ?_)
    · simp only [i32] at c; omega
    · refine qv_getF (fun _ _ => ?_)
      rw [hy]
      refine qv_aldG (fun _ _ _ => ?_)
      refine qv_if (fun c => ?_) (fun c => q_bit (h0 c))
      refine qv_new (fun q hq => ?_)
      refine fr_X4_init (P := V1 x) (V1_clo (by decide) (by decide) (by decide) (by decide)) (fun x8 h8 => ?_) (V1_new V1_rf hq)
      refine q_getF (fun _ => ?_)
      refine q_getF (fun _ => ?_)
      refine q_loop (P := V1 x) h8 (fun v u again again' hu ha => ?_)
      refine qv_if (fun _ => ?_) (fun _ => ?_)
      · refine qv_getF (fun _ _ => ?_)
        rw [((hu.1 d hd.1).2.2.2.2.1 hd.2).2, hy]
        refine qv_astG (fun _ _ _ => ?_)
        exact q_bit (h1 c q u hu)
      · refine q_recv ?_
        refine fr_X4_chainFor (P := V1 x) (V1_clo (by decide) (by decide) (by decide) (by decide)) (fun _ u1 hu1 => ?_) hu
        refine q_recv ?_
        refine fr_X0_putBehind (P := V1 x) (V1_clo (by decide) (by decide) (by decide) (by decide)) (fun u2 hu2 => ?_) hu1
        refine q_getF (fun _ => ?_)
        refine q_aldG (fun _ => ?_)
        exact ha _ _ hu2
theorem kc1_index (hk : KC1 o (N + 1) a x) (t k : Int32) : w_X11_index (some o) t k x (fun r u => OK1_index a t k 0 r ∧ KC1 o N (nx1_index a t k) u) (fun E u => (E = eIA ∧ OK1_index a t k 2 0 ∨ E = eNE ∧ OK1_index a t k 1 0) ∧ KC1 o N (nx1_index a t k) u) := by
  have ho := KC1_o hk
  obtain ⟨k1, k2, k3, k4, k5⟩ := id hk
  obtain ⟨s, q, d, y, h1, h2, h3, h4, h5, h6, h7, h8⟩ := id k2
  have h := k_index (QI := fun r u => KInv o N a.vv u) (X := fun E u => (E = eIA ∨ E = eNE) ∧ KInv o N a.vv u) k1 (t := t) (k := k) (fun E u h1 h2 => ⟨h1, h2⟩) (fun r u h => h)
  revert h
  unfold w_X11_index OK1_index nx1_index
  refine q_recv ?_
  refine qs_tableOf h1 h3 h5 (fun t ht => (h7 t ht).1) (fun c1 c2 => ?_) (fun c h => ?_)
  · have hix : ((ix t : Nat) : Int) = t.toInt := ix_int c1
    have hT : 0 ≤ t.toInt ∧ t.toInt < a.tn.toInt := ⟨c1, c2⟩
    obtain ⟨p1, p2, p3, p4, p5, p6⟩ := h7 (ix t) (by omega)
    refine qv_getI (fun _ _ => ?_)
    rw [p3]
    have hco : (a.co (ix t) - 1).toInt = (a.co (ix t)).toInt - 1 := by
      obtain ⟨b, g, s9, hh, I, F, A, E, e9, hkv, -⟩ := k1
      have hIs : Is b 10 (d (ix t)) := by
        refine ⟨?_, ?_⟩
        · have := p2.1; rw [e9] at this; exact this
        · have := p2.2; rw [e9] at this; exact this
      have := (hkv.2.1.1.2.2.1 _ hIs).1
      have e1 : I (d (ix t)) 1 = a.co (ix t) := by rw [← p3, e9]; rfl
      rw [e1] at this
      exact i_sub rfl (by decide) (by omega)
    refine qs_range (fun c3 c4 => ?_) (fun c h => ?_)
    · have c3 : 0 ≤ k.toInt := c3
      have hK : 0 ≤ k.toInt ∧ k.toInt < (a.co (ix t)).toInt := ⟨c3, by omega⟩
      have hik : ((ix k : Nat) : Int) = k.toInt := ix_int c3
      have hk4 : ix k < 4 := by
        obtain ⟨b, g, s9, hh, I, F, A, E, e9, hkv, -⟩ := k1
        have hIs : Is b 10 (d (ix t)) := by
          refine ⟨?_, ?_⟩
          · have := p2.1; rw [e9] at this; exact this
          · have := p2.2; rw [e9] at this; exact this
        have := (hkv.2.1.1.2.2.1 _ hIs).1
        have e1 : I (d (ix t)) 1 = a.co (ix t) := by rw [← p3, e9]; rfl
        rw [e1] at this
        omega
      rw [if_pos hT, if_pos hK, if_pos (show (0 ≤ t.toInt ∧ t.toInt < a.tn.toInt) ∧ 0 ≤ k.toInt ∧ k.toInt < (a.co (ix t)).toInt from ⟨hT, hK⟩)]
      have hbit := p6 (ix k) hk4
      refine q_recv ?_
      refine qs_makeIndex p2 p4 p5 (by rw [p3]; exact hK) (fun c => ?_) (fun c q0 w hw => ?_)
      · dsimp only [wJoin]
        refine qv_if (fun _ h => ?_) (fun z => absurd rfl z)
        have e1 : a.ix (ix t) (ix k) = true := by
          rw [← hbit]; exact Option.isSome_iff_ne_none.mpr c
        rw [e1]
        refine ⟨⟨rfl, fun _ => rfl⟩, h, ?_, k3, k4, k5⟩
        refine ⟨s, q, d, y, h1, h2, h3, h4, h5, h6, fun t' ht' => ?_, h8⟩
        obtain ⟨r1, r2, r3, r4, r5, r6⟩ := h7 t' ht'
        refine ⟨r1, r2, r3, r4, r5, fun k' hk' => ?_⟩
        rw [r6 k' hk']
        show _ = up2 a.ix (ix t) (ix k) true t' k'
        unfold up2
        split
        · rename_i z; rw [z.1, z.2]; exact e1
        · rfl
      · dsimp only [wJoin]
        refine qv_if (fun z => absurd z (by decide)) (fun _ h => ?_)
        have e1 : a.ix (ix t) (ix k) = false := by
          rw [← hbit, c]; rfl
        rw [e1]
        have ww := KT1_Vt k2 ho hw.1
        refine ⟨⟨rfl, fun _ => rfl⟩, h, ?_, (hw.2 o ho.1 ho.2).trans k3, k4, k5⟩
        have vy := fun t' ht' => hw.1 (y t') (h7 t' ht').2.2.2.2.1.1
        refine ⟨s, q, d, y, ((hw.1 o ho.1).2.2.1 ho.2).trans h1, ⟨(hw.1 s h2.1).1, (hw.1 s h2.1).2.1.trans h2.2⟩, ((hw.1 s h2.1).2.2.2.1 h2.2).2.trans h3, ⟨(hw.1 q h4.1).1, (hw.1 q h4.1).2.1.trans h4.2⟩, ((hw.1 s h2.1).2.2.2.1 h2.2).1.trans h5, h6, fun t' ht' => ?_, h8⟩
        obtain ⟨r1, r2, r3, r4, r5, r6⟩ := h7 t' ht'
        have vd := hw.1 _ r2.1
        have vy := hw.1 _ r5.1
        have vq := hw.1 _ h4.1
        refine ⟨?_, ⟨vd.1, vd.2.1.trans r2.2⟩, (vd.2.2.2.2.1 r2.2).1.trans r3, (vd.2.2.2.2.1 r2.2).2.trans r4, ⟨vy.1, vy.2.1.trans r5.2⟩, fun k' hk' => ?_⟩
        · refine Eq.trans (if_neg (fun z => ?_)) ?_
          · have := h4.2; rw [z.1, p5.2] at this; exact absurd this (by decide)
          · rw [vq.2.2.2.2.2 (Or.inl h4.2)]; exact r1
        · show (up2 w.G (y (ix t)) (ix k) (some q0) (y t') k').isSome = up2 a.ix (ix t) (ix k) true t' k'
          unfold up2
          by_cases e2 : t' = ix t ∧ k' = ix k
          · rw [if_pos ⟨by rw [e2.1], e2.2⟩, if_pos e2]; rfl
          · rw [if_neg (fun z => e2 ⟨h8 t' (ix t) ht' (by omega) z.1, z.2⟩), if_neg e2, vy.2.2.2.2.2 (Or.inr r5.2)]
            exact r6 k' hk'
    · have hK : ¬ (0 ≤ k.toInt ∧ k.toInt < (a.co (ix t)).toInt) := fun z => c ⟨z.1, by omega⟩
      rw [if_pos hT, if_neg hK, if_neg (show ¬ ((0 ≤ t.toInt ∧ t.toInt < a.tn.toInt) ∧ 0 ≤ k.toInt ∧ k.toInt < (a.co (ix t)).toInt) from fun z => hK z.2)]
      exact ⟨Or.inl ⟨rfl, rfl, fun z => absurd z (by decide)⟩, KC1_V1 hk h.2 V1_rf⟩
  · rw [if_neg c, if_neg (show ¬ ((0 ≤ t.toInt ∧ t.toInt < a.tn.toInt) ∧ 0 ≤ k.toInt ∧ k.toInt < (a.co (ix t)).toInt) from fun z => c z.1)]
    exact ⟨Or.inr ⟨rfl, rfl, fun z => absurd z (by decide)⟩, KC1_V1 hk h.2 V1_rf⟩
end KT
