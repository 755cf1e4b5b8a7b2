set_option linter.unusedVariables false
set_option linter.unusedSimpArgs false
/-! WHAT A RUN OF CALLS IS ABOUT: the values, the tape's length, the tables with their columns and indexes -/
abbrev A1 : Type := (Nat → Int32) × Int32 × Int32 × (Nat → Int32) × (Nat → Nat → Bool)
abbrev A1.vv (a : A1) : Nat → Int32 := a.1
abbrev A1.tl (a : A1) : Int32 := a.2.1
abbrev A1.tn (a : A1) : Int32 := a.2.2.1
abbrev A1.co (a : A1) : Nat → Int32 := a.2.2.2.1
abbrev A1.ix (a : A1) : Nat → Nat → Bool := a.2.2.2.2
def A10 : A1 := (fun _ => 0, 0, 0, fun _ => 0, fun _ _ => false)
abbrev A1.wvv (a : A1) (v : Nat → Int32) : A1 := (v, a.2)
abbrev A1.wtl (a : A1) (v : Int32) : A1 := (a.1, v, a.2.2)
/-- what a call answers: k which throw (0: none), r the answer -/
def EX (cd an k r : Int32) : Prop := k = cd ∧ (cd = 0 → r = an)
theorem EX_k {cd an k r : Int32} (h : k = cd) (h0 : k ≠ 0) : EX cd an k r := ⟨h, fun z => absurd (h.trans z) h0⟩
def nx1_feed (a : A1) (p1 p2 p3 p4 p5 : Int32) : A1 := if a.tl.toInt ≤ 380 then a.wtl (a.tl + 20) else a
def OK1_feed (a : A1) (p1 p2 p3 p4 p5 : Int32) : Int32 → Int32 → Prop := EX (if a.tl.toInt ≤ 380 then 0 else 1) (a.tl + 20)
def nx1_end (a : A1) (n : Int32) : A1 := if 0 ≤ n.toInt ∧ n.toInt ≤ a.tl.toInt then a.wtl n else a
def OK1_end (a : A1) (n : Int32) : Int32 → Int32 → Prop := EX (if 0 ≤ n.toInt ∧ n.toInt ≤ a.tl.toInt then 0 else 1) n
def nx1_value (a : A1) (k v : Int32) : A1 := if 0 ≤ k.toInt ∧ k.toInt < 4 then a.wvv (va_up a.vv (ix k) v) else a
def OK1_value (a : A1) (k v : Int32) : Int32 → Int32 → Prop := EX (if 0 ≤ k.toInt ∧ k.toInt < 4 then 0 else 1) (a.vv (ix k))
def nx1_table (a : A1) (n : Int32) : A1 := if (1 ≤ n.toInt ∧ n.toInt ≤ 4) ∧ a.tn.toInt ≠ 12 then (a.vv, a.tl, a.tn + 1, va_up a.co (ix a.tn) n, va_up a.ix (ix a.tn) (fun _ => false)) else a
def OK1_table (a : A1) (n : Int32) : Int32 → Int32 → Prop := EX (if 1 ≤ n.toInt ∧ n.toInt ≤ 4 then (if a.tn.toInt = 12 then 2 else 0) else 1) a.tn
/-- t is a table, k one of its columns -/
def nx1_index (a : A1) (t k : Int32) : A1 := if (0 ≤ t.toInt ∧ t.toInt < a.tn.toInt) ∧ 0 ≤ k.toInt ∧ k.toInt < (a.co (ix t)).toInt then (a.vv, a.tl, a.tn, a.co, up2 a.ix (ix t) (ix k) true) else a
def OK1_index (a : A1) (t k : Int32) : Int32 → Int32 → Prop := EX (if 0 ≤ t.toInt ∧ t.toInt < a.tn.toInt then (if 0 ≤ k.toInt ∧ k.toInt < (a.co (ix t)).toInt then 0 else 2) else 1) (if a.ix (ix t) (ix k) then 0 else 1)
def nx1_question (a : A1) (p1 : Int32) : A1 := a.wtl 0
def nx1_key (a : A1) (p1 p2 : Int32) : A1 := a
def OK1_key (a : A1) (p1 p2 : Int32) : Int32 → Int32 → Prop := fun _ _ => True
def nx1_add (a : A1) (p1 p2 : Int32) : A1 := a
def OK1_add (a : A1) (p1 p2 : Int32) : Int32 → Int32 → Prop := fun _ _ => True
def nx1_remove (a : A1) (p1 p2 p3 : Int32) : A1 := a
def OK1_remove (a : A1) (p1 p2 p3 : Int32) : Int32 → Int32 → Prop := fun _ _ => True
def nx1_find (a : A1) (p1 p2 p3 : Int32) : A1 := a
def OK1_find (a : A1) (p1 p2 p3 : Int32) : Int32 → Int32 → Prop := fun _ _ => True
def nx1_many (a : A1) (p1 p2 p3 : Int32) : A1 := a
def OK1_many (a : A1) (p1 p2 p3 : Int32) : Int32 → Int32 → Prop := fun _ _ => True
def nx1_open (a : A1) (p1 p2 p3 : Int32) : A1 := a
def OK1_open (a : A1) (p1 p2 p3 : Int32) : Int32 → Int32 → Prop := fun _ _ => True
def nx1_next (a : A1) (p1 : Int32) : A1 := a
def OK1_next (a : A1) (p1 : Int32) : Int32 → Int32 → Prop := fun _ _ => True
def nx1_close (a : A1) (p1 : Int32) : A1 := a
def OK1_close (a : A1) (p1 : Int32) : Int32 → Int32 → Prop := fun _ _ => True
def nx1_fact (a : A1) (p1 p2 : Int32) : A1 := a
def OK1_fact (a : A1) (p1 p2 : Int32) : Int32 → Int32 → Prop := fun _ _ => True
def nx1_mark (a : A1) : A1 := a
def OK1_mark (a : A1) : Int32 → Int32 → Prop := fun _ _ => True
def nx1_back (a : A1) (p1 : Int32) : A1 := a
def OK1_back (a : A1) (p1 : Int32) : Int32 → Int32 → Prop := fun _ _ => True
def nx1_purge (a : A1) (p1 : Int32) : A1 := a
def OK1_purge (a : A1) (p1 : Int32) : Int32 → Int32 → Prop := fun _ _ => True
def nx1_changes (a : A1) (p1 p2 p3 : Int32) : A1 := a
def OK1_changes (a : A1) (p1 p2 p3 : Int32) : Int32 → Int32 → Prop := fun _ _ => True
def nx1_found (a : A1) (p1 : Int32) : A1 := a
def OK1_found (a : A1) (p1 : Int32) : Int32 → Int32 → Prop := fun _ _ => True
def OK1_question (a : A1) (p1 : Int32) : Int32 → Int32 → Prop := fun _ _ => True
def nx1_solution (a : A1) (p1 p2 : Int32) : A1 := a
def OK1_solution (a : A1) (p1 p2 : Int32) : Int32 → Int32 → Prop := fun _ _ => True
def nx1_count (a : A1) (p1 : Int32) : A1 := a
def OK1_count (a : A1) (p1 : Int32) : Int32 → Int32 → Prop := fun _ _ => True
/-! the class: what is seen of it in its heap -/
/-- the tables' part -/
def KT1 (o : Nat) (a : A1) (x : HS) : Prop := ∃ (s q : Nat) (d y : Nat → Nat), x.F o 2 = some s ∧ (s ∈ x.LP ∧ x.k s = 9) ∧ x.F s 0 = some q ∧ (q ∈ x.LP ∧ x.k q = 24) ∧ x.I s 3 = a.tn ∧ (0 ≤ a.tn.toInt ∧ a.tn.toInt ≤ 12) ∧
  (∀ t : Nat, (t : Int) < a.tn.toInt → x.G q t = some (d t) ∧ (d t ∈ x.LP ∧ x.k (d t) = 10) ∧ x.I (d t) 1 = a.co t ∧ x.F (d t) 3 = some (y t) ∧ (y t ∈ x.LP ∧ x.k (y t) = 28) ∧ ∀ k, k < 4 → (x.G (y t) k).isSome = a.ix t k) ∧
  ∀ t t' : Nat, (t : Int) < a.tn.toInt → (t' : Int) < a.tn.toInt → y t = y t' → t = t'
def KC1 (o N : Nat) (a : A1) (x : HS) : Prop := KInv o N a.vv x ∧ KT1 o a x ∧ x.I o 9 = a.tl ∧ 0 ≤ a.tl.toInt ∧ a.tl.toInt ≤ 400
def Vt (x0 x : HS) : Prop := ∀ a, a ∈ x0.LP → a ∈ x.LP ∧ x.k a = x0.k a ∧ (x0.k a = 11 → x.F a 2 = x0.F a 2) ∧ (x0.k a = 9 → x.I a 3 = x0.I a 3 ∧ x.F a 0 = x0.F a 0) ∧ (x0.k a = 10 → x.I a 1 = x0.I a 1 ∧ x.F a 3 = x0.F a 3) ∧ (x0.k a = 24 ∨ x0.k a = 28 → x.G a = x0.G a)
def V9 (x0 x : HS) : Prop := ∀ a, a ∈ x0.LP → x0.k a = 11 → x.I a 9 = x0.I a 9
def V1 (x0 x : HS) : Prop := Vt x0 x ∧ V9 x0 x
theorem Vt_rf {x : HS} : Vt x x := fun a h => ⟨h, rfl, fun _ => rfl, fun _ => ⟨rfl, rfl⟩, fun _ => ⟨rfl, rfl⟩, fun _ => rfl⟩
theorem V1_rf {x : HS} : V1 x x := ⟨Vt_rf, fun a _ _ => rfl⟩
theorem Vt_tr {x y z : HS} (h1 : Vt x y) (h2 : Vt y z) : Vt x z := fun a ha => by
  obtain ⟨p1, p2, p3, p4, p5, p6⟩ := h1 a ha
  obtain ⟨q1, q2, q3, q4, q5, q6⟩ := h2 a p1
  rw [p2] at q2 q3 q4 q5 q6
  exact ⟨q1, q2, fun h => (q3 h).trans (p3 h), fun h => ⟨(q4 h).1.trans (p4 h).1, (q4 h).2.trans (p4 h).2⟩, fun h => ⟨(q5 h).1.trans (p5 h).1, (q5 h).2.trans (p5 h).2⟩, fun h => (q6 h).trans (p6 h)⟩
section VS
variable {x0 x : HS} {a j : Nat}
theorem Vt_I {v : Int32} (h : Vt x0 x) (hj : ¬ (x.k a = 9 ∧ j = 3) ∧ ¬ (x.k a = 10 ∧ j = 1)) : Vt x0 (x.wI (up2 x.I a j v)) := fun c hc => by
  obtain ⟨p1, p2, p3, p4, p5, p6⟩ := h c hc
  refine ⟨p1, p2, p3, fun h => ⟨?_, (p4 h).2⟩, fun h => ⟨?_, (p5 h).2⟩, p6⟩
  · rw [← (p4 h).1]; exact if_neg (fun z => hj.1 ⟨by rw [← z.1, p2]; exact h, z.2.symm⟩)
  · rw [← (p5 h).1]; exact if_neg (fun z => hj.2 ⟨by rw [← z.1, p2]; exact h, z.2.symm⟩)
theorem V9_I {v : Int32} (ht : Vt x0 x) (h : V9 x0 x) (hj : ¬ (x.k a = 11 ∧ j = 9)) : V9 x0 (x.wI (up2 x.I a j v)) := fun c hc hk => by
  rw [← h c hc hk]; exact if_neg (fun z => hj ⟨by rw [← z.1, (ht c hc).2.1]; exact hk, z.2.symm⟩)
theorem Vt_F {v : Option Nat} (h : Vt x0 x) (hj : ¬ (x.k a = 11 ∧ j = 2) ∧ ¬ (x.k a = 9 ∧ j = 0) ∧ ¬ (x.k a = 10 ∧ j = 3)) : Vt x0 (x.wF (up2 x.F a j v)) := fun c hc => by
  obtain ⟨p1, p2, p3, p4, p5, p6⟩ := h c hc
  refine ⟨p1, p2, fun h => ?_, fun h => ⟨(p4 h).1, ?_⟩, fun h => ⟨(p5 h).1, ?_⟩, p6⟩
  · rw [← p3 h]; exact if_neg (fun z => hj.1 ⟨by rw [← z.1, p2]; exact h, z.2.symm⟩)
  · rw [← (p4 h).2]; exact if_neg (fun z => hj.2.1 ⟨by rw [← z.1, p2]; exact h, z.2.symm⟩)
  · rw [← (p5 h).2]; exact if_neg (fun z => hj.2.2 ⟨by rw [← z.1, p2]; exact h, z.2.symm⟩)
theorem Vt_J {f : Nat → Nat → Int32} (h : Vt x0 x) : Vt x0 (x.wJ f) := fun c hc => h c hc
theorem Vt_G {i : Nat} {v : Option Nat} (h : Vt x0 x) (hk : x.k a ≠ 24 ∧ x.k a ≠ 28) : Vt x0 (x.wG (up2 x.G a i v)) := fun c hc => by
  obtain ⟨p1, p2, p3, p4, p5, p6⟩ := h c hc
  refine ⟨p1, p2, p3, p4, p5, fun h => ?_⟩
  rw [← p6 h]
  funext i'
  refine if_neg (fun z => ?_)
  rw [← z.1, p2] at hk
  omega
theorem Vt_G0 {q i : Nat} {v : Option Nat} (h : Vt x0 x) (hq : q ∉ x0.LP) : Vt x0 (x.wG (up2 x.G q i v)) := fun c hc => by
  obtain ⟨p1, p2, p3, p4, p5, p6⟩ := h c hc
  refine ⟨p1, p2, p3, p4, p5, fun h => ?_⟩
  rw [← p6 h]
  funext i'
  exact if_neg (fun z => hq (by rw [← z.1]; exact hc))
theorem Vt_F0 {q j : Nat} {v : Option Nat} (h : Vt x0 x) (hq : q ∉ x0.LP) : Vt x0 (x.wF (up2 x.F q j v)) := fun c hc => by
  have hc' : c ≠ q := fun z => hq (by rw [← z]; exact hc)
  obtain ⟨p1, p2, p3, p4, p5, p6⟩ := h c hc
  exact ⟨p1, p2, fun h => by rw [← p3 h]; exact if_neg (fun z => hc' z.1), fun h => ⟨(p4 h).1, by rw [← (p4 h).2]; exact if_neg (fun z => hc' z.1)⟩, fun h => ⟨(p5 h).1, by rw [← (p5 h).2]; exact if_neg (fun z => hc' z.1)⟩, p6⟩
theorem Vt_I0 {q j : Nat} {v : Int32} (h : Vt x0 x) (hq : q ∉ x0.LP) : Vt x0 (x.wI (up2 x.I q j v)) := fun c hc => by
  have hc' : c ≠ q := fun z => hq (by rw [← z]; exact hc)
  obtain ⟨p1, p2, p3, p4, p5, p6⟩ := h c hc
  exact ⟨p1, p2, p3, fun h => ⟨by rw [← (p4 h).1]; exact if_neg (fun z => hc' z.1), (p4 h).2⟩, fun h => ⟨by rw [← (p5 h).1]; exact if_neg (fun z => hc' z.1), (p5 h).2⟩, p6⟩
theorem Vt_new {q ci N : Nat} (h : Vt x0 x) (hq : q ∉ x.LP) : Vt x0 (x.new q ci N) := fun c hc => by
  obtain ⟨p1, p2, p3, p4, p5, p6⟩ := h c hc
  have hc' : c ≠ q := fun z => hq (by rw [← z]; exact p1)
  refine ⟨List.mem_append_left _ p1, (va_up_ne _ _ hc').trans p2, fun h => ?_, fun h => ⟨?_, ?_⟩, fun h => ⟨?_, ?_⟩, p6⟩
  · rw [← p3 h]; exact congrFun (va_up_ne _ _ hc') _
  · rw [← (p4 h).1]; exact congrFun (va_up_ne _ _ hc') _
  · rw [← (p4 h).2]; exact congrFun (va_up_ne _ _ hc') _
  · rw [← (p5 h).1]; exact congrFun (va_up_ne _ _ hc') _
  · rw [← (p5 h).2]; exact congrFun (va_up_ne _ _ hc') _
theorem Vt_newJ {q ci N : Nat} (h : Vt x0 x) (hq : q ∉ x.LP) : Vt x0 (x.newJ q ci N) := fun c hc => by
  obtain ⟨p1, p2, p3, p4, p5, p6⟩ := h c hc
  have hc' : c ≠ q := fun z => hq (by rw [← z]; exact p1)
  exact ⟨List.mem_append_left _ p1, (va_up_ne _ _ hc').trans p2, p3, p4, p5, p6⟩
theorem Vt_newG {q ci N : Nat} (h : Vt x0 x) (hq : q ∉ x.LP) : Vt x0 (x.newG q ci N) := fun c hc => by
  obtain ⟨p1, p2, p3, p4, p5, p6⟩ := h c hc
  have hc' : c ≠ q := fun z => hq (by rw [← z]; exact p1)
  exact ⟨List.mem_append_left _ p1, (va_up_ne _ _ hc').trans p2, p3, p4, p5, fun h => by rw [← p6 h]; exact va_up_ne _ _ hc'⟩
theorem V9_new {q ci N : Nat} (ht : Vt x0 x) (h : V9 x0 x) (hq : q ∉ x.LP) : V9 x0 (x.new q ci N) := fun c hc hk => by
  have hc' : c ≠ q := fun z => hq (by rw [← z]; exact (ht c hc).1)
  rw [← h c hc hk]; exact congrFun (va_up_ne _ _ hc') _
theorem Vt_clo {WI WF : List (Nat × Nat)} {WJ WG : List Nat} (h1 : (9, 3) ∉ WI ∧ (10, 1) ∉ WI) (h2 : (11, 2) ∉ WF ∧ (9, 0) ∉ WF ∧ (10, 3) ∉ WF) (h3 : 24 ∉ WG ∧ 28 ∉ WG) : CloR WI WF WJ WG (Vt x0) :=
  ⟨fun x a ci j v hp ha hk hj => Vt_I hp ⟨fun z => h1.1 (by rw [← z.1, ← z.2, hk]; exact hj), fun z => h1.2 (by rw [← z.1, ← z.2, hk]; exact hj)⟩,
   fun x a ci j v hp ha hk hj => Vt_F hp ⟨fun z => h2.1 (by rw [← z.1, ← z.2, hk]; exact hj), fun z => h2.2.1 (by rw [← z.1, ← z.2, hk]; exact hj), fun z => h2.2.2 (by rw [← z.1, ← z.2, hk]; exact hj)⟩,
   fun x a f hp _ _ _ => Vt_J hp, fun x a i v hp ha hk => Vt_G hp ⟨fun z => h3.1 (by rw [← z]; exact hk), fun z => h3.2 (by rw [← z]; exact hk)⟩, fun x c z hp => hp, fun x q ci N hp hq => Vt_new hp hq, fun x q ci N _ hp hq => Vt_newJ hp hq, fun x q ci N _ hp hq => Vt_newG hp hq⟩
theorem V1_clo {WI WF : List (Nat × Nat)} {WJ WG : List Nat} (h0 : (11, 9) ∉ WI) (h1 : (9, 3) ∉ WI ∧ (10, 1) ∉ WI) (h2 : (11, 2) ∉ WF ∧ (9, 0) ∉ WF ∧ (10, 3) ∉ WF) (h3 : 24 ∉ WG ∧ 28 ∉ WG) : CloR WI WF WJ WG (V1 x0) := by
  obtain ⟨c1, c2, c3, c4, c5, c6, c7, c8⟩ := Vt_clo (x0 := x0) (WJ := WJ) h1 h2 h3
  exact ⟨fun x a ci j v hp ha hk hj => ⟨c1 x a ci j v hp.1 ha hk hj, V9_I hp.1 hp.2 (fun z => h0 (by rw [← z.1, ← z.2, hk]; exact hj))⟩, fun x a ci j v hp ha hk hj => ⟨c2 x a ci j v hp.1 ha hk hj, hp.2⟩, fun x a f hp h h' h'' => ⟨c3 x a f hp.1 h h' h'', hp.2⟩, fun x a i v hp ha hk => ⟨c4 x a i v hp.1 ha hk, hp.2⟩, fun x c z hp => hp, fun x q ci N hp hq => ⟨c6 x q ci N hp.1 hq, V9_new hp.1 hp.2 hq⟩, fun x q ci N h hp hq => ⟨c7 x q ci N h hp.1 hq, hp.2⟩, fun x q ci N h hp hq => ⟨c8 x q ci N h hp.1 hq, hp.2⟩⟩
theorem KT1_Vt {o : Nat} {a : A1} (h : KT1 o a x0) (ho : o ∈ x0.LP ∧ x0.k o = 11) (hv : Vt x0 x) : KT1 o a x := by
  obtain ⟨s, q, d, y, h1, h2, h3, h4, h5, h6, h7, h8⟩ := h
  refine ⟨s, q, d, y, ?_, ?_, ?_, ?_, ?_, h6, fun t ht => ?_, h8⟩
  · rw [(hv o ho.1).2.2.1 ho.2]; exact h1
  · exact ⟨(hv s h2.1).1, by rw [(hv s h2.1).2.1]; exact h2.2⟩
  · rw [((hv s h2.1).2.2.2.1 h2.2).2]; exact h3
  · exact ⟨(hv q h4.1).1, by rw [(hv q h4.1).2.1]; exact h4.2⟩
  · rw [((hv s h2.1).2.2.2.1 h2.2).1]; exact h5
  · obtain ⟨p1, p2, p3, p4, p5, p6⟩ := h7 t ht
    refine ⟨?_, ⟨(hv _ p2.1).1, by rw [(hv _ p2.1).2.1]; exact p2.2⟩, ?_, ?_, ⟨(hv _ p5.1).1, by rw [(hv _ p5.1).2.1]; exact p5.2⟩, fun k hk => ?_⟩
    · rw [(hv q h4.1).2.2.2.2.2 (Or.inl h4.2)]; exact p1
    · rw [((hv _ p2.1).2.2.2.2.1 p2.2).1]; exact p3
    · rw [((hv _ p2.1).2.2.2.2.1 p2.2).2]; exact p4
    · rw [(hv _ p5.1).2.2.2.2.2 (Or.inr p5.2)]; exact p6 k hk
theorem KC1_o {o N : Nat} {a : A1} (h : KC1 o N a x) : o ∈ x.LP ∧ x.k o = 11 := by
  obtain ⟨⟨b, g, s, hh, I, F, A, E, rfl, hk, -⟩, -⟩ := h
  exact hk.2.2.1.1
theorem KC1_V1 {o N N' : Nat} {a : A1} (h : KC1 o N a x0) (hk : KInv o N' a.vv x) (hv : V1 x0 x) : KC1 o N' a x := by
  have ho := KC1_o h
  exact ⟨hk, KT1_Vt h.2.1 ho hv.1, by rw [hv.2 o ho.1 ho.2]; exact h.2.2.1, h.2.2.2⟩
end VS
/-! rules where it is known who is asked -/
section QV
variable {x : HS} {ci j kd N o : Nat} {r w : Option Nat} {i v : Int32}
theorem qv_if {c A A' B B' : Prop} (hA : c → A → A') (hB : ¬ c → B → B') : wIf c A B → wIf c A' B' := fun h => ⟨fun z => hA z (h.1 z), fun z => hB z (h.2 z)⟩
theorem qv_getI {Z Z' : Int32 → Prop} (h : o ∈ x.LP → x.k o = ci → Z (x.I o j) → Z' (x.I o j)) : wGetI x ci j (some o) Z → wGetI x ci j (some o) Z' := fun ⟨a, h1, h2, h3, h4⟩ => by cases h1; exact ⟨o, rfl, h2, h3, h h2 h3 h4⟩
theorem qv_getF {Z Z' : Option Nat → Prop} (h : o ∈ x.LP → x.k o = ci → Z (x.F o j) → Z' (x.F o j)) : wGetF x ci j (some o) Z → wGetF x ci j (some o) Z' := fun ⟨a, h1, h2, h3, h4⟩ => by cases h1; exact ⟨o, rfl, h2, h3, h h2 h3 h4⟩
theorem qv_putI {Z Z' : HS → Prop} (h : o ∈ x.LP → x.k o = ci → Z (x.wI (up2 x.I o j v)) → Z' (x.wI (up2 x.I o j v))) : wPutI x ci j (some o) v Z → wPutI x ci j (some o) v Z' := fun ⟨a, h1, h2, h3, h4⟩ => by cases h1; exact ⟨o, rfl, h2, h3, h h2 h3 h4⟩
theorem qv_putF {Z Z' : HS → Prop} (h : o ∈ x.LP → x.k o = ci → Z (x.wF (up2 x.F o j w)) → Z' (x.wF (up2 x.F o j w))) : wPutF x ci j (some o) w Z → wPutF x ci j (some o) w Z' := fun ⟨a, h1, h2, h3, h4⟩ => by cases h1; exact ⟨o, rfl, h2, h3, h h2 h3 h4⟩
theorem qv_aldG {Z Z' : Option Nat → Prop} (h : o ∈ x.LP → x.k o = kd → wIn i (x.n o) → Z (x.G o (ix i)) → Z' (x.G o (ix i))) : wAldG x kd (some o) i Z → wAldG x kd (some o) i Z' := fun ⟨a, h1, h2, h3, h4, h5⟩ => by cases h1; exact ⟨o, rfl, h2, h3, h4, h h2 h3 h4 h5⟩
theorem qv_astG {Z Z' : HS → Prop} (h : o ∈ x.LP → x.k o = kd → wIn i (x.n o) → Z (x.wG (up2 x.G o (ix i) w)) → Z' (x.wG (up2 x.G o (ix i) w))) : wAstG x kd ci (some o) i w Z → wAstG x kd ci (some o) i w Z' := fun ⟨a, h1, h2, h3, h4, h5, h6⟩ => by cases h1; exact ⟨o, rfl, h2, h3, h4, h5, h h2 h3 h4 h6⟩
theorem qv_astB {Z Z' : HS → Prop} (h : o ∈ x.LP → x.k o = 21 → wIn i (x.n o) → Z (x.wJ (up2 x.J o (ix i) v.toInt8.toInt32)) → Z' (x.wJ (up2 x.J o (ix i) v.toInt8.toInt32))) : wAstB x (some o) i v Z → wAstB x (some o) i v Z' := fun ⟨a, h1, h2, h3, h4, h5⟩ => by cases h1; exact ⟨o, rfl, h2, h3, h4, h h2 h3 h4 h5⟩
theorem qv_new {Z Z' : Option Nat → HS → Prop} (h : ∀ q, q ∉ x.LP → Z (some q) (x.new q ci N) → Z' (some q) (x.new q ci N)) : wNew x ci N Z → wNew x ci N Z' := fun z => ⟨z.1, z.2.1, fun q hq => h q hq (z.2.2 q hq)⟩
theorem qv_newJ {Z Z' : Option Nat → HS → Prop} (h : ∀ q, q ∉ x.LP → Z (some q) (x.newJ q kd (ix i)) → Z' (some q) (x.newJ q kd (ix i))) : wNewJ x kd i Z → wNewJ x kd i Z' := fun z => ⟨z.1, z.2.1, z.2.2.1, z.2.2.2.1, fun q hq => h q hq (z.2.2.2.2 q hq)⟩
theorem qv_newG {Z Z' : Option Nat → HS → Prop} (h : ∀ q, q ∉ x.LP → Z (some q) (x.newG q kd (ix i)) → Z' (some q) (x.newG q kd (ix i))) : wNewG x kd i Z → wNewG x kd i Z' := fun z => ⟨z.1, z.2.1, z.2.2.1, z.2.2.2.1, fun q hq => h q hq (z.2.2.2.2 q hq)⟩
theorem qv_throw {S : String} {X X' : String → HS → Prop} (h : X S (x.wC (x.c - 1) (x.z - 6)) → X' S (x.wC (x.c - 1) (x.z - 6))) : wThrow x S X → wThrow x S X' := fun z => ⟨z.1, z.2.1, h z.2.2⟩
theorem qv_join {κ : Type} {K K' : κ} {B B' : κ → Prop} (R : κ → κ → Prop) (hK : R K K') (hB : ∀ K K', R K K' → B K → B' K') : wJoin K B → wJoin K' B' := fun h => hB K K' hK h
theorem qv_and {P Z Z' : Prop} (h : P → Z → Z') : P ∧ Z → P ∧ Z' := fun z => ⟨z.1, h z.1 z.2⟩
end QV
