set_option linter.unusedVariables false
set_option linter.unusedSimpArgs false
/-! a fact comes: what always holds, and the reference -/
/-- the fact a.nn comes to the table t between L1 and L2 -/
def comeA (a : AS) (t : Nat) (cs : Nat → Int32) (L1 L2 : List Nat) : AS := putA (newA a t cs) t (L1 ++ a.nn :: L2)
theorem comeA_f (a : AS) (t : Nat) (cs : Nat → Int32) (L1 L2 : List Nat) : (comeA a t cs L1 L2).1 = a.1 ∧ (comeA a t cs L1 L2).ky = a.ky ∧ (comeA a t cs L1 L2).rw = va_up a.rw t (L1 ++ a.nn :: L2) ∧ (comeA a t cs L1 L2).fc = va_up a.fc a.nn cs ∧ (comeA a t cs L1 L2).fb = va_up a.fb a.nn (a.tm + 1) ∧ (comeA a t cs L1 L2).fd = va_up a.fd a.nn (-1) ∧ (comeA a t cs L1 L2).ft = va_up a.ft a.nn t ∧ (comeA a t cs L1 L2).sn = va_up a.sn a.nn a.nn ∧ (comeA a t cs L1 L2).nn = a.nn + 1 ∧ (comeA a t cs L1 L2).tm = a.tm + 1 ∧ (comeA a t cs L1 L2).hz = a.hz ∧ (comeA a t cs L1 L2).mk = a.mk ∧ (comeA a t cs L1 L2).hs = (if a.mk = [] then a.hs else a.hs ++ [(a.nn, false)]) ∧ (comeA a t cs L1 L2).2.2 = a.2.2 := by
  obtain ⟨g0, g1, g2, g3, g4, g5, g6, g7, g8, g9, g10, g11, g12, g13⟩ := newA_f a t cs
  refine ⟨g0, g1, ?_, g3, g4, g5, g6, g7, g8, g9, g10, g11, g12, g13⟩
  show va_up (newA a t cs).rw t _ = _
  rw [g2]
theorem flat_congr {f g : Nat → List Nat} : ∀ {R : List Nat}, (∀ y, y ∈ R → f y = g y) → R.flatMap f = R.flatMap g
  | [], _ => rfl
  | x :: R, h => by
      rw [List.flatMap_cons, List.flatMap_cons, h x List.mem_cons_self, flat_congr (fun y hy => h y (List.mem_cons_of_mem _ hy))]
theorem flat_len {f : Nat → List Nat} {t : Nat} {L : List Nat} (hl : L.length = (f t).length + 1) : ∀ {R : List Nat}, R.Nodup → t ∈ R → (R.flatMap (va_up f t L)).length = (R.flatMap f).length + 1
  | [], _, h => absurd h List.not_mem_nil
  | x :: R, hn, h => by
      rw [List.flatMap_cons, List.flatMap_cons, List.length_append, List.length_append]
      have hx := List.nodup_cons.mp hn
      by_cases e : x = t
      · subst e
        have : R.flatMap (va_up f x L) = R.flatMap f := by
          refine flat_congr (fun y hy => va_up_ne _ _ (fun z => hx.1 (by rw [← z]; exact hy)))
        rw [this, va_up_self]; omega
      · rw [va_up_ne _ _ e, flat_len hl hx.2 ((List.mem_cons.mp h).resolve_left (fun z => e z.symm))]; omega
theorem allF_come {a : AS} (hV : AV a) {t : Nat} (ht : inT a t) {cs : Nat → Int32} {L1 L2 : List Nat} (hr : a.rw t = L1 ++ L2) : (allF (comeA a t cs L1 L2)).length = (allF a).length + 1 := by
  unfold allF
  rw [(comeA_f a t cs L1 L2).2.2.1]
  refine flat_len ?_ List.nodup_range (List.mem_range.mpr ?_)
  · rw [hr]; simp only [List.length_append, List.length_cons]; omega
  · have := hV.1.2.2.2.2.2.2.2
    unfold inT at ht; omega
theorem base_come (a : AS) (t : Nat) (cs : Nat → Int32) (L1 L2 : List Nat) : baseT (comeA a t cs L1 L2) = if a.mk = [] then a.tm + 1 - a.hs.length else baseT a := by
  obtain ⟨-, -, -, -, -, -, -, -, -, g1, -, -, g2, -⟩ := comeA_f a t cs L1 L2
  unfold baseT
  rw [g1, g2]
  split
  · rfl
  · rw [List.length_append]; simp only [List.length_cons, List.length_nil]; omega
theorem mem_come {a : AS} {t t' n : Nat} {L1 L2 : List Nat} (hr : a.rw t = L1 ++ L2) : n ∈ va_up a.rw t (L1 ++ a.nn :: L2) t' ↔ n ∈ a.rw t' ∨ (n = a.nn ∧ t' = t) := by
  by_cases e : t' = t
  · subst e
    rw [va_up_self, hr]
    simp only [List.mem_append, List.mem_cons]
    constructor
    · rintro (h | h | h)
      · exact Or.inl (Or.inl h)
      · exact Or.inr ⟨h, trivial⟩
      · exact Or.inl (Or.inr h)
    · rintro ((h | h) | ⟨h, -⟩)
      · exact Or.inl h
      · exact Or.inr (Or.inr h)
      · exact Or.inr (Or.inl h)
  · rw [va_up_ne _ _ e]
    exact ⟨Or.inl, fun h => h.resolve_right (fun z => e z.2)⟩
theorem av_come {a : AS} (h : AV a) {t : Nat} (ht : inT a t) (hlen : (allF a).length < 3000) {cs : Nat → Int32} {L1 L2 : List Nat} (hr : a.rw t = L1 ++ L2) : AV (comeA a t cs L1 L2) := by
  have hall := allF_come h ht (cs := cs) hr
  obtain ⟨⟨r1, r2, r3, r4, r5, r6, r7, r8⟩, hk, ⟨h1, h2, h3, h4, h5, h6⟩, hc, ho⟩ := h
  obtain ⟨g0, g1, g2, g3, g4, g5, g6, g7, g8, g9, g10, g11, g12, g13⟩ := comeA_f a t cs L1 L2
  have gb := base_come a t cs L1 L2
  have e1 : (comeA a t cs L1 L2).tn = a.tn := congrArg A1.tn g0
  have e2 : (comeA a t cs L1 L2).co = a.co := congrArg A1.co g0
  have e3 : (comeA a t cs L1 L2).fo = a.fo := congrArg Prod.snd g13
  have e4 : (comeA a t cs L1 L2).2.2.1 = a.2.2.1 := congrArg Prod.fst g13
  have hnn : ∀ t' n, n ∈ a.rw t' → n ≠ a.nn := fun t' n hn z => by have := (r4 t' n hn).1; omega
  have memR : ∀ t' n, n ∈ (comeA a t cs L1 L2).rw t' ↔ n ∈ a.rw t' ∨ (n = a.nn ∧ t' = t) := fun t' n => by rw [g2]; exact mem_come hr
  refine ⟨⟨?_, ?_, ?_, ?_, ?_, ?_, ?_, ?_⟩, ?_, ⟨?_, ?_, ?_, ?_, ?_, ?_⟩, ?_, ?_⟩
  · intro t' ht'
    have ht'' : ¬ inT a t' := by unfold inT at ht' ⊢; rw [e1] at ht'; exact ht'
    have e : t' ≠ t := fun z => ht'' (by rw [z]; exact ht)
    rw [g2, va_up_ne _ _ e]; exact r1 t' ht''
  · intro t1 t2 n hn1 hn2
    rcases (memR t1 n).mp hn1 with z1 | ⟨z1, z1'⟩
    · rcases (memR t2 n).mp hn2 with z2 | ⟨z2, -⟩
      · exact r2 t1 t2 n z1 z2
      · exact absurd z2 (hnn _ _ z1)
    · rcases (memR t2 n).mp hn2 with z2 | ⟨z2, z2'⟩
      · exact absurd z1 (hnn _ _ z2)
      · rw [z1', z2']
  · intro t'
    rw [g2]
    by_cases e : t' = t
    · subst e
      rw [va_up_self]
      have hd := r3 t'
      have hno : a.nn ∉ L1 ++ L2 := fun z => hnn t' a.nn (by rw [hr]; exact z) rfl
      rw [hr] at hd
      exact (List.perm_middle.nodup_iff).mpr (List.nodup_cons.mpr ⟨hno, hd⟩)
    · rw [va_up_ne _ _ e]; exact r3 t'
  · intro t' n hn
    rw [g8, g6, g4, g9, g5]
    rcases (memR t' n).mp hn with z | ⟨z, z'⟩
    · obtain ⟨q1, q2, q3, q4, q5⟩ := r4 t' n z
      have e := hnn t' n z
      rw [va_up_ne _ _ e, va_up_ne _ _ e, va_up_ne _ _ e]
      exact ⟨by omega, q2, q3, by omega, q5.imp id (fun y => ⟨y.1, by omega⟩)⟩
    · subst z
      rw [va_up_self, va_up_self, va_up_self]
      exact ⟨by omega, z'.symm, by omega, by omega, Or.inl rfl⟩
  · rw [g10, g9]; exact ⟨r5.1, by omega⟩
  · rw [g8, g9]; omega
  · rw [hall]; omega
  · rw [e1]; exact r8
  · unfold AVk inT
    rw [e1, g1, e2]; exact hk
  · rw [g11]; exact h1
  · rw [g11, g12]; intro m hm
    have := h2 m hm
    split
    · exact this
    · rw [List.length_append]; omega
  · rw [g11, g12]; intro hm; rw [if_pos hm]; exact h3 hm
  · rw [g12, g9]
    split
    · omega
    · rw [List.length_append]; simp only [List.length_cons, List.length_nil]; omega
  · intro k e he
    rw [g12] at he
    rw [gb, g6, g4, g5]
    by_cases hm : a.mk = []
    · rw [if_pos hm, h3 hm] at he; simp at he
    · rw [if_neg hm] at he ⊢
      by_cases hk : k < a.hs.length
      · rw [List.getElem?_append_left hk] at he
        obtain ⟨q1, q2, q3⟩ := h5 k e he
        have hne := hnn _ _ q1
        rw [va_up_ne _ _ hne, va_up_ne _ _ hne, va_up_ne _ _ hne]
        exact ⟨(memR _ _).mpr (Or.inl q1), q2, q3⟩
      · rw [List.getElem?_append_right (by omega)] at he
        have hk2 : k = a.hs.length := by
          have := (List.getElem?_eq_some_iff.mp he).1
          simp at this; omega
        subst hk2
        simp at he
        subst he
        rw [va_up_self, va_up_self, va_up_self]
        refine ⟨(memR _ _).mpr (Or.inr ⟨rfl, rfl⟩), fun _ => ?_, fun z => absurd z (by simp)⟩
        unfold baseT; omega
  · intro t' n hn hb'
    rw [gb, g4] at hb'
    rw [g7, g4, g5, gb]
    rcases (memR t' n).mp hn with z | ⟨z, z'⟩
    · have e := hnn t' n z
      rw [va_up_ne _ _ e] at hb' ⊢
      by_cases hm : a.mk = []
      · rw [if_pos hm, h3 hm] at hb'
        have := (r4 t' n z).2.2.2.1
        simp at hb'; omega
      · rw [if_neg hm] at hb' ⊢
        obtain ⟨q1, q2⟩ := h6 t' n z hb'
        have e9 := hnn _ _ q1
        rw [va_up_ne _ _ e, va_up_ne _ _ e, va_up_ne _ _ e9]
        exact ⟨(memR _ _).mpr (Or.inl q1), q2⟩
    · subst z
      rw [va_up_self]
      exact ⟨(memR _ _).mpr (Or.inr ⟨rfl, z'⟩), Or.inl rfl⟩
  · intro c hc' hop
    have eop : (comeA a t cs L1 L2).op = a.op := congrArg (fun z => z.1) e4
    have ect : (comeA a t cs L1 L2).ct = a.ct := congrArg (fun z => z.2.2.1) e4
    have ecl : (comeA a t cs L1 L2).cl = a.cl := congrArg (fun z => z.2.2.2.2.2.1) e4
    have ecm : (comeA a t cs L1 L2).cm = a.cm := congrArg (fun z => z.2.2.2.1) e4
    have eci : (comeA a t cs L1 L2).ci = a.ci := congrArg (fun z => z.2.2.2.2.1) e4
    rw [eop] at hop
    obtain ⟨q1, q2, q3, q5⟩ := hc c hc' hop
    rw [ect, ecl, ecm, eci, g9]
    exact ⟨by unfold inT; rw [e1]; exact q1, fun n hn => (memR _ _).mpr (Or.inl (q2 n hn)), q3, by omega⟩
  · rw [e3]; exact ho
