set_option linter.unusedVariables false
set_option linter.unusedSimpArgs false
/-! what always holds stays so: a fact goes, a fact comes -/
theorem goA_f (a : AS) (n : Nat) : (goA a n).1 = a.1 ∧ (goA a n).ky = a.ky ∧ (goA a n).rw = a.rw ∧ (goA a n).fc = a.fc ∧ (goA a n).fb = a.fb ∧ (goA a n).fd = va_up a.fd n (a.tm + 1) ∧ (goA a n).ft = a.ft ∧ (goA a n).sn = a.sn ∧ (goA a n).nn = a.nn ∧ (goA a n).tm = a.tm + 1 ∧ (goA a n).hz = a.hz ∧ (goA a n).mk = a.mk ∧ (goA a n).hs = (if a.mk = [] then a.hs else a.hs ++ [(n, true)]) ∧ (goA a n).2.2 = a.2.2 := by
  unfold goA noteA
  show _ ∧ _
  by_cases h : a.mk = []
  · have h' : ((a.w_tm (a.tm + 1)).w_fd (va_up a.fd n (a.tm + 1))).mk = [] := h
    rw [if_pos h', if_pos h]
    exact ⟨rfl, rfl, rfl, rfl, rfl, rfl, rfl, rfl, rfl, rfl, rfl, rfl, rfl, rfl⟩
  · have h' : ¬ ((a.w_tm (a.tm + 1)).w_fd (va_up a.fd n (a.tm + 1))).mk = [] := h
    rw [if_neg h', if_neg h]
    exact ⟨rfl, rfl, rfl, rfl, rfl, rfl, rfl, rfl, rfl, rfl, rfl, rfl, rfl, rfl⟩
theorem newA_f (a : AS) (t : Nat) (cs : Nat → Int32) : (newA a t cs).1 = a.1 ∧ (newA a t cs).ky = a.ky ∧ (newA a t cs).rw = a.rw ∧ (newA a t cs).fc = va_up a.fc a.nn cs ∧ (newA a t cs).fb = va_up a.fb a.nn (a.tm + 1) ∧ (newA a t cs).fd = va_up a.fd a.nn (-1) ∧ (newA a t cs).ft = va_up a.ft a.nn t ∧ (newA a t cs).sn = va_up a.sn a.nn a.nn ∧ (newA a t cs).nn = a.nn + 1 ∧ (newA a t cs).tm = a.tm + 1 ∧ (newA a t cs).hz = a.hz ∧ (newA a t cs).mk = a.mk ∧ (newA a t cs).hs = (if a.mk = [] then a.hs else a.hs ++ [(a.nn, false)]) ∧ (newA a t cs).2.2 = a.2.2 := by
  unfold newA noteA
  by_cases h : a.mk = []
  · have h' : ((((((((a.w_tm (a.tm + 1)).w_nn (a.nn + 1)).w_fc (va_up a.fc a.nn cs)).w_fb (va_up a.fb a.nn (a.tm + 1))).w_fd (va_up a.fd a.nn (-1))).w_ft (va_up a.ft a.nn t)).w_sn (va_up a.sn a.nn a.nn))).mk = [] := h
    rw [if_pos h', if_pos h]
    exact ⟨rfl, rfl, rfl, rfl, rfl, rfl, rfl, rfl, rfl, rfl, rfl, rfl, rfl, rfl⟩
  · have h' : ¬ ((((((((a.w_tm (a.tm + 1)).w_nn (a.nn + 1)).w_fc (va_up a.fc a.nn cs)).w_fb (va_up a.fb a.nn (a.tm + 1))).w_fd (va_up a.fd a.nn (-1))).w_ft (va_up a.ft a.nn t)).w_sn (va_up a.sn a.nn a.nn))).mk = [] := h
    rw [if_neg h', if_neg h]
    exact ⟨rfl, rfl, rfl, rfl, rfl, rfl, rfl, rfl, rfl, rfl, rfl, rfl, rfl, rfl⟩
theorem allF_eq {a a' : AS} (h : a'.rw = a.rw) : allF a' = allF a := by unfold allF; rw [h]
theorem base_go (a : AS) (n : Nat) : baseT (goA a n) = if a.mk = [] then a.tm + 1 - a.hs.length else baseT a := by
  obtain ⟨-, -, -, -, -, -, -, -, -, g1, -, -, g2, -⟩ := goA_f a n
  unfold baseT
  rw [g1, g2]
  split
  · rfl
  · rw [List.length_append]; simp only [List.length_cons, List.length_nil]; omega
theorem av_go {a : AS} (h : AV a) {t n : Nat} (hn : n ∈ a.rw t) (ha : a.fd n = -1) : AV (goA a n) := by
  obtain ⟨⟨r1, r2, r3, r4, r5, r6, r7, r8⟩, hk, ⟨h1, h2, h3, h4, h5, h6⟩, hc, ho⟩ := h
  obtain ⟨g0, g1, g2, g3, g4, g5, g6, g7, g8, g9, g10, g11, g12, g13⟩ := goA_f a n
  have gb := base_go a n
  have hfb := (r4 t n hn)
  have e1 : (goA a n).tn = a.tn := congrArg A1.tn g0
  have e2 : (goA a n).co = a.co := congrArg A1.co g0
  have e3 : (goA a n).fo = a.fo := congrArg Prod.snd g13
  have e4 : (goA a n).2.2.1 = a.2.2.1 := congrArg Prod.fst g13
  refine ⟨⟨?_, ?_, ?_, ?_, ?_, ?_, ?_, ?_⟩, ?_, ⟨?_, ?_, ?_, ?_, ?_, ?_⟩, ?_, ?_⟩
  · intro t' ht'; rw [g2]; exact r1 t' (by unfold inT at ht' ⊢; rw [e1] at ht'; exact ht')
  · rw [g2]; exact r2
  · rw [g2]; exact r3
  · intro t' n' hn'
    rw [g2] at hn'
    obtain ⟨q1, q2, q3, q4, q5⟩ := r4 t' n' hn'
    rw [g8, g6, g4, g9, g5]
    refine ⟨q1, q2, q3, by omega, ?_⟩
    by_cases e : n' = n
    · subst e; rw [va_up_self]; exact Or.inr ⟨by omega, by omega⟩
    · rw [va_up_ne _ _ e]; exact q5.imp id (fun z => ⟨z.1, by omega⟩)
  · rw [g10, g9]; exact ⟨r5.1, by omega⟩
  · rw [g8, g9]; omega
  · rw [allF_eq g2]; exact r7
  · rw [e1]; exact r8
  · unfold AVk inT
    rw [e1, g1, e2]; exact hk
  · rw [g11]; exact h1
  · rw [g11, g12]; intro m hm
    have := h2 m hm
    split
    · exact this
    · rw [List.length_append]; omega
  · rw [g11, g12]; intro hm; rw [if_pos hm]; exact h3 hm
  · rw [g12, g9]
    split
    · omega
    · rw [List.length_append]; simp only [List.length_cons, List.length_nil]; omega
  · intro k e he
    rw [g12] at he
    rw [g2, g6, g4, g5, gb]
    by_cases hm : a.mk = []
    · rw [if_pos hm, h3 hm] at he; simp at he
    · rw [if_neg hm] at he ⊢
      by_cases hk : k < a.hs.length
      · rw [List.getElem?_append_left hk] at he
        obtain ⟨q1, q2, q3⟩ := h5 k e he
        refine ⟨q1, q2, fun z => ?_⟩
        have hne : e.1 ≠ n := fun y => by
          have := q3 z
          rw [y, ha] at this
          have : 0 ≤ baseT a := by unfold baseT; omega
          omega
        rw [va_up_ne _ _ hne]; exact q3 z
      · rw [List.getElem?_append_right (by omega)] at he
        have hk2 : k = a.hs.length := by
          have := (List.getElem?_eq_some_iff.mp he).1
          simp at this; omega
        subst hk2
        simp at he
        subst he
        refine ⟨by rw [hfb.2.1]; exact hn, fun z => absurd z (by simp), fun _ => ?_⟩
        rw [va_up_self]; unfold baseT; omega
  · intro t' n' hn' hb'
    rw [g2] at hn'
    rw [gb, g4] at hb'
    rw [g7, g2, g4, g5, gb]
    by_cases hm : a.mk = []
    · rw [if_pos hm, h3 hm] at hb'
      have := (r4 t' n' hn').2.2.2.1
      simp at hb'; omega
    · rw [if_neg hm] at hb' ⊢
      obtain ⟨q1, q2⟩ := h6 t' n' hn' hb'
      refine ⟨q1, ?_⟩
      by_cases e : n' = n
      · subst e
        refine Or.inl (q2.resolve_right (fun z => ?_))
        rw [ha] at z; omega
      · rw [va_up_ne _ _ e]; exact q2
  · intro c hc' hop
    have eop : (goA a n).op = a.op := congrArg (fun z => z.1) e4
    have ect : (goA a n).ct = a.ct := congrArg (fun z => z.2.2.1) e4
    have ecl : (goA a n).cl = a.cl := congrArg (fun z => z.2.2.2.2.2.1) e4
    have ecm : (goA a n).cm = a.cm := congrArg (fun z => z.2.2.2.1) e4
    have eci : (goA a n).ci = a.ci := congrArg (fun z => z.2.2.2.2.1) e4
    rw [eop] at hop
    obtain ⟨q1, q2, q3, q5⟩ := hc c hc' hop
    rw [ect, ecl, ecm, eci, g2, g9]
    exact ⟨by unfold inT; rw [e1]; exact q1, q2, q3, by omega⟩
  · rw [e3]; exact ho
theorem mem_allF {a : AS} (h : AVr a) {n : Nat} : n ∈ allF a ↔ ∃ t, n ∈ a.rw t := by
  unfold allF
  rw [List.mem_flatMap]
  constructor
  · rintro ⟨t, -, h2⟩; exact ⟨t, h2⟩
  · rintro ⟨t, h2⟩
    refine ⟨t, List.mem_range.mpr ?_, h2⟩
    by_cases ht : inT a t
    · unfold inT at ht; have := h.2.2.2.2.2.2.2; omega
    · rw [h.1 t ht] at h2; exact absurd h2 List.not_mem_nil
theorem row_le0 {f : Nat → List Nat} {t : Nat} : ∀ {L : List Nat}, t ∈ L → (f t).length ≤ (L.flatMap f).length
  | [], h => absurd h List.not_mem_nil
  | x :: L, h => by
      rw [List.flatMap_cons, List.length_append]
      rcases List.mem_cons.mp h with rfl | h
      · omega
      · have := row_le0 (f := f) h; omega
theorem row_le {a : AS} (h : AV a) (t : Nat) : (a.rw t).length ≤ 3000 := by
  by_cases ht : inT a t
  · have h8 := h.1.2.2.2.2.2.2.2
    unfold inT at ht
    have := row_le0 (f := a.rw) (t := t) (L := List.range 12) (List.mem_range.mpr (by omega))
    have h7 := h.1.2.2.2.2.2.2.1
    unfold allF at h7
    omega
  · rw [h.1.1 t ht]; simp
theorem filter2_le {p q : Nat → Bool} (h : ∀ n, p n = true → q n = true → False) : ∀ (L : List Nat), (L.filter p).length + (L.filter q).length ≤ L.length
  | [] => by simp
  | x :: L => by
      have ih := filter2_le h L
      rw [List.filter_cons, List.filter_cons]
      by_cases hp : p x = true
      · by_cases hq : q x = true
        · exact absurd (h x hp hq) (fun z => z)
        · rw [if_pos hp, if_neg hq]; simp only [List.length_cons]; omega
      · rw [if_neg hp]
        split <;> simp only [List.length_cons] <;> omega
theorem chg_le {a : AS} (h : AV a) (t : Nat) (P Q : Int) : (chgL a t P Q).length ≤ 3000 := by
  unfold chgL
  rw [List.length_append, List.length_map, List.length_map]
  have h1 := filter2_le (p := fun n => thereB a Q n && !(thereB a P n)) (q := fun n => thereB a P n && !(thereB a Q n)) (fun n z1 z2 => by
    cases hP : thereB a P n <;> cases hQ : thereB a Q n <;> simp [hP, hQ] at z1 z2) (a.rw t)
  have h2 := row_le h t
  omega
