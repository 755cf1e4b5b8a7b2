set_option linter.unusedVariables false
set_option linter.unusedSimpArgs false
/-! making things out of things -/
/-- of the arrays of q those in done are made -/
def Pa (b : CT) (q : Nat) (done : List Nat) : Prop := (∀ j, j ∈ done → b.own (b.ad q j) = some (q, j)) ∧ ∀ r j, b.own r = some (q, j) → j ∈ done
section C17
variable {b : CT} {I : Nat → Nat → Int32} {F : Nat → Nat → Option Nat} {A : Nat → Nat → Nat → Int32} {E : Nat → Nat → Nat → Option Nat} {q j p kd N ci a : Nat} {X done d : List Nat}
theorem cF_no0 (hb : CB0 b) (h : Is b ci a) (hj : oF ci j = 0) : cF b F a j = F a j := by
  refine if_neg (fun z => ?_)
  have := (hb _ _ _ z).2.2.2.1
  rw [h.2] at this; exact this hj
theorem c_putF0 (hb : CB0 b) (h : Is b ci a) (hj : oF ci j = 0) {v : Option Nat} {Z : HS → Prop} : wPutF (cS b I F A E) ci j (some a) v Z = Z (cS b I (up2 F a j v) A E) := by
  have e : (cS b I F A E).wF (up2 (cS b I F A E).F a j v) = cS b I (up2 F a j v) A E := by
    have : up2 (cF b F) a j v = cF b (up2 F a j v) := by
      funext a' j'
      by_cases hq : a' = a ∧ j' = j
      · obtain ⟨rfl, rfl⟩ := hq
        rw [up2_self, cF_no0 hb h hj, up2_self]
      · show (if a' = a ∧ j' = j then v else cF b F a' j') = if b.own (b.ad a' j') = some (a', j') then some (b.ad a' j') else (if a' = a ∧ j' = j then v else F a' j')
        rw [if_neg hq, if_neg hq]; rfl
    show HS.mk _ _ _ _ (up2 (cF b F) a j v) _ _ _ _ = _
    rw [this]; rfl
  refine propext ⟨?_, fun z => ⟨a, rfl, h.1, h.2, by rw [e]; exact z⟩⟩
  rintro ⟨a', e', -, -, z⟩; cases e'; rw [e] at z; exact z
theorem barr_Is (hp : p ∉ b.B.LP) : ∀ c a, Is (barr b q j p kd N) c a ↔ Is b c a ∨ a = p ∧ c = kd := by
  intro c a
  unfold Is barr
  show a ∈ b.B.LP ++ [p] ∧ va_up b.B.k p kd a = c ↔ _
  rw [List.mem_append, List.mem_singleton]
  by_cases ha : a = p
  · subst ha
    rw [va_up_self]
    exact ⟨fun h => Or.inr ⟨rfl, h.2.symm⟩, fun h => h.elim (fun z => absurd z.1 hp) (fun z => ⟨Or.inr rfl, z.2.symm⟩)⟩
  · rw [va_up_ne _ _ ha]
    exact ⟨fun h => Or.inl ⟨h.1.resolve_right ha, h.2⟩, fun h => h.elim (fun z => ⟨Or.inl z.1, z.2⟩) (fun z => absurd z.1 ha)⟩
theorem CBX_new (hb : CBX b X) (hq : q ∉ b.B.LP) : CBX (bnew b q ci N) (q :: X) := by
  refine ⟨bnew_CB0 hb.1 hq, fun a ha hX j hj => ?_⟩
  have haq : a ≠ q := fun z => hX (by rw [z]; exact List.mem_cons_self)
  have hal : a ∈ b.B.LP := (List.mem_append.mp ha).resolve_right (fun z => haq (List.mem_singleton.mp z))
  have e : (bnew b q ci N).B.k a = b.B.k a := va_up_ne _ _ haq
  rw [e] at hj
  exact hb.2 a hal (fun z => hX (List.mem_cons_of_mem _ z)) j hj
theorem CBX_new0 (hb : CBX b X) (hq : q ∉ b.B.LP) (hc : ∀ j, oF ci j = 0) : CBX (bnew b q ci N) X := by
  refine ⟨bnew_CB0 hb.1 hq, fun a ha hX j hj => ?_⟩
  by_cases haq : a = q
  · subst haq
    have e : (bnew b a ci N).B.k a = ci := va_up_self _ _ _
    rw [e] at hj; exact absurd (hc j) hj
  · have hal : a ∈ b.B.LP := (List.mem_append.mp ha).resolve_right (fun z => haq (List.mem_singleton.mp z))
    have e : (bnew b q ci N).B.k a = b.B.k a := va_up_ne _ _ haq
    rw [e] at hj
    exact hb.2 a hal hX j hj
theorem Pa_new (hb : CB0 b) (hq : q ∉ b.B.LP) : Pa (bnew b q ci N) q [] := ⟨fun j hj => absurd hj List.not_mem_nil, fun r j h => absurd (hb r q j h).2.1 hq⟩
theorem Pa_newo (h : Pa b a d) : Pa (bnew b q ci N) a d := h
theorem Pa_no (h : Pa b q done) (hj : j ∉ done) : ∀ r, b.own r ≠ some (q, j) := fun r z => hj (h.2 r j z)
theorem Pa_arr (hb : CBX b X) (h3 : Is b ci q) (h : Pa b q done) (hX : q ∈ X) (hp : p ∉ b.B.LP) (hj : j ∉ done) (hk : oF ci j = kd) (hk2 : 20 ≤ kd) (hN : oL ci j = N) : CBX (barr b q j p kd N) X ∧ Pa (barr b q j p kd N) q (j :: done) := by
  obtain ⟨h1, h2⟩ := hb
  obtain ⟨h5, h6⟩ := h
  have own' : ∀ r, r ∈ b.B.LP → (barr b q j p kd N).own r = b.own r := fun r hr => va_up_ne _ _ (fun z => hp (by rw [← z]; exact hr))
  have ad' : ∀ a j', ¬ (a = q ∧ j' = j) → (barr b q j p kd N).ad a j' = b.ad a j' := fun a j' z => if_neg z
  have adq : (barr b q j p kd N).ad q j = p := up2_self _ _ _ _
  have ownp : (barr b q j p kd N).own p = some (q, j) := va_up_self _ _ _
  refine ⟨⟨fun r a j' ho => ?_, fun a ha haX j' hj' => ?_⟩, fun j' hj' => ?_, fun r j' ho => ?_⟩
  · by_cases hr : r = p
    · subst hr
      rw [ownp] at ho
      cases ho
      refine ⟨List.mem_append_right _ (List.mem_singleton.mpr rfl), List.mem_append_left _ h3.1, adq, ?_, ?_, ?_⟩
      · rw [barr_k hp h3.1, h3.2, hk]; omega
      · rw [barr_k hp h3.1, h3.2, hk]; exact va_up_self _ _ _
      · rw [barr_k hp h3.1, h3.2, hN]; exact va_up_self _ _ _
    · have e : (barr b q j p kd N).own r = b.own r := va_up_ne _ _ hr
      rw [e] at ho
      obtain ⟨z1, z2, z3, z4, z5, z6⟩ := h1 r a j' ho
      refine ⟨List.mem_append_left _ z1, List.mem_append_left _ z2, ?_, ?_, ?_, ?_⟩
      · rw [ad' a j' (fun z => hj (by rw [z.1, z.2] at ho; exact h6 r j ho))]; exact z3
      · rw [barr_k hp z2]; exact z4
      · rw [barr_k hp z1, barr_k hp z2]; exact z5
      · rw [barr_k hp z2]
        show va_up b.B.n p N r = _
        rw [va_up_ne _ _ hr]; exact z6
  · by_cases hap : a = p
    · subst hap
      have e : (barr b q j a kd N).B.k a = kd := va_up_self _ _ _
      rw [e] at hj'
      have := oF_lt hj'
      omega
    · have hal : a ∈ b.B.LP := (List.mem_append.mp ha).resolve_right (fun z => hap (List.mem_singleton.mp z))
      rw [barr_k hp hal] at hj'
      have z := h2 a hal haX j' hj'
      have hn : ¬ (a = q ∧ j' = j) := fun y => haX (by rw [y.1]; exact hX)
      rw [ad' a j' hn, own' _ (h1 _ _ _ z).1]; exact z
  · by_cases hq2 : j' = j
    · rw [hq2, adq]; exact ownp
    · have z := h5 j' ((List.mem_cons.mp hj').resolve_left hq2)
      rw [ad' q j' (fun y => hq2 y.2), own' _ (h1 _ _ _ z).1]; exact z
  · by_cases hr : r = p
    · rw [hr, ownp] at ho; cases ho; exact List.mem_cons_self
    · have e : (barr b q j p kd N).own r = b.own r := va_up_ne _ _ hr
      rw [e] at ho
      exact List.mem_cons_of_mem _ (h6 r j' ho)
theorem Pa_arro (hb : CB0 b) (h : Pa b a d) (ha : a ≠ q) (hp : p ∉ b.B.LP) : Pa (barr b q j p kd N) a d := by
  refine ⟨fun j' hj' => ?_, fun r j' ho => ?_⟩
  · have z := h.1 j' hj'
    have e1 : (barr b q j p kd N).ad a j' = b.ad a j' := if_neg (fun z => ha z.1)
    have e2 : (barr b q j p kd N).own (b.ad a j') = b.own (b.ad a j') := va_up_ne _ _ (fun y => hp (by rw [← y]; exact (hb _ _ _ z).1))
    rw [e1, e2]; exact z
  · by_cases hr : r = p
    · have : (barr b q j p kd N).own p = some (q, j) := va_up_self _ _ _
      rw [hr, this] at ho; cases ho; exact absurd rfl ha
    · have e : (barr b q j p kd N).own r = b.own r := va_up_ne _ _ hr
      rw [e] at ho; exact h.2 r j' ho
theorem Pa_end (hb : CBX b (q :: X)) (h : Pa b q done) (h3 : Is b ci q) (hd : ∀ j, oF ci j ≠ 0 → j ∈ done) : CBX b X := by
  refine ⟨hb.1, fun a ha haX j hj => ?_⟩
  by_cases haq : a = q
  · subst haq
    rw [h3.2] at hj
    exact h.1 j (hd j hj)
  · exact hb.2 a ha (fun z => (List.mem_cons.mp z).elim haq haX) j hj
theorem oF10 : ∀ j, oF 10 j ≠ 0 → j ∈ [4, 3] := by
  intro j h
  by_cases h1 : j = 4
  · simp [h1]
  · by_cases h0 : j = 3
    · simp [h0]
    · exfalso; apply h
      unfold oF
      simp [h0, h1]
theorem bnew_k {a : Nat} (hq : q ∉ b.B.LP) (ha : a ∈ b.B.LP) : a ≠ q := fun z => hq (by rw [← z]; exact ha)
theorem c_newTable (hb : CB b) {s : Nat} (hs : Is b 9 s) (hc : 4 ≤ b.B.c) (hz : 18 ≤ b.B.z) {m : Int32} {Z : Option Nat → HS → Prop} (hZ : ∀ q r b' I' F' A' E', CB b' → Xt b b' → q ∉ b.B.LP → r ∉ b.B.LP → Is b' 10 q → Is b' 0 r → (∀ c a, Is b' c a → Is b c a ∨ a = q ∧ c = 10 ∨ a = r ∧ c = 0 ∨ a ∉ b.B.LP ∧ 20 ≤ c) → b'.B.c = b.B.c - 4 → b'.B.z = b.B.z - 18 → (∀ a, a ∈ b.B.LP → I' a = I a ∧ F' a = F a ∧ A' a = A a ∧ E' a = E a) → I' q 1 = m → I' q 5 = 0 → F' q 2 = some r → (∀ i, E' q 3 i = none) → I' r 0 = 4 → F' r 2 = none → F' r 3 = none → F' r 4 = none → Z (some q) (cS b' I' F' A' E')) :
    wNew (cS b I F A E) 10 6 fun q4 x5 => wGetI x5 9 3 (some s) fun v6 => w_X10_init q4 v6 m x5 (fun x7 => Z q4 x7) (fun _ _ => False) := by
  refine c_new hb.1 (by omega) (by omega) (fun q hq => ?_)
  have x1 := CBX_new (ci := 10) (N := 6) (CBX_nil.mpr hb) hq
  have t1 := Pa_new (ci := 10) (N := 6) hb.1 hq
  have is1 := bnew_Is (ci := 10) (N := 6) hq
  have q1 : Is (bnew b q 10 6) 10 q := (is1 10 q).mpr (Or.inr ⟨rfl, rfl⟩)
  rw [c_getI ((is1 9 s).mpr (Or.inl hs))]
  simp only [w_X10_init, wRef, Option.some.injEq, exists_eq', true_and]
  refine c_new x1.1 (by show 1 ≤ b.B.c - 1; omega) (by show 5 ≤ b.B.z - 6; omega) (fun r hr => ?_)
  have x2 := CBX_new0 (ci := 0) (N := 5) x1 hr no_own0
  have t2 : Pa (bnew (bnew b q 10 6) r 0 5) q [] := Pa_newo t1
  have is2 := bnew_Is (ci := 0) (N := 5) hr
  have q2 := (is2 10 q).mpr (Or.inl q1)
  have r2 : Is (bnew (bnew b q 10 6) r 0 5) 0 r := (is2 0 r).mpr (Or.inr ⟨rfl, rfl⟩)
  have hrq : r ≠ q := fun z => hr (by rw [z]; exact q1.1)
  simp only [w_X0_init, wRef, Option.some.injEq, exists_eq', true_and]
  rw [c_putI r2, c_putI r2, c_putF0 x2.1 r2 (by decide), c_putF0 x2.1 q2 (by decide)]
  refine c_newG (j := 3) (N := 4) x2.1 q2 (Pa_no t2 (by decide)) (by decide) (by decide) (by show 1 ≤ b.B.c - 1 - 1; omega) (by show 4 ≤ b.B.z - 6 - 5; omega) (fun p e hp => ?_)
  obtain ⟨x3, t3⟩ := Pa_arr (kd := 28) (N := 4) x2 q2 t2 List.mem_cons_self hp (j := 3) (by decide) (by decide) (by decide) (by decide)
  have is3 := barr_Is (b := bnew (bnew b q 10 6) r 0 5) (q := q) (j := 3) (kd := 28) (N := 4) hp
  have q3 := (is3 10 q).mpr (Or.inl q2)
  refine c_newJ (j := 4) (N := 3) x3.1 q3 (Pa_no t3 (by decide)) (by decide) (by decide) (by show 1 ≤ b.B.c - 1 - 1 - 1; omega) (by show 3 ≤ b.B.z - 6 - 5 - 4; omega) (fun p2 e2 hp2 => ?_)
  obtain ⟨x4, t4⟩ := Pa_arr (kd := 20) (N := 3) x3 q3 t3 List.mem_cons_self hp2 (j := 4) (by decide) (by decide) (by decide) (by decide)
  have is4 := barr_Is (b := barr (bnew (bnew b q 10 6) r 0 5) q 3 p 28 4) (q := q) (j := 4) (kd := 20) (N := 3) hp2
  have q4 := (is4 10 q).mpr (Or.inl q3)
  have x5 := CBX_nil.mp (Pa_end x4 t4 q4 oF10)
  rw [c_putI q4, c_putI q4]
  have l1 : ∀ a, a ∈ b.B.LP → a ≠ q := fun a ha => bnew_k hq ha
  have l2 : ∀ a, a ∈ b.B.LP → a ≠ r := fun a ha => bnew_k hr (List.mem_append_left _ ha)
  have hrb : r ∉ b.B.LP := fun z => hr (List.mem_append_left _ z)
  have isf : ∀ c a, Is b c a → Is (barr (barr (bnew (bnew b q 10 6) r 0 5) q 3 p 28 4) q 4 p2 20 3) c a := fun c a h => (is4 c a).mpr (Or.inl ((is3 c a).mpr (Or.inl ((is2 c a).mpr (Or.inl ((is1 c a).mpr (Or.inl h)))))))
  refine hZ q r _ _ _ _ _ x5 ⟨isf, fun a j ha => ?_⟩ hq hrb q4 ((is4 0 r).mpr (Or.inl ((is3 0 r).mpr (Or.inl r2)))) (fun c a h => ?_) ?_ ?_ (fun a ha => ⟨?_, ?_, ?_, ?_⟩) ?_ ?_ ?_ ?_ ?_ ?_ ?_ ?_
  · show up2 (fun a j => (barr (bnew (bnew b q 10 6) r 0 5) q 3 p 28 4).ad a j) q 4 p2 a j = b.ad a j
    rw [up2_a _ _ _ _ (l1 a ha)]
    show up2 (fun a j => (bnew (bnew b q 10 6) r 0 5).ad a j) q 3 p a j = b.ad a j
    rw [up2_a _ _ _ _ (l1 a ha)]; rfl
  · have pn : p ∉ b.B.LP := fun z => hp (List.mem_append_left _ (List.mem_append_left _ z))
    have p2n : p2 ∉ b.B.LP := fun z => hp2 (List.mem_append_left _ (List.mem_append_left _ (List.mem_append_left _ z)))
    rcases (is4 c a).mp h with h | ⟨rfl, rfl⟩
    · rcases (is3 c a).mp h with h | ⟨rfl, rfl⟩
      · rcases (is2 c a).mp h with h | ⟨rfl, rfl⟩
        · rcases (is1 c a).mp h with h | ⟨rfl, rfl⟩
          · exact Or.inl h
          · exact Or.inr (Or.inl ⟨rfl, rfl⟩)
        · exact Or.inr (Or.inr (Or.inl ⟨rfl, rfl⟩))
      · exact Or.inr (Or.inr (Or.inr ⟨pn, by decide⟩))
    · exact Or.inr (Or.inr (Or.inr ⟨p2n, by decide⟩))
  · show b.B.c - 1 - 1 - 1 - 1 = _; omega
  · show b.B.z - 6 - 5 - 4 - 3 = _; omega
  · funext j
    rw [up2_a _ _ _ _ (l1 a ha), up2_a _ _ _ _ (l1 a ha), up2_a _ _ _ _ (l2 a ha), up2_a _ _ _ _ (l2 a ha), va_up_ne _ _ (l2 a ha), va_up_ne _ _ (l1 a ha)]
  · funext j
    rw [up2_a _ _ _ _ (l1 a ha), up2_a _ _ _ _ (l2 a ha), va_up_ne _ _ (l2 a ha), va_up_ne _ _ (l1 a ha)]
  · funext j
    rw [up2_a _ _ _ _ (l1 a ha), up2_a _ _ _ _ (l1 a ha)]
  · funext j
    rw [up2_a _ _ _ _ (l1 a ha), up2_a _ _ _ _ (l1 a ha)]
  · rw [up2_self]
  · rw [up2_k _ _ _ _ (by decide), up2_k _ _ _ _ (by decide), up2_a _ _ _ _ (Ne.symm hrq), up2_a _ _ _ _ (Ne.symm hrq), va_up_ne _ _ (Ne.symm hrq), va_up_self]
  · rw [up2_self]
  · intro i; rw [up2_k _ _ _ _ (by decide), up2_self]
  · rw [up2_a _ _ _ _ hrq, up2_a _ _ _ _ hrq, up2_k _ _ _ _ (by decide), up2_self]
  · rw [up2_a _ _ _ _ hrq, up2_self]
  · rw [up2_a _ _ _ _ hrq, up2_k _ _ _ _ (by decide), va_up_self]
  · rw [up2_a _ _ _ _ hrq, up2_k _ _ _ _ (by decide), va_up_self]
end C17
