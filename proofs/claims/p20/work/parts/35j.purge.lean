set_option linter.unusedVariables false
set_option linter.unusedSimpArgs false
/-! making things with arrays -/
def barr (b : CT) (q j p kd N : Nat) : CT := (HS.mk (b.B.LP ++ [p]) (va_up b.B.k p kd) (va_up b.B.n p N) b.B.I b.B.F b.B.J b.B.G (b.B.c - 1) (b.B.z - N), up2 (fun a j => b.ad a j) q j p, va_up (fun q => b.own q) p (some (q, j)))
section C10a
variable {b : CT} {I : Nat → Nat → Int32} {F : Nat → Nat → Option Nat} {A : Nat → Nat → Nat → Int32} {E : Nat → Nat → Nat → Option Nat} {q j p kd N ci : Nat}
theorem barr_k {a : Nat} (hp : p ∉ b.B.LP) (ha : a ∈ b.B.LP) : (barr b q j p kd N).B.k a = b.B.k a := va_up_ne _ _ (fun z => hp (by rw [← z]; exact ha))
theorem barr_F (hb : CB0 b) (hp : p ∉ b.B.LP) : cF (barr b q j p kd N) F = up2 (cF b F) q j (some p) := by
  funext a j'
  by_cases hq : a = q ∧ j' = j
  · obtain ⟨rfl, rfl⟩ := hq
    rw [up2_self]
    have e : (barr b a j' p kd N).ad a j' = p := up2_self _ _ _ _
    show (if (barr b a j' p kd N).own ((barr b a j' p kd N).ad a j') = some (a, j') then some ((barr b a j' p kd N).ad a j') else F a j') = some p
    rw [e, if_pos (show (barr b a j' p kd N).own p = some (a, j') from va_up_self _ _ _)]
  · have e : (barr b q j p kd N).ad a j' = b.ad a j' := if_neg hq
    have e2 : up2 (cF b F) q j (some p) a j' = cF b F a j' := if_neg hq
    rw [e2]
    show (if (barr b q j p kd N).own ((barr b q j p kd N).ad a j') = some (a, j') then some ((barr b q j p kd N).ad a j') else F a j') = if b.own (b.ad a j') = some (a, j') then some (b.ad a j') else F a j'
    rw [e]
    by_cases hz : b.ad a j' = p
    · have e3 : (barr b q j p kd N).own (b.ad a j') = some (q, j) := by rw [hz]; exact va_up_self _ _ _
      rw [e3, if_neg (fun z => hq (by cases z; exact ⟨rfl, rfl⟩)), if_neg (fun z => hp (by rw [← hz]; exact (hb _ _ _ z).1))]
    · have e3 : (barr b q j p kd N).own (b.ad a j') = b.own (b.ad a j') := va_up_ne _ _ hz
      rw [e3]
theorem barr_J (hb : CB0 b) (hp : p ∉ b.B.LP) (hno : ∀ r, b.own r ≠ some (q, j)) {u : Nat → Int32} : cJ (barr b q j p kd N) (up2 A q j u) = va_up (cJ b A) p u := by
  funext r i
  by_cases hr : r = p
  · subst hr
    rw [va_up_self]
    have e : (barr b q j r kd N).own r = some (q, j) := va_up_self _ _ _
    unfold cJ
    rw [e]
    show up2 A q j u q j i = u i
    rw [up2_self]
  · rw [va_up_ne _ _ hr]
    have e : (barr b q j p kd N).own r = b.own r := va_up_ne _ _ hr
    unfold cJ
    rw [e]
    cases ho : b.own r with
    | none => rfl
    | some w =>
      show up2 A q j u w.1 w.2 i = A w.1 w.2 i
      rw [show up2 A q j u w.1 w.2 = A w.1 w.2 from if_neg (fun z => hno r (by rw [ho, ← z.1, ← z.2]))]
theorem barr_G (hb : CB0 b) (hp : p ∉ b.B.LP) (hno : ∀ r, b.own r ≠ some (q, j)) {u : Nat → Option Nat} : cG (barr b q j p kd N) (up2 E q j u) = va_up (cG b E) p u := by
  funext r i
  by_cases hr : r = p
  · subst hr
    rw [va_up_self]
    have e : (barr b q j r kd N).own r = some (q, j) := va_up_self _ _ _
    unfold cG
    rw [e]
    show up2 E q j u q j i = u i
    rw [up2_self]
  · rw [va_up_ne _ _ hr]
    have e : (barr b q j p kd N).own r = b.own r := va_up_ne _ _ hr
    unfold cG
    rw [e]
    cases ho : b.own r with
    | none => rfl
    | some w =>
      show up2 E q j u w.1 w.2 i = E w.1 w.2 i
      rw [show up2 E q j u w.1 w.2 = E w.1 w.2 from if_neg (fun z => hno r (by rw [ho, ← z.1, ← z.2]))]
theorem c_newJ (hb : CB0 b) (hq : Is b ci q) (hno : ∀ r, b.own r ≠ some (q, j)) {len : Int32} (hl : len.toInt = N) (hN : N ≤ 100000) (hc : 1 ≤ b.B.c) (hz : N ≤ b.B.z) {Z : HS → Prop} (hZ : ∀ p e, p ∉ b.B.LP → Z (cS (barr b q j p kd N) I F (up2 A q j (fun _ => 0)) (up2 E q j e))) : wNewJ (cS b I F A E) kd len fun r x2 => wPutF x2 ci j (some q) r Z := by
  have hl2 : len.toInt.toNat = N := by omega
  refine ⟨by omega, by omega, hc, by rw [hl2]; exact hz, fun p hp => ⟨q, rfl, List.mem_append_left _ hq.1, ?_, ?_⟩⟩
  · show va_up b.B.k p kd q = ci
    rw [va_up_ne _ _ (fun z => hp (by rw [← z]; exact hq.1))]; exact hq.2
  · have := hZ p (cG b E p) hp
    have e : cS (barr b q j p kd N) I F (up2 A q j (fun _ => 0)) (up2 E q j (cG b E p)) = ((cS b I F A E).newJ p kd len.toInt.toNat).wF (up2 ((cS b I F A E).newJ p kd len.toInt.toNat).F q j (some p)) := by
      unfold cS
      rw [barr_F hb hp, barr_J hb hp hno, barr_G hb hp hno, va_same, hl2]
      rfl
    rw [← e]; exact this
theorem c_newG (hb : CB0 b) (hq : Is b ci q) (hno : ∀ r, b.own r ≠ some (q, j)) {len : Int32} (hl : len.toInt = N) (hN : N ≤ 100000) (hc : 1 ≤ b.B.c) (hz : N ≤ b.B.z) {Z : HS → Prop} (hZ : ∀ p e, p ∉ b.B.LP → Z (cS (barr b q j p kd N) I F (up2 A q j e) (up2 E q j (fun _ => none)))) : wNewG (cS b I F A E) kd len fun r x2 => wPutF x2 ci j (some q) r Z := by
  have hl2 : len.toInt.toNat = N := by omega
  refine ⟨by omega, by omega, hc, by rw [hl2]; exact hz, fun p hp => ⟨q, rfl, List.mem_append_left _ hq.1, ?_, ?_⟩⟩
  · show va_up b.B.k p kd q = ci
    rw [va_up_ne _ _ (fun z => hp (by rw [← z]; exact hq.1))]; exact hq.2
  · have := hZ p (cJ b A p) hp
    have e : cS (barr b q j p kd N) I F (up2 A q j (cJ b A p)) (up2 E q j (fun _ => none)) = ((cS b I F A E).newG p kd len.toInt.toNat).wF (up2 ((cS b I F A E).newG p kd len.toInt.toNat).F q j (some p)) := by
      unfold cS
      rw [barr_F hb hp, barr_J hb hp hno, barr_G hb hp hno, va_same, hl2]
      rfl
    rw [← e]; exact this
theorem oF_lt : ∀ {ci j : Nat}, oF ci j ≠ 0 → ci < 12 := by
  intro ci j h
  unfold oF at h
  simp only [List.mem_cons, List.not_mem_nil, or_false, Prod.mk.injEq] at h
  by_cases h12 : ci < 12
  · exact h12
  · exfalso
    apply h
    repeat' rw [if_neg (by omega)]
/-- a thing q of the class ci is being made; X: others that are -/
def Mk (X : List Nat) (b0 b : CT) (q ci : Nat) (done : List Nat) : Prop := CB0 b ∧ (∀ a, a ∈ b0.B.LP → a ∉ X → CFull b a) ∧ Is b ci q ∧ q ∉ b0.B.LP ∧ (∀ j, j ∈ done → b.own (b.ad q j) = some (q, j)) ∧ (∀ r j, b.own r = some (q, j) → j ∈ done) ∧ Xt b0 b ∧ (∀ c a, Is b c a → Is b0 c a ∨ a ∉ b0.B.LP ∧ (a = q ∧ c = ci ∨ a ≠ q ∧ 20 ≤ c)) ∧ ∀ r a j, b0.own r = some (a, j) → b.own r = some (a, j)
def CBX (b : CT) (X : List Nat) : Prop := CB0 b ∧ ∀ a, a ∈ b.B.LP → a ∉ X → CFull b a
theorem Mk_new {X : List Nat} {N : Nat} (hb : CBX b X) (hq : q ∉ b.B.LP) : Mk X b (bnew b q ci N) q ci [] := by
  have hIs := bnew_Is (b := b) (q := q) (ci := ci) (N := N) hq
  refine ⟨bnew_CB0 hb.1 hq, fun a ha hX j hj => ?_, (hIs ci q).mpr (Or.inr ⟨rfl, rfl⟩), hq, fun j hj => absurd hj List.not_mem_nil, fun r j h => ?_, bnew_Xt hq, fun c a h => ?_, fun _ _ _ h => h⟩
  · have e : (bnew b q ci N).B.k a = b.B.k a := va_up_ne _ _ (fun z => hq (by rw [← z]; exact ha))
    rw [e] at hj
    exact hb.2 a ha hX j hj
  · exact absurd (hb.1 r q j h).2.1 hq
  · rcases (hIs c a).mp h with h | ⟨rfl, rfl⟩
    · exact Or.inl h
    · exact Or.inr ⟨hq, Or.inl ⟨rfl, rfl⟩⟩
theorem Mk_arr {X done : List Nat} {b0 : CT} (h : Mk X b0 b q ci done) (hp : p ∉ b.B.LP) (hj : j ∉ done) (hk : oF ci j = kd) (hk2 : 20 ≤ kd) (hN : oL ci j = N) : Mk X b0 (barr b q j p kd N) q ci (j :: done) := by
  obtain ⟨h1, h2, h3, h4, h5, h6, h7, h8, h9⟩ := h
  have own' : ∀ r, r ∈ b.B.LP → (barr b q j p kd N).own r = b.own r := fun r hr => va_up_ne _ _ (fun z => hp (by rw [← z]; exact hr))
  have ad' : ∀ a j', ¬ (a = q ∧ j' = j) → (barr b q j p kd N).ad a j' = b.ad a j' := fun a j' z => if_neg z
  have adq : (barr b q j p kd N).ad q j = p := up2_self _ _ _ _
  have ownp : (barr b q j p kd N).own p = some (q, j) := va_up_self _ _ _
  have hpq : p ≠ q := fun z => hp (by rw [z]; exact h3.1)
  have hIs : ∀ c a, Is b c a → Is (barr b q j p kd N) c a := fun c a ha => ⟨List.mem_append_left _ ha.1, by rw [barr_k hp ha.1]; exact ha.2⟩
  refine ⟨fun r a j' ho => ?_, fun a ha hX j' hj' => ?_, hIs _ _ h3, h4, fun j' hj' => ?_, fun r j' ho => ?_, ⟨fun c a ha => hIs c a (h7.1 c a ha), fun a j' ha => ?_⟩, fun c a ha => ?_, fun r a j' ho => ?_⟩
  · by_cases hr : r = p
    · subst hr
      rw [ownp] at ho
      cases ho
      refine ⟨List.mem_append_right _ (List.mem_singleton.mpr rfl), List.mem_append_left _ h3.1, adq, ?_, ?_, ?_⟩
      · rw [barr_k hp h3.1, h3.2, hk]; omega
      · rw [barr_k hp h3.1, h3.2, hk]; exact va_up_self _ _ _
      · rw [barr_k hp h3.1, h3.2, hN]; exact va_up_self _ _ _
    · have e : (barr b q j p kd N).own r = b.own r := va_up_ne _ _ hr
      rw [e] at ho
      obtain ⟨z1, z2, z3, z4, z5, z6⟩ := h1 r a j' ho
      refine ⟨List.mem_append_left _ z1, List.mem_append_left _ z2, ?_, ?_, ?_, ?_⟩
      · rw [ad' a j' (fun z => hj (by rw [z.1, z.2] at ho; exact h6 r j ho))]; exact z3
      · rw [barr_k hp z2]; exact z4
      · rw [barr_k hp z1, barr_k hp z2]; exact z5
      · rw [barr_k hp z2]
        show va_up b.B.n p N r = _
        rw [va_up_ne _ _ hr]; exact z6
  · have ha' : a ∈ b.B.LP := Xt_LP h7 ha
    rw [barr_k hp ha'] at hj'
    have z := h2 a ha hX j' hj'
    have hn : ¬ (a = q ∧ j' = j) := fun y => h4 (by rw [← y.1]; exact ha)
    rw [ad' a j' hn, own' _ (h1 _ _ _ z).1]; exact z
  · by_cases hq2 : j' = j
    · rw [hq2, adq]; exact ownp
    · have z := h5 j' ((List.mem_cons.mp hj').resolve_left hq2)
      rw [ad' q j' (fun y => hq2 y.2), own' _ (h1 _ _ _ z).1]; exact z
  · by_cases hr : r = p
    · rw [hr, ownp] at ho; cases ho; exact List.mem_cons_self
    · have e : (barr b q j p kd N).own r = b.own r := va_up_ne _ _ hr
      rw [e] at ho
      exact List.mem_cons_of_mem _ (h6 r j' ho)
  · rw [ad' a j' (fun y => h4 (by rw [← y.1]; exact ha))]; exact h7.2 a j' ha
  · by_cases hap : a = p
    · subst hap
      have : (barr b q j a kd N).B.k a = kd := va_up_self _ _ _
      refine Or.inr ⟨fun z => hp (Xt_LP h7 z), Or.inr ⟨hpq, ?_⟩⟩
      rw [← ha.2, this]; exact hk2
    · have hal : a ∈ b.B.LP := (List.mem_append.mp ha.1).resolve_right (fun z => hap (List.mem_singleton.mp z))
      have e : (barr b q j p kd N).B.k a = b.B.k a := va_up_ne _ _ hap
      exact h8 c a ⟨hal, by rw [← e]; exact ha.2⟩
  · have hr := (h1 r a j' (h9 r a j' ho)).1
    rw [own' r hr]; exact h9 r a j' ho
theorem Mk_end {X done : List Nat} {b0 : CT} (h : Mk X b0 b q ci done) (hX : ∀ a, a ∈ X → a ∈ b0.B.LP) (hd : ∀ j, oF ci j ≠ 0 → j ∈ done) : CBX b X := by
  obtain ⟨h1, h2, h3, h4, h5, h6, h7, h8, h9⟩ := h
  refine ⟨h1, fun a ha haX j hj => ?_⟩
  rcases h8 _ a ⟨ha, rfl⟩ with h | ⟨h, h' | h'⟩
  · exact h2 a h.1 haX j hj
  · obtain ⟨rfl, e⟩ := h'
    rw [e] at hj
    exact h5 j (hd j hj)
  · have := oF_lt hj
    omega
theorem CBX_nil : CBX b [] ↔ CB b := ⟨fun h => ⟨h.1, fun a ha => h.2 a ha List.not_mem_nil⟩, fun h => ⟨h.1, fun a ha _ => h.2 a ha⟩⟩
theorem Mk_no {X done : List Nat} {b0 : CT} (h : Mk X b0 b q ci done) (hj : j ∉ done) : ∀ r, b.own r ≠ some (q, j) := fun r z => hj (h.2.2.2.2.2.1 r j z)
theorem oF1 : ∀ j, oF 1 j ≠ 0 → j ∈ [1, 0] := by
  intro j h
  by_cases h1 : j = 1
  · simp [h1]
  · by_cases h0 : j = 0
    · simp [h0]
    · exfalso; apply h
      unfold oF
      simp [h0, h1]
theorem oF4 : ∀ j, oF 4 j ≠ 0 → j ∈ [1] := by
  intro j h
  by_cases h1 : j = 1
  · simp [h1]
  · exfalso; apply h
    unfold oF
    simp [h1]
/-- what stands in LP and what is new -/
def Nu (b b' : CT) (q ci : Nat) : Prop := Xt b b' ∧ q ∉ b.B.LP ∧ Is b' ci q ∧ ∀ c a, Is b' c a → Is b c a ∨ a ∉ b.B.LP ∧ (a = q ∧ c = ci ∨ a ≠ q ∧ 20 ≤ c)
theorem c_newFact {X : List Nat} (hb : CBX b X) (hX : ∀ a, a ∈ X → a ∈ b.B.LP) (hc : 3 ≤ b.B.c) (hz : 16 ≤ b.B.z) {Z : Option Nat → HS → Prop} {XF : String → HS → Prop} (hZ : ∀ q b' A' E', CBX b' X → Nu b b' q 1 → b'.B.c = b.B.c - 3 → b'.B.z = b.B.z - 16 → Ol q A A' → Ol q E E' → (∀ i, E' q 1 i = none) → Z (some q) (cS b' (va_up I q (fun _ => 0)) (va_up F q (fun _ => none)) A' E')) : wNew (cS b I F A E) 1 7 fun q x1 => w_X1_init q x1 (fun x2 => Z q x2) XF := by
  refine c_new hb.1 (by omega) (by omega) (fun q hq => ?_)
  have m1 := Mk_new (ci := 1) (N := 7) hb hq
  simp only [w_X1_init]
  refine ⟨⟨q, rfl⟩, c_newJ (j := 0) (N := 4) m1.1 m1.2.2.1 (Mk_no m1 (by decide)) (by decide) (by decide) (by show 1 ≤ b.B.c - 1; omega) (by show 4 ≤ b.B.z - 7; omega) (fun p e hp => ?_)⟩
  have m2 := Mk_arr (kd := 20) (N := 4) m1 hp (by decide) (by decide) (by decide) (by decide) (j := 0)
  refine c_newG (j := 1) (N := 5) m2.1 m2.2.2.1 (Mk_no m2 (by decide)) (by decide) (by decide) (by show 1 ≤ b.B.c - 1 - 1; omega) (by show 5 ≤ b.B.z - 7 - 4; omega) (fun p2 e2 hp2 => ?_)
  have m3 := Mk_arr (kd := 25) (N := 5) m2 hp2 (by decide) (by decide) (by decide) (by decide) (j := 1)
  refine hZ q _ _ _ (Mk_end m3 hX oF1) ⟨m3.2.2.2.2.2.2.1, hq, m3.2.2.1, m3.2.2.2.2.2.2.2.1⟩ (by show b.B.c - 1 - 1 - 1 = _; omega) (by show b.B.z - 7 - 4 - 5 = _; omega) ?_ ?_ ?_
  · intro a ha
    funext j; rw [up2_a _ _ _ _ ha, up2_a _ _ _ _ ha]
  · intro a ha
    funext j; rw [up2_a _ _ _ _ ha, up2_a _ _ _ _ ha]
  · intro i; rw [up2_self]
end C10a
