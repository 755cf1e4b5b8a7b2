set_option linter.unusedVariables false
set_option linter.unusedSimpArgs false
/-! the class: what a call leaves of the solutions and of the reader's and solver's parts (raw) -/
/-- arrays of ints that are no solutions -/
def OFI : List (Nat × Nat) := [(1, 0), (2, 0), (2, 1), (3, 2), (5, 1), (8, 4), (8, 5), (10, 4), (11, 1), (11, 5)]
/-- fields that are written when they are made, or by a question alone -/
def OFX : List (Nat × Nat) := [(8, 0), (8, 2), (8, 3), (6, 0), (11, 0), (11, 7), (11, 8)]
/-- from x0 on: solutions, what stands in fields OFX, looks and goals; K is an array of solutions -/
def Vs (K : Nat) (x0 x : HS) : Prop := (∀ a, a ∈ x0.LP → a ∈ x.LP ∧ x.k a = x0.k a ∧ (x0.k a = 7 → x.I a = x0.I a ∧ x.F a = x0.F a) ∧ (∀ j, (x0.k a, j) ∈ OFX → x.F a j = x0.F a j) ∧ (x0.k a = 26 ∨ x0.k a = 27 → x.G a = x0.G a)) ∧ (K ∈ x0.LP ∧ x0.k K = 20 ∧ x.J K = x0.J K) ∧ ∀ a j, a ∈ x.LP → (x.k a, j) ∈ OFI → x.F a j ≠ some K
section HA1
variable {x0 x : HS} {K a j i ci kd N : Nat} {r w : Option Nat} {v iv : Int32} {Z Z' : HS → Prop}
theorem Vs_rf (h1 : K ∈ x.LP) (h2 : x.k K = 20) (h3 : ∀ a j, a ∈ x.LP → (x.k a, j) ∈ OFI → x.F a j ≠ some K) : Vs K x x := ⟨fun a h => ⟨h, rfl, fun _ => ⟨rfl, rfl⟩, fun _ _ => rfl, fun _ => rfl⟩, ⟨h1, h2, rfl⟩, h3⟩
theorem Vs_K (h : Vs K x0 x) : K ∈ x.LP ∧ x.k K = 20 := by
  obtain ⟨h1, ⟨h2, h3, -⟩, -⟩ := h
  exact ⟨(h1 K h2).1, (h1 K h2).2.1.trans h3⟩
theorem Vs_I (h : Vs K x0 x) (hj : x.k a ≠ 7) : Vs K x0 (x.wI (up2 x.I a j v)) := by
  refine ⟨fun c hc => ?_, h.2.1, h.2.2⟩
  obtain ⟨p1, p2, p3, p4, p5⟩ := h.1 c hc
  refine ⟨p1, p2, fun z => ⟨?_, (p3 z).2⟩, p4, p5⟩
  rw [← (p3 z).1]
  have hca : c ≠ a := fun y => hj (by rw [← y, p2]; exact z)
  exact up2_row _ _ _ hca
theorem Vs_F (h : Vs K x0 x) (h7 : x.k a ≠ 7) (hj : (x.k a, j) ∉ OFX) (hw : (x.k a, j) ∈ OFI → w ≠ some K) : Vs K x0 (x.wF (up2 x.F a j w)) := by
  refine ⟨fun c hc => ?_, h.2.1, fun c j' hc hj' => ?_⟩
  · obtain ⟨p1, p2, p3, p4, p5⟩ := h.1 c hc
    refine ⟨p1, p2, fun z => ⟨(p3 z).1, ?_⟩, fun j' z => ?_, p5⟩
    · rw [← (p3 z).2]
      have hca : c ≠ a := fun y => h7 (by rw [← y, p2]; exact z)
      exact up2_row _ _ _ hca
    · rw [← p4 j' z]
      exact if_neg (fun y => hj (by rw [← y.1, ← y.2, p2]; exact z))
  · show up2 x.F a j w c j' ≠ some K
    by_cases e : c = a ∧ j' = j
    · obtain ⟨e1, e2⟩ := e
      subst e1; subst e2
      rw [up2_self]; exact hw hj'
    · have : up2 x.F a j w c j' = x.F c j' := if_neg e
      rw [this]; exact h.2.2 c j' hc hj'
theorem Vs_J {f : Nat → Nat → Int32} (h : Vs K x0 x) (ha : a ≠ K) (hf : ∀ q, q ≠ a → f q = x.J q) : Vs K x0 (x.wJ f) := ⟨h.1, ⟨h.2.1.1, h.2.1.2.1, (hf K (Ne.symm ha)).trans h.2.1.2.2⟩, h.2.2⟩
theorem Vs_G {u : Option Nat} (h : Vs K x0 x) (hk : x.k a ≠ 26 ∧ x.k a ≠ 27) : Vs K x0 (x.wG (up2 x.G a i u)) := by
  refine ⟨fun c hc => ?_, h.2.1, h.2.2⟩
  obtain ⟨p1, p2, p3, p4, p5⟩ := h.1 c hc
  refine ⟨p1, p2, p3, p4, fun z => ?_⟩
  rw [← p5 z]
  have hca : c ≠ a := fun y => by
    rw [← y, p2] at hk
    rcases z with z | z
    · exact hk.1 z
    · exact hk.2 z
  exact up2_row _ _ _ hca
theorem Vs_C {c z : Nat} (h : Vs K x0 x) : Vs K x0 (x.wC c z) := h
theorem OFI_20 (h : (kd, j) ∈ OFI) : kd < 20 := by
  simp only [OFI, List.mem_cons, Prod.mk.injEq, List.not_mem_nil, or_false] at h
  omega
theorem Vs_new {q : Nat} (h : Vs K x0 x) (hq : q ∉ x.LP) : Vs K x0 (x.new q ci N) := by
  refine ⟨fun c hc => ?_, h.2.1, fun c j' hc hj' => ?_⟩
  · obtain ⟨p1, p2, p3, p4, p5⟩ := h.1 c hc
    have hcq : c ≠ q := fun y => hq (by rw [← y]; exact p1)
    have e1 : (x.new q ci N).k c = x.k c := va_up_ne _ _ hcq
    have e2 : (x.new q ci N).I c = x.I c := va_up_ne _ _ hcq
    have e3 : (x.new q ci N).F c = x.F c := va_up_ne _ _ hcq
    rw [e1, e2, e3]
    exact ⟨List.mem_append_left _ p1, p2, p3, p4, p5⟩
  · by_cases hcq : c = q
    · have e3 : (x.new q ci N).F c = fun _ => none := by rw [hcq]; exact va_up_self _ _ _
      rw [e3]; simp
    · have e1 : (x.new q ci N).k c = x.k c := va_up_ne _ _ hcq
      have e3 : (x.new q ci N).F c = x.F c := va_up_ne _ _ hcq
      rw [e1] at hj'
      rw [e3]
      refine h.2.2 c j' ?_ hj'
      rcases List.mem_append.mp hc with y | y
      · exact y
      · exact absurd (List.mem_singleton.mp y) hcq
theorem Vs_newJ {q : Nat} (h : Vs K x0 x) (hq : q ∉ x.LP) (h20 : 20 ≤ kd) : Vs K x0 (x.newJ q kd N) := by
  have hKq : K ≠ q := fun y => hq (by rw [← y]; exact (Vs_K h).1)
  refine ⟨fun c hc => ?_, ⟨h.2.1.1, h.2.1.2.1, ?_⟩, fun c j' hc hj' => ?_⟩
  · obtain ⟨p1, p2, p3, p4, p5⟩ := h.1 c hc
    have hcq : c ≠ q := fun y => hq (by rw [← y]; exact p1)
    have e1 : (x.newJ q kd N).k c = x.k c := va_up_ne _ _ hcq
    rw [e1]
    exact ⟨List.mem_append_left _ p1, p2, p3, p4, p5⟩
  · have : (x.newJ q kd N).J K = x.J K := va_up_ne _ _ hKq
    rw [this]; exact h.2.1.2.2
  · by_cases hcq : c = q
    · have e1 : (x.newJ q kd N).k c = kd := by rw [hcq]; exact va_up_self _ _ _
      rw [e1] at hj'
      have := OFI_20 hj'
      omega
    · have e1 : (x.newJ q kd N).k c = x.k c := va_up_ne _ _ hcq
      rw [e1] at hj'
      refine h.2.2 c j' ?_ hj'
      rcases List.mem_append.mp hc with y | y
      · exact y
      · exact absurd (List.mem_singleton.mp y) hcq
theorem Vs_newG {q : Nat} (h : Vs K x0 x) (hq : q ∉ x.LP) (h20 : 20 ≤ kd) : Vs K x0 (x.newG q kd N) := by
  refine ⟨fun c hc => ?_, h.2.1, fun c j' hc hj' => ?_⟩
  · obtain ⟨p1, p2, p3, p4, p5⟩ := h.1 c hc
    have hcq : c ≠ q := fun y => hq (by rw [← y]; exact p1)
    have e1 : (x.newG q kd N).k c = x.k c := va_up_ne _ _ hcq
    have e2 : (x.newG q kd N).G c = x.G c := va_up_ne _ _ hcq
    rw [e1, e2]
    exact ⟨List.mem_append_left _ p1, p2, p3, p4, p5⟩
  · by_cases hcq : c = q
    · have e1 : (x.newG q kd N).k c = kd := by rw [hcq]; exact va_up_self _ _ _
      rw [e1] at hj'
      have := OFI_20 hj'
      omega
    · have e1 : (x.newG q kd N).k c = x.k c := va_up_ne _ _ hcq
      rw [e1] at hj'
      refine h.2.2 c j' ?_ hj'
      rcases List.mem_append.mp hc with y | y
      · exact y
      · exact absurd (List.mem_singleton.mp y) hcq
/-! the words -/
theorem vk_putI (hc : ci ≠ 7) (hx : Vs K x0 x) (h : ∀ x', Vs K x0 x' → Z x' → Z' x') : wPutI x ci j r v Z → wPutI x ci j r v Z' := fun ⟨a, h1, h2, h3, h4⟩ => ⟨a, h1, h2, h3, h _ (Vs_I hx (by rw [h3]; exact hc)) h4⟩
theorem vk_putZ (hc : ci ≠ 7) (hx : Vs K x0 x) (h : ∀ x', Vs K x0 x' → Z x' → Z' x') : wPutZ x ci j r v Z → wPutZ x ci j r v Z' := fun ⟨a, h1, h2, h3, h4, h5⟩ => ⟨a, h1, h2, h3, h4, h _ (Vs_I hx (by rw [h3]; exact hc)) h5⟩
theorem vk_putF (hc : ci ≠ 7) (hj : (ci, j) ∉ OFX) (ho : (ci, j) ∉ OFI) (hx : Vs K x0 x) (h : ∀ x', Vs K x0 x' → Z x' → Z' x') : wPutF x ci j r w Z → wPutF x ci j r w Z' := fun ⟨a, h1, h2, h3, h4⟩ => ⟨a, h1, h2, h3, h _ (Vs_F hx (by rw [h3]; exact hc) (by rw [h3]; exact hj) (fun z => absurd (by rw [h3] at z; exact z) ho)) h4⟩
theorem vk_putFA (hc : ci ≠ 7) (hj : (ci, j) ∉ OFX) (hw : w ≠ some K) (hx : Vs K x0 x) (h : ∀ x', Vs K x0 x' → Z x' → Z' x') : wPutF x ci j r w Z → wPutF x ci j r w Z' := fun ⟨a, h1, h2, h3, h4⟩ => ⟨a, h1, h2, h3, h _ (Vs_F hx (by rw [h3]; exact hc) (by rw [h3]; exact hj) (fun _ => hw)) h4⟩
theorem vk_getA (ho : (ci, j) ∈ OFI) (hx : Vs K x0 x) {Z Z' : Option Nat → Prop} (h : ∀ v, v ≠ some K → Z v → Z' v) : wGetF x ci j r Z → wGetF x ci j r Z' := fun ⟨a, h1, h2, h3, h4⟩ => ⟨a, h1, h2, h3, h _ (hx.2.2 a j h2 (by rw [h3]; exact ho)) h4⟩
theorem vk_astI (hr : r ≠ some K) (hx : Vs K x0 x) (h : ∀ x', Vs K x0 x' → Z x' → Z' x') : wAstI x r iv v Z → wAstI x r iv v Z' := fun ⟨a, h1, h2, h3, h4, h5⟩ => ⟨a, h1, h2, h3, h4, h _ (Vs_J hx (fun y => hr (by rw [h1, y])) (fun q hq => funext fun i' => if_neg (fun z => hq z.1))) h5⟩
theorem vk_astB (hx : Vs K x0 x) (h : ∀ x', Vs K x0 x' → Z x' → Z' x') : wAstB x r iv v Z → wAstB x r iv v Z' := fun ⟨a, h1, h2, h3, h4, h5⟩ => ⟨a, h1, h2, h3, h4, h _ (Vs_J hx (fun y => by rw [y, (Vs_K hx).2] at h3; exact absurd h3 (by decide)) (fun q hq => funext fun i' => if_neg (fun z => hq z.1))) h5⟩
theorem vk_astZ (hx : Vs K x0 x) (h : ∀ x', Vs K x0 x' → Z x' → Z' x') : wAstZ x r iv v Z → wAstZ x r iv v Z' := fun ⟨a, h1, h2, h3, h4, h5, h6⟩ => ⟨a, h1, h2, h3, h4, h5, h _ (Vs_J hx (fun y => by rw [y, (Vs_K hx).2] at h3; exact absurd h3 (by decide)) (fun q hq => funext fun i' => if_neg (fun z => hq z.1))) h6⟩
theorem vk_astG (hk : kd ≠ 26 ∧ kd ≠ 27) (hx : Vs K x0 x) (h : ∀ x', Vs K x0 x' → Z x' → Z' x') : wAstG x kd ci r iv w Z → wAstG x kd ci r iv w Z' := fun ⟨a, h1, h2, h3, h4, h5, h6⟩ => ⟨a, h1, h2, h3, h4, h5, h _ (Vs_G hx (by rw [h3]; exact hk)) h6⟩
theorem vk_throw (hx : Vs K x0 x) {S : String} {X X' : String → HS → Prop} (h : ∀ e u, Vs K x0 u → X e u → X' e u) : wThrow x S X → wThrow x S X' := fun z => ⟨z.1, z.2.1, h _ _ (Vs_C hx) z.2.2⟩
theorem vk_new (hx : Vs K x0 x) {Z Z' : Option Nat → HS → Prop} (h : ∀ q x', Vs K x0 x' → Z q x' → Z' q x') : wNew x ci N Z → wNew x ci N Z' := fun z => ⟨z.1, z.2.1, fun q hq => h _ _ (Vs_new hx hq) (z.2.2 q hq)⟩
theorem vk_newJ (hk : 20 ≤ kd) (hx : Vs K x0 x) {Z Z' : Option Nat → HS → Prop} (h : ∀ q x', Vs K x0 x' → q ≠ some K → Z q x' → Z' q x') : wNewJ x kd v Z → wNewJ x kd v Z' := fun z => ⟨z.1, z.2.1, z.2.2.1, z.2.2.2.1, fun q hq => h _ _ (Vs_newJ hx hq hk) (fun y => hq (by cases y; exact (Vs_K hx).1)) (z.2.2.2.2 q hq)⟩
theorem vk_newG (hk : 20 ≤ kd) (hx : Vs K x0 x) {Z Z' : Option Nat → HS → Prop} (h : ∀ q x', Vs K x0 x' → Z q x' → Z' q x') : wNewG x kd v Z → wNewG x kd v Z' := fun z => ⟨z.1, z.2.1, z.2.2.1, z.2.2.2.1, fun q hq => h _ _ (Vs_newG hx hq hk) (z.2.2.2.2 q hq)⟩
end HA1
/-! the text's bytes -/
def Vb (x0 x : HS) : Prop := ∀ a, a ∈ x0.LP → a ∈ x.LP ∧ x.k a = x0.k a ∧ (x0.k a = 21 → x.J a = x0.J a)
theorem Vb_rf {x : HS} : Vb x x := fun a h => ⟨h, rfl, fun _ => rfl⟩
theorem Vb_clo {WI WF : List (Nat × Nat)} {WJ WG : List Nat} {x0 : HS} (h1 : 21 ∉ WJ) : CloR WI WF WJ WG (Vb x0) := by
  refine ⟨fun x a ci j v h _ _ _ => h, fun x a ci j v h _ _ _ => h, fun x a f h ha hk hf c hc => ?_, fun x a i v h _ _ => h, fun x c z h => h, fun x q ci N h hq c hc => ?_, fun x q ci N _ h hq c hc => ?_, fun x q ci N _ h hq c hc => ?_⟩
  · obtain ⟨p1, p2, p3⟩ := h c hc
    refine ⟨p1, p2, fun z => ?_⟩
    rw [← p3 z]
    have hca : c ≠ a := fun y => h1 (by rw [← z, ← p2, y]; exact hk)
    exact hf c hca
  · obtain ⟨p1, p2, p3⟩ := h c hc
    have hcq : c ≠ q := fun y => hq (by rw [← y]; exact p1)
    have e1 : (x.new q ci N).k c = x.k c := va_up_ne _ _ hcq
    rw [e1]; exact ⟨List.mem_append_left _ p1, p2, p3⟩
  · obtain ⟨p1, p2, p3⟩ := h c hc
    have hcq : c ≠ q := fun y => hq (by rw [← y]; exact p1)
    have e1 : (x.newJ q ci N).k c = x.k c := va_up_ne _ _ hcq
    have e2 : (x.newJ q ci N).J c = x.J c := va_up_ne _ _ hcq
    rw [e1, e2]; exact ⟨List.mem_append_left _ p1, p2, p3⟩
  · obtain ⟨p1, p2, p3⟩ := h c hc
    have hcq : c ≠ q := fun y => hq (by rw [← y]; exact p1)
    have e1 : (x.newG q ci N).k c = x.k c := va_up_ne _ _ hcq
    rw [e1]; exact ⟨List.mem_append_left _ p1, p2, p3⟩
