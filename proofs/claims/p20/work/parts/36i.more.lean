set_option linter.unusedVariables false
set_option linter.unusedSimpArgs false
/-! MAKING THE KEEPER -/
/-- what is new is of NT or an array; what was there is as it was -/
def Ex (b b' : CT) (I I' : Nat → Nat → Int32) (F F' : Nat → Nat → Option Nat) (A A' : Nat → Nat → Nat → Int32) (E E' : Nat → Nat → Nat → Option Nat) (NT : Nat → Nat → Prop) : Prop :=
  (∀ c a, Is b c a → Is b' c a) ∧ (∀ c a, Is b' c a → Is b c a ∨ a ∉ b.B.LP ∧ (NT c a ∨ 20 ≤ c)) ∧ (∀ a j, a ∈ b.B.LP → b'.ad a j = b.ad a j) ∧ (∀ a d, a ∈ b.B.LP → Pa b a d → Pa b' a d) ∧ ∀ a, a ∈ b.B.LP → I' a = I a ∧ F' a = F a ∧ A' a = A a ∧ E' a = E a
section C35
variable {b b' b'' : CT} {I I' I'' : Nat → Nat → Int32} {F F' F'' : Nat → Nat → Option Nat} {A A' A'' : Nat → Nat → Nat → Int32} {E E' E'' : Nat → Nat → Nat → Option Nat} {NT NT' : Nat → Nat → Prop} {X : List Nat} {q : Nat}
theorem Ex_rf : Ex b b I I F F A A E E NT := ⟨fun _ _ h => h, fun _ _ h => Or.inl h, fun _ _ _ => rfl, fun _ _ _ h => h, fun _ _ => ⟨rfl, rfl, rfl, rfl⟩⟩
theorem Ex_LP (h : Ex b b' I I' F F' A A' E E' NT) {a : Nat} (ha : a ∈ b.B.LP) : a ∈ b'.B.LP := (h.1 (b.B.k a) a ⟨ha, rfl⟩).1
theorem Ex_tr (h : Ex b b' I I' F F' A A' E E' NT) (h2 : Ex b' b'' I' I'' F' F'' A' A'' E' E'' NT') : Ex b b'' I I'' F F'' A A'' E E'' (fun c a => NT c a ∨ NT' c a) := by
  refine ⟨fun c a z => h2.1 c a (h.1 c a z), fun c a z => ?_, fun a j ha => by rw [h2.2.2.1 a j (Ex_LP h ha), h.2.2.1 a j ha], fun a d ha z => h2.2.2.2.1 a d (Ex_LP h ha) (h.2.2.2.1 a d ha z), fun a ha => ?_⟩
  · rcases h2.2.1 c a z with z | ⟨z1, z2⟩
    · rcases h.2.1 c a z with z | ⟨z1, z2⟩
      · exact Or.inl z
      · exact Or.inr ⟨z1, z2.imp Or.inl id⟩
    · exact Or.inr ⟨fun y => z1 (Ex_LP h y), z2.imp Or.inr id⟩
  · obtain ⟨a1, a2, a3, a4⟩ := h.2.2.2.2 a ha
    obtain ⟨b1, b2, b3, b4⟩ := h2.2.2.2.2 a (Ex_LP h ha)
    exact ⟨by rw [b1, a1], by rw [b2, a2], by rw [b3, a3], by rw [b4, a4]⟩
theorem Ex_mono (h : Ex b b' I I' F F' A A' E E' NT) (hm : ∀ c a, NT c a → NT' c a) : Ex b b' I I' F F' A A' E E' NT' := ⟨h.1, fun c a z => (h.2.1 c a z).imp id (fun y => ⟨y.1, y.2.imp (hm c a) id⟩), h.2.2.1, h.2.2.2.1, h.2.2.2.2⟩
theorem Ex_new {ci N : Nat} (hb : CB0 b) (hq : q ∉ b.B.LP) : Ex b (bnew b q ci N) I (va_up I q (fun _ => 0)) F (va_up F q (fun _ => none)) A A E E (fun c a => c = ci ∧ a = q) := by
  have hIs := bnew_Is (b := b) (q := q) (ci := ci) (N := N) hq
  refine ⟨fun c a h => (hIs c a).mpr (Or.inl h), fun c a h => ?_, fun _ _ _ => rfl, fun _ _ _ h => h, fun a ha => ⟨va_up_ne _ _ (bnew_k hq ha), va_up_ne _ _ (bnew_k hq ha), rfl, rfl⟩⟩
  rcases (hIs c a).mp h with h | ⟨rfl, rfl⟩
  · exact Or.inl h
  · exact Or.inr ⟨hq, Or.inl ⟨rfl, rfl⟩⟩
theorem Ex_arr {j p kd N : Nat} (h : Ex b b' I I' F F' A A' E E' NT) (hb : CB0 b') (hq : q ∉ b.B.LP) (hp : p ∉ b'.B.LP) (hk : 20 ≤ kd) {u : Nat → Int32} {w : Nat → Option Nat} : Ex b (barr b' q j p kd N) I I' F F' A (up2 A' q j u) E (up2 E' q j w) NT := by
  have hIs := barr_Is (b := b') (q := q) (j := j) (kd := kd) (N := N) hp
  have ne : ∀ a, a ∈ b.B.LP → a ≠ q := fun a ha z => hq (by rw [← z]; exact ha)
  refine ⟨fun c a z => (hIs c a).mpr (Or.inl (h.1 c a z)), fun c a z => ?_, fun a j' ha => ?_, fun a d ha z => Pa_arro hb (h.2.2.2.1 a d ha z) (ne a ha) hp, fun a ha => ?_⟩
  · rcases (hIs c a).mp z with z | ⟨rfl, rfl⟩
    · exact h.2.1 c a z
    · exact Or.inr ⟨fun y => hp (Ex_LP h y), Or.inr hk⟩
  · show up2 (fun a j => b'.ad a j) q j p a j' = _
    rw [up2_a _ _ _ _ (ne a ha)]; exact h.2.2.1 a j' ha
  · obtain ⟨a1, a2, a3, a4⟩ := h.2.2.2.2 a ha
    exact ⟨a1, a2, by rw [up2_row _ _ _ (ne a ha), a3], by rw [up2_row _ _ _ (ne a ha), a4]⟩
theorem Ex_pI {j : Nat} {v : Int32} (h : Ex b b' I I' F F' A A' E E' NT) (hq : q ∉ b.B.LP) : Ex b b' I (up2 I' q j v) F F' A A' E E' NT := ⟨h.1, h.2.1, h.2.2.1, h.2.2.2.1, fun a ha => by
  obtain ⟨a1, a2, a3, a4⟩ := h.2.2.2.2 a ha
  exact ⟨by rw [up2_row _ _ _ (fun z => hq (by rw [← z]; exact ha)), a1], a2, a3, a4⟩⟩
theorem Ex_pF {j : Nat} {v : Option Nat} (h : Ex b b' I I' F F' A A' E E' NT) (hq : q ∉ b.B.LP) : Ex b b' I I' F (up2 F' q j v) A A' E E' NT := ⟨h.1, h.2.1, h.2.2.1, h.2.2.2.1, fun a ha => by
  obtain ⟨a1, a2, a3, a4⟩ := h.2.2.2.2 a ha
  exact ⟨a1, by rw [up2_row _ _ _ (fun z => hq (by rw [← z]; exact ha)), a2], a3, a4⟩⟩
theorem Ex_pE {j i : Nat} {v : Option Nat} (h : Ex b b' I I' F F' A A' E E' NT) (hq : q ∉ b.B.LP) : Ex b b' I I' F F' A A' E (up3 E' q j i v) NT := ⟨h.1, h.2.1, h.2.2.1, h.2.2.2.1, fun a ha => by
  obtain ⟨a1, a2, a3, a4⟩ := h.2.2.2.2 a ha
  exact ⟨a1, a2, a3, by rw [← a4]; funext j'; exact up3_ne (fun z => hq (by rw [← z.1]; exact ha))⟩⟩
theorem bnew_c {ci N : Nat} : (bnew b q ci N).B.c = b.B.c - 1 := Eq.symm (Eq.refl _)
theorem bnew_z {ci N : Nat} : (bnew b q ci N).B.z = b.B.z - N := Eq.symm (Eq.refl _)
theorem barr_c {j p kd N : Nat} : (barr b q j p kd N).B.c = b.B.c - 1 := Eq.symm (Eq.refl _)
theorem barr_z {j p kd N : Nat} : (barr b q j p kd N).B.z = b.B.z - N := Eq.symm (Eq.refl _)
theorem oF5 : ∀ j, oF 5 j ≠ 0 → j ∈ [1] := by
  intro j h
  by_cases h1 : j = 1
  · simp [h1]
  · exfalso; apply h; unfold oF; simp [h1]
theorem oF7 : ∀ j, oF 7 j ≠ 0 → j ∈ [0] := by
  intro j h
  by_cases h1 : j = 0
  · simp [h1]
  · exfalso; apply h; unfold oF; simp [h1]
theorem oF6 : ∀ j, oF 6 j ≠ 0 → j ∈ [0] := by
  intro j h
  by_cases h1 : j = 0
  · simp [h1]
  · exfalso; apply h; unfold oF; simp [h1]
theorem oF2 : ∀ j, oF 2 j ≠ 0 → j ∈ [1, 0] := by
  intro j h
  by_cases h1 : j = 1
  · simp [h1]
  · by_cases h0 : j = 0
    · simp [h0]
    · exfalso; apply h; unfold oF; simp [h1, h0]
theorem oF9 : ∀ j, oF 9 j ≠ 0 → j ∈ [1, 0] := by
  intro j h
  by_cases h1 : j = 1
  · simp [h1]
  · by_cases h0 : j = 0
    · simp [h0]
    · exfalso; apply h; unfold oF; simp [h1, h0]
theorem oF3 : ∀ j, oF 3 j ≠ 0 → j ∈ [2, 1, 0] := by
  intro j h
  by_cases h1 : j = 1
  · simp [h1]
  · by_cases h0 : j = 0
    · simp [h0]
    · by_cases h2 : j = 2
      · simp [h2]
      · exfalso; apply h; unfold oF; simp [h1, h0, h2]
theorem oF8 : ∀ j, oF 8 j ≠ 0 → j ∈ [5, 4, 3] := by
  intro j h
  by_cases h1 : j = 5
  · simp [h1]
  · by_cases h0 : j = 4
    · simp [h0]
    · by_cases h2 : j = 3
      · simp [h2]
      · exfalso; apply h; unfold oF; simp [h1, h0, h2]
theorem oF11 : ∀ j, oF 11 j ≠ 0 → j ∈ [5, 4, 3, 1, 0] := by
  intro j h
  by_cases h1 : j = 5
  · simp [h1]
  · by_cases h0 : j = 4
    · simp [h0]
    · by_cases h2 : j = 3
      · simp [h2]
      · by_cases h3 : j = 1
        · simp [h3]
        · by_cases h4 : j = 0
          · simp [h4]
          · exfalso; apply h; unfold oF; simp [h1, h0, h2, h3, h4]
theorem m_look (hb : CBX b X) (hc : 2 ≤ b.B.c) (hz : 12 ≤ b.B.z) {Z : Option Nat → HS → Prop} {XF : String → HS → Prop} (hZ : ∀ q b' I' F' A' E', CBX b' X → Is b' 5 q → q ∉ b.B.LP → Ex b b' I I' F F' A A' E E' (fun c a => c = 5 ∧ a = q) → b'.B.c = b.B.c - 2 → b'.B.z = b.B.z - 12 → Z (some q) (cS b' I' F' A' E')) : wNew (cS b I F A E) 5 8 fun q x1 => w_X5_init q x1 (fun x2 => Z q x2) XF := by
  refine c_new hb.1 (by omega) (by omega) (fun q hq => ?_)
  have x1 := CBX_new (ci := 5) (N := 8) hb hq
  have t1 := Pa_new (ci := 5) (N := 8) hb.1 hq
  have e1 := Ex_new (ci := 5) (N := 8) (I := I) (F := F) (A := A) (E := E) hb.1 hq
  have q1 : Is (bnew b q 5 8) 5 q := (bnew_Is hq 5 q).mpr (Or.inr ⟨rfl, rfl⟩)
  simp only [w_X5_init, wRef, Option.some.injEq, exists_eq', true_and]
  refine c_newJ (j := 1) (N := 4) x1.1 q1 (Pa_no t1 (by decide)) (by decide) (by decide) (by simp only [barr_c, barr_z, bnew_c, bnew_z]; omega) (by simp only [barr_c, barr_z, bnew_c, bnew_z]; omega) (fun p e hp => ?_)
  obtain ⟨x2, t2⟩ := Pa_arr (kd := 20) (N := 4) x1 q1 t1 List.mem_cons_self hp (j := 1) (by decide) (by decide) (by decide) (by decide)
  have q2 : Is (barr (bnew b q 5 8) q 1 p 20 4) 5 q := (barr_Is hp 5 q).mpr (Or.inl q1)
  exact hZ q _ _ _ _ _ (Pa_end x2 t2 q2 oF5) q2 hq (Ex_arr e1 x1.1 hq hp (by decide)) (by simp only [barr_c, barr_z, bnew_c, bnew_z]; omega) (by simp only [barr_c, barr_z, bnew_c, bnew_z]; omega)
theorem m_sols (hb : CBX b X) (hc : 2 ≤ b.B.c) (hz : 803 ≤ b.B.z) {Z : Option Nat → HS → Prop} {XF : String → HS → Prop} (hZ : ∀ q b' I' F' A' E', CBX b' X → Is b' 7 q → q ∉ b.B.LP → Ex b b' I I' F F' A A' E E' (fun c a => c = 7 ∧ a = q) → b'.B.c = b.B.c - 2 → b'.B.z = b.B.z - 803 → Z (some q) (cS b' I' F' A' E')) : wNew (cS b I F A E) 7 3 fun q x1 => w_X7_init q x1 (fun x2 => Z q x2) XF := by
  refine c_new hb.1 (by omega) (by omega) (fun q hq => ?_)
  have x1 := CBX_new (ci := 7) (N := 3) hb hq
  have t1 := Pa_new (ci := 7) (N := 3) hb.1 hq
  have e1 := Ex_new (ci := 7) (N := 3) (I := I) (F := F) (A := A) (E := E) hb.1 hq
  have q1 : Is (bnew b q 7 3) 7 q := (bnew_Is hq 7 q).mpr (Or.inr ⟨rfl, rfl⟩)
  simp only [w_X7_init, wRef, Option.some.injEq, exists_eq', true_and]
  refine c_newJ (j := 0) (N := 800) x1.1 q1 (Pa_no t1 (by decide)) (by decide) (by decide) (by simp only [barr_c, barr_z, bnew_c, bnew_z]; omega) (by simp only [barr_c, barr_z, bnew_c, bnew_z]; omega) (fun p e hp => ?_)
  obtain ⟨x2, t2⟩ := Pa_arr (kd := 20) (N := 800) x1 q1 t1 List.mem_cons_self hp (j := 0) (by decide) (by decide) (by decide) (by decide)
  have q2 : Is (barr (bnew b q 7 3) q 0 p 20 800) 7 q := (barr_Is hp 7 q).mpr (Or.inl q1)
  exact hZ q _ _ _ _ _ (Pa_end x2 t2 q2 oF7) q2 hq (Ex_arr e1 x1.1 hq hp (by decide)) (by simp only [barr_c, barr_z, bnew_c, bnew_z]; omega) (by simp only [barr_c, barr_z, bnew_c, bnew_z]; omega)
theorem m_goal (hb : CBX b X) (hc : 3 ≤ b.B.c) (hz : 14 ≤ b.B.z) {Z : Option Nat → HS → Prop} {XF : String → HS → Prop} (hZ : ∀ q b' I' F' A' E', CBX b' X → Is b' 2 q → q ∉ b.B.LP → Ex b b' I I' F F' A A' E E' (fun c a => c = 2 ∧ a = q) → b'.B.c = b.B.c - 3 → b'.B.z = b.B.z - 14 → I' q 5 = 0 → (∀ i, A' q 0 i = 0) → Z (some q) (cS b' I' F' A' E')) : wNew (cS b I F A E) 2 6 fun q x1 => w_X2_init q x1 (fun x2 => Z q x2) XF := by
  refine c_new hb.1 (by omega) (by omega) (fun q hq => ?_)
  have x1 := CBX_new (ci := 2) (N := 6) hb hq
  have t1 := Pa_new (ci := 2) (N := 6) hb.1 hq
  have e1 := Ex_new (ci := 2) (N := 6) (I := I) (F := F) (A := A) (E := E) hb.1 hq
  have q1 : Is (bnew b q 2 6) 2 q := (bnew_Is hq 2 q).mpr (Or.inr ⟨rfl, rfl⟩)
  simp only [w_X2_init, wRef, Option.some.injEq, exists_eq', true_and]
  refine c_newJ (j := 0) (N := 4) x1.1 q1 (Pa_no t1 (by decide)) (by decide) (by decide) (by simp only [barr_c, barr_z, bnew_c, bnew_z]; omega) (by simp only [barr_c, barr_z, bnew_c, bnew_z]; omega) (fun p e hp => ?_)
  obtain ⟨x2, t2⟩ := Pa_arr (kd := 20) (N := 4) x1 q1 t1 List.mem_cons_self hp (j := 0) (by decide) (by decide) (by decide) (by decide)
  have q2 : Is (barr (bnew b q 2 6) q 0 p 20 4) 2 q := (barr_Is hp 2 q).mpr (Or.inl q1)
  have e2 := Ex_arr (u := fun _ => 0) (w := e) (j := 0) (N := 4) e1 x1.1 hq hp (show 20 ≤ 20 by decide)
  refine c_newJ (j := 1) (N := 4) x2.1 q2 (Pa_no t2 (by decide)) (by decide) (by decide) (by simp only [barr_c, barr_z, bnew_c, bnew_z]; omega) (by simp only [barr_c, barr_z, bnew_c, bnew_z]; omega) (fun p2 f hp2 => ?_)
  obtain ⟨x3, t3⟩ := Pa_arr (kd := 20) (N := 4) x2 q2 t2 List.mem_cons_self hp2 (j := 1) (by decide) (by decide) (by decide) (by decide)
  have q3 : Is (barr (barr (bnew b q 2 6) q 0 p 20 4) q 1 p2 20 4) 2 q := (barr_Is hp2 2 q).mpr (Or.inl q2)
  refine hZ q _ _ _ _ _ (Pa_end x3 t3 q3 oF2) q3 hq (Ex_arr e2 x2.1 hq hp2 (by decide)) (by simp only [barr_c, barr_z, bnew_c, bnew_z]; omega) (by simp only [barr_c, barr_z, bnew_c, bnew_z]; omega) ?_ (fun i => ?_)
  · rw [va_up_self]
  · rw [up2_k _ _ _ _ (by decide), up2_self]
theorem m_hist (hb : CBX b X) (hc : 4 ≤ b.B.c) (hz : 12013 ≤ b.B.z) {Z : Option Nat → HS → Prop} {XF : String → HS → Prop} (hZ : ∀ q b' I' F' A' E', CBX b' X → Is b' 3 q → q ∉ b.B.LP → Ex b b' I I' F F' A A' E E' (fun c a => c = 3 ∧ a = q) → b'.B.c = b.B.c - 4 → b'.B.z = b.B.z - 12013 → I' q 3 = 0 → I' q 4 = 0 → Z (some q) (cS b' I' F' A' E')) : wNew (cS b I F A E) 3 5 fun q x1 => w_X3_init q x1 (fun x2 => Z q x2) XF := by
  refine c_new hb.1 (by omega) (by omega) (fun q hq => ?_)
  have x1 := CBX_new (ci := 3) (N := 5) hb hq
  have t1 := Pa_new (ci := 3) (N := 5) hb.1 hq
  have e1 := Ex_new (ci := 3) (N := 5) (I := I) (F := F) (A := A) (E := E) hb.1 hq
  have q1 : Is (bnew b q 3 5) 3 q := (bnew_Is hq 3 q).mpr (Or.inr ⟨rfl, rfl⟩)
  simp only [w_X3_init, wRef, Option.some.injEq, exists_eq', true_and]
  refine c_newG (j := 0) (N := 6000) x1.1 q1 (Pa_no t1 (by decide)) (by decide) (by decide) (by simp only [barr_c, barr_z, bnew_c, bnew_z]; omega) (by simp only [barr_c, barr_z, bnew_c, bnew_z]; omega) (fun p e hp => ?_)
  obtain ⟨x2, t2⟩ := Pa_arr (kd := 25) (N := 6000) x1 q1 t1 List.mem_cons_self hp (j := 0) (by decide) (by decide) (by decide) (by decide)
  have q2 : Is (barr (bnew b q 3 5) q 0 p 25 6000) 3 q := (barr_Is hp 3 q).mpr (Or.inl q1)
  have e2 := Ex_arr (u := e) (w := fun _ => none) (j := 0) (N := 6000) (kd := 25) e1 x1.1 hq hp (by decide)
  refine c_newJ (j := 1) (N := 6000) x2.1 q2 (Pa_no t2 (by decide)) (by decide) (by decide) (by simp only [barr_c, barr_z, bnew_c, bnew_z]; omega) (by simp only [barr_c, barr_z, bnew_c, bnew_z]; omega) (fun p2 f hp2 => ?_)
  obtain ⟨x3, t3⟩ := Pa_arr (kd := 22) (N := 6000) x2 q2 t2 List.mem_cons_self hp2 (j := 1) (by decide) (by decide) (by decide) (by decide)
  have q3 : Is (barr (barr (bnew b q 3 5) q 0 p 25 6000) q 1 p2 22 6000) 3 q := (barr_Is hp2 3 q).mpr (Or.inl q2)
  have e3 := Ex_arr (u := fun _ => 0) (w := f) (j := 1) (N := 6000) (kd := 22) e2 x2.1 hq hp2 (by decide)
  refine c_newJ (j := 2) (N := 8) x3.1 q3 (Pa_no t3 (by decide)) (by decide) (by decide) (by simp only [barr_c, barr_z, bnew_c, bnew_z]; omega) (by simp only [barr_c, barr_z, bnew_c, bnew_z]; omega) (fun p3 f3 hp3 => ?_)
  obtain ⟨x4, t4⟩ := Pa_arr (kd := 20) (N := 8) x3 q3 t3 List.mem_cons_self hp3 (j := 2) (by decide) (by decide) (by decide) (by decide)
  have q4 : Is (barr (barr (barr (bnew b q 3 5) q 0 p 25 6000) q 1 p2 22 6000) q 2 p3 20 8) 3 q := (barr_Is hp3 3 q).mpr (Or.inl q3)
  refine hZ q _ _ _ _ _ (Pa_end x4 t4 q4 oF3) q4 hq (Ex_arr e3 x3.1 hq hp3 (by decide)) (by simp only [barr_c, barr_z, bnew_c, bnew_z]; omega) (by simp only [barr_c, barr_z, bnew_c, bnew_z]; omega) ?_ ?_
  · rw [va_up_self]
  · rw [va_up_self]
end C35
