set_option linter.unusedVariables false
set_option linter.unusedSimpArgs false
/-! LISTS IN ARRAYS: from h by nx through the slots L to m, or to the end -/
def LsG (nx : Nat → Int32) : Int32 → List Nat → Int32 → Prop
  | h, [], m => h = m
  | h, s :: L, m => h.toInt = (s : Int) ∧ LsG nx (nx s) L m
def LnK (nx : Nat → Int32) (h : Int32) (L : List Nat) : Prop := ∃ m : Int32, m.toInt = -1 ∧ LsG nx h L m
theorem LsG_congr {nx nx' : Nat → Int32} {m : Int32} : ∀ {L : List Nat} {h : Int32}, (∀ s, s ∈ L → nx' s = nx s) → LsG nx h L m → LsG nx' h L m
  | [], _, _, h => h
  | s :: L, _, he, h => ⟨h.1, by rw [he s List.mem_cons_self]; exact LsG_congr (fun q hq => he q (List.mem_cons_of_mem _ hq)) h.2⟩
theorem LnK_congr {nx nx' : Nat → Int32} {L : List Nat} {h : Int32} (he : ∀ s, s ∈ L → nx' s = nx s) (hl : LnK nx h L) : LnK nx' h L := by
  obtain ⟨m, h1, h2⟩ := hl
  exact ⟨m, h1, LsG_congr he h2⟩
theorem LsG_app {nx : Nat → Int32} {m : Int32} : ∀ {L1 L2 : List Nat} {h : Int32}, LsG nx h (L1 ++ L2) m ↔ ∃ k, LsG nx h L1 k ∧ LsG nx k L2 m
  | [], L2, h => ⟨fun z => ⟨h, rfl, z⟩, fun ⟨k, e, z⟩ => by
      have e : h = k := e
      subst e; exact z⟩
  | s :: L1, L2, h => by
      constructor
      · rintro ⟨h1, h2⟩
        obtain ⟨k, h3, h4⟩ := LsG_app.mp h2
        exact ⟨k, ⟨h1, h3⟩, h4⟩
      · rintro ⟨k, ⟨h1, h3⟩, h4⟩
        exact ⟨h1, LsG_app.mpr ⟨k, h3, h4⟩⟩
theorem LnK_app {nx : Nat → Int32} {L1 L2 : List Nat} {h : Int32} : LnK nx h (L1 ++ L2) ↔ ∃ k, LsG nx h L1 k ∧ LnK nx k L2 := by
  constructor
  · rintro ⟨m, h1, h2⟩
    obtain ⟨k, h3, h4⟩ := LsG_app.mp h2
    exact ⟨k, h3, m, h1, h4⟩
  · rintro ⟨k, h3, m, h1, h4⟩
    exact ⟨m, h1, LsG_app.mpr ⟨k, h3, h4⟩⟩
theorem LnK_nil {nx : Nat → Int32} {h : Int32} : LnK nx h [] ↔ h.toInt = -1 := ⟨fun ⟨m, h1, h2⟩ => by
  have h2 : h = m := h2
  rw [h2]; exact h1, fun h1 => ⟨h, h1, rfl⟩⟩
theorem LnK_cons {nx : Nat → Int32} {h : Int32} {s : Nat} {L : List Nat} : LnK nx h (s :: L) ↔ h.toInt = (s : Int) ∧ LnK nx (nx s) L := ⟨fun ⟨m, h1, h2, h3⟩ => ⟨h2, m, h1, h3⟩, fun ⟨h2, m, h1, h3⟩ => ⟨m, h1, h2, h3⟩⟩
/-- a list is what its beginning and its links say -/
theorem LnK_neg {nx : Nat → Int32} {h : Int32} {L : List Nat} (hl : LnK nx h L) (h0 : h.toInt < 0) : L = [] := by
  cases L with
  | nil => rfl
  | cons s L => have := (LnK_cons.mp hl).1; omega
theorem LnK_pos {nx : Nat → Int32} {h : Int32} {L : List Nat} (hl : LnK nx h L) (h0 : 0 ≤ h.toInt) : ∃ L', L = ix h :: L' ∧ LnK nx (nx (ix h)) L' := by
  cases L with
  | nil => have := LnK_nil.mp hl; omega
  | cons s L =>
    obtain ⟨h1, h2⟩ := LnK_cons.mp hl
    have : ix h = s := by have := ix_int h0; omega
    subst this
    exact ⟨L, rfl, h2⟩
/-- one is put in -/
theorem LsG_end {nx : Nat → Int32} {p : Nat} {v m : Int32} : ∀ {L : List Nat} {h : Int32}, p ∉ L → LsG nx h (L ++ [p]) m → LsG (va_up nx p v) h (L ++ [p]) v
  | [], h, _, hl => ⟨hl.1, va_up_self _ _ _⟩
  | s :: L, h, hp, hl => ⟨hl.1, by
      rw [va_up_ne _ _ (fun z => hp (by rw [z]; exact List.mem_cons_self))]
      exact LsG_end (fun z => hp (List.mem_cons_of_mem _ z)) hl.2⟩
theorem insA_eq {n g : Nat} : ∀ {L1 L2 : List Nat}, n ∉ L1 → insA n g (L1 ++ n :: L2) = L1 ++ n :: g :: L2
  | [], L2, _ => by simp [insA]
  | x :: L1, L2, h => by
      have hx : x ≠ n := fun z => h (by rw [z]; exact List.mem_cons_self)
      show (if x = n then x :: g :: (L1 ++ n :: L2) else x :: insA n g (L1 ++ n :: L2)) = _
      rw [if_neg hx, insA_eq (fun z => h (List.mem_cons_of_mem _ z))]; rfl
theorem mem_split {n : Nat} : ∀ {L : List Nat}, n ∈ L → ∃ L1 L2, L = L1 ++ n :: L2 ∧ n ∉ L1
  | [], h => absurd h List.not_mem_nil
  | x :: L, h => by
      by_cases e : x = n
      · exact ⟨[], L, by rw [e]; rfl, List.not_mem_nil⟩
      · obtain ⟨L1, L2, h1, h2⟩ := mem_split ((List.mem_cons.mp h).resolve_left (fun z => e z.symm))
        exact ⟨x :: L1, L2, by rw [h1]; rfl, fun z => (List.mem_cons.mp z).elim (fun z => e z.symm) h2⟩
/-- put in between L1 and L2: the links forward -/
theorem LnK_put {nx : Nat → Int32} {h : Int32} {L1 L2 : List Nat} {g : Nat} {hg : Int32} (hgv : hg.toInt = (g : Int)) (hl : LnK nx h (L1 ++ L2)) (hn : (L1 ++ L2).Nodup) (hgn : g ∉ L1 ++ L2) :
    (L1 = [] → ∀ v, v = h → LnK (va_up nx g v) hg (g :: L2)) ∧ ∀ L p, L1 = L ++ [p] → ∀ v, v = nx p → LnK (va_up (va_up nx g v) p hg) h (L1 ++ g :: L2) := by
  constructor
  · rintro rfl v rfl
    refine LnK_cons.mpr ⟨hgv, ?_⟩
    rw [va_up_self]
    exact LnK_congr (fun s hs => va_up_ne _ _ (fun z => hgn (by rw [← z]; exact hs))) hl
  · rintro L p rfl v rfl
    obtain ⟨k, h1, h2⟩ := LnK_app.mp hl
    have hk : k = nx p := by
      obtain ⟨k', -, h3⟩ := LsG_app.mp h1
      exact h3.2.symm
    have hn' := List.nodup_append.mp hn
    have hpL : p ∉ L := fun z => by
      have := (List.nodup_append.mp hn'.1).2.2
      exact this p z p (List.mem_singleton.mpr rfl) rfl
    have hp2 : ∀ s, s ∈ L2 → s ≠ p := fun s hs z => hn'.2.2 p (List.mem_append_right _ (List.mem_singleton.mpr rfl)) s hs z.symm
    have hg1 : ∀ s, s ∈ L ++ [p] → s ≠ g := fun s hs z => hgn (List.mem_append_left _ (by rw [← z]; exact hs))
    have hg2 : ∀ s, s ∈ L2 → s ≠ g := fun s hs z => hgn (List.mem_append_right _ (by rw [← z]; exact hs))
    have hgp : g ≠ p := fun z => hgn (List.mem_append_left _ (List.mem_append_right _ (by rw [z]; exact List.mem_singleton.mpr rfl)))
    refine LnK_app.mpr ⟨hg, ?_, LnK_cons.mpr ⟨hgv, ?_⟩⟩
    · exact LsG_end hpL (LsG_congr (fun s hs => va_up_ne _ _ (hg1 s hs)) h1)
    · rw [va_up_ne _ _ hgp, va_up_self, ← hk]
      exact LnK_congr (fun s hs => (va_up_ne _ _ (hp2 s hs)).trans (va_up_ne _ _ (hg2 s hs))) h2
/-- one is taken out -/
theorem LnK_cut {nx : Nat → Int32} {h : Int32} {L1 L2 : List Nat} {g : Nat} (hl : LnK nx h (L1 ++ g :: L2)) (hn : (L1 ++ g :: L2).Nodup) :
    (L1 = [] → LnK nx (nx g) L2) ∧ ∀ L p, L1 = L ++ [p] → LnK (va_up nx p (nx g)) h (L1 ++ L2) := by
  obtain ⟨k, h1, h2⟩ := LnK_app.mp hl
  obtain ⟨h3, h4⟩ := LnK_cons.mp h2
  refine ⟨fun _ => h4, ?_⟩
  rintro L p rfl
  have hn' := List.nodup_append.mp hn
  have hpL : p ∉ L := fun z => (List.nodup_append.mp hn'.1).2.2 p z p (List.mem_singleton.mpr rfl) rfl
  have hp2 : ∀ s, s ∈ L2 → s ≠ p := fun s hs z => hn'.2.2 p (List.mem_append_right _ (List.mem_singleton.mpr rfl)) s (List.mem_cons_of_mem _ hs) z.symm
  refine LnK_app.mpr ⟨nx g, LsG_end hpL h1, LnK_congr (fun s hs => va_up_ne _ _ (hp2 s hs)) h4⟩
theorem nil_or_end (L : List Nat) : L = [] ∨ ∃ L' p, L = L' ++ [p] := by
  rcases List.eq_nil_or_concat L with h | ⟨L', p, h⟩
  · exact Or.inl h
  · exact Or.inr ⟨L', p, by rw [h, List.concat_eq_append]⟩
theorem LnK_ne {nx : Nat → Int32} {h : Int32} {L : List Nat} (hl : LnK nx h L) : h.toInt = -1 ∨ 0 ≤ h.toInt := by
  cases L with
  | nil => exact Or.inl (LnK_nil.mp hl)
  | cons s L => exact Or.inr (by have := (LnK_cons.mp hl).1; omega)
/-- who is ahead of g, told by the links back -/
theorem LnK_prev {bf : Nat → Int32} {l : Int32} {L1 L2 : List Nat} {g : Nat} (hl : LnK bf l (L1 ++ g :: L2).reverse) : (L1 = [] → (bf g).toInt = -1) ∧ ∀ (L : List Nat) (p : Nat), L1 = L ++ [p] → (bf g).toInt = (p : Int) := by
  have e : (L1 ++ g :: L2).reverse = L2.reverse ++ g :: L1.reverse := by simp
  rw [e] at hl
  obtain ⟨k, h1, h2⟩ := LnK_app.mp hl
  obtain ⟨h3, h4⟩ := LnK_cons.mp h2
  refine ⟨fun z => ?_, fun L p z => ?_⟩
  · rw [z] at h4; exact LnK_nil.mp h4
  · rw [z, List.reverse_append] at h4
    exact (LnK_cons.mp h4).1
