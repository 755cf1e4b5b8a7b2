/-! counting -/
def cnt (p : Nat → Bool) : Nat → Nat
  | 0 => 0
  | n + 1 => cnt p n + (if p n then 1 else 0)
theorem cnt_le (p : Nat → Bool) : ∀ n, cnt p n ≤ n
  | 0 => Nat.le_refl _
  | n + 1 => by
    have := cnt_le p n
    unfold cnt
    split <;> omega
theorem cnt_congr {p q : Nat → Bool} : ∀ {n : Nat}, (∀ i, i < n → p i = q i) → cnt p n = cnt q n
  | 0, _ => rfl
  | n + 1, h => by
    unfold cnt
    rw [cnt_congr (n := n) (fun i hi => h i (by omega)), h n (by omega)]
theorem cnt_lt {p : Nat → Bool} : ∀ {n : Nat}, cnt p n < n → ∃ i, i < n ∧ p i = false
  | 0, h => by simp [cnt] at h
  | n + 1, h => by
    unfold cnt at h
    cases hp : p n with
    | false => exact ⟨n, by omega, hp⟩
    | true =>
      rw [hp] at h
      simp at h
      obtain ⟨i, h1, h2⟩ := cnt_lt (n := n) (by omega)
      exact ⟨i, by omega, h2⟩
/-- one more -/
theorem cnt_set {p q : Nat → Bool} {f : Nat} (hf : p f = false) (hq : q f = true) (h : ∀ i, i ≠ f → q i = p i) : ∀ {n : Nat}, f < n → cnt q n = cnt p n + 1
  | 0, h0 => by omega
  | n + 1, h0 => by
    unfold cnt
    by_cases hn : f = n
    · subst hn
      rw [hf, hq, cnt_congr (p := q) (q := p) (n := f) (fun i hi => h i (by omega))]
      simp
    · rw [cnt_set hf hq h (n := n) (by omega), h n (fun z => hn z.symm)]
      omega
theorem cnt_no {p : Nat → Bool} : ∀ {n : Nat}, (∀ i, i < n → p i = false) → cnt p n = 0
  | 0, _ => rfl
  | n + 1, h => by
    unfold cnt
    rw [cnt_no (n := n) (fun i hi => h i (by omega)), h n (by omega)]
    rfl
