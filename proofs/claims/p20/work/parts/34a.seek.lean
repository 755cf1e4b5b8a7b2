
set_option linter.unusedVariables false
set_option linter.unusedSimpArgs false
/-- a place in a row, or none -/
def mP (U : Nat → Int32) (p : Int32) : Prop := p.toInt = -1 ∨ ∃ f : Nat, mU U f ∧ p.toInt = f
def mR (ρ : Nat → Nat) (p : Int32) : Nat := if p.toInt < 0 then 0 else ρ (ix p) + 1
theorem mP_in {U : Nat → Int32} {p : Int32} (h : mP U p) (h0 : ¬ p < 0) : wIn p 3000 ∧ mU U (ix p) := by
  rcases h with h | ⟨f, h1, h2⟩
  · simp only [i32, Int32.reduceToInt] at h0; omega
  · have h3 := h1.1
    exact ⟨⟨by omega, by omega⟩, by rw [ix_of h2]; exact h1⟩
theorem mP_behind {ρ : Nat → Nat} {tables kept : Int} {U TB BF BH FI LA : Nat → Int32} (h : GL ρ tables kept U TB BF BH FI LA) {f : Nat} (hf : mU U f) : mP U (BH f) ∧ mR ρ (BH f) ≤ ρ f := by
  obtain ⟨-, -, -, h1, -⟩ := h.1 f hf
  unfold mR
  rcases h1 with ⟨h1, -⟩ | ⟨g, h1, h2, h3, -⟩
  · exact ⟨Or.inl h1, by rw [if_pos (by omega)]; omega⟩
  · exact ⟨Or.inr ⟨g, h1, h2⟩, by rw [if_neg (by omega), ix_of h2]; omega⟩
theorem mP_first {ρ : Nat → Nat} {tables kept : Int} {U TB BF BH FI LA : Nat → Int32} (h : GL ρ tables kept U TB BF BH FI LA) {t : Nat} (ht : (t : Int) < tables) : mP U (FI t) ∧ mP U (LA t) := by
  obtain ⟨h1, h2, -⟩ := h.2.2 t ht
  refine ⟨?_, ?_⟩
  · rcases h1 with h1 | ⟨f, h1, h3, -⟩
    · exact Or.inl h1
    · exact Or.inr ⟨f, h1, h3⟩
  · rcases h2 with h1 | ⟨f, h1, h3, -⟩
    · exact Or.inl h1
    · exact Or.inr ⟨f, h1, h3⟩
def GT (tables : Int) (CO KM : Nat → Int32) : Prop := ∀ t : Nat, (t : Int) < tables → 1 ≤ (CO t).toInt ∧ (CO t).toInt ≤ 4 ∧ 0 ≤ (KM t).toInt ∧ (KM t).toInt ≤ 3
section S1
variable {b : MT} {fi : Nat → Int32} {ar : Nat → Nat → Int32} {X : String → HS → Prop} {Q : Int32 → HS → Prop}
theorem s_fails (hb : MB b) (v : Int32) : w_X12_fails (some b.o) v (mS b fi ar) Q X = Q (if v = 0 then 0 else 1) (mS b (va_up fi 0 v) ar) := by
  simp only [w_X12_fails, wJoin, wIf, wBit0, wBit1, mw hb]
  by_cases h : v = 0 <;> simp [h]
theorem s_thrown (hb : MB b) : w_X12_thrown (some b.o) (mS b fi ar) Q X = Q (fi 0) (mS b fi ar) := by
  simp only [w_X12_thrown, mw hb]
theorem s_isTable (hb : MB b) (t : Int32) : w_X12_isTable (some b.o) t (mS b fi ar) Q X = Q (if 0 ≤ t ∧ t < fi 10 then 1 else 0) (mS b fi ar) := by
  simp only [w_X12_isTable, wJoin, wIf, wBit0, wBit1, mw hb]
  by_cases h1 : t < 0
  · have : ¬ (0 ≤ t ∧ t < fi 10) := by grind
    simp [h1, this]
  · by_cases h2 : fi 10 ≤ t
    · have : ¬ (0 ≤ t ∧ t < fi 10) := by grind
      simp [h1, h2, this]
    · have : (0 ≤ t ∧ t < fi 10) := by grind
      simp [h1, h2, this]
theorem s_isMask (hb : MB b) (t : Int32) : w_X12_isMask (some b.o) t (mS b fi ar) Q X = Q (if 0 ≤ t ∧ t ≤ 15 then 1 else 0) (mS b fi ar) := by
  simp only [w_X12_isMask, wJoin, wIf, wBit0, wBit1, mw hb]
  by_cases h1 : t < 0
  · have : ¬ (0 ≤ t ∧ t ≤ 15) := by grind
    simp [h1, this]
  · by_cases h2 : 15 < t
    · have : ¬ (0 ≤ t ∧ t ≤ 15) := by grind
      simp [h1, h2, this]
    · have : (0 ≤ t ∧ t ≤ 15) := by grind
      simp [h1, h2, this]
theorem s_isTime (hb : MB b) (t : Int32) (hQ : ∀ r, r = 0 ∨ r = 1 → Q r (mS b fi ar)) : w_X12_isTime (some b.o) t (mS b fi ar) Q X := by
  simp only [w_X12_isTime, wJoin, wIf, wBit0, wBit1, mw hb]
  have h0 := hQ 0 (Or.inl rfl)
  have h1 := hQ 1 (Or.inr rfl)
  simp [h0, h1]
theorem s_timeOf (hb : MB b) (t : Int32) (hQ : ∀ r, Q r (mS b fi ar)) : w_X12_timeOf (some b.o) t (mS b fi ar) Q X := by
  simp only [w_X12_timeOf, wJoin, wIf, mw hb]
  simp [hQ]
theorem s_isThere (hb : MB b) (f t : Int32) (hf : wIn f 3000) : w_X12_isThere (some b.o) f t (mS b fi ar) Q X = Q (if ar 15 (ix f) ≤ t ∧ (ar 16 (ix f) < 0 ∨ t < ar 16 (ix f)) then 1 else 0) (mS b fi ar) := by
  simp only [w_X12_isThere, wJoin, wIf, wBit0, wBit1, mw hb, hf, true_and]
  by_cases h1 : t < ar 15 (ix f)
  · have : ¬ (ar 15 (ix f) ≤ t) := by grind
    simp [h1, this]
  · have h1' : (ar 15 (ix f) ≤ t) := by grind
    by_cases h2 : ar 16 (ix f) < 0
    · simp [h1, h1', h2]
    · by_cases h3 : ar 16 (ix f) ≤ t
      · have : ¬ (t < ar 16 (ix f)) := by grind
        simp [h1, h1', h2, h3, this]
      · have : (t < ar 16 (ix f)) := by grind
        simp [h1, h1', h2, h3, this]
theorem s_wrongCursor (hb : MB b) (c : Int32) (hQ0 : wIn c 10 → ar 28 (ix c) ≠ 0 → Q 0 (mS b fi ar)) (hQ : ∀ r, r ≠ 0 → Q r (mS b fi ar)) : w_X12_wrongCursor (some b.o) c (mS b fi ar) Q X := by
  simp only [w_X12_wrongCursor, wJoin, wIf, mw hb]
  have h1 := hQ 1 (by decide)
  have h2 := hQ 2 (by decide)
  refine ⟨fun _ => h1, fun h3 => ⟨fun h4 => ?_, fun h4 => ?_⟩⟩
  · have hc : wIn c 10 := by
      simp only [wIn, i32, Int32.reduceToInt] at *; omega
    exact ⟨hc, fun h5 => h2, fun h5 => hQ0 hc h5⟩
  · exact h1
end S1
section S2
variable {b : MT} {fi : Nat → Int32} {ar : Nat → Nat → Int32} {X : String → HS → Prop} {Q : Int32 → HS → Prop}
theorem s_fits (hb : MB b) (f mask s : Int32) (j : Nat) (hj : j ∈ mIds) (hk : mKind j = 20) (hf : wIn f 3000) (ht : wIn (ar 12 (ix f)) 12) (hc : (ar 4 (ix (ar 12 (ix f)))).toInt ≤ 4) (hs : 0 ≤ s.toInt) (hs2 : s.toInt + 4 ≤ mLen j) (hl : mLen j ≤ 12000) (hQ : ∀ r, r = 0 ∨ r = 1 → Q r (mS b fi ar)) : w_X12_fits (some b.o) f mask (some (b.a j)) s (mS b fi ar) Q X := by
  have q0 := hQ 0 (Or.inl rfl)
  have q1 := hQ 1 (Or.inr rfl)
  simp only [w_X12_fits, mw hb, hf, ht, true_and]
  refine wLoop_i (fun n v x => x = mS b fi ar ∧ 0 ≤ v.toInt ∧ v.toInt ≤ 4 ∧ n = (4 - v.toInt).toNat) 4 ⟨rfl, by decide, by decide, by decide⟩ ?_
  rintro n v x again ha ⟨rfl, h1, h2, h3⟩
  simp only [wJoin, wIf, wBit0, wBit1, mw hb, m_ald hb hj hk]
  refine ⟨fun _ => q1, fun h4 => ?_⟩
  have h5 : v.toInt < 4 := by simp only [i32] at h4; omega
  have hv : (v + 1).toInt = v.toInt + 1 := by simp only [i32, Int32.reduceToInt]; omega
  have hag : again (v + 1) (mS b fi ar) := ha _ _ _ (by omega) ⟨rfl, by omega, by omega, rfl⟩
  refine ⟨fun _ => ⟨?_, ?_, fun _ => hag, fun _ => q0⟩, fun _ => hag⟩
  · obtain ⟨f1, f2⟩ := hf
    simp only [wIn, i32, Int32.reduceToInt]; omega
  · simp only [wIn, i32]; omega
theorem s_alike (hb : MB b) (f g mask : Int32) (hf : wIn f 3000) (hg : wIn g 3000) (hQ : ∀ r, r = 0 ∨ r = 1 → Q r (mS b fi ar)) : w_X12_alike (some b.o) f g mask (mS b fi ar) Q X := by
  have q0 := hQ 0 (Or.inl rfl)
  have q1 := hQ 1 (Or.inr rfl)
  simp only [w_X12_alike, mw hb, hf, true_and]
  refine wLoop_i (fun n v x => x = mS b fi ar ∧ 0 ≤ v.toInt ∧ v.toInt ≤ 4 ∧ n = (4 - v.toInt).toNat) 4 ⟨rfl, by decide, by decide, by decide⟩ ?_
  rintro n v x again ha ⟨rfl, h1, h2, h3⟩
  simp only [wJoin, wIf, wBit0, wBit1, mw hb]
  refine ⟨fun _ => q1, fun h4 => ?_⟩
  have h5 : v.toInt < 4 := by simp only [i32, Int32.reduceToInt] at h4; omega
  have hv : (v + 1).toInt = v.toInt + 1 := by simp only [i32, Int32.reduceToInt]; omega
  have hag : again (v + 1) (mS b fi ar) := ha _ _ _ (by omega) ⟨rfl, by omega, by omega, rfl⟩
  refine ⟨fun _ => ⟨?_, ?_, fun _ => hag, fun _ => q0⟩, fun _ => hag⟩
  · obtain ⟨f1, f2⟩ := hf
    simp only [wIn, i32, Int32.reduceToInt]; omega
  · obtain ⟨f1, f2⟩ := hg
    simp only [wIn, i32, Int32.reduceToInt]; omega
theorem s_indexOf (hb : MB b) (t mask : Int32) (ht : wIn t 12) (hc : (ar 4 (ix t)).toInt ≤ 4) (hQ : ∀ r : Int32, r.toInt = -1 ∨ (0 ≤ r.toInt ∧ r.toInt < 4) → Q r (mS b fi ar)) : w_X12_indexOf (some b.o) t mask (mS b fi ar) Q X := by
  simp only [w_X12_indexOf]
  refine wLoop_i (fun n v x => x = mS b fi ar ∧ 0 ≤ v.toInt ∧ v.toInt ≤ 4 ∧ n = (4 - v.toInt).toNat) 4 ⟨rfl, by decide, by decide, by decide⟩ ?_
  rintro n v x again ha ⟨rfl, h1, h2, h3⟩
  simp only [wJoin, wIf, mw hb, ht, true_and]
  refine ⟨fun _ => hQ _ (Or.inl (by decide)), fun h4 => ?_⟩
  have h5 : v.toInt < 4 := by simp only [i32, Int32.reduceToInt] at h4; omega
  have hv : (v + 1).toInt = v.toInt + 1 := by simp only [i32, Int32.reduceToInt]; omega
  have hag : again (v + 1) (mS b fi ar) := ha _ _ _ (by omega) ⟨rfl, by omega, by omega, rfl⟩
  exact ⟨fun _ => ⟨fun _ => hQ _ (Or.inr ⟨by omega, by omega⟩), fun _ => hag⟩, fun _ => hag⟩
/-- where one stands: within its table, whose columns are 1 to 4 -/
theorem m_tab {ρ : Nat → Nat} {tables kept : Int} {U TB BF BH FI LA CO KM : Nat → Int32} (h : GL ρ tables kept U TB BF BH FI LA) (hT : GT tables CO KM) (h12 : tables ≤ 12) {f : Nat} (hf : mU U f) : wIn (TB f) 12 ∧ (CO (ix (TB f))).toInt ≤ 4 := by
  obtain ⟨h1, h2, -⟩ := h.1 f hf
  exact ⟨⟨h1, by omega⟩, (hT (ix (TB f)) (by rw [ix_int h1]; exact h2)).2.1⟩
theorem s_seek (hb : MB b) {ρ : Nat → Nat} {tables kept : Int} (hL : GL ρ tables kept (ar 11) (ar 12) (ar 17) (ar 18) (ar 7) (ar 8)) (hT : GT tables (ar 4) (ar 6)) (h12 : tables ≤ 12) (t from_ mask at_ s : Int32) (j : Nat) (hj : j ∈ mIds) (hk : mKind j = 20) (ht : wIn t 12) (hc : (ar 4 (ix t)).toInt ≤ 4) (hf : mP (ar 11) from_) (hs : 0 ≤ s.toInt) (hs2 : s.toInt + 4 ≤ mLen j) (hl : mLen j ≤ 12000)
    (hQ : ∀ (r lk : Int32), mP (ar 11) r → (0 ≤ r.toInt → (ar 15 (ix r) ≤ at_ ∧ (ar 16 (ix r) < 0 ∨ at_ < ar 16 (ix r))) ∧ ρ (ix r) < mR ρ from_) → (0 ≤ (fi 38).toInt → (fi 38).toInt ≤ 50000 → fi 39 ≠ 0 → (fi 38).toInt ≤ lk.toInt ∧ lk.toInt ≤ 50001 ∧ (0 ≤ r.toInt → (fi 38).toInt + 1 ≤ lk.toInt)) → Q r (mS b (va_up fi 38 lk) ar)) : w_X12_seek (some b.o) t from_ mask at_ (some (b.a j)) s (mS b fi ar) Q X := by
  simp only [w_X12_seek, mw hb]
  refine s_indexOf hb t mask ht hc (fun k hk0 => ?_)
  refine wLoop_i (fun n v x => ∃ lk, x = mS b (va_up fi 38 lk) ar ∧ mP (ar 11) v ∧ n = mR ρ v ∧ n ≤ mR ρ from_ ∧ (0 ≤ (fi 38).toInt → (fi 38).toInt ≤ 50000 → fi 39 ≠ 0 → (fi 38).toInt ≤ lk.toInt ∧ lk.toInt ≤ 50000)) (mR ρ from_) ⟨fi 38, by rw [va_same], hf, rfl, Nat.le_refl _, fun h1 h2 _ => ⟨Int.le_refl _, h2⟩⟩ ?_
  rintro n v x again ha ⟨lk, rfl, h1, h2, h3, h4⟩
  simp only [wIf]
  refine ⟨fun h5 => hQ _ _ (Or.inl (by decide)) (fun h => absurd h (by decide)) (fun a1 a2 a3 => ?_), fun h5 => ?_⟩
  · obtain ⟨e1, e2⟩ := h4 a1 a2 a3
    exact ⟨e1, by omega, fun h => absurd h (by decide)⟩
  obtain ⟨hv, hu⟩ := mP_in h1 h5
  have hrv : mR ρ v = ρ (ix v) + 1 := by
    unfold mR; rw [if_neg]; simp only [i32, Int32.reduceToInt] at h5; exact h5
  obtain ⟨b1, b2⟩ := mP_behind hL hu
  obtain ⟨t1, t2⟩ := m_tab hL hT h12 hu
  -- going on behind v
  have hgo : ∀ lk2 : Int32, (0 ≤ (fi 38).toInt → (fi 38).toInt ≤ 50000 → fi 39 ≠ 0 → (fi 38).toInt ≤ lk2.toInt ∧ lk2.toInt ≤ 50000) → again (ar 18 (ix v)) (mS b (va_up fi 38 lk2) ar) := fun lk2 h => ha _ _ _ (by omega) ⟨lk2, rfl, b1, rfl, by omega, h⟩
  have h39 : va_up fi 38 (lk + 1) 39 = fi 39 := va_up_ne _ _ (by decide)
  have hlk : 0 ≤ (fi 38).toInt → (fi 38).toInt ≤ 50000 → fi 39 ≠ 0 → (lk + 1).toInt = lk.toInt + 1 := fun a1 a2 a3 => by
    obtain ⟨e1, e2⟩ := h4 a1 a2 a3
    simp only [i32, Int32.reduceToInt]; omega
  have hck : (lk + 1 ≤ 50000 → again (ar 18 (ix v)) (mS b (va_up fi 38 (lk + 1)) ar)) ∧ (¬ lk + 1 ≤ 50000 → (fi 39 = 0 → again (ar 18 (ix v)) (mS b (va_up fi 38 (lk + 1)) ar)) ∧ (¬ fi 39 = 0 → Q (-1) (mS b (va_up fi 38 (lk + 1)) ar))) := by
    refine ⟨fun q => hgo _ (fun a1 a2 a3 => ?_), fun q => ⟨fun q2 => hgo _ (fun a1 a2 a3 => absurd q2 a3), fun q2 => hQ _ _ (Or.inl (by decide)) (fun h => absurd h (by decide)) (fun a1 a2 a3 => ?_)⟩⟩
    · have := hlk a1 a2 a3
      obtain ⟨e1, e2⟩ := h4 a1 a2 a3
      have q3 : (lk + 1).toInt ≤ (50000 : Int32).toInt := by have := q; rw [Int32.le_iff_toInt_le] at this; exact this
      rw [show (50000 : Int32).toInt = 50000 from by decide] at q3
      omega
    · have := hlk a1 a2 a3
      obtain ⟨e1, e2⟩ := h4 a1 a2 a3
      exact ⟨by omega, by omega, fun h => absurd h (by decide)⟩
  have hfit : ¬ (if ar 15 (ix v) ≤ at_ ∧ (ar 16 (ix v) < 0 ∨ at_ < ar 16 (ix v)) then (1 : Int32) else 0) = 0 → w_X12_fits (some b.o) v mask (some (b.a j)) s (mS b (va_up fi 38 (lk + 1)) ar) (fun v22 x21 => (v22 = 0 → wGetI x21 12 38 (some b.o) fun v19 => (v19 ≤ 50000 → wGetF x21 12 18 (some b.o) fun v9 => wAldJ x21 20 v9 v fun v10 => again v10 x21) ∧ (¬v19 ≤ 50000 → wGetI x21 12 39 (some b.o) fun v20 => (v20 = 0 → wGetF x21 12 18 (some b.o) fun v9 => wAldJ x21 20 v9 v fun v10 => again v10 x21) ∧ (¬v20 = 0 → Q (-1) x21))) ∧ (¬v22 = 0 → Q v x21)) X := by
    intro hth
    refine s_fits hb v mask s j hj hk hv t1 t2 hs hs2 hl (fun r hr => ⟨fun _ => ?_, fun _ => ?_⟩)
    · simp only [mw hb, hv, true_and, va_up_self, h39]
      exact hck
    · refine hQ _ _ h1 (fun _ => ⟨?_, by omega⟩) (fun a1 a2 a3 => ?_)
      · by_cases hz : ar 15 (ix v) ≤ at_ ∧ (ar 16 (ix v) < 0 ∨ at_ < ar 16 (ix v))
        · exact hz
        · rw [if_neg hz] at hth; exact absurd rfl hth
      · have := hlk a1 a2 a3
        obtain ⟨e1, e2⟩ := h4 a1 a2 a3
        exact ⟨by omega, by omega, fun _ => by omega⟩
  have hboth : ((if ar 15 (ix v) ≤ at_ ∧ (ar 16 (ix v) < 0 ∨ at_ < ar 16 (ix v)) then (1 : Int32) else 0) = 0 → _) ∧ _ := ⟨fun _ => hck, hfit⟩
  simp only [wJoin, wIf, mw hb, m_ald hb hj hk, hv, true_and, va_twice, va_up_self, s_isThere hb _ _ hv, h39]
  refine ⟨fun _ => hboth, fun hk1 => ⟨?_, ?_, fun _ => hboth, fun _ => hgo lk h4⟩⟩
  · obtain ⟨f1, f2⟩ := hv
    simp only [wIn, i32, Int32.reduceToInt] at hk1 ⊢; omega
  · simp only [wIn, i32, Int32.reduceToInt] at hk1 ⊢; omega
end S2
