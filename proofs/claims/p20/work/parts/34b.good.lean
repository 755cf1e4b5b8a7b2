set_option linter.unusedVariables false
set_option linter.unusedSimpArgs false
/-! WHAT HOLDS OF THE REFERENCE BETWEEN CALLS, N calls after its making -/
theorem wJoin_i {κ : Type} {K : κ} {B : κ → Prop} (M : κ → Prop) (hK : M K) (hB : ∀ K', M K' → B K') : wJoin K B := hB K hK
def GS (T taped tables kept time marks fm : Int) : Prop := (0 ≤ taped ∧ taped ≤ 400) ∧ (0 ≤ tables ∧ tables ≤ 12) ∧ (0 ≤ kept ∧ kept ≤ 3000) ∧ (0 ≤ time ∧ time ≤ T) ∧ (0 ≤ marks ∧ marks ≤ 8) ∧ 0 ≤ fm ∧ fm ≤ 6000
/-- the times at which facts came and went, all of them different; who stands in for one that went came later -/
def GD (time : Int) (U BO DI SD : Nat → Int32) : Prop := (∀ f, mU U f → 1 ≤ (BO f).toInt ∧ (BO f).toInt ≤ time ∧ ((DI f).toInt = -1 ∨ (BO f).toInt < (DI f).toInt ∧ (DI f).toInt ≤ time) ∧ ((SD f).toInt = f ∨ ∃ g : Nat, mU U g ∧ (SD f).toInt = g ∧ 0 ≤ (DI f).toInt ∧ (DI f).toInt < (BO g).toInt)) ∧
  (∀ f g, mU U f → mU U g → (BO f).toInt = (BO g).toInt → f = g) ∧ (∀ f g, mU U f → mU U g → 0 ≤ (DI f).toInt → (DI f).toInt = (DI g).toInt → f = g) ∧ (∀ f g, mU U f → mU U g → (BO f).toInt ≠ (DI g).toInt)
def GH (time changes marks : Int) (U BO DI CH MK : Nat → Int32) : Prop := 0 < marks → 0 ≤ changes ∧ changes ≤ time ∧ (∀ k : Nat, (k : Int) < changes → (0 ≤ (CH k).toInt ∧ mU U (ix (CH k)) ∧ (BO (ix (CH k))).toInt = time - changes + k + 1) ∨ ∃ f : Nat, mU U f ∧ (CH k).toInt = -1 - f ∧ (DI f).toInt = time - changes + k + 1) ∧ (∀ i : Nat, (i : Int) < marks → 0 ≤ (MK i).toInt ∧ (MK i).toInt ≤ changes) ∧
  changes = cnt (fun f => U f != 0 && decide (time - changes < (BO f).toInt)) 3000 + cnt (fun f => U f != 0 && decide (time - changes < (DI f).toInt)) 3000
def GC (tables : Int) (U OP CT CL : Nat → Int32) : Prop := ∀ c : Nat, c < 10 → OP c ≠ 0 → 0 ≤ (CT c).toInt ∧ (CT c).toInt < tables ∧ mP U (CL c)
def GB (T : Int) (fi : Nat → Int32) (ar : Nat → Nat → Int32) : Prop :=
  GS T (fi 2).toInt (fi 10).toInt (fi 20).toInt (fi 22).toInt (fi 27).toInt (fi 37).toInt ∧ GT (fi 10).toInt (ar 4) (ar 6) ∧ (∃ ρ, GL ρ (fi 10).toInt (fi 20).toInt (ar 11) (ar 12) (ar 17) (ar 18) (ar 7) (ar 8)) ∧
  (fi 20).toInt = cnt (fun f => ar 11 f != 0) 3000 ∧ GD (fi 22).toInt (ar 11) (ar 15) (ar 16) (ar 19) ∧ GH (fi 22).toInt (fi 25).toInt (fi 27).toInt (ar 11) (ar 15) (ar 16) (ar 24) (ar 26) ∧ GC (fi 10).toInt (ar 11) (ar 28) (ar 30) (ar 33)
/-- N calls after its making -/
abbrev G (N : Nat) (fi : Nat → Int32) (ar : Nat → Nat → Int32) : Prop := GB (6001 * N) fi ar
theorem G_up {N : Nat} {fi : Nat → Int32} {ar : Nat → Nat → Int32} (h : G N fi ar) : G (N + 1) fi ar := by
  obtain ⟨⟨h1, h2, h3, h4, h5⟩, h6⟩ := h
  exact ⟨⟨h1, h2, h3, ⟨h4.1, by omega⟩, h5⟩, h6⟩
/-- whatever comes out, as long as it is good and the values are the same -/
def OKQ (b : MT) (N : Nat) (ar : Nat → Nat → Int32) (Q : Int32 → HS → Prop) : Prop := ∀ r fi' ar', G (N + 1) fi' ar' → ar' 3 = ar 3 → Q r (mS b fi' ar')
section S3
variable {b : MT} {fi : Nat → Int32} {ar : Nat → Nat → Int32} {X : String → HS → Prop} {Q : Int32 → HS → Prop} {N : Nat}
theorem s_f0 (hb : MB b) {A B : Int32 → HS → Prop} : w_X12_fails (some b.o) 0 (mS b fi ar) (fun v x => wIf (v = 0) (A v x) (B v x)) X = A 0 (mS b (va_up fi 0 0) ar) := by
  rw [s_fails hb, if_pos rfl]; simp [wIf]
theorem s_fN (hb : MB b) {A B : Int32 → HS → Prop} {v : Int32} (hv : v ≠ 0) : w_X12_fails (some b.o) v (mS b fi ar) (fun v x => wIf (v = 0) (A v x) (B v x)) X = B 1 (mS b (va_up fi 0 v) ar) := by
  rw [s_fails hb, if_neg hv]; simp [wIf]
theorem t_end (hb : MB b) (hG : G N fi ar) (hQ : OKQ b N ar Q) (n : Int32) : w_X12_end (some b.o) n (mS b fi ar) Q X := by
  have hg1 := G_up hG
  simp only [w_X12_end]
  refine wJoin_i (fun K => (∀ v, v ≠ 0 → K v (mS b fi ar)) ∧ (0 ≤ n.toInt → n.toInt ≤ (fi 2).toInt → K 0 (mS b fi ar))) ⟨fun v hv => ?_, fun h1 h2 => ?_⟩ (fun K hK => ?_)
  · simp only [mw hb, s_fN hb hv]
    exact hQ _ _ _ hg1 rfl
  · simp only [mw hb, s_f0 hb]
    refine hQ _ _ _ ?_ rfl
    simp only [G, GB, up2_rs, up2_rn, va_up_self, va_up_ne, ne_eq, Nat.reduceEqDiff, not_false_eq_true] at hg1 ⊢
    obtain ⟨⟨⟨a1, a2⟩, a3⟩, a4⟩ := hg1
    exact ⟨⟨⟨h1, by omega⟩, a3⟩, a4⟩
  · simp only [wJoin, wIf, mw hb]
    have k1 := hK.1 1 (by decide)
    refine ⟨fun _ => k1, fun h1 => ⟨fun h2 => hK.2 ?_ ?_, fun _ => k1⟩⟩
    · simp only [i32, Int32.reduceToInt] at h1; omega
    · simp only [i32] at h2; exact h2
theorem t_value (hb : MB b) (k v : Int32) (h0 : wIn k 4 → Q (ar 3 (ix k)) (mS b (va_up fi 0 0) (up2 ar 3 (ix k) v))) (h1 : ¬ wIn k 4 → Q 0 (mS b (va_up fi 0 1) ar)) : w_X12_value (some b.o) k v (mS b fi ar) Q X := by
  simp only [w_X12_value]
  refine wJoin_i (fun K => (¬ wIn k 4 → K 1 (mS b fi ar)) ∧ (wIn k 4 → K 0 (mS b fi ar))) ⟨fun hv => ?_, fun hv => ?_⟩ (fun K hK => ?_)
  · simp only [mw hb, s_fN hb (show (1 : Int32) ≠ 0 by decide)]
    exact h1 hv
  · simp only [mw hb, s_f0 hb, hv, true_and]
    exact h0 hv
  · simp only [wJoin, wIf, mw hb]
    refine ⟨fun q => hK.1 (fun z => ?_), fun q => ⟨fun q2 => hK.2 ?_, fun q2 => hK.1 (fun z => ?_)⟩⟩
    all_goals (simp only [wIn, i32, Int32.reduceToInt] at *; omega)
theorem m_isT (hb : MB b) {t : Int32} {A B : Int32 → HS → Prop} : w_X12_isTable (some b.o) t (mS b fi ar) (fun v x => wIf (v = 0) (A v x) (B v x)) X = ((¬ (0 ≤ t ∧ t < fi 10) → A 0 (mS b fi ar)) ∧ ((0 ≤ t ∧ t < fi 10) → B 1 (mS b fi ar))) := by
  rw [s_isTable hb]
  by_cases h : 0 ≤ t ∧ t < fi 10
  · simp [h, wIf]
  · rw [if_neg h]; simp [h, wIf]
theorem m_isM (hb : MB b) {t : Int32} {A B : Int32 → HS → Prop} : w_X12_isMask (some b.o) t (mS b fi ar) (fun v x => wIf (v = 0) (A v x) (B v x)) X = ((¬ (0 ≤ t ∧ t ≤ 15) → A 0 (mS b fi ar)) ∧ ((0 ≤ t ∧ t ≤ 15) → B 1 (mS b fi ar))) := by
  rw [s_isMask hb]
  by_cases h : 0 ≤ t ∧ t ≤ 15
  · simp [h, wIf]
  · rw [if_neg h]; simp [h, wIf]
/-- a table's number is in range -/
theorem G_tab (hG : G N fi ar) {t : Int32} (h : 0 ≤ t ∧ t < fi 10) : wIn t 12 ∧ 0 ≤ t.toInt ∧ t.toInt < (fi 10).toInt ∧ ((ix t : Nat) : Int) < (fi 10).toInt ∧ (ar 4 (ix t)).toInt ≤ 4 ∧ 1 ≤ (ar 4 (ix t)).toInt := by
  obtain ⟨⟨-, h2, -⟩, hT, -⟩ := hG
  simp only [i32, Int32.reduceToInt] at h
  have hi : ((ix t : Nat) : Int) = t.toInt := ix_int h.1
  have := hT (ix t) (by omega)
  exact ⟨⟨h.1, by omega⟩, h.1, h.2, by omega, this.2.1, this.1⟩
theorem t_table (hb : MB b) (hG : G N fi ar) (hQ : OKQ b N ar Q) (n : Int32) : w_X12_table (some b.o) n (mS b fi ar) Q X := by
  have hg1 := G_up hG
  have k1 : ∀ v : Int32, v ≠ 0 → _ := fun v hv => hQ 0 (va_up fi 0 v) ar hg1 rfl
  simp only [w_X12_table]
  refine wJoin_i (fun K => (∀ v, v ≠ 0 → K v (mS b fi ar)) ∧ (1 ≤ n.toInt → n.toInt ≤ 4 → fi 10 ≠ 12 → K 0 (mS b fi ar))) ⟨fun v hv => ?_, fun h1 h2 h3 => ?_⟩ (fun K hK => ?_)
  · simp only [mw hb, s_fN hb hv]
    exact k1 v hv
  · obtain ⟨⟨a1, a2, a3⟩, hT, ⟨ρ, hL⟩, hK, hD, hH, hC⟩ := hg1
    have h10 : (fi 10).toInt < 12 := by
      have : (fi 10).toInt ≠ 12 := fun z => h3 (i_ext (by rw [z]; decide))
      omega
    have hix : ((ix (fi 10) : Nat) : Int) = (fi 10).toInt := ix_int a2.1
    have hin : wIn (fi 10) 12 := ⟨a2.1, by omega⟩
    have hnew : (fi 10 + 1).toInt = (fi 10).toInt + 1 := by simp only [i32, Int32.reduceToInt]; omega
    have e10 : va_up fi 0 0 10 = fi 10 := va_up_ne _ _ (by decide)
    simp only [mw hb, s_f0 hb, e10, hin, true_and]
    refine hQ _ _ _ ?_ (by simp only [up2_rn, ne_eq, Nat.reduceEqDiff, not_false_eq_true])
    simp only [G, GB, up2_rs, up2_rn, va_up_self, va_up_ne, ne_eq, Nat.reduceEqDiff, not_false_eq_true]
    refine ⟨⟨a1, ⟨by omega, by omega⟩, a3⟩, ?_, ⟨ρ, ?_⟩, hK, hD, hH, ?_⟩
    · intro t ht
      by_cases hq : t = ix (fi 10)
      · subst hq
        rw [va_up_self, va_up_self]
        exact ⟨h1, h2, by decide, by decide⟩
      · rw [va_up_ne _ _ hq, va_up_ne _ _ hq]
        exact hT t (by omega)
    · obtain ⟨l1, l2, l3⟩ := hL
      refine ⟨fun f hf => ?_, l2, fun t ht => ?_⟩
      · obtain ⟨c1, c2, c3, c4, c5⟩ := l1 f hf
        have hi : ((ix (ar 12 f) : Nat) : Int) = (ar 12 f).toInt := ix_int c1
        have hq : ix (ar 12 f) ≠ ix (fi 10) := fun z => by omega
        refine ⟨c1, by omega, c3, ?_, ?_⟩
        · rcases c4 with ⟨d1, d2⟩ | d
          · exact Or.inl ⟨d1, by rw [va_up_ne _ _ hq]; exact d2⟩
          · exact Or.inr d
        · rcases c5 with ⟨d1, d2⟩ | d
          · exact Or.inl ⟨d1, by rw [va_up_ne _ _ hq]; exact d2⟩
          · exact Or.inr d
      · by_cases hq : t = ix (fi 10)
        · subst hq
          refine ⟨Or.inl (by rw [va_up_self]; decide), Or.inl (by rw [va_up_self]; decide), by rw [va_up_self, va_up_self]⟩
        · obtain ⟨c1, c2, c3⟩ := l3 t (by omega)
          unfold mFI at c1 c2 ⊢
          rw [va_up_ne _ _ hq, va_up_ne _ _ hq]
          exact ⟨c1, c2, c3⟩
    · intro c hc ho
      obtain ⟨d1, d2, d3⟩ := hC c hc ho
      exact ⟨d1, by omega, d3⟩
  · simp only [wJoin, wIf, mw hb]
    have k1 := hK.1 1 (by decide)
    refine ⟨fun _ => k1, fun h1 => ⟨fun h2 => ⟨fun _ => hK.1 2 (by decide), fun h3 => hK.2 ?_ ?_ h3⟩, fun _ => k1⟩⟩
    · simp only [i32, Int32.reduceToInt] at h1; omega
    · simp only [i32, Int32.reduceToInt] at h2; omega
end S3
