set_option linter.unusedVariables false
set_option linter.unusedSimpArgs false
/-! reading a question -/
/-- the place is in the tape's part that is read -/
def AT (fi : Nat → Int32) : Prop := 0 ≤ (fi 41).toInt ∧ (fi 41).toInt ≤ (fi 40).toInt ∧ (fi 40).toInt ≤ 400
def OKp (ar : Nat → Nat → Int32) (p : Nat) : Prop := ar 46 p = 1 → 0 ≤ (ar 47 p).toInt ∧ (ar 47 p).toInt < 8
section S13
variable {b : MT} {fi : Nat → Int32} {ar : Nat → Nat → Int32} {X : String → HS → Prop} {Q : Int32 → HS → Prop}
theorem s_byteAt (hb : MB b) (i : Int32) (h0 : 0 ≤ i.toInt) (h4 : (fi 40).toInt ≤ 400) (hQ : ∀ r : Int32, (r ≠ -1 → i.toInt < (fi 40).toInt) → Q r (mS b fi ar)) : w_X12_byteAt (some b.o) i (mS b fi ar) Q X := by
  simp only [w_X12_byteAt, wJoin, wIf, mw hb]
  refine ⟨fun _ => hQ _ (fun z => absurd rfl z), fun h => ?_⟩
  have h1 : i.toInt < (fi 40).toInt := by simp only [i32] at h; omega
  exact ⟨⟨h0, by omega⟩, hQ _ (fun _ => h1)⟩
theorem s_isDigit (hb : MB b) (c : Int32) (hQ : ∀ r, (r = 0 ∨ r = 1) → (r ≠ 0 → c ≠ -1) → Q r (mS b fi ar)) : w_X12_isDigit (some b.o) c (mS b fi ar) Q X := by
  simp only [w_X12_isDigit, wJoin, wIf, wBit0, wBit1]
  have q0 := hQ 0 (Or.inl rfl) (fun z => absurd rfl z)
  refine ⟨fun _ => q0, fun h => ⟨fun _ => q0, fun _ => hQ 1 (Or.inr rfl) (fun _ z => ?_)⟩⟩
  rw [z] at h; exact h (by decide)
theorem s_blanks (hb : MB b) {Q : HS → Prop} (hA : AT fi) (hQ : ∀ a : Int32, (fi 41).toInt ≤ a.toInt → a.toInt ≤ (fi 40).toInt → Q (mS b (va_up fi 41 a) ar)) : w_X12_blanks (some b.o) (mS b fi ar) Q X := by
  obtain ⟨a1, a2, a3⟩ := hA
  simp only [w_X12_blanks]
  refine wLoop_i (fun n _ x => ∃ a : Int32, x = mS b (va_up fi 41 a) ar ∧ (fi 41).toInt ≤ a.toInt ∧ a.toInt ≤ (fi 40).toInt ∧ n = ((fi 40).toInt - a.toInt).toNat) _ ⟨fi 41, by rw [va_same], Int.le_refl _, a2, rfl⟩ ?_
  rintro n _ x again ha ⟨a, rfl, p1, p2, p3⟩
  have e40 : va_up fi 41 a 40 = fi 40 := va_up_ne _ _ (by decide)
  simp only [mw hb, va_up_self]
  refine s_byteAt hb a (by omega) (by rw [e40]; exact a3) (fun r hr => ⟨fun q => ?_, fun _ => hQ a p1 p2⟩)
  rw [e40] at hr
  have h1 := hr (by rw [q]; decide)
  have h2 : (a + 1).toInt = a.toInt + 1 := i_add rfl (by decide) (by omega)
  simp only [mw hb, va_up_self, va_twice]
  exact ha _ _ _ (by omega) ⟨a + 1, rfl, by omega, by omega, rfl⟩
theorem s_take (hb : MB b) (c : Int32) (hc : c ≠ -1) (hA : AT fi) (hQ : ∀ r a : Int32, (r = 0 ∨ r = 1) → (fi 41).toInt ≤ a.toInt → a.toInt ≤ (fi 40).toInt → Q r (mS b (va_up fi 41 a) ar)) : w_X12_take (some b.o) c (mS b fi ar) Q X := by
  simp only [w_X12_take, m_recv hb]
  refine s_blanks hb hA (fun a h1 h2 => ?_)
  obtain ⟨a1, a2, a3⟩ := hA
  have e40 : va_up fi 41 a 40 = fi 40 := va_up_ne _ _ (by decide)
  simp only [mw hb, va_up_self]
  refine s_byteAt hb a (by omega) (by rw [e40]; exact a3) (fun r hr => ⟨fun q => ?_, fun _ => ?_⟩)
  · rw [e40] at hr
    have h3 := hr (by rw [q]; exact hc)
    have h4 : (a + 1).toInt = a.toInt + 1 := i_add rfl (by decide) (by omega)
    simp only [mw hb, va_up_self, va_twice, wBit1]
    exact hQ _ _ (Or.inr rfl) (by omega) (by omega)
  · rw [wBit0]; exact hQ _ _ (Or.inl rfl) h1 h2
theorem s_digits (hb : MB b) (i : Int32) (h0 : 0 ≤ i.toInt) (h9 : i.toInt ≤ 1000) (h4 : (fi 40).toInt ≤ 400) (hQ : ∀ n : Int32, 0 ≤ n.toInt → (0 < n.toInt → i.toInt + n.toInt ≤ (fi 40).toInt) → Q n (mS b fi ar)) : w_X12_digits (some b.o) i (mS b fi ar) Q X := by
  simp only [w_X12_digits]
  refine wLoop_i (fun n v x => x = mS b fi ar ∧ i.toInt ≤ v.toInt ∧ (i.toInt < v.toInt → v.toInt ≤ (fi 40).toInt) ∧ n = ((fi 40).toInt - v.toInt).toNat) _ ⟨rfl, Int.le_refl _, fun h => by omega, rfl⟩ ?_
  rintro n v x again ha ⟨rfl, p1, p2, p3⟩
  rw [m_recv hb]
  refine s_byteAt hb v (by omega) h4 (fun r hr => ?_)
  rw [m_recv hb]
  refine s_isDigit hb r (fun d hd hd2 => ⟨fun _ => ?_, fun hz => ?_⟩)
  · have : (v - i).toInt = v.toInt - i.toInt := i_sub rfl rfl (by by_cases q : i.toInt < v.toInt <;> omega)
    exact hQ _ (by omega) (fun _ => by omega)
  · have h1 := hr (hd2 hz)
    have h2 : (v + 1).toInt = v.toInt + 1 := i_add rfl (by decide) (by omega)
    exact ha _ _ _ (by omega) ⟨rfl, by omega, fun _ => by omega, rfl⟩
/-- only the place and the number read have changed -/
def FQ (fi fi' : Nat → Int32) : Prop := (∀ j, j ≠ 41 → j ≠ 42 → j ≠ 43 → fi' j = fi j) ∧ 0 ≤ (fi' 41).toInt ∧ (fi' 41).toInt ≤ (fi 40).toInt
theorem FQ_AT {fi' : Nat → Int32} (h : FQ fi fi') (hA : AT fi) : AT fi' := by
  have e := h.1 40 (by decide) (by decide) (by decide)
  exact ⟨h.2.1, by rw [e]; exact h.2.2, by rw [e]; exact hA.2.2⟩
theorem FQ_trans {f1 f2 f3 : Nat → Int32} (h : FQ f1 f2) (h2 : FQ f2 f3) : FQ f1 f3 := ⟨fun j j1 j2 j3 => by rw [h2.1 j j1 j2 j3, h.1 j j1 j2 j3], h2.2.1, by have e := h.1 40 (by decide) (by decide) (by decide); rw [← e]; exact h2.2.2⟩
theorem FQ_at {a : Int32} (h0 : 0 ≤ a.toInt) (h1 : a.toInt ≤ (fi 40).toInt) : FQ fi (va_up fi 41 a) := ⟨fun j j1 j2 j3 => va_up_ne _ _ j1, by rw [va_up_self]; exact h0, by rw [va_up_self]; exact h1⟩
theorem FQ_rf (hA : AT fi) : FQ fi fi := ⟨fun _ _ _ _ => rfl, hA.1, hA.2.1⟩
theorem s_digits0 (hb : MB b) (hA : AT fi) (hQ : ∀ (r : Int32) (fi' : Nat → Int32), (r = 0 ∨ r = 1) → FQ fi fi' → Q r (mS b fi' ar)) : w_X12_digits0 (some b.o) (mS b fi ar) Q X := by
  obtain ⟨a1, a2, a3⟩ := id hA
  simp only [w_X12_digits0, mw hb]
  refine s_byteAt hb _ a1 a3 (fun r hr => ?_)
  refine wJoin_i (fun K => ∀ less : Int32, (less ≠ 0 → (fi 41).toInt < (fi 40).toInt) → K less (mS b fi ar)) (fun less hl => ?_) (fun K hK => ⟨fun q => hK 1 (fun _ => hr (by rw [q]; decide)), fun _ => hK 0 (fun z => absurd rfl z)⟩)
  refine wJoin_i (fun K => ∀ from_ : Int32, 0 ≤ from_.toInt → from_.toInt ≤ (fi 40).toInt → K from_ (mS b fi ar)) (fun from_ f0 f1 => ?_) (fun K hK => ?_)
  · rw [m_recv hb]
    refine s_digits hb from_ f0 (by omega) a3 (fun n n0 n1 => ?_)
    refine wJoin_i (fun K => K (mS b fi ar)) (by rw [wBit0]; exact hQ _ _ (Or.inl rfl) (FQ_rf hA)) (fun K hK => ?_)
    refine ⟨fun _ => hK, fun h1 => ⟨fun h2 => ?_, fun _ => hK⟩⟩
    have h3 : 1 ≤ n.toInt := by simp only [i32, Int32.reduceToInt] at h1; omega
    have h4 := n1 (by omega)
    have h5 : (from_ + n).toInt = from_.toInt + n.toInt := i_add rfl rfl (by omega)
    refine wLoop_i (fun m v x => x = mS b fi ar ∧ from_.toInt ≤ v.2.toInt ∧ v.2.toInt ≤ from_.toInt + n.toInt ∧ m = (from_.toInt + n.toInt - v.2.toInt).toNat) _ ⟨rfl, Int.le_refl _, by show from_.toInt ≤ _; omega, rfl⟩ ?_
    rintro m v x again ha ⟨rfl, p1, p2, p3⟩
    refine ⟨fun _ => ?_, fun h6 => ?_⟩
    · refine wJoin_i (fun K => ∀ w, K w (mS b fi ar)) (fun w => ?_) (fun K hK => ⟨fun _ => hK _, fun _ => hK _⟩)
      simp only [mw hb, wBit1]
      refine hQ _ _ (Or.inr rfl) ⟨fun j j1 j2 j3 => by rw [va_up_ne _ _ j1, va_up_ne _ _ j3], ?_, ?_⟩
      · rw [va_up_self]; omega
      · rw [va_up_self]; omega
    · have h7 : v.2.toInt < from_.toInt + n.toInt := by
        have h6' : ¬ (from_ + n).toInt ≤ v.2.toInt := by simp only [Int32.le_iff_toInt_le] at h6; exact h6
        omega
      rw [m_recv hb]
      refine s_byteAt hb v.2 (by omega) a3 (fun r2 _ => ?_)
      have h8 : (v.2 + 1).toInt = v.2.toInt + 1 := i_add rfl (by decide) (by omega)
      exact ha (from_.toInt + n.toInt - (v.2 + 1).toInt).toNat _ _ (by omega) ⟨rfl, by show from_.toInt ≤ (v.2 + 1).toInt; omega, by show (v.2 + 1).toInt ≤ _; omega, rfl⟩
  · simp only [wIf, mw hb]
    refine ⟨fun _ => hK _ a1 a2, fun q => ?_⟩
    have := hl q
    have h8 : (fi 41 + 1).toInt = (fi 41).toInt + 1 := i_add rfl (by decide) (by omega)
    exact hK _ (by omega) (by omega)
theorem s_wrong (hb : MB b) (w : Int32) (hA : AT fi) (hQ : ∀ fi' : Nat → Int32, FQ fi fi' → Q 0 (mS b fi' ar)) : w_X12_wrong (some b.o) w (mS b fi ar) Q X := by
  simp only [w_X12_wrong, wJoin, wIf, mw hb, wBit0]
  have hq : ∀ v : Int32, Q 0 (mS b (va_up fi 42 v) ar) := fun v => hQ _ ⟨fun j j1 j2 j3 => va_up_ne _ _ j2, by rw [va_up_ne _ _ (by decide)]; exact hA.1, by rw [va_up_ne _ _ (by decide)]; exact hA.2.1⟩
  exact ⟨fun _ => hq _, fun _ => hq _⟩
/-- what was read of one argument, at the place p alone -/
def AQ (p : Nat) (ar ar' : Nat → Nat → Int32) : Prop := (∀ j, j ≠ 46 → j ≠ 47 → ar' j = ar j) ∧ ∀ q, q ≠ p → ar' 46 q = ar 46 q ∧ ar' 47 q = ar 47 q
theorem s_argument (hb : MB b) (p any : Int32) (hp : wIn p 55) (hA : AT fi) (hQ : ∀ (r : Int32) (fi' : Nat → Int32) (ar' : Nat → Nat → Int32), (r = 0 ∨ r = 1) → FQ fi fi' → AQ (ix p) ar ar' → (r = 1 → OKp ar' (ix p)) → Q r (mS b fi' ar')) : w_X12_argument (some b.o) p any (mS b fi ar) Q X := by
  simp only [w_X12_argument, m_recv hb]
  refine s_blanks hb hA (fun a h1 h2 => ?_)
  have hF : FQ fi (va_up fi 41 a) := FQ_at (by have := hA.1; omega) h2
  have hA1 := FQ_AT hF hA
  obtain ⟨a1, a2, a3⟩ := hA
  have e40 : va_up fi 41 a 40 = fi 40 := va_up_ne _ _ (by decide)
  have hrf : AQ (ix p) ar ar := ⟨fun _ _ _ => rfl, fun _ _ => ⟨rfl, rfl⟩⟩
  have hset : ∀ s v : Int32, AQ (ix p) ar (up2 (up2 ar 46 (ix p) s) 47 (ix p) v) := fun s v => ⟨fun j j1 j2 => by rw [up2_rn _ _ _ j2, up2_rn _ _ _ j1], fun q hq => by
    simp only [up2_rs, up2_rn, ne_eq, Nat.reduceEqDiff, not_false_eq_true]
    rw [va_up_ne _ _ hq, va_up_ne _ _ hq]; exact ⟨rfl, rfl⟩⟩
  rw [m_getI hb, va_up_self, m_recv hb]
  refine s_byteAt hb a (by omega) (by rw [e40]; exact a3) (fun c hc => ?_)
  rw [e40] at hc
  have hnext : c ≠ -1 → (a + 1).toInt = a.toInt + 1 ∧ FQ fi (va_up fi 41 (a + 1)) := fun z => by
    have h3 := hc z
    have h4 : (a + 1).toInt = a.toInt + 1 := i_add rfl (by decide) (by omega)
    exact ⟨h4, FQ_at (by omega) (by omega)⟩
  have h0 : Q 0 (mS b (va_up fi 41 a) ar) := hQ _ _ _ (Or.inl rfl) hF hrf (fun z => absurd z (by decide))
  refine wJoin_i (fun K => K (mS b (va_up fi 41 a) ar)) ?_ (fun K hK => ?_)
  · refine wJoin_i (fun K => K (mS b (va_up fi 41 a) ar)) ?_ (fun K hK => ?_)
    · refine wJoin_i (fun K => ∀ fi', FQ fi fi' → K (mS b fi' ar)) (fun fi' hf => by rw [wBit0]; exact hQ _ _ _ (Or.inl rfl) hf hrf (fun z => absurd z (by decide))) (fun K hK => ?_)
      refine wJoin_i (fun K2 => K2 (mS b (va_up fi 41 a) ar)) ?_ (fun K2 hK2 => ⟨fun _ => hK2, fun _ => ?_⟩)
      · rw [m_recv hb]
        refine s_digits0 hb hA1 (fun r fi' hr hf => ⟨fun _ => hK _ (FQ_trans hF hf), fun _ => ?_⟩)
        simp only [mw hb, hp, true_and, wBit1]
        refine hQ _ _ _ (Or.inr rfl) (FQ_trans hF hf) (hset _ _) (fun _ => ?_)
        unfold OKp
        simp only [up2_rs, up2_rn, ne_eq, Nat.reduceEqDiff, not_false_eq_true, va_up_self]
        intro z; exact absurd z (by decide)
      · rw [m_recv hb]
        exact s_isDigit hb c (fun r _ _ => ⟨fun _ => hK _ hF, fun _ => hK2⟩)
    · refine ⟨fun _ => hK, fun _ => ⟨fun q => ?_, fun _ => hK⟩⟩
      obtain ⟨n1, n2⟩ := hnext (by rw [q]; decide)
      simp only [mw hb, hp, true_and, wBit1, va_up_self, va_twice]
      refine hQ _ _ _ (Or.inr rfl) n2 (hset _ _) (fun _ => ?_)
      unfold OKp
      simp only [up2_rs, up2_rn, ne_eq, Nat.reduceEqDiff, not_false_eq_true, va_up_self]
      intro z; exact absurd z (by decide)
  · refine ⟨fun _ => hK, fun q1 => ⟨fun _ => hK, fun q2 => ?_⟩⟩
    have c1 : 65 ≤ c.toInt ∧ c.toInt ≤ 72 := by simp only [i32, Int32.reduceToInt] at q1 q2; omega
    obtain ⟨n1, n2⟩ := hnext (fun z => by rw [z] at c1; exact absurd c1 (by decide))
    simp only [mw hb, hp, true_and, wBit1, va_up_self, va_twice]
    refine hQ _ _ _ (Or.inr rfl) n2 (hset _ _) (fun _ => ?_)
    unfold OKp
    simp only [up2_rs, up2_rn, ne_eq, Nat.reduceEqDiff, not_false_eq_true, va_up_self]
    intro _
    have : (c - 65).toInt = c.toInt - 65 := i_sub rfl (by decide) (by omega)
    omega
end S13
