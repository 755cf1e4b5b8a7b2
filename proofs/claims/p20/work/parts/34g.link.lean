set_option linter.unusedVariables false
set_option linter.unusedSimpArgs false
section S8
variable {b : MT} {fi : Nat → Int32} {ar : Nat → Nat → Int32} {X : String → HS → Prop} {N : Nat}
/-- the rows after a link -/
theorem s_linkF (hb : MB b) {Q : HS → Prop} (f ah : Int32) (hf : wIn f 3000) (ht : wIn (ar 12 (ix f)) 12) (ha : ah.toInt = -1) (hp : mP (ar 11) (ar 7 (ix (ar 12 (ix f)))))
    (hQ : ∀ ar2 : Nat → Nat → Int32, (∀ j, j ≠ 17 → j ≠ 18 → j ≠ 7 → j ≠ 8 → ar2 j = ar j) → ar2 17 = (if (ar 7 (ix (ar 12 (ix f)))).toInt < 0 then va_up (ar 17) (ix f) ah else va_up (va_up (ar 17) (ix f) ah) (ix (ar 7 (ix (ar 12 (ix f))))) f) → ar2 18 = va_up (ar 18) (ix f) (ar 7 (ix (ar 12 (ix f)))) → ar2 7 = va_up (ar 7) (ix (ar 12 (ix f))) f → ar2 8 = (if (ar 7 (ix (ar 12 (ix f)))).toInt < 0 then va_up (ar 8) (ix (ar 12 (ix f))) f else ar 8) → Q (mS b fi ar2)) : w_X12_link (some b.o) f ah (mS b fi ar) Q X := by
  have hn : ¬ (0 : Int32) ≤ ah := by simp only [i32, Int32.reduceToInt]; omega
  simp only [w_X12_link, wJoin, wIf, mw hb, hf, ht, true_and, hn, false_imp_iff, not_false_eq_true, true_imp_iff, up2_rn, up2_rs, va_up_self, ne_eq, Nat.reduceEqDiff]
  generalize he : ar 7 (ix (ar 12 (ix f))) = e at *
  refine ⟨fun h => ?_, fun h => ?_⟩
  · have h' : ¬ e.toInt < 0 := by simp only [i32, Int32.reduceToInt] at h; omega
    obtain ⟨z1, -⟩ := mP_in hp (by simp only [i32, Int32.reduceToInt]; omega)
    refine ⟨z1, hQ _ ?_ ?_ ?_ ?_ ?_⟩
    · intro j j1 j2 j3 j4
      rw [up2_rn _ _ _ j1, up2_rn _ _ _ j3, up2_rn _ _ _ j2, up2_rn _ _ _ j1]
    · rw [if_neg h']; simp only [up2_rs, up2_rn, ne_eq, Nat.reduceEqDiff, not_false_eq_true]
    · simp only [up2_rs, up2_rn, ne_eq, Nat.reduceEqDiff, not_false_eq_true]
    · simp only [up2_rs, up2_rn, ne_eq, Nat.reduceEqDiff, not_false_eq_true]
    · rw [if_neg h']; simp only [up2_rs, up2_rn, ne_eq, Nat.reduceEqDiff, not_false_eq_true]
  · have h' : e.toInt < 0 := by simp only [i32, Int32.reduceToInt] at h; omega
    refine hQ _ ?_ ?_ ?_ ?_ ?_
    · intro j j1 j2 j3 j4
      rw [up2_rn _ _ _ j4, up2_rn _ _ _ j3, up2_rn _ _ _ j2, up2_rn _ _ _ j1]
    · rw [if_pos h']; simp only [up2_rs, up2_rn, ne_eq, Nat.reduceEqDiff, not_false_eq_true]
    · simp only [up2_rs, up2_rn, ne_eq, Nat.reduceEqDiff, not_false_eq_true]
    · simp only [up2_rs, up2_rn, ne_eq, Nat.reduceEqDiff, not_false_eq_true]
    · rw [if_pos h']; simp only [up2_rs, up2_rn, ne_eq, Nat.reduceEqDiff, not_false_eq_true]
theorem s_linkA (hb : MB b) {Q : HS → Prop} (f ah : Int32) (hf : wIn f 3000) (ht : wIn (ar 12 (ix f)) 12) (ha : wIn ah 3000) (hne : ix f ≠ ix ah) (hp : mP (ar 11) (ar 18 (ix ah)))
    (hQ : ∀ ar2 : Nat → Nat → Int32, (∀ j, j ≠ 17 → j ≠ 18 → j ≠ 7 → j ≠ 8 → ar2 j = ar j) → ar2 17 = (if (ar 18 (ix ah)).toInt < 0 then va_up (ar 17) (ix f) ah else va_up (va_up (ar 17) (ix f) ah) (ix (ar 18 (ix ah))) f) → ar2 18 = va_up (va_up (ar 18) (ix f) (ar 18 (ix ah))) (ix ah) f → ar2 7 = ar 7 → ar2 8 = (if (ar 18 (ix ah)).toInt < 0 then va_up (ar 8) (ix (ar 12 (ix f))) f else ar 8) → Q (mS b fi ar2)) : w_X12_link (some b.o) f ah (mS b fi ar) Q X := by
  have hn : (0 : Int32) ≤ ah := by have := ha.1; simp only [i32, Int32.reduceToInt]; omega
  simp only [w_X12_link, wJoin, wIf, mw hb, hf, ht, ha, true_and, hn, not_true_eq_false, false_imp_iff, not_false_eq_true, true_imp_iff, and_true, up2_rn, up2_rs, va_up_self, va_up_ne _ _ hne, ne_eq, Nat.reduceEqDiff]
  generalize he : ar 18 (ix ah) = e at *
  refine ⟨fun h => ?_, fun h => ?_⟩
  · have h' : ¬ e.toInt < 0 := by simp only [i32, Int32.reduceToInt] at h; omega
    obtain ⟨z1, -⟩ := mP_in hp (by simp only [i32, Int32.reduceToInt]; omega)
    refine ⟨z1, hQ _ ?_ ?_ ?_ ?_ ?_⟩
    · intro j j1 j2 j3 j4
      rw [up2_rn _ _ _ j1, up2_rn _ _ _ j2, up2_rn _ _ _ j2, up2_rn _ _ _ j1]
    · rw [if_neg h']; simp only [up2_rs, up2_rn, ne_eq, Nat.reduceEqDiff, not_false_eq_true]
    · simp only [up2_rs, up2_rn, ne_eq, Nat.reduceEqDiff, not_false_eq_true]
    · simp only [up2_rs, up2_rn, ne_eq, Nat.reduceEqDiff, not_false_eq_true]
    · rw [if_neg h']; simp only [up2_rs, up2_rn, ne_eq, Nat.reduceEqDiff, not_false_eq_true]
  · have h' : e.toInt < 0 := by simp only [i32, Int32.reduceToInt] at h; omega
    refine hQ _ ?_ ?_ ?_ ?_ ?_
    · intro j j1 j2 j3 j4
      rw [up2_rn _ _ _ j4, up2_rn _ _ _ j2, up2_rn _ _ _ j2, up2_rn _ _ _ j1]
    · rw [if_pos h']; simp only [up2_rs, up2_rn, ne_eq, Nat.reduceEqDiff, not_false_eq_true]
    · simp only [up2_rs, up2_rn, ne_eq, Nat.reduceEqDiff, not_false_eq_true]
    · simp only [up2_rs, up2_rn, ne_eq, Nat.reduceEqDiff, not_false_eq_true]
    · rw [if_pos h']; simp only [up2_rs, up2_rn, ne_eq, Nat.reduceEqDiff, not_false_eq_true]
/-- one goes -/
theorem s_go (hb : MB b) {T : Int} {Q : HS → Prop} (hG : GB T fi ar) (hT : T < 2000000000) (f : Int32) (hf : wIn f 3000) (hu : mU (ar 11) (ix f)) (hd : (ar 16 (ix f)).toInt = -1)
    (hQ : ∀ fi' ar', GB (T + 1) fi' ar' → (∀ j, j ≠ 16 → j ≠ 24 → ar' j = ar j) → (∀ j, j ≠ 22 → j ≠ 25 → fi' j = fi j) → ar' 16 = va_up (ar 16) (ix f) (fi 22 + 1) → fi' 22 = fi 22 + 1 → ((fi 27).toInt = 0 → fi' 25 = fi 25) → ((fi 27).toInt ≠ 0 → fi' 25 = fi 25 + 1) → (∀ k : Nat, ((fi 27).toInt ≠ 0 → (k : Int) < (fi 25).toInt) → ar' 24 k = ar 24 k) → Q (mS b fi' ar')) : w_X12_go (some b.o) f (mS b fi ar) Q X := by
  obtain ⟨⟨a1, a2, a3, a4, a5, a6⟩, hTb, hL, hK0, hD, hH, hC⟩ := id hG
  have htm : (fi 22 + 1).toInt = (fi 22).toInt + 1 := i_add rfl (by decide) (by omega)
  have e27 : va_up fi 22 (fi 22 + 1) 27 = fi 27 := rfl
  have e25 : va_up fi 22 (fi 22 + 1) 25 = fi 25 := rfl
  have h27 : fi 27 ≠ 0 → 0 < (fi 27).toInt := fun h => by
    have : (fi 27).toInt ≠ 0 := fun z => h (i_ext (by rw [z]; decide))
    omega
  simp only [w_X12_go, mw hb, hf, true_and, va_up_self]
  have hi : ((ix f : Nat) : Int) = f.toInt := ix_int hf.1
  have hw : ((-1 : Int32) - f).toInt = -1 - (ix f : Nat) := by
    rw [hi]; exact i_sub (by decide) rfl (by have := hf.1; have := hf.2; omega)
  refine s_note hb _ (fun h => ?_) (fun h => ?_) (fun h => ?_)
  · have := GH_ch hH (h27 h)
    exact ⟨this.1, by rw [e25]; omega⟩
  · have h0 : (fi 27).toInt = 0 := by rw [← e27, h]; decide
    refine hQ _ _ ?_ (fun j j1 j2 => up2_rn _ _ _ j1) (fun j j1 j2 => va_up_ne _ _ j1) (up2_rs _ _ _ _) (va_up_self _ _ _) (fun _ => rfl) (fun z => absurd h0 z) (fun k z => by rw [up2_rn _ _ _ (by decide)])
    simp only [GB, up2_rs, up2_rn, va_up_self, va_up_ne, ne_eq, Nat.reduceEqDiff, not_false_eq_true]
    refine ⟨⟨a1, a2, a3, ⟨by omega, by omega⟩, a5, a6⟩, hTb, hL, hK0, ?_, fun z => by omega, hC⟩
    rw [htm]; exact GD_go hD hu hd htm
  · have h0 := h27 h
    have hc := GH_ch hH h0
    have hcc : (fi 25 + 1).toInt = (fi 25).toInt + 1 := i_add rfl (by decide) (by omega)
    have hix : ((ix (fi 25) : Nat) : Int) = (fi 25).toInt := ix_int hc.1
    refine hQ _ _ ?_ (fun j j1 j2 => by rw [up2_rn _ _ _ j2, up2_rn _ _ _ j1]) (fun j j1 j2 => by rw [va_up_ne _ _ j2, va_up_ne _ _ j1]) (by simp only [up2_rs, up2_rn, ne_eq, Nat.reduceEqDiff, not_false_eq_true]) (by simp only [va_up_self, va_up_ne, ne_eq, Nat.reduceEqDiff, not_false_eq_true]) (fun z => by omega) (fun _ => by rw [va_up_self, e25]) (fun k hk => by have := hk (by omega); rw [up2_rs, up2_rn _ _ _ (by decide), va_up_ne]; rw [e25]; omega)
    simp only [GB, up2_rs, up2_rn, va_up_self, va_up_ne, ne_eq, Nat.reduceEqDiff, not_false_eq_true]
    refine ⟨⟨a1, a2, a3, ⟨by omega, by omega⟩, a5, a6⟩, hTb, hL, hK0, ?_, ?_, hC⟩
    · rw [htm]; exact GD_go hD hu hd htm
    · rw [htm, hcc]; exact GH_go hH h0 hu hd htm hw hix
/-- one comes, not yet linked -/
theorem s_fresh (hb : MB b) {T : Int} {Q : Int32 → HS → Prop} (hG : GB T fi ar) (hT : T < 2000000000) (hk : (fi 20).toInt < 3000) (t : Int32)
    (hQ : ∀ r fi' ar', wIn r 3000 → ar 11 (ix r) = 0 → (∀ j, j ≠ 11 → j ≠ 12 → j ≠ 14 → j ≠ 15 → j ≠ 16 → j ≠ 19 → j ≠ 24 → ar' j = ar j) → ar' 11 = va_up (ar 11) (ix r) 1 → ar' 12 = va_up (ar 12) (ix r) t → ar' 15 = va_up (ar 15) (ix r) (fi 22 + 1) → ar' 16 = va_up (ar 16) (ix r) (-1) → ar' 19 = va_up (ar 19) (ix r) r → (∀ j, j ≠ 20 → j ≠ 21 → j ≠ 22 → j ≠ 25 → fi' j = fi j) → fi' 20 = fi 20 + 1 → fi' 22 = fi 22 + 1 →
      GD ((fi 22).toInt + 1) (ar' 11) (ar' 15) (ar' 16) (ar' 19) → GH ((fi 22).toInt + 1) (fi' 25).toInt (fi 27).toInt (ar' 11) (ar' 15) (ar' 16) (ar' 24) (ar 26) → ((fi 27).toInt = 0 → fi' 25 = fi 25) → ((fi 27).toInt ≠ 0 → fi' 25 = fi 25 + 1) → (∀ k : Nat, ((fi 27).toInt ≠ 0 → (k : Int) < (fi 25).toInt) → ar' 24 k = ar 24 k) → Q r (mS b fi' ar')) : w_X12_fresh (some b.o) t (mS b fi ar) Q X := by
  obtain ⟨⟨a1, a2, a3, a4, a5, a6⟩, hTb, hL, hK0, hD, hH, hC⟩ := id hG
  have htm : (fi 22 + 1).toInt = (fi 22).toInt + 1 := i_add rfl (by decide) (by omega)
  have h27 : fi 27 ≠ 0 → 0 < (fi 27).toInt := fun h => by
    have : (fi 27).toInt ≠ 0 := fun z => h (i_ext (by rw [z]; decide))
    omega
  simp only [w_X12_fresh, m_recv hb]
  refine s_free hb (by omega) (fun r hr hu => ?_)
  have hi : r.toInt = ((ix r : Nat) : Int) := (ix_int hr.1).symm
  have hD' := GD_come (u := 1) (tm := fi 22 + 1) (no := -1) (st := r) hD a4.1 (ix_lt hr) hu (by decide) htm (by decide) hi
  simp only [mw hb, hr, true_and, va_up_self, va_up_ne, ne_eq, Nat.reduceEqDiff, not_false_eq_true]
  refine ⟨by simp, ?_⟩
  refine s_note hb _ (fun h => ?_) (fun h => ?_) (fun h => ?_)
  · have := GH_ch hH (h27 h)
    exact ⟨this.1, by show (fi 25).toInt < 12000; omega⟩
  · have h : fi 27 = 0 := h
    have h0 : (fi 27).toInt = 0 := by rw [h]; decide
    refine hQ _ _ _ hr hu ?_ ?_ ?_ ?_ ?_ ?_ ?_ ?_ ?_ ?_ ?_ ?_ ?_ ?_
    · intro j j1 j2 j3 j4 j5 j6 j7
      rw [up2_rn _ _ _ j6, up2_rn _ _ _ j5, up2_rn _ _ _ j4, up2_rn _ _ _ j3, up2_rn _ _ _ j2, up2_rn _ _ _ j1]
    · simp only [up2_rs, up2_rn, ne_eq, Nat.reduceEqDiff, not_false_eq_true]
    · simp only [up2_rs, up2_rn, ne_eq, Nat.reduceEqDiff, not_false_eq_true]
    · simp only [up2_rs, up2_rn, ne_eq, Nat.reduceEqDiff, not_false_eq_true]
    · simp only [up2_rs, up2_rn, ne_eq, Nat.reduceEqDiff, not_false_eq_true]
    · simp only [up2_rs, up2_rn, ne_eq, Nat.reduceEqDiff, not_false_eq_true]
    · intro j j1 j2 j3 j4
      rw [va_up_ne _ _ j3, va_up_ne _ _ j1, va_up_ne _ _ j2]
    · simp only [va_up_self, va_up_ne, ne_eq, Nat.reduceEqDiff, not_false_eq_true]
    · simp only [va_up_self, va_up_ne, ne_eq, Nat.reduceEqDiff, not_false_eq_true]
    · simp only [up2_rs, up2_rn, ne_eq, Nat.reduceEqDiff, not_false_eq_true]
      exact hD'
    · intro z; omega
    · intro _; rfl
    · intro z; exact absurd h0 z
    · intro k z
      simp only [up2_rn, ne_eq, Nat.reduceEqDiff, not_false_eq_true]
  · have h : fi 27 ≠ 0 := h
    have h0 := h27 h
    have hc := GH_ch hH h0
    have hcc : (fi 25 + 1).toInt = (fi 25).toInt + 1 := i_add rfl (by decide) (by omega)
    have hix : ((ix (fi 25) : Nat) : Int) = (fi 25).toInt := ix_int hc.1
    refine hQ _ _ _ hr hu ?_ ?_ ?_ ?_ ?_ ?_ ?_ ?_ ?_ ?_ ?_ ?_ ?_ ?_
    · intro j j1 j2 j3 j4 j5 j6 j7
      rw [up2_rn _ _ _ j7, up2_rn _ _ _ j6, up2_rn _ _ _ j5, up2_rn _ _ _ j4, up2_rn _ _ _ j3, up2_rn _ _ _ j2, up2_rn _ _ _ j1]
    · simp only [up2_rs, up2_rn, ne_eq, Nat.reduceEqDiff, not_false_eq_true]
    · simp only [up2_rs, up2_rn, ne_eq, Nat.reduceEqDiff, not_false_eq_true]
    · simp only [up2_rs, up2_rn, ne_eq, Nat.reduceEqDiff, not_false_eq_true]
    · simp only [up2_rs, up2_rn, ne_eq, Nat.reduceEqDiff, not_false_eq_true]
    · simp only [up2_rs, up2_rn, ne_eq, Nat.reduceEqDiff, not_false_eq_true]
    · intro j j1 j2 j3 j4
      rw [va_up_ne _ _ j4, va_up_ne _ _ j3, va_up_ne _ _ j1, va_up_ne _ _ j2]
    · simp only [va_up_self, va_up_ne, ne_eq, Nat.reduceEqDiff, not_false_eq_true]
    · simp only [va_up_self, va_up_ne, ne_eq, Nat.reduceEqDiff, not_false_eq_true]
    · simp only [up2_rs, up2_rn, ne_eq, Nat.reduceEqDiff, not_false_eq_true]
      exact hD'
    · simp only [up2_rs, up2_rn, va_up_self, va_up_ne, ne_eq, Nat.reduceEqDiff, not_false_eq_true]
      rw [hcc]
      exact GH_come hH h0 (ix_lt hr) hu (by decide) htm (by decide) hi hix
    · intro z; omega
    · intro _; simp only [va_up_self, va_up_ne, ne_eq, Nat.reduceEqDiff, not_false_eq_true]
    · intro k hk
      have hk := hk (by omega)
      simp only [up2_rs, up2_rn, va_up_self, va_up_ne, ne_eq, Nat.reduceEqDiff, not_false_eq_true]
      rw [va_up_ne]
      omega
end S8
