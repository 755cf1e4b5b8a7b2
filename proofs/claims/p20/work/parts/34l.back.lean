set_option linter.unusedVariables false
set_option linter.unusedSimpArgs false
theorem cnt_succ (p : Nat → Bool) (n : Nat) : cnt p (n + 1) = cnt p n + (if p n = true then 1 else 0) := rfl
theorem nat_dn {a b : Int} {n : Nat} (h : n = (a - b + 1).toNat) (h2 : b ≤ a) : (a - 1 - b + 1).toNat < n := by omega
theorem int_dn {a b c : Int} (h : b ≤ a) : b - 1 ≤ a - 1 := by omega
theorem int_dl {a c : Int} (h : a < c) : a - 1 < c := by omega
section S12
variable {b : MT} {fi : Nat → Int32} {ar : Nat → Nat → Int32} {X : String → HS → Prop} {N : Nat}
/-- what holds while changes are taken back, down to the one of number v: fi0, ar0 is how it was before -/
def BI (T0 : Int) (fr to : Nat) (fi0 : Nat → Int32) (ar0 : Nat → Nat → Int32) (v : Int) (fi : Nat → Int32) (ar : Nat → Nat → Int32) : Prop := ∃ E S,
  GB (T0 + to - 1 - v) fi ar ∧ SG E S ((fi0 22).toInt - (fi0 25).toInt + v + 1) (ar 11) (ar 15) (ar 16) (ar 19) ∧
  (∀ f, mU (ar0 11) f → mU (ar 11) f ∧ ar 15 f = ar0 15 f ∧ (ar 16 f = ar0 16 f ∨ (ar0 16 f).toInt = -1)) ∧ (∀ k : Nat, k < to → ar 24 k = ar0 24 k) ∧ fi 27 = fi0 27 - 1 ∧ ((fi 27).toInt ≠ 0 → (to : Int) ≤ (fi 25).toInt) ∧
  (fi 20).toInt + cnt (fun k => decide (fr ≤ k) && decide ((ar0 24 k).toInt < 0)) (v + 1).toNat ≤ 3000 ∧ (fi0 22).toInt ≤ (fi 22).toInt ∧ ar 3 = ar0 3
/-- a coming is taken back -/
theorem s_turnC (hb : MB b) {T0 : Int} {fr to : Nat} {fi0 : Nat → Int32} {ar0 : Nat → Nat → Int32} {v : Nat} {Q : HS → Prop} (hI : BI T0 fr to fi0 ar0 v fi ar) (hT : T0 + to < 2000000000) (hv : v < to) (hto : (to : Int) = (fi0 25).toInt) (e : Int32) (he : 0 ≤ e.toInt) (hu : mU (ar0 11) (ix e)) (hbo : (ar0 15 (ix e)).toInt = (fi0 22).toInt - (fi0 25).toInt + v + 1) (hent : ar0 24 v = e)
    (hQ : ∀ fi' ar', BI T0 fr to fi0 ar0 ((v : Int) - 1) fi' ar' → Q (mS b fi' ar')) : w_X12_turn (some b.o) e (mS b fi ar) Q X := by
  obtain ⟨E, S, hG, hS, hold, hch, h27, h25, hkc, htm, h3⟩ := hI
  obtain ⟨⟨a1, a2, a3, a4, a5, a6⟩, hTb, hL, hK0, hD, hH, hC⟩ := id hG
  have hne : ¬ e < 0 := by simp only [i32, Int32.reduceToInt]; omega
  have hei : ((ix e : Nat) : Int) = e.toInt := ix_int he
  obtain ⟨o1, o2, o3⟩ := hold _ hu
  have hbo' : (ar 15 (ix e)).toInt = (fi0 22).toInt - (fi0 25).toInt + v + 1 := by rw [o2]; exact hbo
  have hth : thenThere ((fi0 22).toInt - (fi0 25).toInt + v + 1) (ar 15) (ar 16) (ix e) := by
    obtain ⟨z1, z2, z3, -⟩ := hD.1 _ o1
    refine ⟨by omega, ?_⟩
    rcases z3 with z3 | z3
    · exact Or.inl z3
    · exact Or.inr (by omega)
  obtain ⟨s1, s2⟩ := hS.1 _ o1 hth
  simp only [w_X12_turn]
  refine ⟨fun z => absurd z hne, fun _ => ?_⟩
  refine wLoop_i (fun n p x => x = mS b fi ar ∧ 0 ≤ p.toInt ∧ S (ix p) ∧ E (ix p) = E (ix e) ∧ n = ((fi 22).toInt - (ar 15 (ix p)).toInt).toNat) _ ⟨rfl, he, s1, rfl, rfl⟩ ?_
  rintro n p x again ha ⟨rfl, p0, p1, p2, p3⟩
  obtain ⟨u1, u2, u3, u4⟩ := hS.2.1 _ p1
  have hpi : ((ix p : Nat) : Int) = p.toInt := ix_int p0
  have hin : wIn p 3000 := ⟨p0, by have := u1.1; omega⟩
  simp only [mw hb, hin, true_and]
  refine ⟨fun q => ?_, fun q => ?_⟩
  · -- the end of the chain
    have hE : ix p = E (ix e) := by
      rcases u4 with ⟨y1, y2⟩ | ⟨y1, y2, y3⟩
      · rw [← p2]; exact y2.symm
      · exact absurd (by rw [q]; omega) y1
    refine s_go hb hG (by omega) p hin u1 (by rw [hE]; exact s2) (fun fi' ar' g e1 e2 e3 e4 e5 e6 e7 => hQ _ _ ?_)
    have htm1 : (fi 22 + 1).toInt = (fi 22).toInt + 1 := i_add rfl (by decide) (by omega)
    refine ⟨E, S, GB_mono g (by omega), ?_, ?_, ?_, ?_, ?_, ?_, ?_, ?_⟩
    · rw [e1 11 (by decide) (by decide), e1 15 (by decide) (by decide), e1 19 (by decide) (by decide), e3, hE]
      have := SG_go (tm := fi 22 + 1) hS hD o1 hbo' (by omega)
      rw [show (fi0 22).toInt - (fi0 25).toInt + ((v : Int) - 1) + 1 = (fi0 22).toInt - (fi0 25).toInt + v + 1 - 1 from by omega]
      exact this
    · intro f hf
      obtain ⟨y1, y2, y3⟩ := hold f hf
      rw [e1 11 (by decide) (by decide), e1 15 (by decide) (by decide), e3]
      refine ⟨y1, y2, ?_⟩
      by_cases hq : f = ix p
      · subst hq
        rcases y3 with y3 | y3
        · refine Or.inr ?_
          rw [← y3, hE]; exact s2
        · exact Or.inr y3
      · rw [va_up_ne _ _ hq]; exact y3
    · intro k hk
      rw [e7 k (fun z => by have := h25 z; omega)]; exact hch k hk
    · rw [e2 27 (by decide) (by decide)]; exact h27
    · rw [e2 27 (by decide) (by decide)]
      intro z
      rw [e6 z]
      have := h25 z
      have hc := GH_ch hH (by omega)
      rw [i_add rfl (show (1 : Int32).toInt = 1 by decide) (by omega)]
      omega
    · rw [e2 20 (by decide) (by decide)]
      have : cnt (fun k => decide (fr ≤ k) && decide ((ar0 24 k).toInt < 0)) ((v : Int) - 1 + 1).toNat ≤ cnt (fun k => decide (fr ≤ k) && decide ((ar0 24 k).toInt < 0)) ((v : Int) + 1).toNat := by
        rw [show ((v : Int) - 1 + 1).toNat = v from by omega, show ((v : Int) + 1).toNat = v + 1 from by omega]
        rw [cnt_succ]; exact Nat.le_add_right _ _
      omega
    · rw [e4, htm1]; omega
    · rw [e1 3 (by decide) (by decide)]; exact h3
  · -- along the chain
    rcases u4 with ⟨y1, y2⟩ | ⟨y1, y2, y3⟩
    · exact absurd (i_ext (by rw [y1]; omega)) q
    · obtain ⟨z1, z2, z3, z4⟩ := hD.1 _ u1
      rcases z4 with z4 | ⟨g, g1, g2, g3, g4⟩
      · exact absurd z4 y1
      · have hg : ix (ar 19 (ix p)) = g := ix_of g2
        have := (hD.1 g g1).2.1
        refine ha _ _ _ ?_ ⟨rfl, by omega, y2, by rw [y3]; exact p2, rfl⟩
        rw [hg]; omega
/-- a going is taken back -/
theorem s_turnD (hb : MB b) {T0 : Int} {fr to : Nat} {fi0 : Nat → Int32} {ar0 : Nat → Nat → Int32} {v : Nat} {Q : HS → Prop} (hI : BI T0 fr to fi0 ar0 v fi ar) (hT : T0 + to < 2000000000) (hfr : fr ≤ v) (hv : v < to) (hto : (to : Int) = (fi0 25).toInt) (ht0 : (fi0 25).toInt ≤ (fi0 22).toInt) (e : Int32) (f0 : Nat) (he : e.toInt = -1 - f0) (hu : mU (ar0 11) f0) (hdi : (ar0 16 f0).toInt = (fi0 22).toInt - (fi0 25).toInt + v + 1) (hent : ar0 24 v = e)
    (hQ : ∀ fi' ar', BI T0 fr to fi0 ar0 ((v : Int) - 1) fi' ar' → Q (mS b fi' ar')) : w_X12_turn (some b.o) e (mS b fi ar) Q X := by
  obtain ⟨E, S, hG, hS, hold, hch, h27, h25, hkc, htm, h3⟩ := hI
  obtain ⟨⟨a1, a2, a3, a4, a5, a6⟩, hTb, ⟨ρ, hL⟩, hK0, hD, hH, hC⟩ := id hG
  have hlt : e < 0 := by simp only [i32, Int32.reduceToInt]; omega
  have hf3 := hu.1
  have hfe : ((-1 : Int32) - e).toInt = f0 := by
    rw [i_sub (show (-1 : Int32).toInt = -1 by decide) rfl (by omega)]; omega
  generalize hfn : (-1 : Int32) - e = fn at *
  have hfi : ix fn = f0 := ix_of hfe
  have hin : wIn fn 3000 := ⟨by omega, by omega⟩
  obtain ⟨o1, o2, o3⟩ := hold _ hu
  have hdi' : (ar 16 f0).toInt = (fi0 22).toInt - (fi0 25).toInt + v + 1 := by
    rcases o3 with o3 | o3
    · rw [o3]; exact hdi
    · omega
  obtain ⟨t1, t2⟩ := m_tab hL hTb a2.2 o1
  obtain ⟨c1, c2, -⟩ := hL.1 _ o1
  have hcv : cnt (fun k => decide (fr ≤ k) && decide ((ar0 24 k).toInt < 0)) ((v : Int) + 1).toNat = cnt (fun k => decide (fr ≤ k) && decide ((ar0 24 k).toInt < 0)) v + 1 := by
    rw [show ((v : Int) + 1).toNat = v + 1 from by omega]
    rw [cnt_succ, if_pos]
    rw [hent]
    simp only [Bool.and_eq_true, decide_eq_true_eq]
    exact ⟨hfr, by omega⟩
  simp only [w_X12_turn, hfn]
  refine ⟨fun _ => ?_, fun z => absurd hlt z⟩
  simp only [mw hb, hin, true_and, hfi]
  refine s_fresh hb hG (by omega) (by omega) _ (fun r fi' ar' hr hu' ear e11 e12 e15 e16 e19 efi e20 e22 gD gH g25a g25b g24 => ?_)
  have hi : r.toInt = ((ix r : Nat) : Int) := (ix_int hr.1).symm
  have hrf : f0 ≠ ix r := fun q => o1.2 (q ▸ hu')
  have htm1 : (fi 22 + 1).toInt = (fi 22).toInt + 1 := i_add rfl (by decide) (by omega)
  have hkk : (fi 20 + 1).toInt = (fi 20).toInt + 1 := i_add rfl (by decide) (by omega)
  refine wLoop_i (fun n w x => ∃ ar2, x = mS b fi' ar2 ∧ (∀ j, j ≠ 13 → ar2 j = ar' j) ∧ 0 ≤ w.toInt ∧ w.toInt ≤ 4 ∧ n = (4 - w.toInt).toNat) 4 ⟨ar', rfl, fun _ _ => rfl, by decide, by decide, by decide⟩ ?_
  rintro n2 v2 x2 again2 ha2 ⟨ar2, rfl, e2, w1, w2, w3⟩
  have ee : ∀ j, j ≠ 13 → j ≠ 11 → j ≠ 12 → j ≠ 14 → j ≠ 15 → j ≠ 16 → j ≠ 19 → j ≠ 24 → ar2 j = ar j := fun j j0 j1 j2 j3 j4 j5 j6 j7 => by rw [e2 j j0]; exact ear j j1 j2 j3 j4 j5 j6 j7
  have c7 := ee 7 (by decide) (by decide) (by decide) (by decide) (by decide) (by decide) (by decide) (by decide)
  have c8 := ee 8 (by decide) (by decide) (by decide) (by decide) (by decide) (by decide) (by decide) (by decide)
  have c17 := ee 17 (by decide) (by decide) (by decide) (by decide) (by decide) (by decide) (by decide) (by decide)
  have c18 := ee 18 (by decide) (by decide) (by decide) (by decide) (by decide) (by decide) (by decide) (by decide)
  have c12 : ar2 12 (ix r) = ar 12 f0 := by rw [e2 12 (by decide), e12, va_up_self]
  have c11 : ar2 11 = va_up (ar 11) (ix r) 1 := by rw [e2 11 (by decide)]; exact e11
  refine ⟨fun _ => ?_, fun v4 => ?_⟩
  · rw [m_recv hb]
    obtain ⟨bh1, -⟩ := mP_behind hL o1
    refine s_linkA hb r fn hr (by rw [c12]; exact t1) hin (by rw [hfi]; exact Ne.symm hrf) (by rw [hfi, c18, c11]; exact mP_up (ix_lt hr) (by decide) bh1) (fun ar3 e3 f17 f18 f7 f8 => ?_)
    simp only [mw hb, hin, true_and, hfi]
    have e3' : ∀ j, j ≠ 17 → j ≠ 18 → j ≠ 7 → j ≠ 8 → j ≠ 13 → ar3 j = ar' j := fun j j1 j2 j3 j4 j5 => by rw [e3 j j1 j2 j3 j4, e2 j j5]
    have hL3 : ∃ ρ, GL ρ (fi 10).toInt ((fi 20).toInt + 1) (va_up (ar 11) (ix r) 1) (ar' 12) (ar3 17) (ar3 18) (ar3 7) (ar3 8) := by
      rw [f17, f18, f7, f8, c12, c7, c17, c18, c8, hfi]
      have := GL_after (u := 1) (w := r) (wa := fn) hL (ix_lt hr) hu' (by decide) o1 hi hfe
      rw [← e12] at this
      exact ⟨_, this⟩
    have hG3 : GB (T0 + to - 1 - v + 1) fi' (up2 ar3 19 f0 r) := by
      refine GB_come (ar' := ar') hG (by omega) hr hu' (by omega) e11 e20 e22 efi ear (fun j j1 j2 j3 j4 j5 j6 => by rw [up2_rn _ _ _ j6]; exact e3' j j2 j3 j4 j5 j1) ?_ gH (by rw [up2_rn _ _ _ (by decide), up2_rn _ _ _ (by decide), up2_rn _ _ _ (by decide), up2_rn _ _ _ (by decide)]; exact hL3)
      rw [up2_rs, e3' 19 (by decide) (by decide) (by decide) (by decide) (by decide)]
      refine GD_stand gD ?_ hi ?_ ?_
      · rw [e11]; exact (mU_up (ix_lt hr) (by decide)).mpr (Or.inl rfl)
      · rw [e16, va_up_ne _ _ hrf]; omega
      · rw [e16, va_up_ne _ _ hrf, e15, va_up_self]; omega
    refine hQ _ _ ⟨va_up (va_up E (ix r) (ix r)) f0 (ix r), (fun f => S f ∨ f = f0 ∨ f = ix r), GB_mono hG3 (by omega), ?_, ?_, ?_, ?_, ?_, ?_, ?_, ?_⟩
    · rw [up2_rs, up2_rn _ _ _ (by decide), up2_rn _ _ _ (by decide), up2_rn _ _ _ (by decide), e3' 11 (by decide) (by decide) (by decide) (by decide) (by decide), e3' 15 (by decide) (by decide) (by decide) (by decide) (by decide), e3' 16 (by decide) (by decide) (by decide) (by decide) (by decide), e3' 19 (by decide) (by decide) (by decide) (by decide) (by decide), e11, e15, e16, e19]
      rw [show (fi0 22).toInt - (fi0 25).toInt + ((v : Int) - 1) + 1 = (fi0 22).toInt - (fi0 25).toInt + v + 1 - 1 from by omega]
      exact SG_come hS hD (by omega) (by omega) o1 hdi' (ix_lt hr) hu' (by decide) htm1 (by decide) hi hi
    · intro f hf
      obtain ⟨y1, y2, y3⟩ := hold f hf
      have hfr2 : f ≠ ix r := fun q => y1.2 (q ▸ hu')
      rw [up2_rn _ _ _ (by decide), up2_rn _ _ _ (by decide), up2_rn _ _ _ (by decide), e3' 11 (by decide) (by decide) (by decide) (by decide) (by decide), e3' 15 (by decide) (by decide) (by decide) (by decide) (by decide), e3' 16 (by decide) (by decide) (by decide) (by decide) (by decide), e11, e15, e16, va_up_ne _ _ hfr2, va_up_ne _ _ hfr2]
      exact ⟨(mU_up (ix_lt hr) (by decide)).mpr (Or.inr y1), y2, y3⟩
    · intro k hk
      rw [up2_rn _ _ _ (by decide), e3' 24 (by decide) (by decide) (by decide) (by decide) (by decide), g24 k (fun z => by have := h25 z; omega)]
      exact hch k hk
    · rw [efi 27 (by decide) (by decide) (by decide) (by decide)]; exact h27
    · rw [efi 27 (by decide) (by decide) (by decide) (by decide)]
      intro z
      rw [g25b z]
      have := h25 z
      have hc := GH_ch hH (by omega)
      rw [i_add rfl (show (1 : Int32).toInt = 1 by decide) (by omega)]
      omega
    · rw [e20, hkk, show ((v : Int) - 1 + 1).toNat = v from by omega]
      omega
    · rw [e22, htm1]; omega
    · rw [up2_rn _ _ _ (by decide), e3' 3 (by decide) (by decide) (by decide) (by decide) (by decide), ear 3 (by decide) (by decide) (by decide) (by decide) (by decide) (by decide) (by decide)]; exact h3
  · have v5 : v2.toInt < 4 := by simp only [i32, Int32.reduceToInt] at v4; omega
    have hvv : (v2 + 1).toInt = v2.toInt + 1 := i_add rfl (by decide) (by omega)
    have m4 : ((4 : Int32) * r).toInt = 4 * r.toInt := i_mul (by decide) rfl (by have := hr.1; have := hr.2; omega)
    have m5 := i_add m4 (b := v2) rfl (by have := hr.1; have := hr.2; omega)
    have hin2 : wIn ((4 : Int32) * r + v2) 12000 := ⟨by have := hr.1; omega, by have := hr.2; omega⟩
    have m6 : ((4 : Int32) * fn).toInt = 4 * fn.toInt := i_mul (by decide) rfl (by have := hin.1; have := hin.2; omega)
    have m7 := i_add m6 (b := v2) rfl (by have := hin.1; have := hin.2; omega)
    have hin3 : wIn ((4 : Int32) * fn + v2) 12000 := ⟨by have := hin.1; omega, by have := hin.2; omega⟩
    simp only [mw hb, hin2, hin3, true_and]
    exact ha2 _ _ _ (by omega) ⟨_, rfl, fun j hj => by rw [up2_rn _ _ _ hj]; exact e2 j hj, by omega, by omega, rfl⟩
theorem t_back (hb : MB b) (hG : G N fi ar) (hN : N < 300000) {Q : Int32 → HS → Prop} (hQ : OKQ b N ar Q) (taken : Int32) : w_X12_back (some b.o) taken (mS b fi ar) Q X := by
  have hg1 := G_up hG
  obtain ⟨⟨a1, a2, a3, a4, a5, a6⟩, hTb, hL, hK0, hD, hH, hC⟩ := id hG
  simp only [w_X12_back, m_getI hb]
  refine wJoin_i (fun K => (∀ v, v ≠ 0 → K v (mS b fi ar)) ∧ (fi 27 ≠ 0 → K 0 (mS b fi ar))) ⟨fun v hv => ?_, fun hm => ?_⟩ (fun K hK => ⟨fun _ => hK.1 1 (by decide), fun h => hK.2 h⟩)
  · rw [m_recv hb, s_fN hb hv]
    exact hQ _ _ _ hg1 rfl
  · rw [m_recv hb, s_f0 hb]
    have hm0 : 0 < (fi 27).toInt := by
      have : (fi 27).toInt ≠ 0 := fun z => hm (i_ext (by rw [z]; decide))
      omega
    have hm1 : (fi 27 - 1).toInt = (fi 27).toInt - 1 := i_sub rfl (by decide) (by omega)
    obtain ⟨h1, h2, h3, h4, h5⟩ := hH hm0
    have hch := GH_ch hH hm0
    have hin8 : wIn (fi 27 - 1) 8 := ⟨by omega, by omega⟩
    have hmi : ((ix (fi 27 - 1) : Nat) : Int) = (fi 27).toInt - 1 := by rw [ix_int (by omega)]; exact hm1
    obtain ⟨fr1, fr2⟩ := h4 (ix (fi 27 - 1)) (by omega)
    have e27 : va_up fi 0 0 27 = fi 27 := rfl
    have e25 : va_up fi 0 0 25 = fi 25 := rfl
    simp only [mw hb, e27, e25, hin8, true_and]
    generalize hfrm : ar 26 (ix (fi 27 - 1)) = frm at *
    obtain ⟨fr, hfr⟩ : ∃ fr : Nat, frm.toInt = fr := ⟨frm.toInt.toNat, by omega⟩
    obtain ⟨to, hto⟩ : ∃ to : Nat, (to : Int) = (fi 25).toInt := ⟨(fi 25).toInt.toNat, by omega⟩
    -- how many come again
    refine wLoop_i (fun n v x => x = mS b (va_up fi 0 0) ar ∧ frm.toInt ≤ v.2.toInt ∧ v.2.toInt ≤ to ∧ n = ((to : Int) - v.2.toInt).toNat ∧ v.1.toInt = cnt (fun k => decide (fr ≤ k) && decide ((ar 24 k).toInt < 0)) v.2.toInt.toNat) _ ⟨rfl, Int.le_refl _, by show frm.toInt ≤ _; omega, rfl, ?_⟩ ?_
    · show (0 : Int32).toInt = ((cnt (fun k => decide (fr ≤ k) && decide ((ar 24 k).toInt < 0)) frm.toInt.toNat : Nat) : Int)
      rw [cnt_no]
      · decide
      · intro i hi
        have : decide (fr ≤ i) = false := by rw [decide_eq_false_iff_not]; omega
        rw [this]; rfl
    rintro n v x again ha ⟨rfl, p1, p2, p3, p4⟩
    refine ⟨fun q => ?_, fun q => ?_⟩
    · have hvt : v.2.toInt = to := by simp only [i32] at q; omega
      rw [hvt] at p4
      have hcl := cnt_le (fun k => decide (fr ≤ k) && decide ((ar 24 k).toInt < 0)) to
      have ht2 : ((to : Int)).toNat = to := by omega
      rw [ht2] at p4
      refine wJoin_i (fun K => (∀ v, v ≠ 0 → K v (mS b (va_up fi 0 0) ar)) ∧ ((taken = 0 ∨ (fi 20).toInt + cnt (fun k => decide (fr ≤ k) && decide ((ar 24 k).toInt < 0)) to ≤ 3000) → K 0 (mS b (va_up fi 0 0) ar))) ⟨fun w hw => ?_, fun hroom => ?_⟩ (fun K hK => ?_)
      · rw [m_recv hb, s_fN hb hw]
        exact hQ _ _ _ hg1 rfl
      · rw [m_recv hb, s_f0 hb]
        simp only [mw hb, va_twice, e27]
        have hG1 : ∀ T : Int, 6001 * (N : Int) ≤ T → GB T (va_up (va_up fi 0 0) 27 (fi 27 - 1)) ar := by
          intro T hT
          refine ⟨⟨a1, a2, a3, ⟨a4.1, by show (fi 22).toInt ≤ T; omega⟩, ?_, a6⟩, hTb, hL, hK0, hD, ?_, hC⟩
          · show 0 ≤ (fi 27 - 1).toInt ∧ (fi 27 - 1).toInt ≤ 8
            omega
          · show GH (fi 22).toInt (fi 25).toInt (fi 27 - 1).toInt (ar 11) (ar 15) (ar 16) (ar 24) (ar 26)
            intro z
            exact ⟨h1, h2, h3, fun i hi => h4 i (by omega), h5⟩
        refine ⟨fun _ => hQ _ _ _ (hG1 _ (by omega)) rfl, fun htk => ?_⟩
        have hroom' : (fi 20).toInt + cnt (fun k => decide (fr ≤ k) && decide ((ar 24 k).toInt < 0)) to ≤ 3000 := by
          rcases hroom with z | z
          · exact absurd z htk
          · exact z
        have hv0 : (fi 25 - 1).toInt = (to : Int) - 1 := by rw [i_sub rfl (show (1 : Int32).toInt = 1 by decide) (by omega)]; omega
        have hbig : 6001 * (N : Int) + to < 2000000000 := by omega
        have hI0 : BI (6001 * N) fr to fi ar ((to : Int) - 1) (va_up (va_up fi 0 0) 27 (fi 27 - 1)) ar := by
          refine ⟨(fun f => f), (fun f => mU (ar 11) f ∧ (ar 16 f).toInt = -1), hG1 _ (by omega), ?_, fun f hf => ⟨hf, rfl, Or.inl rfl⟩, fun _ _ => rfl, rfl, fun _ => ?_, ?_, ?_, rfl⟩
          · have := SG_init hD
            rw [show (fi 22).toInt - (fi 25).toInt + ((to : Int) - 1) + 1 = (fi 22).toInt from by omega]
            exact this
          · show (to : Int) ≤ (fi 25).toInt
            omega
          · rw [show ((to : Int) - 1 + 1).toNat = to from by omega]; exact hroom'
          · show (fi 22).toInt ≤ (fi 22).toInt
            exact Int.le_refl _
        refine wLoop_i (fun n w x => ∃ fi' ar', x = mS b fi' ar' ∧ BI (6001 * N) fr to fi ar w.toInt fi' ar' ∧ (fr : Int) - 1 ≤ w.toInt ∧ w.toInt < to ∧ n = (w.toInt - fr + 1).toNat) _ ⟨_, _, rfl, by rw [hv0]; exact hI0, by omega, by omega, rfl⟩ ?_
        rintro n2 w x2 again2 ha2 ⟨fi', ar', rfl, hI, w1, w2, w3⟩
        obtain ⟨E, S, i1, i2, i3, i4, i5, i6, i7, i8, i9⟩ := id hI
        refine ⟨fun z => hQ _ _ _ (GB_mono i1 (by omega)) i9, fun z => ?_⟩
        have z' : (fr : Int) ≤ w.toInt := by simp only [i32] at z; omega
        have hw0 : 0 ≤ w.toInt := by omega
        have hwi : ((ix w : Nat) : Int) = w.toInt := ix_int hw0
        have hwin : wIn w 12000 := ⟨hw0, by omega⟩
        have hwm : (w + (-1)).toInt = w.toInt - 1 := by rw [i_add rfl (show (-1 : Int32).toInt = -1 by decide) (by omega)]; omega
        have hwm2 : (w + (-1)).toInt = ((ix w : Nat) : Int) - 1 := by rw [hwm, hwi]
        have hnext : ∀ fi2 ar2, BI (6001 * N) fr to fi ar (((ix w : Nat) : Int) - 1) fi2 ar2 → again2 (w + (-1)) (mS b fi2 ar2) := by
          intro fi2 ar2 hb2
          refine ha2 ((w + (-1)).toInt - fr + 1).toNat _ _ ?_ ⟨fi2, ar2, rfl, ?_, ?_, ?_, rfl⟩
          · rw [hwm]; exact nat_dn w3 z'
          · rw [hwm2]; exact hb2
          · rw [hwm]; exact int_dn (c := 0) z'
          · rw [hwm]; exact int_dl w2
        simp only [mw hb, hwin, true_and]
        have hwt : ix w < to := Int.ofNat_lt.mp (by rw [hwi]; exact w2)
        have hwf : fr ≤ ix w := Int.ofNat_le.mp (by rw [hwi]; exact z')
        have hwc : ((ix w : Nat) : Int) < (fi 25).toInt := by rw [hwi, ← hto]; exact w2
        rw [i4 (ix w) hwt]
        have hI2 : BI (6001 * N) fr to fi ar ((ix w : Nat) : Int) fi' ar' := by rw [hwi]; exact hI
        rcases h3 (ix w) hwc with ⟨k1, k2, k3⟩ | ⟨f, k1, k2, k3⟩
        · exact s_turnC hb hI2 hbig hwt hto _ k1 k2 k3 rfl hnext
        · exact s_turnD hb hI2 hbig hwf hwt hto h2 _ f k2 k1 k3 rfl hnext
      · simp only [wJoin, wIf, mw hb]
        refine ⟨fun z => hK.2 (Or.inl z), fun _ => ⟨fun z => hK.2 (Or.inr ?_), fun _ => hK.1 1 (by decide)⟩⟩
        have e20 : va_up fi 0 0 20 = fi 20 := rfl
        rw [e20] at z
        have : (fi 20 + v.1).toInt = (fi 20).toInt + v.1.toInt := i_add rfl rfl (by omega)
        rw [Int32.le_iff_toInt_le, this, show (3000 : Int32).toInt = 3000 from by decide] at z
        omega
    · have hvt : v.2.toInt < to := by simp only [i32] at q; omega
      have hi : ((ix v.2 : Nat) : Int) = v.2.toInt := ix_int (by omega)
      have hvi : v.2.toInt.toNat = ix v.2 := rfl
      have hin : wIn v.2 12000 := ⟨by omega, by omega⟩
      have hvp : (v.2 + 1).toInt = v.2.toInt + 1 := i_add rfl (by decide) (by omega)
      have hcl := cnt_le (fun k => decide (fr ≤ k) && decide ((ar 24 k).toInt < 0)) v.2.toInt.toNat
      have hs : (v.2 + 1).toInt.toNat = v.2.toInt.toNat + 1 := by omega
      have hgo : ∀ c : Int32, c.toInt = cnt (fun k => decide (fr ≤ k) && decide ((ar 24 k).toInt < 0)) (v.2.toInt.toNat + 1) → again (c, v.2 + 1) (mS b (va_up fi 0 0) ar) := fun c hc => ha ((to : Int) - (v.2 + 1).toInt).toNat _ _ (by omega) ⟨rfl, by show frm.toInt ≤ (v.2 + 1).toInt; omega, by show (v.2 + 1).toInt ≤ _; omega, rfl, by show c.toInt = _; rw [hs]; exact hc⟩
      simp only [mw hb, hin, true_and, wJoin]
      refine ⟨fun z => hgo _ ?_, fun z => hgo _ ?_⟩
      · rw [cnt_succ, if_neg]
        · omega
        · rw [hvi]
          simp only [i32, Int32.reduceToInt] at z
          simp only [Bool.and_eq_true, decide_eq_true_eq]
          omega
      · rw [i_add rfl (show (1 : Int32).toInt = 1 by decide) (by omega), cnt_succ, if_pos]
        · omega
        · rw [hvi]
          simp only [i32, Int32.reduceToInt] at z
          simp only [Bool.and_eq_true, decide_eq_true_eq]
          omega
end S12
