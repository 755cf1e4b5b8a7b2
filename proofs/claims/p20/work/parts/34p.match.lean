set_option linter.unusedVariables false
set_option linter.unusedSimpArgs false
/-! a question's answers -/
def FS (ar ar' : Nat → Nat → Int32) : Prop := ∀ j, j ∉ [50, 51, 52, 54] → ar' j = ar j
theorem FS_trans {a1 a2 a3 : Nat → Nat → Int32} (h1 : FS a1 a2) (h2 : FS a2 a3) : FS a1 a3 := fun j hj => by rw [h2 j hj, h1 j hj]
theorem FS_rf (ar : Nat → Nat → Int32) : FS ar ar := fun _ _ => rfl
theorem FS_up {ar : Nat → Nat → Int32} {j i : Nat} {v : Int32} (hj : j ∈ [50, 51, 52, 54]) : FS ar (up2 ar j i v) := fun k hk => up2_rn _ _ _ (fun z => hk (by rw [z]; exact hj))
def SV (ρ : Nat → Nat) (fi : Nat → Int32) (ar : Nat → Nat → Int32) : Prop := GL ρ (fi 10).toInt (fi 20).toInt (ar 11) (ar 12) (ar 17) (ar 18) (ar 7) (ar 8) ∧ GT (fi 10).toInt (ar 4) (ar 6) ∧ (fi 10).toInt ≤ 12 ∧ QOK fi ar ∧ fi 39 ≠ 0
theorem SV_FS {ρ : Nat → Nat} {fi : Nat → Int32} {ar ar' : Nat → Nat → Int32} (h : SV ρ fi ar) (hf : FS ar ar') : SV ρ fi ar' := by
  simp only [SV, QOK, GoalOK, OKp] at h ⊢
  simp only [hf 4 (by decide), hf 6 (by decide), hf 7 (by decide), hf 8 (by decide), hf 11 (by decide), hf 12 (by decide), hf 17 (by decide), hf 18 (by decide), hf 44 (by decide), hf 45 (by decide), hf 46 (by decide), hf 47 (by decide)]
  exact h
theorem SV_lk {ρ : Nat → Nat} {fi : Nat → Int32} {ar : Nat → Nat → Int32} {lk : Int32} (h : SV ρ fi ar) : SV ρ (va_up fi 38 lk) ar := h
/-- a goal over a table -/
def TG (tables : Int) (g : Nat) (ar : Nat → Nat → Int32) : Prop := 0 ≤ (ar 45 g).toInt ∧ (ar 45 g).toInt < tables ∧ ∀ k : Nat, k < 5 → (k : Int) < (ar 4 (ix (ar 45 g))).toInt → OKp ar (5 * g + k)
theorem TG_FS {tables : Int} {g : Nat} {ar ar' : Nat → Nat → Int32} (h : TG tables g ar) (hf : FS ar ar') : TG tables g ar' := by
  simp only [TG, OKp] at h ⊢
  simp only [hf 4 (by decide), hf 45 (by decide), hf 46 (by decide), hf 47 (by decide)]
  exact h
theorem c4 {f k : Int32} (hf : wIn f 3000) (hk : wIn k 4) : wIn ((4 : Int32) * f + k) 12000 := by
  obtain ⟨f1, f2⟩ := hf
  obtain ⟨k1, k2⟩ := hk
  have e1 : ((4 : Int32) * f).toInt = 4 * f.toInt := i_mul (by decide) rfl (by omega)
  have e2 : ((4 : Int32) * f + k).toInt = 4 * f.toInt + k.toInt := i_add e1 rfl (by omega)
  exact ⟨by omega, by omega⟩
theorem k8 {v : Int32} {ar : Nat → Nat → Int32} {p : Nat} (h : OKp ar p) (h1 : ar 46 p = 1) : wIn (ar 47 p) 8 := h h1
section S16
variable {b : MT} {fi : Nat → Int32} {ar : Nat → Nat → Int32} {X : String → HS → Prop} {Q : Int32 → HS → Prop} {ρ : Nat → Nat}
theorem TG_cols (hT : GT (fi 10).toInt (ar 4) (ar 6)) (h12 : (fi 10).toInt ≤ 12) {g : Nat} (h : TG (fi 10).toInt g ar) : wIn (ar 45 g) 12 ∧ 1 ≤ (ar 4 (ix (ar 45 g))).toInt ∧ (ar 4 (ix (ar 45 g))).toInt ≤ 4 ∧ ((ix (ar 45 g) : Nat) : Int) < (fi 10).toInt := by
  obtain ⟨h1, h2, -⟩ := h
  have hi : ((ix (ar 45 g) : Nat) : Int) = (ar 45 g).toInt := ix_int h1
  have := hT (ix (ar 45 g)) (by omega)
  exact ⟨⟨h1, by omega⟩, this.1, this.2.1, by omega⟩
theorem s_worth (hb : MB b) {p : Int32} (hp : wIn p 55) (hok : OKp ar (ix p)) (hQ : ∀ r, Q r (mS b fi ar)) : w_X12_worth (some b.o) p (mS b fi ar) Q X := by
  simp only [w_X12_worth, wJoin, wIf, mw hb, hp, true_and]
  exact ⟨fun h => ⟨hok h, hQ _⟩, fun _ => hQ _⟩
theorem s_isOne (hb : MB b) {g f : Int32} (hg : wIn g 11) (hf : wIn f 3000) (hT : GT (fi 10).toInt (ar 4) (ar 6)) (h12 : (fi 10).toInt ≤ 12) (hG : TG (fi 10).toInt (ix g) ar) (hQ : ∀ r : Int32, (r = 0 ∨ r = 1) → Q r (mS b fi ar)) : w_X12_isOne (some b.o) g f (mS b fi ar) Q X := by
  obtain ⟨t1, t2, t3, -⟩ := TG_cols hT h12 hG
  simp only [w_X12_isOne, mw hb, hg, t1, true_and]
  generalize ar 4 (ix (ar 45 (ix g))) = cols at t2 t3
  refine wLoop_i (fun n v x => x = mS b fi ar ∧ 0 ≤ v.toInt ∧ n = (cols.toInt - v.toInt).toNat) _ ⟨rfl, by decide, rfl⟩ ?_
  rintro n v x again ha ⟨rfl, p1, p2⟩
  refine ⟨fun _ => by rw [wBit1]; exact hQ _ (Or.inr rfl), fun hv => ?_⟩
  have hv1 : v.toInt < cols.toInt := by simp only [i32] at hv; omega
  have ev : (v + 1).toInt = v.toInt + 1 := i_add rfl (by decide) (by omega)
  obtain ⟨i1, -⟩ := p5 hg (k := v) ⟨p1, by omega⟩
  have c1 := c4 hf (k := v) ⟨p1, by omega⟩
  refine wLoop_i (fun m w x => x = mS b fi ar ∧ w.1 = v ∧ 0 ≤ w.2.toInt ∧ m = (v.toInt - w.2.toInt).toNat) _ ⟨rfl, rfl, by show 0 ≤ (0 : Int32).toInt; decide, rfl⟩ ?_
  rintro m w x again2 ha2 ⟨rfl, rfl, q2, q3⟩
  refine ⟨fun _ => ha _ _ _ (by omega) ⟨rfl, by omega, rfl⟩, fun hw => ?_⟩
  have hw1 : w.2.toInt < w.1.toInt := by simp only [i32] at hw; omega
  have ew : (w.2 + 1).toInt = w.2.toInt + 1 := i_add rfl (by decide) (by omega)
  obtain ⟨i2, -⟩ := p5 hg (k := w.2) ⟨q2, by omega⟩
  have c2 := c4 hf (k := w.2) ⟨q2, by omega⟩
  have hgo : again2 (w.1, w.2 + 1) (mS b fi ar) := ha2 _ _ _ (by show (w.1.toInt - (w.2 + 1).toInt).toNat < m; omega) ⟨rfl, rfl, by show 0 ≤ (w.2 + 1).toInt; omega, rfl⟩
  simp only [wJoin, wIf, mw hb, i1, i2, c1, c2, true_and, wBit0]
  exact ⟨fun _ => ⟨fun _ => ⟨fun _ => ⟨fun _ => hgo, fun _ => hQ _ (Or.inl rfl)⟩, fun _ => hgo⟩, fun _ => hgo⟩, fun _ => hgo⟩
theorem s_give (hb : MB b) {Q : HS → Prop} {g f : Int32} (hg : wIn g 11) (hf : wIn f 3000) (hT : GT (fi 10).toInt (ar 4) (ar 6)) (h12 : (fi 10).toInt ≤ 12) (hG : TG (fi 10).toInt (ix g) ar) (hQ : ∀ ar', (∀ j, j ≠ 50 → ar' j = ar j) → Q (mS b fi ar')) : w_X12_give (some b.o) g f (mS b fi ar) Q X := by
  obtain ⟨t1, t2, t3, -⟩ := TG_cols hT h12 hG
  obtain ⟨-, -, hO⟩ := hG
  simp only [w_X12_give, mw hb, hg, t1, true_and]
  generalize ar 4 (ix (ar 45 (ix g))) = cols at t2 t3 hO
  refine wLoop_i (fun n v x => ∃ ar', x = mS b fi ar' ∧ (∀ j, j ≠ 50 → ar' j = ar j) ∧ 0 ≤ v.toInt ∧ n = (cols.toInt - v.toInt).toNat) _ ⟨ar, rfl, fun _ _ => rfl, by decide, rfl⟩ ?_
  rintro n v x again ha ⟨ar1, rfl, e, p1, p2⟩
  refine ⟨fun _ => hQ _ e, fun hv => ?_⟩
  have hv1 : v.toInt < cols.toInt := by simp only [i32] at hv; omega
  have ev : (v + 1).toInt = v.toInt + 1 := i_add rfl (by decide) (by omega)
  have hvi : ((ix v : Nat) : Int) = v.toInt := ix_int p1
  obtain ⟨i1, i2⟩ := p5 hg (k := v) ⟨p1, by omega⟩
  have c1 := c4 hf (k := v) ⟨p1, by omega⟩
  have hok := hO (ix v) (by omega) (by omega)
  rw [← i2] at hok
  have hgo : ∀ ar2, (∀ j, j ≠ 50 → ar2 j = ar j) → again (v + 1) (mS b fi ar2) := fun ar2 h => ha _ _ _ (by omega) ⟨ar2, rfl, h, by omega, rfl⟩
  simp only [wJoin, wIf, mw hb, i1, c1, true_and, e 46 (by decide), e 47 (by decide)]
  exact ⟨fun h => ⟨hok h, hgo _ (fun j hj => by rw [up2_rn _ _ _ hj]; exact e j hj)⟩, fun _ => hgo _ e⟩
theorem s_match (hb : MB b) {g from_ when_ : Int32} (hS : SV ρ fi ar) (hg : wIn g 11) (hG : TG (fi 10).toInt (ix g) ar) (hf : mP (ar 11) from_) (hl0 : 0 ≤ (fi 38).toInt) (hl1 : (fi 38).toInt ≤ 50000) (hQ : ∀ (r lk : Int32) ar', mP (ar 11) r → (∀ j, j ≠ 52 → ar' j = ar j) → (fi 38).toInt ≤ lk.toInt → lk.toInt ≤ 50001 → (0 ≤ r.toInt → (fi 38).toInt + 1 ≤ lk.toInt) → Q r (mS b (va_up fi 38 lk) ar')) : w_X12_match (some b.o) g from_ when_ (mS b fi ar) Q X := by
  obtain ⟨hL, hT, h12, -, has⟩ := id hS
  obtain ⟨t1, t2, t3, -⟩ := TG_cols hT h12 hG
  have hO := hG.2.2
  simp only [w_X12_match, mw hb, hg, true_and]
  refine wLoop_i (fun n v x => ∃ ar', x = mS b fi ar' ∧ (∀ j, j ≠ 52 → ar' j = ar j) ∧ 0 ≤ v.2.toInt ∧ n = ((ar 4 (ix (ar 45 (ix g)))).toInt - v.2.toInt).toNat) _ ⟨ar, rfl, fun _ _ => rfl, by decide, rfl⟩ ?_
  rintro n v x again ha ⟨ar1, rfl, e, p1, p2⟩
  simp only [m_getF hb (show 4 ∈ mIds by decide), m_ald hb (show 4 ∈ mIds by decide) (show mKind 4 = 20 by decide)]
  refine ⟨t1, ?_⟩
  rw [e 4 (by decide)]
  refine ⟨fun _ => ?_, fun hv => ?_⟩
  · have hS1 : SV ρ fi ar1 := SV_FS hS (fun j hj => e j (fun z => hj (by rw [z]; decide)))
    obtain ⟨hL1, hT1, -, -, -⟩ := id hS1
    have hG1 : TG (fi 10).toInt (ix g) ar1 := TG_FS hG (fun j hj => e j (fun z => hj (by rw [z]; decide)))
    simp only [mw hb]
    have e11 := e 11 (by decide)
    refine s_seek hb hL1 hT1 h12 _ _ _ _ 0 52 (by decide) (by decide) t1 (by rw [e 4 (by decide)]; exact t3) (by rw [e11]; exact hf) (by decide) (by decide) (by decide) (fun r lk h1 h2 h3 => ?_)
    have h3 := h3 hl0 hl1 has
    refine wLoop_i (fun m w x => ∃ lk, x = mS b (va_up fi 38 lk) ar1 ∧ mP (ar1 11) w ∧ m = mR ρ w ∧ (fi 38).toInt ≤ lk.toInt ∧ lk.toInt ≤ 50001 ∧ (0 ≤ w.toInt → (fi 38).toInt + 1 ≤ lk.toInt)) _ ⟨lk, rfl, h1, rfl, h3.1, h3.2.1, h3.2.2⟩ ?_
    rintro m w x again2 ha2 ⟨lk2, rfl, q1, q2, q3, q4, q5⟩
    refine wJoin_i (fun K => K (mS b (va_up fi 38 lk2) ar1)) (hQ _ _ _ (by rw [← e11]; exact q1) e q3 q4 q5) (fun K hK => ⟨fun _ => hK, fun hw => ?_⟩)
    obtain ⟨w1, w2, w3, w4⟩ := m_walk hL1 q1 hw
    rw [m_recv hb]
    refine s_isOne hb hg w1 hT1 h12 hG1 (fun r5 _ => ⟨fun _ => ?_, fun _ => hK⟩)
    simp only [mw hb, va_up_self]
    refine wJoin_i (fun K2 => ∀ (r lk : Int32), mP (ar1 11) r → mR ρ r < m → (fi 38).toInt ≤ lk.toInt → lk.toInt ≤ 50001 → (0 ≤ r.toInt → (fi 38).toInt + 1 ≤ lk.toInt) → K2 r (mS b (va_up fi 38 lk) ar1)) (fun r lk z1 z2 z3 z4 z5 => ha2 _ _ _ z2 ⟨lk, rfl, z1, rfl, z3, z4, z5⟩) (fun K2 hK2 => ⟨fun hlk => ?_, fun _ => ?_⟩)
    · have hlk1 : lk2.toInt ≤ 50000 := by simp only [i32, Int32.reduceToInt] at hlk; exact hlk
      simp only [mw hb, w1, true_and]
      refine s_seek (fi := va_up fi 38 lk2) hb hL1 hT1 h12 _ _ _ _ 0 52 (by decide) (by decide) t1 (by rw [e 4 (by decide)]; exact t3) w3 (by decide) (by decide) (by decide) (fun r6 lk6 z1 z2 z3 => ?_)
      rw [va_up_self] at z3
      have z3 := z3 (by omega) hlk1 has
      rw [va_twice]
      refine hK2 _ _ z1 ?_ (by omega) (by omega) (fun h => by have := z3.2.2 h; omega)
      have z2' := fun h => (z2 h).2
      by_cases hr6 : 0 ≤ r6.toInt
      · have := z2' hr6
        have e6 : mR ρ r6 = ρ (ix r6) + 1 := by unfold mR; rw [if_neg (by omega)]
        omega
      · have e6 : mR ρ r6 = 0 := by unfold mR; rw [if_pos (by omega)]
        omega
    · exact hK2 _ _ (Or.inl (by decide)) (by have e6 : mR ρ (-1) = 0 := by unfold mR; rw [if_pos (by decide)]
                                             omega) q3 q4 (fun h => absurd h (by decide))
  · have hv1 : v.2.toInt < (ar 4 (ix (ar 45 (ix g)))).toInt := by simp only [i32] at hv; omega
    have ev : (v.2 + 1).toInt = v.2.toInt + 1 := i_add rfl (by decide) (by omega)
    have hvi : ((ix v.2 : Nat) : Int) = v.2.toInt := ix_int p1
    obtain ⟨i1, i2⟩ := p5 hg (k := v.2) ⟨p1, by omega⟩
    have hok := hO (ix v.2) (by omega) (by omega)
    rw [← i2] at hok
    have hok1 : OKp ar1 (ix ((5 : Int32) * g + v.2)) := by unfold OKp at hok ⊢; rw [e 46 (by decide), e 47 (by decide)]; exact hok
    simp only [mw hb, i1, true_and]
    refine wJoin_i (fun K => ∀ mk ar2, (∀ j, j ≠ 52 → ar2 j = ar j) → K mk (mS b fi ar2)) (fun mk ar2 h => ha _ _ _ (by show ((ar 4 (ix (ar 45 (ix g)))).toInt - (v.2 + 1).toInt).toNat < n; omega) ⟨ar2, rfl, h, by show 0 ≤ (v.2 + 1).toInt; omega, rfl⟩) (fun K hK => ⟨fun _ => hK _ _ e, fun _ => ?_⟩)
    refine s_isKnown hb (g12 hg).1 i1 (fun r5 _ => ⟨fun _ => hK _ _ e, fun _ => ?_⟩)
    simp only [mw hb]
    refine s_worth hb i1 hok1 (fun r6 => ?_)
    simp only [mw hb, show wIn v.2 5 from ⟨p1, by omega⟩, true_and]
    exact hK _ _ (fun j hj => by rw [up2_rn _ _ _ hj]; exact e j hj)
end S16
