set_option linter.unusedVariables false
set_option linter.unusedSimpArgs false
section C34
variable {b : CT} {g : Gh} {o s h N r q v sp : Nat} {vv vv' : Nat → Int32} {x : HS} {I I' I'' : Nat → Nat → Int32} {F F' F'' : Nat → Nat → Option Nat} {A A' : Nat → Nat → Nat → Int32} {E : Nat → Nat → Nat → Option Nat} {W : Nat → Prop} {X : String → HS → Prop} {Q : HS → Prop} {QI : Int32 → HS → Prop} {QF : Option Nat → HS → Prop}
theorem KV_F8 (hk : KV b g o s h vv I F A E N NW) (hv : Is b 8 v) {j l : Nat} (hj : j = 0 ∨ j = 2) (hl : Is b 7 l) : KV b g o s h vv I (up2 F v j (some l)) A E N NW := by
  obtain ⟨hb, hCo, hSK, hTY, hHI, hCU, hKN, hBU, hvv⟩ := hk
  obtain ⟨s1, s2, s3, s4, s5, s6, s7, s8, s9, s10, s11, s12⟩ := id hSK
  have n : ∀ c a, Is b c a → c ≠ 8 → up2 F v j (some l) a = F a := fun c a ha hc => up2_row _ _ _ (Is_ne ha hv hc)
  have hL := hCo.1
  refine ⟨hb, Core_eq hCo eqI_rf (eqF_up eqF_rf hv (by rcases hj with rfl | rfl <;> decide)) eqA_rf eqE_rf, ?_, fun i f' hi hf' => ?_, ?_, fun i hi ho => ?_, hKN, hBU, hvv⟩
  · refine ⟨s1, by rw [n 11 o s1 (by decide)]; exact s2, s3, by rw [n 9 s s3 (by decide)]; exact s4, s5, by rw [n 11 o s1 (by decide)]; exact s6, by rw [n 11 o s1 (by decide)]; exact s7, by rw [n 11 o s1 (by decide)]; exact s8, s9, s10, s11, fun w hw => ?_⟩
    obtain ⟨y1, y2, y3⟩ := s12 w hw
    by_cases hwv : w = v
    · subst hwv
      rcases hj with rfl | rfl
      · exact ⟨⟨l, up2_self _ _ _ _, hl⟩, by rw [up2_k _ _ _ _ (by decide)]; exact y2, y3⟩
      · exact ⟨by rw [up2_k _ _ _ _ (by decide)]; exact y1, ⟨l, up2_self _ _ _ _, hl⟩, y3⟩
    · rw [up2_row _ _ _ hwv]; exact ⟨y1, y2, y3⟩
  · rw [n 1 f' (hCo.2.2.2.2.1.2.2.2.1 i f' hf') (by decide)]; exact hTY i f' hi hf'
  · refine ⟨hHI.1, hHI.2.1, fun i hi => ?_, hHI.2.2.2⟩
    obtain ⟨f', y1, y2, y3, y4⟩ := hHI.2.2.1 i hi
    exact ⟨f', y1, y2, y3, by rw [n 1 f' y2 (by decide)]; exact y4⟩
  · obtain ⟨l', y1, y2, t', y3, y4, y5⟩ := hCU i hi ho
    refine ⟨l', y1, y2, t', by rw [n 5 l' y2 (by decide)]; exact y3, y4, fun f' hf' => ?_⟩
    rw [n 5 l' y2 (by decide)] at hf'
    obtain ⟨y6, y7⟩ := y5 f' hf'
    exact ⟨y6, by rw [n 1 f' (hL.2.2.2 _ _ y6).1 (by decide)]; exact y7⟩
theorem k_question (hk : KInv o (N + 1) vv x) {a : Int32} (hX : ∀ e x', (e = eIA ∨ e = eUO ∨ e = eAE) → KInv o N vv x' → X e x') (hQ : ∀ r x', KInv o N vv x' → QI r x') : w_X11_question (some o) a x QI X := by
  obtain ⟨b, g, s, h, I, F, A, E, rfl, hk, hz⟩ := hk
  obtain ⟨s1, s2, s3, s4, s5, s6, ⟨r, s7, s7'⟩, ⟨v, s8, s8'⟩, s9, s10, s11, s12⟩ := id hk.2.2.1
  have hb := hk.1
  have hKN := hk.2.2.2.2.2.2.1
  simp only [w_X11_question, cw hb, s1, s7, s7']
  obtain ⟨y1, y2⟩ := KV_oI hk hz (KN9 (v := 0) hKN ⟨by decide, by decide⟩)
  obtain ⟨y3, y4⟩ := KV_I (v := -1) y1 y2 s7' (no6 3)
  refine c_rTime y3 y4 (fun x' => hX _ x' (Or.inl rfl)) ?_
  simp only [cw hb, s1, s2, s7, s7']
  refine r_question y3 y4 s7' hKN.1 (fun x' => hX _ x' (Or.inr (Or.inl rfl))) (fun I1 F1 A1 p1 p2 p3 p4 p5 => ?_)
  obtain ⟨z1, z2⟩ := KV_11 (v := 50001) p1.1 p1.2.1
  have f2 : F1 o 2 = some s := by rw [p5]; exact s2
  have f7 : F1 o 7 = some r := by rw [p5]; exact s7
  have f8 : F1 o 8 = some v := by rw [p5]; exact s8
  simp only [cw hb, s1, s3, f2, f7, f8]
  have hro : r ≠ o := Is_ne s7' s1 (by decide)
  have hvo : v ≠ o := Is_ne s8' s1 (by decide)
  have e1 : up2 I1 o 11 50001 r = I1 r := up2_row _ _ _ hro
  have e2 : ∀ q, Is b 2 q → up2 I1 o 11 50001 q = I1 q := fun q hq => up2_row _ _ _ (Is_ne hq s1 (by decide))
  rw [← e1] at p2 p3
  have p3' : ∀ (i q : Nat), (i : Int) < (up2 I1 o 11 50001 r 1).toInt → i < 10 → E r 0 i = some q → TbG b (up2 I1 o 11 50001) F1 q := fun i q hi hi2 he => by
    obtain ⟨q', w1, w2⟩ := s11 r s7' i hi2
    rw [he] at w1; cases w1
    unfold TbG
    rw [e2 q w2]; exact p3 i q hi he
  generalize up2 I1 o 11 50001 = I2 at z1 z2 p2 p3' ⊢
  clear p3 e1 e2 p4
  refine c_timeOf z1 (fun tm => ?_)
  obtain ⟨⟨lt, lt1, lt2⟩, ⟨sp, sp1, sp2⟩, -⟩ := z1.2.2.1.2.2.2.2.2.2.2.2.2.2.2 v s8'
  have hrv : r ≠ v := Is_ne s7' s8' (by decide)
  have hspv : sp ≠ v := Is_ne sp2 s8' (by decide)
  have hvsp : v ≠ sp := fun z => hspv z.symm
  have g2 : up2 F1 v 6 (some r) v 2 = some sp := by rw [up2_k _ _ _ _ (by decide)]; exact sp1
  simp only [w_X8_solveAll, cw hb, s8', s7', g2, sp2]
  -- the solver begins
  have k1 : KV b g o s h vv I2 (up2 F1 v 6 (some r)) A1 E (N + 1) NW := KV_eq0 z1 (EQ_F EQ_rf s8' (by decide)) (fun l' hl' => by
    have : l' ≠ v := Is_ne hl' s8' (by decide)
    rw [up2_a _ _ _ _ this, up2_a _ _ _ _ this]; exact ⟨rfl, rfl⟩)
  obtain ⟨k2, k3⟩ := KV_I (v := tm) k1 z2 s8' (j := 7) (by decide)
  obtain ⟨k4, k5⟩ := KV_I (v := 0) k2 k3 s8' (j := 1) (by decide)
  obtain ⟨k6, k7⟩ := KV_I (v := up2 (up2 I2 v 7 tm) v 1 0 r 2) k4 k5 sp2 (j := 1) (by decide)
  obtain ⟨k8, k9⟩ := KV_I (v := 0) k6 k7 sp2 (j := 2) (by decide)
  have nq : ∀ q, Is b 2 q → up2 (up2 (up2 (up2 I2 v 7 tm) v 1 0) sp 1 (up2 (up2 I2 v 7 tm) v 1 0 r 2)) sp 2 0 q = I2 q := fun q hq => by
    rw [up2_row _ _ _ (Is_ne hq sp2 (by decide)), up2_row _ _ _ (Is_ne hq sp2 (by decide)), up2_row _ _ _ (Is_ne hq s8' (by decide)), up2_row _ _ _ (Is_ne hq s8' (by decide))]
  have nr : up2 (up2 (up2 (up2 I2 v 7 tm) v 1 0) sp 1 (up2 (up2 I2 v 7 tm) v 1 0 r 2)) sp 2 0 r = I2 r := by
    rw [up2_row _ _ _ (Is_ne s7' sp2 (by decide)), up2_row _ _ _ (Is_ne s7' sp2 (by decide)), up2_row _ _ _ hrv, up2_row _ _ _ hrv]
  have nv : up2 (up2 (up2 (up2 I2 v 7 tm) v 1 0) sp 1 (up2 (up2 I2 v 7 tm) v 1 0 r 2)) sp 2 0 v 1 = 0 := by
    rw [up2_a _ _ _ _ hvsp, up2_a _ _ _ _ hvsp, up2_self]
  have ns : up2 (up2 (up2 (up2 I2 v 7 tm) v 1 0) sp 1 (up2 (up2 I2 v 7 tm) v 1 0 r 2)) sp 2 0 sp 2 = 0 := up2_self _ _ _ _
  generalize up2 (up2 (up2 (up2 I2 v 7 tm) v 1 0) sp 1 (up2 (up2 I2 v 7 tm) v 1 0 r 2)) sp 2 0 = I3 at k8 k9 nq nr nv ns ⊢
  have nF : ∀ q, Is b 2 q → up2 F1 v 6 (some r) q = F1 q := fun q hq => up2_row _ _ _ (Is_ne hq s8' (by decide))
  have z6 : up2 F1 v 6 (some r) v 6 = some r := up2_self _ _ _ _
  have zo : up2 F1 v 6 (some r) o = F1 o := up2_row _ _ _ (fun z => hvo z.symm)
  generalize up2 F1 v 6 (some r) = F3 at k8 nF z6 g2 zo ⊢
  have zs : ZS b g o s h vv v sp r I3 F3 A1 E N := ⟨k8, k9, s8', z6, s7', g2, sp2, fun i q hi hi2 he => by
    obtain ⟨q', w1, w2⟩ := s11 r s7' i hi2
    rw [he] at w1; cases w1
    rw [nr] at hi
    unfold TbG
    rw [nq q w2, nF q w2]; exact p3' i q hi hi2 he, by rw [nv]; exact ⟨by decide, by decide⟩, by rw [ns]; decide⟩
  refine z_solve 12 0 (by decide) (by decide) (by decide) I3 F3 A1 _ _ zs (by rw [nv, ns]; decide) (fun x' => hX _ x' (Or.inr (Or.inr rfl))) (fun I4 F4 A4 b1 b2 _ _ => ?_)
  obtain ⟨⟨lt', lt1', lt2'⟩, ⟨sp', sp1', sp2'⟩, -⟩ := b1.1.2.2.1.2.2.2.2.2.2.2.2.2.2.2 v s8'
  simp only [cw hb, s8', lt1', sp1', sp2']
  have w1 := KV_F8 (j := 2) b1.1 s8' (Or.inr rfl) lt2'
  have w2 := KV_F8 (j := 0) w1 s8' (Or.inl rfl) sp2'
  have no5 : ¬ Is b 5 o := fun z => absurd (z.2.symm.trans s1.2) (by decide)
  have f8' : up2 (up2 F4 v 2 (some lt')) v 0 (some sp') o 8 = some v := by
    rw [up2_a _ _ _ _ (fun z => hvo z.symm), up2_a _ _ _ _ (fun z => hvo z.symm), b2.2.2.2.1 o no5, zo]; exact f8
  simp only [cw hb, s1, f8', s8']
  obtain ⟨u1, u2⟩ := KV_11 (v := I4 v 1) w2 b1.2.1
  exact hQ _ _ (CI_ok u1 u2)
end C34
