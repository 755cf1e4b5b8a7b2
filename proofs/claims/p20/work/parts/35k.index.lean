set_option linter.unusedVariables false
set_option linter.unusedSimpArgs false
/-! facts come and go -/
/-- the history has not got shorter, and stays as it is without marks -/
def HLe (h : Nat) (I I' : Nat → Nat → Int32) : Prop := (I h 3).toInt ≤ (I' h 3).toInt ∧ ((I h 4).toInt ≤ 0 → I' h 3 = I h 3)
theorem HLe_rf {h : Nat} {I : Nat → Nat → Int32} : HLe h I I := ⟨Int.le_refl _, fun _ => rfl⟩
def HZ (h : Nat) (I : Nat → Nat → Int32) : Prop := (I h 4).toInt = 0 → (I h 3).toInt = 0
theorem HZ_le {h : Nat} {I I' : Nat → Nat → Int32} (hz : HZ h I) (h4 : I' h 4 = I h 4) (hl : HLe h I I') : HZ h I' := fun z => by
  rw [h4] at z
  rw [hl.2 (by omega)]; exact hz z
section C11
variable {b : CT} {g : Gh} {o s h N : Nat} {vv : Nat → Int32} {I I' : Nat → Nat → Int32} {F F' : Nat → Nat → Option Nat} {A A' : Nat → Nat → Nat → Int32} {E E' : Nat → Nat → Nat → Option Nat} {W W' : Nat → Prop} {X : String → HS → Prop} {Q : HS → Prop} {QF : Option Nat → HS → Prop}
theorem c_len (hb : CB b) {ci a j kd : Nat} (ha : Is b ci a) (hk : oF ci j = kd) (h0 : kd ≠ 0) {Z : Int32 → Prop} : wLen (cS b I F A E) kd (some (b.ad a j)) Z = Z (Int32.ofNat (oL ci j)) := by
  obtain ⟨h1, h2, h3, h4⟩ := c_arr hb ha (j := j) (by rw [hk]; exact h0)
  refine propext ⟨?_, fun z => ⟨_, rfl, h2, h3.trans hk, by show Z (Int32.ofNat (b.B.n (b.ad a j))); rw [h4]; exact z⟩⟩
  rintro ⟨a', e', -, -, z⟩
  cases e'
  have z : Z (Int32.ofNat (b.B.n (b.ad a j))) := z
  rw [h4] at z; exact z
theorem c_note (hb : CB b) {f : Nat} {w : Int32} (hh : Is b 3 h) (hf : Is b 1 f) (hI : HI b g h I F A E W) (hw : w = 0 ∨ w = 1) (hW : ∀ a, W a → W' a) (hfW : g.V 4 f ∨ W' f) (hst : w = 0 → ∀ f', F f 3 = some f' → g.V 4 f') (hQ : ∀ I' A' E', Ol h I I' → Ol h A A' → Ol h E E' → I' h 4 = I h 4 → HLe h I I' → HI b g h I' F A' E' W' → Q (cS b I' F A' E')) : w_X3_note (some h) (some f) w (cS b I F A E) Q X := by
  obtain ⟨⟨a1, a2⟩, a3, a4, a5⟩ := hI
  have hI0 : HI b g h I F A E W' := ⟨⟨a1, a2⟩, a3, fun i hi => by
    obtain ⟨f, z1, z2, z3, z4⟩ := a4 i hi
    exact ⟨f, z1, z2, z3.imp id (hW f), z4⟩, a5⟩
  simp only [w_X3_note, cw hb, hh, c_len hb hh (show oF 3 0 = 25 by decide) (by decide)]
  have q0 := hQ I A E Ol_rf Ol_rf Ol_rf rfl HLe_rf hI0
  refine wJoin_i (fun K => ∀ I' A' E', Ol h I I' → Ol h A A' → Ol h E E' → I' h 4 = I h 4 → HLe h I I' → HI b g h I' F A' E' W' → K (cS b I' F A' E')) hQ (fun K hK => ⟨fun _ => hK _ _ _ Ol_rf Ol_rf Ol_rf rfl HLe_rf hI0, fun h0 => ⟨fun _ => hK _ _ _ Ol_rf Ol_rf Ol_rf rfl HLe_rf hI0, fun h6 => ?_⟩⟩)
  have h7 : (I h 3).toInt < 6000 := by
    have e : (Int32.ofNat (oL 3 0)).toInt = 6000 := by decide
    have h6' : ¬ (Int32.ofNat (oL 3 0)).toInt ≤ (I h 3).toInt := fun z => h6 (by rw [Int32.le_iff_toInt_le]; exact z)
    rw [e] at h6'; omega
  have hin : wIn (I h 3) 6000 := ⟨a1, by omega⟩
  have hix : ((ix (I h 3) : Nat) : Int) = (I h 3).toInt := ix_int a1
  have ev : (I h 3 + 1).toInt = (I h 3).toInt + 1 := i_add rfl (by decide) (by omega)
  simp only [hin, true_and]
  refine ⟨fun y hy => by cases hy; exact hf, hw, ?_⟩
  have e4 : up2 I h 3 (I h 3 + 1) h 4 = I h 4 := up2_k _ _ _ _ (by decide)
  refine hK _ _ _ (Ol_up2 Ol_rf) (Ol_up3 Ol_rf) (Ol_up3 Ol_rf) e4 ⟨by rw [up2_self]; omega, fun z => absurd z (fun z => h0 (by rw [Int32.le_iff_toInt_le]; exact z))⟩ ?_
  unfold HI
  rw [up2_self, e4, up3_at, up3_at, up3_ne (show ¬ (h = h ∧ 2 = 1) by omega)]
  refine ⟨⟨by omega, by omega⟩, a3, fun i hi => ?_, a5⟩
  by_cases hq : i = ix (I h 3)
  · subst hq
    rw [va_up_self, va_up_self]
    exact ⟨f, rfl, hf, hfW, hst⟩
  · rw [va_up_ne _ _ hq, va_up_ne _ _ hq]
    obtain ⟨f', z1, z2, z3, z4⟩ := a4 i (by omega)
    exact ⟨f', z1, z2, z3.imp id (hW f'), z4⟩
/-- only the history has changed -/
theorem KV_h (hk : KV b g o s h vv I F A E N W) (h1 : Ol h I I') (h2 : Ol h A A') (h3 : Ol h E E') (hH : HI b g h I' F A' E' W') : KV b g o s h vv I' F A' E' N W' := by
  obtain ⟨k1, k2, k3, k4, k5, k6, k7, k8, k9⟩ := hk
  obtain ⟨s1, s2, s3, s4, s5, s6, s7, s8, s9, s10, s11, s12⟩ := id k3
  have nI : ∀ c a, Is b c a → c ≠ 3 → I' a = I a := fun c a ha hc => h1 a (Is_ne ha s5 hc)
  have nA : ∀ c a, Is b c a → c ≠ 3 → A' a = A a := fun c a ha hc => h2 a (Is_ne ha s5 hc)
  have nE : ∀ c a, Is b c a → c ≠ 3 → E' a = E a := fun c a ha hc => h3 a (Is_ne ha s5 hc)
  have hT := k2.2.2.2.2.2
  refine ⟨k1, Core_eq k2 (Ol_eqI s5 h1 (no_rI (by decide))) eqF_rf (Ol_eqA s5 h2 (by decide)) (Ol_eqE s5 h3 (no_rE (by decide))), ?_, ?_, hH, ?_, ?_, ?_, ?_⟩
  · unfold SK
    rw [nE 11 o s1 (by decide)]
    exact ⟨s1, s2, s3, s4, s5, s6, s7, s8, s9, s10, fun r hr => by rw [nE 6 r hr (by decide)]; exact s11 r hr, fun v hv => by rw [nE 8 v hv (by decide)]; exact s12 v hv⟩
  · unfold TY
    rw [nI 9 s s3 (by decide), nE 9 s s3 (by decide)]; exact k4
  · unfold CU
    rw [nA 11 o s1 (by decide), nE 11 o s1 (by decide)]; exact k6
  · unfold KN
    rw [nI 11 o s1 (by decide)]; exact k7
  · unfold BU NK
    rw [nE 9 s s3 (by decide), NI_eq s3 hT (by rw [nE 9 s s3 (by decide)]) (fun t ht => by rw [nE 10 t ht (by decide)])]
    exact k8
  · refine ⟨⟨by rw [nA 11 o s1 (by decide)]; exact k9.1.1, GO_fr k9.1.2 (fun _ h => h) (fun q hq => by rw [nI 2 q hq (by decide)]) (fun q hq => by rw [nA 2 q hq (by decide)]; exact ⟨rfl, rfl⟩)⟩, fun x hx => ?_, by rw [nI 9 s s3 (by decide), nE 9 s s3 (by decide)]; exact k9.2.2⟩
    rw [nI 4 x hx (by decide), nE 10 _ (k2.1.2.1 x hx).2.1 (by decide)]
    exact k9.2.1 x hx
theorem c_go (hk : KV b g o s h vv I F A E N W) {f : Nat} (hf : g.V 4 f) (hQ : ∀ I' A' E', KV b g o s h vv I' F A' E' N W → I' h 4 = I h 4 → HLe h I I' → Q (cS b I' F A' E')) : w_X9_go (some s) (some f) (cS b I F A E) Q X := by
  obtain ⟨s1, s2, s3, s4, s5, -⟩ := hk.2.2.1
  have hb := hk.1
  have hf1 := (hk.2.1.1.2.2.2 _ _ hf).1
  simp only [w_X9_go, cw hb, s3, hf1, s4, s5]
  generalize hI1 : up2 (up2 I s 6 _) f 6 _ = I1
  have hE : EQ b I I1 F F A A E E := by rw [← hI1]; exact EQ_I (EQ_I EQ_rf s3 (by decide)) hf1 (by decide)
  have hk1 := KV_eq0 hk hE (fun _ _ => ⟨rfl, rfl⟩)
  have e3 : I1 h 3 = I h 3 := hE.1 3 h 3 s5 (by decide)
  have e4 : I1 h 4 = I h 4 := hE.1 3 h 4 s5 (by decide)
  clear hI1
  refine c_note hb s5 hf1 hk1.2.2.2.2.1 (Or.inr rfl) (fun _ h => h) (Or.inl hf) (fun z => absurd z (by decide)) (fun I' A' E' y1 y2 y3 y4 y5 y6 => ?_)
  exact hQ I' A' E' (KV_h hk1 y1 y2 y3 y6) (by rw [y4, e4]) (by unfold HLe at y5 ⊢; rw [e3, e4] at y5; exact y5)
end C11
