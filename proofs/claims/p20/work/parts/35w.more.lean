set_option linter.unusedVariables false
set_option linter.unusedSimpArgs false
/-! THE CALLS -/
/-- between two calls -/
def KInv (o N : Nat) (vv : Nat → Int32) (x : HS) : Prop := ∃ b g s h I F A E, x = cS b I F A E ∧ KV b g o s h vv I F A E N NW ∧ HZ h I
section C23
variable {b : CT} {g : Gh} {o s h N : Nat} {vv : Nat → Int32} {I I' : Nat → Nat → Int32} {F F' : Nat → Nat → Option Nat} {A A' : Nat → Nat → Nat → Int32} {E : Nat → Nat → Nat → Option Nat} {W : Nat → Prop} {X : String → HS → Prop} {Q : HS → Prop} {QI : Int32 → HS → Prop} {QF : Option Nat → HS → Prop}
theorem KV_RW (hk : KV b g o s h vv I F A E N W) : RW g F E := by
  obtain ⟨hL, hVC, hP, hC, hKP, hTS⟩ := hk.2.1
  intro l
  refine ⟨fun w => cnt (fun i => @decide (∃ f, E s 1 i = some f ∧ g.R l f < rk g l w) (Classical.propDecidable _)) 3000, fun w => cnt_le _ _, fun f t hf => ?_⟩
  obtain ⟨h1, h2, h3⟩ := On_step hL hf
  obtain ⟨i, hi, hi2⟩ := hKP.2.2.2.2.2 f (hVC.1 l f (hf f rfl).1).1
  have := hKP.2.1
  have e : rk g l (some f) = g.R l f + 1 := rfl
  refine cnt_less (i0 := i) (by omega) (fun j hj hp => ?_) ?_ ?_
  · obtain ⟨f', z1, z2⟩ := @of_decide_eq_true _ (Classical.propDecidable _) hp
    exact @decide_eq_true _ (Classical.propDecidable _) ⟨f', z1, by omega⟩
  · refine @decide_eq_false _ (Classical.propDecidable _) (fun ⟨f', z1, z2⟩ => ?_)
    rw [hi2] at z1; cases z1
    rw [e] at h3; omega
  · exact @decide_eq_true _ (Classical.propDecidable _) ⟨f, hi2, by omega⟩
theorem KV_b {c z : Nat} (hk : KV b g o s h vv I F A E (N + 1) W) (hc : b.B.c ≤ c + 16) (hz : b.B.z ≤ z + 100) : KV (b.B.wC c z, b.2) g o s h vv I F A E N W := by
  obtain ⟨h1, h2, h3, h4, h5, h6, h7, h8, h9⟩ := hk
  refine ⟨h1, h2, h3, h4, h5, h6, h7, ?_, h9⟩
  unfold BU at h8 ⊢
  show _ ≤ c ∧ _ ≤ z
  omega
theorem KV_less (hk : KV b g o s h vv I F A E (N + 1) W) : KV b g o s h vv I F A E N W := by
  obtain ⟨h1, h2, h3, h4, h5, h6, h7, h8, h9⟩ := hk
  refine ⟨h1, h2, h3, h4, h5, h6, h7, ?_, h9⟩
  unfold BU at h8 ⊢
  omega
theorem CI_ok (hk : KV b g o s h vv I F A E (N + 1) NW) (hz : HZ h I) : KInv o N vv (cS b I F A E) := ⟨b, g, s, h, I, F, A, E, rfl, KV_less hk, hz⟩
theorem c_thr (hk : KV b g o s h vv I F A E (N + 1) NW) (hz : HZ h I) {S : String} (hX : ∀ x', KInv o N vv x' → X S x') : wThrow (cS b I F A E) S X := by
  have hB := hk.2.2.2.2.2.2.2.1
  unfold BU at hB
  rw [c_throw]
  exact ⟨by omega, by omega, hX _ ⟨_, g, s, h, I, F, A, E, rfl, KV_b hk (by omega) (by omega), hz⟩⟩
theorem c_range (hk : KV b g o s h vv I F A E (N + 1) NW) (hz : HZ h I) {l0 l1 l2 : Int32} (hX : ∀ x', KInv o N vv x' → X eIA x') (hQ : l1.toInt ≤ l0.toInt → l0.toInt ≤ l2.toInt → Q (cS b I F A E)) : w_X11_requireRange l0 l1 l2 (cS b I F A E) Q X := by
  simp only [w_X11_requireRange, wJoin, wIf]
  refine ⟨fun _ => c_thr hk hz hX, fun h1 => ⟨fun h2 => ?_, fun _ => c_thr hk hz hX⟩⟩
  simp only [i32] at h1 h2
  exact hQ (by omega) h2
theorem c_tableAt (hk : KV b g o s h vv I F A E N NW) {t : Int32} (hQ : ∀ r, (∀ a, r = some a → Is b 10 a) → QF r (cS b I F A E)) : w_X9_tableAt (some s) t (cS b I F A E) QF X := by
  obtain ⟨s1, s2, s3, -⟩ := id hk.2.2.1
  obtain ⟨t1, t2, t3⟩ := hk.2.1.2.2.2.2.2
  simp only [w_X9_tableAt, wJoin, wIf, cw hk.1, s3]
  refine ⟨fun _ => hQ none (by simp), fun h1 => ⟨fun h2 => ?_, fun _ => hQ none (by simp)⟩⟩
  simp only [i32, Int32.reduceToInt] at h1 h2
  exact ⟨⟨by omega, by omega⟩, hQ _ (fun a ha => t3 _ a ha)⟩
theorem c_tableOf (hk : KV b g o s h vv I F A E (N + 1) NW) (hz : HZ h I) {t : Int32} (hX : ∀ x', KInv o N vv x' → X eNE x') (hQ : ∀ a, Is b 10 a → QF (some a) (cS b I F A E)) : w_X11_tableOf (some o) t (cS b I F A E) QF X := by
  obtain ⟨s1, s2, s3, -⟩ := id hk.2.2.1
  simp only [w_X11_tableOf, cw hk.1, s1, s2, s3]
  refine c_tableAt hk (fun r hr => ⟨fun _ => c_thr hk hz hX, fun hn => ?_⟩)
  obtain ⟨a, rfl⟩ := Option.ne_none_iff_exists'.mp hn
  exact hQ a (hr a rfl)
theorem c_timeOf (hk : KV b g o s h vv I F A E N NW) {t : Int32} (hQ : ∀ r, QI r (cS b I F A E)) : w_X9_timeOf (some s) t (cS b I F A E) QI X := by
  obtain ⟨s1, s2, s3, -⟩ := id hk.2.2.1
  simp only [w_X9_timeOf, wJoin, wIf, cw hk.1, s3]
  exact ⟨fun _ => hQ _, fun _ => hQ _⟩
theorem c_rTime (hk : KV b g o s h vv I F A E (N + 1) NW) (hz : HZ h I) {t : Int32} (hX : ∀ x', KInv o N vv x' → X eIA x') (hQ : Q (cS b I F A E)) : w_X11_requireTime (some o) t (cS b I F A E) Q X := by
  obtain ⟨s1, s2, s3, -⟩ := id hk.2.2.1
  simp only [w_X11_requireTime, wJoin, wIf, cw hk.1, s1, s2, s3]
  exact ⟨fun _ => hQ, fun _ => c_range hk hz hX (fun _ _ => hQ)⟩
theorem c_rLook (hk : KV b g o s h vv I F A E (N + 1) NW) (hz : HZ h I) {t m a : Int32} (hX : ∀ e x', (e = eIA ∨ e = eNE) → KInv o N vv x' → X e x') (hQ : Q (cS b I F A E)) : w_X11_requireLook (some o) t m a (cS b I F A E) Q X := by
  obtain ⟨s1, s2, s3, -⟩ := id hk.2.2.1
  simp only [w_X11_requireLook]
  refine c_range hk hz (fun x' => hX _ x' (Or.inl rfl)) (fun _ _ => ?_)
  rw [c_recv s1]
  refine c_rTime hk hz (fun x' => hX _ x' (Or.inl rfl)) ?_
  rw [c_recv s1]
  exact c_tableOf hk hz (fun x' => hX _ x' (Or.inr rfl)) (fun _ _ => hQ)
/-- a look has changed -/
theorem KV_look (hk : KV b g o s h vv I F A E N NW) {l : Nat} (hl : Is b 5 l) (h1 : Ol l I I') (h2 : Ol l F F') (h3 : Ol l A A') (hR : Rd b g F' l) : KV b g o s h vv I' F' A' E N NW ∧ (HZ h I → HZ h I') := by
  obtain ⟨s1, s2, s3, s4, s5, -⟩ := id hk.2.2.1
  refine ⟨KV_eq hk (EQ_look hl h1 h2 h3) (CU_eq hk.2.2.2.2.2.1 (by rw [h3 o (Is_ne s1 hl (by decide))]) rfl (fun l' hl' hR' => Rd_Ol hk.2.1.1 hR' h2 hl hR)), fun hz => ?_⟩
  unfold HZ
  rw [h1 h (Is_ne s5 hl (by decide))]; exact hz
theorem c_bLook (hk : KV b g o s h vv I F A E (N + 1) NW) (hz : HZ h I) {l : Nat} {t m a : Int32} (hl : Is b 5 l) (hX : ∀ e x', (e = eIA ∨ e = eNE) → KInv o N vv x' → X e x') (hQ : ∀ I' F' A', KV b g o s h vv I' F' A' E (N + 1) NW → HZ h I' → Rd b g F' l → A' o = A o → F' o = F o → Q (cS b I' F' A' E)) : w_X11_beginLook (some o) (some l) t m a (cS b I F A E) Q X := by
  obtain ⟨s1, s2, s3, -⟩ := id hk.2.2.1
  simp only [w_X11_beginLook, cw hk.1, s1, hl]
  refine c_rLook hk hz hX ?_
  rw [c_recv s1]
  refine c_tableOf hk hz (fun x' => hX _ x' (Or.inr rfl)) (fun ta hta => ?_)
  simp only [cw hk.1, s1, s2, s3]
  refine c_timeOf hk (fun r => ?_)
  rw [c_recv hl]
  refine c_begin hk.1 hl hta ⟨11, o, 1, rfl, s1, by decide, by decide⟩ (fun I' F' A' z1 z2 z3 z4 z5 _ => ?_)
  have hR : Rd b g F' l := ⟨hl, ta, z4, hta, fun f hf => by rw [z5] at hf; exact absurd hf (by simp)⟩
  obtain ⟨y1, y2⟩ := KV_look hk hl z1 z2 z3 hR
  exact hQ I' F' A' y1 (y2 hz) hR (z3 o (Is_ne s1 hl (by decide))) (z2 o (Is_ne s1 hl (by decide)))
theorem k_adv (hk : KV b g o s h vv I F A E N NW) (hz : HZ h I) {l : Nat} (hR : Rd b g F l) (hQ : ∀ r I' F', KV b g o s h vv I' F' A E N NW → HZ h I' → Rd b g F' l → (∀ f, r = some f → g.V 4 f) → F' o = F o → QF r (cS b I' F' A E)) : w_X5_advance (some l) (cS b I F A E) QF X := by
  refine c_advance hk.1 hk.2.1.1 hk.2.1.2.1 (KV_RW hk) hR (fun r I' F' z1 z2 z3 z4 _ _ => ?_)
  obtain ⟨y1, y2⟩ := KV_look hk hR.1 z2 z3 Ol_rf z4
  obtain ⟨t, -, ht⟩ := z1
  exact hQ r I' F' y1 (y2 hz) z4 (fun f hf => (ht f hf).1) (z3 o (Is_ne hk.2.2.1.1 hR.1 (by decide)))
theorem KV_I (hk : KV b g o s h vv I F A E N NW) (hz : HZ h I) {c a j : Nat} {v : Int32} (ha : Is b c a) (hj : (c, j) ∉ rI2) : KV b g o s h vv (up2 I a j v) F A E N NW ∧ HZ h (up2 I a j v) := by
  obtain ⟨s1, s2, s3, s4, s5, -⟩ := id hk.2.2.1
  refine ⟨KV_eq0 hk (EQ_I EQ_rf ha hj) (fun _ _ => ⟨rfl, rfl⟩), ?_⟩
  have e : ∀ i, i = 3 ∨ i = 4 → up2 I a j v h i = I h i := fun i hi => by
    unfold up2
    rw [if_neg]
    rintro ⟨rfl, rfl⟩
    apply hj
    rw [← ha.2, s5.2]
    rcases hi with rfl | rfl <;> decide
  unfold HZ
  rw [e 3 (Or.inl rfl), e 4 (Or.inr rfl)]; exact hz
theorem k_num (hk : KV b g o s h vv I F A E N NW) {r : Option Nat} (hr : ∀ f, r = some f → g.V 4 f) (hQ : ∀ v, QI v (cS b I F A E)) : w_X11_numberOf r (cS b I F A E) QI X := by
  simp only [w_X11_numberOf, wJoin, wIf]
  refine ⟨fun _ => hQ _, fun hn => ?_⟩
  obtain ⟨f, rfl⟩ := Option.ne_none_iff_exists'.mp hn
  rw [c_getI (hk.2.1.1.2.2.2 _ _ (hr f rfl)).1]; exact hQ _
end C23
