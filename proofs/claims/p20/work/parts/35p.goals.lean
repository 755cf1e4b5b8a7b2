set_option linter.unusedVariables false
set_option linter.unusedSimpArgs false
section C16
variable {b : CT} {g : Gh} {o s h N : Nat} {vv : Nat → Int32} {I I' : Nat → Nat → Int32} {F F' : Nat → Nat → Option Nat} {A A' : Nat → Nat → Nat → Int32} {E E' : Nat → Nat → Nat → Option Nat} {W : Nat → Prop} {X : String → HS → Prop} {Q : HS → Prop} {QI : Int32 → HS → Prop} {QF : Option Nat → HS → Prop}
theorem SK_fr {b' : CT} (hS : SK b o s h F E) (h1 : ∀ c a, Is b c a → Is b' c a) (h2 : ∀ c a, c ∈ [9, 6, 8] → Is b' c a → Is b c a) (hF : ∀ c a j, Is b c a → (c, j) ∈ [(11, 2), (9, 2), (11, 6), (11, 7), (11, 8), (8, 0), (8, 2)] → F' a j = F a j) (hE : ∀ c a j, Is b c a → (c, j) ∈ [(11, 3), (6, 0), (8, 3)] → E' a j = E a j) : SK b' o s h F' E' := by
  obtain ⟨s1, s2, s3, s4, s5, s6, s7, s8, s9, s10, s11, s12⟩ := hS
  have ex : ∀ {c : Nat} {u : Option Nat}, (∃ l, u = some l ∧ Is b c l) → ∃ l, u = some l ∧ Is b' c l := fun ⟨l, z1, z2⟩ => ⟨l, z1, h1 _ _ z2⟩
  unfold SK
  rw [hF 11 o 2 s1 (by decide), hF 9 s 2 s3 (by decide), hF 11 o 6 s1 (by decide), hF 11 o 7 s1 (by decide), hF 11 o 8 s1 (by decide), hE 11 o 3 s1 (by decide)]
  refine ⟨h1 _ _ s1, s2, h1 _ _ s3, s4, h1 _ _ s5, ex s6, ex s7, ex s8, fun i hi => ex (s9 i hi), fun a ha => s10 a (h2 9 a (by decide) ha), fun r hr i hi => ?_, fun v hv => ?_⟩
  · have hr' := h2 6 r (by decide) hr
    rw [hE 6 r 0 hr' (by decide)]; exact ex (s11 r hr' i hi)
  · have hv' := h2 8 v (by decide) hv
    rw [hF 8 v 0 hv' (by decide), hF 8 v 2 hv' (by decide), hE 8 v 3 hv' (by decide)]
    exact ⟨ex (s12 v hv').1, ex (s12 v hv').2.1, fun i hi => ex ((s12 v hv').2.2 i hi)⟩
/-- two have changed places -/
def sw (c v i : Nat) : Nat := if i = c then v else if i = v then c else i
theorem sw_inj {c v i j : Nat} (h : sw c v i = sw c v j) : i = j := by
  unfold sw at h
  by_cases h1 : i = c <;> by_cases h2 : i = v <;> by_cases h3 : j = c <;> by_cases h4 : j = v <;> simp_all <;> omega
theorem sw_sw {c v i : Nat} : sw c v (sw c v i) = i := by
  unfold sw
  by_cases h1 : i = c
  · subst h1; rw [if_pos rfl]; by_cases h : v = i
    · rw [if_pos h, h]
    · rw [if_neg h, if_pos rfl]
  · rw [if_neg h1]
    by_cases h2 : i = v
    · subst h2; rw [if_pos rfl, if_pos rfl]
    · rw [if_neg h2, if_neg h1, if_neg h2]
theorem sw_up {e : Nat → Option Nat} {c v f : Nat} (hv : e v = some f) : va_up (va_up e v (e c)) c (some f) = fun i => e (sw c v i) := by
  funext i
  unfold sw
  by_cases h1 : i = c
  · rw [h1, va_up_self, if_pos rfl, hv]
  · rw [va_up_ne _ _ h1, if_neg h1]
    by_cases h2 : i = v
    · rw [h2, va_up_self, if_pos rfl]
    · rw [va_up_ne _ _ h2, if_neg h2]
theorem c_forget (hk : KV b g o s h vv I F A E N NW) (hz : (I h 3).toInt = 0) (hcu : ∀ i, i < 10 → A o 4 i = 0) {u : Int32} (hQ : ∀ r g' I' F' E', KV b g' o s h vv I' F' A E' N NW → I' h = I h → I' o = I o → QI r (cS b I' F' A E')) : w_X9_forgetDead (some s) u (cS b I F A E) QI X := by
  have hb := hk.1
  obtain ⟨s1, s2, s3, s4, s5, -⟩ := id hk.2.2.1
  simp only [w_X9_forgetDead, cw hb, s3]
  generalize hw : (if I s 7 < u then u else I s 7) = w
  have hk1 := KV_eq0 (I' := up2 I s 7 w) hk (EQ_I EQ_rf s3 (by decide)) (fun _ _ => ⟨rfl, rfl⟩)
  have eh : up2 I s 7 w h = I h := up2_row _ _ _ (Is_ne s5 s3 (by decide))
  have eo : up2 I s 7 w o = I o := up2_row _ _ _ (Is_ne s1 s3 (by decide))
  have ew : up2 I s 7 w s 7 = w := up2_self _ _ _ _
  rw [← eh] at hz
  rw [← eh, ← eo] at hQ
  generalize up2 I s 7 w = I1 at hk1 hz hQ ew ⊢
  clear eh eo hk hw
  obtain ⟨-, hCo, hSK, hTY, hHI, hCU, hKN, hBU, hvv⟩ := hk1
  obtain ⟨hL, hVC, hP, hC, hKP, hTS⟩ := id hCo
  obtain ⟨-, ⟨k1, k2⟩, k3, k4, k5, k6⟩ := id hKP
  refine wLoop_i (fun n v y => ∃ g1 F1 E1, y = cS b I1 F1 A E1 ∧ Fr b b I1 I1 F F1 E E1 ∧ LO b g1 I1 F1 E1 ∧ PR g1 F1 E1 ∧ CE b g1 I1 F1 A E1 ∧ VC g1 F1 E1 NX ∧ (∀ l f, g1.V l f → g.V l f) ∧ (∀ (i t f : Nat), i < ix v → E s 0 i = some t → g1.V 4 f → F f 2 = some t → Sv I1 w f) ∧ (∀ x, Is b 4 x → E1 (g1.U x) 3 (ix (I1 x 0)) = some x) ∧ 0 ≤ v.toInt ∧ v.toInt ≤ (I1 s 3).toInt ∧ n = (12 - v.toInt).toNat) 12 ⟨g, F, E, rfl, Fr_rf, hL, hP, hC, hVC, fun _ _ h => h, fun i t f hi => absurd hi (by show ¬ i < 0; omega), hvv.2.1, by decide, by have := hTS.1; simp only [Int32.reduceToInt]; omega, by decide⟩ ?_
  rintro n v y again ha ⟨g1, F1, E1, rfl, p1, p2, p3, p4, p5, p6, p7, p8, p9, p10, p11⟩
  have hvi : ((ix v : Nat) : Int) = v.toInt := ix_int p9
  have h12 := hTS.1
  have e0 : E1 s 0 = E s 0 := p1.2.2.2.2.2 9 s 0 s3 (by decide) (by decide)
  have e1 : E1 s 1 = E s 1 := p1.2.2.2.2.2 9 s 1 s3 (by decide) (by decide)
  have f2 : ∀ c a, Is b c a → F1 a 2 = F a 2 := fun c a hca => p1.2.2.2.2.1 c a 2 hca (by omega)
  rw [c_getI s3]
  refine ⟨fun hv => ?_, fun hv => ?_⟩
  · have hv1 : v.toInt = (I1 s 3).toInt := by simp only [i32] at hv; omega
    have hS : ∀ f, g1.V 4 f → Sv I1 w f := fun f hf => by
      obtain ⟨q1, ⟨t, q2, q3⟩, -⟩ := hL.2.2.2 _ _ (p6 _ _ hf)
      obtain ⟨i, z1, z2⟩ := hvv.2.2.1 t q3
      exact p7 i t f (by omega) z2 hf q2
    have hCo1 : Core b g1 s I1 F1 A E1 NX := ⟨p2, p5, p3, p4, ⟨s3, ⟨k1, k2⟩, by rw [e1]; exact k3, by rw [e1]; exact k4, by rw [e1]; exact k5, fun f hf => by rw [e1]; exact k6 f (p6 _ _ hf)⟩, by unfold TS; rw [e0]; exact hTS⟩
    simp only [cw hb, s3]
    refine wLoop_i (fun n v y => ∃ I2 E2, y = cS b I2 F1 A E2 ∧ (∀ a j, ¬ (a = s ∧ j = 4) → I2 a j = I1 a j) ∧ (∀ a j, ¬ (a = s ∧ j = 1) → E2 a j = E1 a j) ∧ 0 ≤ (I2 s 4).toInt ∧ (I2 s 4).toInt ≤ v.toInt ∧ v.toInt ≤ (I1 s 4).toInt ∧ (∀ i : Nat, (i : Int) < (I1 s 4).toInt → ∃ j : Nat, (j : Int) < (I1 s 4).toInt ∧ E2 s 1 i = E s 1 j) ∧ (∀ i : Nat, (I1 s 4).toInt ≤ (i : Int) → E2 s 1 i = E s 1 i) ∧ (∀ i j f, i < 3000 → j < 3000 → E2 s 1 i = some f → E2 s 1 j = some f → i = j) ∧ (∀ f, g1.V 4 f → ∃ i : Nat, ((i : Int) < (I2 s 4).toInt ∨ v.toInt ≤ i ∧ (i : Int) < (I1 s 4).toInt) ∧ E2 s 1 i = some f) ∧ n = (3000 - v.toInt).toNat) 3000 ⟨up2 I1 s 4 0, E1, rfl, fun a j hj => if_neg hj, fun _ _ _ => rfl, by rw [up2_self]; decide, by rw [up2_self]; decide, by simp only [Int32.reduceToInt]; omega, fun i hi => ⟨i, hi, by rw [e1]⟩, fun i hi => by rw [e1], by rw [e1]; exact k5, fun f hf => ?_, by decide⟩ ?_
    · obtain ⟨i, z1, z2⟩ := k6 f (p6 _ _ hf)
      exact ⟨i, Or.inr ⟨by simp only [Int32.reduceToInt]; omega, z1⟩, by rw [e1]; exact z2⟩
    · rintro n v y again2 ha2 ⟨I2, E2, rfl, q1, q2, q3, q4, q5, q6, q7, q8, q9, q10⟩
      have hvi : ((ix v : Nat) : Int) = v.toInt := ix_int (by omega)
      refine ⟨fun hv => ?_, fun hv => ?_⟩
      · have hv1 : v.toInt = (I1 s 4).toInt := by simp only [i32] at hv; omega
        rw [c_getI s3]
        have i2 : ∀ c a j, Is b c a → c ≠ 9 → I2 a j = I1 a j := fun c a j hca hc => q1 a j (fun z => Is_ne hca s3 hc z.1)
        have E2' : ∀ c a j, Is b c a → c ≠ 9 → E2 a j = E1 a j := fun c a j hca hc => q2 a j (fun z => Is_ne hca s3 hc z.1)
        have is3 : I2 s 3 = I1 s 3 := q1 s 3 (by omega)
        have es0 : E2 s 0 = E s 0 := by rw [q2 s 0 (by omega), e0]
        have hin : ∀ (i : Nat) (f : Nat), (i : Int) < (I1 s 4).toInt → E2 s 1 i = some f → ∃ j : Nat, (j : Int) < (I1 s 4).toInt ∧ E s 1 j = some f := fun i f hi hf => by
          obtain ⟨j, z1, z2⟩ := q6 i hi
          exact ⟨j, z1, by rw [← z2]; exact hf⟩
        have his : ∀ i f, E2 s 1 i = some f → Is b 1 f := fun i f hf => by
          by_cases hi : (i : Int) < (I1 s 4).toInt
          · obtain ⟨j, z1, z2⟩ := hin i f hi hf
            exact k4 j f z2
          · rw [q7 i (by omega)] at hf; exact k4 i f hf
        refine hQ _ g1 I2 F1 E2 ⟨hb, Core_gen hCo1 (fun _ _ h => h) (fun _ _ _ h => h) (fun c a j hca hr => i2 c a j hca (by rintro rfl; simp at hr)) (fun _ _ _ _ _ => rfl) (fun c a j hca hr => E2' c a j hca (by rintro rfl; simp at hr)) (fun l f hf => ⟨rfl, rfl, E2' 1 f 1 (hL.2.2.2 _ _ (p6 _ _ hf)).1 (by decide)⟩) ⟨s3, ⟨q3, by omega⟩, fun i hi => ?_, his, q8, fun f hf => ?_⟩ ⟨by rw [is3]; exact hTS.1, by rw [is3, es0]; exact hTS.2.1, by rw [es0]; exact hTS.2.2⟩, ?_, fun i f hi hf => ?_, ?_, fun i hi ho => absurd (hcu i hi) ho, ?_, ?_, ⟨hvv.1.1, GO_fr hvv.1.2 (fun _ h => h) (fun q hq => i2 2 q 5 hq (by decide)) (fun q hq => ⟨rfl, rfl⟩)⟩, fun x hx => ?_, ?_⟩ ?_ ?_
        · obtain ⟨j, z1, z2⟩ := q6 i (by omega)
          rw [z2]; exact k3 j z1
        · obtain ⟨i, z1, z2⟩ := q9 f hf
          exact ⟨i, by omega, z2⟩
        · exact SK_fr hSK (fun _ _ h => h) (fun _ _ _ h => h) (fun c a j hca hr => p1.2.2.2.2.1 c a j hca (by rintro ⟨rfl, -⟩; simp at hr)) (fun c a j hca hr => by rw [E2' c a j hca (by rintro rfl; simp at hr), p1.2.2.2.2.2 c a j hca (by rintro ⟨rfl, -⟩; simp at hr) (by rintro ⟨rfl, -⟩; simp at hr)])
        · obtain ⟨j, z1, z2⟩ := hin i f (by omega) hf
          rw [f2 1 f (his i f hf)]
          exact hTY j f z1 z2
        · unfold HI
          rw [i2 3 h 3 s5 (by decide), i2 3 h 4 s5 (by decide)]
          exact ⟨hHI.1, hHI.2.1, fun i hi => by omega, hHI.2.2.2⟩
        · unfold KN
          rw [i2 11 o 9 s1 (by decide), i2 11 o 10 s1 (by decide)]; exact hKN
        · unfold BU
          have en : NK s E2 = NK s E := by
            refine cnt_congr (fun i hi => ?_)
            by_cases hi2 : (i : Int) < (I1 s 4).toInt
            · obtain ⟨j, z1, z2⟩ := q6 i hi2
              have := k3 j z1
              have h2 := k3 i hi2
              rw [z2]
              cases hj : E s 1 j with
              | none => exact absurd hj this
              | some _ => cases hi3 : E s 1 i with
                | none => exact absurd hi3 h2
                | some _ => rfl
            · rw [q7 i (by omega)]
          rw [en, NI_eq s3 hTS es0 (fun t ht => by rw [E2' 10 t 3 ht (by decide)]; exact p1.2.2.2.2.2 10 t 3 ht (by decide) (by decide))]
          exact hBU
        · have hU : Is b 10 (g1.U x) := (p2.2.1 x hx).2.1
          rw [E2' 10 _ 3 hU (by decide), i2 4 x 0 hx (by decide)]; exact p8 x hx
        · rw [is3, es0]; exact hvv.2.2
        · funext j; exact i2 3 h j s5 (by decide)
        · funext j; exact i2 11 o j s1 (by decide)
      · have hv1 : v.toInt < (I1 s 4).toInt := by simp only [i32] at hv; omega
        have hvin : wIn v 3000 := ⟨by omega, by omega⟩
        have ev : (v + 1).toInt = v.toInt + 1 := i_add rfl (by decide) (by omega)
        obtain ⟨j, z1, z2⟩ := q6 (ix v) (by omega)
        obtain ⟨f, hf⟩ := Option.ne_none_iff_exists'.mp (k3 j z1)
        have hf1 := k4 j f hf
        have hev : E2 s 1 (ix v) = some f := by rw [z2]; exact hf
        have i6 : I2 f 6 = I1 f 6 := q1 f 6 (by omega)
        have i7 : I2 s 7 = w := by rw [q1 s 7 (by omega)]; exact ew
        simp only [cw hb, s3, hvin, true_and, hev, hf1, c_isThereNow hf1]
        generalize v + 1 = v1 at ev ⊢
        have hskip : ¬ Sv I1 w f → again2 v1 (cS b I2 F1 A E2) := fun hns => by
          refine ha2 (3000 - v1.toInt).toNat _ _ (by omega) ⟨I2, E2, rfl, q1, q2, q3, by omega, by omega, q6, q7, q8, fun f' hf' => ?_, rfl⟩
          obtain ⟨i, y1, y2⟩ := q9 f' hf'
          refine ⟨i, ?_, y2⟩
          rcases y1 with y1 | ⟨y1, y3⟩
          · exact Or.inl y1
          · by_cases hi : i = ix v
            · rw [hi, hev] at y2; cases y2
              exact absurd (hS _ hf') hns
            · exact Or.inr ⟨by omega, y3⟩
        have hci : ((ix (I2 s 4) : Nat) : Int) = (I2 s 4).toInt := ix_int q3
        have hcin : wIn (I2 s 4) 3000 := ⟨q3, by omega⟩
        have e4 : (I2 s 4 + 1).toInt = (I2 s 4).toInt + 1 := i_add rfl (by decide) (by omega)
        have hput : wIn (I2 s 4) 3000 ∧ Rf b 1 (E2 s 1 (ix (I2 s 4))) ∧ wIn (I2 s 4) 3000 ∧ Rf b 1 (some f) ∧ again2 v1 (cS b (up2 I2 s 4 (I2 s 4 + 1)) F1 A (up3 (up3 E2 s 1 (ix v) (E2 s 1 (ix (I2 s 4)))) s 1 (ix (I2 s 4)) (some f))) := by
          refine ⟨hcin, fun y hy => ?_, hcin, fun y hy => by cases hy; exact hf1, ?_⟩
          · obtain ⟨j', y1, y2⟩ := q6 (ix (I2 s 4)) (by omega)
            rw [y2] at hy; exact k4 j' y hy
          · generalize hE3 : up3 (up3 E2 s 1 (ix v) (E2 s 1 (ix (I2 s 4)))) s 1 (ix (I2 s 4)) (some f) = E3
            have eE3 : ∀ a j, ¬ (a = s ∧ j = 1) → E3 a j = E2 a j := fun a j hj => by rw [← hE3, up3_ne hj, up3_ne hj]
            have eE3s : E3 s 1 = fun i => E2 s 1 (sw (ix (I2 s 4)) (ix v) i) := by rw [← hE3, up3_at, up3_at]; exact sw_up hev
            clear hE3
            have es : up2 I2 s 4 (I2 s 4 + 1) s 4 = I2 s 4 + 1 := up2_self _ _ _ _
            have swl : ∀ i : Nat, (i : Int) < (I1 s 4).toInt → ((sw (ix (I2 s 4)) (ix v) i : Nat) : Int) < (I1 s 4).toInt := fun i hi => by
              unfold sw
              split
              · omega
              · split <;> omega
            refine ha2 (3000 - v1.toInt).toNat _ _ (by omega) ⟨_, E3, rfl, fun a j hj => ?_, fun a j hj => by rw [eE3 a j hj, q2 a j hj], ?_, ?_, by omega, fun i hi => ?_, fun i hi => ?_, fun i j f' hi hj h1 h2 => ?_, fun f' hf' => ?_, rfl⟩
            · unfold up2; rw [if_neg hj]; exact q1 a j hj
            · rw [es, e4]; omega
            · rw [es, e4]; omega
            · rw [eE3s]; exact q6 _ (swl i hi)
            · have : sw (ix (I2 s 4)) (ix v) i = i := by
                unfold sw
                rw [if_neg (by omega), if_neg (by omega)]
              rw [eE3s]; dsimp only; rw [this]; exact q7 i hi
            · rw [eE3s] at h1 h2
              have sl : ∀ i, i < 3000 → sw (ix (I2 s 4)) (ix v) i < 3000 := fun i hi => by
                unfold sw
                split
                · omega
                · split <;> omega
              exact sw_inj (q8 _ _ f' (sl i hi) (sl j hj) h1 h2)
            · obtain ⟨i, y1, y2⟩ := q9 f' hf'
              refine ⟨sw (ix (I2 s 4)) (ix v) i, ?_, by rw [eE3s]; dsimp only; rw [sw_sw]; exact y2⟩
              rw [es, e4]
              unfold sw
              split
              · rename_i h1; omega
              · split
                · omega
                · omega
        refine ⟨fun hm => ?_, fun hm => ?_⟩
        · simp only [wJoin, wIf]
          refine ⟨fun z => absurd z (by decide), fun _ => ?_⟩
          simp only [cw hb, s3, hvin, true_and]; exact hput
        · simp only [wJoin, wIf]
          refine ⟨fun _ => ?_, fun z => absurd trivial z⟩
          rw [i6, i7]
          rw [i6] at hm
          exact ⟨fun z => hskip (fun y => y.elim hm (fun y => y z)), fun _ => by simp only [cw hb, s3, hvin, true_and]; exact hput⟩
  · have hv1 : v.toInt < (I1 s 3).toInt := by simp only [i32] at hv; omega
    have hvin : wIn v 12 := ⟨p9, by omega⟩
    have ev : (v + 1).toInt = v.toInt + 1 := i_add rfl (by decide) (by omega)
    have eix : ix (v + 1) = ix v + 1 := ix_of (by omega)
    obtain ⟨t, ht⟩ := Option.ne_none_iff_exists'.mp (hTS.2.1 (ix v) (by omega))
    have htt := hTS.2.2 _ t ht
    simp only [cw hb, s3, hvin, true_and, e0, ht, htt, ew]
    refine c_drop hb p2 p5 p3 p4 p8 htt (fun g' F' E' z1 z2 z3 z4 z5 z6 z7 z8 => ?_)
    refine ha _ _ _ (by omega) ⟨g', F', E', rfl, Fr_tr p1 z1, z2, z3, z4, z5, fun l f hf => p6 l f (z6 l f hf), fun i t' f hi hit hf hft => ?_, z8, by omega, by omega, rfl⟩
    rw [eix] at hi
    by_cases hq : i = ix v
    · rw [hq, ht] at hit; cases hit
      exact z7 f hf (by rw [f2 1 f (hL.2.2.2 _ _ (p6 _ _ (z6 _ _ hf))).1]; exact hft)
    · exact p7 i t' f (by omega) hit (z6 _ _ hf) hft
end C16
