set_option linter.unusedVariables false
set_option linter.unusedSimpArgs false
/-! the class: solutions are kept; a goal holds -/
/-- the solutions sp stand for what is known kf of s -/
def KpC (sp : Nat) (kf : Nat → Bool) (s : SQ) (I : Nat → Nat → Int32) (A : Nat → Nat → Nat → Int32) : Prop := (I sp 2).toInt = (s.2.1 : Int) ∧ ∀ i k, i < s.2.1 → i < 100 → k < 8 → kf k = true → A sp 0 (8 * i + k) = s.2.2 i k
section SU1
variable {b : CT} {I I' I'' : Nat → Nat → Int32} {F F' F'' : Nat → Nat → Option Nat} {A A' A'' : Nat → Nat → Nat → Int32} {E : Nat → Nat → Nat → Option Nat} {o v r sp q i j k n t g0 : Nat} {lv gl : Nat → Nat} {T : Int32} {Ga Gs : List QG} {G : QG} {a : AS} {g : CGs} {env : Nat → Int32} {kf kn : Nat → Bool} {s : SQ} {X X' : String → HS → Prop} {Q Q' : HS → Prop} {QI QI' : Int32 → HS → Prop}
theorem KpC_eq (h : KpC sp kf s I A) (h1 : I' sp 2 = I sp 2) (h2 : A' sp = A sp) {l : Nat} : KpC sp kf (l, s.2) I' A' := by
  unfold KpC
  rw [h1, h2]; exact h
theorem qc_copy8 (hb : CB b) (hv : Is b 8 v) (hsp : Is b 7 sp) {w : Int32} {Z Z' : HS → Prop} (h : ∀ A', (∀ x, x ≠ sp → A' x = A x) → (∀ k, A' sp 0 k = if w.toInt.toNat ≤ k ∧ k < w.toInt.toNat + 8 then A v 4 (k - w.toInt.toNat) else A sp 0 k) → Z (cS b I F A' E) → Z' (cS b I F A' E)) : wCopy (cS b I F A E) (some (b.ad v 4)) 0 (some (b.ad sp 0)) w 8 Z → wCopy (cS b I F A E) (some (b.ad v 4)) 0 (some (b.ad sp 0)) w 8 Z' := by
  rintro ⟨a1, b1, e1, e2, m3, m4, m5, m6, m7, m8, m9, m10, m11, m12, m13⟩
  refine ⟨a1, b1, e1, e2, m3, m4, m5, m6, m7, m8, m9, m10, m11, m12, ?_⟩
  have ea : b.ad v 4 = a1 := Option.some.inj e1
  have eb : b.ad sp 0 = b1 := Option.some.inj e2
  subst ea; subst eb
  have hown := (c_arr hb hsp (j := 0) (by decide)).1
  have key : (cS b I F A E).wJ (fun q k => if q = b.ad sp 0 ∧ w.toInt.toNat ≤ k ∧ k < w.toInt.toNat + (8 : Int32).toInt.toNat then (cS b I F A E).J (b.ad v 4) ((0 : Int32).toInt.toNat + (k - w.toInt.toNat)) else (cS b I F A E).J q k) = cS b I F (fun a' j' k => if (a' = sp ∧ j' = 0) ∧ w.toInt.toNat ≤ k ∧ k < w.toInt.toNat + (8 : Int32).toInt.toNat then (cS b I F A E).J (b.ad v 4) ((0 : Int32).toInt.toNat + (k - w.toInt.toNat)) else A a' j' k) E := by
    show HS.mk _ _ _ _ _ _ _ _ _ = HS.mk _ _ _ _ _ _ _ _ _
    congr 1
    funext q k
    show (if q = b.ad sp 0 ∧ _ then _ else cJ b A q k) = cJ b _ q k
    by_cases hq : q = b.ad sp 0
    · subst hq
      unfold cJ
      rw [hown]
      simp
    · rw [if_neg (fun y => hq y.1)]
      unfold cJ
      cases hoq : b.own q with
      | none => rfl
      | some p =>
        show A p.1 p.2 k = if (p.1 = sp ∧ p.2 = 0) ∧ _ then _ else A p.1 p.2 k
        rw [if_neg]
        rintro ⟨⟨y1, y2⟩, -⟩
        have := (hb.1 q p.1 p.2 hoq).2.2.1
        rw [y1, y2] at this
        exact hq this.symm
  rw [key] at m13 ⊢
  refine h _ (fun x hx => ?_) (fun k => ?_) m13
  · funext j' k
    exact if_neg (fun y => hx y.1.1)
  · show (if (sp = sp ∧ 0 = 0) ∧ _ then _ else _) = _
    have e8 : (8 : Int32).toInt.toNat = 8 := by decide
    have e0 : (0 : Int32).toInt.toNat = 0 := by decide
    have ej : ∀ m, (cS b I F A E).J (b.ad v 4) m = A v 4 m := fun m => cJ_at hb hv (by decide)
    rw [e8, e0, ej, Nat.zero_add]
    by_cases c : w.toInt.toNat ≤ k ∧ k < w.toInt.toNat + 8
    · rw [if_pos c, if_pos ⟨⟨rfl, rfl⟩, c⟩]
    · rw [if_neg c, if_neg (fun y => c y.2)]
theorem qs_keep (hb : CB b) (hv : Is b 8 v) (hsp : Is b 7 sp) (hK : KpC sp kf s I A) (hc : s.2.1 ≤ 60000) (he : EnvC kf env A v) {Gx : Int}
    (h : ∀ A', (∀ x, x ≠ sp → A' x = A x) → KpC sp kf (solA a Gx [] env s) (up2 I sp 2 (I sp 2 + 1)) A' → Q (cS b (up2 I sp 2 (I sp 2 + 1)) F A' E) → Q' (cS b (up2 I sp 2 (I sp 2 + 1)) F A' E)) : w_X7_keep (some sp) (some (b.ad v 4)) (cS b I F A E) Q X → w_X7_keep (some sp) (some (b.ad v 4)) (cS b I F A E) Q' X' := by
  obtain ⟨k1, k2⟩ := hK
  have hvs : v ≠ sp := Is_ne hv hsp (by decide)
  have cnt : (up2 I sp 2 (I sp 2 + 1) sp 2).toInt = ((s.2.1 + 1 : Nat) : Int) := by rw [up2_self, i_add k1 (show (1 : Int32).toInt = 1 by decide) (by omega)]; omega
  unfold w_X7_keep
  refine qc_getI (fun _ => ?_)
  dsimp only [wJoin]
  refine qv_if (fun z => ?_) (fun z => ?_)
  · simp only [i32, Int32.reduceToInt] at z
    refine qc_getI (fun _ => qc_putI (fun _ => ?_))
    refine h A (fun _ _ => rfl) ⟨cnt, fun i k h1 h2 h3 h4 => ?_⟩
    have h1 : i < s.2.1 + 1 := h1
    show A sp 0 (8 * i + k) = (if s.2.1 < 100 then va_up s.2.2 s.2.1 env else s.2.2) i k
    rw [if_neg (by omega)]
    exact k2 i k (by omega) h2 h3 h4
  · simp only [i32, Int32.reduceToInt] at z
    have hlt : s.2.1 < 100 := by omega
    refine qc_getA hb (by decide) (fun _ => ?_)
    refine qc_getI (fun _ => ?_)
    have e8 : ((I sp 2) * 8).toInt.toNat = 8 * s.2.1 := by
      have : ((I sp 2) * 8).toInt = (I sp 2).toInt * (8 : Int32).toInt := i_mul rfl rfl (by rw [k1, show (8 : Int32).toInt = 8 by decide]; omega)
      rw [this, k1, show (8 : Int32).toInt = 8 by decide]; omega
    refine qc_copy8 hb hv hsp (fun A' hA1 hA2 => ?_)
    rw [e8] at hA2
    refine qc_getI (fun _ => qc_putI (fun _ => ?_))
    refine h A' hA1 ⟨cnt, fun i k h1 h2 h3 h4 => ?_⟩
    have h1 : i < s.2.1 + 1 := h1
    show A' sp 0 (8 * i + k) = (if s.2.1 < 100 then va_up s.2.2 s.2.1 env else s.2.2) i k
    rw [if_pos hlt, hA2]
    by_cases e : i = s.2.1
    · subst e
      rw [if_pos (by omega), va_up_self, Nat.add_sub_cancel_left]
      exact he k h3 h4
    · rw [if_neg (by omega), va_up_ne _ _ e]
      exact k2 i k (by omega) h2 h3 h4
/-- the class's signs -/
theorem sign_116 (h : G.kd ≤ 7) : signC G.kd = 116 ↔ G.kd = 0 := by
  have : G.kd = 0 ∨ G.kd = 1 ∨ G.kd = 2 ∨ G.kd = 3 ∨ G.kd = 4 ∨ G.kd = 5 ∨ G.kd = 6 ∨ G.kd = 7 := by omega
  rcases this with e | e | e | e | e | e | e | e <;> rw [e] <;> decide
theorem sign_33 (h : G.kd ≤ 7) : signC G.kd = 33 ↔ G.kd = 1 := by
  have : G.kd = 0 ∨ G.kd = 1 ∨ G.kd = 2 ∨ G.kd = 3 ∨ G.kd = 4 ∨ G.kd = 5 ∨ G.kd = 6 ∨ G.kd = 7 := by omega
  rcases this with e | e | e | e | e | e | e | e <;> rw [e] <;> decide
theorem knB_1 {x : QA} (h : knB kn x = true) (h1 : x.1 = 1) : kn (ix x.2) = true := by
  unfold knB at h
  rw [h1] at h
  simpa using h
theorem qs_holds {w : Int32} (hw0 : w.toInt = (i : Int)) (hS : SVh o a g b v r sp lv gl T Ga I F A E) (hV : AV a) (hG : Ga[i]? = some G) (hk : G.kd ≠ 0) (hw : WfG a.tn a.co G) (he : EnvC G.kn env A v) (hl : I v 1 = Int32.ofNat s.1) (hl2 : s.1 ≤ mostL)
    (hY : ∀ I' F' A' env' l', SVr v sp lv i I I' F F' A A' → KpV G.kn v A A' → EnvC (aftK G) env' A' v → I' v 1 = Int32.ofNat l' → s.1 ≤ l' → l' ≤ mostL → I' sp = I sp → A' sp = A sp → solA a T.toInt (G :: Gs) env s = solA a T.toInt Gs env' (l', s.2) → QI 1 (cS b I' F' A' E) → QI' 1 (cS b I' F' A' E))
    (hNo : ∀ I' F' A' l', SVr v sp lv i I I' F F' A A' → KpV G.kn v A A' → I' v 1 = Int32.ofNat l' → l' ≤ mostL → I' sp = I sp → A' sp = A sp → solA a T.toInt (G :: Gs) env s = (l', s.2) → QI 0 (cS b I' F' A' E) → QI' 0 (cS b I' F' A' E))
    (hX : ∀ I' F' A', mostL < (solA a T.toInt (G :: Gs) env s).1 → SVr v sp lv i I I' F F' A A' → X eAE (cS (b.B.wC (b.B.c - 1) (b.B.z - 6), b.2) I' F' A' E) → X' eAE (cS (b.B.wC (b.B.c - 1) (b.B.z - 6), b.2) I' F' A' E)) : w_X8_holds (some v) (some (gl i)) w (cS b I F A E) QI X → w_X8_holds (some v) (some (gl i)) w (cS b I F A E) QI' X' := by
  obtain ⟨s1, ⟨s2, s3, s4⟩, -, s8, s9, s10, ⟨s11, s12⟩, s13, s14⟩ := id hS
  have hb := s1.1
  have hi : i < 10 := by have := (List.getElem?_eq_some_iff.mp hG).1; omega
  have hlv := (s8 i hi).2
  have hq := (s10 i hi).2
  have hvl : v ≠ lv i := Is_ne s2 hlv (by decide)
  have hsl : sp ≠ lv i := Is_ne s4 hlv (by decide)
  have hsv : sp ≠ v := Is_ne s4 s2 (by decide)
  have hgo := s13 i G hG
  have wi : ix w = i := ix_of hw0
  unfold w_X8_holds
  refine qc_getI (fun _ => ?_)
  rw [hgo.1]
  refine qv_if (fun z => ?_) (fun z => ?_)
  · -- '!'
    have k1 : G.kd = 1 := (sign_33 hw.1).mp z
    have es : solA a T.toInt (G :: Gs) env s = if mostL < (scanQ a T.toInt G env (a.rw G.tb) s.1).1 ∨ (scanQ a T.toInt G env (a.rw G.tb) s.1).2.isSome = true then ((scanQ a T.toInt G env (a.rw G.tb) s.1).1, s.2) else solA a T.toInt Gs env ((scanQ a T.toInt G env (a.rw G.tb) s.1).1, s.2) := by
      show (if G.kd = 0 then _ else if G.kd = 1 then _ else _) = _
      rw [if_neg hk, if_pos k1]
    have ek : aftK G = G.kn := by unfold aftK; rw [if_neg hk, if_neg (by omega)]
    refine qc_getA hb (by decide) (fun _ => ?_)
    refine qc_aldG hb s2 (by decide) (by decide) (fun _ => ?_)
    rw [wi, (s8 i hi).1]
    refine qc_recv (fun _ => ?_)
    refine qs_solBegin hS hV hG (by omega) hw he (fun I1 F1 A1 hB hL h7 => ?_)
    have hR1 : SVr v sp lv i I I1 F F1 A A1 := Bg_SVr hB ⟨Nat.le_refl _, hi⟩ hvl hsl
    have hS1 := SVh_SVr hS hR1
    have kp1 : KpV G.kn v A A1 := KpV_of (hB.2.2 4 (by decide))
    refine qc_getA hb (by decide) (fun _ => ?_)
    refine qc_aldG hb s2 (by decide) (by decide) (fun _ => ?_)
    rw [wi, (s8 i hi).1]
    refine qc_recv (fun _ => ?_)
    have sp1 : I1 sp = I sp ∧ A1 sp = A sp := ⟨(hB.1 sp hsl).1, hB.2.1 sp hsl hsv⟩
    refine qs_solAdv hS1 hV hG (by omega) hw (EnvC_kp he kp1) hL h7 (l := s.1) (by rw [(hB.1 v hvl).1]; exact hl) hl2 (fun I2 F2 A2 x l' hsc hAd h1 _ _ kp2 _ => ?_) (fun I2 F2 A2 l' hsc hle hAd h1 kp2 => ?_) (fun I2 F2 A2 hov hAd => ?_)
    · dsimp only [wJoin]
      refine qv_if (fun z => absurd z (by decide)) (fun _ => qc_bit ?_)
      have hsc : scanQ a T.toInt G env (a.rw G.tb) s.1 = (l', some (x, restA (a.rw G.tb) (some x))) := hsc
      refine hNo I2 F2 A2 l' (SVr_tr hR1 (Ad_SVr hAd ⟨Nat.le_refl _, hi⟩ hvl hsl hsv)) (KpV_tr kp1 kp2) h1 (scanQ_some _ _ hsc).2.1 (by rw [(hAd.1 sp hsl hsv).1]; exact sp1.1) (by rw [(hAd.1 sp hsl hsv).2]; exact sp1.2) ?_
      rw [es, hsc]; exact if_pos (Or.inr rfl)
    · dsimp only [wJoin]
      refine qv_if (fun _ => qc_bit ?_) (fun z => absurd rfl z)
      have hsc : scanQ a T.toInt G env (a.rw G.tb) s.1 = (l', none) := hsc
      have kp := KpV_tr kp1 kp2
      have hle0 := scanQ_le (a := a) (T := T.toInt) (G := G) (env := env) (a.rw G.tb) s.1
      rw [hsc] at hle0
      refine hY I2 F2 A2 env l' (SVr_tr hR1 (Ad_SVr hAd ⟨Nat.le_refl _, hi⟩ hvl hsl hsv)) kp (by rw [ek]; exact EnvC_kp he kp) h1 hle0 hle (by rw [(hAd.1 sp hsl hsv).1]; exact sp1.1) (by rw [(hAd.1 sp hsl hsv).2]; exact sp1.2) ?_
      rw [es, hsc, if_neg]
      rintro (y | y)
      · have y : mostL < l' := y
        omega
      · cases y
    · refine hX I2 F2 A2 ?_ (SVr_tr hR1 (Ad_SVr hAd ⟨Nat.le_refl _, hi⟩ hvl hsl hsv))
      have hov : mostL < (scanQ a T.toInt G env (a.rw G.tb) s.1).1 := hov
      rw [es, if_pos (Or.inl hov)]
      exact hov
  · -- a sign
    have k2 : 2 ≤ G.kd := by have : G.kd ≠ 1 := fun y => z ((sign_33 hw.1).mpr y); omega
    -- both sides
    have two : ∃ x y : QA, Ag1 (gl i) 0 x A ∧ Ag1 (gl i) 1 y A ∧ knB G.kn x = true ∧ knB G.kn y = true ∧ argOk x ∧ argOk y ∧ (G.kd ≤ 4 → G.ag = [x, y]) ∧ (5 ≤ G.kd → ∃ z : QA, G.ag = [z, x, y] ∧ I (gl i) 5 = z.2 ∧ z.1 = 1 ∧ argOk z) := by
      obtain ⟨c1, c2, c3, c4, c5⟩ := hgo
      by_cases k4 : G.kd ≤ 4
      · obtain ⟨x, y, d1, d2, d3, d4, d5, -, -⟩ := c4 k2 k4
        exact ⟨x, y, d2, d3, d4, d5, c2 x (by rw [d1]; simp), c2 y (by rw [d1]; simp), fun _ => d1, fun z => by omega⟩
      · obtain ⟨k7, zz, x, y, d1, d2, d3, d4, d5, d6, d7, -, -⟩ := c5 (by omega)
        exact ⟨x, y, d4, d5, d6, d7, c2 x (by rw [d1]; simp), c2 y (by rw [d1]; simp), fun z => by omega, fun _ => ⟨zz, d1, d2, d3, c2 zz (by rw [d1]; simp)⟩⟩
    obtain ⟨x, y, ax, ay, knx, kny, okx, oky, ag2, ag3⟩ := two
    have envx : ∀ {u : QA}, knB G.kn u = true → argOk u → u.1 = 1 → A v 4 (ix u.2) = env (ix u.2) := fun {u} hu hok h1 => by
      have := hok.2 h1
      exact he _ (by have := ix_int this.1; omega) (knB_1 hu h1)
    refine qc_recv (fun _ => ?_)
    refine qs_value (k := 0) (env := env) (x := x) (by decide) hb s2 hq ax.1 ax.2 (envx knx okx) ?_
    refine qc_recv (fun _ => ?_)
    refine qs_value (k := 1) (env := env) (x := y) (by decide) hb s2 hq ay.1 ay.2 (envx kny oky) ?_
    refine qc_getI (fun _ => ?_)
    -- comparing
    have cmp : G.kd ≤ 4 → solA a T.toInt (G :: Gs) env s = (if cmpB G.kd (worA env x) (worA env y) then solA a T.toInt Gs env s else s) ∧ aftK G = G.kn := fun k4 => by
      refine ⟨?_, by unfold aftK; rw [if_neg hk, if_neg (by omega)]⟩
      show (if G.kd = 0 then _ else if G.kd = 1 then _ else if G.kd ≤ 4 then (if cmpB G.kd (worK env G.ag 0) (worK env G.ag 1) then _ else _) else _) = _
      rw [if_neg hk, if_neg (by omega), if_pos k4, ag2 k4]; rfl
    have yes : G.kd ≤ 4 → cmpB G.kd (worA env x) (worA env y) = true → QI 1 (cS b I F A E) → QI' 1 (cS b I F A E) := fun k4 hc => by
      obtain ⟨e1, e2⟩ := cmp k4
      exact hY I F A env s.1 SVr_rf KpV_rf (by rw [e2]; exact he) hl (Nat.le_refl _) hl2 rfl rfl (by rw [e1, hc]; rfl)
    have no : G.kd ≤ 4 → cmpB G.kd (worA env x) (worA env y) = false → QI 0 (cS b I F A E) → QI' 0 (cS b I F A E) := fun k4 hc => by
      obtain ⟨e1, e2⟩ := cmp k4
      exact hNo I F A s.1 SVr_rf KpV_rf hl hl2 rfl rfl (by rw [e1, hc]; rfl)
    -- reckoning
    have op : 5 ≤ G.kd → ∀ res, res = opA G.kd (worA env x) (worA env y) → (wGetF (cS b I F A E) 8 4 (some v) fun v21 => wGetI (cS b I F A E) 2 5 (some (gl i)) fun v22 => wAstI (cS b I F A E) v21 v22 res fun x23 => wBit 1 (QI 1 x23)) → (wGetF (cS b I F A E) 8 4 (some v) fun v21 => wGetI (cS b I F A E) 2 5 (some (gl i)) fun v22 => wAstI (cS b I F A E) v21 v22 res fun x23 => wBit 1 (QI' 1 x23)) := fun k5 res hres => by
      obtain ⟨zz, ag, i5, z1, okz⟩ := ag3 k5
      have z8 := okz.2 z1
      have hwz : WfG a.tn a.co G := hw
      obtain ⟨zz', x', y', ag', -, knz, -, -, -, -⟩ := hw.2.2.2.2 k5
      rw [ag] at ag'
      have ez : zz' = zz := by cases ag'; rfl
      rw [ez] at knz
      refine qc_getA hb (by decide) (fun _ => ?_)
      refine qc_getI (fun _ => ?_)
      rw [i5]
      refine qc_astI hb s2 (by decide) (fun _ => qc_bit ?_)
      have nk : ∀ j, G.kn j = true → j ≠ ix zz.2 := fun j hj y => by rw [y, knz] at hj; cases hj
      refine hY I F _ (va_up env (ix zz.2) res) s.1 ⟨fun u z1 _ _ => ⟨rfl, rfl, funext fun j' => up3_ne (fun y => z1 y.1)⟩, ⟨rfl, fun _ _ => rfl⟩, rfl, fun _ _ => rfl⟩ (fun j hj hkj => ?_) ?_ hl (Nat.le_refl _) hl2 rfl (funext fun j' => up3_ne (fun y => hsv y.1)) ?_
      · rw [up3_at, va_up_ne _ _ (nk j hkj)]
      · intro j hj hkj
        rw [up3_at]
        unfold aftK at hkj
        rw [if_neg hk, if_pos k5, ag] at hkj
        have hkj : va_up G.kn (ix zz.2) true j = true := hkj
        by_cases e : j = ix zz.2
        · rw [e, va_up_self, va_up_self]
        · rw [va_up_ne _ _ e] at hkj
          rw [va_up_ne _ _ e, va_up_ne _ _ e]
          exact he j hj hkj
      · show (if G.kd = 0 then _ else if G.kd = 1 then _ else if G.kd ≤ 4 then _ else solA a T.toInt Gs (va_up env (worV G.ag) (opA G.kd (worK env G.ag 1) (worK env G.ag 2))) s) = _
        rw [if_neg hk, if_neg (by omega), if_neg (by omega), ag, hres]; rfl
    have c6 : G.kd = 2 ∨ G.kd = 3 ∨ G.kd = 4 ∨ G.kd = 5 ∨ G.kd = 6 ∨ G.kd = 7 := by have := hw.1; omega
    dsimp only [wJoin]
    rcases c6 with e | e | e | e | e | e
    · have es : I (gl i) 2 = 60 := by rw [hgo.1, e]; rfl
      rw [es]
      refine qv_if (fun z => absurd z (by decide)) (fun _ => qv_if (fun z => absurd z (by decide)) (fun _ => qv_if (fun z => absurd z (by decide)) (fun _ => qv_if (fun _ => ?_) (fun z => absurd rfl z))))
      refine qv_if (fun z2 => qc_bit (no (by omega) ?_)) (fun z2 => qc_bit (yes (by omega) ?_))
      · rw [i32.2.1] at z2
        unfold cmpB; rw [if_pos e]; exact decide_eq_false (by omega)
      · rw [i32.2.1] at z2
        unfold cmpB; rw [if_pos e]; exact decide_eq_true (by omega)
    · have es : I (gl i) 2 = 61 := by rw [hgo.1, e]; rfl
      rw [es]
      refine qv_if (fun z => absurd z (by decide)) (fun _ => qv_if (fun z => absurd z (by decide)) (fun _ => qv_if (fun z => absurd z (by decide)) (fun _ => qv_if (fun z => absurd z (by decide)) (fun _ => qv_if (fun _ => ?_) (fun z => absurd rfl z)))))
      refine qv_if (fun z2 => qc_bit (yes (by omega) ?_)) (fun z2 => qc_bit (no (by omega) ?_))
      · unfold cmpB; rw [if_neg (by omega), if_pos e]; exact beq_iff_eq.mpr z2
      · unfold cmpB; rw [if_neg (by omega), if_pos e]; exact beq_eq_false_iff_ne.mpr z2
    · have es : I (gl i) 2 = 35 := by rw [hgo.1, e]; rfl
      rw [es]
      refine qv_if (fun _ => ?_) (fun z => absurd rfl z)
      refine qv_if (fun z2 => qc_bit (no (by omega) ?_)) (fun z2 => qc_bit (yes (by omega) ?_))
      · unfold cmpB; rw [if_neg (by omega), if_neg (by omega)]; exact bne_eq_false_iff_eq.mpr z2
      · unfold cmpB; rw [if_neg (by omega), if_neg (by omega)]; exact bne_iff_ne.mpr z2
    · have es : I (gl i) 2 = 43 := by rw [hgo.1, e]; rfl
      rw [es]
      refine qv_if (fun z => absurd z (by decide)) (fun _ => qv_if (fun _ => ?_) (fun z => absurd rfl z))
      exact op (by omega) _ (by unfold opA; rw [if_pos e])
    · have es : I (gl i) 2 = 45 := by rw [hgo.1, e]; rfl
      rw [es]
      refine qv_if (fun z => absurd z (by decide)) (fun _ => qv_if (fun z => absurd z (by decide)) (fun _ => qv_if (fun _ => ?_) (fun z => absurd rfl z)))
      exact op (by omega) _ (by unfold opA; rw [if_neg (by omega), if_pos e])
    · have es : I (gl i) 2 = 42 := by rw [hgo.1, e]; rfl
      rw [es]
      refine qv_if (fun z => absurd z (by decide)) (fun _ => qv_if (fun z => absurd z (by decide)) (fun _ => qv_if (fun z => absurd z (by decide)) (fun _ => qv_if (fun z => absurd z (by decide)) (fun _ => qv_if (fun z => absurd z (by decide)) (fun _ => ?_)))))
      exact op (by omega) _ (by unfold opA; rw [if_neg (by omega), if_neg (by omega)])
end SU1
