set_option linter.unusedVariables false
set_option linter.unusedSimpArgs false
/-! the class: solving -/
section SV1
variable {b : CT} {E : Nat → Nat → Nat → Option Nat} {o v r sp : Nat} {lv gl : Nat → Nat} {T : Int32} {Ga : List QG} {a : AS} {g : CGs} {kf : Nat → Bool}
theorem qs_solve (hV : AV a) : ∀ (Gs : List QG) (f : Nat) (Pg : List QG) (env : Nat → Int32) (s : SQ) (kn : Nat → Bool) (w : Int32) (I : Nat → Nat → Int32) (F : Nat → Nat → Option Nat) (A : Nat → Nat → Nat → Int32) (X X' : String → HS → Prop) (Q Q' : HS → Prop), Gs.length < f → Ga = Pg ++ Gs → w.toInt = (Pg.length : Int) → SVh o a g b v r sp lv gl T Ga I F A E → KnCh a.tn a.co kf Gs kn → EnvC kn env A v → I v 1 = Int32.ofNat s.1 → s.1 ≤ mostL → s.2.1 ≤ s.1 → KpC sp kf s I A →
    (∀ I' F' A', SVr v sp lv Pg.length I I' F F' A A' → KpV kn v A A' → (solA a T.toInt Gs env s).1 ≤ mostL → I' v 1 = Int32.ofNat (solA a T.toInt Gs env s).1 → KpC sp kf (solA a T.toInt Gs env s) I' A' → Q (cS b I' F' A' E) → Q' (cS b I' F' A' E)) →
    (∀ I' F' A', mostL < (solA a T.toInt Gs env s).1 → SVr v sp lv Pg.length I I' F F' A A' → X eAE (cS (b.B.wC (b.B.c - 1) (b.B.z - 6), b.2) I' F' A' E) → X' eAE (cS (b.B.wC (b.B.c - 1) (b.B.z - 6), b.2) I' F' A' E)) →
    w_X8_solve f (some v) w (cS b I F A E) Q X → w_X8_solve f (some v) w (cS b I F A E) Q' X'
  | Gs, 0, Pg, env, s, kn, w, I, F, A, X, X', Q, Q', hf, _, _, _, _, _, _, _, _, _, _, _ => absurd hf (Nat.not_lt_zero _)
  | [], f + 1, Pg, env, s, kn, w, I, F, A, X, X', Q, Q', hf, hGa, hw0, hS, hch, he, hl, hl2, hcn, hK, h, hX => by
      obtain ⟨s1, ⟨s2, s3, s4⟩, ⟨s5, s6, s7⟩, s8, s9, s10, ⟨s11, s12⟩, s13, s14⟩ := id hS
      have hb := s1.1
      have mL : mostL = 50000 := rfl
      rw [List.append_nil] at hGa
      have hch : kn = kf := hch
      show w_X8_solveB (w_X8_solve f) (some v) w (cS b I F A E) Q X → w_X8_solveB (w_X8_solve f) (some v) w (cS b I F A E) Q' X'
      unfold w_X8_solveB
      refine qc_getF hb (by decide) (fun _ => ?_)
      rw [s5]
      refine qc_getI (fun _ => ?_)
      dsimp only [wJoin]
      refine qv_if (fun z => ?_) (fun z => ?_)
      · refine qc_getF hb (by decide) (fun _ => ?_)
        rw [s6]
        refine qc_getA hb (by decide) (fun _ => ?_)
        refine qc_recv (fun _ => ?_)
        refine qs_keep (a := a) (env := env) (Gx := T.toInt) hb s2 s4 hK (by omega) (by rw [← hch]; exact he) (fun A' hA hK' => ?_)
        have hvs : v ≠ sp := Is_ne s2 s4 (by decide)
        refine h _ F A' ⟨fun x _ z2 _ => ⟨up2_row _ _ _ z2, rfl, hA x z2⟩, ⟨rfl, fun j _ => by rw [up2_row _ _ _ hvs]⟩, rfl, fun j hj => up2_k _ _ _ _ hj⟩ (KpV_of (by rw [hA v hvs])) hl2 (by rw [up2_row _ _ _ hvs]; exact hl) hK'
      · exfalso
        rw [i32.2.1, s11, hw0, hGa] at z
        omega
  | G :: Gs, f + 1, Pg, env, s, kn, w, I, F, A, X, X', Q, Q', hf, hGa, hw0, hS, hch, he, hl, hl2, hcn, hK, h, hX => by
      obtain ⟨s1, ⟨s2, s3, s4⟩, ⟨s5, s6, s7⟩, s8, s9, s10, ⟨s11, s12⟩, s13, s14⟩ := id hS
      have hb := s1.1
      have mL : mostL = 50000 := rfl
      obtain ⟨hw, hkn, hch⟩ := hch
      have hlenG : Ga.length = Pg.length + (Gs.length + 1) := by rw [hGa, List.length_append, List.length_cons]
      have hi : Pg.length < 10 := by omega
      have hG : Ga[Pg.length]? = some G := by rw [hGa, List.getElem?_append_right (Nat.le_refl _), Nat.sub_self]; rfl
      have hGa2 : Ga = (Pg ++ [G]) ++ Gs := by rw [hGa, List.append_assoc]; rfl
      have hw1 : (w + 1).toInt = ((Pg ++ [G]).length : Int) := by rw [i_add hw0 (show (1 : Int32).toInt = 1 by decide) (by omega), List.length_append, List.length_singleton]; omega
      have hle1 : Pg.length ≤ (Pg ++ [G]).length := by rw [List.length_append]; omega
      have hfl : Gs.length < f := by have : Gs.length + 1 < f + 1 := hf; omega
      have wi : ix w = Pg.length := ix_of hw0
      have hlv := (s8 _ hi).2
      have hvl : v ≠ lv Pg.length := Is_ne s2 hlv (by decide)
      have hsl : sp ≠ lv Pg.length := Is_ne s4 hlv (by decide)
      have hsv : sp ≠ v := Is_ne s4 s2 (by decide)
      have hgo := s13 _ G hG
      rw [← hkn] at he h
      show w_X8_solveB (w_X8_solve f) (some v) w (cS b I F A E) Q X → w_X8_solveB (w_X8_solve f) (some v) w (cS b I F A E) Q' X'
      unfold w_X8_solveB
      refine qc_getF hb (by decide) (fun _ => ?_)
      rw [s5]
      refine qc_getI (fun _ => ?_)
      dsimp only [wJoin]
      refine qv_if (fun z => ?_) (fun z => ?_)
      · exfalso
        rw [i32.2.1, s11, hw0] at z
        omega
      refine qv_if (fun z => ?_) (fun z => ?_)
      rotate_left
      · exfalso
        rw [i32.1, hw0, show (10 : Int32).toInt = 10 by decide] at z
        omega
      refine qc_getF hb (by decide) (fun _ => ?_)
      rw [s5]
      refine qc_getA hb (by decide) (fun _ => ?_)
      refine qc_aldG hb s3 (by decide) (by decide) (fun _ => ?_)
      rw [wi, (s10 _ hi).1]
      refine qc_getI (fun _ => ?_)
      rw [hgo.1]
      refine qv_if (fun z => ?_) (fun z => ?_)
      · -- each fact
        have k0 : G.kd = 0 := (sign_116 hw.1).mp z
        have ek : aftK G = mkKn G.kn G.ag := by unfold aftK; rw [if_pos k0]
        have es : solA a T.toInt (G :: Gs) env s = foldQ a T.toInt G env (fun x s => solA a T.toInt Gs (bindE a env G x) s) (a.rw G.tb) s := by
          show (if G.kd = 0 then _ else _) = _
          rw [if_pos k0]
        have hnd := hV.1.2.2.1 G.tb
        have hrow := row_le hV G.tb
        refine qc_recv (fun _ => ?_)
        unfold w_X8_solveEach
        refine qc_getA hb (by decide) (fun _ => ?_)
        refine qc_aldG hb s2 (by decide) (by decide) (fun _ => ?_)
        rw [wi, (s8 _ hi).1]
        refine qc_recv (fun _ => ?_)
        refine qs_solBegin hS hV hG (by omega) hw he (fun I1 F1 A1 hB hL h7 => ?_)
        have hR1 : SVr v sp lv Pg.length I I1 F F1 A A1 := Bg_SVr hB ⟨Nat.le_refl _, hi⟩ hvl hsl
        have kp1 : KpV G.kn v A A1 := KpV_of (hB.2.2 4 (by decide))
        refine qc_loop (fun u b' I' F' A' E' => b' = b ∧ E' = E ∧ SVr v sp lv Pg.length I I' F F' A A' ∧ KpV G.kn v A A' ∧ I' (lv Pg.length) 7 = 0 ∧ ∃ (la : Option Nat) (P : List Nat) (s' : SQ) (m : Nat), u.toInt = (m : Int) ∧ m ≤ P.length ∧ a.rw G.tb = P ++ restA (a.rw G.tb) la ∧ solA a T.toInt (G :: Gs) env s = foldQ a T.toInt G env (fun x s => solA a T.toInt Gs (bindE a env G x) s) (restA (a.rw G.tb) la) s' ∧ s'.1 ≤ mostL ∧ s'.2.1 ≤ s'.1 ∧ I' v 1 = Int32.ofNat s'.1 ∧ KpC sp kf s' I' A' ∧ Lk1 a (lv Pg.length) G.tb false (mskG G) T.toInt la (wanK env G) g.d g.fa I' F' A') ⟨rfl, rfl, hR1, kp1, h7, none, [], s, 0, by decide, by simp, rfl, es, hl2, hcn, by rw [(hB.1 v hvl).1]; exact hl, KpC_eq (l := s.1) hK (by rw [(hB.1 sp hsl).1]) (hB.2.1 sp hsl hsv), hL⟩ (fun u b' I' F' A' E' again again' ⟨e1, e2, hR, hKp, h7', la, P, s', m, m1, m2, m3, m4, m5, m6, m7, m8, m9⟩ ha => ?_)
        subst b'; subst E'
        have hS' := SVh_SVr hS hR
        have hlen : P.length + (restA (a.rw G.tb) la).length ≤ 3000 := by
          have := congrArg List.length m3
          rw [List.length_append] at this
          omega
        have hlam : ∀ n, la = some n → n ∈ a.rw G.tb := fun n hn => (m9.2.2.2.2.2.2.2 n hn).1
        refine qv_if (fun z => ?_) (fun z => ?_)
        · simp only [i32, Int32.reduceToInt] at z
          have e0 : restA (a.rw G.tb) la = [] := List.length_eq_zero_iff.mp (by omega)
          rw [e0] at m4
          have m4 : solA a T.toInt (G :: Gs) env s = s' := m4
          exact h I' F' A' hR hKp (by rw [m4]; exact m5) (by rw [m4]; exact m7) (by rw [m4]; exact m8)
        simp only [i32, Int32.reduceToInt] at z
        refine qc_recv (fun _ => ?_)
        refine qs_solAdv hS' hV hG (by omega) hw (EnvC_kp he hKp) m9 h7' (l := s'.1) m7 m5 (fun I2 F2 A2 x l' hsc hAd h1 hL2 h72 kp2 he2 => ?_) (fun I2 F2 A2 l' hsc hle hAd h1 kp2 => ?_) (fun I2 F2 A2 hov hAd => ?_)
        · refine qv_if (fun z => absurd z (by decide)) (fun _ => ?_)
          refine qc_recv (fun _ => ?_)
          obtain ⟨g1, g2, g3, P2, g4⟩ := scanQ_some _ _ hsc
          rw [foldQ_some m5 hsc] at m4
          have hR2 := Ad_SVr (sp := sp) (g0 := Pg.length) hAd ⟨Nat.le_refl _, hi⟩ hvl hsl hsv
          have hRR := SVr_tr hR hR2
          have hcnt := solA_cnt (a := a) (T := T.toInt) Gs (bindE a env G x) (l', s'.2)
          have hcnt : (solA a T.toInt Gs (bindE a env G x) (l', s'.2)).2.1 + l' ≤ s'.2.1 + (solA a T.toInt Gs (bindE a env G x) (l', s'.2)).1 + 1 := hcnt
          refine qs_solve hV Gs f (Pg ++ [G]) (bindE a env G x) (l', s'.2) (aftK G) (w + 1) I2 F2 A2 _ _ _ _ hfl hGa2 hw1 (SVh_SVr hS hRR) hch (by rw [ek]; exact he2) h1 g2 (show s'.2.1 ≤ l' by omega) (KpC_eq m8 (by rw [(hAd.1 sp hsl hsv).1]) (hAd.1 sp hsl hsv).2) (fun I3 F3 A3 hR3 kp3 hle3 h13 hK3 => ?_) (fun I3 F3 A3 hov hR3 => ?_)
          · have lx : I3 (lv Pg.length) = I2 (lv Pg.length) ∧ F3 (lv Pg.length) = F2 (lv Pg.length) ∧ A3 (lv Pg.length) = A2 (lv Pg.length) := hR3.1 _ (Ne.symm hvl) (Ne.symm hsl) (fun i hi1 hi2 y => by
              have := s9 _ _ hi hi2 y
              rw [List.length_append, List.length_singleton] at hi1
              omega)
            have kp3' : KpV G.kn v A2 A3 := fun j hj hkj => kp3 j hj (by rw [ek]; unfold mkKn; rw [hkj]; rfl)
            refine ha _ _ _ _ _ _ ⟨rfl, rfl, SVr_tr hRR (SVr_mono hle1 hR3), KpV_tr hKp (KpV_tr kp2 kp3'), by rw [lx.1]; exact h72, some x, P ++ P2 ++ [x], solA a T.toInt Gs (bindE a env G x) (l', s'.2), m + 1, ?_, ?_, ?_, m4, hle3, by omega, h13, hK3, Lk1_eq hL2 (fun j _ => by rw [lx.1]) (fun j _ => by rw [lx.2.1]) (fun k _ => by rw [lx.2.2])⟩
            · rw [i_add m1 (show (1 : Int32).toInt = 1 by decide) (by omega)]; omega
            · rw [List.length_append, List.length_append, List.length_singleton]; omega
            · rw [List.append_assoc, List.append_assoc]
              conv => lhs; rw [m3, g4]
              rfl
          · refine hX I3 F3 A3 ?_ (SVr_tr hRR (SVr_mono hle1 hR3))
            rw [m4, foldQ_over _ hov]; exact hov
        · refine qv_if (fun _ => ?_) (fun z => absurd rfl z)
          have hn : (scanQ a T.toInt G env (restA (a.rw G.tb) la) s'.1).2 = none := by rw [hsc]
          rw [foldQ_none m5 hn, hsc] at m4
          refine h I2 F2 A2 (SVr_tr hR (Ad_SVr hAd ⟨Nat.le_refl _, hi⟩ hvl hsl hsv)) (KpV_tr hKp kp2) (by rw [m4]; exact hle) (by rw [m4]; exact h1) (by rw [m4]; exact KpC_eq m8 (by rw [(hAd.1 sp hsl hsv).1]) (hAd.1 sp hsl hsv).2)
        · refine hX I2 F2 A2 ?_ (SVr_tr hR (Ad_SVr hAd ⟨Nat.le_refl _, hi⟩ hvl hsl hsv))
          rw [m4]
          exact foldQ_full (fun x s => solA_le Gs _ s) m5 hov
      · -- a goal that holds or doesn't
        have k0 : G.kd ≠ 0 := fun y => z ((sign_116 hw.1).mpr y)
        refine qc_recv (fun _ => ?_)
        refine qs_holds (Gs := Gs) hw0 hS hV hG k0 hw he hl hl2 (fun I2 F2 A2 env' l' hR kp he2 h1 hle0 hle hIs hAs es => ?_) (fun I2 F2 A2 l' hR kp h1 hle hIs hAs es => ?_) (fun I2 F2 A2 hov hR => hX I2 F2 A2 hov hR)
        · refine qv_if (fun z => absurd z (by decide)) (fun _ => ?_)
          refine qc_recv (fun _ => ?_)
          refine qs_solve hV Gs f (Pg ++ [G]) env' (l', s.2) (aftK G) (w + 1) I2 F2 A2 _ _ _ _ hfl hGa2 hw1 (SVh_SVr hS hR) hch he2 h1 hle (show s.2.1 ≤ l' by omega) (KpC_eq hK (by rw [hIs]) hAs) (fun I3 F3 A3 hR3 kp3 hle3 h13 hK3 => ?_) (fun I3 F3 A3 hov hR3 => ?_)
          · have kp3' : KpV G.kn v A2 A3 := fun j hj hkj => kp3 j hj (by
              unfold aftK
              rw [if_neg k0]
              split
              · unfold va_up
                split
                · rfl
                · exact hkj
              · exact hkj)
            exact h I3 F3 A3 (SVr_tr hR (SVr_mono hle1 hR3)) (KpV_tr kp kp3') (by rw [es]; exact hle3) (by rw [es]; exact h13) (by rw [es]; exact hK3)
          · exact hX I3 F3 A3 (by rw [es]; exact hov) (SVr_tr hR (SVr_mono hle1 hR3))
        · refine qv_if (fun _ => ?_) (fun z => absurd rfl z)
          exact h I2 F2 A2 hR kp (by rw [es]; exact hle) (by rw [es]; exact h1) (by rw [es]; exact KpC_eq hK (by rw [hIs]) hAs)
end SV1
