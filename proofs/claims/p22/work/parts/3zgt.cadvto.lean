set_option linter.unusedVariables false
set_option linter.unusedSimpArgs false
/-! the class: to the next fact that can be bound -/
/-- what advancing may change: the look q, the solver's count and variables -/
def Ad (v q : Nat) (I I' : Nat → Nat → Int32) (F F' : Nat → Nat → Option Nat) (A A' : Nat → Nat → Nat → Int32) : Prop := (∀ x, x ≠ q → x ≠ v → I' x = I x ∧ A' x = A x) ∧ (∀ x, x ≠ q → F' x = F x) ∧ (∀ j, j ≠ 1 → I' v j = I v j) ∧ A' q = A q ∧ ∀ j, j ≠ 4 → A' v j = A v j
theorem filter_app {p : Nat → Bool} {n : Nat} {R : List Nat} : ∀ {L P : List Nat}, L.filter p = P ++ n :: R → ∃ P' R', L = P' ++ n :: R' ∧ P'.filter p = P ∧ p n = true
  | [], P, h => by simp at h
  | x :: L, P, h => by
      by_cases hx : p x = true
      · rw [List.filter_cons_of_pos hx] at h
        cases P with
        | nil =>
          have h : x :: L.filter p = n :: R := h
          obtain ⟨e1, e2⟩ := List.cons.inj h
          exact ⟨[], L, by rw [e1]; rfl, rfl, by rw [← e1]; exact hx⟩
        | cons y P =>
          have h : x :: L.filter p = y :: (P ++ n :: R) := h
          obtain ⟨e1, e2⟩ := List.cons.inj h
          obtain ⟨P', R', h1, h2, h3⟩ := filter_app e2
          exact ⟨x :: P', R', by rw [h1]; rfl, by rw [List.filter_cons_of_pos hx, h2, e1], h3⟩
      · rw [List.filter_cons_of_neg hx] at h
        obtain ⟨P', R', h1, h2, h3⟩ := filter_app h
        exact ⟨x :: P', R', by rw [h1]; rfl, by rw [List.filter_cons_of_neg hx, h2], h3⟩
theorem rest_at {L : List Nat} {la : Option Nat} (hd : L.Nodup) (h : ∀ n, la = some n → n ∈ L) {P R : List Nat} {n : Nat} (e : restA L la = P ++ n :: R) : restA L (some n) = R := by
  obtain ⟨S, eS⟩ := rest_suf hd h
  have e2 : L = (S ++ P) ++ n :: R := by rw [List.append_assoc, ← e]; exact eS
  have hn : n ∉ S ++ P := fun z => by
    rw [e2] at hd
    exact (List.nodup_append.mp hd).2.2 n z n List.mem_cons_self rfl
  rw [e2]
  exact rest_of hn
theorem cnt50 {n : Nat} (h : n < 2147483648) : (Int32.ofNat n ≤ 50000) ↔ n ≤ mostL := by
  rw [show (Int32.ofNat n ≤ 50000) = ((Int32.ofNat n).toInt ≤ (50000 : Int32).toInt) from i32.2.1 _ _, Int32.toInt_ofNat_of_lt h, show (50000 : Int32).toInt = 50000 by decide]
  unfold mostL; omega
section ST1
variable {b : CT} {I I' I'' I2 : Nat → Nat → Int32} {F F' F'' F2 : Nat → Nat → Option Nat} {A A' A'' A3 : Nat → Nat → Nat → Int32} {E : Nat → Nat → Nat → Option Nat} {o v r sp q i j k n t g0 : Nat} {lv gl : Nat → Nat} {T : Int32} {Ga : List QG} {G : QG} {a : AS} {g : CGs} {env : Nat → Int32} {X X' : String → HS → Prop} {Q Q' : HS → Prop} {QI QI' : Int32 → HS → Prop}
theorem Ad_rf : Ad v q I I F F A A := ⟨fun _ _ _ => ⟨rfl, rfl⟩, fun _ _ => rfl, fun _ _ => rfl, rfl, fun _ _ => rfl⟩
theorem Ad_tr (h : Ad v q I I' F F' A A') (h2 : Ad v q I' I'' F' F'' A' A'') : Ad v q I I'' F F'' A A'' := ⟨fun x z1 z2 => ⟨(h2.1 x z1 z2).1.trans (h.1 x z1 z2).1, (h2.1 x z1 z2).2.trans (h.1 x z1 z2).2⟩, fun x z => (h2.2.1 x z).trans (h.2.1 x z), fun j z => (h2.2.2.1 j z).trans (h.2.2.1 j z), h2.2.2.2.1.trans h.2.2.2.1, fun j z => (h2.2.2.2.2 j z).trans (h.2.2.2.2 j z)⟩
theorem Ad_SVr (h : Ad v (lv i) I I' F F' A A') (hi : g0 ≤ i ∧ i < 10) (h1 : v ≠ lv i) (h2 : sp ≠ lv i) (h3 : sp ≠ v) : SVr v sp lv g0 I I' F F' A A' := ⟨fun x z1 z2 z3 => ⟨(h.1 x (z3 i hi.1 hi.2) z1).1, h.2.1 x (z3 i hi.1 hi.2), (h.1 x (z3 i hi.1 hi.2) z1).2⟩, ⟨h.2.1 v h1, h.2.2.1⟩, h.2.1 sp h2, fun j _ => by rw [(h.1 sp h2 h3).1]⟩
theorem Ad_st {js : List Nat} {w : Int32} (hI : Iq q js I' I2) (hF : ∀ x, x ≠ q → F2 x = F' x) (hA : Av4 v A' A3) (hqv : q ≠ v) : Ad v q I' (up2 (up2 I2 q 7 0) v 1 w) F' F2 A' A3 := ⟨fun x z1 z2 => ⟨by rw [up2_row _ _ _ z2, up2_row _ _ _ z1, hI.1 x z1], hA.1 x z2⟩, hF, fun j z => by rw [up2_k _ _ _ _ z, up2_row _ _ _ (Ne.symm hqv), hI.1 v (Ne.symm hqv)], hA.1 q hqv, hA.2⟩
/-- who is asked for has the known values -/
theorem ask_fitG {T : Int} (hV : AV a) (hw : WfG a.tn a.co G) (hk : G.kd ≤ 1) (h : askB a G.tb (mskG G) (worK env G.ag) T n = true) : ∀ k x, G.ag[k]? = some x → x.1 = 1 → G.kn (ix x.2) = true → a.fc n k = env (ix x.2) := fun k x hx h1 h2 => by
  obtain ⟨w3, w4⟩ := hw.2.2.1 hk
  have hc := (hV.2.1.2 _ w3).2.1
  have hlt := (List.getElem?_eq_some_iff.mp hx).1
  have k4 : k < 4 := by omega
  unfold askB at h
  have hf := range_all.mp (Bool.and_eq_true_iff.mp h).2 k k4
  have hm : bitm (mskG G) k = true := by
    unfold mskG
    rw [bit_mask _ k4]
    unfold mkL
    rw [hx]
    show mkB G.kn x = true
    unfold mkB
    rw [h1, h2]; rfl
  rw [hm, decide_eq_true (show (k : Int) < (a.co G.tb).toInt by omega)] at hf
  have hf : a.fc n k = worK env G.ag k := by simpa using hf
  rw [hf]
  unfold worK
  rw [hx]
  exact if_pos h1
theorem qs_solAdv (hS : SVh o a g b v r sp lv gl T Ga I F A E) (hV : AV a) (hG : Ga[i]? = some G) (hk : G.kd ≤ 1) (hw : WfG a.tn a.co G) (he : EnvC G.kn env A v) {la : Option Nat} {l : Nat} (hL : Lk1 a (lv i) G.tb false (mskG G) T.toInt la (wanK env G) g.d g.fa I F A) (h7 : I (lv i) 7 = 0) (hl : I v 1 = Int32.ofNat l) (hl2 : l ≤ mostL)
    (hT : ∀ I' F' A' x l', scanQ a T.toInt G env (restA (a.rw G.tb) la) l = (l', some (x, restA (a.rw G.tb) (some x))) → Ad v (lv i) I I' F F' A A' → I' v 1 = Int32.ofNat l' → Lk1 a (lv i) G.tb false (mskG G) T.toInt (some x) (wanK env G) g.d g.fa I' F' A' → I' (lv i) 7 = 0 → KpV G.kn v A A' → EnvC (mkKn G.kn G.ag) (bindE a env G x) A' v → QI 1 (cS b I' F' A' E) → QI' 1 (cS b I' F' A' E))
    (hF : ∀ I' F' A' l', scanQ a T.toInt G env (restA (a.rw G.tb) la) l = (l', none) → l' ≤ mostL → Ad v (lv i) I I' F F' A A' → I' v 1 = Int32.ofNat l' → KpV G.kn v A A' → QI 0 (cS b I' F' A' E) → QI' 0 (cS b I' F' A' E))
    (hX : ∀ I' F' A', mostL < (scanQ a T.toInt G env (restA (a.rw G.tb) la) l).1 → Ad v (lv i) I I' F F' A A' → X eAE (cS (b.B.wC (b.B.c - 1) (b.B.z - 6), b.2) I' F' A' E) → X' eAE (cS (b.B.wC (b.B.c - 1) (b.B.z - 6), b.2) I' F' A' E)) : w_X8_advanceTo (some v) (some (lv i)) (some (gl i)) (cS b I F A E) QI X → w_X8_advanceTo (some v) (some (lv i)) (some (gl i)) (cS b I F A E) QI' X' := by
  obtain ⟨s1, ⟨s2, s3, s4⟩, -, s8, s9, s10, ⟨s11, s12⟩, s13, s14⟩ := id hS
  have hb := s1.1
  have hi : i < 10 := by have := (List.getElem?_eq_some_iff.mp hG).1; omega
  have hlv := (s8 i hi).2
  have hvl : v ≠ lv i := Is_ne s2 hlv (by decide)
  have hsl : sp ≠ lv i := Is_ne s4 hlv (by decide)
  have hsv : sp ≠ v := Is_ne s4 s2 (by decide)
  obtain ⟨w3, w4⟩ := hw.2.2.1 hk
  have hco := (hV.2.1.2 _ w3).2.1
  have hnd := hV.1.2.2.1 G.tb
  have hrow := row_le hV G.tb
  unfold w_X8_advanceTo
  refine qc_loop (fun u b' I' F' A' E' => b' = b ∧ E' = E ∧ Ad v (lv i) I I' F F' A A' ∧ KpV G.kn v A A' ∧ I' (lv i) 7 = 0 ∧ ∃ (la' : Option Nat) (P : List Nat) (l' m : Nat), u.toInt = (m : Int) ∧ m ≤ P.length ∧ restA (a.rw G.tb) la = P ++ restA (a.rw G.tb) la' ∧ scanQ a T.toInt G env (restA (a.rw G.tb) la) l = scanQ a T.toInt G env (restA (a.rw G.tb) la') l' ∧ l' ≤ mostL ∧ I' v 1 = Int32.ofNat l' ∧ Lk1 a (lv i) G.tb false (mskG G) T.toInt la' (wanK env G) g.d g.fa I' F' A') ⟨rfl, rfl, Ad_rf, KpV_rf, h7, la, [], l, 0, by decide, by simp, rfl, rfl, hl2, hl, hL⟩ (fun u b' I' F' A' E' again again' ⟨e1, e2, hAd, hKp, h7', la', P, l', m, m1, m2, m3, m4, m5, m6, m7⟩ ha => ?_)
  subst e1; subst e2
  have hS' := SVh_SVr hS (Ad_SVr (g0 := i) (sp := sp) hAd ⟨Nat.le_refl _, hi⟩ hvl hsl hsv)
  have hx' := hS'.1
  have hlam : ∀ n, la = some n → n ∈ a.rw G.tb := fun n hn => (hL.2.2.2.2.2.2.2 n hn).1
  have hlam' : ∀ n, la' = some n → n ∈ a.rw G.tb := fun n hn => (m7.2.2.2.2.2.2.2 n hn).1
  have hlen : P.length + (restA (a.rw G.tb) la').length ≤ 3000 := by
    obtain ⟨S, eS⟩ := rest_suf hnd hlam
    have := congrArg List.length eS
    rw [m3, List.length_append, List.length_append] at this
    omega
  have mL : mostL = 50000 := rfl
  refine qv_if (fun z => ?_) (fun z => ?_)
  · simp only [i32, Int32.reduceToInt] at z
    have e0 : restA (a.rw G.tb) la' = [] := List.length_eq_zero_iff.mp (by omega)
    rw [e0] at m4
    exact qc_bit (hF I' F' A' l' m4 m5 hAd m6 hKp)
  simp only [i32, Int32.reduceToInt] at z
  refine qc_recv (fun _ => ?_)
  refine qs_advance (s14 G.tb w3) hx' hV hlv m7 (fun z => by cases z) (fun I2 _ hno hI2 k6 k7 => ?_) (fun I2 n P2 R2 _ hsp hno hn hask hI2 k0 k7 => ?_)
  · -- the end of the row
    rw [inLane_wan] at hno k7
    rw [h7', Int32.zero_add] at k7
    have hll : ((restA (a.rw G.tb) la').filter (inLane a G.tb (mskG G) (worK env G.ag))).length ≤ 3000 := Nat.le_trans (List.length_filter_le _ _) (by omega)
    have hno' : ∀ x, x ∈ restA (a.rw G.tb) la' → inLane a G.tb (mskG G) (worK env G.ag) x = true → hitB a T.toInt G env x = false := fun x hx hl => by
      have := hno x (List.mem_filter.mpr ⟨hx, hl⟩)
      rw [askB_wan] at this
      unfold hitB; rw [this]; rfl
    obtain ⟨sk1, sk2⟩ := scanQ_skip (R := []) (restA (a.rw G.tb) la') l' hno' m5
    rw [List.append_nil] at sk1 sk2
    unfold lanL at sk1 sk2
    refine qc_getI (fun _ => ?_)
    refine qc_recv (fun _ => ?_)
    refine qc_take ?_
    refine qc_putI (fun _ => ?_)
    refine qc_getI (fun _ => ?_)
    have eI : I2 v 1 + I2 (lv i) 7 = Int32.ofNat (l' + ((restA (a.rw G.tb) la').filter (inLane a G.tb (mskG G) (worK env G.ag))).length) := by rw [k7, hI2.1 v hvl, m6, Int32.ofNat_add]
    rw [up2_self, eI]
    have hAd2 := Ad_tr hAd (Ad_st (w := Int32.ofNat (l' + ((restA (a.rw G.tb) la').filter (inLane a G.tb (mskG G) (worK env G.ag))).length)) (F' := F') (F2 := F') (A' := A') (A3 := A') hI2 (fun _ _ => rfl) Av4_rf (Ne.symm hvl))
    have hc := cnt50 (n := l' + ((restA (a.rw G.tb) la').filter (inLane a G.tb (mskG G) (worK env G.ag))).length) (by omega)
    refine qv_if (fun y => ?_) (fun y => ?_)
    · have y := hc.mp y
      refine qv_if (fun _ => ?_) (fun z => absurd rfl z)
      refine qc_bit (hF _ F' A' _ (m4.trans (sk1 y)) y hAd2 (up2_self _ _ _ _) hKp)
    · have y : ¬ _ := fun z => y (hc.mpr z)
      exact qc_throw (hX _ F' A' (by rw [m4]; exact sk2 (by omega)) hAd2)
  · -- one that is there and fits
    rw [inLane_wan] at hsp
    obtain ⟨P', R', f1, f2, f3⟩ := filter_app hsp
    have hR' : restA (a.rw G.tb) (some n) = R' := rest_at hnd hlam' f1
    have hPl : P'.length + 1 + R'.length + P.length ≤ 3000 := by
      have := congrArg List.length f1
      rw [List.length_append, List.length_cons] at this
      omega
    have hP2 : P2.length ≤ P'.length := by rw [← f2]; exact List.length_filter_le _ _
    rw [h7', Int32.zero_add] at k7
    have hno' : ∀ x, x ∈ P' → inLane a G.tb (mskG G) (worK env G.ag) x = true → hitB a T.toInt G env x = false := fun x hx hl => by
      have := hno x (by rw [← f2]; exact List.mem_filter.mpr ⟨hx, hl⟩)
      rw [askB_wan] at this
      unfold hitB; rw [this]; rfl
    obtain ⟨sk1, sk2⟩ := scanQ_skip (R := n :: R') P' l' hno' m5
    unfold lanL at sk1 sk2
    rw [f2, ← f1] at sk1 sk2
    have hfit := ask_fitG hV hw hk (by rw [← askB_wan]; exact hask)
    refine qc_getI (fun _ => ?_)
    refine qc_recv (fun _ => ?_)
    refine qc_take ?_
    refine qc_putI (fun _ => ?_)
    refine qc_getI (fun _ => ?_)
    have eI : I2 v 1 + I2 (lv i) 7 = Int32.ofNat (l' + (P2.length + 1)) := by rw [k7, hI2.1 v hvl, m6, ← Int32.ofNat_add]
    rw [up2_self, eI]
    have hF2 : ∀ x, x ≠ lv i → up2 F' (lv i) 5 (some (g.fa n)) x = F' x := fun x hx => up2_row _ _ _ hx
    have stp : ∀ A3, Av4 v A' A3 → Ad v (lv i) I (up2 (up2 I2 (lv i) 7 0) v 1 (Int32.ofNat (l' + (P2.length + 1)))) F (up2 F' (lv i) 5 (some (g.fa n))) A A3 := fun A3 h3 => Ad_tr hAd (Ad_st hI2 hF2 h3 (Ne.symm hvl))
    have hc := cnt50 (n := l' + (P2.length + 1)) (by omega)
    refine qv_if (fun y => ?_) (fun y => ?_)
    · have y := hc.mp y
      refine qv_if (fun z => absurd z (by simp)) (fun _ => ?_)
      have hS3 := SVh_SVr hS (Ad_SVr (g0 := i) (sp := sp) (stp A' Av4_rf) ⟨Nat.le_refl _, hi⟩ hvl hsl hsv)
      have hx3 := hS3.1
      have hlk : ∀ A3, Av4 v A' A3 → Lk1 a (lv i) G.tb false (mskG G) T.toInt (some n) (wanK env G) g.d g.fa (up2 (up2 I2 (lv i) 7 0) v 1 (Int32.ofNat (l' + (P2.length + 1)))) (up2 F' (lv i) 5 (some (g.fa n))) A3 := fun A3 h3 => by
        obtain ⟨y1, y2, y3, y4, y5, y6, y7, y8⟩ := m7
        have ei : ∀ j, j ∉ [0, 7] → (up2 (up2 I2 (lv i) 7 0) v 1 (Int32.ofNat (l' + (P2.length + 1)))) (lv i) j = I' (lv i) j := fun j hj => by
          rw [up2_row _ _ _ (Ne.symm hvl), up2_k _ _ _ _ (fun z => hj (by rw [z]; decide)), hI2.2 j hj]
        unfold Lk1
        rw [ei 6 (by decide), ei 3 (by decide), ei 4 (by decide), up2_k _ _ _ _ (show 2 ≠ 5 by decide), up2_self, h3.1 (lv i) (Ne.symm hvl)]
        refine ⟨y1, y2, y3, y4, y5, rfl, y7, fun n' hn' => ?_⟩
        cases hn'
        exact ⟨hn, by unfold askB at hask; exact (Bool.and_eq_true_iff.mp hask).2⟩
      have h73 : (up2 (up2 I2 (lv i) 7 0) v 1 (Int32.ofNat (l' + (P2.length + 1)))) (lv i) 7 = 0 := by rw [up2_row _ _ _ (Ne.symm hvl), up2_self]
      have h13 : (up2 (up2 I2 (lv i) 7 0) v 1 (Int32.ofNat (l' + (P2.length + 1)))) v 1 = Int32.ofNat (l' + (P2.length + 1)) := up2_self _ _ _ _
      have sk := sk1 (by omega)
      refine qc_recv (fun _ => ?_)
      refine qs_bind hb s2 (s10 i hi).2 (hx3.2.2.2.1 G.tb n hn) (hS3.2.2.2.2.2.2.2.1 i G hG) hk hw (hx3.2.2.1.2 G.tb w3).2.2.2.1 hco.2 hfit (EnvC_kp he hKp) (fun A3 h3 k3 ho he3 => ?_) (fun A3 h3 k3 ho => ?_)
      · refine qv_if (fun z => absurd z (by decide)) (fun _ => ?_)
        have hh : hitB a T.toInt G env n = true := by
          unfold hitB
          rw [← askB_wan, hask, ho]; rfl
        refine qc_bit (hT _ _ A3 n (l' + (P2.length + 1)) ?_ (stp A3 h3) h13 (hlk A3 h3) h73 (KpV_tr hKp k3) he3)
        rw [m4, sk, scanQ_hit f3 hh (by omega), hR', Nat.add_assoc]
      · refine qv_if (fun _ => ?_) (fun z => absurd rfl z)
        have hh : hitB a T.toInt G env n = false := by
          unfold hitB
          rw [ho, Bool.and_false]
        refine ha _ _ _ _ _ _ ⟨rfl, rfl, stp A3 h3, KpV_tr hKp k3, h73, some n, P ++ P' ++ [n], l' + (P2.length + 1), m + 1, ?_, ?_, ?_, ?_, y, h13, hlk A3 h3⟩
        · rw [i_add m1 (show (1 : Int32).toInt = 1 by decide) (by omega)]; omega
        · rw [List.length_append, List.length_append, List.length_singleton]; omega
        · rw [hR', m3, f1, List.append_assoc, List.append_assoc]; rfl
        · rw [m4, sk, scanQ_no f3 hh (by omega), hR', Nat.add_assoc]
    · have y : ¬ _ := fun z => y (hc.mpr z)
      refine qc_throw (hX _ _ A' ?_ (stp A' Av4_rf))
      rw [m4]
      by_cases y2 : mostL < l' + P2.length
      · exact sk2 y2
      · rw [sk1 (by omega)]
        exact scanQ_full f3 (by omega)
end ST1
