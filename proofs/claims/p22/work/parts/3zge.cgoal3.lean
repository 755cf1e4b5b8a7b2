set_option linter.unusedVariables false
set_option linter.unusedSimpArgs false
/-! the class: a sign's goal, a question -/
def w_sgEnd (l0 l1 : Option Nat) (v10 : Int32) (x9 : HS) (Q : HS → Prop) (X : String → HS → Prop) : Prop := wRecv x9 6 l0 (w_X6_readKnownArg l0 l1 1 x9 (fun x11 => wGetI x11 6 2 l0 fun v13 => wPutI x11 6 2 l0 (v13 ||| v10) fun x14 => Q x14) X)
def w_sgCmp (l0 l1 : Option Nat) (v1 : Int32) (x16 : HS) (Q : HS → Prop) (X : String → HS → Prop) : Prop := wRecv x16 6 l0 (w_X6_readSign l0 60 61 35 x16 (fun v18 x17 => wPutI x17 2 2 l1 v18 fun x19 => wRecv x19 6 l0 (w_X6_requireKnown l0 l1 0 v1 x19 (fun x20 => w_sgEnd l0 l1 0 x20 Q X) X)) X)
def w_sgSet (l0 l1 : Option Nat) (v27 : Int32) (x30 : HS) (Q : HS → Prop) (X : String → HS → Prop) : Prop := wGetI x30 6 6 l0 fun v31 => wPutI x30 6 6 l0 (v31 + 1) fun x32 => wRecv x32 6 l0 (w_X6_readKnownArg l0 l1 0 x32 (fun x33 => wRecv x33 6 l0 (w_X6_skipBlanks l0 x33 (fun x35 => wRecv x35 6 l0 (w_X6_readSign l0 43 45 42 x35 (fun v38 x37 => wPutI x37 2 2 l1 v38 fun x39 => w_sgEnd l0 l1 ((1 : Int32) <<< (v27 &&& 31)) x39 Q X) X)) X)) X)
theorem w_sg (l0 l1 : Option Nat) (x : HS) (Q : HS → Prop) (X : String → HS → Prop) : w_X6_readSignGoal l0 l1 x Q X = wGetI x 6 6 l0 fun v1 => wRecv x 6 l0 (w_X6_readArg l0 l1 0 0 x (fun x2 => wRecv x2 6 l0 (w_X6_skipBlanks l0 x2 (fun x4 => wRecv x4 6 l0 (w_X6_here l0 x4 (fun v7 x6 => wIf (v7 = 58) (wGetF x6 2 0 l1 fun v22 => wAldJ x6 20 v22 0 fun v23 => wIf (v23 = 2) (wGetF x6 2 1 l1 fun v24 => wAldJ x6 20 v24 0 fun v25 => wPutI x6 2 5 l1 v25 fun x26 => wGetI x26 2 5 l1 fun v27 => wGetI x26 6 2 l0 fun v28 => wIf ((v28 &&& ((1 : Int32) <<< (v27 &&& 31))) = 0) (w_sgSet l0 l1 v27 x26 Q X) (wRecv x26 6 l0 (w_X6_refuse l0 v1 x26 (fun x40 => w_sgSet l0 l1 v27 x40 Q X) X))) (w_sgCmp l0 l1 v1 x6 Q X)) (w_sgCmp l0 l1 v1 x6 Q X)) X)) X)) X) := rfl
section QR4
variable {b : CT} {I I' I'' : Nat → Nat → Int32} {F F' F'' : Nat → Nat → Option Nat} {A A' A'' : Nat → Nat → Nat → Int32} {E : Nat → Nat → Nat → Option Nat} {o r s q n i j k t : Nat} {d : Nat → Nat} {tn : Int32} {co : Nat → Int32} {kn : Nat → Bool} {tp : Nat → Int32} {X X' : String → HS → Prop} {Q Q' : HS → Prop} {QI QI' : Int32 → HS → Prop} {QF QF' : Option Nat → HS → Prop} {x y : QA}
theorem qr_tgoal (hb : CB b) (hR : RDc b o r s tp n I F A) (hT : TBc b s d tn co I E) (hq : Is b 2 q) (hkn : KnR (I r 2) kn) (hi : (I r 6).toInt = (i : Int)) (hin : i ≤ n) (hc : byA tp n i = 116 ∨ byA tp n i = 33)
    (h : ∀ I' F' A' G kn' j, ogA tp n tn co kn i = some ((G, kn'), j) → j ≤ n → Rq r q I I' F F' A A' → (I' r 6).toInt = (j : Int) → KnR (I' r 2) kn' → GoC q d G I' F' A' → (G.kd ≤ 1 → (G.tb : Int) < tn.toInt) → Q (cS b I' F' A' E) → Q' (cS b I' F' A' E))
    (hN : ogA tp n tn co kn i = none → ∀ u, X eUO u → X' eUO u) : w_X6_readTableGoal (some r) (some q) (cS b I F A E) Q X → w_X6_readTableGoal (some r) (some q) (cS b I F A E) Q' X' := by
  have hr := hR.1
  have h8 := hR.2.2.2.2.2.2.2
  have hqr : q ≠ r := Is_ne hq hr (by decide)
  rw [w_tg, w_tg]
  refine qc_recv (fun _ => ?_)
  refine qr_here hb hR hi (fun c hcc => ?_)
  refine qc_putI (fun _ => qc_getI (fun _ => ?_))
  rw [up2_self]
  have hIq : Iq q [2] I (up2 I q 2 c) := Iq_up Iq_rf (by decide)
  have s2 : up2 I q 2 c q 2 = c := up2_self _ _ _ _
  generalize up2 I q 2 c = I1 at hIq s2 ⊢
  have hRq : Rq r q I I1 F F A A := Rq_Iqq hqr hIq
  have hR1 := RDc_Rq hq hR hRq
  have hT1 := TBc_Rq hr hq hT hRq
  have i1 : (I1 r 6).toInt = (i : Int) := by rw [hIq.1 r (Ne.symm hqr)]; exact hi
  have k1 : KnR (I1 r 2) kn := by rw [hIq.1 r (Ne.symm hqr)]; exact hkn
  have h33 := hcc 33 (by decide) (by decide)
  have h116 := hcc 116 (by decide) (by decide)
  refine qv_if (fun z => ?_) (fun z => ?_)
  · have e33 := h33.mp z
    have hlt := byA_in e33 (by decide)
    have eo : ogA tp n tn co kn i = (tgA tp n tn co (blA tp n (i + 1))).map fun r => (((1, r.1.1, r.1.2, kn), kn), r.2) := by
      unfold ogA
      rw [if_neg (by rw [e33]; decide), if_pos e33]
    refine qc_getI (fun _ => qc_putI (fun _ => qc_recv (fun _ => ?_)))
    have hI2 : Iq r [6] I1 (up2 I1 r 6 (I1 r 6 + 1)) := Iq_up Iq_rf (by decide)
    have j1 : (up2 I1 r 6 (I1 r 6 + 1) r 6).toInt = ((i + 1 : Nat) : Int) := by rw [up2_self, i_add i1 (show (1 : Int32).toInt = 1 by decide) (by omega)]; omega
    generalize up2 I1 r 6 (I1 r 6 + 1) = I2 at hI2 j1 ⊢
    have hR2 := RDc_Iq hR1 hI2
    refine qr_skip hb hR2 j1 hlt (fun I3 hI3 j3 => ?_)
    have hI13 := Iq_tr hI2 hI3
    have hRq3 : Rq r q I I3 F F A A := Rq_tr hRq (Rq_Iq hI13 (by decide))
    refine qr_tgTail (kd := 1) hb (RDc_Rq hq hR hRq3) (TBc_Rq hr hq hT hRq3) hq (by rw [hI13.1 q hqr, s2, z]; rfl) (by decide) (by rw [hI13.2 2 (by decide)]; exact k1) j3 (blA_n hlt) (fun I4 F4 A4 t L j4 e4 hj4 hRq4 k4 kk4 goc ht => ?_) (fun e => hN (by rw [eo, e]; rfl))
    refine h I4 F4 A4 (1, t, L, kn) kn j4 (by rw [eo, e4]; rfl) hj4 (Rq_tr hRq3 hRq4) k4 ?_ goc (fun _ => ht)
    rw [if_neg (by decide)] at kk4; exact kk4
  · have e116 := hc.resolve_right (fun y => z (h33.mpr y))
    have eo : ogA tp n tn co kn i = (tgA tp n tn co i).map fun r => (((0, r.1.1, r.1.2, kn), mkKn kn r.1.2), r.2) := by
      unfold ogA
      rw [if_pos e116]
    refine qr_tgTail (kd := 0) hb hR1 hT1 hq (by rw [s2, h116.mpr e116]; rfl) (by decide) k1 i1 hin (fun I4 F4 A4 t L j4 e4 hj4 hRq4 k4 kk4 goc ht => ?_) (fun e => hN (by rw [eo, e]; rfl))
    refine h I4 F4 A4 (0, t, L, kn) (mkKn kn L) j4 (by rw [eo, e4]; rfl) hj4 (Rq_tr hRq hRq4) k4 ?_ goc (fun _ => ht)
    rw [if_pos rfl] at kk4; exact kk4
theorem qr_require {w v : Int32} (hw : w.toInt = (k : Int)) (hb : CB b) (hr : Is b 6 r) (hq : Is b 2 q) (hx : argOk x) (hx2 : x.1 ≠ 2) (h0 : A q 0 k = kdN x) (h1 : A q 1 k = x.2) (hkn : KnR (I r 2) kn)
    (h : ∀ A', knB kn x = true → Aq q k A A' → Ag1 q k x A' → Q (cS b I F A' E) → Q' (cS b I F A' E)) (hN : knB kn x = false → ∀ u, X eUO u → X' eUO u) : w_X6_requireKnown (some r) (some q) w v (cS b I F A E) Q X → w_X6_requireKnown (some r) (some q) w v (cS b I F A E) Q' X' := by
  unfold w_X6_requireKnown
  refine qc_getA hb (by decide) (fun _ => ?_)
  refine qc_ald hb hq (by decide) (by decide) (fun _ => ?_)
  rw [ix_of hw, h0]
  dsimp only [wJoin]
  by_cases e1 : x.1 = 1
  · have e2 : kdN x = 2 := if_pos e1
    obtain ⟨v0, v8⟩ := hx.2 e1
    have hix : x.2.toInt = ((ix x.2 : Nat) : Int) := (ix_int v0).symm
    have hlt : ix x.2 < 8 := by omega
    have ekn : knB kn x = kn (ix x.2) := by unfold knB; rw [e1]; rfl
    rw [e2]
    refine qv_if (fun _ => ?_) (fun z => absurd rfl z)
    refine qc_getI (fun _ => ?_)
    refine qc_getA hb (by decide) (fun _ => ?_)
    refine qc_ald hb hq (by decide) (by decide) (fun _ => ?_)
    rw [ix_of hw, h1]
    refine qc_isIn hix ?_
    rw [hkn _ hlt]
    cases hk1 : kn (ix x.2) with
    | true =>
      refine qv_if (fun z => absurd z (by decide)) (fun _ => ?_)
      refine qc_getA hb (by decide) (fun _ => ?_)
      refine qc_astI hb hq (by decide) (fun _ => ?_)
      rw [ix_of hw]
      refine h _ (by rw [ekn, hk1]) (Aq_up Aq_rf) ⟨?_, ?_⟩
      · rw [up3_s, if_pos e1]
      · rw [up3_j (by decide)]; exact h1
    | false =>
      refine qv_if (fun _ => ?_) (fun z => absurd rfl z)
      exact qc_recv (fun _ => qr_refuse (hN (by rw [ekn, hk1])))
  · have e2 : kdN x = 0 := by unfold kdN; rw [if_neg e1, if_neg hx2]
    rw [e2]
    refine qv_if (fun z => absurd z (by decide)) (fun _ => ?_)
    refine h A ?_ Aq_rf ⟨?_, h1⟩
    · unfold knB
      rw [bne_iff_ne.mpr e1]; rfl
    · rw [h0, e2, if_neg e1]
theorem qr_knownArg {w : Int32} (hw : w.toInt = (k : Int)) (hb : CB b) (hR : RDc b o r s tp n I F A) (hq : Is b 2 q) (hkn : KnR (I r 2) kn) (hi : (I r 6).toInt = (i : Int)) (hin : i ≤ n)
    (h : ∀ I' A' x j, kaA tp n kn i = some (x, j) → j ≤ n → Iq r [6] I I' → Aq q k A A' → (I' r 6).toInt = (j : Int) → Ag1 q k x A' → knB kn x = true → x.1 ≠ 2 → argOk x → Q (cS b I' F A' E) → Q' (cS b I' F A' E)) (hN : kaA tp n kn i = none → ∀ u, X eUO u → X' eUO u) : w_X6_readKnownArg (some r) (some q) w (cS b I F A E) Q X → w_X6_readKnownArg (some r) (some q) w (cS b I F A E) Q' X' := by
  unfold w_X6_readKnownArg
  refine qc_recv (fun _ => qr_skip hb hR hi hin (fun I1 hI1 j1 => ?_))
  have hb1 : blA tp n i ≤ n := blA_n hin
  refine qc_getI (fun _ => qc_recv (fun _ => ?_))
  refine qr_arg (any := false) hw ⟨fun _ => rfl, fun _ => rfl⟩ hb (RDc_Iq hR hI1) hq j1 hb1 (fun I2 A2 x j2 e2 hI2 hA2 j2' a0 a1 => ?_) (fun e => hN (by unfold kaA; rw [e]; rfl))
  have ok := agA_ok e2
  have hx2 := ok.2 rfl
  have ek : kaA tp n kn i = if knB kn x = true then some (x, j2) else none := by unfold kaA; rw [e2]; rfl
  refine qc_recv (fun _ => ?_)
  refine qr_require hw hb hR.1 hq ok.1 hx2 a0 (a1 hx2) (by rw [hI2.2 2 (by decide), hI1.2 2 (by decide)]; exact hkn) (fun A3 z hA3 ag => ?_) (fun z => hN (by rw [ek, z]; rfl))
  exact h I2 A3 x j2 (by rw [ek, if_pos z]) (agA_le hb1 e2).2 (Iq_tr hI1 hI2) ⟨fun y hy => (hA3.1 y hy).trans (hA2.1 y hy), fun j i hi => (hA3.2 j i hi).trans (hA2.2 j i hi)⟩ j2' ag z hx2 ok.1
theorem qr_sign {c1 c2 c3 : Int32} (r1 : 0 ≤ c1.toInt ∧ c1.toInt ≤ 127) (r2 : 0 ≤ c2.toInt ∧ c2.toInt ≤ 127) (r3 : 0 ≤ c3.toInt ∧ c3.toInt ≤ 127) (hb : CB b) (hR : RDc b o r s tp n I F A) (hi : (I r 6).toInt = (i : Int)) (hin : i ≤ n)
    (h : ∀ I' c, (c = c1 ∨ c = c2 ∨ c = c3) → byA tp n i = c → i < n → Iq r [6] I I' → (I' r 6).toInt = ((i + 1 : Nat) : Int) → QI c (cS b I' F A E) → QI' c (cS b I' F A E)) (hN : byA tp n i ≠ c1 ∧ byA tp n i ≠ c2 ∧ byA tp n i ≠ c3 → ∀ u, X eUO u → X' eUO u) : w_X6_readSign (some r) c1 c2 c3 (cS b I F A E) QI X → w_X6_readSign (some r) c1 c2 c3 (cS b I F A E) QI' X' := by
  have h8 := hR.2.2.2.2.2.2.2
  unfold w_X6_readSign
  refine qc_recv (fun _ => qr_here hb hR hi (fun c hc => ?_))
  dsimp only [wJoin]
  have ok : (c = c1 ∨ c = c2 ∨ c = c3) → (wGetI (cS b I F A E) 6 6 (some r) fun v5 => wPutI (cS b I F A E) 6 6 (some r) (v5 + 1) fun x6 => QI c x6) → (wGetI (cS b I F A E) 6 6 (some r) fun v5 => wPutI (cS b I F A E) 6 6 (some r) (v5 + 1) fun x6 => QI' c x6) := fun z => by
    have rc : 0 ≤ c.toInt ∧ c.toInt ≤ 127 := by
      rcases z with z | z | z
      · rw [z]; exact r1
      · rw [z]; exact r2
      · rw [z]; exact r3
    have e := (hc c rc.1 rc.2).mp rfl
    have hlt := byA_in e (fun y => by rw [y] at rc; exact absurd rc.1 (by decide))
    refine qc_getI (fun _ => qc_putI (fun _ => ?_))
    refine h _ c z e hlt (Iq_up Iq_rf (by decide)) ?_
    rw [up2_self, i_add hi (show (1 : Int32).toInt = 1 by decide) (by omega)]; omega
  refine qv_if (fun z => ok (Or.inl z)) (fun z => qv_if (fun z2 => ok (Or.inr (Or.inl z2))) (fun z2 => qv_if (fun z3 => ok (Or.inr (Or.inr z3))) (fun z3 => ?_)))
  refine qc_getI (fun _ => qc_recv (fun _ => qr_refuse (hN ⟨fun y => z ((hc c1 r1.1 r1.2).mpr y), fun y => z2 ((hc c2 r2.1 r2.2).mpr y), fun y => z3 ((hc c3 r3.1 r3.2).mpr y)⟩)))
theorem qr_sgEnd {v : Int32} (hb : CB b) (hR : RDc b o r s tp n I F A) (hq : Is b 2 q) (hkn : KnR (I r 2) kn) (hi : (I r 6).toInt = (i : Int)) (hin : i ≤ n)
    (h : ∀ I' A' y j, kaA tp n kn i = some (y, j) → j ≤ n → Iq r [2, 6] I I' → Aq q 1 A A' → (I' r 6).toInt = (j : Int) → I' r 2 = I r 2 ||| v → Ag1 q 1 y A' → knB kn y = true → y.1 ≠ 2 → argOk y → Q (cS b I' F A' E) → Q' (cS b I' F A' E)) (hN : kaA tp n kn i = none → ∀ u, X eUO u → X' eUO u) : w_sgEnd (some r) (some q) v (cS b I F A E) Q X → w_sgEnd (some r) (some q) v (cS b I F A E) Q' X' := by
  unfold w_sgEnd
  refine qc_recv (fun _ => ?_)
  refine qr_knownArg (k := 1) (by decide) hb hR hq hkn hi hin (fun I1 A1 y j1 e1 hj hI1 hA1 k1 ag kb y2 ok => ?_) hN
  refine qc_getI (fun _ => qc_putI (fun _ => ?_))
  refine h _ A1 y j1 e1 hj (Iq_up (Iq_mono hI1 (by decide)) (by decide)) hA1 ?_ ?_ ag kb y2 ok
  · rw [up2_k _ _ _ _ (by decide)]; exact k1
  · rw [up2_self, hI1.2 2 (by decide)]
theorem Ag1_Aq {k k' : Nat} (h : Ag1 q k x A) (hA : Aq q k' A A') (hk : k ≠ k') : Ag1 q k x A' := ⟨by rw [hA.2 0 k hk]; exact h.1, by rw [hA.2 1 k hk]; exact h.2⟩
theorem KnR_or0 {v : Int32} (h : KnR v kn) : KnR (v ||| 0) kn := KnR_congr (KnR_or h KnR_0) (fun j _ => by simp)
theorem qr_sgCmp {v : Int32} (hb : CB b) (hR : RDc b o r s tp n I F A) (hq : Is b 2 q) (hkn : KnR (I r 2) kn) (hi : (I r 6).toInt = (i : Int)) (hin : i ≤ n) (hx : argOk x) (hx2 : x.1 ≠ 2) (h0 : A q 0 0 = kdN x) (h1 : A q 1 0 = x.2)
    (h : ∀ I' A' y j kd, (byA tp n i = 60 ∨ byA tp n i = 61 ∨ byA tp n i = 35) → kd = (if byA tp n i = 60 then 2 else if byA tp n i = 61 then 3 else 4) → knB kn x = true → kaA tp n kn (i + 1) = some (y, j) → j ≤ n → Rq r q I I' F F A A' → (I' r 6).toInt = (j : Int) → KnR (I' r 2) kn → GoC q d (kd, 0, [x, y], kn) I' F A' → Q (cS b I' F A' E) → Q' (cS b I' F A' E))
    (hN : (¬ ((byA tp n i = 60 ∨ byA tp n i = 61 ∨ byA tp n i = 35) ∧ knB kn x = true) ∨ kaA tp n kn (i + 1) = none) → ∀ u, X eUO u → X' eUO u) : w_sgCmp (some r) (some q) v (cS b I F A E) Q X → w_sgCmp (some r) (some q) v (cS b I F A E) Q' X' := by
  have hr := hR.1
  have hqr : q ≠ r := Is_ne hq hr (by decide)
  unfold w_sgCmp
  refine qc_recv (fun _ => ?_)
  refine qr_sign ⟨by decide, by decide⟩ ⟨by decide, by decide⟩ ⟨by decide, by decide⟩ hb hR hi hin (fun I1 c hc ec hlt hI1 j1 => ?_) (fun z => hN (Or.inl (fun y => y.1.elim z.1 (fun y2 => y2.elim z.2.1 z.2.2))))
  refine qc_putI (fun _ => ?_)
  have hIq : Iq q [2] I1 (up2 I1 q 2 c) := Iq_up Iq_rf (by decide)
  have s2 : up2 I1 q 2 c q 2 = c := up2_self _ _ _ _
  generalize up2 I1 q 2 c = I2 at hIq s2 ⊢
  have hRq2 : Rq r q I I2 F F A A := Rq_tr (Rq_Iq hI1 (by decide)) (Rq_Iqq hqr hIq)
  have hR2 := RDc_Rq hq hR hRq2
  have k2 : KnR (I2 r 2) kn := by rw [hIq.1 r (Ne.symm hqr), hI1.2 2 (by decide)]; exact hkn
  have i2 : (I2 r 6).toInt = ((i + 1 : Nat) : Int) := by rw [hIq.1 r (Ne.symm hqr)]; exact j1
  have hcs : byA tp n i = 60 ∨ byA tp n i = 61 ∨ byA tp n i = 35 := by rw [ec]; exact hc
  refine qc_recv (fun _ => ?_)
  refine qr_require (k := 0) (by decide) hb hr hq hx hx2 h0 h1 k2 (fun A3 kb hA3 ag => ?_) (fun z => hN (Or.inl (fun y => by rw [y.2] at z; cases z)))
  refine qr_sgEnd hb (RDc_Aq hq hR2 hA3) hq k2 i2 hlt (fun I4 A4 y j4 e4 hj4 hI4 hA4 k4 kk4 ag4 kb4 y2 ok4 => ?_) (fun z => hN (Or.inr z))
  refine h I4 A4 y j4 _ hcs rfl kb e4 hj4 ?_ k4 (by rw [kk4]; exact KnR_or0 k2) ⟨?_, ?_, ?_, ?_, ?_⟩
  · exact Rq_tr hRq2 (Rq_tr (Rq_Aq hA3) (Rq_tr (Rq_Iq hI4 (by decide)) (Rq_Aq hA4)))
  · rw [hI4.1 q hqr, s2]
    rcases hc with z | z | z
    · rw [ec, z]; show (60 : Int32) = signC (if (60 : Int32) = 60 then 2 else if (60 : Int32) = 61 then 3 else 4); decide
    · rw [ec, z]; show (61 : Int32) = signC (if (61 : Int32) = 60 then 2 else if (61 : Int32) = 61 then 3 else 4); decide
    · rw [ec, z]; show (35 : Int32) = signC (if (35 : Int32) = 60 then 2 else if (35 : Int32) = 61 then 3 else 4); decide
  · intro z hz
    rcases List.mem_cons.mp hz with z1 | z1
    · rw [z1]; exact hx
    · rw [List.mem_singleton.mp z1]; exact ok4
  · intro z
    exfalso
    have z : (if byA tp n i = 60 then 2 else if byA tp n i = 61 then 3 else 4) ≤ 1 := z
    split at z
    · omega
    · split at z <;> omega
  · intro _ _
    exact ⟨x, y, rfl, Ag1_Aq ag hA4 (by decide), ag4, kb, kb4, hx2, y2⟩
  · intro z
    exfalso
    have z : 5 ≤ (if byA tp n i = 60 then 2 else if byA tp n i = 61 then 3 else 4) := z
    split at z
    · omega
    · split at z <;> omega
theorem qr_sgSet {v : Int32} (hb : CB b) (hR : RDc b o r s tp n I F A) (hq : Is b 2 q) (hkn : KnR (I r 2) kn) (hi : (I r 6).toInt = (i : Int)) (hlt : i < n) (hx : argOk x) (hx1 : x.1 = 1) (hv : v = x.2) (h5 : I q 5 = x.2)
    (h : ∀ I' A' l y j1 j kd, kaA tp n kn (i + 1) = some (l, j1) → (byA tp n (blA tp n j1) = 43 ∨ byA tp n (blA tp n j1) = 45 ∨ byA tp n (blA tp n j1) = 42) → kd = (if byA tp n (blA tp n j1) = 43 then 5 else if byA tp n (blA tp n j1) = 45 then 6 else 7) → kaA tp n kn (blA tp n j1 + 1) = some (y, j) → j ≤ n → Rq r q I I' F F A A' → (I' r 6).toInt = (j : Int) → KnR (I' r 2) (va_up kn (ix x.2) true) → GoC q d (kd, 0, [x, l, y], kn) I' F A' → Q (cS b I' F A' E) → Q' (cS b I' F A' E))
    (hN : (∀ l j1, kaA tp n kn (i + 1) = some (l, j1) → ¬ (byA tp n (blA tp n j1) = 43 ∨ byA tp n (blA tp n j1) = 45 ∨ byA tp n (blA tp n j1) = 42) ∨ kaA tp n kn (blA tp n j1 + 1) = none) → ∀ u, X eUO u → X' eUO u) : w_sgSet (some r) (some q) v (cS b I F A E) Q X → w_sgSet (some r) (some q) v (cS b I F A E) Q' X' := by
  have hr := hR.1
  have h8 := hR.2.2.2.2.2.2.2
  have hqr : q ≠ r := Is_ne hq hr (by decide)
  unfold w_sgSet
  refine qc_getI (fun _ => qc_putI (fun _ => ?_))
  have hI1 : Iq r [6] I (up2 I r 6 (I r 6 + 1)) := Iq_up Iq_rf (by decide)
  have j1 : (up2 I r 6 (I r 6 + 1) r 6).toInt = ((i + 1 : Nat) : Int) := by rw [up2_self, i_add hi (show (1 : Int32).toInt = 1 by decide) (by omega)]; omega
  generalize up2 I r 6 (I r 6 + 1) = I1 at hI1 j1 ⊢
  have hR1 := RDc_Iq hR hI1
  have k1 : KnR (I1 r 2) kn := by rw [hI1.2 2 (by decide)]; exact hkn
  refine qc_recv (fun _ => ?_)
  refine qr_knownArg (k := 0) (by decide) hb hR1 hq k1 j1 hlt (fun I2 A2 l j2 e2 hj2 hI2 hA2 i2 ag2 kb2 l2 ok2 => ?_) (fun z => hN (fun l j1 e => by rw [z] at e; cases e))
  have hR2 : RDc b o r s tp n I2 F A2 := RDc_Aq hq (RDc_Iq hR1 hI2) hA2
  refine qc_recv (fun _ => qr_skip hb hR2 i2 hj2 (fun I3 hI3 i3 => ?_))
  have hR3 := RDc_Iq hR2 hI3
  refine qc_recv (fun _ => ?_)
  refine qr_sign ⟨by decide, by decide⟩ ⟨by decide, by decide⟩ ⟨by decide, by decide⟩ hb hR3 i3 (blA_n hj2) (fun I4 c hc ec hlt4 hI4 i4 => ?_) (fun z => hN (fun l' j' e' => by rw [e2] at e'; cases e'; exact Or.inl (fun y => y.elim z.1 (fun y2 => y2.elim z.2.1 z.2.2))))
  refine qc_putI (fun _ => ?_)
  have hI14 : Iq r [6] I I4 := Iq_tr hI1 (Iq_tr hI2 (Iq_tr hI3 hI4))
  have hIq : Iq q [2] I4 (up2 I4 q 2 c) := Iq_up Iq_rf (by decide)
  have s2 : up2 I4 q 2 c q 2 = c := up2_self _ _ _ _
  generalize up2 I4 q 2 c = I5 at hIq s2 ⊢
  have hRq5 : Rq r q I I5 F F A A2 := Rq_tr (Rq_Iq hI14 (by decide)) (Rq_tr (Rq_Iqq hqr hIq) (Rq_Aq hA2))
  have hR5 := RDc_Rq hq hR hRq5
  have k5 : KnR (I5 r 2) kn := by rw [hIq.1 r (Ne.symm hqr), hI14.2 2 (by decide)]; exact hkn
  have i5 : (I5 r 6).toInt = ((blA tp n j2 + 1 : Nat) : Int) := by rw [hIq.1 r (Ne.symm hqr)]; exact i4
  refine qr_sgEnd hb hR5 hq k5 i5 hlt4 (fun I6 A6 y j6 e6 hj6 hI6 hA6 i6 kk6 ag6 kb6 y2 ok6 => ?_) (fun z => hN (fun l' j' e' => by rw [e2] at e'; cases e'; exact Or.inr z))
  have hcs : byA tp n (blA tp n j2) = 43 ∨ byA tp n (blA tp n j2) = 45 ∨ byA tp n (blA tp n j2) = 42 := by rw [ec]; exact hc
  refine h I6 A6 l y j2 j6 _ e2 hcs rfl e6 hj6 ?_ i6 ?_ ⟨?_, ?_, ?_, ?_, ?_⟩
  · exact Rq_tr hRq5 (Rq_tr (Rq_Iq hI6 (by decide)) (Rq_Aq hA6))
  · rw [kk6, hv]
    refine KnR_congr (KnR_or k5 (KnR_1 (hx.2 hx1))) (fun j _ => ?_)
    by_cases e : j = ix x.2
    · rw [e, va_up_self]; simp
    · rw [va_up_ne _ _ e, beq_eq_false_iff_ne.mpr (Ne.symm e), Bool.or_false]
  · rw [hI6.1 q hqr, s2]
    rcases hc with z | z | z
    · rw [ec, z]; show (43 : Int32) = signC (if (43 : Int32) = 43 then 5 else if (43 : Int32) = 45 then 6 else 7); decide
    · rw [ec, z]; show (45 : Int32) = signC (if (45 : Int32) = 43 then 5 else if (45 : Int32) = 45 then 6 else 7); decide
    · rw [ec, z]; show (42 : Int32) = signC (if (42 : Int32) = 43 then 5 else if (42 : Int32) = 45 then 6 else 7); decide
  · intro z hz
    rcases List.mem_cons.mp hz with z1 | hz
    · rw [z1]; exact hx
    · rcases List.mem_cons.mp hz with z1 | hz
      · rw [z1]; exact ok2
      · rw [List.mem_singleton.mp hz]; exact ok6
  · intro z
    exfalso
    have z : (if byA tp n (blA tp n j2) = 43 then 5 else if byA tp n (blA tp n j2) = 45 then 6 else 7) ≤ 1 := z
    split at z
    · omega
    · split at z <;> omega
  · intro _ z
    exfalso
    have z : (if byA tp n (blA tp n j2) = 43 then 5 else if byA tp n (blA tp n j2) = 45 then 6 else 7) ≤ 4 := z
    split at z
    · omega
    · split at z <;> omega
  · intro _
    refine ⟨?_, x, l, y, rfl, ?_, hx1, Ag1_Aq ag2 hA6 (by decide), ag6, kb2, kb6, l2, y2⟩
    · show (if byA tp n (blA tp n j2) = 43 then 5 else if byA tp n (blA tp n j2) = 45 then 6 else 7) ≤ 7
      split
      · omega
      · split <;> omega
    · rw [hI6.1 q hqr, hIq.2 5 (by decide), hI14.1 q hqr]; exact h5
theorem qr_sgoal (hb : CB b) (hR : RDc b o r s tp n I F A) (hq : Is b 2 q) (hkn : KnR (I r 2) kn) (hi : (I r 6).toInt = (i : Int)) (hin : i ≤ n)
    (h : ∀ I' F' A' G kn' j, sgA tp n kn i = some ((G, kn'), j) → j ≤ n → Rq r q I I' F F' A A' → (I' r 6).toInt = (j : Int) → KnR (I' r 2) kn' → GoC q d G I' F' A' → (G.kd ≤ 1 → (G.tb : Int) < tn.toInt) → Q (cS b I' F' A' E) → Q' (cS b I' F' A' E))
    (hN : sgA tp n kn i = none → ∀ u, X eUO u → X' eUO u) : w_X6_readSignGoal (some r) (some q) (cS b I F A E) Q X → w_X6_readSignGoal (some r) (some q) (cS b I F A E) Q' X' := by
  have hr := hR.1
  have hqr : q ≠ r := Is_ne hq hr (by decide)
  rw [w_sg, w_sg]
  refine qc_getI (fun _ => qc_recv (fun _ => ?_))
  refine qr_arg (k := 0) (any := false) (by decide) ⟨fun _ => rfl, fun _ => rfl⟩ hb hR hq hi hin (fun I1 A1 x j1 e1 hI1 hA1 i1 a0 a1 => ?_) (fun z => hN (by unfold sgA; rw [z]; rfl))
  have ok := agA_ok e1
  have hx2 := ok.2 rfl
  have a1 := a1 hx2
  have hj1 := (agA_le hin e1).2
  have hR1 : RDc b o r s tp n I1 F A1 := RDc_Aq hq (RDc_Iq hR hI1) hA1
  refine qc_recv (fun _ => qr_skip hb hR1 i1 hj1 (fun I2 hI2 i2 => ?_))
  have hI12 := Iq_tr hI1 hI2
  have hR2 := RDc_Iq hR1 hI2
  have k2 : KnR (I2 r 2) kn := by rw [hI12.2 2 (by decide)]; exact hkn
  have hRq2 : Rq r q I I2 F F A A1 := Rq_tr (Rq_Iq hI12 (by decide)) (Rq_Aq hA1)
  have hb2 : blA tp n j1 ≤ n := blA_n hj1
  refine qc_recv (fun _ => qr_here hb hR2 i2 (fun c hc => ?_))
  have h58 := hc 58 (by decide) (by decide)
  -- a comparison
  have cmp : ∀ v, ¬ (byA tp n (blA tp n j1) = 58 ∧ x.1 = 1) → w_sgCmp (some r) (some q) v (cS b I2 F A1 E) Q X → w_sgCmp (some r) (some q) v (cS b I2 F A1 E) Q' X' := fun v hno => by
    have es : sgA tp n kn i = if (byA tp n (blA tp n j1) = 60 ∨ byA tp n (blA tp n j1) = 61 ∨ byA tp n (blA tp n j1) = 35) ∧ knB kn x = true then (kaA tp n kn (blA tp n j1 + 1)).map fun r => (((if byA tp n (blA tp n j1) = 60 then 2 else if byA tp n (blA tp n j1) = 61 then 3 else 4, 0, [x, r.1], kn), kn), r.2) else none := by
      unfold sgA
      rw [e1]
      exact if_neg hno
    refine qr_sgCmp (d := d) hb hR2 hq k2 i2 hb2 ok.1 hx2 a0 a1 (fun I3 A3 y j3 kd c1 ekd kb e3 hj3 hRq3 i3 kk3 goc => ?_) (fun z => hN ?_)
    · refine h I3 F A3 _ kn j3 ?_ hj3 (Rq_tr hRq2 hRq3) i3 kk3 goc (fun z => ?_)
      · rw [es, if_pos ⟨c1, kb⟩, e3, ekd]; rfl
      · exfalso
        have z : kd ≤ 1 := z
        rw [ekd] at z
        split at z
        · omega
        · split at z <;> omega
    · rw [es]
      rcases z with z | z
      · rw [if_neg z]
      · rw [z]; split <;> rfl
  refine qv_if (fun z => ?_) (fun z => cmp _ (fun y => z (h58.mpr y.1)))
  have e58 := h58.mp z
  refine qc_getA hb (by decide) (fun _ => ?_)
  refine qc_ald hb hq (by decide) (by decide) (fun _ => ?_)
  rw [show ix (0 : Int32) = 0 by decide, a0]
  refine qv_if (fun z2 => ?_) (fun z2 => cmp _ (fun y => z2 (if_pos y.2)))
  have hx1 : x.1 = 1 := Classical.byContradiction fun y => by
    unfold kdN at z2
    rw [if_neg y] at z2
    split at z2 <;> exact absurd z2 (by decide)
  have es : sgA tp n kn i = if knB kn x then none else (kaA tp n kn (blA tp n j1 + 1)).bind fun l => if byA tp n (blA tp n l.2) = 43 ∨ byA tp n (blA tp n l.2) = 45 ∨ byA tp n (blA tp n l.2) = 42 then (kaA tp n kn (blA tp n l.2 + 1)).map fun r => (((if byA tp n (blA tp n l.2) = 43 then 5 else if byA tp n (blA tp n l.2) = 45 then 6 else 7, 0, [x, l.1, r.1], kn), va_up kn (ix x.2) true), r.2) else none := by
    unfold sgA
    rw [e1]
    exact if_pos ⟨e58, hx1⟩
  have ekb : knB kn x = kn (ix x.2) := by unfold knB; rw [hx1]; rfl
  refine qc_getA hb (by decide) (fun _ => ?_)
  refine qc_ald hb hq (by decide) (by decide) (fun _ => ?_)
  rw [show ix (0 : Int32) = 0 by decide, a1]
  refine qc_putI (fun _ => qc_getI (fun _ => ?_))
  rw [up2_self]
  have hIq : Iq q [5] I2 (up2 I2 q 5 x.2) := Iq_up Iq_rf (by decide)
  have s5 : up2 I2 q 5 x.2 q 5 = x.2 := up2_self _ _ _ _
  generalize up2 I2 q 5 x.2 = I3 at hIq s5 ⊢
  have hRq3 : Rq r q I I3 F F A A1 := Rq_tr hRq2 (Rq_Iqq hqr hIq)
  have hR3 := RDc_Rq hq hR hRq3
  have k3 : KnR (I3 r 2) kn := by rw [hIq.1 r (Ne.symm hqr)]; exact k2
  have i3 : (I3 r 6).toInt = ((blA tp n j1 : Nat) : Int) := by rw [hIq.1 r (Ne.symm hqr)]; exact i2
  refine qc_getI (fun _ => ?_)
  have hand := KnR_and k3 (ok.1.2 hx1)
  refine qv_if (fun z3 => ?_) (fun z3 => ?_)
  · have hk0 := hand.mp z3
    have es' := es
    rw [ekb, hk0, if_neg (by decide)] at es'
    refine qr_sgSet (d := d) (x := x) hb hR3 hq k3 i3 (byA_in e58 (by decide)) ok.1 hx1 rfl s5 (fun I4 A4 l y j2 j4 kd e2 c2 ekd e4 hj4 hRq4 i4 kk4 goc => ?_) (fun hno => hN ?_)
    · refine h I4 F A4 _ _ j4 ?_ hj4 (Rq_tr hRq3 hRq4) i4 kk4 goc (fun z => ?_)
      · rw [es', e2]
        show (if byA tp n (blA tp n j2) = 43 ∨ byA tp n (blA tp n j2) = 45 ∨ byA tp n (blA tp n j2) = 42 then _ else none) = _
        rw [if_pos c2, e4, ekd]; rfl
      · exfalso
        have z : kd ≤ 1 := z
        rw [ekd] at z
        split at z
        · omega
        · split at z <;> omega
    · rw [es']
      cases hka : kaA tp n kn (blA tp n j1 + 1) with
      | none => rfl
      | some w =>
        show (if byA tp n (blA tp n w.2) = 43 ∨ byA tp n (blA tp n w.2) = 45 ∨ byA tp n (blA tp n w.2) = 42 then _ else none) = none
        rcases hno w.1 w.2 hka with y | y
        · rw [if_neg y]
        · rw [y]; split <;> rfl
  · refine qc_recv (fun _ => qr_refuse (hN ?_))
    have hk1 : kn (ix x.2) = true := by
      cases hy : kn (ix x.2) with
      | true => rfl
      | false => exact absurd (hand.mpr hy) z3
    rw [es, ekb, hk1]; rfl
end QR4
