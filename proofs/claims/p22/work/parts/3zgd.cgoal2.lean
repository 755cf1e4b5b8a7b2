set_option linter.unusedVariables false
set_option linter.unusedSimpArgs false
/-! the class: a table's goal -/
/-- the words behind '(' -/
def w_tgLoop (l0 : Option Nat) (l1 : Option Nat) (x13 : HS) (Q : HS → Prop) (X : String → HS → Prop) : Prop :=
 wLoop (σ := Int32 × Int32) (fun v18 x17 again15 =>
 wGetF x17 2 3 l1 fun v19 =>
 wGetI x17 10 1 v19 fun v20 =>
 wIf (v20 ≤ v18.2)
 (wRecv x17 6 l0
 (w_X6_refuseArgTooMuch l0 x17 (fun x21 =>
 wRecv x21 6 l0
 (w_X6_take l0 41 x21 (fun x23 =>
 wGetI x23 2 2 l1 fun v25 =>
 wJoin (κ := HS → Prop) (fun  (x27 : HS) =>
 Q x27) (fun j26 =>
 wIf (v25 = 116)
 (wGetI x23 6 2 l0 fun v28 =>
 wPutI x23 6 2 l0 (v28 ||| v18.1) fun x29 =>
 j26 x29)
 (j26 x23))) X)) X))
 (wJoin (κ := HS → Prop) (fun  (x31 : HS) =>
 wRecv x31 6 l0
 (w_X6_skipBlanks l0 x31 (fun x32 =>
 wRecv x32 6 l0
 (w_X6_readArg l0 l1 v18.2 1 x32 (fun x34 =>
 wRecv x34 6 l0
 (w_X6_sortTableArg l0 l1 v18.2 v18.1 x34 (fun v37 x36 =>
 wRecv x36 6 l0
 (w_X6_skipBlanks l0 x36 (fun x38 =>
 again15 ((v18.1 ||| v37), (v18.2 + 1)) x38) X)) X)) X)) X)) (fun j30 =>
 wIf (v18.2 ≤ 0)
 (j30 x17)
 (wRecv x17 6 l0
 (w_X6_take l0 44 x17 (fun x40 =>
 j30 x40) X))))) (0, 0) x13
/-- the words from the table's name on -/
def w_tgTail (l0 : Option Nat) (l1 : Option Nat) (x6 : HS) (Q : HS → Prop) (X : String → HS → Prop) : Prop :=
 wRecv x6 6 l0
 (w_X6_readTable l0 x6 (fun v8 x7 =>
 wPutF x7 2 3 l1 v8 fun x9 =>
 wPutI x9 2 4 l1 0 fun x10 =>
 wRecv x10 6 l0
 (w_X6_skipBlanks l0 x10 (fun x11 =>
 wRecv x11 6 l0
 (w_X6_take l0 40 x11 (fun x13 => w_tgLoop l0 l1 x13 Q X) X)) X)) X)
theorem w_tg (l0 l1 : Option Nat) (x : HS) (Q : HS → Prop) (X : String → HS → Prop) : w_X6_readTableGoal l0 l1 x Q X = wRecv x 6 l0 (w_X6_here l0 x (fun v2 x1 => wPutI x1 2 2 l1 v2 fun x3 => wGetI x3 2 2 l1 fun v4 => wIf (v4 = 33) (wGetI x3 6 6 l0 fun v42 => wPutI x3 6 6 l0 (v42 + 1) fun x43 => wRecv x43 6 l0 (w_X6_skipBlanks l0 x43 (fun x44 => w_tgTail l0 l1 x44 Q X) X)) (w_tgTail l0 l1 x3 Q X)) X) := rfl
/-- k arguments L are read, i' is where one stands: what the whole comes to (c columns) -/
def restG (tp : Nat → Int32) (n c k i' : Nat) (L : List QA) : Option (List QA × Nat) := if k = c then some (L, i') else if k = 0 then taA tp n (c - 1) i' else if byA tp n i' = 44 then (taA tp n (c - 1 - k) (i' + 1)).map fun s => (L ++ s.1, s.2) else none
section QR3
variable {b : CT} {I I' I'' : Nat → Nat → Int32} {F F' F'' : Nat → Nat → Option Nat} {A A' A'' : Nat → Nat → Nat → Int32} {E : Nat → Nat → Nat → Option Nat} {o r s q n i j k t : Nat} {d : Nat → Nat} {tn : Int32} {co : Nat → Int32} {kn : Nat → Bool} {tp : Nat → Int32} {X X' : String → HS → Prop} {Q Q' : HS → Prop} {QI QI' : Int32 → HS → Prop} {QF QF' : Option Nat → HS → Prop}
theorem Iq_v {q j : Nat} {js : List Nat} (h : Iq q js I I') (x : Nat) (hj : x = q → j ∉ js) : I' x j = I x j := by
  by_cases e : x = q
  · rw [e]; exact h.2 j (hj e)
  · rw [h.1 x e]
theorem agA_ok {any : Bool} {x : QA} {j : Nat} (h : agA tp n any i = some (x, j)) : argOk x ∧ (any = false → x.1 ≠ 2) := by
  unfold agA at h
  split at h
  · rename_i e
    cases h
    unfold varB at e
    have e := of_decide_eq_true e
    have e2 : (byA tp n i - 65).toInt = (byA tp n i).toInt - 65 := i_sub rfl (show (65 : Int32).toInt = 65 by decide) (by omega)
    exact ⟨⟨by show 1 ≤ 2; omega, fun _ => by show 0 ≤ (byA tp n i - 65).toInt ∧ (byA tp n i - 65).toInt < 8; omega⟩, fun _ => by show (1 : Nat) ≠ 2; omega⟩
  · split at h
    · rename_i e
      cases h
      exact ⟨⟨by decide, fun z => absurd z (by decide)⟩, fun z => by rw [z] at e; exact absurd e (by simp)⟩
    · obtain ⟨y, hy, e⟩ := Option.map_eq_some_iff.mp h
      cases e
      exact ⟨⟨by show 0 ≤ 2; omega, fun z => absurd z (by show ¬ (0 : Nat) = 1; omega)⟩, fun _ => by show (0 : Nat) ≠ 2; omega⟩
theorem AgC_snoc {L : List QA} {x : QA} (h : AgC q kn L A) (hA : Aq q L.length A A') (h0 : A' q 0 L.length = kdS kn L x) (h1 : x.1 ≠ 2 → A' q 1 L.length = x.2) : AgC q kn (L ++ [x]) A' := fun k y hy => by
  by_cases hk : k < L.length
  · rw [List.getElem?_append_left hk] at hy
    rw [hA.2 0 k (by omega), hA.2 1 k (by omega), List.take_append_of_le_length (by omega)]
    exact h k y hy
  · have e : k = L.length := by
      have := (List.getElem?_eq_some_iff.mp hy).1
      rw [List.length_append, List.length_singleton] at this; omega
    rw [e] at hy ⊢
    rw [List.getElem?_append_right (Nat.le_refl _), Nat.sub_self] at hy
    cases hy
    rw [List.take_left]
    exact ⟨h0, h1⟩
theorem mkL_snoc {L : List QA} {x : QA} : mkL kn (L ++ [x]) = if mkB kn x then va_up (mkL kn L) L.length true else mkL kn L := by
  funext k
  have hL : mkL kn L L.length = false := by unfold mkL; rw [List.getElem?_eq_none (Nat.le_refl _)]
  by_cases e : k = L.length
  · have : mkL kn (L ++ [x]) k = mkB kn x := by
      unfold mkL
      rw [e, List.getElem?_append_right (Nat.le_refl _), Nat.sub_self]; rfl
    rw [this, e]
    cases hm : mkB kn x with
    | true => rw [if_pos rfl, va_up_self]
    | false => rw [if_neg (by decide), hL]
  · have : mkL kn (L ++ [x]) k = mkL kn L k := by
      unfold mkL
      by_cases hk : k < L.length
      · rw [List.getElem?_append_left hk]
      · rw [List.getElem?_eq_none (by rw [List.length_append, List.length_singleton]; omega), List.getElem?_eq_none (by omega)]
    rw [this]
    split
    · rw [va_up_ne _ _ e]
    · rfl
theorem qr_tgLoop {kd c : Nat} (hb : CB b) (hR : RDc b o r s tp n I F A) (hT : TBc b s d tn co I E) (hq : Is b 2 q) (ht : (t : Int) < tn.toInt) (hc : ((co t).toInt) = (c : Int)) (hF : F q 3 = some (d t)) (hs : I q 2 = signC kd) (hkd : kd ≤ 1) (hm : I q 4 = 0) (hkn : KnR (I r 2) kn) (hi : (I r 6).toInt = (i : Int)) (hin : i ≤ n)
    (h : ∀ I' A' L j, taA tp n (c - 1) i = some (L, j) → byA tp n j = 41 → j < n → Rq r q I I' F F A A' → (I' r 6).toInt = ((j + 1 : Nat) : Int) → KnR (I' r 2) (if kd = 0 then mkKn kn L else kn) → GoC q d (kd, t, L, kn) I' F A' → Q (cS b I' F A' E) → Q' (cS b I' F A' E))
    (hN : (∀ L j, taA tp n (c - 1) i = some (L, j) → byA tp n j ≠ 41) → ∀ u, X eUO u → X' eUO u) : w_tgLoop (some r) (some q) (cS b I F A E) Q X → w_tgLoop (some r) (some q) (cS b I F A E) Q' X' := by
  have hr := hR.1
  have h8 := hR.2.2.2.2.2.2.2
  have hqr : q ≠ r := Is_ne hq hr (by decide)
  obtain ⟨t1, t2, t3, t4, t5⟩ := hT.2.2 t ht
  have hc4 : 1 ≤ c ∧ c ≤ 4 := by omega
  unfold w_tgLoop
  refine qc_loop (fun v b' I' F' A' E' => b' = b ∧ F' = F ∧ E' = E ∧ Rq r q I I' F F A A' ∧ I' q 2 = signC kd ∧ KnR (I' r 2) kn ∧ ∃ (L : List QA) (i' : Nat), v.2.toInt = (L.length : Int) ∧ L.length ≤ c ∧ (I' r 6).toInt = (i' : Int) ∧ i' ≤ n ∧ KnR v.1 (fun j => !(kn j) && L.any (isV j)) ∧ AgC q kn L A' ∧ I' q 4 = maskOf (mkL kn L) ∧ (∀ x, x ∈ L → argOk x) ∧ taA tp n (c - 1) i = restG tp n c L.length i' L)
    ⟨rfl, rfl, rfl, Rq_rf, hs, hkn, [], i, by decide, by show 0 ≤ c; omega, hi, hin, KnR_congr KnR_0 (fun j _ => by simp), fun k x hx => by simp at hx, by rw [hm]; rfl, fun x hx => absurd hx List.not_mem_nil, by unfold restG; rw [if_neg (show ¬ ([] : List QA).length = c by show ¬ 0 = c; omega), if_pos (show ([] : List QA).length = 0 from rfl)]⟩
    (fun v b' I' F' A' E' again again' ⟨e1, e2, e3, hRq, hs', hkn', L, i', k1, k2, k3, k4, k5, k6, k7, k8, k9⟩ ha => ?_)
  subst e1; subst e2; subst e3
  have hR' := RDc_Rq hq hR hRq
  have hT' := TBc_Rq hr hq hT hRq
  obtain ⟨t1', t2', t3', -, -⟩ := hT'.2.2 t ht
  refine qc_getF hb (by decide) (fun _ => ?_)
  rw [hF]
  refine qc_getI (fun _ => ?_)
  rw [t3']
  refine qv_if (fun z => ?_) (fun z => ?_)
  · -- all are read
    simp only [i32] at z
    have ek : L.length = c := by omega
    have full : taA tp n (c - 1) i = some (L, i') := by rw [k9]; unfold restG; rw [if_pos ek]
    refine qc_recv (fun _ => ?_)
    unfold w_X6_refuseArgTooMuch
    refine qc_recv (fun _ => ?_)
    refine qr_here hb hR' k3 (fun c' hc' => ?_)
    dsimp only [wJoin]
    have h44 := hc' 44 (by decide) (by decide)
    refine qv_if (fun y => ?_) (fun y => ?_)
    · have e44 := h44.mp y
      have hlt := byA_in e44 (by decide)
      refine qc_getI (fun _ => qc_putI (fun _ => qc_recv (fun _ => ?_)))
      have hI1 : Iq r [6] I' (up2 I' r 6 (I' r 6 + 1)) := Iq_up Iq_rf (by decide)
      have j1 : (up2 I' r 6 (I' r 6 + 1) r 6).toInt = ((i' + 1 : Nat) : Int) := by rw [up2_self, i_add k3 (show (1 : Int32).toInt = 1 by decide) (by omega)]; omega
      refine qr_skip hb (RDc_Iq hR' hI1) j1 hlt (fun I2 hI2 k10 => ?_)
      refine qc_getI (fun _ => qc_recv (fun _ => qr_refuse (hN (fun L' j' e' => ?_))))
      rw [full] at e'; cases e'
      rw [e44]; decide
    · refine qc_recv (fun _ => ?_)
      refine qr_take ⟨by decide, by decide⟩ hb hR' k3 k4 (fun I1 e41 hlt hI1 j1 => ?_) (fun e => hN (fun L' j' e' => by rw [full] at e'; cases e'; exact e))
      have hRq1 : Rq r q I I1 F' F' A A' := Rq_tr hRq (Rq_Iq hI1 (by decide))
      refine qc_getI (fun _ => ?_)
      have s1 : I1 q 2 = signC kd := by rw [hI1.1 q hqr]; exact hs'
      rw [s1]
      have goc : ∀ I2, Iq r [2] I1 I2 → GoC q d (kd, t, L, kn) I2 F' A' := fun I2 hI2 => ⟨by rw [hI2.1 q hqr]; exact s1, k8, fun _ => ⟨hF, by rw [hI2.1 q hqr, hI1.1 q hqr]; exact k7, k6⟩, fun z => absurd z (by show ¬ 2 ≤ kd; omega), fun z => absurd z (by show ¬ 5 ≤ kd; omega)⟩
      refine qv_if (fun y2 => ?_) (fun y2 => ?_)
      · have ekd : kd = 0 := by
          rcases Nat.lt_or_ge kd 1 with y3 | y3
          · omega
          · have : kd = 1 := by omega
            rw [this] at y2; exact absurd y2 (by decide)
        refine qc_getI (fun _ => qc_putI (fun _ => ?_))
        have hI2 : Iq r [2] I1 (up2 I1 r 2 (I1 r 2 ||| v.1)) := Iq_up Iq_rf (by decide)
        refine h _ A' L i' full e41 hlt (Rq_tr hRq1 (Rq_Iq hI2 (by decide))) ?_ ?_ (goc _ hI2)
        · rw [hI2.2 6 (by decide)]; exact j1
        · rw [up2_self, hI1.2 2 (by decide), if_pos ekd]
          refine KnR_congr (KnR_or hkn' k5) (fun j _ => ?_)
          unfold mkKn
          cases kn j <;> simp
      · have ekd : ¬ kd = 0 := fun y3 => y2 (by rw [y3]; rfl)
        refine h I1 A' L i' full e41 hlt hRq1 j1 ?_ (goc I1 Iq_rf)
        rw [if_neg ekd, hI1.2 2 (by decide)]; exact hkn'
  · -- one more
    simp only [i32] at z
    have hlt : L.length < c := by omega
    have hne : L.length ≠ c := by omega
    dsimp only [wJoin]
    -- from the place behind ','
    have go : ∀ (I1 : Nat → Nat → Int32) (i1 : Nat), Iq r [6] I' I1 → (I1 r 6).toInt = (i1 : Int) → i1 ≤ n → taA tp n (c - 1) i = (taA tp n (c - 1 - L.length) i1).map (fun s => (L ++ s.1, s.2)) →
        (wRecv (cS b' I1 F' A' E') 6 (some r) (w_X6_skipBlanks (some r) (cS b' I1 F' A' E') (fun x32 => wRecv x32 6 (some r) (w_X6_readArg (some r) (some q) v.2 1 x32 (fun x34 => wRecv x34 6 (some r) (w_X6_sortTableArg (some r) (some q) v.2 v.1 x34 (fun v37 x36 => wRecv x36 6 (some r) (w_X6_skipBlanks (some r) x36 (fun x38 => again ((v.1 ||| v37), (v.2 + 1)) x38) X)) X)) X)) X)) →
        (wRecv (cS b' I1 F' A' E') 6 (some r) (w_X6_skipBlanks (some r) (cS b' I1 F' A' E') (fun x32 => wRecv x32 6 (some r) (w_X6_readArg (some r) (some q) v.2 1 x32 (fun x34 => wRecv x34 6 (some r) (w_X6_sortTableArg (some r) (some q) v.2 v.1 x34 (fun v37 x36 => wRecv x36 6 (some r) (w_X6_skipBlanks (some r) x36 (fun x38 => again' ((v.1 ||| v37), (v.2 + 1)) x38) X')) X')) X')) X')) := fun I1 i1 hI1 j1 hi1 full => by
      have hR1 := RDc_Iq hR' hI1
      refine qc_recv (fun _ => qr_skip hb hR1 j1 hi1 (fun I2 hI2 j2 => ?_))
      have hR2 := RDc_Iq hR1 hI2
      have hb2 : blA tp n i1 ≤ n := blA_n hi1
      refine qc_recv (fun _ => qr_arg (any := true) k1 ⟨fun y => absurd y (by decide), fun y => by cases y⟩ hb hR2 hq j2 hb2 (fun I3 A3 x j3 ex hI3 hA3 j3' a0 a1 => ?_) (fun en => hN (fun L' j' e' => ?_)))
      · have ok := (agA_ok ex).1
        have hj3 := (agA_le hb2 ex).2
        have hIq3 : Iq r [6] I' I3 := Iq_tr (Iq_tr hI1 hI2) hI3
        have hR3 : RDc b' o r s tp n I3 F' A3 := RDc_Aq hq (RDc_Iq hR2 hI3) hA3
        refine qc_recv (fun _ => qr_sort (kn := kn) (fn := fun j => !(kn j) && L.any (isV j)) (mf := mkL kn L) (x := x) k1 (by omega) hb hr hq ok (by rw [hIq3.2 2 (by decide)]; exact hkn') k5 a0 a1 (by rw [hIq3.1 q hqr]; exact k7) (fun I4 A4 v4 b1 b2 b3 b4 b5 b6 => ?_))
        have hR4 : RDc b' o r s tp n I4 F' A4 := RDc_Aq hq ⟨hR3.1, hR3.2.1, hR3.2.2.1, hR3.2.2.2.1, hR3.2.2.2.2.1, hR3.2.2.2.2.2.1, by rw [b5.1 r (Ne.symm hqr)]; exact hR3.2.2.2.2.2.2.1, h8⟩ b2
        refine qc_recv (fun _ => qr_skip (i := j3) hb hR4 (by rw [b5.1 r (Ne.symm hqr)]; exact j3') hj3 (fun I5 hI5 j5 => ?_))
        have hA4 : Aq q L.length A' A4 := ⟨fun x hx => (b2.1 x hx).trans (hA3.1 x hx), fun j i hi => (b2.2 j i hi).trans (hA3.2 j i hi)⟩
        refine ha _ _ _ _ _ _ ⟨rfl, rfl, rfl, ?_, ?_, ?_, L ++ [x], blA tp n j3, ?_, ?_, j5, blA_n hj3, ?_, ?_, ?_, ?_, ?_⟩
        · exact Rq_tr hRq (Rq_tr (Rq_Iq hIq3 (by decide)) (Rq_tr (Rq_Iqq hqr b5) (Rq_tr (Rq_Iq hI5 (by decide)) (Rq_Aq hA4))))
        · rw [hI5.1 q hqr, b5.2 2 (by decide), hIq3.1 q hqr]; exact hs'
        · rw [hI5.2 2 (by decide), b5.1 r (Ne.symm hqr), hIq3.2 2 (by decide)]; exact hkn'
        · show (v.2 + 1).toInt = _
          rw [i_add k1 (show (1 : Int32).toInt = 1 by decide) (by omega), List.length_append, List.length_singleton]; omega
        · rw [List.length_append, List.length_singleton]; omega
        · refine KnR_congr b1 (fun j _ => ?_)
          rw [List.any_append]
          cases kn j <;> simp
        · refine AgC_snoc k6 hA4 ?_ (fun y => by rw [b4]; exact a1 y)
          rw [b3]
          unfold kdS
          by_cases e1 : x.1 = 1
          · rw [if_pos e1, if_pos e1]
            cases hkx : kn (ix x.2) with
            | true => rfl
            | false => simp only [Bool.not_false, Bool.true_and]
          · rw [if_neg e1, if_neg e1]
        · rw [hI5.1 q hqr, b6, mkL_snoc]
        · intro y hy
          rcases List.mem_append.mp hy with y1 | y1
          · exact k8 y y1
          · rw [List.mem_singleton.mp y1]; exact ok
        · rw [full, List.length_append, List.length_singleton]
          unfold restG
          by_cases e1 : L.length + 1 = c
          · rw [if_pos e1, show c - 1 - L.length = 0 by omega]
            show ((agA tp n true (blA tp n i1)).map fun r => ([r.1], blA tp n r.2)).map _ = _
            rw [ex]; rfl
          · rw [if_neg e1, if_neg (by omega)]
            obtain ⟨m, hm2⟩ : ∃ m, c - 1 - L.length = m + 1 := ⟨c - 1 - L.length - 1, by omega⟩
            rw [hm2, show c - 1 - (L.length + 1) = m by omega]
            show ((agA tp n true (blA tp n i1)).bind fun r => if byA tp n (blA tp n r.2) = 44 then (taA tp n m (blA tp n r.2 + 1)).map fun s => (r.1 :: s.1, s.2) else none).map _ = _
            rw [ex]
            show (if byA tp n (blA tp n j3) = 44 then (taA tp n m (blA tp n j3 + 1)).map fun s => (x :: s.1, s.2) else none).map _ = _
            split
            · rw [Option.map_map]
              congr 1
              funext s
              show (L ++ (x :: s.1), s.2) = (L ++ [x] ++ s.1, s.2)
              rw [List.append_assoc]; rfl
            · rfl
      · have : taA tp n (c - 1 - L.length) i1 = none := by
          cases hm2 : c - 1 - L.length with
          | zero =>
            show (agA tp n true (blA tp n i1)).map _ = none
            rw [en]; rfl
          | succ m =>
            show (agA tp n true (blA tp n i1)).bind _ = none
            rw [en]; rfl
        rw [full, this] at e'; cases e'
    refine qv_if (fun y => ?_) (fun y => ?_)
    · simp only [i32, Int32.reduceToInt] at y
      have eL : L = [] := List.eq_nil_of_length_eq_zero (by omega)
      refine go I' i' Iq_rf k3 k4 ?_
      rw [k9]
      unfold restG
      rw [if_neg hne, eL, if_pos (by rfl)]
      show _ = (taA tp n (c - 1 - 0) i').map _
      rw [Nat.sub_zero]
      cases taA tp n (c - 1) i' <;> rfl
    · simp only [i32, Int32.reduceToInt] at y
      have e0 : L.length ≠ 0 := by omega
      have k9' : taA tp n (c - 1) i = if byA tp n i' = 44 then (taA tp n (c - 1 - L.length) (i' + 1)).map fun s => (L ++ s.1, s.2) else none := by
        rw [k9]; unfold restG; rw [if_neg hne, if_neg e0]
      refine qc_recv (fun _ => qr_take ⟨by decide, by decide⟩ hb hR' k3 k4 (fun I1 e44 hlt1 hI1 j1 => ?_) (fun e => hN (fun L' j' e' => by rw [k9', if_neg e] at e'; cases e')))
      exact go I1 (i' + 1) hI1 j1 hlt1 (by rw [k9', if_pos e44])
theorem qr_tgTail {kd : Nat} (hb : CB b) (hR : RDc b o r s tp n I F A) (hT : TBc b s d tn co I E) (hq : Is b 2 q) (hs : I q 2 = signC kd) (hkd : kd ≤ 1) (hkn : KnR (I r 2) kn) (hi : (I r 6).toInt = (i : Int)) (hin : i ≤ n)
    (h : ∀ I' F' A' t L j, tgA tp n tn co i = some ((t, L), j) → j ≤ n → Rq r q I I' F F' A A' → (I' r 6).toInt = (j : Int) → KnR (I' r 2) (if kd = 0 then mkKn kn L else kn) → GoC q d (kd, t, L, kn) I' F' A' → (t : Int) < tn.toInt → Q (cS b I' F' A' E) → Q' (cS b I' F' A' E))
    (hN : tgA tp n tn co i = none → ∀ u, X eUO u → X' eUO u) : w_tgTail (some r) (some q) (cS b I F A E) Q X → w_tgTail (some r) (some q) (cS b I F A E) Q' X' := by
  have hr := hR.1
  have hqr : q ≠ r := Is_ne hq hr (by decide)
  unfold w_tgTail
  refine qc_recv (fun _ => ?_)
  refine qr_table hb hR hT hi hin (fun I1 v j1 e1 e2 hv hI1 k1 => ?_) (fun e => hN ?_)
  · have e3 : tgA tp n tn co i = if (0 ≤ v.toInt ∧ v.toInt < tn.toInt) ∧ byA tp n (blA tp n j1) = 40 then (taA tp n ((co (ix v)).toInt.toNat - 1) (blA tp n j1 + 1)).bind fun s => if byA tp n s.2 = 41 then some ((ix v, s.1), s.2 + 1) else none else none := by
      unfold tgA
      rw [if_pos e1, e2]; rfl
    have hlt := byA_in e1 (by decide)
    have hj1 := (nnA_le hlt e2).2
    refine qc_putF hb (by decide) (fun _ => ?_)
    refine qc_putI (fun _ => ?_)
    have hIq : Iq q [4] I1 (up2 I1 q 4 0) := Iq_up Iq_rf (by decide)
    have m0 : up2 I1 q 4 0 q 4 = 0 := up2_self _ _ _ _
    have hRq : Rq r q I (up2 I1 q 4 0) F (up2 F q 3 (some (d (ix v)))) A A := Rq_tr (Rq_tr (Rq_Iq hI1 (by decide)) (Rq_Iqq hqr hIq)) Rq_F
    have f3 : up2 F q 3 (some (d (ix v))) q 3 = some (d (ix v)) := up2_self _ _ _ _
    generalize up2 I1 q 4 0 = I2 at hIq m0 hRq ⊢
    generalize up2 F q 3 (some (d (ix v))) = F2 at hRq f3 ⊢
    have hR2 := RDc_Rq hq hR hRq
    have k2 : (I2 r 6).toInt = (j1 : Int) := by rw [hIq.1 r (Ne.symm hqr)]; exact k1
    refine qc_recv (fun _ => qr_skip hb hR2 k2 hj1 (fun I3 hI3 k3 => ?_))
    have hR3 := RDc_Iq hR2 hI3
    have hb3 : blA tp n j1 ≤ n := blA_n hj1
    refine qc_recv (fun _ => qr_take ⟨by decide, by decide⟩ hb hR3 k3 hb3 (fun I4 e40 hlt4 hI4 k4 => ?_) (fun e => hN (by rw [e3, if_neg (fun z => e z.2)])))
    have hIq4 : Iq r [6] I2 I4 := Iq_tr hI3 hI4
    have hRq4 : Rq r q I I4 F F2 A A := Rq_tr hRq (Rq_Iq hIq4 (by decide))
    have ht : ((ix v : Nat) : Int) < tn.toInt := by rw [ix_int hv.1]; exact hv.2
    have hT4 := TBc_Rq hr hq hT hRq4
    have hcc := (hT.2.2 _ ht).2.2.2
    refine qr_tgLoop (t := ix v) (kn := kn) (kd := kd) (c := (co (ix v)).toInt.toNat) hb (RDc_Rq hq hR hRq4) hT4 hq ht (by omega) f3 ?_ hkd ?_ ?_ k4 hlt4 (fun I5 A5 L j5 e5 e41 hlt5 hRq5 k5 kk5 goc => ?_) (fun hno => hN ?_)
    · rw [hIq4.1 q hqr, hIq.2 2 (by decide), hI1.1 q hqr]; exact hs
    · rw [hIq4.1 q hqr]; exact m0
    · rw [hIq4.2 2 (by decide), hIq.1 r (Ne.symm hqr), hI1.2 2 (by decide)]; exact hkn
    · refine h I5 F2 A5 (ix v) L (j5 + 1) ?_ hlt5 (Rq_tr hRq4 hRq5) k5 kk5 goc ht
      rw [e3, if_pos ⟨hv, e40⟩, e5]
      show (if byA tp n j5 = 41 then _ else _) = _
      rw [if_pos e41]
    · rw [e3, if_pos ⟨hv, e40⟩]
      cases hta : taA tp n ((co (ix v)).toInt.toNat - 1) (blA tp n j1 + 1) with
      | none => rfl
      | some w =>
        show (if byA tp n w.2 = 41 then _ else _) = none
        rw [if_neg (hno w.1 w.2 hta)]
  · unfold tgA
    rcases e with e | e | ⟨v, j, e, e2⟩
    · rw [if_neg e]
    · split
      · rw [e]; rfl
      · rfl
    · split
      · rw [e]
        show (if (0 ≤ v.toInt ∧ v.toInt < tn.toInt) ∧ _ then _ else none) = none
        rw [if_neg (fun z => e2 z.1)]
      · rfl
end QR3
