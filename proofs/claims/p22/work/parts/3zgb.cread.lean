set_option linter.unusedVariables false
set_option linter.unusedSimpArgs false
/-! the class: reading a question -/
theorem and255a : ∀ a : Fin 256, (Int32.ofInt ((a.val : Int) - 128) &&& 255).toInt = (if a.val < 128 then (a.val : Int) + 128 else (a.val : Int) - 128) := by decide +kernel
theorem and255 {v : Int32} (h : -128 ≤ v.toInt ∧ v.toInt ≤ 127) : (v &&& 255).toInt = if v.toInt < 0 then v.toInt + 256 else v.toInt := by
  have h1 := and255a ⟨(v.toInt + 128).toNat, by omega⟩
  have e : (((v.toInt + 128).toNat : Nat) : Int) - 128 = v.toInt := by omega
  have h1 : (Int32.ofInt ((((v.toInt + 128).toNat : Nat) : Int) - 128) &&& 255).toInt = (if (v.toInt + 128).toNat < 128 then (((v.toInt + 128).toNat : Nat) : Int) + 128 else (((v.toInt + 128).toNat : Nat) : Int) - 128) := h1
  rw [e, Int32.ofInt_toInt] at h1
  rw [h1]
  split <;> split <;> omega
/-- what the reader sees at i, as far as it matters -/
def HRd (tp : Nat → Int32) (n i : Nat) (c : Int32) : Prop := ∀ k : Int32, 0 ≤ k.toInt → k.toInt ≤ 127 → (c = k ↔ byA tp n i = k)
theorem HRd_end {tp : Nat → Int32} {n i : Nat} (h : n ≤ i) : HRd tp n i (-1) := fun k k0 k1 => by
  rw [byA_end h]
theorem HRd_at {tp : Nat → Int32} {n i : Nat} (h : i < n) (hr : -128 ≤ (tp i).toInt ∧ (tp i).toInt ≤ 127) : HRd tp n i (tp i &&& 255) := fun k k0 k1 => by
  rw [byA_at h]
  have e := and255 hr
  refine ⟨fun z => i_ext ?_, fun z => i_ext ?_⟩
  · rw [z] at e
    split at e <;> omega
  · rw [e, ← z]
    rw [← z] at k0
    rw [if_neg (by omega)]
/-- the reader r of the keeper o reads n bytes tp -/
def RDc (b : CT) (o r s : Nat) (tp : Nat → Int32) (n : Nat) (I : Nat → Nat → Int32) (F : Nat → Nat → Option Nat) (A : Nat → Nat → Nat → Int32) : Prop := Is b 6 r ∧ Is b 11 o ∧ F r 4 = some (b.ad o 0) ∧ F r 7 = some s ∧ (∀ i, i < n → A o 0 i = tp i) ∧ (∀ i, i < n → -128 ≤ (tp i).toInt ∧ (tp i).toInt ≤ 127) ∧ (I r 5).toInt = (n : Int) ∧ n ≤ 400
section QR1
variable {b : CT} {I I' : Nat → Nat → Int32} {F F' : Nat → Nat → Option Nat} {A A' : Nat → Nat → Nat → Int32} {E : Nat → Nat → Nat → Option Nat} {o r s q n i j k : Nat} {tp : Nat → Int32} {X X' : String → HS → Prop} {Q Q' : HS → Prop} {QI QI' : Int32 → HS → Prop} {QF QF' : Option Nat → HS → Prop}
theorem RDc_Iq (h : RDc b o r s tp n I F A) (hI : Iq r [6] I I') : RDc b o r s tp n I' F A := by
  obtain ⟨h1, h2, h3, h4, h5, h6, h7, h8⟩ := h
  exact ⟨h1, h2, h3, h4, h5, h6, by rw [hI.2 5 (by decide)]; exact h7, h8⟩
theorem qr_here (hb : CB b) (hR : RDc b o r s tp n I F A) (hi : (I r 6).toInt = (i : Int)) (h : ∀ c, HRd tp n i c → QI c (cS b I F A E) → QI' c (cS b I F A E)) : w_X6_here (some r) (cS b I F A E) QI X → w_X6_here (some r) (cS b I F A E) QI' X' := by
  obtain ⟨h1, h2, h3, h4, h5, h6, h7, h8⟩ := hR
  unfold w_X6_here
  refine qc_getI (fun _ => ?_)
  dsimp only [wJoin]
  refine qv_if (fun z => ?_) (fun z => ?_)
  · simp only [i32, Int32.reduceToInt] at z
    omega
  refine qc_getI (fun _ => qc_getI (fun _ => qv_if (fun z2 => ?_) (fun z2 => ?_)))
  · simp only [i32] at z2
    exact h _ (HRd_end (by omega))
  simp only [i32] at z2
  refine qc_getI (fun _ => qc_getF hb (by decide) (fun _ => ?_))
  rw [h3]
  refine qc_len hb h2 (show oF 11 0 = 21 by decide) (by decide) ?_
  refine qv_if (fun z3 => ?_) (fun z3 => ?_)
  · refine qc_getF hb (by decide) (fun _ => ?_)
    rw [h3]
    refine qc_getI (fun _ => ?_)
    refine qc_ald hb h2 (show oF 11 0 = 21 by decide) (by decide) (fun _ => ?_)
    rw [ix_of hi, h5 i (by omega)]
    exact h _ (HRd_at (by omega) (h6 i (by omega)))
  · exfalso
    apply z3
    simp only [i32]
    rw [show (Int32.ofNat (oL 11 0)).toInt = 400 by decide]
    omega
theorem qr_skip (hb : CB b) (hR : RDc b o r s tp n I F A) (hi : (I r 6).toInt = (i : Int)) (hin : i ≤ n) (h : ∀ I', Iq r [6] I I' → (I' r 6).toInt = (blA tp n i : Int) → Q (cS b I' F A E) → Q' (cS b I' F A E)) : w_X6_skipBlanks (some r) (cS b I F A E) Q X → w_X6_skipBlanks (some r) (cS b I F A E) Q' X' := by
  have h8 := hR.2.2.2.2.2.2.2
  unfold w_X6_skipBlanks
  refine qc_loop (fun v b' I' F' A' E' => b' = b ∧ F' = F ∧ A' = A ∧ E' = E ∧ Iq r [6] I I' ∧ ∃ i' : Nat, (I' r 6).toInt = (i' : Int) ∧ i' ≤ n ∧ blA tp n i' = blA tp n i) ⟨rfl, rfl, rfl, rfl, Iq_rf, i, hi, hin, rfl⟩ (fun v b' I' F' A' E' again again' ⟨e1, e2, e3, e4, hI, i', j1, j2, j3⟩ ha => ?_)
  subst e1; subst e2; subst e3; subst e4
  have hR' := RDc_Iq hR hI
  have fin : byA tp n i' ≠ 32 → Q (cS b' I' F' A' E') → Q' (cS b' I' F' A' E') := fun z => h I' hI (by rw [j1, ← j3, blA_step, if_neg z])
  refine qc_getI (fun _ => qc_getI (fun _ => ?_))
  dsimp only [wJoin]
  refine qv_if (fun z => ?_) (fun z => ?_)
  · simp only [i32] at z
    have h7 := hR'.2.2.2.2.2.2.1
    exact fin (by rw [byA_end (by omega)]; decide)
  refine qc_recv (fun _ => ?_)
  refine qr_here hb hR' j1 (fun c hc => ?_)
  have hc := hc 32 (by decide) (by decide)
  refine qv_if (fun z2 => ?_) (fun z2 => fin (fun y => z2 (hc.mpr y)))
  have h32 := hc.mp z2
  have hlt := byA_in h32 (by decide)
  refine qc_getI (fun _ => qc_putI (fun _ => ?_))
  refine ha _ _ _ _ _ _ ⟨rfl, rfl, rfl, rfl, Iq_up hI (by decide), i' + 1, ?_, hlt, ?_⟩
  · rw [up2_self, i_add j1 (show (1 : Int32).toInt = 1 by decide) (by omega)]; omega
  · rw [← j3, blA_step (i := i'), if_pos h32]
theorem qr_refuse {v : Int32} (hN : ∀ u, X eUO u → X' eUO u) : w_X6_refuse (some r) v (cS b I F A E) Q X → w_X6_refuse (some r) v (cS b I F A E) Q' X' := by
  unfold w_X6_refuse
  exact qc_putI (fun _ => qc_throw (hN _))
theorem qr_take {c : Int32} (hc : 0 ≤ c.toInt ∧ c.toInt ≤ 127) (hb : CB b) (hR : RDc b o r s tp n I F A) (hi : (I r 6).toInt = (i : Int)) (hin : i ≤ n) (h : ∀ I', byA tp n i = c → i < n → Iq r [6] I I' → (I' r 6).toInt = ((i + 1 : Nat) : Int) → Q (cS b I' F A E) → Q' (cS b I' F A E)) (hN : byA tp n i ≠ c → ∀ u, X eUO u → X' eUO u) : w_X6_take (some r) c (cS b I F A E) Q X → w_X6_take (some r) c (cS b I F A E) Q' X' := by
  have h8 := hR.2.2.2.2.2.2.2
  unfold w_X6_take
  refine qc_recv (fun _ => ?_)
  refine qr_here hb hR hi (fun c' hc' => ?_)
  have hcc := hc' c hc.1 hc.2
  dsimp only [wJoin]
  refine qv_if (fun z => ?_) (fun z => ?_)
  · have e := hcc.mp z
    have hlt := byA_in e (fun y => by rw [y] at hc; exact absurd hc.1 (by decide))
    refine qc_getI (fun _ => qc_putI (fun _ => ?_))
    refine h _ e hlt (Iq_up Iq_rf (by decide)) ?_
    rw [up2_self, i_add hi (show (1 : Int32).toInt = 1 by decide) (by omega)]; omega
  · refine qc_getI (fun _ => qc_recv (fun _ => ?_))
    exact qr_refuse (hN (fun y => z (hcc.mpr y)))
theorem qr_digits (hb : CB b) (hR : RDc b o r s tp n I F A) (hi : (I r 6).toInt = (i : Int)) (hin : i ≤ n) (h : ∀ I', Iq r [6] I I' → (I' r 6).toInt = ((dgA tp n i 0).1 : Int) → QI (dgA tp n i 0).2 (cS b I' F A E) → QI' (dgA tp n i 0).2 (cS b I' F A E)) : w_X6_readDigits (some r) (cS b I F A E) QI X → w_X6_readDigits (some r) (cS b I F A E) QI' X' := by
  have h8 := hR.2.2.2.2.2.2.2
  have h2 := hR.2.1
  have h3 := hR.2.2.1
  have h5 := hR.2.2.2.2.1
  unfold w_X6_readDigits
  refine qc_loop (fun v b' I' F' A' E' => b' = b ∧ F' = F ∧ A' = A ∧ E' = E ∧ Iq r [6] I I' ∧ ∃ i' : Nat, (I' r 6).toInt = (i' : Int) ∧ i' ≤ n ∧ dgA tp n i' v = dgA tp n i 0) ⟨rfl, rfl, rfl, rfl, Iq_rf, i, hi, hin, rfl⟩ (fun v b' I' F' A' E' again again' ⟨e1, e2, e3, e4, hI, i', j1, j2, j3⟩ ha => ?_)
  subst e1; subst e2; subst e3; subst e4
  have hR' := RDc_Iq hR hI
  have h7 := hR'.2.2.2.2.2.2.1
  have fin : dgB tp n i' = false → QI v (cS b' I' F' A' E') → QI' v (cS b' I' F' A' E') := fun z => by
    have e : dgA tp n i 0 = (i', v) := by rw [← j3, dgA_step, z]; rfl
    have h := h I' hI (by rw [e]; exact j1)
    rw [e] at h; exact h
  refine qc_getI (fun _ => qc_getI (fun _ => ?_))
  dsimp only [wJoin]
  refine qv_if (fun z => ?_) (fun z => ?_)
  · simp only [i32] at z
    refine fin ?_
    cases hd : dgB tp n i' with
    | false => rfl
    | true => have := dgB_in hd; omega
  simp only [i32] at z
  have hlt : i' < n := by omega
  have eb : byA tp n i' = tp i' := byA_at hlt
  refine qc_getF hb (by decide) (fun _ => ?_)
  rw [h3]
  refine qc_getI (fun _ => ?_)
  refine qc_ald hb h2 (show oF 11 0 = 21 by decide) (by decide) (fun _ => ?_)
  rw [ix_of j1, h5 i' hlt]
  refine qv_if (fun z2 => ?_) (fun z2 => ?_)
  · simp only [i32, Int32.reduceToInt] at z2
    exact fin (by unfold dgB; rw [eb]; exact decide_eq_false (by omega))
  simp only [i32, Int32.reduceToInt] at z2
  refine qc_getF hb (by decide) (fun _ => ?_)
  rw [h3]
  refine qc_getI (fun _ => ?_)
  refine qc_ald hb h2 (show oF 11 0 = 21 by decide) (by decide) (fun _ => ?_)
  rw [ix_of j1, h5 i' hlt]
  refine qv_if (fun z3 => ?_) (fun z3 => ?_)
  · simp only [i32, Int32.reduceToInt] at z3
    exact fin (by unfold dgB; rw [eb]; exact decide_eq_false (by omega))
  simp only [i32, Int32.reduceToInt] at z3
  refine qc_getF hb (by decide) (fun _ => ?_)
  rw [h3]
  refine qc_getI (fun _ => ?_)
  refine qc_ald hb h2 (show oF 11 0 = 21 by decide) (by decide) (fun _ => ?_)
  rw [ix_of j1, h5 i' hlt]
  refine qc_getI (fun _ => qc_putI (fun _ => ?_))
  have hd : dgB tp n i' = true := by unfold dgB; rw [eb]; exact decide_eq_true (by omega)
  refine ha _ _ _ _ _ _ ⟨rfl, rfl, rfl, rfl, Iq_up hI (by decide), i' + 1, ?_, hlt, ?_⟩
  · rw [up2_self, i_add j1 (show (1 : Int32).toInt = 1 by decide) (by omega)]; omega
  · rw [← j3, dgA_step (i := i') (v := v), if_pos hd, eb]
theorem Iq_tr {q : Nat} {js : List Nat} {I I' I'' : Nat → Nat → Int32} (h : Iq q js I I') (h2 : Iq q js I' I'') : Iq q js I I'' := ⟨fun x hx => (h2.1 x hx).trans (h.1 x hx), fun j hj => (h2.2 j hj).trans (h.2 j hj)⟩
/-- one to nine digits, as both readers of them ask -/
theorem qr_nn {c0 c1 : Int32} {N : Prop} (hin : i ≤ n) (hn4 : n ≤ 400) (h0 : c0.toInt = (i : Int)) (h1 : c1.toInt = ((dgA tp n i 0).1 : Int)) : (c1 = c0 → nnA tp n i = none) ∧ (¬ c1 = c0 → ¬ (c1 - c0) ≤ 9 → nnA tp n i = none) ∧ (¬ c1 = c0 → (c1 - c0) ≤ 9 → nnA tp n i = some ((dgA tp n i 0).2, (dgA tp n i 0).1)) := by
  obtain ⟨l1, l2⟩ := dgA_le (tp := tp) (n := n) (n - i) i 0 (Nat.le_refl _) hin
  have e : (c1 - c0).toInt = ((dgA tp n i 0).1 : Int) - (i : Int) := i_sub h1 h0 (by omega)
  have le9 : (c1 - c0) ≤ 9 ↔ (dgA tp n i 0).1 - i ≤ 9 := by
    rw [show ((c1 - c0) ≤ 9) = ((c1 - c0).toInt ≤ (9 : Int32).toInt) from i32.2.1 _ _, e, show (9 : Int32).toInt = 9 by decide]; omega
  have eq : c1 = c0 ↔ (dgA tp n i 0).1 = i := ⟨fun z => by rw [z, h0] at h1; omega, fun z => i_ext (by rw [h1, h0, z])⟩
  unfold nnA
  refine ⟨fun z => if_pos (Or.inl (eq.mp z)), fun z z2 => if_pos (Or.inr ?_), fun z z2 => if_neg ?_⟩
  · rw [le9] at z2; omega
  · rw [le9] at z2; rw [eq] at z; omega
theorem qr_number (hb : CB b) (hR : RDc b o r s tp n I F A) (hi : (I r 6).toInt = (i : Int)) (hin : i ≤ n) (h : ∀ I' v j, nmA tp n i = some (v, j) → Iq r [6] I I' → (I' r 6).toInt = (j : Int) → QI v (cS b I' F A E) → QI' v (cS b I' F A E)) (hN : nmA tp n i = none → ∀ u, X eUO u → X' eUO u) : w_X6_readNumber (some r) (cS b I F A E) QI X → w_X6_readNumber (some r) (cS b I F A E) QI' X' := by
  have h8 := hR.2.2.2.2.2.2.2
  unfold w_X6_readNumber
  refine qc_getI (fun _ => qc_recv (fun _ => ?_))
  refine qr_here hb hR hi (fun c hc => ?_)
  have hc := hc 45 (by decide) (by decide)
  dsimp only [wJoin]
  refine qv_if (fun z => ?_) (fun z => ?_)
  · have e45 := hc.mp z
    have hlt := byA_in e45 (by decide)
    have enm : nmA tp n i = (nnA tp n (i + 1)).map fun r => (-r.1, r.2) := if_pos e45
    refine qv_if (fun z => absurd z (by decide)) (fun _ => ?_)
    refine qc_getI (fun _ => qc_putI (fun _ => ?_))
    have hI1 : Iq r [6] I (up2 I r 6 (I r 6 + 1)) := Iq_up Iq_rf (by decide)
    have j1 : (up2 I r 6 (I r 6 + 1) r 6).toInt = ((i + 1 : Nat) : Int) := by rw [up2_self, i_add hi (show (1 : Int32).toInt = 1 by decide) (by omega)]; omega
    generalize up2 I r 6 (I r 6 + 1) = I1 at hI1 j1 ⊢
    have hR1 := RDc_Iq hR hI1
    refine qc_getI (fun _ => qc_recv (fun _ => ?_))
    refine qr_digits hb hR1 j1 hlt (fun I2 hI2 k1 => ?_)
    obtain ⟨n1, n2, n3⟩ := qr_nn (tp := tp) (n := n) (N := True) hlt h8 j1 k1
    refine qc_getI (fun _ => ?_)
    refine qv_if (fun y => ?_) (fun y => ?_)
    · exact qc_recv (fun _ => qr_refuse (hN (by rw [enm, n1 y]; rfl)))
    refine qc_getI (fun _ => qv_if (fun y2 => ?_) (fun y2 => ?_))
    · refine qv_if (fun z => absurd z (by decide)) (fun _ => ?_)
      exact h I2 _ _ (by rw [enm, n3 y y2]; rfl) (Iq_tr hI1 hI2) k1
    · exact qc_recv (fun _ => qr_refuse (hN (by rw [enm, n2 y y2]; rfl)))
  · have enm : nmA tp n i = nnA tp n i := if_neg (fun y => z (hc.mpr y))
    refine qv_if (fun _ => ?_) (fun z => absurd rfl z)
    refine qc_getI (fun _ => qc_recv (fun _ => ?_))
    refine qr_digits hb hR hi hin (fun I2 hI2 k1 => ?_)
    obtain ⟨n1, n2, n3⟩ := qr_nn (tp := tp) (n := n) (N := True) hin h8 hi k1
    refine qc_getI (fun _ => ?_)
    refine qv_if (fun y => ?_) (fun y => ?_)
    · exact qc_recv (fun _ => qr_refuse (hN (by rw [enm, n1 y])))
    refine qc_getI (fun _ => qv_if (fun y2 => ?_) (fun y2 => ?_))
    · refine qv_if (fun _ => ?_) (fun z => absurd rfl z)
      exact h I2 _ _ (by rw [enm, n3 y y2]) hI2 k1
    · exact qc_recv (fun _ => qr_refuse (hN (by rw [enm, n2 y y2])))
/-- of the goal q only its arguments at k -/
def Aq (q k : Nat) (A A' : Nat → Nat → Nat → Int32) : Prop := (∀ x, x ≠ q → A' x = A x) ∧ ∀ j i, i ≠ k → A' q j i = A q j i
theorem Aq_rf : Aq q k A A := ⟨fun _ _ => rfl, fun _ _ _ => rfl⟩
theorem Aq_up {v : Int32} (h : Aq q k A A') : Aq q k A (up3 A' q j k v) := ⟨fun x hx => by rw [← h.1 x hx]; funext j'; exact up3_ne (fun z => hx z.1), fun j' i hi => by
  rw [← h.2 j' i hi]; unfold up3; exact if_neg (fun z => hi z.2.2)⟩
theorem RDc_Aq (hq : Is b 2 q) (h : RDc b o r s tp n I F A) (hA : Aq q k A A') : RDc b o r s tp n I F A' := by
  obtain ⟨h1, h2, h3, h4, h5, h6, h7, h8⟩ := h
  exact ⟨h1, h2, h3, h4, fun i hi => by rw [hA.1 o (Is_ne h2 hq (by decide))]; exact h5 i hi, h6, h7, h8⟩
/-- the kind of an argument, before it is sorted -/
def kdN (x : QA) : Int32 := if x.1 = 1 then 2 else if x.1 = 2 then 4 else 0
theorem up3_s {q j k : Nat} {v : Int32} : up3 A q j k v q j k = v := if_pos ⟨rfl, rfl, rfl⟩
theorem up3_j {q j j' k i : Nat} {v : Int32} (h : j' ≠ j) : up3 A q j k v q j' i = A q j' i := if_neg (fun z => h z.2.1)
theorem qr_arg {w v : Int32} {any : Bool} (hw : w.toInt = (k : Int)) (hv : v = 0 ↔ any = false) (hb : CB b) (hR : RDc b o r s tp n I F A) (hq : Is b 2 q) (hi : (I r 6).toInt = (i : Int)) (hin : i ≤ n)
    (h : ∀ I' A' x j, agA tp n any i = some (x, j) → Iq r [6] I I' → Aq q k A A' → (I' r 6).toInt = (j : Int) → A' q 0 k = kdN x → (x.1 ≠ 2 → A' q 1 k = x.2) → Q (cS b I' F A' E) → Q' (cS b I' F A' E)) (hN : agA tp n any i = none → ∀ u, X eUO u → X' eUO u) : w_X6_readArg (some r) (some q) w v (cS b I F A E) Q X → w_X6_readArg (some r) (some q) w v (cS b I F A E) Q' X' := by
  have h8 := hR.2.2.2.2.2.2.2
  unfold w_X6_readArg
  refine qc_recv (fun _ => ?_)
  refine qr_here hb hR hi (fun c hc => ?_)
  dsimp only [wJoin]
  have vr : (65 ≤ c.toInt ∧ c.toInt < 73) ↔ varB (byA tp n i) = true := by
    unfold varB
    rw [decide_eq_true_iff]
    refine ⟨fun z => ?_, fun z => ?_⟩
    · rw [(hc c (by omega) (by omega)).mp rfl]; exact z
    · rw [(hc _ (by omega) (by omega)).mpr rfl]; exact z
  have c95 := hc 95 (by decide) (by decide)
  -- a number
  have num : varB (byA tp n i) = false → (any && byA tp n i == 95) = false → (wGetF (cS b I F A E) 2 0 (some q) fun v9 => wAstI (cS b I F A E) v9 w 0 fun x10 => wGetF x10 2 1 (some q) fun v11 => wRecv x10 6 (some r) (w_X6_readNumber (some r) x10 (fun v13 x12 => wAstI x12 v11 w v13 fun x14 => Q x14) X)) → (wGetF (cS b I F A E) 2 0 (some q) fun v9 => wAstI (cS b I F A E) v9 w 0 fun x10 => wGetF x10 2 1 (some q) fun v11 => wRecv x10 6 (some r) (w_X6_readNumber (some r) x10 (fun v13 x12 => wAstI x12 v11 w v13 fun x14 => Q' x14) X')) := fun e1 e2 => by
    have ea : agA tp n any i = (nmA tp n i).map fun r => ((0, r.1), r.2) := by unfold agA; rw [e1, e2]; rfl
    refine qc_getA hb (by decide) (fun _ => ?_)
    refine qc_astI hb hq (by decide) (fun _ => ?_)
    rw [ix_of hw]
    have hA1 : Aq q k A (up3 A q 0 k 0) := Aq_up Aq_rf
    have a0 : up3 A q 0 k 0 q 0 k = 0 := up3_s
    generalize up3 A q 0 k 0 = A1 at hA1 a0 ⊢
    have hR1 := RDc_Aq hq hR hA1
    refine qc_getA hb (by decide) (fun _ => ?_)
    refine qc_recv (fun _ => ?_)
    refine qr_number hb hR1 hi hin (fun I2 v2 j2 e3 hI2 k2 => ?_) (fun e3 => hN (by rw [ea, e3]; rfl))
    refine qc_astI hb hq (by decide) (fun _ => ?_)
    rw [ix_of hw]
    refine h I2 _ (0, v2) j2 (by rw [ea, e3]; rfl) hI2 (Aq_up hA1) k2 ?_ (fun _ => up3_s)
    rw [up3_j (by decide), a0]; rfl
  have oth : varB (byA tp n i) = false → (wIf (c = 95) (wIf (v = 0) (wGetF (cS b I F A E) 2 0 (some q) fun v9 => wAstI (cS b I F A E) v9 w 0 fun x10 => wGetF x10 2 1 (some q) fun v11 => wRecv x10 6 (some r) (w_X6_readNumber (some r) x10 (fun v13 x12 => wAstI x12 v11 w v13 fun x14 => Q x14) X)) (wGetF (cS b I F A E) 2 0 (some q) fun v15 => wAstI (cS b I F A E) v15 w 4 fun x16 => wGetI x16 6 6 (some r) fun v17 => wPutI x16 6 6 (some r) (v17 + 1) fun x18 => Q x18)) (wGetF (cS b I F A E) 2 0 (some q) fun v9 => wAstI (cS b I F A E) v9 w 0 fun x10 => wGetF x10 2 1 (some q) fun v11 => wRecv x10 6 (some r) (w_X6_readNumber (some r) x10 (fun v13 x12 => wAstI x12 v11 w v13 fun x14 => Q x14) X))) → (wIf (c = 95) (wIf (v = 0) (wGetF (cS b I F A E) 2 0 (some q) fun v9 => wAstI (cS b I F A E) v9 w 0 fun x10 => wGetF x10 2 1 (some q) fun v11 => wRecv x10 6 (some r) (w_X6_readNumber (some r) x10 (fun v13 x12 => wAstI x12 v11 w v13 fun x14 => Q' x14) X')) (wGetF (cS b I F A E) 2 0 (some q) fun v15 => wAstI (cS b I F A E) v15 w 4 fun x16 => wGetI x16 6 6 (some r) fun v17 => wPutI x16 6 6 (some r) (v17 + 1) fun x18 => Q' x18)) (wGetF (cS b I F A E) 2 0 (some q) fun v9 => wAstI (cS b I F A E) v9 w 0 fun x10 => wGetF x10 2 1 (some q) fun v11 => wRecv x10 6 (some r) (w_X6_readNumber (some r) x10 (fun v13 x12 => wAstI x12 v11 w v13 fun x14 => Q' x14) X'))) := fun e1 => by
    refine qv_if (fun z => qv_if (fun z2 => ?_) (fun z2 => ?_)) (fun z => ?_)
    · exact num e1 (by rw [hv.mp z2]; rfl)
    · have e95 := c95.mp z
      have hlt := byA_in e95 (by decide)
      have ha : any = true := by
        cases hy : any with
        | true => rfl
        | false => exact absurd (hv.mpr hy) z2
      have ea : agA tp n any i = some ((2, 0), i + 1) := by unfold agA; rw [e1, ha, e95]; rfl
      refine qc_getA hb (by decide) (fun _ => ?_)
      refine qc_astI hb hq (by decide) (fun _ => ?_)
      rw [ix_of hw]
      refine qc_getI (fun _ => qc_putI (fun _ => ?_))
      refine h _ _ (2, 0) (i + 1) ea (Iq_up Iq_rf (by decide)) (Aq_up Aq_rf) ?_ (by rw [up3_s]; rfl) (fun y => absurd rfl y)
      rw [up2_self, i_add hi (show (1 : Int32).toInt = 1 by decide) (by omega)]; omega
    · refine num e1 ?_
      rw [Bool.and_eq_false_iff]
      right
      exact beq_eq_false_iff_ne.mpr (fun y => z (c95.mpr y))
  have vf : ¬ (65 ≤ c.toInt ∧ c.toInt < 73) → varB (byA tp n i) = false := fun y => by
    cases hy : varB (byA tp n i) with
    | false => rfl
    | true => exact absurd (vr.mpr hy) y
  refine qv_if (fun z => ?_) (fun z => qv_if (fun z2 => ?_) (fun z2 => ?_))
  · simp only [i32, Int32.reduceToInt] at z
    exact oth (vf (by omega))
  · simp only [i32, Int32.reduceToInt] at z z2
    exact oth (vf (by omega))
  · simp only [i32, Int32.reduceToInt] at z z2
    have hvb := vr.mp ⟨by omega, by omega⟩
    have ec : byA tp n i = c := (hc c (by omega) (by omega)).mp rfl
    have hlt := byA_in (tp := tp) (n := n) (i := i) rfl (varB_ne hvb)
    have ea : agA tp n any i = some ((1, c - 65), i + 1) := by unfold agA; rw [hvb, ec]; rfl
    refine qc_getA hb (by decide) (fun _ => ?_)
    refine qc_astI hb hq (by decide) (fun _ => ?_)
    rw [ix_of hw]
    refine qc_getA hb (by decide) (fun _ => ?_)
    refine qc_astI hb hq (by decide) (fun _ => ?_)
    rw [ix_of hw]
    refine qc_getI (fun _ => qc_putI (fun _ => ?_))
    refine h _ _ (1, c - 65) (i + 1) ea (Iq_up Iq_rf (by decide)) (Aq_up (Aq_up Aq_rf)) ?_ ?_ (fun _ => up3_s)
    · rw [up2_self, i_add hi (show (1 : Int32).toInt = 1 by decide) (by omega)]; omega
    · rw [up3_j (by decide), up3_s]; rfl
end QR1
