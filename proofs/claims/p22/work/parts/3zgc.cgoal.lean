set_option linter.unusedVariables false
set_option linter.unusedSimpArgs false
/-! bits of a mask -/
theorem bit_sh (m : Int32) : ∀ k : Nat, k < 8 → (m >>> (Int32.ofNat k &&& 31)).toBitVec = m.toBitVec.sshiftRight k := by
  intro k hk
  have e : ∀ j : Fin 8, ((Int32.ofNat j.val &&& 31).toBitVec.smod 32).toNat = j.val := by decide
  have h := e ⟨k, hk⟩
  show m.toBitVec.sshiftRight ((Int32.ofNat k &&& 31).toBitVec.smod 32).toNat = _
  rw [show ((Int32.ofNat k &&& 31).toBitVec.smod 32).toNat = k from h]
theorem bitm_get (m : Int32) {k : Nat} (hk : k < 8) : bitm m k = m.toBitVec.getLsbD k := by
  have h1 := bit_sh m k hk
  have h2 : ((m >>> (Int32.ofNat k &&& 31)) &&& 1) = 1 ↔ m.toBitVec.getLsbD k = true := by
    rw [← Int32.toBitVec_inj, Int32.toBitVec_and, h1]
    rw [show (1 : Int32).toBitVec = 1#32 from rfl, BitVec.and_one_eq_setWidth_ofBool_getLsbD, BitVec.getLsbD_sshiftRight]
    rw [if_pos (by omega)]
    simp only [Nat.add_zero]
    cases m.toBitVec.getLsbD k <;> simp <;> decide
  unfold bitm
  cases hg : m.toBitVec.getLsbD k with
  | true => exact beq_iff_eq.mpr (h2.mpr hg)
  | false => exact beq_eq_false_iff_ne.mpr (fun z => by rw [h2.mp z] at hg; cases hg)
/-- the mask v stands for kn -/
def KnR (v : Int32) (kn : Nat → Bool) : Prop := ∀ k, k < 8 → bitm v k = kn k
theorem KnR_or {v w : Int32} {kn kw : Nat → Bool} (h : KnR v kn) (h2 : KnR w kw) : KnR (v ||| w) (fun k => kn k || kw k) := fun k hk => by
  rw [bitm_get _ hk, Int32.toBitVec_or, BitVec.getLsbD_or, ← bitm_get _ hk, ← bitm_get _ hk, h k hk, h2 k hk]
theorem KnR_0 : KnR 0 (fun _ => false) := fun k hk => by
  have e : ∀ j : Fin 8, bitm 0 j.val = false := by decide
  exact e ⟨k, hk⟩
/-- one variable -/
def bitV (v : Int32) : Int32 := (1 : Int32) <<< (v &&& 31)
theorem KnR_1 {v : Int32} (h : 0 ≤ v.toInt ∧ v.toInt < 8) : KnR (bitV v) (fun k => ix v == k) := fun k hk => by
  have e : ∀ i j : Fin 8, bitm ((1 : Int32) <<< (Int32.ofNat i.val &&& 31)) j.val = (i.val == j.val) := by decide
  have e1 : v = Int32.ofNat v.toInt.toNat := i_of (by omega)
  have h2 := e ⟨v.toInt.toNat, by omega⟩ ⟨k, hk⟩
  have h2 : bitm ((1 : Int32) <<< (Int32.ofNat v.toInt.toNat &&& 31)) k = (v.toInt.toNat == k) := h2
  rw [← e1] at h2
  exact h2
theorem KnR_and {v w : Int32} {kn : Nat → Bool} (h : KnR v kn) (hw : 0 ≤ w.toInt ∧ w.toInt < 8) : (v &&& bitV w) = 0 ↔ kn (ix w) = false := by
  have hlt : ix w < 8 := by unfold ix; omega
  rw [← h (ix w) hlt, bitm_get _ hlt]
  have e : ∀ i : Fin 8, ((1 : Int32) <<< (Int32.ofNat i.val &&& 31)).toBitVec = BitVec.twoPow 32 i.val := by decide
  have e1 : w = Int32.ofNat w.toInt.toNat := i_of (by omega)
  have h2 := e ⟨w.toInt.toNat, by omega⟩
  have h2 : ((1 : Int32) <<< (Int32.ofNat w.toInt.toNat &&& 31)).toBitVec = BitVec.twoPow 32 (ix w) := h2
  rw [← e1] at h2
  rw [← Int32.toBitVec_inj, Int32.toBitVec_and, show (bitV w).toBitVec = BitVec.twoPow 32 (ix w) from h2, BitVec.and_twoPow]
  have h3 : ∀ i : Fin 8, BitVec.twoPow 32 i.val ≠ 0#32 := by decide
  cases v.toBitVec.getLsbD (ix w) with
  | true => exact ⟨fun z => absurd z (h3 ⟨ix w, hlt⟩), fun z => by cases z⟩
  | false => exact ⟨fun _ => rfl, fun _ => rfl⟩
theorem KnR_congr {v : Int32} {kn kw : Nat → Bool} (h : KnR v kn) (h2 : ∀ k, k < 8 → kw k = kn k) : KnR v kw := fun k hk => (h k hk).trans (h2 k hk).symm
/-! the class: a goal -/
/-- the kind of an argument of a table's goal: kn known before, L the arguments ahead of it -/
def kdS (kn : Nat → Bool) (L : List QA) (x : QA) : Int32 := if x.1 = 1 then (if kn (ix x.2) then 1 else if L.any (isV (ix x.2)) then 3 else 2) else kdN x
/-- it is asked for -/
def mkB (kn : Nat → Bool) (x : QA) : Bool := x.1 == 0 || (x.1 == 1 && kn (ix x.2))
def argOk (x : QA) : Prop := x.1 ≤ 2 ∧ (x.1 = 1 → 0 ≤ x.2.toInt ∧ x.2.toInt < 8)
/-- the arguments L, sorted -/
def AgC (q : Nat) (kn : Nat → Bool) (L : List QA) (A : Nat → Nat → Nat → Int32) : Prop := ∀ (k : Nat) (x : QA), L[k]? = some x → A q 0 k = kdS kn (L.take k) x ∧ (x.1 ≠ 2 → A q 1 k = x.2)
def mkL (kn : Nat → Bool) (L : List QA) : Nat → Bool := fun k => match L[k]? with
  | none => false
  | some x => mkB kn x
/-- an argument of a sign's goal -/
def Ag1 (q k : Nat) (x : QA) (A : Nat → Nat → Nat → Int32) : Prop := A q 0 k = (if x.1 = 1 then 1 else 0) ∧ A q 1 k = x.2
def signC (k : Nat) : Int32 := if k = 0 then 116 else if k = 1 then 33 else if k = 2 then 60 else if k = 3 then 61 else if k = 4 then 35 else if k = 5 then 43 else if k = 6 then 45 else 42
def GoC (q : Nat) (d : Nat → Nat) (G : QG) (I : Nat → Nat → Int32) (F : Nat → Nat → Option Nat) (A : Nat → Nat → Nat → Int32) : Prop := I q 2 = signC G.kd ∧ (∀ x, x ∈ G.ag → argOk x) ∧
  (G.kd ≤ 1 → F q 3 = some (d G.tb) ∧ I q 4 = maskOf (mkL G.kn G.ag) ∧ AgC q G.kn G.ag A) ∧
  (2 ≤ G.kd → G.kd ≤ 4 → ∃ x y, G.ag = [x, y] ∧ Ag1 q 0 x A ∧ Ag1 q 1 y A ∧ knB G.kn x = true ∧ knB G.kn y = true ∧ x.1 ≠ 2 ∧ y.1 ≠ 2) ∧
  (5 ≤ G.kd → G.kd ≤ 7 ∧ ∃ z x y, G.ag = [z, x, y] ∧ I q 5 = z.2 ∧ z.1 = 1 ∧ Ag1 q 0 x A ∧ Ag1 q 1 y A ∧ knB G.kn x = true ∧ knB G.kn y = true ∧ x.1 ≠ 2 ∧ y.1 ≠ 2)
/-- reading into the goal q changes this at most -/
def Rq (r q : Nat) (I I' : Nat → Nat → Int32) (F F' : Nat → Nat → Option Nat) (A A' : Nat → Nat → Nat → Int32) : Prop := (∀ x, x ≠ r → x ≠ q → I' x = I x) ∧ (∀ x, x ≠ q → F' x = F x) ∧ (∀ x, x ≠ q → A' x = A x) ∧ ∀ j, j ∉ [2, 6] → I' r j = I r j
/-- the tables, as the reader finds them -/
def TBc (b : CT) (s : Nat) (d : Nat → Nat) (tn : Int32) (co : Nat → Int32) (I : Nat → Nat → Int32) (E : Nat → Nat → Nat → Option Nat) : Prop := Is b 9 s ∧ I s 3 = tn ∧ ∀ t : Nat, (t : Int) < tn.toInt → E s 0 t = some (d t) ∧ Is b 10 (d t) ∧ I (d t) 1 = co t ∧ 1 ≤ (co t).toInt ∧ (co t).toInt ≤ 4
section QR2
variable {b : CT} {I I' I'' : Nat → Nat → Int32} {F F' F'' : Nat → Nat → Option Nat} {A A' A'' : Nat → Nat → Nat → Int32} {E : Nat → Nat → Nat → Option Nat} {o r s q n i j k : Nat} {d : Nat → Nat} {tn : Int32} {co : Nat → Int32} {kn : Nat → Bool} {tp : Nat → Int32} {X X' : String → HS → Prop} {Q Q' : HS → Prop} {QI QI' : Int32 → HS → Prop} {QF QF' : Option Nat → HS → Prop}
theorem Rq_rf : Rq r q I I F F A A := ⟨fun _ _ _ => rfl, fun _ _ => rfl, fun _ _ => rfl, fun _ _ => rfl⟩
theorem Rq_tr (h : Rq r q I I' F F' A A') (h2 : Rq r q I' I'' F' F'' A' A'') : Rq r q I I'' F F'' A A'' := ⟨fun x z1 z2 => (h2.1 x z1 z2).trans (h.1 x z1 z2), fun x z => (h2.2.1 x z).trans (h.2.1 x z), fun x z => (h2.2.2.1 x z).trans (h.2.2.1 x z), fun j z => (h2.2.2.2 j z).trans (h.2.2.2 j z)⟩
theorem Rq_Iq {js : List Nat} (h : Iq r js I I') (hj : ∀ j, j ∈ js → j ∈ [2, 6]) : Rq r q I I' F F A A := ⟨fun x z _ => h.1 x z, fun _ _ => rfl, fun _ _ => rfl, fun j z => h.2 j (fun y => z (hj j y))⟩
theorem Rq_Iqq (hqr : q ≠ r) {js : List Nat} (h : Iq q js I I') : Rq r q I I' F F A A := ⟨fun x _ z => h.1 x z, fun _ _ => rfl, fun _ _ => rfl, fun j z => by rw [h.1 r (Ne.symm hqr)]⟩
theorem Rq_Aq (h : Aq q k A A') : Rq r q I I F F A A' := ⟨fun _ _ _ => rfl, fun _ _ => rfl, h.1, fun _ _ => rfl⟩
theorem Rq_F {v : Option Nat} : Rq r q I I F (up2 F q j v) A A := ⟨fun _ _ _ => rfl, fun x z => up2_row _ _ _ z, fun _ _ => rfl, fun _ _ => rfl⟩
theorem RDc_Rq (hq : Is b 2 q) (h : RDc b o r s tp n I F A) (hQ : Rq r q I I' F F' A A') : RDc b o r s tp n I' F' A' := by
  obtain ⟨h1, h2, h3, h4, h5, h6, h7, h8⟩ := h
  have n1 : r ≠ q := Is_ne h1 hq (by decide)
  have n2 : o ≠ q := Is_ne h2 hq (by decide)
  exact ⟨h1, h2, by rw [hQ.2.1 r n1]; exact h3, by rw [hQ.2.1 r n1]; exact h4, fun i hi => by rw [hQ.2.2.1 o n2]; exact h5 i hi, h6, by rw [hQ.2.2.2 5 (by decide)]; exact h7, h8⟩
theorem TBc_Rq (hr : Is b 6 r) (hq : Is b 2 q) (h : TBc b s d tn co I E) (hQ : Rq r q I I' F F' A A') : TBc b s d tn co I' E := by
  obtain ⟨h1, h2, h3⟩ := h
  refine ⟨h1, by rw [hQ.1 s (Is_ne h1 hr (by decide)) (Is_ne h1 hq (by decide))]; exact h2, fun t ht => ?_⟩
  obtain ⟨z1, z2, z3, z4⟩ := h3 t ht
  exact ⟨z1, z2, by rw [hQ.1 (d t) (Is_ne z2 hr (by decide)) (Is_ne z2 hq (by decide))]; exact z3, z4⟩
theorem qr_tableAt (hb : CB b) (hT : TBc b s d tn co I E) {v : Int32} (h1 : (0 ≤ v.toInt ∧ v.toInt < tn.toInt) → QF (some (d (ix v))) (cS b I F A E) → QF' (some (d (ix v))) (cS b I F A E)) (h2 : ¬ (0 ≤ v.toInt ∧ v.toInt < tn.toInt) → QF none (cS b I F A E) → QF' none (cS b I F A E)) : w_X9_tableAt (some s) v (cS b I F A E) QF X → w_X9_tableAt (some s) v (cS b I F A E) QF' X' := by
  obtain ⟨t1, t2, t3⟩ := hT
  unfold w_X9_tableAt
  dsimp only [wJoin]
  refine qv_if (fun z => ?_) (fun z => ?_)
  · simp only [i32, Int32.reduceToInt] at z
    exact h2 (by omega)
  simp only [i32, Int32.reduceToInt] at z
  refine qc_getI (fun _ => ?_)
  rw [t2]
  refine qv_if (fun z2 => ?_) (fun z2 => ?_)
  · simp only [i32] at z2
    refine qc_getA hb (by decide) (fun _ => ?_)
    refine qc_aldG hb t1 (by decide) (by decide) (fun _ => ?_)
    have hv : ((ix v : Nat) : Int) < tn.toInt := by rw [ix_int (by omega)]; exact z2
    rw [(t3 (ix v) hv).1]
    exact h1 ⟨by omega, z2⟩
  · simp only [i32] at z2
    exact h2 (by omega)
theorem qr_table (hb : CB b) (hR : RDc b o r s tp n I F A) (hT : TBc b s d tn co I E) (hi : (I r 6).toInt = (i : Int)) (hin : i ≤ n)
    (h : ∀ I' v j, byA tp n i = 116 → nnA tp n (i + 1) = some (v, j) → (0 ≤ v.toInt ∧ v.toInt < tn.toInt) → Iq r [6] I I' → (I' r 6).toInt = (j : Int) → QF (some (d (ix v))) (cS b I' F A E) → QF' (some (d (ix v))) (cS b I' F A E))
    (hN : (byA tp n i ≠ 116 ∨ nnA tp n (i + 1) = none ∨ ∃ v j, nnA tp n (i + 1) = some (v, j) ∧ ¬ (0 ≤ v.toInt ∧ v.toInt < tn.toInt)) → ∀ u, X eUO u → X' eUO u) : w_X6_readTable (some r) (cS b I F A E) QF X → w_X6_readTable (some r) (cS b I F A E) QF' X' := by
  have h8 := hR.2.2.2.2.2.2.2
  unfold w_X6_readTable
  refine qc_getI (fun _ => qc_recv (fun _ => ?_))
  refine qr_take ⟨by decide, by decide⟩ hb hR hi hin (fun I1 e1 hlt hI1 j1 => ?_) (fun e => hN (Or.inl e))
  have hR1 := RDc_Iq hR hI1
  refine qc_getI (fun _ => qc_recv (fun _ => ?_))
  refine qr_digits hb hR1 j1 hlt (fun I2 hI2 k1 => ?_)
  obtain ⟨n1, n2, n3⟩ := qr_nn (tp := tp) (n := n) (N := True) hlt h8 j1 k1
  have hR2 := RDc_Iq hR1 hI2
  refine qc_getI (fun _ => ?_)
  dsimp only [wJoin]
  refine qv_if (fun y => ?_) (fun y => ?_)
  · exact qc_recv (fun _ => qr_refuse (hN (Or.inr (Or.inl (n1 y)))))
  refine qc_getI (fun _ => qv_if (fun y2 => ?_) (fun y2 => ?_))
  · refine qc_getF hb (by decide) (fun _ => ?_)
    rw [hR2.2.2.2.1]
    refine qc_recv (fun _ => ?_)
    have hT2 : TBc b s d tn co I2 E := by
      obtain ⟨t1, t2, t3⟩ := hT
      have hh := Iq_tr hI1 hI2
      refine ⟨t1, by rw [hh.1 s (Is_ne t1 hR.1 (by decide))]; exact t2, fun t ht => ?_⟩
      obtain ⟨z1, z2, z3, z4⟩ := t3 t ht
      exact ⟨z1, z2, by rw [hh.1 (d t) (Is_ne z2 hR.1 (by decide))]; exact z3, z4⟩
    refine qr_tableAt hb hT2 (fun hv => ?_) (fun hv => ?_)
    · refine qv_if (fun z => absurd z (by simp)) (fun _ => ?_)
      exact h I2 _ _ e1 (n3 y y2) hv (Iq_tr hI1 hI2) k1
    · refine qv_if (fun _ => ?_) (fun z => absurd rfl z)
      exact qc_recv (fun _ => qr_refuse (hN (Or.inr (Or.inr ⟨_, _, n3 y y2, hv⟩))))
  · exact qc_recv (fun _ => qr_refuse (hN (Or.inr (Or.inl (n2 y y2)))))
/-- an argument of a table's goal is sorted -/
theorem qr_sort {w fr : Int32} {fn mf : Nat → Bool} {x : QA} (hw : w.toInt = (k : Int)) (hk : k < 4) (hb : CB b) (hr : Is b 6 r) (hq : Is b 2 q) (hx : argOk x) (hkn : KnR (I r 2) kn) (hfr : KnR fr fn) (h0 : A q 0 k = kdN x) (h1 : x.1 ≠ 2 → A q 1 k = x.2) (hm : I q 4 = maskOf mf)
    (h : ∀ I' A' v, KnR (fr ||| v) (fun j => fn j || (!(kn j) && isV j x)) → Aq q k A A' → A' q 0 k = (if x.1 = 1 then (if kn (ix x.2) then 1 else if fn (ix x.2) then 3 else 2) else kdN x) → A' q 1 k = A q 1 k → Iq q [4] I I' → I' q 4 = maskOf (if mkB kn x then va_up mf k true else mf) → QI v (cS b I' F A' E) → QI' v (cS b I' F A' E)) : w_X6_sortTableArg (some r) (some q) w fr (cS b I F A E) QI X → w_X6_sortTableArg (some r) (some q) w fr (cS b I F A E) QI' X' := by
  unfold w_X6_sortTableArg
  refine qc_getA hb (by decide) (fun _ => ?_)
  refine qc_ald hb hq (by decide) (by decide) (fun _ => ?_)
  rw [ix_of hw, h0]
  dsimp only [wJoin]
  have sh : maskOf mf ||| ((1 : Int32) <<< (w &&& 31)) = maskOf (va_up mf k true) := by
    have := mask_or mf (k := w) ⟨by omega, by omega⟩
    rw [ix_of hw] at this; exact this
  have fr0 : ∀ {p : Nat → Bool}, (∀ j, p j = false) → KnR (fr ||| 0) (fun j => fn j || p j) := fun {p} hp => KnR_congr (KnR_or hfr KnR_0) (fun j _ => by rw [hp j])
  -- the end: is it asked for?
  have fin : ∀ (A1 : Nat → Nat → Nat → Int32) (v : Int32) (kd : Int32), Aq q k A A1 → A1 q 1 k = A q 1 k → A1 q 0 k = kd → kd = (if x.1 = 1 then (if kn (ix x.2) then 1 else if fn (ix x.2) then 3 else 2) else kdN x) → KnR (fr ||| v) (fun j => fn j || (!(kn j) && isV j x)) → (kd = 1 ∨ kd = 0 ↔ mkB kn x = true) →
      (wGetF (cS b I F A1 E) 2 0 (some q) fun v6 => wAldJ (cS b I F A1 E) 20 v6 w fun v7 => wIf (v7 = 1) (wGetI (cS b I F A1 E) 2 4 (some q) fun v12 => wPutI (cS b I F A1 E) 2 4 (some q) (v12 ||| ((1 : Int32) <<< (w &&& 31))) fun x13 => QI v x13) (wGetF (cS b I F A1 E) 2 0 (some q) fun v14 => wAldJ (cS b I F A1 E) 20 v14 w fun v15 => wIf (v15 = 0) (wGetI (cS b I F A1 E) 2 4 (some q) fun v12 => wPutI (cS b I F A1 E) 2 4 (some q) (v12 ||| ((1 : Int32) <<< (w &&& 31))) fun x13 => QI v x13) (QI v (cS b I F A1 E)))) →
      (wGetF (cS b I F A1 E) 2 0 (some q) fun v6 => wAldJ (cS b I F A1 E) 20 v6 w fun v7 => wIf (v7 = 1) (wGetI (cS b I F A1 E) 2 4 (some q) fun v12 => wPutI (cS b I F A1 E) 2 4 (some q) (v12 ||| ((1 : Int32) <<< (w &&& 31))) fun x13 => QI' v x13) (wGetF (cS b I F A1 E) 2 0 (some q) fun v14 => wAldJ (cS b I F A1 E) 20 v14 w fun v15 => wIf (v15 = 0) (wGetI (cS b I F A1 E) 2 4 (some q) fun v12 => wPutI (cS b I F A1 E) 2 4 (some q) (v12 ||| ((1 : Int32) <<< (w &&& 31))) fun x13 => QI' v x13) (QI' v (cS b I F A1 E)))) := fun A1 v kd hA1 a1 a0 ek hv hmk => by
    have put : mkB kn x = true → (wGetI (cS b I F A1 E) 2 4 (some q) fun v12 => wPutI (cS b I F A1 E) 2 4 (some q) (v12 ||| ((1 : Int32) <<< (w &&& 31))) fun x13 => QI v x13) → (wGetI (cS b I F A1 E) 2 4 (some q) fun v12 => wPutI (cS b I F A1 E) 2 4 (some q) (v12 ||| ((1 : Int32) <<< (w &&& 31))) fun x13 => QI' v x13) := fun y => by
      refine qc_getI (fun _ => qc_putI (fun _ => ?_))
      refine h _ A1 v hv hA1 (a0.trans ek) a1 (Iq_up Iq_rf (by decide)) ?_
      rw [up2_self, hm, sh, if_pos y]
    refine qc_getA hb (by decide) (fun _ => ?_)
    refine qc_ald hb hq (by decide) (by decide) (fun _ => ?_)
    rw [ix_of hw, a0]
    refine qv_if (fun y => put (hmk.mp (Or.inl y))) (fun y => ?_)
    refine qc_getA hb (by decide) (fun _ => ?_)
    refine qc_ald hb hq (by decide) (by decide) (fun _ => ?_)
    rw [ix_of hw, a0]
    refine qv_if (fun y2 => put (hmk.mp (Or.inr y2))) (fun y2 => ?_)
    refine h I A1 v hv hA1 (a0.trans ek) a1 Iq_rf ?_
    rw [hm, if_neg (fun z => (hmk.mpr z).elim y y2)]
  by_cases hx1 : x.1 = 1
  · have e2 : kdN x = 2 := if_pos hx1
    obtain ⟨v0, v8⟩ := hx.2 hx1
    have h1 := h1 (by omega)
    have hix : x.2.toInt = ((ix x.2 : Nat) : Int) := (ix_int v0).symm
    have hlt : ix x.2 < 8 := by omega
    have isVx : ∀ j, isV j x = (ix x.2 == j) := fun j => by unfold isV; rw [hx1]; rfl
    have mkx : mkB kn x = kn (ix x.2) := by unfold mkB; rw [hx1]; rfl
    rw [e2]
    refine qv_if (fun _ => ?_) (fun z => absurd rfl z)
    refine qc_getI (fun _ => ?_)
    refine qc_getA hb (by decide) (fun _ => ?_)
    refine qc_ald hb hq (by decide) (by decide) (fun _ => ?_)
    rw [ix_of hw, h1]
    refine qc_isIn hix ?_
    rw [hkn _ hlt]
    cases hk1 : kn (ix x.2) with
    | true =>
      refine qv_if (fun z => absurd z (by decide)) (fun _ => ?_)
      refine qc_getA hb (by decide) (fun _ => ?_)
      refine qc_astI hb hq (by decide) (fun _ => ?_)
      rw [ix_of hw]
      refine fin _ 0 1 (Aq_up Aq_rf) (up3_j (by decide)) up3_s (by rw [if_pos hx1, hk1]; rfl) (fr0 (fun j => ?_)) ⟨fun _ => by rw [mkx, hk1], fun _ => Or.inl rfl⟩
      rw [isVx]
      by_cases e : ix x.2 = j
      · rw [← e, hk1]; rfl
      · rw [beq_eq_false_iff_ne.mpr e, Bool.and_false]
    | false =>
      refine qv_if (fun _ => ?_) (fun z => absurd rfl z)
      refine qc_getA hb (by decide) (fun _ => ?_)
      refine qc_ald hb hq (by decide) (by decide) (fun _ => ?_)
      rw [ix_of hw, h1]
      refine qc_isIn hix ?_
      rw [hfr _ hlt]
      cases hf1 : fn (ix x.2) with
      | true =>
        refine qv_if (fun z => absurd z (by decide)) (fun _ => ?_)
        refine qc_getA hb (by decide) (fun _ => ?_)
        refine qc_astI hb hq (by decide) (fun _ => ?_)
        rw [ix_of hw]
        refine fin _ 0 3 (Aq_up Aq_rf) (up3_j (by decide)) up3_s (by rw [if_pos hx1, hk1, hf1]; rfl) ?_ ⟨fun z => absurd z (by decide), fun z => by rw [mkx, hk1] at z; cases z⟩
        refine KnR_congr (KnR_or hfr KnR_0) (fun j _ => ?_)
        rw [isVx]
        by_cases e : ix x.2 = j
        · rw [← e, hf1]; rfl
        · rw [beq_eq_false_iff_ne.mpr e, Bool.and_false]
      | false =>
        refine qv_if (fun _ => ?_) (fun z => absurd rfl z)
        refine qc_getA hb (by decide) (fun _ => ?_)
        refine qc_ald hb hq (by decide) (by decide) (fun _ => ?_)
        rw [ix_of hw, h1]
        refine fin A (bitV x.2) 2 Aq_rf rfl (h0.trans e2) (by rw [if_pos hx1, hk1, hf1]; rfl) ?_ ⟨fun z => absurd z (by decide), fun z => by rw [mkx, hk1] at z; cases z⟩
        refine KnR_congr (KnR_or hfr (KnR_1 ⟨v0, v8⟩)) (fun j _ => ?_)
        rw [isVx]
        by_cases e : ix x.2 = j
        · rw [← e, hk1]; simp
        · rw [beq_eq_false_iff_ne.mpr e, Bool.and_false]
  · have e2 : kdN x = if x.1 = 2 then 4 else 0 := if_neg hx1
    have isVx : ∀ j, isV j x = false := fun j => by unfold isV; rw [beq_eq_false_iff_ne.mpr hx1]; rfl
    refine qv_if (fun z => ?_) (fun _ => ?_)
    · rw [e2] at z; split at z <;> exact absurd z (by decide)
    refine fin A 0 (kdN x) Aq_rf rfl h0 (by rw [if_neg hx1]) (fr0 (fun j => by rw [isVx, Bool.and_false])) ?_
    unfold mkB
    rw [e2, beq_eq_false_iff_ne.mpr hx1, Bool.false_and, Bool.or_false]
    have := hx.1
    by_cases e : x.1 = 2
    · rw [if_pos e]
      exact ⟨fun z => absurd z (by decide), fun z => by rw [beq_iff_eq] at z; omega⟩
    · rw [if_neg e]
      exact ⟨fun _ => beq_iff_eq.mpr (by omega), fun _ => Or.inr rfl⟩
end QR2
