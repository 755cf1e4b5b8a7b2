set_option linter.unusedVariables false
set_option linter.unusedSimpArgs false
/-! the reference: goals -/
/-- reading the goal g changes this at most, of the arrays -/
def Wq (g : Nat) (ar ar' : Nat → Nat → Int32) : Prop := (∀ j, j ∉ [44, 45, 46, 47, 48] → ar' j = ar j) ∧ (∀ k, k ≠ g → ar' 44 k = ar 44 k ∧ ar' 45 k = ar 45 k) ∧ (∀ p, p < 5 * g ∨ 5 * g + 5 ≤ p → ar' 46 p = ar 46 p ∧ ar' 47 p = ar 47 p) ∧ ∀ k, k ≠ g + 1 → ar' 48 k = ar 48 k
def AgM (g : Nat) (L : List QA) (ar : Nat → Nat → Int32) : Prop := ∀ (k : Nat) (x : QA), L[k]? = some x → ar 46 (5 * g + k) = Int32.ofNat x.1 ∧ ar 47 (5 * g + k) = x.2
def GoM (g : Nat) (G : QG) (ar : Nat → Nat → Int32) : Prop := ar 44 g = Int32.ofNat G.kd ∧ (G.kd ≤ 1 → (ar 45 g).toInt = (G.tb : Int)) ∧ AgM g G.ag ar ∧ KnR (ar 48 g) G.kn
section NR3
variable {b : MT} {fi fi' : Nat → Int32} {ar ar' ar'' : Nat → Nat → Int32} {tp : Nat → Int32} {n i j k g : Nat} {kn : Nat → Bool} {x : QA} {L : List QA} {X X' : String → HS → Prop} {Q Q' : HS → Prop} {QI QI' : Int32 → HS → Prop}
theorem Wq_rf : Wq g ar ar := ⟨fun _ _ => rfl, fun _ _ => ⟨rfl, rfl⟩, fun _ _ => ⟨rfl, rfl⟩, fun _ _ => rfl⟩
theorem Wq_tr (h : Wq g ar ar') (h2 : Wq g ar' ar'') : Wq g ar ar'' := ⟨fun j z => (h2.1 j z).trans (h.1 j z), fun k z => ⟨(h2.2.1 k z).1.trans (h.2.1 k z).1, (h2.2.1 k z).2.trans (h.2.1 k z).2⟩, fun p z => ⟨(h2.2.2.1 p z).1.trans (h.2.2.1 p z).1, (h2.2.2.1 p z).2.trans (h.2.2.1 p z).2⟩, fun k z => (h2.2.2.2 k z).trans (h.2.2.2 k z)⟩
theorem Wq_put {p : Nat} (h1 : 5 * g ≤ p) (h2 : p < 5 * g + 5) : Wq g ar (putQ ar p x) := by
  have hne : ∀ j q, j ≠ 46 → j ≠ 47 → putQ ar p x j q = ar j q := fun j q z1 z2 => (if_neg (fun y => z2 y.1)).trans (if_neg (fun y => z1 y.1))
  refine ⟨fun j z => funext fun q => hne j q (fun y => z (by rw [y]; decide)) (fun y => z (by rw [y]; decide)), fun k _ => ⟨hne 44 k (by decide) (by decide), hne 45 k (by decide) (by decide)⟩, fun q z => ⟨?_, ?_⟩, fun k _ => hne 48 k (by decide) (by decide)⟩
  · unfold putQ
    rw [up2_a _ _ _ _ (by decide)]; exact if_neg (fun y => by have := y.2; omega)
  · unfold putQ
    exact (if_neg (fun y => by have := y.2; omega)).trans (up2_a _ _ _ _ (by decide))
theorem Wq_44 {v : Int32} : Wq g ar (up2 ar 44 g v) := ⟨fun j z => up2_row _ _ _ (fun y => z (by rw [y]; decide)), fun k z => ⟨if_neg (fun y => z y.2), if_neg (fun y => absurd y.1 (by decide))⟩, fun p _ => ⟨if_neg (fun y => absurd y.1 (by decide)), if_neg (fun y => absurd y.1 (by decide))⟩, fun k _ => if_neg (fun y => absurd y.1 (by decide))⟩
theorem Wq_45 {v : Int32} : Wq g ar (up2 ar 45 g v) := ⟨fun j z => up2_row _ _ _ (fun y => z (by rw [y]; decide)), fun k z => ⟨if_neg (fun y => absurd y.1 (by decide)), if_neg (fun y => z y.2)⟩, fun p _ => ⟨if_neg (fun y => absurd y.1 (by decide)), if_neg (fun y => absurd y.1 (by decide))⟩, fun k _ => if_neg (fun y => absurd y.1 (by decide))⟩
theorem Wq_48 {v : Int32} : Wq g ar (up2 ar 48 (g + 1) v) := ⟨fun j z => up2_row _ _ _ (fun y => z (by rw [y]; decide)), fun k z => ⟨if_neg (fun y => absurd y.1 (by decide)), if_neg (fun y => absurd y.1 (by decide))⟩, fun p _ => ⟨if_neg (fun y => absurd y.1 (by decide)), if_neg (fun y => absurd y.1 (by decide))⟩, fun k z => if_neg (fun y => z y.2)⟩
theorem RDm_Wq (h : RDm tp n fi ar) (hW : Wq g ar ar') : RDm tp n fi ar' := RDm_ar h (hW.1 1 (by decide))
theorem blA_idem (hi : i ≤ n) : blA tp n (blA tp n i) = blA tp n i := by
  rw [blA_step (i := blA tp n i), if_neg (blA_le (n - i) i (Nat.le_refl _) hi).2.2]
theorem nr_wrong {v : Int32} (hb : MB b) (h : ∀ fi', Fw fi fi' → QI 0 (mS b fi' ar) → QI' 0 (mS b fi' ar)) : w_X12_wrong (some b.o) v (mS b fi ar) QI X → w_X12_wrong (some b.o) v (mS b fi ar) QI' X' := by
  unfold w_X12_wrong
  refine nv_getI hb ?_
  dsimp only [wJoin]
  refine qv_if (fun _ => nv_getI hb (nv_putI hb (q_bit ?_))) (fun _ => nv_putI hb (q_bit ?_))
  · exact h _ (Fw_up Fw_rf (by decide))
  · exact h _ (Fw_up Fw_rf (by decide))
theorem nr_wr {v : Int32} (hb : MB b) (h : ∀ fi', Fw fi fi' → QI 0 (mS b fi' ar) → QI' 0 (mS b fi' ar)) : wRecv (mS b fi ar) 12 (some b.o) (w_X12_wrong (some b.o) v (mS b fi ar) (fun v9 x8 => wBit v9 (QI v9 x8)) X) → wRecv (mS b fi ar) 12 (some b.o) (w_X12_wrong (some b.o) v (mS b fi ar) (fun v9 x8 => wBit v9 (QI' v9 x8)) X') :=
  q_recv (nr_wrong hb (fun fi' hf => q_bit (h fi' hf)))
theorem nr_isKnown {gv p : Int32} (hb : MB b) (hx : argOk x) (h46 : ar 46 (ix p) = Int32.ofNat x.1) (h47 : ar 47 (ix p) = x.2) (hk : KnR (ar 48 (ix gv)) kn) (h : QI (if knB kn x then 1 else 0) (mS b fi ar) → QI' (if knB kn x then 1 else 0) (mS b fi ar)) : w_X12_isKnown (some b.o) gv p (mS b fi ar) QI X → w_X12_isKnown (some b.o) gv p (mS b fi ar) QI' X' := by
  unfold w_X12_isKnown
  refine n_getF hb (by decide) (nv_ald hb (by decide) (by decide) (fun _ => ?_))
  rw [h46]
  dsimp only [wJoin]
  have e1 : Int32.ofNat x.1 = 1 ↔ x.1 = 1 := ⟨fun z => by
    have h3 : ∀ k : Fin 3, Int32.ofNat k.val = 1 → k.val = 1 := by decide
    exact h3 ⟨x.1, by have := hx.1; omega⟩ z, fun z => by rw [z]; rfl⟩
  refine qv_if (fun z => ?_) (fun z => q_bit ?_)
  · have hx1 := e1.mp z
    obtain ⟨v0, v8⟩ := hx.2 hx1
    have hix : x.2.toInt = ((ix x.2 : Nat) : Int) := (ix_int v0).symm
    have ek : knB kn x = kn (ix x.2) := by unfold knB; rw [hx1]; rfl
    refine n_getF hb (by decide) (nv_ald hb (by decide) (by decide) (fun _ => ?_))
    refine n_getF hb (by decide) (nv_ald hb (by decide) (by decide) (fun _ => ?_))
    rw [h47]
    have hbit := bitm_iff (m := ar 48 (ix gv)) hix
    rw [hk _ (by omega)] at hbit
    refine qv_if (fun z2 => q_bit ?_) (fun z2 => q_bit ?_)
    · rw [ek, hbit.mp z2] at h; exact h
    · have : kn (ix x.2) = false := by
        cases hy : kn (ix x.2) with
        | false => rfl
        | true => exact absurd (hbit.mpr hy) z2
      rw [ek, this] at h; exact h
  · have ek : knB kn x = true := by unfold knB; rw [bne_iff_ne.mpr (fun y => z (e1.mpr y))]; rfl
    rw [ek] at h; exact h
theorem putQ_46 {p : Nat} : putQ ar p x 46 p = Int32.ofNat x.1 := by
  unfold putQ
  rw [up2_a _ _ _ _ (by decide), up2_self]
theorem putQ_47 {p : Nat} : putQ ar p x 47 p = x.2 := up2_self _ _ _ _
theorem putQ_ne {p q : Nat} (h : q ≠ p) : putQ ar p x 46 q = ar 46 q ∧ putQ ar p x 47 q = ar 47 q := by
  unfold putQ
  exact ⟨(up2_a _ _ _ _ (by decide)).trans (if_neg (fun y => h y.2)), (if_neg (fun y => h y.2)).trans (up2_a _ _ _ _ (by decide))⟩
theorem putQ_o {p j : Nat} (h1 : j ≠ 46) (h2 : j ≠ 47) : putQ ar p x j = ar j := funext fun q => (if_neg (fun y => h2 y.1)).trans (if_neg (fun y => h1 y.1))
theorem nr_known {gv p : Int32} {kp : Nat} (hb : MB b) (hR : RDm tp n fi ar) (hg : gv.toInt = (g : Int)) (hp : p.toInt = ((5 * g + kp : Nat) : Int)) (hkp : kp < 5) (hk : KnR (ar 48 g) kn) (hi : (fi 41).toInt = (i : Int)) (hin : i ≤ n)
    (h1 : ∀ fi' x j, kaA tp n kn i = some (x, j) → j ≤ n → Fw fi fi' → (fi' 41).toInt = (j : Int) → argOk x → x.1 ≠ 2 → knB kn x = true → QI 1 (mS b fi' (putQ ar (5 * g + kp) x)) → QI' 1 (mS b fi' (putQ ar (5 * g + kp) x)))
    (h0 : kaA tp n kn i = none → ∀ fi' ar', Fw fi fi' → Wq g ar ar' → QI 0 (mS b fi' ar') → QI' 0 (mS b fi' ar')) : w_X12_knownArgument (some b.o) gv p (mS b fi ar) QI X → w_X12_knownArgument (some b.o) gv p (mS b fi ar) QI' X' := by
  unfold w_X12_knownArgument
  refine q_recv (nr_blanks hb hR hi hin (fun v hv => nv_getI hb ?_))
  have hF : Fw fi (va_up fi 41 v) := Fw_up Fw_rf (by decide)
  have e41 : (va_up fi 41 v 41).toInt = (blA tp n i : Int) := by rw [va_up_self]; exact hv
  generalize va_up fi 41 v = f1 at hF e41 ⊢
  have hR1 := RDm_Fw hR hF
  have hbn := blA_n (tp := tp) hin
  refine q_recv (nr_arg (any := false) ⟨fun _ => rfl, fun _ => rfl⟩ hb hR1 e41 hbn (fun f2 x j ex hF2 i2 => ?_) (fun ex f2 hF2 => ?_))
  · rw [blA_idem hin] at ex
    have ok := agA_ok ex
    have ek : kaA tp n kn i = if knB kn x = true then some (x, j) else none := by unfold kaA; rw [ex]; rfl
    rw [ix_of hp]
    dsimp only [wJoin]
    refine qv_if (fun z => absurd z (by decide)) (fun _ => ?_)
    refine q_recv (nr_isKnown (x := x) (kn := kn) hb ok.1 (by rw [ix_of hp]; exact putQ_46) (by rw [ix_of hp]; exact putQ_47) (by rw [putQ_o (by decide) (by decide), ix_of hg]; exact hk) ?_)
    cases hkb : knB kn x with
    | true =>
      refine qv_if (fun z => absurd z (by decide)) (fun _ => q_bit ?_)
      exact h1 f2 x j (by rw [ek, if_pos hkb]) (agA_le hbn ex).2 (Fw_tr hF hF2) i2 ok.1 (ok.2 rfl) hkb
    | false =>
      refine qv_if (fun _ => ?_) (fun z => absurd rfl z)
      exact nr_wr hb (fun f3 hF3 => h0 (by rw [ek, hkb]; rfl) f3 _ (Fw_tr (Fw_tr hF hF2) hF3) (Wq_put (by omega) (by omega)))
  · rw [blA_idem hin] at ex
    dsimp only [wJoin]
    refine qv_if (fun _ => ?_) (fun z => absurd rfl z)
    exact nr_wr hb (fun f3 hF3 => h0 (by unfold kaA; rw [ex]; rfl) f3 _ (Fw_tr (Fw_tr hF hF2) hF3) Wq_rf)
theorem nr_isTable {v : Int32} (hb : MB b) (h : QI (if decide (0 ≤ v.toInt ∧ v.toInt < (fi 10).toInt) then 1 else 0) (mS b fi ar) → QI' (if decide (0 ≤ v.toInt ∧ v.toInt < (fi 10).toInt) then 1 else 0) (mS b fi ar)) : w_X12_isTable (some b.o) v (mS b fi ar) QI X → w_X12_isTable (some b.o) v (mS b fi ar) QI' X' := by
  unfold w_X12_isTable
  dsimp only [wJoin]
  refine qv_if (fun z => q_bit ?_) (fun z => nv_getI hb (qv_if (fun z2 => q_bit ?_) (fun z2 => q_bit ?_)))
  · simp only [i32, Int32.reduceToInt] at z
    rw [decide_eq_false (by omega)] at h; exact h
  · simp only [i32, Int32.reduceToInt] at z z2
    rw [decide_eq_false (by omega)] at h; exact h
  · simp only [i32, Int32.reduceToInt] at z z2
    rw [decide_eq_true (by omega)] at h; exact h
end NR3
