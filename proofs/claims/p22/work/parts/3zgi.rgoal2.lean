set_option linter.unusedVariables false
set_option linter.unusedSimpArgs false
/-! the reference: a table's goal -/
/-- what becomes known -/
def w_tmKn (l0 : Option Nat) (l1 m : Int32) (x48 : HS) (Q : Int32 → HS → Prop) (X : String → HS → Prop) : Prop :=
 wLoop (σ := Int32) (fun v52 x51 again49 =>
 wJoin (κ := HS → Prop) (fun  (x54 : HS) =>
 wBit 1 (Q 1 x54)) (fun j53 =>
 wIf (m ≤ v52)
 (j53 x51)
 (wGetF x51 12 44 l0 fun v55 =>
 wAldJ x51 20 v55 l1 fun v56 =>
 wIf (v56 = 0)
 (wGetF x51 12 46 l0 fun v57 =>
 wAldJ x51 20 v57 (((5 : Int32) * l1) + v52) fun v58 =>
 wJoin (κ := HS → Prop) (fun  (x60 : HS) =>
 again49 (v52 + 1) x60) (fun j59 =>
 wIf (v58 = 1)
 (wGetF x51 12 48 l0 fun v61 =>
 wAldJ x51 20 v61 (l1 + 1) fun v62 =>
 wGetF x51 12 47 l0 fun v63 =>
 wAldJ x51 20 v63 (((5 : Int32) * l1) + v52) fun v64 =>
 wAstI x51 v61 (l1 + 1) (v62 ||| ((1 : Int32) <<< (v64 &&& 31))) fun x65 =>
 j59 x65)
 (j59 x51)))
 (j53 x51)))) 0 x48
def w_tmLoop (l0 : Option Nat) (l1 : Int32) (x20 : HS) (Q : Int32 → HS → Prop) (X : String → HS → Prop) : Prop :=
 wLoop (σ := Int32 × Int32) (fun v28 x27 again25 =>
 wIf (v28.2 = 0)
 (wRecv x27 12 l0
 (w_X12_blanks l0 x27 (fun x29 =>
 wGetI x29 12 41 l0 fun v31 =>
 wRecv x29 12 l0
 (w_X12_byteAt l0 v31 x29 (fun v33 x32 =>
 wJoin (κ := HS → Prop) (fun  (x35 : HS) =>
 wGetI x35 12 41 l0 fun v36 =>
 wRecv x35 12 l0
 (w_X12_wrong l0 v36 x35 (fun v38 x37 =>
 wBit v38 (Q v38 x37)) X)) (fun j34 =>
 wIf (v33 = 41)
 (wGetF x32 12 4 l0 fun v39 =>
 wGetF x32 12 45 l0 fun v40 =>
 wAldJ x32 20 v40 l1 fun v41 =>
 wAldJ x32 20 v39 v41 fun v42 =>
 wIf (v42 ≤ v28.1)
 (wGetI x32 12 41 l0 fun v43 =>
 wPutI x32 12 41 l0 (v43 + 1) fun x44 =>
 wGetF x44 12 48 l0 fun v45 =>
 wGetF x44 12 48 l0 fun v46 =>
 wAldJ x44 20 v46 l1 fun v47 =>
 wAstI x44 v45 (l1 + 1) v47 fun x48 => w_tmKn l0 l1 v28.1 x48 Q X)
 (j34 x32))
 (j34 x32))) X)) X))
 (wRecv x27 12 l0
 (w_X12_blanks l0 x27 (fun x66 =>
 wGetF x66 12 4 l0 fun v68 =>
 wGetF x66 12 45 l0 fun v69 =>
 wAldJ x66 20 v69 l1 fun v70 =>
 wAldJ x66 20 v68 v70 fun v71 =>
 wIf (v28.1 = v71)
 (wGetI x66 12 41 l0 fun v72 =>
 wRecv x66 12 l0
 (w_X12_wrong l0 v72 x66 (fun v74 x73 =>
 wBit v74 (Q v74 x73)) X))
 (wGetI x66 12 41 l0 fun v75 =>
 wRecv x66 12 l0
 (w_X12_argument l0 (((5 : Int32) * l1) + v28.1) 1 x66 (fun v77 x76 =>
 wIf (v77 = 0)
 (wRecv x76 12 l0
 (w_X12_wrong l0 v75 x76 (fun v79 x78 =>
 wBit v79 (Q v79 x78)) X))
 (wRecv x76 12 l0
 (w_X12_take l0 44 x76 (fun v81 x80 =>
 again25 ((v28.1 + 1), v81) x80) X))) X))) X))) (0, 1) x20
theorem w_tm (l0 : Option Nat) (l1 : Int32) (x : HS) (Q : Int32 → HS → Prop) (X : String → HS → Prop) : w_X12_tableGoal l0 l1 x Q X = wGetI x 12 41 l0 fun v1 => wGetI x 12 41 l0 fun v2 => wPutI x 12 41 l0 (v2 + 1) fun x3 => wGetI x3 12 41 l0 fun v4 => wRecv x3 12 l0 (w_X12_digits l0 v4 x3 (fun v6 x5 => wIf (v6 = 0) (wGetI x5 12 41 l0 fun v7 => wRecv x5 12 l0 (w_X12_wrong l0 v7 x5 (fun v9 x8 => wBit v9 (Q v9 x8)) X)) (wIf (v6 ≤ 9) (wRecv x5 12 l0 (w_X12_digits0 l0 x5 (fun v11 x10 => wGetF x10 12 45 l0 fun v12 => wGetI x10 12 43 l0 fun v13 => wAstI x10 v12 l1 v13 fun x14 => wGetI x14 12 43 l0 fun v15 => wRecv x14 12 l0 (w_X12_isTable l0 v15 x14 (fun v17 x16 => wIf (v17 = 0) (wRecv x16 12 l0 (w_X12_wrong l0 v1 x16 (fun v19 x18 => wBit v19 (Q v19 x18)) X)) (wRecv x16 12 l0 (w_X12_take l0 40 x16 (fun v21 x20 => wIf (v21 = 0) (wGetI x20 12 41 l0 fun v22 => wRecv x20 12 l0 (w_X12_wrong l0 v22 x20 (fun v24 x23 => wBit v24 (Q v24 x23)) X)) (w_tmLoop l0 l1 x20 Q X)) X))) X)) X)) (wRecv x5 12 l0 (w_X12_wrong l0 v1 x5 (fun v83 x82 => wBit v83 (Q v83 x82)) X)))) X) := rfl
section NR4
variable {b : MT} {fi fi' : Nat → Int32} {ar ar' ar'' : Nat → Nat → Int32} {tp : Nat → Int32} {n i j k g t c kd : Nat} {tn : Int32} {co : Nat → Int32} {kn : Nat → Bool} {x : QA} {L : List QA} {X X' : String → HS → Prop} {Q Q' : HS → Prop} {QI QI' : Int32 → HS → Prop}
theorem g5 {gv v : Int32} {g k : Nat} (hg : gv.toInt = (g : Int)) (hg1 : g < 11) (hv : v.toInt = (k : Int)) (hk : k < 100) : (((5 : Int32) * gv) + v).toInt = ((5 * g + k : Nat) : Int) := by
  have h1 : ((5 : Int32) * gv).toInt = 5 * (g : Int) := i_mul (show (5 : Int32).toInt = 5 by decide) hg (by omega)
  rw [i_add h1 hv (by omega)]; omega
theorem of3 {k : Nat} (h : k ≤ 2) : Int32.ofNat k = 1 ↔ k = 1 := by
  have h3 : ∀ k : Fin 3, Int32.ofNat k.val = 1 ↔ k.val = 1 := by decide
  exact h3 ⟨k, by omega⟩
theorem nr_tmKn {gv m : Int32} (hb : MB b) (hg : gv.toInt = (g : Int)) (hg1 : g < 10) (hm : m.toInt = (L.length : Int)) (hL4 : L.length ≤ 4) (hL : AgM g L ar) (hok : ∀ x, x ∈ L → argOk x) (h44 : ar 44 g = Int32.ofNat kd) (hkd : kd ≤ 1) (hk : KnR (ar 48 (g + 1)) kn)
    (h : ∀ v, KnR v (if kd = 0 then mkKn kn L else kn) → QI 1 (mS b fi (up2 ar 48 (g + 1) v)) → QI' 1 (mS b fi (up2 ar 48 (g + 1) v))) : w_tmKn (some b.o) gv m (mS b fi ar) QI X → w_tmKn (some b.o) gv m (mS b fi ar) QI' X' := by
  have hgp : (gv + 1).toInt = ((g + 1 : Nat) : Int) := by rw [i_add hg (show (1 : Int32).toInt = 1 by decide) (by omega)]; omega
  unfold w_tmKn
  refine n_loopV (b := b) (fun (v : Int32) fi' ar' => fi' = fi ∧ ∃ (w : Int32) (k' : Nat), ar' = up2 ar 48 (g + 1) w ∧ v.toInt = (k' : Int) ∧ k' ≤ L.length ∧ KnR w (mkKn kn (L.take k')) ∧ (kd ≠ 0 → k' = 0)) ⟨rfl, ar 48 (g + 1), 0, ?_, by decide, Nat.zero_le _, KnR_congr hk (fun j _ => by unfold mkKn; simp), fun _ => rfl⟩ (fun v fi' ar' again again' ⟨e1, w, k', e2, j1, j2, j3, j4⟩ ha => ?_)
  · funext j q
    unfold up2
    split
    · rename_i z; rw [z.1, z.2]
    · rfl
  subst e1; subst e2
  dsimp only [wJoin]
  have a44 : up2 ar 48 (g + 1) w 44 g = Int32.ofNat kd := (if_neg (fun z => absurd z.1 (by decide))).trans h44
  refine qv_if (fun z => q_bit ?_) (fun z => ?_)
  · simp only [i32] at z
    refine h w ?_
    by_cases e0 : kd = 0
    · rw [if_pos e0]
      rw [show k' = L.length by omega, List.take_length] at j3; exact j3
    · rw [if_neg e0]
      rw [j4 e0] at j3
      exact KnR_congr j3 (fun j _ => by unfold mkKn; simp)
  simp only [i32] at z
  have hlt : k' < L.length := by omega
  refine n_getF hb (by decide) (nv_ald hb (by decide) (by decide) (fun _ => ?_))
  rw [ix_of hg, a44]
  by_cases e0 : kd = 0
  · rw [e0]
    refine qv_if (fun _ => ?_) (fun z => absurd rfl z)
    refine n_getF hb (by decide) (nv_ald hb (by decide) (by decide) (fun _ => ?_))
    rw [ix_of (g5 hg (by omega) j1 (by omega))]
    have hx := List.getElem?_eq_getElem hlt
    generalize L[k'] = x at hx
    obtain ⟨a46, a47⟩ := hL k' x hx
    have okx := hok x (List.mem_of_getElem? hx)
    have a46' : up2 ar 48 (g + 1) w 46 (5 * g + k') = Int32.ofNat x.1 := (if_neg (fun z => absurd z.1 (by decide))).trans a46
    have a47' : up2 ar 48 (g + 1) w 47 (5 * g + k') = x.2 := (if_neg (fun z => absurd z.1 (by decide))).trans a47
    rw [a46']
    have etk : L.take (k' + 1) = L.take k' ++ [x] := by rw [List.take_add_one, hx]; rfl
    have vn : (v + 1).toInt = ((k' + 1 : Nat) : Int) := by rw [i_add j1 (show (1 : Int32).toInt = 1 by decide) (by omega)]; omega
    refine qv_if (fun z1 => ?_) (fun z1 => ?_)
    · have hx1 := (of3 okx.1).mp z1
      refine n_getF hb (by decide) (nv_ald hb (by decide) (by decide) (fun _ => ?_))
      rw [ix_of hgp, up2_self]
      refine n_getF hb (by decide) (nv_ald hb (by decide) (by decide) (fun _ => ?_))
      rw [ix_of (g5 hg (by omega) j1 (by omega)), a47']
      refine nv_astI hb (by decide) (by decide) (fun _ => ?_)
      rw [ix_of hgp]
      refine ha _ _ _ ⟨rfl, w ||| ((1 : Int32) <<< (x.2 &&& 31)), k' + 1, ?_, vn, hlt, ?_, fun y => absurd e0 y⟩
      · funext j q
        unfold up2
        by_cases z : j = 48 ∧ q = g + 1
        · rw [if_pos z, if_pos z]
        · rw [if_neg z, if_neg z, if_neg z]
      · refine KnR_congr (KnR_or j3 (KnR_1 (okx.2 hx1))) (fun j _ => ?_)
        unfold mkKn
        rw [etk, List.any_append]
        have : isV j x = (ix x.2 == j) := by unfold isV; rw [hx1]; rfl
        simp [this, Bool.or_assoc]
    · have hx1 : ¬ x.1 = 1 := fun y => z1 ((of3 okx.1).mpr y)
      refine ha _ _ _ ⟨rfl, w, k' + 1, rfl, vn, hlt, ?_, fun y => absurd e0 y⟩
      refine KnR_congr j3 (fun j _ => ?_)
      unfold mkKn
      rw [etk, List.any_append]
      have : isV j x = false := by unfold isV; rw [beq_eq_false_iff_ne.mpr hx1]; rfl
      simp [this]
  · have e1 : kd = 1 := by omega
    rw [e1]
    refine qv_if (fun z => absurd z (by decide)) (fun _ => q_bit ?_)
    refine h w ?_
    rw [if_neg e0]
    rw [j4 e0] at j3
    exact KnR_congr j3 (fun j _ => by unfold mkKn; simp)
/-- the arguments and ')' -/
def tzA (tp : Nat → Int32) (n c i : Nat) : Option (List QA × Nat) := (taA tp n (c - 1) i).bind fun s => if byA tp n s.2 = 41 then some (s.1, s.2 + 1) else none
theorem nr_tmLoop {gv r : Int32} (hb : MB b) (hR : RDm tp n fi ar) (hg : gv.toInt = (g : Int)) (hg1 : g < 10) (h45 : ar 45 g = r) (hcr : ar 4 (ix r) = co t) (hc : (co t).toInt = (c : Int)) (hc4 : 1 ≤ c ∧ c ≤ 4) (h44 : ar 44 g = Int32.ofNat kd) (hkd : kd ≤ 1) (hk : KnR (ar 48 g) kn) (hi : (fi 41).toInt = (i : Int)) (hin : i ≤ n)
    (h : ∀ fi' ar' L j, tzA tp n c i = some (L, j) → j ≤ n → Fw fi fi' → Wq g ar ar' → (fi' 41).toInt = (j : Int) → AgM g L ar' → (∀ x, x ∈ L → argOk x) → ar' 44 g = ar 44 g → ar' 45 g = r → KnR (ar' 48 (g + 1)) (if kd = 0 then mkKn kn L else kn) → QI 1 (mS b fi' ar') → QI' 1 (mS b fi' ar'))
    (hN : tzA tp n c i = none → ∀ fi' ar', Fw fi fi' → Wq g ar ar' → QI 0 (mS b fi' ar') → QI' 0 (mS b fi' ar')) : w_tmLoop (some b.o) gv (mS b fi ar) QI X → w_tmLoop (some b.o) gv (mS b fi ar) QI' X' := by
  have hgp : (gv + 1).toInt = ((g + 1 : Nat) : Int) := by rw [i_add hg (show (1 : Int32).toInt = 1 by decide) (by omega)]; omega
  unfold w_tmLoop
  refine n_loopV (b := b) (fun (v : Int32 × Int32) fi' ar' => Fw fi fi' ∧ Wq g ar ar' ∧ ar' 44 g = ar 44 g ∧ ar' 45 g = r ∧ ∃ (L : List QA) (i' : Nat), v.1.toInt = (L.length : Int) ∧ L.length ≤ c ∧ (fi' 41).toInt = (i' : Int) ∧ i' ≤ n ∧ AgM g L ar' ∧ (∀ x, x ∈ L → argOk x) ∧ ((v.2 = 0 ∧ blA tp n i' = i' ∧ tzA tp n c i = if L.length = c ∧ byA tp n i' = 41 then some (L, i' + 1) else none) ∨ (v.2 = 1 ∧ tzA tp n c i = if L.length = c then none else ((taA tp n (c - 1 - L.length) i').map fun s => (L ++ s.1, s.2)).bind fun s => if byA tp n s.2 = 41 then some (s.1, s.2 + 1) else none)))
    ⟨Fw_rf, Wq_rf, rfl, h45, [], i, by decide, Nat.zero_le _, hi, hin, fun k x hx => by simp at hx, fun x hx => absurd hx List.not_mem_nil, Or.inr ⟨rfl, ?_⟩⟩ (fun v fi' ar' again again' ⟨hF, hW, w44, w45, L, i', k1, k2, k3, k4, k5, k6, k7⟩ ha => ?_)
  · rw [if_neg (show ¬ ([] : List QA).length = c by show ¬ 0 = c; omega)]
    show _ = ((taA tp n (c - 1) i).map fun s => ([] ++ s.1, s.2)).bind _
    unfold tzA
    cases taA tp n (c - 1) i <;> rfl
  have hR' : RDm tp n fi' ar' := RDm_Wq (RDm_Fw hR hF) hW
  have e4 : ar' 4 = ar 4 := hW.1 4 (by decide)
  have wr0 : tzA tp n c i = none → ∀ (f2 : Nat → Int32) (a2 : Nat → Nat → Int32), Fw fi' f2 → Wq g ar' a2 → ∀ w, wRecv (mS b f2 a2) 12 (some b.o) (w_X12_wrong (some b.o) w (mS b f2 a2) (fun v9 x8 => wBit v9 (QI v9 x8)) X) → wRecv (mS b f2 a2) 12 (some b.o) (w_X12_wrong (some b.o) w (mS b f2 a2) (fun v9 x8 => wBit v9 (QI' v9 x8)) X') := fun e f2 a2 hF2 hW2 w => nr_wr hb (fun f3 hF3 => hN e f3 a2 (Fw_tr hF (Fw_tr hF2 hF3)) (Wq_tr hW hW2))
  rcases k7 with ⟨e2, ebl, k7⟩ | ⟨e2, k7⟩
  · -- the end
    rw [e2]
    refine qv_if (fun _ => ?_) (fun z => absurd rfl z)
    refine q_recv (nr_blanks hb hR' k3 k4 (fun w hw => nv_getI hb ?_))
    rw [ebl] at hw
    have hF2 : Fw fi' (va_up fi' 41 w) := Fw_up Fw_rf (by decide)
    have e41 : (va_up fi' 41 w 41).toInt = (i' : Int) := by rw [va_up_self]; exact hw
    generalize va_up fi' 41 w = f2 at hF2 e41 ⊢
    have hR2 := RDm_Fw hR' hF2
    refine q_recv (nr_byte hb hR2 e41 ?_)
    dsimp only [wJoin]
    refine qv_if (fun z => ?_) (fun z => nv_getI hb (wr0 (by rw [k7, if_neg (fun y => z y.2)]) f2 ar' hF2 Wq_rf _))
    have hlt := byA_in z (by decide)
    refine n_getF hb (by decide) (n_getF hb (by decide) (nv_ald hb (by decide) (by decide) (fun _ => ?_)))
    rw [ix_of hg, w45]
    refine nv_ald hb (by decide) (by decide) (fun _ => ?_)
    rw [e4, hcr]
    refine qv_if (fun z2 => ?_) (fun z2 => nv_getI hb (wr0 (by rw [k7, if_neg (fun y => z2 ?_)]; simp only [i32]; have := y.1; omega) f2 ar' hF2 Wq_rf _))
    simp only [i32] at z2
    have eL : L.length = c := by omega
    rw [if_pos ⟨eL, z⟩] at k7
    refine nv_getI hb (nv_putI hb ?_)
    refine n_getF hb (by decide) (n_getF hb (by decide) (nv_ald hb (by decide) (by decide) (fun _ => ?_)))
    rw [ix_of hg]
    refine nv_astI hb (by decide) (by decide) (fun _ => ?_)
    rw [ix_of hgp]
    have k48 : KnR (ar' 48 g) kn := by rw [hW.2.2.2 g (by omega)]; exact hk
    have hn4 := hR.2.1
    refine nr_tmKn (L := L) (kd := kd) (kn := kn) hb hg hg1 k1 (by omega) ?_ k6 ?_ hkd (by rw [up2_self]; exact k48) (fun u hu => ?_)
    · intro k x hx
      obtain ⟨a1, a2⟩ := k5 k x hx
      exact ⟨(if_neg (fun y => absurd y.1 (by decide))).trans a1, (if_neg (fun y => absurd y.1 (by decide))).trans a2⟩
    · exact (if_neg (fun y => absurd y.1 (by decide))).trans (w44.trans h44)
    · have ea : up2 (up2 ar' 48 (g + 1) (ar' 48 g)) 48 (g + 1) u = up2 ar' 48 (g + 1) u := by
        funext j q
        unfold up2
        by_cases z : j = 48 ∧ q = g + 1
        · rw [if_pos z, if_pos z]
        · rw [if_neg z, if_neg z, if_neg z]
      rw [ea]
      refine h _ _ L (i' + 1) k7 hlt (Fw_tr hF (Fw_up hF2 (by decide))) (Wq_tr hW Wq_48) ?_ ?_ k6 ?_ ?_ ?_
      · rw [va_up_self, i_add e41 (show (1 : Int32).toInt = 1 by decide) (by omega)]; omega
      · intro k x hx
        obtain ⟨a1, a2⟩ := k5 k x hx
        exact ⟨(if_neg (fun y => absurd y.1 (by decide))).trans a1, (if_neg (fun y => absurd y.1 (by decide))).trans a2⟩
      · exact (if_neg (fun y => absurd y.1 (by decide))).trans w44
      · exact (if_neg (fun y => absurd y.1 (by decide))).trans w45
      · rw [up2_self]; exact hu
  · -- one more
    rw [e2]
    refine qv_if (fun z => absurd z (by decide)) (fun _ => ?_)
    refine q_recv (nr_blanks hb hR' k3 k4 (fun w hw => ?_))
    have hF2 : Fw fi' (va_up fi' 41 w) := Fw_up Fw_rf (by decide)
    have e41 : (va_up fi' 41 w 41).toInt = (blA tp n i' : Int) := by rw [va_up_self]; exact hw
    generalize va_up fi' 41 w = f2 at hF2 e41 ⊢
    have hR2 := RDm_Fw hR' hF2
    have hbn := blA_n (tp := tp) k4
    refine n_getF hb (by decide) (n_getF hb (by decide) (nv_ald hb (by decide) (by decide) (fun _ => ?_)))
    rw [ix_of hg, w45]
    refine nv_ald hb (by decide) (by decide) (fun _ => ?_)
    rw [e4, hcr]
    have eqc : v.1 = co t ↔ L.length = c := ⟨fun y => by rw [y, hc] at k1; omega, fun y => i_ext (by rw [k1, hc, y])⟩
    refine qv_if (fun z => nv_getI hb (wr0 (by rw [k7, if_pos (eqc.mp z)]) f2 ar' hF2 Wq_rf _)) (fun z => nv_getI hb ?_)
    have hne : ¬ L.length = c := fun y => z (eqc.mpr y)
    rw [if_neg hne] at k7
    have hlt : L.length < c := by omega
    refine q_recv (nr_arg (any := true) ⟨fun y => absurd y (by decide), fun y => by cases y⟩ hb hR2 e41 hbn (fun f3 x j ex hF3 e3 => ?_) (fun ex f3 hF3 => ?_))
    · rw [blA_idem k4] at ex
      have ok := (agA_ok ex).1
      have hj := (agA_le hbn ex).2
      rw [ix_of (g5 hg (by omega) k1 (by omega))]
      have hW3 : Wq g ar' (putQ ar' (5 * g + L.length) x) := Wq_put (by omega) (by omega)
      have hR3 : RDm tp n f3 (putQ ar' (5 * g + L.length) x) := RDm_Wq (RDm_Fw hR2 hF3) hW3
      refine qv_if (fun z => absurd z (by decide)) (fun _ => ?_)
      have ag3 : AgM g (L ++ [x]) (putQ ar' (5 * g + L.length) x) := fun k y hy => by
        by_cases hk3 : k < L.length
        · rw [List.getElem?_append_left hk3] at hy
          obtain ⟨q1, q2⟩ := putQ_ne (ar := ar') (x := x) (p := 5 * g + L.length) (q := 5 * g + k) (by omega)
          rw [q1, q2]; exact k5 k y hy
        · have e : k = L.length := by
            have := (List.getElem?_eq_some_iff.mp hy).1
            rw [List.length_append, List.length_singleton] at this; omega
          rw [e] at hy ⊢
          rw [List.getElem?_append_right (Nat.le_refl _), Nat.sub_self] at hy
          cases hy
          exact ⟨putQ_46, putQ_47⟩
      have ok3 : ∀ y, y ∈ L ++ [x] → argOk y := fun y hy => by
        rcases List.mem_append.mp hy with y1 | y1
        · exact k6 y y1
        · rw [List.mem_singleton.mp y1]; exact ok
      have w44' : putQ ar' (5 * g + L.length) x 44 g = ar 44 g := by rw [putQ_o (by decide) (by decide)]; exact w44
      have w45' : putQ ar' (5 * g + L.length) x 45 g = r := by rw [putQ_o (by decide) (by decide)]; exact w45
      have len3 : (v.1 + 1).toInt = ((L ++ [x]).length : Int) := by rw [i_add k1 (show (1 : Int32).toInt = 1 by decide) (by omega), List.length_append, List.length_singleton]; omega
      -- what the spec says
      have sp : tzA tp n c i = if L.length + 1 = c then (if byA tp n (blA tp n j) = 41 then some (L ++ [x], blA tp n j + 1) else none) else (if byA tp n (blA tp n j) = 44 then ((taA tp n (c - 1 - (L.length + 1)) (blA tp n j + 1)).map fun s => ((L ++ [x]) ++ s.1, s.2)).bind (fun s => if byA tp n s.2 = 41 then some (s.1, s.2 + 1) else none) else none) := by
        rw [k7]
        by_cases e1 : L.length + 1 = c
        · rw [if_pos e1, show c - 1 - L.length = 0 by omega]
          show (((agA tp n true (blA tp n i')).map fun r => ([r.1], blA tp n r.2)).map _).bind _ = _
          rw [ex]; rfl
        · rw [if_neg e1]
          obtain ⟨m, hm2⟩ : ∃ m, c - 1 - L.length = m + 1 := ⟨c - 1 - L.length - 1, by omega⟩
          rw [hm2, show c - 1 - (L.length + 1) = m by omega]
          show (((agA tp n true (blA tp n i')).bind fun r => if byA tp n (blA tp n r.2) = 44 then (taA tp n m (blA tp n r.2 + 1)).map fun s => (r.1 :: s.1, s.2) else none).map _).bind _ = _
          rw [ex]
          show ((if byA tp n (blA tp n j) = 44 then (taA tp n m (blA tp n j + 1)).map fun s => (x :: s.1, s.2) else none).map _).bind _ = _
          split
          · rw [Option.map_map]
            congr 1
            congr 1
            funext s
            show (L ++ (x :: s.1), s.2) = (L ++ [x] ++ s.1, s.2)
            rw [List.append_assoc]; rfl
          · rfl
      refine q_recv (nr_take (by decide) hb hR3 e3 hj (fun w2 e44 hlt2 hw2 => ?_) (fun w2 e44 hw2 => ?_))
      · refine ha _ _ _ ⟨Fw_tr hF (Fw_tr hF2 (Fw_up hF3 (by decide))), Wq_tr hW hW3, w44', w45', L ++ [x], blA tp n j + 1, len3, by rw [List.length_append, List.length_singleton]; omega, by rw [va_up_self]; exact hw2, hlt2, ag3, ok3, Or.inr ⟨rfl, ?_⟩⟩
        rw [sp, List.length_append, List.length_singleton, if_neg (show ¬ byA tp n (blA tp n j) = 41 by rw [e44]; decide), if_pos e44]
      · refine ha _ _ _ ⟨Fw_tr hF (Fw_tr hF2 (Fw_up hF3 (by decide))), Wq_tr hW hW3, w44', w45', L ++ [x], blA tp n j, len3, by rw [List.length_append, List.length_singleton]; omega, by rw [va_up_self]; exact hw2, blA_n hj, ag3, ok3, Or.inl ⟨rfl, blA_idem hj, ?_⟩⟩
        rw [sp, List.length_append, List.length_singleton, if_neg e44]
        by_cases e1 : L.length + 1 = c
        · rw [if_pos e1]
          by_cases e5 : byA tp n (blA tp n j) = 41
          · rw [if_pos e5, if_pos ⟨e1, e5⟩]
          · rw [if_neg e5, if_neg (fun y => e5 y.2)]
        · rw [if_neg e1, if_neg (fun y => e1 y.1)]
    · rw [blA_idem k4] at ex
      refine qv_if (fun _ => ?_) (fun z => absurd rfl z)
      refine wr0 ?_ f3 ar' (Fw_tr hF2 hF3) Wq_rf _
      rw [k7]
      have : taA tp n (c - 1 - L.length) i' = none := by
        cases hm2 : c - 1 - L.length with
        | zero =>
          show (agA tp n true (blA tp n i')).map _ = none
          rw [ex]; rfl
        | succ m =>
          show (agA tp n true (blA tp n i')).bind _ = none
          rw [ex]; rfl
      rw [this]; rfl
end NR4
