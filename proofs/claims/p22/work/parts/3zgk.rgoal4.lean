set_option linter.unusedVariables false
set_option linter.unusedSimpArgs false
/-! the reference: a sign's goal, a question -/
section NR6
variable {b : MT} {fi fi' : Nat → Int32} {ar ar' ar'' : Nat → Nat → Int32} {tp : Nat → Int32} {n i j k g t c kd : Nat} {tn : Int32} {co : Nat → Int32} {kn : Nat → Bool} {x y : QA} {L : List QA} {X X' : String → HS → Prop} {Q Q' : HS → Prop} {QI QI' : Int32 → HS → Prop}
theorem AgM_snoc {p : Nat} (h : AgM g L ar) (hp : p = 5 * g + L.length) : AgM g (L ++ [y]) (putQ ar p y) := fun k z hz => by
  by_cases hk3 : k < L.length
  · rw [List.getElem?_append_left hk3] at hz
    obtain ⟨q1, q2⟩ := putQ_ne (ar := ar) (x := y) (p := p) (q := 5 * g + k) (by omega)
    rw [q1, q2]; exact h k z hz
  · have e : k = L.length := by
      have := (List.getElem?_eq_some_iff.mp hz).1
      rw [List.length_append, List.length_singleton] at this; omega
    rw [e] at hz ⊢
    rw [List.getElem?_append_right (Nat.le_refl _), Nat.sub_self] at hz
    cases hz
    rw [← hp]
    exact ⟨putQ_46, putQ_47⟩
theorem AgM_o {j : Nat} {q : Nat} {v : Int32} (h : AgM g L ar) (h1 : j ≠ 46) (h2 : j ≠ 47) : AgM g L (up2 ar j q v) := fun k z hz => by
  obtain ⟨a1, a2⟩ := h k z hz
  exact ⟨(if_neg (fun y => h1 y.1.symm)).trans a1, (if_neg (fun y => h2 y.1.symm)).trans a2⟩
theorem nr_omEnd {gv v : Int32} (hb : MB b) (hR : RDm tp n fi ar) (hg : gv.toInt = (g : Int)) (hg1 : g < 10) (hx : AgM g [x] ar) (hk : KnR (ar 48 g) kn) (hi : (fi 41).toInt = (i : Int)) (hlt : i < n)
    (h : ∀ fi' ar' y j, kaA tp n kn (i + 1) = some (y, j) → j ≤ n → Fw fi fi' → Wq g ar ar' → (fi' 41).toInt = (j : Int) → ar' 44 g = v → AgM g [x, y] ar' → KnR (ar' 48 g) kn → ar' 48 (g + 1) = ar 48 (g + 1) → argOk y → y.1 ≠ 2 → QI 1 (mS b fi' ar') → QI' 1 (mS b fi' ar'))
    (hN : kaA tp n kn (i + 1) = none → ∀ fi' ar', Fw fi fi' → Wq g ar ar' → QI 0 (mS b fi' ar') → QI' 0 (mS b fi' ar')) : w_omEnd (some b.o) gv v (some (b.a 44)) (mS b fi ar) QI X → w_omEnd (some b.o) gv v (some (b.a 44)) (mS b fi ar) QI' X' := by
  have hn4 := hR.2.1
  unfold w_omEnd
  refine nv_astI hb (by decide) (by decide) (fun _ => nv_getI hb (nv_putI hb ?_))
  rw [ix_of hg]
  have hW : Wq g ar (up2 ar 44 g v) := Wq_44
  have a44 : up2 ar 44 g v 44 g = v := up2_self _ _ _ _
  have ag : AgM g [x] (up2 ar 44 g v) := AgM_o hx (by decide) (by decide)
  have a48 : up2 ar 44 g v 48 = ar 48 := up2_row _ _ _ (by decide)
  generalize up2 ar 44 g v = ar1 at hW a44 ag a48 ⊢
  have hF : Fw fi (va_up fi 41 (fi 41 + 1)) := Fw_up Fw_rf (by decide)
  have e41 : (va_up fi 41 (fi 41 + 1) 41).toInt = ((i + 1 : Nat) : Int) := by rw [va_up_self, i_add hi (show (1 : Int32).toInt = 1 by decide) (by omega)]; omega
  generalize va_up fi 41 (fi 41 + 1) = f1 at hF e41 ⊢
  refine q_recv (nr_known (kp := 1) hb (RDm_Wq (RDm_Fw hR hF) hW) hg (g5 hg (by omega) (by decide) (by omega)) (by decide) (by rw [a48]; exact hk) e41 hlt (fun f2 y j e hj hF2 i2 ok y2 kb => q_bit ?_) (fun e f2 ar2 hF2 hW2 => q_bit (hN e f2 ar2 (Fw_tr hF hF2) (Wq_tr hW hW2))))
  refine h f2 _ y j e hj (Fw_tr hF hF2) (Wq_tr hW (Wq_put (by omega) (by omega))) i2 ?_ (AgM_snoc ag rfl) ?_ ?_ ok y2
  · rw [putQ_o (by decide) (by decide)]; exact a44
  · rw [putQ_o (by decide) (by decide), a48]; exact hk
  · rw [putQ_o (by decide) (by decide), a48]
theorem nr_omSet {gv v : Int32} {l : QA} (hb : MB b) (hR : RDm tp n fi ar) (hg : gv.toInt = (g : Int)) (hg1 : g < 10) (hx : AgM g [x, l] ar) (hok : argOk x) (hx1 : x.1 = 1) (hk : KnR (ar 48 g) kn) (hk1 : KnR (ar 48 (g + 1)) kn) (hi : (fi 41).toInt = (i : Int)) (hlt : i < n)
    (h : ∀ fi' ar' y j, kaA tp n kn (i + 1) = some (y, j) → j ≤ n → Fw fi fi' → Wq g ar ar' → (fi' 41).toInt = (j : Int) → ar' 44 g = v → AgM g [x, l, y] ar' → KnR (ar' 48 g) kn → KnR (ar' 48 (g + 1)) (va_up kn (ix x.2) true) → argOk y → y.1 ≠ 2 → QI 1 (mS b fi' ar') → QI' 1 (mS b fi' ar'))
    (hN : kaA tp n kn (i + 1) = none → ∀ fi' ar', Fw fi fi' → Wq g ar ar' → QI 0 (mS b fi' ar') → QI' 0 (mS b fi' ar')) : w_omSet (some b.o) gv v (some (b.a 44)) (mS b fi ar) QI X → w_omSet (some b.o) gv v (some (b.a 44)) (mS b fi ar) QI' X' := by
  have hn4 := hR.2.1
  have hgp : (gv + 1).toInt = ((g + 1 : Nat) : Int) := by rw [i_add hg (show (1 : Int32).toInt = 1 by decide) (by omega)]; omega
  unfold w_omSet
  refine nv_astI hb (by decide) (by decide) (fun _ => nv_getI hb (nv_putI hb ?_))
  rw [ix_of hg]
  have hW : Wq g ar (up2 ar 44 g v) := Wq_44
  have a44 : up2 ar 44 g v 44 g = v := up2_self _ _ _ _
  have ag : AgM g [x, l] (up2 ar 44 g v) := AgM_o hx (by decide) (by decide)
  have a48 : up2 ar 44 g v 48 = ar 48 := up2_row _ _ _ (by decide)
  generalize up2 ar 44 g v = ar1 at hW a44 ag a48 ⊢
  have hF : Fw fi (va_up fi 41 (fi 41 + 1)) := Fw_up Fw_rf (by decide)
  have e41 : (va_up fi 41 (fi 41 + 1) 41).toInt = ((i + 1 : Nat) : Int) := by rw [va_up_self, i_add hi (show (1 : Int32).toInt = 1 by decide) (by omega)]; omega
  generalize va_up fi 41 (fi 41 + 1) = f1 at hF e41 ⊢
  refine q_recv (nr_known (kp := 2) hb (RDm_Wq (RDm_Fw hR hF) hW) hg (g5 hg (by omega) (by decide) (by omega)) (by decide) (by rw [a48]; exact hk) e41 hlt (fun f2 y j e hj hF2 i2 ok y2 kb => ?_) (fun e f2 ar2 hF2 hW2 => ?_))
  · refine qv_if (fun z => absurd z (by decide)) (fun _ => ?_)
    have ag3 : AgM g [x, l, y] (putQ ar1 (5 * g + 2) y) := AgM_snoc ag rfl
    refine n_getF hb (by decide) (nv_ald hb (by decide) (by decide) (fun _ => ?_))
    rw [ix_of hgp]
    refine n_getF hb (by decide) (nv_ald hb (by decide) (by decide) (fun _ => ?_))
    have p0 : ((5 : Int32) * gv).toInt = ((5 * g + 0 : Nat) : Int) := by
      rw [i_mul (show (5 : Int32).toInt = 5 by decide) hg (by omega)]; omega
    rw [ix_of p0, (ag3 0 x rfl).2]
    refine nv_astI hb (by decide) (by decide) (fun _ => q_bit ?_)
    rw [ix_of hgp]
    refine h f2 _ y j e hj (Fw_tr hF hF2) (Wq_tr hW (Wq_tr (Wq_put (by omega) (by omega)) Wq_48)) i2 ?_ (AgM_o ag3 (by decide) (by decide)) ?_ ?_ ok y2
    · exact (if_neg (fun z => absurd z.1 (by decide))).trans (by rw [putQ_o (by decide) (by decide)]; exact a44)
    · have : up2 (putQ ar1 (5 * g + 2) y) 48 (g + 1) (putQ ar1 (5 * g + 2) y 48 (g + 1) ||| (1 : Int32) <<< (x.2 &&& 31)) 48 g = ar 48 g := (if_neg (fun z => by have := z.2; omega)).trans (by rw [putQ_o (by decide) (by decide), a48])
      rw [this]; exact hk
    · rw [up2_self, putQ_o (by decide) (by decide), a48]
      refine KnR_congr (KnR_or hk1 (KnR_1 (hok.2 hx1))) (fun j _ => ?_)
      by_cases e : j = ix x.2
      · rw [e, va_up_self]; simp
      · rw [va_up_ne _ _ e, beq_eq_false_iff_ne.mpr (Ne.symm e), Bool.or_false]
  · refine qv_if (fun _ => q_bit ?_) (fun z => absurd rfl z)
    exact hN e f2 ar2 (Fw_tr hF hF2) (Wq_tr hW hW2)
theorem nr_ogoal {gv : Int32} (hb : MB b) (hR : RDm tp n fi ar) (hg : gv.toInt = (g : Int)) (hg1 : g < 10) (hk : KnR (ar 48 g) kn) (hi : (fi 41).toInt = (i : Int)) (hin : i ≤ n) (hbl : blA tp n i = i)
    (h : ∀ fi' ar' G kn' j, sgA tp n kn i = some ((G, kn'), j) → j ≤ n → Fw fi fi' → Wq g ar ar' → (fi' 41).toInt = (j : Int) → GoM g G ar' → (∀ x, x ∈ G.ag → argOk x) → KnR (ar' 48 (g + 1)) kn' → 2 ≤ G.kd → QI 1 (mS b fi' ar') → QI' 1 (mS b fi' ar'))
    (hN : sgA tp n kn i = none → ∀ fi' ar', Fw fi fi' → Wq g ar ar' → QI 0 (mS b fi' ar') → QI' 0 (mS b fi' ar')) : w_X12_otherGoal (some b.o) gv (mS b fi ar) QI X → w_X12_otherGoal (some b.o) gv (mS b fi ar) QI' X' := by
  have hn4 := hR.2.1
  have hgp : (gv + 1).toInt = ((g + 1 : Nat) : Int) := by rw [i_add hg (show (1 : Int32).toInt = 1 by decide) (by omega)]; omega
  have p0 : ((5 : Int32) * gv).toInt = ((5 * g + 0 : Nat) : Int) := by
    rw [i_mul (show (5 : Int32).toInt = 5 by decide) hg (by omega)]; omega
  rw [w_om, w_om]
  refine nv_getI hb (q_recv (nr_arg (any := false) ⟨fun _ => rfl, fun _ => rfl⟩ hb hR hi hin (fun f1 x j ex hF1 i1 => ?_) (fun ex f1 hF1 => ?_)))
  · rw [hbl] at ex
    have ok := agA_ok ex
    have hx2 := ok.2 rfl
    have hj := (agA_le hin ex).2
    rw [ix_of p0]
    refine qv_if (fun z => absurd z (by decide)) (fun _ => ?_)
    have hW1 : Wq g ar (putQ ar (5 * g + 0) x) := Wq_put (by omega) (by omega)
    have ag1 : AgM g [x] (putQ ar (5 * g + 0) x) := AgM_snoc (L := []) (fun k z hz => by simp at hz) rfl
    have a48 : putQ ar (5 * g + 0) x 48 = ar 48 := putQ_o (by decide) (by decide)
    generalize putQ ar (5 * g + 0) x = ar1 at hW1 ag1 a48 ⊢
    refine n_getF hb (by decide) (n_getF hb (by decide) (nv_ald hb (by decide) (by decide) (fun _ => ?_)))
    rw [ix_of hg]
    refine nv_astI hb (by decide) (by decide) (fun _ => ?_)
    rw [ix_of hgp]
    have hW2 : Wq g ar (up2 ar1 48 (g + 1) (ar1 48 g)) := Wq_tr hW1 Wq_48
    have ag2 : AgM g [x] (up2 ar1 48 (g + 1) (ar1 48 g)) := AgM_o ag1 (by decide) (by decide)
    have k48 : KnR (up2 ar1 48 (g + 1) (ar1 48 g) 48 g) kn := by
      rw [show up2 ar1 48 (g + 1) (ar1 48 g) 48 g = ar1 48 g from if_neg (fun z => by have := z.2; omega), a48]; exact hk
    have k48' : KnR (up2 ar1 48 (g + 1) (ar1 48 g) 48 (g + 1)) kn := by rw [up2_self, a48]; exact hk
    generalize up2 ar1 48 (g + 1) (ar1 48 g) = ar2 at hW2 ag2 k48 k48' ⊢
    have hR2 : RDm tp n f1 ar2 := RDm_Wq (RDm_Fw hR hF1) hW2
    refine q_recv (nr_blanks hb hR2 i1 hj (fun w hw => nv_getI hb ?_))
    have hF3 : Fw fi (va_up f1 41 w) := Fw_up hF1 (by decide)
    have e41 : (va_up f1 41 w 41).toInt = (blA tp n j : Int) := by rw [va_up_self]; exact hw
    generalize va_up f1 41 w = f3 at hF3 e41 ⊢
    have hR3 : RDm tp n f3 ar2 := RDm_Wq (RDm_Fw hR hF3) hW2
    have hbn := blA_n (tp := tp) hj
    have a46 : ar2 46 (5 * g + 0) = Int32.ofNat x.1 := (ag2 0 x rfl).1
    have a47 : ar2 47 (5 * g + 0) = x.2 := (ag2 0 x rfl).2
    refine q_recv (nr_byte hb hR3 e41 ?_)
    -- a comparison
    have cmp : ∀ v1, ¬ (byA tp n (blA tp n j) = 58 ∧ x.1 = 1) → w_omC (some b.o) gv v1 (byA tp n (blA tp n j)) (mS b f3 ar2) QI X → w_omC (some b.o) gv v1 (byA tp n (blA tp n j)) (mS b f3 ar2) QI' X' := fun v1 hno => by
      have es : sgA tp n kn i = if (byA tp n (blA tp n j) = 60 ∨ byA tp n (blA tp n j) = 61 ∨ byA tp n (blA tp n j) = 35) ∧ knB kn x = true then (kaA tp n kn (blA tp n j + 1)).map fun r => (((if byA tp n (blA tp n j) = 60 then 2 else if byA tp n (blA tp n j) = 61 then 3 else 4, 0, [x, r.1], kn), kn), r.2) else none := by
        unfold sgA
        rw [ex]
        exact if_neg hno
      have one : (byA tp n (blA tp n j) = 60 ∨ byA tp n (blA tp n j) = 61 ∨ byA tp n (blA tp n j) = 35) → w_omCmp (some b.o) gv v1 (byA tp n (blA tp n j)) (mS b f3 ar2) QI X → w_omCmp (some b.o) gv v1 (byA tp n (blA tp n j)) (mS b f3 ar2) QI' X' := fun hc => by
        have hlt : blA tp n j < n := by
          rcases hc with hc | hc | hc
          · exact byA_in hc (by decide)
          · exact byA_in hc (by decide)
          · exact byA_in hc (by decide)
        unfold w_omCmp
        refine q_recv (nr_isKnown (x := x) (kn := kn) hb ok.1 (by rw [ix_of p0]; exact a46) (by rw [ix_of p0]; exact a47) (by rw [ix_of hg]; exact k48) ?_)
        cases hkb : knB kn x with
        | false =>
          refine qv_if (fun _ => nr_wr hb (fun f4 hF4 => hN ?_ f4 ar2 (Fw_tr hF3 hF4) hW2)) (fun z => absurd rfl z)
          rw [es, hkb, if_neg (fun y => by cases y.2)]
        | true =>
          refine qv_if (fun z => absurd z (by decide)) (fun _ => n_getF hb (by decide) ?_)
          have fin : ∀ (kd : Nat) (v : Int32), v = Int32.ofNat kd → 2 ≤ kd → kd = (if byA tp n (blA tp n j) = 60 then 2 else if byA tp n (blA tp n j) = 61 then 3 else 4) → w_omEnd (some b.o) gv v (some (b.a 44)) (mS b f3 ar2) QI X → w_omEnd (some b.o) gv v (some (b.a 44)) (mS b f3 ar2) QI' X' := fun kd v ev h2 ekd => by
            refine nr_omEnd (x := x) (kn := kn) hb hR3 hg hg1 ag2 k48 e41 hlt (fun f4 ar4 y j4 e4 hj4 hF4 hW4 i4 b44 ag4 k4 k4' ok4 y2 => ?_) (fun e4 f4 ar4 hF4 hW4 => hN (by rw [es, if_pos ⟨hc, hkb⟩, e4]; rfl) f4 ar4 (Fw_tr hF3 hF4) (Wq_tr hW2 hW4))
            refine h f4 ar4 (kd, 0, [x, y], kn) kn j4 (by rw [es, if_pos ⟨hc, hkb⟩, e4, ekd]; rfl) hj4 (Fw_tr hF3 hF4) (Wq_tr hW2 hW4) i4 ⟨by rw [b44, ev], fun z => by exfalso; have z : kd ≤ 1 := z; omega, ag4, k4⟩ (fun z hz => ?_) (by rw [k4']; exact k48') h2
            rcases List.mem_cons.mp hz with z1 | z1
            · rw [z1]; exact ok.1
            · rw [List.mem_singleton.mp z1]; exact ok4
          refine qv_if (fun z => fin 2 2 rfl (by omega) (by rw [if_pos z])) (fun z => qv_if (fun z2 => fin 3 3 rfl (by omega) (by rw [if_neg z, if_pos z2])) (fun z2 => fin 4 4 rfl (by omega) (by rw [if_neg z, if_neg z2])))
      unfold w_omC
      refine qv_if (fun z => one (Or.inl z)) (fun z => qv_if (fun z2 => one (Or.inr (Or.inl z2))) (fun z2 => qv_if (fun z3 => one (Or.inr (Or.inr z3))) (fun z3 => ?_)))
      refine nv_getI hb (nr_wr hb (fun f4 hF4 => hN ?_ f4 ar2 (Fw_tr hF3 hF4) hW2))
      rw [es, if_neg (fun y => y.1.elim z (fun y => y.elim z2 z3))]
    refine qv_if (fun z => ?_) (fun z => cmp _ (fun y => z y.1))
    refine n_getF hb (by decide) (nv_ald hb (by decide) (by decide) (fun _ => ?_))
    rw [ix_of p0, a46]
    refine qv_if (fun z2 => ?_) (fun z2 => cmp _ (fun y => z2 ((of3 ok.1.1).mpr y.2)))
    have hx1 := (of3 ok.1.1).mp z2
    have es : sgA tp n kn i = if knB kn x then none else (kaA tp n kn (blA tp n j + 1)).bind fun l => if byA tp n (blA tp n l.2) = 43 ∨ byA tp n (blA tp n l.2) = 45 ∨ byA tp n (blA tp n l.2) = 42 then (kaA tp n kn (blA tp n l.2 + 1)).map fun r => (((if byA tp n (blA tp n l.2) = 43 then 5 else if byA tp n (blA tp n l.2) = 45 then 6 else 7, 0, [x, l.1, r.1], kn), va_up kn (ix x.2) true), r.2) else none := by
      unfold sgA
      rw [ex]
      exact if_pos ⟨z, hx1⟩
    refine q_recv (nr_isKnown (x := x) (kn := kn) hb ok.1 (by rw [ix_of p0]; exact a46) (by rw [ix_of p0]; exact a47) (by rw [ix_of hg]; exact k48) ?_)
    cases hkb : knB kn x with
    | true =>
      refine qv_if (fun z => absurd z (by decide)) (fun _ => nr_wr hb (fun f4 hF4 => hN ?_ f4 ar2 (Fw_tr hF3 hF4) hW2))
      rw [es, hkb]; rfl
    | false =>
      rw [hkb, if_neg (by decide)] at es
      refine qv_if (fun _ => nv_getI hb (nv_putI hb ?_)) (fun z => absurd rfl z)
      have hlt58 := byA_in z (by decide)
      have hF4 : Fw fi (va_up f3 41 (f3 41 + 1)) := Fw_up hF3 (by decide)
      have e4 : (va_up f3 41 (f3 41 + 1) 41).toInt = ((blA tp n j + 1 : Nat) : Int) := by rw [va_up_self, i_add e41 (show (1 : Int32).toInt = 1 by decide) (by omega)]; omega
      generalize va_up f3 41 (f3 41 + 1) = f4 at hF4 e4 ⊢
      have hR4 : RDm tp n f4 ar2 := RDm_Wq (RDm_Fw hR hF4) hW2
      refine q_recv (nr_known (kp := 1) hb hR4 hg (g5 hg (by omega) (by decide) (by omega)) (by decide) k48 e4 hlt58 (fun f5 l j5 e5 hj5 hF5 i5 ok5 l2 kb5 => ?_) (fun e5 f5 ar5 hF5 hW5 => ?_))
      · rw [e5] at es
        have es : sgA tp n kn i = if byA tp n (blA tp n j5) = 43 ∨ byA tp n (blA tp n j5) = 45 ∨ byA tp n (blA tp n j5) = 42 then (kaA tp n kn (blA tp n j5 + 1)).map fun r => (((if byA tp n (blA tp n j5) = 43 then 5 else if byA tp n (blA tp n j5) = 45 then 6 else 7, 0, [x, l, r.1], kn), va_up kn (ix x.2) true), r.2) else none := es
        refine qv_if (fun z => absurd z (by decide)) (fun _ => ?_)
        have hW5 : Wq g ar (putQ ar2 (5 * g + 1) l) := Wq_tr hW2 (Wq_put (by omega) (by omega))
        have ag5 : AgM g [x, l] (putQ ar2 (5 * g + 1) l) := AgM_snoc ag2 rfl
        have b48 : putQ ar2 (5 * g + 1) l 48 = ar2 48 := putQ_o (by decide) (by decide)
        generalize putQ ar2 (5 * g + 1) l = ar5 at hW5 ag5 b48 ⊢
        have hF5' := Fw_tr hF4 hF5
        have hR5 : RDm tp n f5 ar5 := RDm_Wq (RDm_Fw hR hF5') hW5
        refine q_recv (nr_blanks hb hR5 i5 hj5 (fun w6 hw6 => nv_getI hb ?_))
        have hF6 : Fw fi (va_up f5 41 w6) := Fw_up hF5' (by decide)
        have e6 : (va_up f5 41 w6 41).toInt = (blA tp n j5 : Int) := by rw [va_up_self]; exact hw6
        generalize va_up f5 41 w6 = f6 at hF6 e6 ⊢
        have hR6 : RDm tp n f6 ar5 := RDm_Wq (RDm_Fw hR hF6) hW5
        refine q_recv (nr_byte hb hR6 e6 ?_)
        have one : (byA tp n (blA tp n j5) = 43 ∨ byA tp n (blA tp n j5) = 45 ∨ byA tp n (blA tp n j5) = 42) → w_omOp (some b.o) gv (byA tp n (blA tp n j5)) (mS b f6 ar5) QI X → w_omOp (some b.o) gv (byA tp n (blA tp n j5)) (mS b f6 ar5) QI' X' := fun hc => by
          have hlt : blA tp n j5 < n := by
            rcases hc with hc | hc | hc
            · exact byA_in hc (by decide)
            · exact byA_in hc (by decide)
            · exact byA_in hc (by decide)
          unfold w_omOp
          refine n_getF hb (by decide) ?_
          have fin : ∀ (kd : Nat) (v : Int32), v = Int32.ofNat kd → 2 ≤ kd → kd = (if byA tp n (blA tp n j5) = 43 then 5 else if byA tp n (blA tp n j5) = 45 then 6 else 7) → w_omSet (some b.o) gv v (some (b.a 44)) (mS b f6 ar5) QI X → w_omSet (some b.o) gv v (some (b.a 44)) (mS b f6 ar5) QI' X' := fun kd v ev h2 ekd => by
            refine nr_omSet (x := x) (l := l) (kn := kn) hb hR6 hg hg1 ag5 ok.1 hx1 (by rw [b48]; exact k48) (by rw [b48]; exact k48') e6 hlt (fun f7 ar7 y j7 e7 hj7 hF7 hW7 i7 b44 ag7 k7 k7' ok7 y2 => ?_) (fun e7 f7 ar7 hF7 hW7 => hN (by rw [es, if_pos hc, e7]; rfl) f7 ar7 (Fw_tr hF6 hF7) (Wq_tr hW5 hW7))
            refine h f7 ar7 (kd, 0, [x, l, y], kn) (va_up kn (ix x.2) true) j7 (by rw [es, if_pos hc, e7, ekd]; rfl) hj7 (Fw_tr hF6 hF7) (Wq_tr hW5 hW7) i7 ⟨by rw [b44, ev], fun z => by exfalso; have z : kd ≤ 1 := z; omega, ag7, k7⟩ (fun z hz => ?_) k7' h2
            rcases List.mem_cons.mp hz with z1 | hz
            · rw [z1]; exact ok.1
            · rcases List.mem_cons.mp hz with z1 | hz
              · rw [z1]; exact ok5
              · rw [List.mem_singleton.mp hz]; exact ok7
          refine qv_if (fun z => fin 5 5 rfl (by omega) (by rw [if_pos z])) (fun z => qv_if (fun z2 => fin 6 6 rfl (by omega) (by rw [if_neg z, if_pos z2])) (fun z2 => fin 7 7 rfl (by omega) (by rw [if_neg z, if_neg z2])))
        refine qv_if (fun z => one (Or.inl z)) (fun z => qv_if (fun z2 => one (Or.inr (Or.inl z2))) (fun z2 => qv_if (fun z3 => one (Or.inr (Or.inr z3))) (fun z3 => ?_)))
        refine nv_getI hb (nr_wr hb (fun f7 hF7 => hN ?_ f7 ar5 (Fw_tr hF6 hF7) hW5))
        rw [es, if_neg (fun y => y.elim z (fun y => y.elim z2 z3))]
      · refine qv_if (fun _ => q_bit ?_) (fun z => absurd rfl z)
        exact hN (by rw [es, e5]; rfl) f5 ar5 (Fw_tr hF4 hF5) (Wq_tr hW2 hW5)
  · rw [hbl] at ex
    refine qv_if (fun _ => nr_wr hb (fun f2 hF2 => hN ?_ f2 ar (Fw_tr hF1 hF2) Wq_rf)) (fun z => absurd rfl z)
    unfold sgA
    rw [ex]; rfl
end NR6
