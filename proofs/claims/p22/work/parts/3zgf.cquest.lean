set_option linter.unusedVariables false
set_option linter.unusedSimpArgs false
/-! the class: a question is read -/
/-- reading changes the reader and the goals alone -/
def RQs (r : Nat) (gl : Nat → Nat) (I I' : Nat → Nat → Int32) (F F' : Nat → Nat → Option Nat) (A A' : Nat → Nat → Nat → Int32) : Prop := ∀ x, x ≠ r → (∀ g, g < 10 → x ≠ gl g) → I' x = I x ∧ F' x = F x ∧ A' x = A x
section QR5
variable {b : CT} {I I' I'' : Nat → Nat → Int32} {F F' F'' : Nat → Nat → Option Nat} {A A' A'' : Nat → Nat → Nat → Int32} {E : Nat → Nat → Nat → Option Nat} {o r s q n i j k t : Nat} {d gl : Nat → Nat} {tn : Int32} {co : Nat → Int32} {kn : Nat → Bool} {tp : Nat → Int32} {X X' : String → HS → Prop} {Q Q' : HS → Prop} {G : QG}
theorem RQs_rf : RQs r gl I I F F A A := fun _ _ _ => ⟨rfl, rfl, rfl⟩
theorem RQs_tr (h : RQs r gl I I' F F' A A') (h2 : RQs r gl I' I'' F' F'' A' A'') : RQs r gl I I'' F F'' A A'' := fun x z1 z2 => by
  obtain ⟨a1, a2, a3⟩ := h x z1 z2
  obtain ⟨b1, b2, b3⟩ := h2 x z1 z2
  exact ⟨b1.trans a1, b2.trans a2, b3.trans a3⟩
theorem RQs_Rq {g : Nat} (hg : g < 10) (h : Rq r (gl g) I I' F F' A A') : RQs r gl I I' F F' A A' := fun x z1 z2 => ⟨h.1 x z1 (z2 g hg), h.2.1 x (z2 g hg), h.2.2.1 x (z2 g hg)⟩
theorem RQs_Iq {js : List Nat} (h : Iq r js I I') : RQs r gl I I' F F A A := fun x z1 _ => ⟨h.1 x z1, rfl, rfl⟩
theorem GoC_congr (h : GoC q d G I F A) (h1 : I' q = I q) (h2 : F' q = F q) (h3 : A' q = A q) : GoC q d G I' F' A' := by
  unfold GoC AgC Ag1 at h ⊢
  rw [h1, h2, h3]; exact h
theorem qr_question {l2 : Int32} (hb : CB b) (hr : Is b 6 r) (ho : Is b 11 o) (hT : TBc b s d tn co I E) (hE : ∀ g, g < 10 → E r 0 g = some (gl g) ∧ Is b 2 (gl g)) (hinj : ∀ g g', g < 10 → g' < 10 → gl g = gl g' → g = g') (hl2 : l2.toInt = (n : Int)) (hn : n ≤ 400) (htp : ∀ i, i < n → A o 0 i = tp i) (hrg : ∀ i, i < n → -128 ≤ (tp i).toInt ∧ (tp i).toInt ≤ 127)
    (h : ∀ I' F' A' Gs kn', quA tp n tn co 10 (fun _ => false) 0 = some (Gs, kn') → RQs r gl I I' F F' A A' → (I' r 1).toInt = (Gs.length : Int) → Gs.length ≤ 10 → KnR (I' r 2) kn' → (∀ g G, Gs[g]? = some G → GoC (gl g) d G I' F' A' ∧ (G.kd ≤ 1 → (G.tb : Int) < tn.toInt)) → Q (cS b I' F' A' E) → Q' (cS b I' F' A' E))
    (hN : quA tp n tn co 10 (fun _ => false) 0 = none → ∀ u, X eUO u → X' eUO u) : w_X6_readQuestion (some r) (some (b.ad o 0)) l2 (some s) (cS b I F A E) Q X → w_X6_readQuestion (some r) (some (b.ad o 0)) l2 (some s) (cS b I F A E) Q' X' := by
  unfold w_X6_readQuestion
  refine qc_putF hb (by decide) (fun _ => ?_)
  refine qc_putI (fun _ => ?_)
  refine qc_putF hb (by decide) (fun _ => ?_)
  refine qc_putI (fun _ => ?_)
  refine qc_putI (fun _ => ?_)
  have hI0 : Iq r [5, 6, 2] I (up2 (up2 (up2 I r 5 l2) r 6 0) r 2 0) := Iq_up (Iq_up (Iq_up Iq_rf (by decide)) (by decide)) (by decide)
  have i5 : (up2 (up2 (up2 I r 5 l2) r 6 0) r 2 0) r 5 = l2 := by simp [up2]
  have i6 : (up2 (up2 (up2 I r 5 l2) r 6 0) r 2 0) r 6 = 0 := by simp [up2]
  have i2 : (up2 (up2 (up2 I r 5 l2) r 6 0) r 2 0) r 2 = 0 := by simp [up2]
  have f4 : (up2 (up2 F r 4 (some (b.ad o 0))) r 7 (some s)) r 4 = some (b.ad o 0) := by simp [up2]
  have f7 : (up2 (up2 F r 4 (some (b.ad o 0))) r 7 (some s)) r 7 = some s := by simp [up2]
  have fx : ∀ x, x ≠ r → (up2 (up2 F r 4 (some (b.ad o 0))) r 7 (some s)) x = F x := fun x hx => (up2_row _ _ _ hx).trans (up2_row _ _ _ hx)
  generalize up2 (up2 (up2 I r 5 l2) r 6 0) r 2 0 = I0 at hI0 i5 i6 i2 ⊢
  generalize up2 (up2 F r 4 (some (b.ad o 0))) r 7 (some s) = F0 at f4 f7 fx ⊢
  have hRD0 : RDc b o r s tp n I0 F0 A := ⟨hr, ho, f4, f7, htp, hrg, by rw [i5]; exact hl2, hn⟩
  have nr : ∀ g, g < 10 → gl g ≠ r := fun g hg => Is_ne (hE g hg).2 hr (by decide)
  refine qc_loop (fun v b' I' F' A' E' => b' = b ∧ E' = E ∧ RQs r gl I I' F F' A A' ∧ RDc b o r s tp n I' F' A' ∧ TBc b s d tn co I' E ∧ ∃ (L : List QG) (kn : Nat → Bool) (i' : Nat), v.toInt = (L.length : Int) ∧ L.length ≤ 10 ∧ (I' r 6).toInt = (i' : Int) ∧ i' ≤ n ∧ KnR (I' r 2) kn ∧ (∀ g G, L[g]? = some G → GoC (gl g) d G I' F' A' ∧ (G.kd ≤ 1 → (G.tb : Int) < tn.toInt)) ∧ quA tp n tn co 10 (fun _ => false) 0 = (quA tp n tn co (10 - L.length) kn i').map fun w => (L ++ w.1, w.2))
    ⟨rfl, rfl, fun x z1 _ => ⟨hI0.1 x z1, fx x z1, rfl⟩, hRD0, ?_, [], fun _ => false, 0, by decide, by decide, by rw [i6]; decide, Nat.zero_le _, by rw [i2]; exact KnR_0, fun g G hg => by simp at hg, ?_⟩
    (fun v b' I' F' A' E' again again' ⟨e1, e2, hRQ, hR, hT', L, kn, i', k1, k2, k3, k4, k5, k6, k7⟩ ha => ?_)
  · obtain ⟨t1, t2, t3⟩ := hT
    refine ⟨t1, by rw [hI0.1 s (Is_ne t1 hr (by decide))]; exact t2, fun t ht => ?_⟩
    obtain ⟨z1, z2, z3, z4⟩ := t3 t ht
    exact ⟨z1, z2, by rw [hI0.1 (d t) (Is_ne z2 hr (by decide))]; exact z3, z4⟩
  · show _ = (quA tp n tn co 10 (fun _ => false) 0).map _
    cases quA tp n tn co 10 (fun _ => false) 0 <;> rfl
  subst e1; subst e2
  refine qv_if (fun z => ?_) (fun z => ?_)
  · simp only [i32, Int32.reduceToInt] at z
    have e10 : 10 - L.length = 0 := by omega
    rw [e10] at k7
    refine qc_recv (fun _ => qr_skip hb hR k3 k4 (fun I1 hI1 j1 => ?_))
    exact qc_getI (fun _ => qc_recv (fun _ => qr_refuse (hN (by rw [k7]; rfl))))
  simp only [i32, Int32.reduceToInt] at z
  have hlt : L.length < 10 := by omega
  obtain ⟨m, hm⟩ : ∃ m, 10 - L.length = m + 1 := ⟨10 - L.length - 1, by omega⟩
  have k7' : quA tp n tn co 10 (fun _ => false) 0 = ((ogA tp n tn co kn (blA tp n i')).bind fun r => if n ≤ blA tp n r.2 then some ([r.1.1], r.1.2) else if byA tp n (blA tp n r.2) = 44 then (quA tp n tn co m r.1.2 (blA tp n r.2 + 1)).map fun s => (r.1.1 :: s.1, s.2) else none).map fun w => (L ++ w.1, w.2) := by
    rw [k7, hm]; rfl
  have none7 : ogA tp n tn co kn (blA tp n i') = none → ∀ u, X eUO u → X' eUO u := fun e => hN (by rw [k7', e]; rfl)
  refine qc_recv (fun _ => qr_skip hb hR k3 k4 (fun I1 hI1 j1 => ?_))
  have hR1 := RDc_Iq hR hI1
  have hb1 : blA tp n i' ≤ n := blA_n k4
  have hT1 : TBc b' s d tn co I1 E' := TBc_Rq (A := A') (A' := A') (F := F') (F' := F') hr (hE 0 (by decide)).2 hT' (Rq_Iq hI1 (by decide))
  have kk1 : KnR (I1 r 2) kn := by rw [hI1.2 2 (by decide)]; exact k5
  have hgo1 : ∀ g G, L[g]? = some G → GoC (gl g) d G I1 F' A' ∧ (G.kd ≤ 1 → (G.tb : Int) < tn.toInt) := fun g G hg => by
    have hgl : g < 10 := by have := (List.getElem?_eq_some_iff.mp hg).1; omega
    exact ⟨GoC_congr (k6 g G hg).1 (hI1.1 _ (nr g hgl)) rfl rfl, (k6 g G hg).2⟩
  have evx : ix v = L.length := ix_of k1
  -- behind a goal
  have fin : ∀ (I2 : Nat → Nat → Int32) (F2 : Nat → Nat → Option Nat) (A2 : Nat → Nat → Nat → Int32) (G : QG) (kn2 : Nat → Bool) (j2 : Nat), ogA tp n tn co kn (blA tp n i') = some ((G, kn2), j2) → j2 ≤ n → Rq r (gl L.length) I1 I2 F' F2 A' A2 → (I2 r 6).toInt = (j2 : Int) → KnR (I2 r 2) kn2 → GoC (gl L.length) d G I2 F2 A2 → (G.kd ≤ 1 → (G.tb : Int) < tn.toInt) →
      (wPutI (cS b' I2 F2 A2 E') 6 1 (some r) (v + 1) fun x21 => wRecv x21 6 (some r) (w_X6_skipBlanks (some r) x21 (fun x22 => wGetI x22 6 6 (some r) fun v24 => wGetI x22 6 5 (some r) fun v25 => wIf (v24 < v25) (wRecv x22 6 (some r) (w_X6_take (some r) 44 x22 (fun x26 => again (v + 1) x26) X)) (Q x22)) X)) →
      (wPutI (cS b' I2 F2 A2 E') 6 1 (some r) (v + 1) fun x21 => wRecv x21 6 (some r) (w_X6_skipBlanks (some r) x21 (fun x22 => wGetI x22 6 6 (some r) fun v24 => wGetI x22 6 5 (some r) fun v25 => wIf (v24 < v25) (wRecv x22 6 (some r) (w_X6_take (some r) 44 x22 (fun x26 => again' (v + 1) x26) X')) (Q' x22)) X')) := fun I2 F2 A2 G kn2 j2 e2 hj2 hRq2 i2' kk2 goc htb => by
    have hq := (hE L.length hlt).2
    rw [e2] at k7'
    have k7' : quA tp n tn co 10 (fun _ => false) 0 = (if n ≤ blA tp n j2 then some ([G], kn2) else if byA tp n (blA tp n j2) = 44 then (quA tp n tn co m kn2 (blA tp n j2 + 1)).map fun s => (G :: s.1, s.2) else none).map fun w => (L ++ w.1, w.2) := k7'
    have v1 : (v + 1).toInt = ((L.length + 1 : Nat) : Int) := by rw [i_add k1 (show (1 : Int32).toInt = 1 by decide) (by omega)]; omega
    refine qc_putI (fun _ => ?_)
    have hI3 : Iq r [1] I2 (up2 I2 r 1 (v + 1)) := Iq_up Iq_rf (by decide)
    have i31 : up2 I2 r 1 (v + 1) r 1 = v + 1 := up2_self _ _ _ _
    generalize up2 I2 r 1 (v + 1) = I3 at hI3 i31 ⊢
    have hR2 : RDc b' o r s tp n I2 F2 A2 := RDc_Rq hq hR1 hRq2
    have hR3 : RDc b' o r s tp n I3 F2 A2 := ⟨hR2.1, hR2.2.1, hR2.2.2.1, hR2.2.2.2.1, hR2.2.2.2.2.1, hR2.2.2.2.2.2.1, by rw [hI3.2 5 (by decide)]; exact hR2.2.2.2.2.2.2.1, hn⟩
    have i36 : (I3 r 6).toInt = (j2 : Int) := by rw [hI3.2 6 (by decide)]; exact i2'
    refine qc_recv (fun _ => qr_skip hb hR3 i36 hj2 (fun I4 hI4 j4 => ?_))
    have hR4 := RDc_Iq hR3 hI4
    have hRQ4 : RQs r gl I I4 F F2 A A2 := RQs_tr hRQ (RQs_tr (RQs_Iq hI1) (RQs_tr (RQs_Rq hlt hRq2) (RQs_tr (RQs_Iq hI3) (RQs_Iq hI4))))
    have kk4 : KnR (I4 r 2) kn2 := by rw [hI4.2 2 (by decide), hI3.2 2 (by decide)]; exact kk2
    have i41 : (I4 r 1).toInt = ((L.length + 1 : Nat) : Int) := by rw [hI4.2 1 (by decide), i31]; exact v1
    have hgo4 : ∀ g G', (L ++ [G])[g]? = some G' → GoC (gl g) d G' I4 F2 A2 ∧ (G'.kd ≤ 1 → (G'.tb : Int) < tn.toInt) := fun g G' hg => by
      have hgl : g < 10 := by
        have := (List.getElem?_eq_some_iff.mp hg).1
        rw [List.length_append, List.length_singleton] at this; omega
      have ei : I4 (gl g) = I2 (gl g) := (hI4.1 _ (nr g hgl)).trans (hI3.1 _ (nr g hgl))
      by_cases e : g < L.length
      · rw [List.getElem?_append_left e] at hg
        have hne : gl g ≠ gl L.length := fun y => by have := hinj g L.length hgl hlt y; omega
        exact ⟨GoC_congr (hgo1 g G' hg).1 (ei.trans (hRq2.1 _ (nr g hgl) hne)) (hRq2.2.1 _ hne) (hRq2.2.2.1 _ hne), (hgo1 g G' hg).2⟩
      · have eg : g = L.length := by
          have := (List.getElem?_eq_some_iff.mp hg).1
          rw [List.length_append, List.length_singleton] at this; omega
        rw [eg, List.getElem?_append_right (Nat.le_refl _), Nat.sub_self] at hg
        cases hg
        rw [eg] at ei ⊢
        exact ⟨GoC_congr goc ei rfl rfl, htb⟩
    refine qc_getI (fun _ => qc_getI (fun _ => ?_))
    have h57 := hR4.2.2.2.2.2.2.1
    refine qv_if (fun y => ?_) (fun y => ?_)
    · simp only [i32] at y
      rw [if_neg (by omega)] at k7'
      refine qc_recv (fun _ => qr_take ⟨by decide, by decide⟩ hb hR4 j4 (blA_n hj2) (fun I5 e44 hlt5 hI5 j5 => ?_) (fun e => hN (by rw [k7', if_neg e]; rfl)))
      rw [if_pos e44, Option.map_map] at k7'
      refine ha _ _ _ _ _ _ ⟨rfl, rfl, RQs_tr hRQ4 (RQs_Iq hI5), RDc_Iq hR4 hI5, ?_, L ++ [G], kn2, blA tp n j2 + 1, ?_, ?_, j5, hlt5, ?_, ?_, ?_⟩
      · have hRq5 : Rq r (gl L.length) I1 I2 F' F2 A' A2 := hRq2
        have hT2 := TBc_Rq hr hq hT1 hRq2
        obtain ⟨t1, t2, t3⟩ := hT2
        have hx : ∀ x, x ≠ r → I5 x = I2 x := fun x hx => (hI5.1 x hx).trans ((hI4.1 x hx).trans (hI3.1 x hx))
        refine ⟨t1, by rw [hx s (Is_ne t1 hr (by decide))]; exact t2, fun t ht => ?_⟩
        obtain ⟨z1, z2, z3, z4⟩ := t3 t ht
        exact ⟨z1, z2, by rw [hx (d t) (Is_ne z2 hr (by decide))]; exact z3, z4⟩
      · rw [v1, List.length_append, List.length_singleton]
      · rw [List.length_append, List.length_singleton]; omega
      · rw [hI5.2 2 (by decide)]; exact kk4
      · intro g G' hg
        have hgl : g < 10 := by
          have := (List.getElem?_eq_some_iff.mp hg).1
          rw [List.length_append, List.length_singleton] at this; omega
        exact ⟨GoC_congr (hgo4 g G' hg).1 (hI5.1 _ (nr g hgl)) rfl rfl, (hgo4 g G' hg).2⟩
      · rw [k7', List.length_append, List.length_singleton, show 10 - (L.length + 1) = m by omega]
        congr 1
        funext w
        show (L ++ (G :: w.1), w.2) = (L ++ [G] ++ w.1, w.2)
        rw [List.append_assoc]; rfl
    · simp only [i32] at y
      rw [if_pos (by omega)] at k7'
      refine h I4 F2 A2 (L ++ [G]) kn2 (by rw [k7']; rfl) hRQ4 ?_ ?_ kk4 hgo4
      · rw [i41, List.length_append, List.length_singleton]
      · rw [List.length_append, List.length_singleton]; omega
  refine qc_recv (fun _ => qr_here hb hR1 j1 (fun c hc => ?_))
  dsimp only [wJoin]
  have h116 := hc 116 (by decide) (by decide)
  have hq := (hE L.length hlt).2
  have tg : (byA tp n (blA tp n i') = 116 ∨ byA tp n (blA tp n i') = 33) → (wGetF (cS b' I1 F' A' E') 6 0 (some r) fun v30 => wAldG (cS b' I1 F' A' E') 27 v30 v fun v31 => wRecv (cS b' I1 F' A' E') 6 (some r) (w_X6_readTableGoal (some r) v31 (cS b' I1 F' A' E') (fun x32 => wPutI x32 6 1 (some r) (v + 1) fun x21 => wRecv x21 6 (some r) (w_X6_skipBlanks (some r) x21 (fun x22 => wGetI x22 6 6 (some r) fun v24 => wGetI x22 6 5 (some r) fun v25 => wIf (v24 < v25) (wRecv x22 6 (some r) (w_X6_take (some r) 44 x22 (fun x26 => again (v + 1) x26) X)) (Q x22)) X)) X)) →
      (wGetF (cS b' I1 F' A' E') 6 0 (some r) fun v30 => wAldG (cS b' I1 F' A' E') 27 v30 v fun v31 => wRecv (cS b' I1 F' A' E') 6 (some r) (w_X6_readTableGoal (some r) v31 (cS b' I1 F' A' E') (fun x32 => wPutI x32 6 1 (some r) (v + 1) fun x21 => wRecv x21 6 (some r) (w_X6_skipBlanks (some r) x21 (fun x22 => wGetI x22 6 6 (some r) fun v24 => wGetI x22 6 5 (some r) fun v25 => wIf (v24 < v25) (wRecv x22 6 (some r) (w_X6_take (some r) 44 x22 (fun x26 => again' (v + 1) x26) X')) (Q' x22)) X')) X')) := fun hcc => by
    refine qc_getA hb (by decide) (fun _ => ?_)
    refine qc_aldG hb hr (by decide) (by decide) (fun _ => ?_)
    rw [evx, (hE L.length hlt).1]
    refine qc_recv (fun _ => ?_)
    exact qr_tgoal hb hR1 hT1 hq kk1 j1 hb1 hcc (fun I2 F2 A2 G kn2 j2 e2 hj2 hRq2 i2' kk2 goc htb => fin I2 F2 A2 G kn2 j2 e2 hj2 hRq2 i2' kk2 goc htb) none7
  refine qv_if (fun z2 => tg (Or.inl (h116.mp z2))) (fun z2 => ?_)
  refine qc_recv (fun _ => qr_here hb hR1 j1 (fun c2 hc2 => ?_))
  have h33 := hc2 33 (by decide) (by decide)
  refine qv_if (fun z3 => tg (Or.inr (h33.mp z3))) (fun z3 => ?_)
  have eo : ogA tp n tn co kn (blA tp n i') = sgA tp n kn (blA tp n i') := by
    unfold ogA
    rw [if_neg (fun y => z2 (h116.mpr y)), if_neg (fun y => z3 (h33.mpr y))]
  refine qc_getA hb (by decide) (fun _ => ?_)
  refine qc_aldG hb hr (by decide) (by decide) (fun _ => ?_)
  rw [evx, (hE L.length hlt).1]
  refine qc_recv (fun _ => ?_)
  exact qr_sgoal (tn := tn) (d := d) hb hR1 hq kk1 j1 hb1 (fun I2 F2 A2 G kn2 j2 e2 hj2 hRq2 i2' kk2 goc htb => fin I2 F2 A2 G kn2 j2 (eo.trans e2) hj2 hRq2 i2' kk2 goc htb) (fun e => none7 (eo.trans e))
end QR5
