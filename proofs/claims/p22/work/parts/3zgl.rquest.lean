set_option linter.unusedVariables false
set_option linter.unusedSimpArgs false
/-! the reference: a question is read -/
/-- behind a goal -/
def w_iqNext (l0 : Option Nat) (again6 : Int32 → HS → Prop) (v36 : Int32) (x35 : HS) (Q : Int32 → HS → Prop) (X : String → HS → Prop) : Prop :=
 wIf (v36 = 0)
 (wBit 0 (Q 0 x35))
 (wGetI x35 12 49 l0 fun v37 =>
 wPutI x35 12 49 l0 (v37 + 1) fun x38 =>
 wRecv x38 12 l0
 (w_X12_take l0 44 x38 (fun v40 x39 =>
 again6 v40 x39) X))
def w_iqLoop (l0 : Option Nat) (x5 : HS) (Q : Int32 → HS → Prop) (X : String → HS → Prop) : Prop :=
 wLoop (σ := Int32) (fun v9 x8 again6 =>
 wIf (v9 = 0)
 (wRecv x8 12 l0
 (w_X12_blanks l0 x8 (fun x10 =>
 wGetI x10 12 41 l0 fun v12 =>
 wGetI x10 12 40 l0 fun v13 =>
 wIf (v12 = v13)
 (wBit 1 (Q 1 x10))
 (wGetI x10 12 41 l0 fun v19 =>
 wRecv x10 12 l0
 (w_X12_wrong l0 v19 x10 (fun v21 x20 =>
 wIf (v21 = 0)
 (wBit 0 (Q 0 x20))
 (wBit 1 (Q 1 x20))) X))) X))
 (wRecv x8 12 l0
 (w_X12_blanks l0 x8 (fun x22 =>
 wGetI x22 12 49 l0 fun v24 =>
 wIf (v24 = 10)
 (wGetI x22 12 41 l0 fun v25 =>
 wRecv x22 12 l0
 (w_X12_wrong l0 v25 x22 (fun v27 x26 =>
 wBit v27 (Q v27 x26)) X))
 (wGetF x22 12 44 l0 fun v28 =>
 wGetI x22 12 49 l0 fun v29 =>
 wAstI x22 v28 v29 0 fun x30 =>
 wGetI x30 12 41 l0 fun v31 =>
 wRecv x30 12 l0
 (w_X12_byteAt l0 v31 x30 (fun v33 x32 =>
 wIf (v33 = 116)
 (wGetI x32 12 49 l0 fun v41 =>
 wRecv x32 12 l0
 (w_X12_tableGoal l0 v41 x32 (fun v43 x42 =>
 w_iqNext l0 again6 v43 x42 Q X) X))
 (wGetI x32 12 41 l0 fun v44 =>
 wRecv x32 12 l0
 (w_X12_byteAt l0 v44 x32 (fun v46 x45 =>
 wIf (v46 = 33)
 (wGetI x45 12 41 l0 fun v47 =>
 wPutI x45 12 41 l0 (v47 + 1) fun x48 =>
 wRecv x48 12 l0
 (w_X12_blanks l0 x48 (fun x49 =>
 wGetF x49 12 44 l0 fun v51 =>
 wGetI x49 12 49 l0 fun v52 =>
 wAstI x49 v51 v52 1 fun x53 =>
 wGetI x53 12 41 l0 fun v54 =>
 wRecv x53 12 l0
 (w_X12_byteAt l0 v54 x53 (fun v56 x55 =>
 wIf (v56 = 116)
 (wGetI x55 12 49 l0 fun v60 =>
 wRecv x55 12 l0
 (w_X12_tableGoal l0 v60 x55 (fun v62 x61 =>
 w_iqNext l0 again6 v62 x61 Q X) X))
 (wGetI x55 12 41 l0 fun v63 =>
 wRecv x55 12 l0
 (w_X12_wrong l0 v63 x55 (fun v65 x64 =>
 w_iqNext l0 again6 v65 x64 Q X) X))) X)) X))
 (wGetI x45 12 49 l0 fun v66 =>
 wRecv x45 12 l0
 (w_X12_otherGoal l0 v66 x45 (fun v68 x67 =>
 w_iqNext l0 again6 v68 x67 Q X) X))) X))) X))) X))) 1 x5
theorem w_iq (l0 : Option Nat) (l1 : Int32) (x : HS) (Q : Int32 → HS → Prop) (X : String → HS → Prop) : w_X12_isQuestion l0 l1 x Q X = wPutI x 12 40 l0 l1 fun x1 => wPutI x1 12 41 l0 0 fun x2 => wPutI x2 12 49 l0 0 fun x3 => wGetF x3 12 48 l0 fun v4 => wAstI x3 v4 0 0 fun x5 => w_iqLoop l0 x5 Q X := rfl
section NR7
variable {b : MT} {fi fi' : Nat → Int32} {ar ar' ar'' : Nat → Nat → Int32} {tp : Nat → Int32} {n i j k g t c kd : Nat} {tn : Int32} {co : Nat → Int32} {kn : Nat → Bool} {x y : QA} {L : List QA} {X X' : String → HS → Prop} {QI QI' : Int32 → HS → Prop} {G : QG}
theorem taA_len : ∀ (k i : Nat) (L : List QA) (j : Nat), taA tp n k i = some (L, j) → L.length = k + 1
  | 0, i, L, j, h => by
      obtain ⟨r, -, e⟩ := Option.map_eq_some_iff.mp h
      cases e; rfl
  | k + 1, i, L, j, h => by
      obtain ⟨r, -, e⟩ := Option.bind_eq_some_iff.mp h
      split at e
      · obtain ⟨s, hs, e2⟩ := Option.map_eq_some_iff.mp e
        cases e2
        show s.1.length + 1 = k + 2
        rw [taA_len k _ s.1 s.2 hs]
      · cases e
theorem ogA_len (hco : ∀ t : Nat, (t : Int) < tn.toInt → (co t).toInt ≤ 4) {kn' : Nat → Bool} (h : ogA tp n tn co kn i = some ((G, kn'), j)) : G.ag.length ≤ 4 := by
  have tg : ∀ {i t L j}, tgA tp n tn co i = some ((t, L), j) → L.length ≤ 4 := fun {i t L j} h => by
    unfold tgA at h
    split at h
    · obtain ⟨r, hr, h2⟩ := Option.bind_eq_some_iff.mp h
      split at h2
      · rename_i hc
        obtain ⟨s, hs, h3⟩ := Option.bind_eq_some_iff.mp h2
        split at h3
        · cases h3
          have := taA_len _ _ s.1 s.2 hs
          have h4 := hco (ix r.1) (by rw [ix_int hc.1.1]; exact hc.1.2)
          rw [this]; omega
        · cases h3
      · cases h2
    · cases h
  unfold ogA at h
  split at h
  · obtain ⟨r, hr, e⟩ := Option.map_eq_some_iff.mp h
    cases e; exact tg hr
  · split at h
    · obtain ⟨r, hr, e⟩ := Option.map_eq_some_iff.mp h
      cases e; exact tg hr
    · unfold sgA at h
      obtain ⟨x, hx, h2⟩ := Option.bind_eq_some_iff.mp h
      split at h2
      · split at h2
        · cases h2
        · obtain ⟨l, hl, h3⟩ := Option.bind_eq_some_iff.mp h2
          split at h3
          · obtain ⟨r, hr, e⟩ := Option.map_eq_some_iff.mp h3
            cases e; show 3 ≤ 4; omega
          · cases h3
      · split at h2
        · obtain ⟨r, hr, e⟩ := Option.map_eq_some_iff.mp h2
          cases e; show 2 ≤ 4; omega
        · cases h2
theorem GoM_Wq {g' : Nat} (h : GoM g G ar) (hl : G.ag.length ≤ 4) (hW : Wq g' ar ar') (hg : g < g') : GoM g G ar' := by
  obtain ⟨h1, h2, h3, h4⟩ := h
  refine ⟨by rw [(hW.2.1 g (by omega)).1]; exact h1, fun z => by rw [(hW.2.1 g (by omega)).2]; exact h2 z, fun k x hx => ?_, by rw [hW.2.2.2 g (by omega)]; exact h4⟩
  have := (List.getElem?_eq_some_iff.mp hx).1
  obtain ⟨q1, q2⟩ := hW.2.2.1 (5 * g + k) (by omega)
  rw [q1, q2]; exact h3 k x hx
def FqQ (fi fi' : Nat → Int32) : Prop := ∀ j, j ∉ [40, 41, 42, 43, 49] → fi' j = fi j
def WqQ (ar ar' : Nat → Nat → Int32) : Prop := ∀ j, j ∉ [44, 45, 46, 47, 48] → ar' j = ar j
theorem nr_question {l1 : Int32} (hb : MB b) (hT : TBm tn co fi ar) (hl : l1.toInt = (n : Int)) (hn : n ≤ 400) (htp : ∀ i, i < n → ar 1 i = tp i)
    (h : ∀ fi' ar' Gs kn', quA tp n tn co 10 (fun _ => false) 0 = some (Gs, kn') → FqQ fi fi' → WqQ ar ar' → (fi' 49).toInt = (Gs.length : Int) → Gs.length ≤ 10 → (∀ g G, Gs[g]? = some G → GoM g G ar' ∧ (∀ x, x ∈ G.ag → argOk x) ∧ G.ag.length ≤ 4) → KnR (ar' 48 Gs.length) kn' → QI 1 (mS b fi' ar') → QI' 1 (mS b fi' ar'))
    (hN : quA tp n tn co 10 (fun _ => false) 0 = none → ∀ fi' ar', FqQ fi fi' → WqQ ar ar' → QI 0 (mS b fi' ar') → QI' 0 (mS b fi' ar')) : w_X12_isQuestion (some b.o) l1 (mS b fi ar) QI X → w_X12_isQuestion (some b.o) l1 (mS b fi ar) QI' X' := by
  rw [w_iq, w_iq]
  refine nv_putI hb (nv_putI hb (nv_putI hb (n_getF hb (by decide) (nv_astI hb (by decide) (by decide) (fun _ => ?_)))))
  rw [show ix (0 : Int32) = 0 by decide]
  have hF0 : FqQ fi (va_up (va_up (va_up fi 40 l1) 41 0) 49 0) := fun j hj => by
    rw [va_up_ne _ _ (fun z => hj (by rw [z]; decide)), va_up_ne _ _ (fun z => hj (by rw [z]; decide)), va_up_ne _ _ (fun z => hj (by rw [z]; decide))]
  have f40 : va_up (va_up (va_up fi 40 l1) 41 0) 49 0 40 = l1 := by rw [va_up_ne _ _ (by decide), va_up_ne _ _ (by decide), va_up_self]
  have f41 : va_up (va_up (va_up fi 40 l1) 41 0) 49 0 41 = 0 := by rw [va_up_ne _ _ (by decide), va_up_self]
  have f49 : va_up (va_up (va_up fi 40 l1) 41 0) 49 0 49 = 0 := va_up_self _ _ _
  generalize va_up (va_up (va_up fi 40 l1) 41 0) 49 0 = f0 at hF0 f40 f41 f49 ⊢
  have hW0 : WqQ ar (up2 ar 48 0 0) := fun j hj => up2_row _ _ _ (fun z => hj (by rw [z]; decide))
  have a48 : up2 ar 48 0 0 48 0 = 0 := up2_self _ _ _ _
  generalize up2 ar 48 0 0 = ar0 at hW0 a48 ⊢
  have hT0 : TBm tn co f0 ar0 := by unfold TBm; rw [hF0 10 (by decide), hW0 4 (by decide)]; exact hT
  have hR0 : RDm tp n f0 ar0 := ⟨by rw [f40]; exact hl, hn, by rw [hW0 1 (by decide)]; exact htp⟩
  unfold w_iqLoop
  refine n_loopV (b := b) (fun (v : Int32) fi' ar' => FqQ fi fi' ∧ WqQ ar ar' ∧ RDm tp n fi' ar' ∧ TBm tn co fi' ar' ∧ ∃ (L : List QG) (kn : Nat → Bool) (i' : Nat), (fi' 49).toInt = (L.length : Int) ∧ L.length ≤ 10 ∧ (fi' 41).toInt = (i' : Int) ∧ i' ≤ n ∧ KnR (ar' 48 L.length) kn ∧ (∀ g G, L[g]? = some G → GoM g G ar' ∧ (∀ x, x ∈ G.ag → argOk x) ∧ G.ag.length ≤ 4) ∧ ((v = 1 ∧ quA tp n tn co 10 (fun _ => false) 0 = (quA tp n tn co (10 - L.length) kn i').map fun w => (L ++ w.1, w.2)) ∨ (v = 0 ∧ blA tp n i' = i' ∧ quA tp n tn co 10 (fun _ => false) 0 = if n ≤ i' then some (L, kn) else none)))
    ⟨hF0, hW0, hR0, hT0, [], fun _ => false, 0, by rw [f49]; decide, by decide, by rw [f41]; decide, Nat.zero_le _, by show KnR (ar0 48 0) _; rw [a48]; exact KnR_0, fun g G hg => by simp at hg, Or.inl ⟨rfl, ?_⟩⟩
    (fun v fi' ar' again again' ⟨hF, hW, hR, hT', L, kn, i', k1, k2, k3, k4, k5, k6, k7⟩ ha => ?_)
  · show _ = (quA tp n tn co 10 (fun _ => false) 0).map _
    cases quA tp n tn co 10 (fun _ => false) 0 <;> rfl
  have FqF : ∀ {f : Nat → Int32}, Fw fi' f → FqQ fi f := fun hf j hj => by
    rw [hf j (fun z => hj (by revert z; simp only [List.mem_cons, List.not_mem_nil, or_false]; omega))]; exact hF j hj
  have WqW : ∀ {a : Nat → Nat → Int32} {g : Nat}, Wq g ar' a → WqQ ar a := fun hw j hj => (hw.1 j hj).trans (hW j hj)
  rcases k7 with ⟨ev, k7⟩ | ⟨ev, ebl, k7⟩
  · rw [ev]
    refine qv_if (fun z => absurd z (by decide)) (fun _ => ?_)
    refine q_recv (nr_blanks hb hR k3 k4 (fun w hw => nv_getI hb ?_))
    have hF1 : Fw fi' (va_up fi' 41 w) := Fw_up Fw_rf (by decide)
    have e41 : (va_up fi' 41 w 41).toInt = (blA tp n i' : Int) := by rw [va_up_self]; exact hw
    generalize va_up fi' 41 w = f1 at hF1 e41 ⊢
    have e49 : f1 49 = fi' 49 := hF1 49 (by decide)
    have hbn := blA_n (tp := tp) k4
    have q10 : f1 49 = 10 ↔ L.length = 10 := ⟨fun z => by rw [← e49, z] at k1; have : (10 : Int32).toInt = 10 := by decide
                                                          omega, fun z => i_ext (by rw [e49, k1, z]; decide)⟩
    refine qv_if (fun z => nv_getI hb (nr_wr hb (fun f2 hF2 => hN ?_ f2 ar' (FqF (Fw_tr hF1 hF2)) hW))) (fun z => ?_)
    · rw [k7, q10.mp z]; rfl
    have hlt : L.length < 10 := by
      have : ¬ L.length = 10 := fun y => z (q10.mpr y)
      omega
    obtain ⟨m, hm⟩ : ∃ m, 10 - L.length = m + 1 := ⟨10 - L.length - 1, by omega⟩
    have k7' : quA tp n tn co 10 (fun _ => false) 0 = ((ogA tp n tn co kn (blA tp n i')).bind fun r => if n ≤ blA tp n r.2 then some ([r.1.1], r.1.2) else if byA tp n (blA tp n r.2) = 44 then (quA tp n tn co m r.1.2 (blA tp n r.2 + 1)).map fun s => (r.1.1 :: s.1, s.2) else none).map fun w => (L ++ w.1, w.2) := by
      rw [k7, hm]; rfl
    have none7 : ogA tp n tn co kn (blA tp n i') = none → quA tp n tn co 10 (fun _ => false) 0 = none := fun e => by rw [k7', e]; rfl
    have g1 : (f1 49).toInt = (L.length : Int) := by rw [e49]; exact k1
    refine n_getF hb (by decide) (nv_getI hb (nv_astI hb (by decide) (by decide) (fun _ => nv_getI hb ?_)))
    rw [ix_of g1]
    have hW1 : Wq L.length ar' (up2 ar' 44 L.length 0) := Wq_44
    have a44 : up2 ar' 44 L.length 0 44 L.length = Int32.ofNat 0 := up2_self _ _ _ _
    have b48 : up2 ar' 44 L.length 0 48 = ar' 48 := up2_row _ _ _ (by decide)
    generalize up2 ar' 44 L.length 0 = ar1 at hW1 a44 b48 ⊢
    have hR1 : RDm tp n f1 ar1 := RDm_Wq (RDm_Fw hR hF1) hW1
    have hT1 : TBm tn co f1 ar1 := TBm_fr hT' hF1 hW1
    have kk1 : KnR (ar1 48 L.length) kn := by rw [b48]; exact k5
    -- a goal is read
    have good : ∀ (f2 : Nat → Int32) (a2 : Nat → Nat → Int32) (G : QG) (kn2 : Nat → Bool) (j2 : Nat), ogA tp n tn co kn (blA tp n i') = some ((G, kn2), j2) → j2 ≤ n → Fw fi' f2 → Wq L.length ar' a2 → (f2 41).toInt = (j2 : Int) → GoM L.length G a2 → (∀ x, x ∈ G.ag → argOk x) → KnR (a2 48 (L.length + 1)) kn2 → w_iqNext (some b.o) again 1 (mS b f2 a2) QI X → w_iqNext (some b.o) again' 1 (mS b f2 a2) QI' X' := fun f2 a2 G kn2 j2 e2 hj2 hF2 hW2 i2 goc okk kk2 => by
      rw [e2] at k7'
      have k7' : quA tp n tn co 10 (fun _ => false) 0 = (if n ≤ blA tp n j2 then some ([G], kn2) else if byA tp n (blA tp n j2) = 44 then (quA tp n tn co m kn2 (blA tp n j2 + 1)).map fun s => (G :: s.1, s.2) else none).map fun w => (L ++ w.1, w.2) := k7'
      have hlen := ogA_len (fun t ht => (hT.2 t ht).2.2) e2
      unfold w_iqNext
      refine qv_if (fun z => absurd z (by decide)) (fun _ => nv_getI hb (nv_putI hb ?_))
      have e492 : f2 49 = fi' 49 := hF2 49 (by decide)
      have v1 : (f2 49 + 1).toInt = ((L.length + 1 : Nat) : Int) := by rw [e492, i_add k1 (show (1 : Int32).toInt = 1 by decide) (by omega)]; omega
      have hF3 : FqQ fi (va_up f2 49 (f2 49 + 1)) := fun j hj => by
        rw [va_up_ne _ _ (fun z => hj (by rw [z]; decide))]; exact FqF hF2 j hj
      have f349 : va_up f2 49 (f2 49 + 1) 49 = f2 49 + 1 := va_up_self _ _ _
      have f341 : va_up f2 49 (f2 49 + 1) 41 = f2 41 := va_up_ne _ _ (by decide)
      have f340 : va_up f2 49 (f2 49 + 1) 40 = f2 40 := va_up_ne _ _ (by decide)
      have f310 : va_up f2 49 (f2 49 + 1) 10 = f2 10 := va_up_ne _ _ (by decide)
      generalize va_up f2 49 (f2 49 + 1) = f3 at hF3 f349 f341 f340 f310 ⊢
      have hR2 : RDm tp n f2 a2 := RDm_Wq (RDm_Fw hR hF2) hW2
      have hR3 : RDm tp n f3 a2 := RDm_fr hR2 f340 rfl
      have hT3 : TBm tn co f3 a2 := by
        have := TBm_fr hT' hF2 hW2
        unfold TBm at this ⊢
        rw [f310]; exact this
      have i3 : (f3 41).toInt = (j2 : Int) := by rw [f341]; exact i2
      have hgo : ∀ g G', (L ++ [G])[g]? = some G' → GoM g G' a2 ∧ (∀ x, x ∈ G'.ag → argOk x) ∧ G'.ag.length ≤ 4 := fun g G' hg => by
        by_cases e : g < L.length
        · rw [List.getElem?_append_left e] at hg
          obtain ⟨q1, q2, q3⟩ := k6 g G' hg
          exact ⟨GoM_Wq q1 q3 hW2 e, q2, q3⟩
        · have eg : g = L.length := by
            have := (List.getElem?_eq_some_iff.mp hg).1
            rw [List.length_append, List.length_singleton] at this; omega
          rw [eg, List.getElem?_append_right (Nat.le_refl _), Nat.sub_self] at hg
          cases hg
          rw [eg]
          exact ⟨goc, okk, hlen⟩
      have ll : (L ++ [G]).length = L.length + 1 := by rw [List.length_append, List.length_singleton]
      refine q_recv (nr_take (by decide) hb hR3 i3 hj2 (fun w4 e44 hlt4 hw4 => ?_) (fun w4 e44 hw4 => ?_))
      · have hF4 : Fw f3 (va_up f3 41 w4) := Fw_up Fw_rf (by decide)
        refine ha _ _ _ ⟨fun j hj => by rw [va_up_ne _ _ (fun z => hj (by rw [z]; decide))]; exact hF3 j hj, WqW hW2, RDm_Fw hR3 hF4, TBm_fr hT3 hF4 (Wq_rf (g := 0)), L ++ [G], kn2, blA tp n j2 + 1, ?_, by rw [ll]; omega, by rw [va_up_self]; exact hw4, hlt4, by rw [ll]; exact kk2, hgo, Or.inl ⟨rfl, ?_⟩⟩
        · rw [va_up_ne _ _ (by decide), f349, v1, ll]
        · rw [k7', if_neg (by omega), if_pos e44, Option.map_map, ll, show 10 - (L.length + 1) = m by omega]
          congr 1
          funext w
          show (L ++ (G :: w.1), w.2) = (L ++ [G] ++ w.1, w.2)
          rw [List.append_assoc]; rfl
      · have hF4 : Fw f3 (va_up f3 41 w4) := Fw_up Fw_rf (by decide)
        refine ha _ _ _ ⟨fun j hj => by rw [va_up_ne _ _ (fun z => hj (by rw [z]; decide))]; exact hF3 j hj, WqW hW2, RDm_Fw hR3 hF4, TBm_fr hT3 hF4 (Wq_rf (g := 0)), L ++ [G], kn2, blA tp n j2, ?_, by rw [ll]; omega, by rw [va_up_self]; exact hw4, blA_n hj2, by rw [ll]; exact kk2, hgo, Or.inr ⟨rfl, blA_idem hj2, ?_⟩⟩
        · rw [va_up_ne _ _ (by decide), f349, v1, ll]
        · rw [k7', if_neg e44]
          split <;> rfl
    have bad : quA tp n tn co 10 (fun _ => false) 0 = none → ∀ (f2 : Nat → Int32) (a2 : Nat → Nat → Int32), Fw fi' f2 → Wq L.length ar' a2 → w_iqNext (some b.o) again 0 (mS b f2 a2) QI X → w_iqNext (some b.o) again' 0 (mS b f2 a2) QI' X' := fun e f2 a2 hF2 hW2 => by
      unfold w_iqNext
      exact qv_if (fun _ => q_bit (hN e f2 a2 (FqF hF2) (WqW hW2))) (fun z => absurd rfl z)
    refine q_recv (nr_byte hb hR1 e41 ?_)
    refine qv_if (fun z1 => nv_getI hb ?_) (fun z1 => nv_getI hb ?_)
    · have eo : ogA tp n tn co kn (blA tp n i') = (tgA tp n tn co (blA tp n i')).map fun r => (((0, r.1.1, r.1.2, kn), mkKn kn r.1.2), r.2) := by
        unfold ogA
        rw [if_pos z1]
      refine q_recv (nr_tgoal (kd := 0) (kn := kn) hb hR1 hT1 g1 hlt a44 (by decide) kk1 e41 hbn z1 (fun f2 a2 t L2 j2 e2 hj2 hF2 hW2 i2 goc okk kk2 => ?_) (fun e2 f2 a2 hF2 hW2 => bad (none7 (by rw [eo, e2]; rfl)) f2 a2 (Fw_tr hF1 hF2) (Wq_tr hW1 hW2)))
      exact good f2 a2 (0, t, L2, kn) (mkKn kn L2) j2 (by rw [eo, e2]; rfl) hj2 (Fw_tr hF1 hF2) (Wq_tr hW1 hW2) i2 goc okk (by rw [if_pos rfl] at kk2; exact kk2)
    · refine q_recv (nr_byte hb hR1 e41 ?_)
      refine qv_if (fun z2 => nv_getI hb (nv_putI hb ?_)) (fun z2 => nv_getI hb ?_)
      · have hlt2 := byA_in z2 (by decide)
        have hn4 := hR.2.1
        have eo : ogA tp n tn co kn (blA tp n i') = (tgA tp n tn co (blA tp n (blA tp n i' + 1))).map fun r => (((1, r.1.1, r.1.2, kn), kn), r.2) := by
          unfold ogA
          rw [if_neg z1, if_pos z2]
        have hF2 : Fw fi' (va_up f1 41 (f1 41 + 1)) := Fw_up hF1 (by decide)
        have e412 : (va_up f1 41 (f1 41 + 1) 41).toInt = ((blA tp n i' + 1 : Nat) : Int) := by rw [va_up_self, i_add e41 (show (1 : Int32).toInt = 1 by decide) (by omega)]; omega
        generalize va_up f1 41 (f1 41 + 1) = f2 at hF2 e412 ⊢
        have hR2 : RDm tp n f2 ar1 := RDm_Wq (RDm_Fw hR hF2) hW1
        refine q_recv (nr_blanks hb hR2 e412 hlt2 (fun w3 hw3 => n_getF hb (by decide) (nv_getI hb (nv_astI hb (by decide) (by decide) (fun _ => nv_getI hb ?_)))))
        have hF3 : Fw fi' (va_up f2 41 w3) := Fw_up hF2 (by decide)
        have e413 : (va_up f2 41 w3 41).toInt = (blA tp n (blA tp n i' + 1) : Int) := by rw [va_up_self]; exact hw3
        generalize va_up f2 41 w3 = f3 at hF3 e413 ⊢
        have g3 : (f3 49).toInt = (L.length : Int) := by rw [hF3 49 (by decide)]; exact k1
        rw [ix_of g3]
        have hW3 : Wq L.length ar' (up2 ar1 44 L.length 1) := Wq_tr hW1 Wq_44
        have a443 : up2 ar1 44 L.length 1 44 L.length = Int32.ofNat 1 := up2_self _ _ _ _
        have b483 : up2 ar1 44 L.length 1 48 = ar1 48 := up2_row _ _ _ (by decide)
        generalize up2 ar1 44 L.length 1 = ar3 at hW3 a443 b483 ⊢
        have hR3 : RDm tp n f3 ar3 := RDm_Wq (RDm_Fw hR hF3) hW3
        have hT3 : TBm tn co f3 ar3 := TBm_fr hT' hF3 hW3
        have kk3 : KnR (ar3 48 L.length) kn := by rw [b483]; exact kk1
        have hbn3 := blA_n (tp := tp) hlt2
        refine q_recv (nr_byte hb hR3 e413 ?_)
        refine qv_if (fun z3 => nv_getI hb ?_) (fun z3 => nv_getI hb ?_)
        · refine q_recv (nr_tgoal (kd := 1) (kn := kn) hb hR3 hT3 g3 hlt a443 (by decide) kk3 e413 hbn3 z3 (fun f4 a4 t L2 j2 e2 hj2 hF4 hW4 i2 goc okk kk2 => ?_) (fun e2 f4 a4 hF4 hW4 => bad (none7 (by rw [eo, e2]; rfl)) f4 a4 (Fw_tr hF3 hF4) (Wq_tr hW3 hW4)))
          exact good f4 a4 (1, t, L2, kn) kn j2 (by rw [eo, e2]; rfl) hj2 (Fw_tr hF3 hF4) (Wq_tr hW3 hW4) i2 goc okk (by rw [if_neg (by decide)] at kk2; exact kk2)
        · refine q_recv (nr_wrong hb (fun f4 hF4 => bad (none7 ?_) f4 ar3 (Fw_tr hF3 hF4) hW3))
          rw [eo]
          unfold tgA
          rw [if_neg z3]; rfl
      · have eo : ogA tp n tn co kn (blA tp n i') = sgA tp n kn (blA tp n i') := by
          unfold ogA
          rw [if_neg z1, if_neg z2]
        refine q_recv (nr_ogoal (kn := kn) hb hR1 g1 hlt kk1 e41 hbn (blA_idem k4) (fun f2 a2 G kn2 j2 e2 hj2 hF2 hW2 i2 goc okk kk2 hkd => ?_) (fun e2 f2 a2 hF2 hW2 => bad (none7 (by rw [eo, e2])) f2 a2 (Fw_tr hF1 hF2) (Wq_tr hW1 hW2)))
        exact good f2 a2 G kn2 j2 (by rw [eo, e2]) hj2 (Fw_tr hF1 hF2) (Wq_tr hW1 hW2) i2 goc okk kk2
  · rw [ev]
    refine qv_if (fun _ => ?_) (fun z => absurd rfl z)
    refine q_recv (nr_blanks hb hR k3 k4 (fun w hw => nv_getI hb (nv_getI hb ?_)))
    rw [ebl] at hw
    have hF1 : Fw fi' (va_up fi' 41 w) := Fw_up Fw_rf (by decide)
    have e41 : (va_up fi' 41 w 41).toInt = (i' : Int) := by rw [va_up_self]; exact hw
    generalize va_up fi' 41 w = f1 at hF1 e41 ⊢
    have e40 : (f1 40).toInt = (n : Int) := by rw [hF1 40 (by decide)]; exact hR.1
    have eqn : f1 41 = f1 40 ↔ n ≤ i' := ⟨fun z => by rw [z, e40] at e41; omega, fun z => i_ext (by rw [e41, e40]; omega)⟩
    refine qv_if (fun z => q_bit ?_) (fun z => nv_getI hb (q_recv (nr_wrong hb (fun f2 hF2 => qv_if (fun _ => q_bit ?_) (fun z => absurd rfl z)))))
    · refine h f1 ar' L kn (by rw [k7, if_pos (eqn.mp z)]) (FqF hF1) hW ?_ k2 k6 k5
      rw [hF1 49 (by decide)]; exact k1
    · exact hN (by rw [k7, if_neg (fun y => z (eqn.mpr y))]) f2 ar' (FqF (Fw_tr hF1 hF2)) hW
end NR7
