set_option linter.unusedVariables false
set_option linter.unusedSimpArgs false
/-! the class: found, mark, changes -/
section VM1
variable {b : CT} {I I' : Nat → Nat → Int32} {F F' : Nat → Nat → Option Nat} {A A' : Nat → Nat → Nat → Int32} {E E' : Nat → Nat → Nat → Option Nat} {o t n n' k f p w j ci q s h l N : Nat} {a : AS} {g : CGs} {lk d r ct fa : Nat → Nat} {x y : HS} {X X' : String → HS → Prop} {Q Q' : HS → Prop} {QI QI' : Int32 → HS → Prop} {QF QF' : Option Nat → HS → Prop} {m : Int32} {T : Int} {la : Option Nat} {vs : Nat → Int32} {ov : Bool}
theorem kc_found (hk : KC o (N + 1) a x) (hW : AVT a) (i : Int32) : w_X11_found (some o) i x (fun r u => OK_found a i 0 r ∧ KC o N (nx_found a i) u) (fun E u => (E = eIB ∧ OK_found a i 1 0) ∧ KC o N (nx_found a i) u) := by
  have h := kc1_found hk.1 i
  obtain ⟨g, b, I, F, A, E, rfl, hz, hx⟩ := hk.2
  have hO := hx.2.2.2.2.2.2.2.2.2
  revert h
  unfold w_X11_found OK_found nx_found
  dsimp only [wJoin]
  have bad : ¬ (0 ≤ i.toInt ∧ i.toInt < a.fo.length) → (eIB = eIB ∧ OK1_found a.1 i 1 0) ∧ KC1 o N (nx1_found a.1 i) (cS (b.B.wC (b.B.c - 1) (b.B.z - 6), b.2) I F A E) → (eIB = eIB ∧ EX (if 0 ≤ i.toInt ∧ i.toInt < a.fo.length then 0 else 1) (a.fo[ix i]?.getD 0) 1 0) ∧ KC o N a (cS (b.B.wC (b.B.c - 1) (b.B.z - 6), b.2) I F A E) := fun hn h => ⟨⟨rfl, EX_bad (if_neg hn) (by decide)⟩, h.2, CX_wC hz hx⟩
  refine qv_if (fun z => qc_throw (bad (fun y => ?_))) (fun z => ?_)
  · simp only [i32, Int32.reduceToInt] at z; omega
  · simp only [i32, Int32.reduceToInt] at z
    refine qc_getI (fun _ => ?_)
    refine qv_if (fun z2 => ?_) (fun z2 => qc_throw (bad (fun y => ?_)))
    · simp only [i32] at z2
      rw [hO.2.1] at z2
      refine qc_getA hx.1 (by decide) (fun _ => ?_)
      refine qc_ald hx.1 hx.2.1.1 (by decide) (by decide) (fun _ h => ?_)
      have hi : ix i < a.fo.length := by have := ix_int (show 0 ≤ i.toInt by omega); omega
      refine ⟨EX_ok (if_pos ⟨by omega, z2⟩) ?_, h.2, _, _, _, _, _, _, rfl, hz, hx⟩
      rw [List.getElem?_eq_getElem hi]
      exact hO.2.2 (ix i) _ (List.getElem?_eq_getElem hi)
    · simp only [i32] at z2
      rw [hO.2.1] at z2; omega
/-- only the history has changed -/
theorem CXx_h (hx : CXx o a g b I F A E) {a' : AS} (ha1 : a'.1 = a.1) (ha2 : a'.2.1 = (a.ky, a.rw, a.fc, a.fb, a.fd, a.ft, a.sn, a.nn, a.tm, a.hz, a'.mk, a'.hs)) (ha3 : a'.2.2 = a.2.2) (hI : ∀ x, x ≠ g.h → I' x = I x) (hA : ∀ x, x ≠ g.h → A' x = A x) (hH : CXh a' g.h g.sz g.fa I' F A' E) : CXx o a' g b I' F A' E := by
  obtain ⟨hb, hs, ht, hFa, hR, hK, hN, -, hC, hO⟩ := hx
  have s5 := hs.2.2.2.2.1
  have no3 : ∀ (S : List (Nat × Nat)), S.all (fun p => p.1 != 3) = true → ∀ ci x j, Is b ci x → (ci, j) ∈ S → x ≠ g.h := fun S hS ci x j hx hj z => by
    have := List.all_eq_true.mp hS _ hj
    have e : ci = 3 := by rw [← hx.2, z]; exact s5.2
    simp [e] at this
  have sI' : ∀ S : List (Nat × Nat), S.all (fun p => p.1 != 3) = true → sI b S I I' := fun S h1 ci x j hx hj => by rw [hI x (no3 S h1 ci x j hx hj)]
  have sA' : ∀ S : List (Nat × Nat), S.all (fun p => p.1 != 3) = true → sA b S A A' := fun S h1 ci x j hx hj => by rw [hA x (no3 S h1 ci x j hx hj)]
  have hd : ∀ t, inT a t → Is b 10 (g.d t) := fun t h => (ht.2 t h).2.1
  have hfa : ∀ t n, n ∈ a.rw t → Is b 1 (g.fa n) := fun t n h => (hFa t n h).1
  obtain ⟨a1, a2, a3⟩ := a'
  obtain ⟨b1, b2, b3⟩ := a
  have ha1 : a1 = b1 := ha1
  have ha3 : a3 = b3 := ha3
  subst ha1; subst ha3
  have q1 := CXs_eq hs (fun _ _ h => h) (fun _ h => h) (sF_rf (F := F)) (sE_rf (E := E))
  have q2 := CXt_eq ht hs.2.2.1 (fun _ _ h => h) (fun _ _ => rfl) (sI' _ (by decide)) (sF_rf (F := F)) (sA' _ (by decide)) (sE_rf (E := E))
  have q3 := fun t n hn => CF1_eq (hFa t n hn) (fun _ _ h => h) (sI' _ (by decide)) (sF_rf (F := F)) (sA' _ (by decide))
  have q4 := CXr_eq hR hd hfa (sI' _ (by decide)) (sF_rf (F := F)) (sE_rf (E := E))
  have q5 := CXn_eq hN hs.2.2.1 (sI' _ (by decide))
  have q6 := CXc_eq hC hs.1 (sA' _ (by decide)) (I' := I') (F' := F) (fun c hc => by
    have hne : g.lk c ≠ g.h := Is_ne (hs.2.2.2.2.2.2.2.1 c hc).2.1 s5 (by decide)
    exact ⟨hI _ hne, rfl, hA _ hne⟩)
  have q7 := CXo_eq hO hs.1 (sI' _ (by decide)) (sA' _ (by decide))
  have ha2 : a2 = _ := ha2
  refine ⟨hb, q1, ?_, ?_, ?_, ?_, ?_, hH, ?_, q7⟩
  · rw [ha2]; exact q2
  · rw [ha2]; exact q3
  · rw [ha2]; exact q4
  · rw [ha2]; exact hK
  · rw [ha2]; exact q5
  · rw [ha2]; exact q6
theorem kc_mark (hk : KC o (N + 1) a x) (hW : AVT a) : w_X11_mark (some o) x (fun r u => OK_mark a 0 r ∧ KC o N (nx_mark a) u) (fun E u => (E = eIS ∧ OK_mark a 1 0) ∧ KC o N (nx_mark a) u) := by
  have h := kc1_mark hk.1
  obtain ⟨g, b, I, F, A, E, rfl, hz, hx⟩ := hk.2
  have hV := hW.1
  have hb := hx.1
  have hs := hx.2.1
  have hH := hx.2.2.2.2.2.2.2.1
  have hl8 := hV.2.2.1.1
  have hsz : (I g.h 3).toInt = (a.hs.length : Int) := by
    have h3 := hH.2.2.1
    by_cases hm : a.mk = []
    · rw [if_pos hm, hz] at h3
      rw [h3, hV.2.2.1.2.2.1 hm]; rfl
    · rw [if_neg hm] at h3; exact h3
  revert h
  unfold w_X11_mark OK_mark nx_mark
  refine qc_getF hb (by decide) (fun _ => ?_)
  rw [hs.2.1]
  refine qc_getF hb (by decide) (fun _ => ?_)
  rw [hs.2.2.2.1]
  refine qc_recv (fun s5 => ?_)
  unfold w_X3_makeMark
  refine qc_getI (fun _ => ?_)
  refine qv_if (fun z => ?_) (fun z => ?_)
  · simp only [i32, Int32.reduceToInt] at z
    rw [hH.1] at z
    have c8 : ¬ a.mk.length = 8 := by omega
    rw [if_neg c8, if_neg c8]
    refine qc_getA hb (by decide) (fun _ => ?_)
    refine qc_getI (fun _ => ?_)
    refine qc_getI (fun _ => ?_)
    refine qc_astI hb s5 (by decide) (fun _ => ?_)
    refine qc_getI (fun _ => ?_)
    refine qc_putI (fun _ => ?_)
    refine qc_bit ?_
    refine qv_if (fun z => absurd z (by decide)) (fun _ => ?_)
    refine qc_getF hb (by decide) (fun _ => ?_)
    rw [hs.2.1]
    refine qc_getF hb (by decide) (fun _ => ?_)
    rw [hs.2.2.2.1]
    refine qc_getI (fun _ h => ?_)
    rw [up2_self] at h ⊢
    have e1 : (I g.h 4 + 1).toInt = ((a.mk.length + 1 : Nat) : Int) := by rw [i_add hH.1 (show (1 : Int32).toInt = 1 by decide) (by omega)]; omega
    refine ⟨EX_ok rfl (num_of e1), h.2, _, _, _, _, _, _, rfl, hz, CXx_h hx (a' := a.w_mk (a.mk ++ [a.hs.length])) rfl rfl rfl (fun x hx => funext fun j => if_neg (fun y => hx y.1)) (fun x hx => funext fun j => up3_ne (fun y => hx y.1)) ⟨?_, ?_, ?_, ?_, ?_⟩⟩
    · rw [up2_self, e1]
      show _ = ((a.mk ++ [a.hs.length]).length : Int)
      rw [List.length_append]; rfl
    · show ∀ (i m : Nat), (a.mk ++ [a.hs.length])[i]? = some m → _
      intro i m him
      rw [up3_at, ix_of hH.1]
      by_cases hi : i < a.mk.length
      · rw [List.getElem?_append_left hi] at him
        rw [va_up_ne _ _ (by omega)]; exact hH.2.1 i m him
      · rw [List.getElem?_append_right (by omega)] at him
        have hi2 : i = a.mk.length := by
          have := (List.getElem?_eq_some_iff.mp him).1
          simp at this; omega
        subst hi2
        simp at him
        subst him
        rw [va_up_self]; exact hsz
    · rw [if_neg (show ¬ (a.w_mk (a.mk ++ [a.hs.length])).mk = [] from fun z => by have z : a.mk ++ [a.hs.length] = [] := z; simp at z)]
      exact (congrArg Int32.toInt (if_neg (fun y => absurd y.2 (by decide)))).trans hsz
    · have e : up3 A g.h 2 (ix (I g.h 4)) (I g.h 3) g.h 1 = A g.h 1 := up3_ne (fun y => absurd y.2 (by decide))
      rw [e]; exact hH.2.2.2.1
    · exact hH.2.2.2.2
  · simp only [i32, Int32.reduceToInt] at z
    rw [hH.1] at z
    have c8 : a.mk.length = 8 := by omega
    rw [if_pos c8, if_pos c8]
    refine qc_bit ?_
    refine qv_if (fun _ => ?_) (fun z => absurd rfl z)
    exact qc_throw (fun h => ⟨⟨rfl, EX_bad rfl (by decide)⟩, h.2, CX_wC hz hx⟩)
/-- what was found -/
def FOC (L : List Int32) (o : Nat) (I : Nat → Nat → Int32) (A : Nat → Nat → Nat → Int32) : Prop := (I o 10).toInt = (L.length : Int) ∧ ∀ (i : Nat) (v : Int32), L[i]? = some v → A o 5 i = v
/-- but for what was found, all is as it was -/
def sO (o : Nat) (I I' : Nat → Nat → Int32) (A A' : Nat → Nat → Nat → Int32) : Prop := (∀ x j, ¬ (x = o ∧ j = 10) → I' x j = I x j) ∧ ∀ x j, ¬ (x = o ∧ j = 5) → A' x j = A x j
theorem sO_rf : sO o I I A A := ⟨fun _ _ _ => rfl, fun _ _ _ => rfl⟩
theorem qc_putFound (hb : CB b) (ho : Is b 11 o) {L : List Int32} {v : Int32} (hL : FOC L o I A) (hl : L.length < 3000) {I0 : Nat → Nat → Int32} {A0 : Nat → Nat → Nat → Int32} (hf : sO o I0 I A0 A) (h : ∀ I' A', FOC (L ++ [v]) o I' A' → sO o I0 I' A0 A' → Q (cS b I' F A' E) → Q' (cS b I' F A' E)) : w_X11_putFound (some o) v (cS b I F A E) Q X → w_X11_putFound (some o) v (cS b I F A E) Q' X' := by
  unfold w_X11_putFound
  refine qc_getI (fun _ => ?_)
  dsimp only [wJoin]
  refine qv_if (fun z => ?_) (fun _ => ?_)
  · simp only [i32, Int32.reduceToInt] at z
    have := hL.1; omega
  · refine qc_getA hb (by decide) (fun _ => ?_)
    refine qc_getI (fun _ => ?_)
    refine qc_astI hb ho (by decide) (fun _ => ?_)
    refine qc_getI (fun _ => ?_)
    refine qc_putI (fun _ => ?_)
    rw [ix_of hL.1]
    refine h _ _ ⟨?_, fun i w hw => ?_⟩ ⟨fun x j hx => (if_neg hx).trans (hf.1 x j hx), fun x j hx => (up3_ne hx).trans (hf.2 x j hx)⟩
    · rw [up2_self, i_add hL.1 (show (1 : Int32).toInt = 1 by decide) (by omega), List.length_append]; rfl
    · rw [up3_at]
      by_cases hi : i < L.length
      · rw [List.getElem?_append_left hi] at hw
        rw [va_up_ne _ _ (by omega)]; exact hL.2 i w hw
      · rw [List.getElem?_append_right (by omega)] at hw
        have hi2 : i = L.length := by
          have := (List.getElem?_eq_some_iff.mp hw).1
          simp at this; omega
        subst hi2
        simp at hw
        subst hw
        rw [va_up_self]
theorem row_LnO (hR : CXr a b d r ct fa I F E) (hrow : Is b 0 (r t) ∧ I (r t) 0 = 4 ∧ ct (r t) = t) : LnO (fun q => E q 1 4) (F (r t) 3) ((a.rw t).map fa) := by
  have this : LnO (fun q => E q 1 (ix (I (r t) 0))) (F (r t) 3) ((rowL a (ct (r t)) (ix (I (r t) 0)) (I (r t) 1)).map fa) := (hR.1 (r t) hrow.1).1
  have e0 : ix (I (r t) 0) = 4 := by rw [hrow.2.1]; decide
  rw [e0, hrow.2.2] at this
  exact this
/-- one way through the row: those that are there at P and not at R -/
theorem qc_chg (hx : CXx o a g b I F A E) (hV : AV a) (ht : inT a t) {P R : Int32} {P' R' : Int} (hP : P.toInt = P') (hR : R.toInt = R') {gf : Int32 → Int32} {L0 : List Int32} (hl0 : L0.length + ((a.rw t).filter fun n => thereB a P' n && !(thereB a R' n)).length ≤ 3000) {I1 : Nat → Nat → Int32} {A1 : Nat → Nat → Nat → Int32} (hO1 : FOC L0 o I1 A1) (hf1 : sO o I I1 A A1) {K K' : HS → Prop}
    (h : ∀ I2 A2, FOC (L0 ++ ((a.rw t).filter fun n => thereB a P' n && !(thereB a R' n)).map fun n => gf (num n)) o I2 A2 → sO o I I2 A A2 → K (cS b I2 F A2 E) → K' (cS b I2 F A2 E)) :
    wLoop (σ := Option Nat) (fun v25 x24 again22 => wIf (v25 = none) (K x24) (wRecv x24 1 v25 (w_X1_isThere v25 P x24 (fun v28 x27 => wJoin (κ := HS → Prop) (fun x30 => wGetF x30 1 1 v25 fun v31 => wAldG x30 25 v31 4 fun v32 => again22 v32 x30) (fun j29 => wIf (v28 = 0) (j29 x27) (wRecv x27 1 v25 (w_X1_isThere v25 R x27 (fun v34 x33 => wIf (v34 = 0) (wGetI x33 1 4 v25 fun v35 => wRecv x33 11 (some o) (w_X11_putFound (some o) (gf v35) x33 (fun x36 => j29 x36) X)) (j29 x33)) X)))) X))) (F (g.r t) 3) (cS b I1 F A1 E) →
    wLoop (σ := Option Nat) (fun v25 x24 again22 => wIf (v25 = none) (K' x24) (wRecv x24 1 v25 (w_X1_isThere v25 P x24 (fun v28 x27 => wJoin (κ := HS → Prop) (fun x30 => wGetF x30 1 1 v25 fun v31 => wAldG x30 25 v31 4 fun v32 => again22 v32 x30) (fun j29 => wIf (v28 = 0) (j29 x27) (wRecv x27 1 v25 (w_X1_isThere v25 R x27 (fun v34 x33 => wIf (v34 = 0) (wGetI x33 1 4 v25 fun v35 => wRecv x33 11 (some o) (w_X11_putFound (some o) (gf v35) x33 (fun x36 => j29 x36) X')) (j29 x33)) X')))) X'))) (F (g.r t) 3) (cS b I1 F A1 E) := by
  obtain ⟨hb, hs, htb, hFa, hRr, -⟩ := id hx
  obtain ⟨t1, t2, t3, t4, t5, t6, t7, t8, -⟩ := htb.2 t ht
  refine qc_loop (fun v b' I' F' A' E' => b' = b ∧ F' = F ∧ E' = E ∧ sO o I I' A A' ∧ ∃ C S, a.rw t = C ++ S ∧ LnO (fun q => E q 1 4) v (S.map g.fa) ∧ FOC (L0 ++ (C.filter fun n => thereB a P' n && !(thereB a R' n)).map fun n => gf (num n)) o I' A') ⟨rfl, rfl, rfl, hf1, [], a.rw t, rfl, row_LnO hRr ⟨t6, t7, t8⟩, by simpa using hO1⟩ (fun v b' I' F' A' E' again again' ⟨e1, e2, e3, hf, C, S, s1, s2, s3⟩ ha => ?_)
  subst e1; subst e2; subst e3
  cases v with
  | none =>
    refine qv_if (fun _ => ?_) (fun z => absurd rfl z)
    have hS0 : S = [] := List.map_eq_nil_iff.mp (LnO_none s2)
    rw [hS0, List.append_nil] at s1
    rw [← s1] at s3
    exact h _ _ s3 hf
  | some fq =>
    refine qv_if (fun z => absurd z (by simp)) (fun _ => ?_)
    obtain ⟨S', eS, hS'⟩ := LnO_some s2
    cases S with
    | nil => simp at eS
    | cons n S =>
      rw [List.map_cons] at eS
      have ef : fq = g.fa n := (List.cons.inj eS).1.symm
      have eS' : S' = S.map g.fa := (List.cons.inj eS).2.symm
      subst ef; subst eS'
      have hn : n ∈ a.rw t := by rw [s1]; exact List.mem_append_right _ List.mem_cons_self
      have s1' : a.rw t = (C ++ [n]) ++ S := by rw [s1]; simp
      have hFn := hFa t n hn
      have hno : g.fa n ≠ o := Is_ne hFn.1 hs.1 (by decide)
      have hFn' : CF1 a b' g.d g.fa I' F' A' t n := by
        unfold CF1
        rw [hf.1 _ 4 (fun z => hno z.1), hf.1 _ 5 (fun z => hno z.1), hf.1 _ 6 (fun z => hno z.1), hf.2 _ 0 (fun z => hno z.1)]; exact hFn
      have go : ∀ I2 A2, sO o I I2 A A2 → FOC (L0 ++ ((C ++ [n]).filter fun n => thereB a P' n && !(thereB a R' n)).map fun n => gf (num n)) o I2 A2 → (wGetF (cS b' I2 F' A2 E') 1 1 (some (g.fa n)) fun v31 => wAldG (cS b' I2 F' A2 E') 25 v31 4 fun v32 => again v32 (cS b' I2 F' A2 E')) → (wGetF (cS b' I2 F' A2 E') 1 1 (some (g.fa n)) fun v31 => wAldG (cS b' I2 F' A2 E') 25 v31 4 fun v32 => again' v32 (cS b' I2 F' A2 E')) := fun I2 A2 z1 z2 => by
        refine qc_getA hb (by decide) (fun _ => ?_)
        refine qc_aldG hb hFn.1 (by decide) (by decide) (fun _ => ?_)
        exact ha _ _ _ _ _ _ ⟨rfl, rfl, rfl, z1, C ++ [n], S, s1', hS', z2⟩
      refine qc_recv (fun _ => ?_)
      refine qc_isThere (fun _ => ?_)
      rw [th_fa hFn' hV hn hP]
      dsimp only [wJoin]
      cases hp : thereB a P' n with
      | false =>
        refine qv_if (fun _ => go _ _ hf ?_) (fun z => absurd rfl z)
        rw [List.filter_append, List.filter_cons_of_neg (by simp [hp])]
        simpa using s3
      | true =>
        refine qv_if (fun z => absurd z (by decide)) (fun _ => ?_)
        refine qc_recv (fun _ => ?_)
        refine qc_isThere (fun _ => ?_)
        rw [th_fa hFn' hV hn hR]
        cases hr : thereB a R' n with
        | false =>
          refine qv_if (fun _ => ?_) (fun z => absurd rfl z)
          refine qc_getI (fun _ => ?_)
          rw [num_fa hFn']
          refine qc_recv (fun _ => ?_)
          refine qc_putFound hb hs.1 s3 ?_ hf (fun I2 A2 z1 z2 => go _ _ z2 ?_)
          · rw [s1, List.filter_append, List.filter_cons_of_pos (by simp [hp, hr])] at hl0
            simp only [List.length_append, List.length_map, List.length_cons] at hl0 ⊢
            omega
          · rw [List.filter_append, List.filter_cons_of_pos (by simp [hp, hr])]
            simpa [List.append_assoc] using z1
        | true =>
          refine qv_if (fun z => absurd z (by decide)) (fun _ => go _ _ hf ?_)
          rw [List.filter_append, List.filter_cons_of_neg (by simp [hp, hr])]
          simpa using s3
theorem CXx_o (hx : CXx o a g b I F A E) {L : List Int32} (hL : FOC L o I' A') (hf : sO o I I' A A') : CXx o (a.w_fo L) g b I' F A' E := by
  have hs := hx.2.1
  have ho := hs.1
  have sI' : ∀ S : List (Nat × Nat), (11, 10) ∉ S → sI b S I I' := fun S h2 ci x j hx hj => hf.1 x j (fun z => h2 (by
    have e : ci = 11 := by rw [← hx.2, z.1]; exact ho.2
    rw [e, z.2] at hj; exact hj))
  have sA' : ∀ S : List (Nat × Nat), (11, 5) ∉ S → sA b S A A' := fun S h2 ci x j hx hj => hf.2 x j (fun z => h2 (by
    have e : ci = 11 := by rw [← hx.2, z.1]; exact ho.2
    rw [e, z.2] at hj; exact hj))
  obtain ⟨hb, -, ht, hFa, hR, hK, hN, hH, hC, hO⟩ := hx
  have hd : ∀ t, inT a t → Is b 10 (g.d t) := fun t h => (ht.2 t h).2.1
  have hfa : ∀ t n, n ∈ a.rw t → Is b 1 (g.fa n) := fun t n h => (hFa t n h).1
  refine ⟨hb, hs, CXt_eq ht hs.2.2.1 (fun _ _ h => h) (fun _ _ => rfl) (sI' _ (by decide)) sF_rf (sA' _ (by decide)) sE_rf, fun t n hn => CF1_eq (hFa t n hn) (fun _ _ h => h) (sI' _ (by decide)) sF_rf (sA' _ (by decide)), CXr_eq hR hd hfa (sI' _ (by decide)) sF_rf sE_rf, hK, CXn_eq hN hs.2.2.1 (sI' _ (by decide)), CXh_eq hH hs.2.2.2.2.1 hfa (sI' _ (by decide)) sF_rf (sA' _ (by decide)) sE_rf, CXc_eq hC hs.1 (sA' _ (by decide)) (fun c hc => ?_), ?_, hL.1, hL.2⟩
  · have hne : g.lk c ≠ o := Is_ne (hs.2.2.2.2.2.2.2.1 c hc).2.1 ho (by decide)
    exact ⟨funext fun j => hf.1 _ j (fun z => hne z.1), rfl, funext fun j => hf.2 _ j (fun z => hne z.1)⟩
  · rw [hf.2 o 1 (fun z => absurd z.2 (by decide))]; exact hO.1
theorem kc_changes (hk : KC o (N + 1) a x) (hW : AVT a) (t p q : Int32) : w_X11_changes (some o) t p q x (fun r u => OK_changes a t p q 0 r ∧ KC o N (nx_changes a t p q) u) (fun E u => (E = eIA ∧ OK_changes a t p q 1 0 ∨ E = eNE ∧ OK_changes a t p q 2 0) ∧ KC o N (nx_changes a t p q) u) := by
  have h := kc1_changes hk.1 t p q
  obtain ⟨g, b, I, F, A, E, rfl, hz, hx⟩ := hk.2
  have hV := hW.1
  have hb := hx.1
  have hs := hx.2.1
  revert h
  unfold w_X11_changes OK_changes nx_changes
  have bad1 : ∀ {PP : Prop}, ¬ (timeOk a p ∧ timeOk a q) → PP ∧ KC1 o N (nx1_changes a.1 t p q) (cS (b.B.wC (b.B.c - 1) (b.B.z - 6), b.2) I F A E) → (eIA = eIA ∧ EX (chgCd a t p q) (num (chgL a (ix t) (timeOf a p) (timeOf a q)).length) 1 0 ∨ eIA = eNE ∧ EX (chgCd a t p q) (num (chgL a (ix t) (timeOf a p) (timeOf a q)).length) 2 0) ∧ KC o N (if chgCd a t p q = 0 then a.w_fo (chgL a (ix t) (timeOf a p) (timeOf a q)) else a) (cS (b.B.wC (b.B.c - 1) (b.B.z - 6), b.2) I F A E) := fun {PP} hn h => by
    have e : chgCd a t p q = 1 := if_neg hn
    rw [if_neg (by rw [e]; decide)]
    exact ⟨Or.inl ⟨rfl, EX_bad e (by decide)⟩, h.2, CX_wC hz hx⟩
  refine qc_recv (fun _ => ?_)
  refine qc_requireTime hx (fun c => bad1 (fun z => c z.1)) (fun c1 => ?_)
  refine qc_recv (fun _ => ?_)
  refine qc_requireTime hx (fun c => bad1 (fun z => c z.2)) (fun c2 => ?_)
  refine qc_recv (fun _ => ?_)
  refine qc_tableOf hx (fun c h => ?_) (fun c3 => ?_)
  · have e : chgCd a t p q = 2 := (if_pos ⟨c1, c2⟩).trans (if_neg c)
    rw [if_neg (by rw [e]; decide)]
    exact ⟨Or.inr ⟨rfl, EX_bad e (by decide)⟩, h.2, CX_wC hz hx⟩
  · have e : chgCd a t p q = 0 := (if_pos ⟨c1, c2⟩).trans (if_pos c3)
    rw [if_pos e]
    have hti := tab_in c3
    obtain ⟨t1, t2, t3, t4, t5, t6, t7, t8, -⟩ := hx.2.2.1.2 _ hti
    have hle := chg_le hV (ix t) (timeOf a p) (timeOf a q)
    unfold chgL at hle
    simp only [List.length_append, List.length_map] at hle
    refine qc_getF hb (by decide) (fun _ => ?_)
    rw [hs.2.1]
    refine qc_recv (fun _ => ?_)
    refine qc_timeOf hx (fun P hP => ?_)
    refine qc_getF hb (by decide) (fun _ => ?_)
    rw [hs.2.1]
    refine qc_recv (fun _ => ?_)
    refine qc_timeOf hx (fun R hR => ?_)
    refine qc_putI (fun _ => ?_)
    have o1 : FOC [] o (up2 I o 10 0) A := ⟨by rw [up2_self]; decide, fun i v hv => by simp at hv⟩
    have f1 : sO o I (up2 I o 10 0) A A := ⟨fun x j hx => if_neg hx, fun _ _ _ => rfl⟩
    generalize up2 I o 10 0 = I1 at o1 f1 ⊢
    refine qc_getF hb (by decide) (fun _ => ?_)
    rw [t5]
    refine qc_getF hb (by decide) (fun _ => ?_)
    refine qc_chg hx hV hti (gf := fun v => v) hR hP (L0 := []) (by simp only [List.length_nil]; omega) o1 f1 (fun I2 A2 o2 f2 => ?_)
    refine qc_getF hb (by decide) (fun _ => ?_)
    rw [t5]
    refine qc_getF hb (by decide) (fun _ => ?_)
    refine qc_chg hx hV hti (gf := fun v => (-1 : Int32) - v) hP hR ?_ o2 f2 (fun I3 A3 o3 f3 => ?_)
    · simp only [List.nil_append, List.length_map]; omega
    refine qc_getI (fun _ h => ?_)
    have eL : ([] ++ List.map (fun n => (fun v => v) (num n)) ((a.rw (ix t)).filter fun n => thereB a (timeOf a q) n && !(thereB a (timeOf a p) n))) ++ List.map (fun n => (fun v => (-1 : Int32) - v) (num n)) ((a.rw (ix t)).filter fun n => thereB a (timeOf a p) n && !(thereB a (timeOf a q) n)) = chgL a (ix t) (timeOf a p) (timeOf a q) := by
      unfold chgL; rw [List.nil_append]
    rw [eL] at o3
    exact ⟨EX_ok e (num_of o3.1), h.2, _, _, _, _, _, _, rfl, hz, CXx_o hx o3 f3⟩
end VM1
