set_option linter.unusedVariables false
set_option linter.unusedSimpArgs false
/-! the class: cursors -/
section VL1
variable {b : CT} {I I' : Nat → Nat → Int32} {F F' : Nat → Nat → Option Nat} {A A' : Nat → Nat → Nat → Int32} {E E' : Nat → Nat → Nat → Option Nat} {o t n n' k f p w j ci q s h l N : Nat} {a : AS} {g : CGs} {lk d r ct fa : Nat → Nat} {x y : HS} {X X' : String → HS → Prop} {Q Q' : HS → Prop} {QI QI' : Int32 → HS → Prop} {QF QF' : Option Nat → HS → Prop} {m : Int32} {T : Int} {la : Option Nat} {vs : Nat → Int32} {ov : Bool}
theorem no5 (S : List (Nat × Nat)) (hS : S.all (fun p => p.1 != 5) = true) : ∀ j, (5, j) ∉ S := fun j z => by have := List.all_eq_true.mp hS _ z; simp at this
/-- only a look, what has been looked at, and whether a cursor is open have changed -/
theorem CXx_cur (hx : CXx o a g b I F A E) (hq : Is b 5 q) {c' : AC} (hI : ∀ x, x ≠ q → ∀ j, ¬ (x = o ∧ j = 11) → I' x j = I x j) (hF : ∀ x, x ≠ q → F' x = F x) (hA : ∀ x, x ≠ q → ∀ j, ¬ (x = o ∧ j = 4) → A' x j = A x j) (hC : CXc (a.1, a.2.1, c', a.2.2.2) o g.lk g.d g.fa I' F' A') : CXx o (a.1, a.2.1, c', a.2.2.2) g b I' F' A' E := by
  obtain ⟨hb, hs, ht, hFa, hR, hK, hN, hH, -, hO⟩ := hx
  have ho := hs.1
  have sI' : ∀ S : List (Nat × Nat), S.all (fun p => p.1 != 5) = true → (11, 11) ∉ S → sI b S I I' := fun S h1 h2 ci x j hx hj => hI x (fun z => no5 S h1 j (by rw [← hq.2, ← z, hx.2]; exact hj)) j (fun z => h2 (by
    have e : ci = 11 := by rw [← hx.2, z.1]; exact ho.2
    rw [e, z.2] at hj; exact hj))
  have sF' : ∀ S : List (Nat × Nat), S.all (fun p => p.1 != 5) = true → sF b S F F' := fun S h1 ci x j hx hj => by rw [hF x (fun z => no5 S h1 j (by rw [← hq.2, ← z, hx.2]; exact hj))]
  have sA' : ∀ S : List (Nat × Nat), S.all (fun p => p.1 != 5) = true → (11, 4) ∉ S → sA b S A A' := fun S h1 h2 ci x j hx hj => hA x (fun z => no5 S h1 j (by rw [← hq.2, ← z, hx.2]; exact hj)) j (fun z => h2 (by
    have e : ci = 11 := by rw [← hx.2, z.1]; exact ho.2
    rw [e, z.2] at hj; exact hj))
  have hd : ∀ t, inT a t → Is b 10 (g.d t) := fun t h => (ht.2 t h).2.1
  have hfa : ∀ t n, n ∈ a.rw t → Is b 1 (g.fa n) := fun t n h => (hFa t n h).1
  exact ⟨hb, CXs_eq hs (fun _ _ h => h) (fun _ h => h) (sF' _ (by decide)) sE_rf, CXt_eq ht hs.2.2.1 (fun _ _ h => h) (fun _ _ => rfl) (sI' _ (by decide) (by decide)) (sF' _ (by decide)) (sA' _ (by decide) (by decide)) sE_rf, fun t n hn => CF1_eq (hFa t n hn) (fun _ _ h => h) (sI' _ (by decide) (by decide)) (sF' _ (by decide)) (sA' _ (by decide) (by decide)), CXr_eq hR hd hfa (sI' _ (by decide) (by decide)) (sF' _ (by decide)) sE_rf, CXk_eq hK hs.2.2.1 (fun _ _ h => h) sE_rf, CXn_eq hN hs.2.2.1 (sI' _ (by decide) (by decide)), CXh_eq hH hs.2.2.2.2.1 hfa (sI' _ (by decide) (by decide)) (sF' _ (by decide)) (sA' _ (by decide) (by decide)) sE_rf, hC, CXo_eq hO hs.1 (sI' _ (by decide) (by decide)) (sA' _ (by decide) (by decide))⟩
theorem qc_requireOpen (hx : CXx o a g b I F A E) {c : Int32} (k1 : ¬ (0 ≤ c.toInt ∧ c.toInt < 10) → X eIA (cS (b.B.wC (b.B.c - 1) (b.B.z - 6), b.2) I F A E) → X' eIA (cS (b.B.wC (b.B.c - 1) (b.B.z - 6), b.2) I F A E)) (k2 : 0 ≤ c.toInt ∧ c.toInt < 10 → ¬ a.op (ix c) = true → X eNE (cS (b.B.wC (b.B.c - 1) (b.B.z - 6), b.2) I F A E) → X' eNE (cS (b.B.wC (b.B.c - 1) (b.B.z - 6), b.2) I F A E)) (k0 : 0 ≤ c.toInt ∧ c.toInt < 10 → a.op (ix c) = true → Q (cS b I F A E) → Q' (cS b I F A E)) : w_X11_requireOpen (some o) c (cS b I F A E) Q X → w_X11_requireOpen (some o) c (cS b I F A E) Q' X' := by
  unfold w_X11_requireOpen
  have e9 : (9 : Int32).toInt = 9 := by decide
  have e0 : (0 : Int32).toInt = 0 := by decide
  refine qc_range (fun c1 c2 => ?_) (fun hn => k1 (fun y => hn (by rw [e9, e0]; omega)))
  rw [e0] at c1
  rw [e9] at c2
  have hr : 0 ≤ c.toInt ∧ c.toInt < 10 := ⟨c1, by omega⟩
  have hop := (hx.2.2.2.2.2.2.2.2.1 (ix c) (by have := ix_int hr.1; omega)).1
  refine qc_getA hx.1 (by decide) (fun _ => ?_)
  refine qc_ald hx.1 hx.2.1.1 (by decide) (by decide) (fun _ => ?_)
  exact qv_if (fun z => qc_throw (k2 hr (fun y => hop.mpr y z))) (fun z => k0 hr (hop.mp z))
theorem kc_close (hk : KC o (N + 1) a x) (hW : AVT a) (c : Int32) : w_X11_close (some o) c x (fun r u => OK_close a c 0 r ∧ KC o N (nx_close a c) u) (fun E u => (E = eIA ∧ OK_close a c 1 0 ∨ E = eNE ∧ OK_close a c 2 0) ∧ KC o N (nx_close a c) u) := by
  have h := kc1_close hk.1 c
  obtain ⟨g, b, I, F, A, E, rfl, hz, hx⟩ := hk.2
  have hb := hx.1
  have hs := hx.2.1
  have hC := hx.2.2.2.2.2.2.2.2.1
  revert h
  unfold w_X11_close OK_close nx_close
  refine qc_recv (fun _ => ?_)
  refine qc_requireOpen hx (fun c1 h => ?_) (fun c1 c2 h => ?_) (fun c1 c2 => ?_)
  · have e : curCd a c = 1 := if_neg c1
    rw [if_neg (by rw [e]; decide)]
    exact ⟨Or.inl ⟨rfl, EX_bad e (by decide)⟩, h.2, CX_wC hz hx⟩
  · have e : curCd a c = 2 := (if_pos c1).trans (if_neg c2)
    rw [if_neg (by rw [e]; decide)]
    exact ⟨Or.inr ⟨rfl, EX_bad e (by decide)⟩, h.2, CX_wC hz hx⟩
  · have e : curCd a c = 0 := (if_pos c1).trans (if_pos c2)
    rw [if_pos e]
    have hc10 : ix c < 10 := by have := ix_int c1.1; omega
    obtain ⟨k1, k2, k3⟩ := hs.2.2.2.2.2.2.2.1 _ hc10
    refine qc_getA hb (by decide) (fun _ => ?_)
    refine qc_astZ hb hs.1 (by decide) (fun _ => ?_)
    refine qc_getA hb (by decide) (fun _ => ?_)
    refine qc_aldG hb hs.1 (by decide) (by decide) (fun _ => ?_)
    rw [k1]
    refine qc_getI (fun _ h => ?_)
    refine ⟨EX_ok e ((hC _ hc10).2 c2).2, h.2, _, _, _, _, _, _, rfl, hz, CXx_cur hx k2 (fun _ _ _ _ => rfl) (fun _ _ => rfl) (fun x _ j hj => up3_ne hj) (fun c' hc' => ?_)⟩
    obtain ⟨y1, y2⟩ := hC c' hc'
    have e4 : up3 A o 4 (ix c) 0 o 4 = va_up (A o 4) (ix c) 0 := up3_at
    rw [e4]
    show (va_up (A o 4) (ix c) 0 c' ≠ 0 ↔ va_up a.op (ix c) false c' = true) ∧ (va_up a.op (ix c) false c' = true → _)
    by_cases ec : c' = ix c
    · subst ec
      rw [va_up_self, va_up_self]
      exact ⟨by simp, fun z => absurd z (by decide)⟩
    · rw [va_up_ne _ _ ec, va_up_ne _ _ ec]
      refine ⟨y1, fun hop => ?_⟩
      obtain ⟨z1, z2⟩ := y2 hop
      have hne : g.lk c' ≠ o := Is_ne (hs.2.2.2.2.2.2.2.1 c' hc').2.1 hs.1 (by decide)
      exact ⟨Lk1_eq z1 (fun _ _ => rfl) (fun _ _ => rfl) (fun k _ => by rw [up3_ne (fun z => hne z.1)]), z2⟩
/-- behind a cursor's look -/
theorem qc_tailC (hb : CB b) (ho : Is b 11 o) {c : Int32} {q : Nat} (hE : E o 3 (ix c) = some q) (hq : Is b 5 q) {v : Option Nat} {an : Int32} (hv : (v = none ∧ an = -1) ∨ ∃ f, v = some f ∧ Is b 1 f ∧ I f 4 = an)
    (h : ∀ I2, (∀ x j, ¬ (x = q ∧ j = 7) → ¬ (x = o ∧ j = 11) → I2 x j = I x j) → QI an (cS b I2 F A E) → QI' an (cS b I2 F A E)) :
    (wGetF (cS b I F A E) 11 3 (some o) fun v7 => wAldG (cS b I F A E) 26 v7 c fun v8 => wRecv (cS b I F A E) 5 v8 (w_X5_takeLookedAt v8 (cS b I F A E) (fun v10 x9 => wPutI x9 11 11 (some o) v10 fun x11 => w_X11_numberOf v x11 (fun v13 x12 => QI v13 x12) X) X)) →
    (wGetF (cS b I F A E) 11 3 (some o) fun v7 => wAldG (cS b I F A E) 26 v7 c fun v8 => wRecv (cS b I F A E) 5 v8 (w_X5_takeLookedAt v8 (cS b I F A E) (fun v10 x9 => wPutI x9 11 11 (some o) v10 fun x11 => w_X11_numberOf v x11 (fun v13 x12 => QI' v13 x12) X') X')) := by
  refine qc_getA hb (by decide) (fun _ => ?_)
  refine qc_aldG hb ho (by decide) (by decide) (fun _ => ?_)
  rw [hE]
  refine qc_recv (fun _ => ?_)
  refine qc_take ?_
  refine qc_putI (fun _ => ?_)
  have hI2 : ∀ x j, ¬ (x = q ∧ j = 7) → ¬ (x = o ∧ j = 11) → up2 (up2 I q 7 0) o 11 (I q 7) x j = I x j := fun x j z1 z2 => (if_neg z2).trans (if_neg z1)
  have h' := h _ hI2
  rcases hv with ⟨e1, e2⟩ | ⟨f, e1, e2, e3⟩
  · subst e1; subst e2
    exact qc_numberOf (fun _ => h') (fun f e => absurd e (by simp))
  · subst e1
    refine qc_numberOf (fun e => absurd e (by simp)) (fun f' e => ?_)
    cases e
    have e4 : up2 (up2 I q 7 0) o 11 (I q 7) f 4 = an := by rw [hI2 f 4 (fun z => absurd z.2 (by decide)) (fun z => absurd z.2 (by decide))]; exact e3
    rw [e4]; exact h'
theorem kc_next (hk : KC o (N + 1) a x) (hW : AVT a) (c : Int32) : w_X11_next (some o) c x (fun r u => OK_next a c 0 r ∧ KC o N (nx_next a c) u) (fun E u => (E = eIA ∧ OK_next a c 1 0 ∨ E = eNE ∧ OK_next a c 2 0) ∧ KC o N (nx_next a c) u) := by
  have h := kc1_next hk.1 c
  obtain ⟨g, b, I, F, A, E, rfl, hz, hx⟩ := hk.2
  have hV := hW.1
  have hb := hx.1
  have hs := hx.2.1
  have hC := hx.2.2.2.2.2.2.2.2.1
  revert h
  unfold w_X11_next OK_next nx_next
  refine qc_recv (fun _ => ?_)
  refine qc_requireOpen hx (fun c1 h => ?_) (fun c1 c2 h => ?_) (fun c1 c2 => ?_)
  · have e : curCd a c = 1 := if_neg c1
    rw [if_neg (by rw [e]; decide)]
    exact ⟨Or.inl ⟨rfl, EX_bad e (by decide)⟩, h.2, CX_wC hz hx⟩
  · have e : curCd a c = 2 := (if_pos c1).trans (if_neg c2)
    rw [if_neg (by rw [e]; decide)]
    exact ⟨Or.inr ⟨rfl, EX_bad e (by decide)⟩, h.2, CX_wC hz hx⟩
  · have e : curCd a c = 0 := (if_pos c1).trans (if_pos c2)
    rw [if_pos e]
    have hc10 : ix c < 10 := by have := ix_int c1.1; omega
    obtain ⟨k1, k2, k3⟩ := hs.2.2.2.2.2.2.2.1 _ hc10
    obtain ⟨lk1, lk2⟩ := (hC _ hc10).2 c2
    have hqo : g.lk (ix c) ≠ o := Is_ne k2 hs.1 (by decide)
    have other : ∀ c', c' < 10 → c' ≠ ix c → g.lk c' ≠ g.lk (ix c) := fun c' hc' hne z => hne (hs.2.2.2.2.2.2.2.2.1 c' _ hc' hc10 z)
    have elk : nextO a (ix c) = lkO a (a.ct (ix c)) (a.ov (ix c)) (a.cm (ix c)) (a.ci (ix c)) (a.cl (ix c)) (a.cv (ix c)) := rfl
    refine qc_getA hb (by decide) (fun _ => ?_)
    refine qc_aldG hb hs.1 (by decide) (by decide) (fun _ => ?_)
    rw [k1]
    refine qc_recv (fun _ => ?_)
    -- another cursor is as it was
    have oth : ∀ (c' : Nat) (I2 : Nat → Nat → Int32) (F2 : Nat → Nat → Option Nat), c' < 10 → c' ≠ ix c → (∀ x, x ≠ g.lk (ix c) → ∀ j, ¬ (x = o ∧ j = 11) → I2 x j = I x j) → (∀ x, x ≠ g.lk (ix c) → F2 x = F x) → (A o 4 c' ≠ 0 ↔ a.op c' = true) ∧ (a.op c' = true → Lk1 a (g.lk c') (a.ct c') (a.ov c') (a.cm c') (a.ci c') (a.cl c') (a.cv c') g.d g.fa I2 F2 A ∧ I2 (g.lk c') 0 = a.cd c') := fun c' I2 F2 hc' hne z1 z2 => by
      obtain ⟨y1, y2⟩ := hC c' hc'
      have h1 := other c' hc' hne
      have h2 : g.lk c' ≠ o := Is_ne (hs.2.2.2.2.2.2.2.1 c' hc').2.1 hs.1 (by decide)
      refine ⟨y1, fun hop => ?_⟩
      obtain ⟨w1, w2⟩ := y2 hop
      exact ⟨Lk1_eq w1 (fun j _ => z1 _ h1 j (fun z => h2 z.1)) (fun j _ => by rw [z2 _ h1]) (fun _ _ => rfl), by rw [z1 _ h1 0 (fun z => h2 z.1)]; exact w2⟩
    refine qc_advance hx hV k2 lk1 (fun e1 => ?_) (fun I2 e0 e1 e2 e3 => ?_) (fun I2 n e0 e1 hn hask e2 e3 => ?_)
    · have en : nextO a (ix c) = none := by rw [elk]; unfold lkO; rw [e1]; rfl
      refine qc_tailC hb hs.1 k1 k2 (an := -1) (Or.inl ⟨rfl, rfl⟩) (fun I3 h3 h => ?_)
      unfold nextA
      rw [en]
      have hI : ∀ x, x ≠ g.lk (ix c) → ∀ j, ¬ (x = o ∧ j = 11) → I3 x j = I x j := fun x hx j hj => h3 x j (fun z => hx z.1) hj
      have hq0 : ∀ j, j ≠ 7 → I3 (g.lk (ix c)) j = I (g.lk (ix c)) j := fun j hj => h3 _ j (fun z => hj z.2) (fun z => hqo z.1)
      refine ⟨EX_ok e rfl, h.2, _, _, _, _, _, _, rfl, hz, CXx_cur hx k2 hI (fun _ _ => rfl) (fun _ _ _ _ => rfl) (fun c' hc' => ?_)⟩
      by_cases ec : c' = ix c
      · subst ec
        refine ⟨(hC _ hc10).1, fun _ => ⟨?_, by rw [hq0 0 (by decide)]; exact lk2⟩⟩
        have := Lk1_eq lk1 (I' := I3) (F' := F) (A' := A) (fun j hj => hq0 j (fun z => by rw [z] at hj; exact absurd hj (by decide))) (fun _ _ => rfl) (fun _ _ => rfl)
        show Lk1 a (g.lk (ix c)) (a.ct (ix c)) (va_up a.ov (ix c) true (ix c)) (a.cm (ix c)) (a.ci (ix c)) (a.cl (ix c)) (a.cv (ix c)) g.d g.fa I3 F A
        rw [va_up_self, ← e1]; exact this
      · have := oth c' I3 F hc' ec hI (fun _ _ => rfl)
        show (A o 4 c' ≠ 0 ↔ a.op c' = true) ∧ (a.op c' = true → Lk1 a (g.lk c') (a.ct c') (va_up a.ov (ix c) true c') (a.cm c') (a.ci c') (a.cl c') (a.cv c') g.d g.fa I3 F A ∧ I3 (g.lk c') 0 = a.cd c')
        rw [va_up_ne _ _ ec]; exact this
    · have en : nextO a (ix c) = none := elk.trans e1
      refine qc_tailC hb hs.1 k1 k2 (an := -1) (Or.inl ⟨rfl, rfl⟩) (fun I3 h3 h => ?_)
      unfold nextA
      rw [en]
      have hI : ∀ x, x ≠ g.lk (ix c) → ∀ j, ¬ (x = o ∧ j = 11) → I3 x j = I x j := fun x hx j hj => by rw [h3 x j (fun z => hx z.1) hj, e2.1 x hx]
      have hq0 : ∀ j, j ≠ 7 → j ≠ 6 → I3 (g.lk (ix c)) j = I (g.lk (ix c)) j := fun j hj hj6 => by
        rw [h3 _ j (fun z => hj z.2) (fun z => hqo z.1)]
        exact e2.2 j (by simp [hj, hj6])
      have hq6 : I3 (g.lk (ix c)) 6 = 1 := by rw [h3 _ 6 (fun z => absurd z.2 (by decide)) (fun z => hqo z.1)]; exact e3
      refine ⟨EX_ok e rfl, h.2, _, _, _, _, _, _, rfl, hz, CXx_cur hx k2 hI (fun _ _ => rfl) (fun _ _ _ _ => rfl) (fun c' hc' => ?_)⟩
      by_cases ec : c' = ix c
      · subst ec
        refine ⟨(hC _ hc10).1, fun _ => ⟨?_, by rw [hq0 0 (by decide) (by decide)]; exact lk2⟩⟩
        obtain ⟨y1, y2, y3, y4, y5, y6, y7, y8⟩ := lk1
        show Lk1 a (g.lk (ix c)) (a.ct (ix c)) (va_up a.ov (ix c) true (ix c)) (a.cm (ix c)) (a.ci (ix c)) (a.cl (ix c)) (a.cv (ix c)) g.d g.fa I3 F A
        rw [va_up_self]
        exact ⟨y1, by rw [hq6]; simp, y3, by rw [hq0 3 (by decide) (by decide)]; exact y4, by rw [hq0 4 (by decide) (by decide)]; exact y5, y6, y7, y8⟩
      · have := oth c' I3 F hc' ec hI (fun _ _ => rfl)
        show (A o 4 c' ≠ 0 ↔ a.op c' = true) ∧ (a.op c' = true → Lk1 a (g.lk c') (a.ct c') (va_up a.ov (ix c) true c') (a.cm c') (a.ci c') (a.cl c') (a.cv c') g.d g.fa I3 F A ∧ I3 (g.lk c') 0 = a.cd c')
        rw [va_up_ne _ _ ec]; exact this
    · have en : nextO a (ix c) = some n := elk.trans e1
      have hFn := hx.2.2.2.1 _ n hn
      have hnq : g.fa n ≠ g.lk (ix c) := Is_ne hFn.1 k2 (by decide)
      refine qc_tailC hb hs.1 k1 k2 (an := num n) (Or.inr ⟨g.fa n, rfl, hFn.1, ?_⟩) (fun I3 h3 h => ?_)
      · rw [e2.1 _ hnq]; exact num_fa hFn
      unfold nextA
      rw [en]
      have hI : ∀ x, x ≠ g.lk (ix c) → ∀ j, ¬ (x = o ∧ j = 11) → I3 x j = I x j := fun x hx j hj => by rw [h3 x j (fun z => hx z.1) hj, e2.1 x hx]
      have hF : ∀ x, x ≠ g.lk (ix c) → up2 F (g.lk (ix c)) 5 (some (g.fa n)) x = F x := fun x hx => funext fun j => if_neg (fun z => hx z.1)
      refine ⟨EX_ok e rfl, h.2, _, _, _, _, _, _, rfl, hz, CXx_cur hx k2 hI hF (fun _ _ _ _ => rfl) (fun c' hc' => ?_)⟩
      by_cases ec : c' = ix c
      · subst ec
        have hq0 : ∀ j, j ≠ 7 → I3 (g.lk (ix c)) j = I2 (g.lk (ix c)) j := fun j hj => h3 _ j (fun z => hj z.2) (fun z => hqo z.1)
        refine ⟨(hC _ hc10).1, fun _ => ⟨?_, ?_⟩⟩
        · show Lk1 a (g.lk (ix c)) (a.ct (ix c)) (a.ov (ix c)) (a.cm (ix c)) (a.ci (ix c)) (va_up a.cl (ix c) (some n) (ix c)) (a.cv (ix c)) g.d g.fa I3 _ A
          rw [va_up_self, e0]
          rw [e0] at lk1
          exact Lk1_eq (Lk1_adv lk1 e2 hn (ask_fit hask)) (fun j hj => hq0 j (fun z => by rw [z] at hj; exact absurd hj (by decide))) (fun _ _ => rfl) (fun _ _ => rfl)
        · show I3 (g.lk (ix c)) 0 = va_up a.cd (ix c) (a.cd (ix c) + 1) (ix c)
          rw [va_up_self, hq0 0 (by decide), e3, lk2]
      · have := oth c' I3 _ hc' ec hI hF
        show (A o 4 c' ≠ 0 ↔ a.op c' = true) ∧ (a.op c' = true → Lk1 a (g.lk c') (a.ct c') (a.ov c') (a.cm c') (a.ci c') (va_up a.cl (ix c) (some n) c') (a.cv c') g.d g.fa I3 _ A ∧ I3 (g.lk c') 0 = va_up a.cd (ix c) (a.cd (ix c) + 1) c')
        rw [va_up_ne _ _ ec, va_up_ne _ _ ec]; exact this
theorem kc_open (hk : KC o (N + 1) a x) (hW : AVT a) (t m q : Int32) : w_X11_open (some o) t m q x (fun r u => OK_open a t m q 0 r ∧ KC o N (nx_open a t m q) u) (fun E u => (E = eIA ∧ OK_open a t m q 1 0 ∨ E = eNE ∧ OK_open a t m q 2 0 ∨ E = eIS ∧ OK_open a t m q 3 0) ∧ KC o N (nx_open a t m q) u) := by
  have h := kc1_open hk.1 t m q
  obtain ⟨g, b, I, F, A, E, rfl, hz, hx⟩ := hk.2
  have hV := hW.1
  have hb := hx.1
  have hs := hx.2.1
  have hC := hx.2.2.2.2.2.2.2.2.1
  revert h
  unfold w_X11_open OK_open nx_open
  refine qc_recv (fun _ => ?_)
  refine qc_requireLook hx (fun c1 h => ?_) (fun c1 c2 h => ?_) (fun c1 c2 => ?_)
  · have e : openCd a t m q = 1 := if_neg c1
    rw [if_neg (by rw [e]; decide)]
    exact ⟨Or.inl ⟨rfl, EX_bad e (by decide)⟩, h.2, CX_wC hz hx⟩
  · have e : openCd a t m q = 2 := (if_pos c1).trans (if_neg c2)
    rw [if_neg (by rw [e]; decide)]
    exact ⟨Or.inr (Or.inl ⟨rfl, EX_bad e (by decide)⟩), h.2, CX_wC hz hx⟩
  · have ecd : openCd a t m q = if freeC a.op = 10 then 3 else 0 := (if_pos c1).trans (if_pos c2)
    refine qc_recv (fun _ => ?_)
    unfold w_X11_freeCursor
    refine qc_loop0 (fun v => ∃ i : Nat, v.toInt = (i : Int) ∧ i ≤ 10 ∧ ∀ k, k < i → a.op k = true) ⟨0, by decide, by omega, fun k hk => absurd hk (by omega)⟩ (fun v again again' ⟨i, i1, i2, i3⟩ ha => ?_)
    refine qv_if (fun z => ?_) (fun z => ?_)
    · simp only [i32, Int32.reduceToInt] at z
      have e10 : i = 10 := by omega
      have e : openCd a t m q = 3 := by rw [ecd, if_pos (freeC_eq (Nat.le_refl _) (fun k hk => i3 k (by omega)) (Or.inl rfl))]
      refine qv_if (fun _ => ?_) (fun z => absurd rfl z)
      refine qc_throw (fun h => ?_)
      rw [if_neg (by rw [e]; decide)]
      exact ⟨Or.inr (Or.inr ⟨rfl, EX_bad e (by decide)⟩), h.2, CX_wC hz hx⟩
    · simp only [i32, Int32.reduceToInt] at z
      have hi10 : i < 10 := by omega
      refine qc_getA hb (by decide) (fun _ => ?_)
      refine qc_ald hb hs.1 (by decide) (by decide) (fun _ => ?_)
      rw [ix_of i1]
      refine qv_if (fun z2 => ?_) (fun z2 => ?_)
      · have hop : a.op i = false := by
          cases hq : a.op i with
          | false => rfl
          | true => exact absurd z2 ((hC i hi10).1.mpr hq)
        have hfc : freeC a.op = i := freeC_eq (by omega) i3 (Or.inr hop)
        have e : openCd a t m q = 0 := by rw [ecd, hfc, if_neg (by omega)]
        rw [if_pos e, hfc]
        obtain ⟨k1, k2, k3⟩ := hs.2.2.2.2.2.2.2.1 i hi10
        have hqo : g.lk i ≠ o := Is_ne k2 hs.1 (by decide)
        refine qv_if (fun z => ?_) (fun _ => ?_)
        · have : v.toInt = -1 := by rw [z]; decide
          omega
        refine qc_getA hb (by decide) (fun _ => ?_)
        refine qc_aldG hb hs.1 (by decide) (by decide) (fun _ => ?_)
        rw [ix_of i1, k1]
        refine qc_recv (fun _ => ?_)
        refine qc_beginLook hx hV k2 (fun c => absurd c1 c) (fun _ c => absurd c2 c) (fun _ _ I1 F1 A1 q1 q2 q3 => ?_)
        refine qc_getA hb (by decide) (fun _ => ?_)
        refine qc_astZ hb hs.1 (by decide) (fun _ h => ?_)
        rw [ix_of i1]
        rw [ix_of i1] at h
        refine ⟨EX_ok e (num_of i1), h.2, _, _, _, _, _, _, rfl, hz, CXx_cur hx k2 (fun x hx j _ => by rw [q1.1 x hx]) q1.2.1 (fun x hx j hj => by rw [up3_ne hj, q1.2.2 x hx]) (fun c' hc' => ?_)⟩
        have e4 : up3 A1 o 4 i 1 o 4 = va_up (A o 4) i 1 := by rw [up3_at, q1.2.2 o (fun z => hqo z.symm)]
        rw [e4]
        by_cases ec : c' = i
        · subst ec
          have hA5 : ∀ k, up3 A1 o 4 c' 1 (g.lk c') 1 k = A1 (g.lk c') 1 k := fun k => by rw [up3_ne (fun z => hqo z.1)]
          show (va_up (A o 4) c' 1 c' ≠ 0 ↔ va_up a.op c' true c' = true) ∧ (va_up a.op c' true c' = true → Lk1 a (g.lk c') (va_up a.ct c' (ix t) c') (va_up a.ov c' false c') (va_up a.cm c' m c') (va_up a.ci c' (timeOf a q) c') (va_up a.cl c' none c') (va_up a.cv c' a.vv c') g.d g.fa I1 F1 _ ∧ I1 (g.lk c') 0 = va_up a.cd c' 0 c')
          simp only [va_up_self]
          exact ⟨by simp, fun _ => ⟨Lk1_eq q2 (fun _ _ => rfl) (fun _ _ => rfl) (fun k _ => hA5 k), q3⟩⟩
        · obtain ⟨y1, y2⟩ := hC c' hc'
          have h1 : g.lk c' ≠ g.lk i := fun z => ec (hs.2.2.2.2.2.2.2.2.1 c' i hc' hi10 z)
          have h2 : g.lk c' ≠ o := Is_ne (hs.2.2.2.2.2.2.2.1 c' hc').2.1 hs.1 (by decide)
          show (va_up (A o 4) i 1 c' ≠ 0 ↔ va_up a.op i true c' = true) ∧ (va_up a.op i true c' = true → Lk1 a (g.lk c') (va_up a.ct i (ix t) c') (va_up a.ov i false c') (va_up a.cm i m c') (va_up a.ci i (timeOf a q) c') (va_up a.cl i none c') (va_up a.cv i a.vv c') g.d g.fa I1 F1 _ ∧ I1 (g.lk c') 0 = va_up a.cd i 0 c')
          simp only [va_up_ne _ _ ec]
          refine ⟨y1, fun hop => ?_⟩
          obtain ⟨w1, w2⟩ := y2 hop
          exact ⟨Lk1_eq w1 (fun j _ => by rw [q1.1 _ h1]) (fun j _ => by rw [q1.2.1 _ h1]) (fun k _ => by rw [up3_ne (fun z => h2 z.1), q1.2.2 _ h1]), by rw [q1.1 _ h1]; exact w2⟩
      · refine ha _ ⟨i + 1, by rw [i_add i1 (show (1 : Int32).toInt = 1 by decide) (by omega)]; omega, by omega, fun k hk => ?_⟩
        by_cases ek : k = i
        · rw [ek]; exact (hC i hi10).1.mp z2
        · exact i3 k (by omega)
end VL1
