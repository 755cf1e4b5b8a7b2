set_option linter.unusedVariables false
set_option linter.unusedSimpArgs false
/-! the class: a fact comes -/
/-- what coming leaves as it was -/
def comI (a : AS) (g : CGs) (F F' : Nat → Nat → Option Nat) (A A' : Nat → Nat → Nat → Int32) (E E' : Nat → Nat → Nat → Option Nat) : Prop := (∀ t n, n ∈ a.rw t → F' (g.fa n) 3 = F (g.fa n) 3) ∧ (a.mk = [] → E' g.h = E g.h ∧ A' g.h = A g.h)
section VP1
variable {b b' : CT} {I I' : Nat → Nat → Int32} {F F' : Nat → Nat → Option Nat} {A A' : Nat → Nat → Nat → Int32} {E E' : Nat → Nat → Nat → Option Nat} {o t n n' k f p w j ci q s h l N : Nat} {a : AS} {g : CGs} {cs : Nat → Int32} {d r ct fa : Nat → Nat} {x y : HS} {X X' : String → HS → Prop} {Q Q' : HS → Prop} {QI QI' : Int32 → HS → Prop} {QF QF' : Option Nat → HS → Prop}
theorem CXr_b (hx : CXr a b d r ct fa I F E) (hb : ∀ ci x, Is b ci x → Is b' ci x) (h0 : ∀ c, Is b' 0 c → Is b 0 c) : CXr a b' d r ct fa I F E := by
  obtain ⟨h1, h2, h3, h4⟩ := hx
  refine ⟨fun c hc => h1 c (h0 c hc), ⟨fun c hc => h2.1 c (h0 c hc), fun c c' hc hc' => h2.2 c c' (h0 c hc) (h0 c' hc')⟩, ⟨fun t k x ht hk hx => ?_, h3.2⟩, fun t k n ht hk hne hn => ?_⟩
  · obtain ⟨y1, y2, y3, y4⟩ := h3.1 t k x ht hk hx
    refine ⟨hb _ _ y1, y2, y3, fun i hi => ?_⟩
    obtain ⟨C, hC, hm⟩ := y4 i hi
    exact ⟨C, hC, fun c => (hm c).trans ⟨fun z => ⟨hb _ _ z.1, z.2⟩, fun z => ⟨h0 c z.1, z.2⟩⟩⟩
  · obtain ⟨c, c1, c2⟩ := h4 t k n ht hk hne hn
    exact ⟨c, hb _ _ c1, c2⟩
theorem qc_newFact (hb : CB b) {Z Z' : Option Nat → HS → Prop} (hZ : ∀ q b' A' E', CB b' → Nu b b' q 1 → Ol q A A' → Ol q E E' → (∀ i, E' q 1 i = none) → Z (some q) (cS b' (va_up I q (fun _ => 0)) (va_up F q (fun _ => none)) A' E') → Z' (some q) (cS b' (va_up I q (fun _ => 0)) (va_up F q (fun _ => none)) A' E')) : (wNew (cS b I F A E) 1 7 fun q x1 => w_X1_init q x1 (fun x2 => Z q x2) X) → (wNew (cS b I F A E) 1 7 fun q x1 => w_X1_init q x1 (fun x2 => Z' q x2) X') := by
  have hbx : CBX b [] := CBX_nil.mpr hb
  refine qc_new hb.1 (fun q hq => ?_)
  have m1 := Mk_new (ci := 1) (N := 7) hbx hq
  unfold w_X1_init
  refine q_ref ?_
  refine qc_newJ (j := 0) (N := 4) m1.1 m1.2.2.1 (Mk_no m1 (by decide)) (by decide) (fun p e hp => ?_)
  have m2 := Mk_arr (kd := 20) (N := 4) m1 hp (by decide) (by decide) (by decide) (by decide) (j := 0)
  refine qc_newG (j := 1) (N := 5) m2.1 m2.2.2.1 (Mk_no m2 (by decide)) (by decide) (fun p2 e2 hp2 => ?_)
  have m3 := Mk_arr (kd := 25) (N := 5) m2 hp2 (by decide) (by decide) (by decide) (by decide) (j := 1)
  refine hZ q _ _ _ (CBX_nil.mp (Mk_end m3 (fun _ z => absurd z List.not_mem_nil) oF1)) ⟨m3.2.2.2.2.2.2.1, hq, m3.2.2.1, m3.2.2.2.2.2.2.2.1⟩ ?_ ?_ ?_
  · intro a ha
    funext j; rw [up2_a _ _ _ _ ha, up2_a _ _ _ _ ha]
  · intro a ha
    funext j; rw [up2_a _ _ _ _ ha, up2_a _ _ _ _ ha]
  · intro i; rw [up2_self]
/-- a new fact, in the first free place of those kept -/
theorem CXx_new (hx : CXx o a g b I F A E) (hV : AV a) (hl : (allF a).length < 3000) (hb' : CB b') (hu : Nu b b' q 1) (hA : Ol q A A') (hE : Ol q E E') (hno : E g.s 1 (allF a).length = none) : CXx o a g b' (va_up I q (fun _ => 0)) (va_up F q (fun _ => none)) A' (up3 E' g.s 1 (allF a).length (some q)) := by
  obtain ⟨hb, hs, ht, hF, hR, ⟨k1, k2, k3, k4⟩, hN, hH, hC, hO⟩ := hx
  obtain ⟨u1, u2, u3, u4⟩ := hu
  have ne : ∀ ci x, Is b ci x → x ≠ q := fun ci x hx z => u2 (by rw [← z]; exact hx.1)
  have up : ∀ ci x, Is b ci x → Is b' ci x := u1.1
  have dn : ∀ ci x, Is b' ci x → ci ≠ 1 → ci < 20 → Is b ci x := fun ci x hx h1 h2 => (u4 ci x hx).resolve_right (fun z => by rcases z.2 with y | y <;> omega)
  have s3 := hs.2.2.1
  have sI' : ∀ S, sI b S I (va_up I q fun _ => 0) := fun S ci x j hx _ => by rw [va_up_ne _ _ (ne ci x hx)]
  have sF' : ∀ S, sF b S F (va_up F q fun _ => none) := fun S ci x j hx _ => by rw [va_up_ne _ _ (ne ci x hx)]
  have sA' : ∀ S, sA b S A A' := fun S ci x j hx _ => by rw [hA x (ne ci x hx)]
  have sE' : ∀ S, (9, 1) ∉ S → sE b S E (up3 E' g.s 1 (allF a).length (some q)) := fun S hS ci x j hx hj => by
    rw [up3_ne (fun z => hS (by rw [← s3.2, ← z.1, hx.2, ← z.2]; exact hj)), hE x (ne ci x hx)]
  have hd : ∀ t, inT a t → Is b 10 (g.d t) := fun t h => (ht.2 t h).2.1
  have hfa : ∀ t n, n ∈ a.rw t → Is b 1 (g.fa n) := fun t n h => (hF t n h).1
  have e1 : up3 E' g.s 1 (allF a).length (some q) g.s 1 = va_up (E g.s 1) (allF a).length (some q) := by rw [up3_at, hE g.s (ne _ _ s3)]
  refine ⟨hb', CXs_eq hs up (fun x hx => dn 8 x hx (by decide) (by decide)) (sF' _) (sE' _ (by decide)), CXt_eq ht s3 up (fun _ _ => rfl) (sI' _) (sF' _) (sA' _) (sE' _ (by decide)), fun t n hn => CF1_eq (hF t n hn) up (sI' _) (sF' _) (sA' _), CXr_b (CXr_eq hR hd hfa (sI' _) (sF' _) (sE' _ (by decide))) up (fun c hc => dn 0 c hc (by decide) (by decide)), ⟨?_, ?_, ?_, ?_⟩, CXn_eq hN s3 (sI' _), CXh_eq hH hs.2.2.2.2.1 hfa (sI' _) (sF' _) (sA' _) (sE' _ (by decide)), CXc_eq hC hs.1 (sA' _) (fun c hc => ?_), CXo_eq hO hs.1 (sI' _) (sA' _)⟩
  · rw [e1]
    intro i x hi hx
    by_cases e : i = (allF a).length
    · subst e; rw [va_up_self] at hx; cases hx; exact u3
    · rw [va_up_ne _ _ e] at hx; exact up _ _ (k1 i x hi hx)
  · rw [e1]
    intro i j x hi hj hx hx'
    by_cases ei : i = (allF a).length
    · by_cases ej : j = (allF a).length
      · rw [ei, ej]
      · rw [ei, va_up_self] at hx
        rw [va_up_ne _ _ ej] at hx'
        cases hx
        exact absurd rfl (ne _ _ (k1 j _ hj hx'))
    · by_cases ej : j = (allF a).length
      · rw [ej, va_up_self] at hx'
        rw [va_up_ne _ _ ei] at hx
        cases hx'
        exact absurd rfl (ne _ _ (k1 i _ hi hx))
      · rw [va_up_ne _ _ ei] at hx
        rw [va_up_ne _ _ ej] at hx'
        exact k2 i j x hi hj hx hx'
  · rw [e1]
    intro i hi
    rw [va_up_ne _ _ (by omega)]; exact k3 i hi
  · rw [e1]
    intro t n hn
    obtain ⟨i, i1, i2⟩ := k4 t n hn
    exact ⟨i, i1, by rw [va_up_ne _ _ (by omega)]; exact i2⟩
  · have h5 := (hs.2.2.2.2.2.2.2.1 c hc).2.1
    exact ⟨va_up_ne _ _ (ne _ _ h5), va_up_ne _ _ (ne _ _ h5), hA _ (ne _ _ h5)⟩
/-- what stands in the first free place is none of those kept -/
theorem free_fa (hx : CXx o a g b I F A E) (hl : (allF a).length < 3000) (hV : AV a) (hf : E g.s 1 (allF a).length = some f) : ∀ t n, n ∈ a.rw t → g.fa n ≠ f := fun t n hn z => by
  have hK := hx.2.2.2.2.2.1
  obtain ⟨i, i1, i2⟩ := hK.2.2.2 t n hn
  rw [z] at i2
  have := hK.2.1 i (allF a).length f (by omega) hl i2 hf
  omega
/-- all is set, and the change isn't noted yet -/
theorem mid_of (hx : CXx o a g b I F A E) (hV : AV a) (hl : (allF a).length < 3000) (ht : inT a t) (hf : E g.s 1 (allF a).length = some f) (hIo : ∀ x j, x ≠ f → ¬ (x = g.s ∧ (j = 4 ∨ j = 5 ∨ j = 6)) → ¬ (x = g.h ∧ j = 3) → I' x j = I x j) (hFo : ∀ x, x ≠ f → F' x = F x) (hAo : ∀ x j, x ≠ f → ¬ (x = g.h ∧ j = 1) → A' x j = A x j) (hEo : ∀ x j, ¬ (x = g.h ∧ j = 0) → E' x j = E x j)
    (n4 : (I' g.s 4).toInt = ((allF a).length + 1 : Nat)) (n5 : (I' g.s 5).toInt = ((a.nn + 1 : Nat) : Int)) (n6 : (I' g.s 6).toInt = a.tm + 1) (hf2 : F' f 2 = some (g.d t)) (hf3 : F' f 3 = none) (hcs : ∀ k, k < 4 → A' f 0 k = cs k) (hf4 : (I' f 4).toInt = (a.nn : Int)) (hf5 : (I' f 5).toInt = a.tm + 1) (hf6 : (I' f 6).toInt = -1)
    (h3 : (I' g.h 3).toInt = (if a.mk = [] then (g.sz : Int) else ((hs1 a).length : Int))) (h4 : ∀ (i : Nat) (e : Nat × Bool), (hs1 a)[i]? = some e → E' g.h 0 i = some (va_up g.fa a.nn f e.1) ∧ (A' g.h 1 i ≠ 0 ↔ e.2 = true)) : MID o a g f t cs b I' F' A' E' := by
  have hfree := free_fa hx hl hV hf
  obtain ⟨hb, hs, htb, hF, hR, ⟨k1, k2, k3, k4⟩, hN, hH, hC, hO⟩ := hx
  have s3 := hs.2.2.1
  have s5 := hs.2.2.2.2.1
  have hf1 : Is b 1 f := k1 _ f hl hf
  have nf : ∀ ci x, Is b ci x → ci ≠ 1 → x ≠ f := fun ci x hx hc => Is_ne hx hf1 hc
  have sI' : ∀ S : List (Nat × Nat), S.all (fun p => p.1 != 1 && p.1 != 3) = true → (9, 4) ∉ S → (9, 5) ∉ S → (9, 6) ∉ S → sI b S I I' := fun S hS y4 y5 y6 ci x j hx hj => by
    have := List.all_eq_true.mp hS _ hj
    simp at this
    refine hIo x j (nf ci x hx this.1) (fun z => ?_) (fun z => this.2 (by rw [← hx.2, z.1]; exact s5.2))
    have e : ci = 9 := by rw [← hx.2, z.1]; exact s3.2
    rw [e] at hj
    rcases z.2 with y | y | y <;> rw [y] at hj
    · exact y4 hj
    · exact y5 hj
    · exact y6 hj
  have sF' : ∀ S : List (Nat × Nat), S.all (fun p => p.1 != 1) = true → sF b S F F' := fun S hS ci x j hx hj => by
    have := List.all_eq_true.mp hS _ hj
    simp at this
    rw [hFo x (nf ci x hx this)]
  have sA' : ∀ S : List (Nat × Nat), S.all (fun p => p.1 != 1) = true → (3, 1) ∉ S → sA b S A A' := fun S hS h31 ci x j hx hj => by
    have := List.all_eq_true.mp hS _ hj
    simp at this
    refine hAo x j (nf ci x hx this) (fun z => h31 ?_)
    have e : ci = 3 := by rw [← hx.2, z.1]; exact s5.2
    rw [e, z.2] at hj; exact hj
  have sE' : ∀ S : List (Nat × Nat), (3, 0) ∉ S → sE b S E E' := fun S h30 ci x j hx hj => by
    refine hEo x j (fun z => h30 ?_)
    have e : ci = 3 := by rw [← hx.2, z.1]; exact s5.2
    rw [e, z.2] at hj; exact hj
  have hd : ∀ t, inT a t → Is b 10 (g.d t) := fun t h => (htb.2 t h).2.1
  have hfa : ∀ t n, n ∈ a.rw t → Is b 1 (g.fa n) := fun t n h => (hF t n h).1
  have fne : ∀ t n, n ∈ a.rw t → ∀ j, I' (g.fa n) j = I (g.fa n) j := fun t n hn j => hIo _ j (hfree t n hn) (fun z => Is_ne (hfa t n hn) s3 (by decide) z.1) (fun z => Is_ne (hfa t n hn) s5 (by decide) z.1)
  have ek : E' g.s 1 = E g.s 1 := hEo _ _ (fun z => absurd z.2 (by decide))
  refine ⟨hb, CXs_eq hs (fun _ _ h => h) (fun _ h => h) (sF' _ (by decide)) (sE' _ (by decide)), CXt_eq htb s3 (fun _ _ h => h) (fun _ _ => rfl) (sI' _ (by decide) (by decide) (by decide) (by decide)) (sF' _ (by decide)) (sA' _ (by decide) (by decide)) (sE' _ (by decide)), fun t n hn => ⟨?_, hfree t n hn⟩, CXr_eq hR hd hfa (sI' _ (by decide) (by decide) (by decide) (by decide)) (sF' _ (by decide)) (sE' _ (by decide)), ⟨?_, ?_, ?_, ?_, ?_⟩, ⟨n4, n5, n6, ?_⟩, ⟨?_, ?_, h3, h4, fun hm t n hn hb' => ?_⟩, CXc_eq hC hs.1 (sA' _ (by decide) (by decide)) (fun c hc => ?_), CXo_eq hO hs.1 (sI' _ (by decide) (by decide) (by decide) (by decide)) (sA' _ (by decide) (by decide)), hf1, hf2, hf3, hcs, hf4, hf5, hf6⟩
  · have := hF t n hn
    unfold CF1 at this ⊢
    rw [hFo _ (hfree t n hn), fne t n hn, fne t n hn, fne t n hn, hAo _ 0 (hfree t n hn) (fun z => absurd z.2 (by decide))]
    exact this
  · rw [ek]; exact k1
  · rw [ek]; exact k2
  · rw [ek]
    intro i hi
    by_cases e : i = (allF a).length
    · rw [e]; exact Or.inr hf
    · exact Or.inl (k3 i (by omega))
  · rw [ek]; exact k4
  · rw [ek]; exact ⟨_, by omega, hf⟩
  · rw [hIo _ 7 (nf _ _ s3 (by decide)) (fun z => by omega) (fun z => absurd z.2 (by decide))]; exact hN.2.2.2
  · rw [hIo _ 4 (nf _ _ s5 (by decide)) (fun z => Is_ne s5 s3 (by decide) z.1) (fun z => absurd z.2 (by decide))]; exact hH.1
  · rw [hAo _ 2 (nf _ _ s5 (by decide)) (fun z => absurd z.2 (by decide))]; exact hH.2.1
  · rw [hFo _ (hfree t n hn)]; exact hH.2.2.2.2 t n hn hb'
  · have h5 := (hs.2.2.2.2.2.2.2.1 c hc).2.1
    exact ⟨funext fun j => hIo _ j (nf _ _ h5 (by decide)) (fun z => Is_ne h5 s3 (by decide) z.1) (fun z => Is_ne h5 s5 (by decide) z.1), hFo _ (nf _ _ h5 (by decide)), funext fun j => hAo _ j (nf _ _ h5 (by decide)) (fun z => Is_ne h5 s5 (by decide) z.1)⟩
/-- come, once there is a fact to be filled -/
theorem qc_comeK (hx : CXx o a g b I F A E) (hV : AV a) (hT : a.tm < 2000000000) (hl : (allF a).length < 3000) (ht : inT a t) (hf : E g.s 1 (allF a).length = some f) (hw : Is b ci w) (hk : oF ci j = 20) (hwf : w ≠ f) (hcs : ∀ k, k < 4 → cs k = if (k : Int) < (a.co t).toInt then A w j k else 0)
    (h : ∀ I' F' A' E', MID o a g f t cs b I' F' A' E' → comI a g F F' A A' E E' → QF (some f) (cS b I' F' A' E') → QF' (some f) (cS b I' F' A' E')) :
    (wGetF (cS b I F A E) 9 1 (some g.s) fun v7 => wGetI (cS b I F A E) 9 4 (some g.s) fun v8 => wAldG (cS b I F A E) 25 v7 v8 fun v9 => wGetI (cS b I F A E) 9 4 (some g.s) fun v10 => wPutI (cS b I F A E) 9 4 (some g.s) (v10 + 1) fun x11 => wGetI x11 9 6 (some g.s) fun v12 => wPutI x11 9 6 (some g.s) (v12 + 1) fun x13 => wPutF x13 1 2 v9 (some (g.d t)) fun x14 => wPutF x14 1 3 v9 none fun x15 => wGetI x15 9 5 (some g.s) fun v16 => wPutI x15 1 4 v9 v16 fun x17 => wGetI x17 9 6 (some g.s) fun v18 => wPutI x17 1 5 v9 v18 fun x19 => wPutI x19 1 6 v9 (-1) fun x20 => wLoop (σ := Int32) (fun v24 x23 again21 => wIf (4 ≤ v24) (wGetI x23 9 5 (some g.s) fun v25 => wPutI x23 9 5 (some g.s) (v25 + 1) fun x26 => wGetF x26 9 2 (some g.s) fun v27 => wRecv x26 3 v27 (w_X3_note v27 v9 0 x26 (fun x28 => QF v9 x28) X)) (wGetF x23 1 0 v9 fun v30 => wGetI x23 10 1 (some (g.d t)) fun v31 => wJoin (κ := Int32 → HS → Prop) (fun v34 x33 => wAstI x33 v30 v24 v34 fun x35 => again21 (v24 + 1) x35) (fun j32 => wIf (v31 ≤ v24) (j32 0 x23) (wAldJ x23 20 (some (b.ad w j)) v24 fun v36 => j32 v36 x23)))) 0 x20) →
    (wGetF (cS b I F A E) 9 1 (some g.s) fun v7 => wGetI (cS b I F A E) 9 4 (some g.s) fun v8 => wAldG (cS b I F A E) 25 v7 v8 fun v9 => wGetI (cS b I F A E) 9 4 (some g.s) fun v10 => wPutI (cS b I F A E) 9 4 (some g.s) (v10 + 1) fun x11 => wGetI x11 9 6 (some g.s) fun v12 => wPutI x11 9 6 (some g.s) (v12 + 1) fun x13 => wPutF x13 1 2 v9 (some (g.d t)) fun x14 => wPutF x14 1 3 v9 none fun x15 => wGetI x15 9 5 (some g.s) fun v16 => wPutI x15 1 4 v9 v16 fun x17 => wGetI x17 9 6 (some g.s) fun v18 => wPutI x17 1 5 v9 v18 fun x19 => wPutI x19 1 6 v9 (-1) fun x20 => wLoop (σ := Int32) (fun v24 x23 again21 => wIf (4 ≤ v24) (wGetI x23 9 5 (some g.s) fun v25 => wPutI x23 9 5 (some g.s) (v25 + 1) fun x26 => wGetF x26 9 2 (some g.s) fun v27 => wRecv x26 3 v27 (w_X3_note v27 v9 0 x26 (fun x28 => QF' v9 x28) X')) (wGetF x23 1 0 v9 fun v30 => wGetI x23 10 1 (some (g.d t)) fun v31 => wJoin (κ := Int32 → HS → Prop) (fun v34 x33 => wAstI x33 v30 v24 v34 fun x35 => again21 (v24 + 1) x35) (fun j32 => wIf (v31 ≤ v24) (j32 0 x23) (wAldJ x23 20 (some (b.ad w j)) v24 fun v36 => j32 v36 x23)))) 0 x20) := by
  obtain ⟨hb, hs, htb, hF, hR, hK, hN, hH, hC, hO⟩ := id hx
  have s3 := hs.2.2.1
  have s5 := hs.2.2.2.2.1
  obtain ⟨t1, t2, t3, t4, -⟩ := htb.2 t ht
  have hf1 : Is b 1 f := hK.1 _ f hl hf
  have hsf : g.s ≠ f := Is_ne s3 hf1 (by decide)
  have hhf : g.h ≠ f := Is_ne s5 hf1 (by decide)
  have hhs : g.h ≠ g.s := Is_ne s5 s3 (by decide)
  have hdf : g.d t ≠ f := Is_ne t2 hf1 (by decide)
  have hds : g.d t ≠ g.s := Is_ne t2 s3 (by decide)
  have hnt := hV.1.2.2.2.2.2.1
  have h0 : 0 ≤ a.tm := by have := hV.1.2.2.2.2.1; omega
  refine qc_getA hb (by decide) (fun _ => ?_)
  refine qc_getI (fun _ => ?_)
  refine qc_aldG hb s3 (by decide) (by decide) (fun _ => ?_)
  rw [ix_of hN.1, hf]
  refine qc_getI (fun _ => ?_)
  refine qc_putI (fun _ => ?_)
  refine qc_getI (fun _ => ?_)
  have z1 : up2 I g.s 4 (I g.s 4 + 1) g.s 6 = I g.s 6 := if_neg (fun z => absurd z.2 (by decide))
  rw [z1]
  refine qc_putI (fun _ => ?_)
  refine qc_putF hb (by decide) (fun _ => ?_)
  refine qc_putF hb (by decide) (fun _ => ?_)
  refine qc_getI (fun _ => ?_)
  refine qc_putI (fun _ => ?_)
  refine qc_getI (fun _ => ?_)
  refine qc_putI (fun _ => ?_)
  refine qc_putI (fun _ => ?_)
  have v5 : up2 (up2 I g.s 4 (I g.s 4 + 1)) g.s 6 (I g.s 6 + 1) g.s 5 = I g.s 5 := (if_neg (fun z => absurd z.2 (by decide))).trans (if_neg (fun z => absurd z.2 (by decide)))
  rw [v5]
  have v6 : up2 (up2 (up2 I g.s 4 (I g.s 4 + 1)) g.s 6 (I g.s 6 + 1)) f 4 (I g.s 5) g.s 6 = I g.s 6 + 1 := (if_neg (fun z => hsf z.1)).trans (up2_self _ _ _ _)
  rw [v6]
  generalize hI1 : up2 (up2 (up2 (up2 (up2 I g.s 4 (I g.s 4 + 1)) g.s 6 (I g.s 6 + 1)) f 4 (I g.s 5)) f 5 (I g.s 6 + 1)) f 6 (-1) = I1
  have i1 : ∀ x j, x ≠ f → ¬ (x = g.s ∧ (j = 4 ∨ j = 6)) → I1 x j = I x j := fun x j hx hj => by
    rw [← hI1]
    exact (if_neg (fun z => hx z.1)).trans ((if_neg (fun z => hx z.1)).trans ((if_neg (fun z => hx z.1)).trans ((if_neg (fun z => hj ⟨z.1, Or.inr z.2⟩)).trans (if_neg (fun z => hj ⟨z.1, Or.inl z.2⟩)))))
  have i4 : I1 g.s 4 = I g.s 4 + 1 := by
    rw [← hI1]
    exact (if_neg (fun z => hsf z.1)).trans ((if_neg (fun z => hsf z.1)).trans ((if_neg (fun z => hsf z.1)).trans ((if_neg (fun z => absurd z.2 (by decide))).trans (up2_self _ _ _ _))))
  have i6 : I1 g.s 6 = I g.s 6 + 1 := by
    rw [← hI1]
    exact (if_neg (fun z => hsf z.1)).trans ((if_neg (fun z => hsf z.1)).trans ((if_neg (fun z => hsf z.1)).trans (up2_self _ _ _ _)))
  have j4 : I1 f 4 = I g.s 5 := by
    rw [← hI1]
    exact (if_neg (fun z => absurd z.2 (by decide))).trans ((if_neg (fun z => absurd z.2 (by decide))).trans (up2_self _ _ _ _))
  have j5 : I1 f 5 = I g.s 6 + 1 := by
    rw [← hI1]
    exact (if_neg (fun z => absurd z.2 (by decide))).trans (up2_self _ _ _ _)
  have j6 : I1 f 6 = -1 := by rw [← hI1]; exact up2_self _ _ _ _
  generalize hF1 : up2 (up2 F f 2 (some (g.d t))) f 3 none = F1
  have q1 : ∀ x, x ≠ f → F1 x = F x := fun x hx => by
    rw [← hF1]; funext j; exact (if_neg (fun z => hx z.1)).trans (if_neg (fun z => hx z.1))
  have q2 : F1 f 2 = some (g.d t) := by rw [← hF1]; exact (if_neg (fun z => absurd z.2 (by decide))).trans (up2_self _ _ _ _)
  have q3 : F1 f 3 = none := by rw [← hF1]; exact up2_self _ _ _ _
  refine qc_loop (fun v b' I' F' A' E' => b' = b ∧ I' = I1 ∧ F' = F1 ∧ E' = E ∧ ∃ i : Nat, v.toInt = (i : Int) ∧ i ≤ 4 ∧ (∀ x, x ≠ f → A' x = A x) ∧ ∀ k, k < i → A' f 0 k = cs k) ⟨rfl, rfl, rfl, rfl, 0, by decide, by omega, fun _ _ => rfl, fun k hk => absurd hk (by omega)⟩ (fun v b' I' F' A' E' again again' ⟨e1, e2, e3, e4, i, u1, u2, u3, u4⟩ ha => ?_)
  subst e1; subst e2; subst e3; subst e4
  refine qv_if (fun z => ?_) (fun z => ?_)
  · simp only [i32, Int32.reduceToInt] at z
    have hfr := free_fa hx hl hV hf
    have u4' : ∀ k, k < 4 → A' f 0 k = cs k := fun k hk => u4 k (by omega)
    refine qc_getI (fun _ => ?_)
    refine qc_putI (fun _ => ?_)
    refine qc_getF hb (by decide) (fun _ => ?_)
    rw [q1 _ hsf, hs.2.2.2.1]
    refine qc_recv (fun _ => ?_)
    rw [i1 _ 5 hsf (fun z => by omega)]
    generalize hI2 : up2 I' g.s 5 (I g.s 5 + 1) = I2
    have w1 : ∀ x j, x ≠ f → ¬ (x = g.s ∧ (j = 4 ∨ j = 5 ∨ j = 6)) → I2 x j = I x j := fun x j hx hj => by
      rw [← hI2]
      exact (if_neg (fun z => hj ⟨z.1, Or.inr (Or.inl z.2)⟩)).trans (i1 x j hx (fun z => hj ⟨z.1, z.2.elim Or.inl (fun y => Or.inr (Or.inr y))⟩))
    have w4 : (I2 g.s 4).toInt = ((allF a).length + 1 : Nat) := by
      rw [← hI2]
      refine (congrArg Int32.toInt ((if_neg (fun z => absurd z.2 (by decide))).trans i4)).trans ?_
      rw [i_add hN.1 (show (1 : Int32).toInt = 1 by decide) (by omega)]; omega
    have w5 : (I2 g.s 5).toInt = ((a.nn + 1 : Nat) : Int) := by
      rw [← hI2, up2_self, i_add hN.2.1 (show (1 : Int32).toInt = 1 by decide) (by omega)]; omega
    have e22 : (I g.s 6 + 1).toInt = a.tm + 1 := i_add hN.2.2.1 (by decide) (by omega)
    have w6 : (I2 g.s 6).toInt = a.tm + 1 := by
      rw [← hI2]
      exact (congrArg Int32.toInt ((if_neg (fun z => absurd z.2 (by decide))).trans i6)).trans e22
    have wf : ∀ j, I2 f j = I' f j := fun j => by rw [← hI2]; exact if_neg (fun z => hsf z.1.symm)
    have wh : ∀ j, I2 g.h j = I g.h j := fun j => w1 _ j hhf (fun z => hhs z.1)
    refine qc_note hb s5 (mk := a.mk.length) (len := a.hs.length) (by rw [wh]; exact hH.1) (fun z => by rw [wh, hH.2.2.1, if_neg (fun y => z (by rw [y]; rfl))]) (hs_come hV hl) (fun z => ?_) (fun z v hv => ?_)
    · have hm : a.mk = [] := List.eq_nil_of_length_eq_zero z
      have eh : hs1 a = a.hs := if_pos hm
      have eh0 := hV.2.2.1.2.2.1 hm
      refine h _ _ _ _ (mid_of hx hV hl ht hf (fun x j y1 y2 _ => w1 x j y1 y2) q1 (fun x j y1 _ => by rw [u3 x y1]) (fun _ _ _ => rfl) w4 w5 w6 q2 q3 u4' (by rw [wf, j4]; exact hN.2.1) (by rw [wf, j5]; exact e22) (by rw [wf, j6]; decide) (by rw [wh, eh]; exact hH.2.2.1) (fun i e he => ?_)) ⟨fun t n hn => by rw [q1 _ (hfr t n hn)], fun _ => ⟨rfl, u3 _ hhf⟩⟩
      rw [eh, eh0] at he
      simp at he
    · have hm : a.mk ≠ [] := fun y => z (by rw [y]; rfl)
      have eh : hs1 a = a.hs ++ [(a.nn, false)] := if_neg hm
      refine h _ _ _ _ (mid_of hx hV hl ht hf (fun x j y1 y2 y3 => (if_neg y3).trans (w1 x j y1 y2)) q1 (fun x j y1 y2 => (up3_ne y2).trans (by rw [u3 x y1])) (fun x j y1 => up3_ne y1) ?_ ?_ ?_ q2 q3 (fun k hk => ?_) ?_ ?_ ?_ ?_ (fun i e he => ?_)) ⟨fun t n hn => by rw [q1 _ (hfr t n hn)], fun y => absurd y hm⟩
      · exact (congrArg Int32.toInt (if_neg (fun z => hhs z.1.symm))).trans w4
      · exact (congrArg Int32.toInt (if_neg (fun z => hhs z.1.symm))).trans w5
      · exact (congrArg Int32.toInt (if_neg (fun z => hhs z.1.symm))).trans w6
      · rw [up3_ne (fun z => hhf z.1.symm)]; exact u4' k hk
      · refine (congrArg Int32.toInt (if_neg (fun z => hhf z.1.symm))).trans ?_
        rw [wf, j4]; exact hN.2.1
      · refine (congrArg Int32.toInt (if_neg (fun z => hhf z.1.symm))).trans ?_
        rw [wf, j5]; exact e22
      · refine (congrArg Int32.toInt (if_neg (fun z => hhf z.1.symm))).trans ?_
        rw [wf, j6]; decide
      · rw [up2_self, hv, if_neg hm, eh, List.length_append]; rfl
      · rw [eh] at he
        rw [up3_at, up3_at, u3 _ hhf]
        by_cases hi : i < a.hs.length
        · rw [List.getElem?_append_left hi] at he
          have hmem := (hV.2.2.1.2.2.2.2.1 i e he).1
          have hne : e.1 ≠ a.nn := fun z => by have := (hV.1.2.2.2.1 _ _ hmem).1; omega
          have hil : i ≠ a.hs.length := by omega
          rw [va_up_ne _ _ hil, va_up_ne _ _ hne, va_up_ne _ _ hil]
          exact hH.2.2.2.1 i e he
        · rw [List.getElem?_append_right (by omega)] at he
          have hi2 : i = a.hs.length := by
            have := (List.getElem?_eq_some_iff.mp he).1
            simp at this; omega
          subst hi2
          simp at he
          subst he
          rw [va_up_self, va_up_self, va_up_self]
          exact ⟨rfl, by simp⟩
  · simp only [i32, Int32.reduceToInt] at z
    refine qc_getA hb (by decide) (fun _ => ?_)
    refine qc_getI (fun _ => ?_)
    rw [i1 _ 1 hdf (fun z => hds z.1), t4]
    dsimp only [wJoin]
    have step : ∀ c, c = cs i → (wAstI (cS b' I' F' A' E') (some (b'.ad f 0)) v c fun x35 => again (v + 1) x35) → (wAstI (cS b' I' F' A' E') (some (b'.ad f 0)) v c fun x35 => again' (v + 1) x35) := fun c hc => qc_astI hb hf1 (by decide) (fun _ => by
      rw [ix_of u1]
      refine ha _ _ _ _ _ _ ⟨rfl, rfl, rfl, rfl, i + 1, by rw [i_add u1 (show (1 : Int32).toInt = 1 by decide) (by omega)]; omega, by omega, fun x hx => ?_, fun k hk => ?_⟩
      · rw [← u3 x hx]; funext j; exact up3_ne (fun z => hx z.1)
      · rw [up3_at]
        by_cases e : k = i
        · rw [e, va_up_self]; exact hc
        · rw [va_up_ne _ _ e]; exact u4 k (by omega))
    refine qv_if (fun z2 => step _ ?_) (fun z2 => ?_)
    · simp only [i32] at z2
      rw [hcs i (by omega), if_neg (by omega)]
    · simp only [i32] at z2
      refine qc_ald hb hw hk (by decide) (fun _ => ?_)
      rw [ix_of u1, u3 w hwf]
      refine step _ ?_
      rw [hcs i (by omega), if_pos (by omega)]
theorem qc_come (hx : CXx o a g b I F A E) (hV : AV a) (hT : a.tm < 2000000000) (ht : inT a t) (hw : Is b ci w) (hk : oF ci j = 20) (hwo : ci = 11 ∨ ∃ t n, n ∈ a.rw t ∧ w = g.fa n) (hcs : ∀ k, k < 4 → cs k = if (k : Int) < (a.co t).toInt then A w j k else 0)
    (h0 : (allF a).length = 3000 → QF none (cS b I F A E) → QF' none (cS b I F A E))
    (h : (allF a).length < 3000 → ∀ f b' I' F' A' E', MID o a g f t cs b' I' F' A' E' → (∀ ci x, Is b ci x → Is b' ci x) → comI a g F F' A A' E E' → (∀ x j, Is b 1 x → b'.ad x j = b.ad x j) → QF (some f) (cS b' I' F' A' E') → QF' (some f) (cS b' I' F' A' E')) : w_X9_come (some g.s) (some (g.d t)) (some (b.ad w j)) (cS b I F A E) QF X → w_X9_come (some g.s) (some (g.d t)) (some (b.ad w j)) (cS b I F A E) QF' X' := by
  obtain ⟨hb, hs, htb, hF, hR, hK, hN, hH, hC, hO⟩ := id hx
  have s3 := hs.2.2.1
  have hle := hV.1.2.2.2.2.2.2.1
  unfold w_X9_come
  refine qc_getI (fun _ => ?_)
  refine qv_if (fun z => ?_) (fun z => h0 ?_)
  rotate_left
  · simp only [i32, Int32.reduceToInt] at z
    rw [hN.1] at z; omega
  simp only [i32, Int32.reduceToInt] at z
  rw [hN.1] at z
  have hl : (allF a).length < 3000 := by omega
  refine qc_getA hb (by decide) (fun _ => ?_)
  refine qc_getI (fun _ => ?_)
  refine qc_aldG hb s3 (by decide) (by decide) (fun _ => ?_)
  rw [ix_of hN.1]
  dsimp only [wJoin]
  cases hE : E g.s 1 (allF a).length with
  | some f =>
    refine qv_if (fun z => absurd z (by simp)) (fun _ => ?_)
    have hf1 : Is b 1 f := hK.1 _ f hl hE
    refine qc_comeK hx hV hT hl ht hE hw hk ?_ hcs (fun I' F' A' E' hM hcI => h hl f _ _ _ _ _ hM (fun _ _ z => z) hcI (fun _ _ _ => rfl))
    rcases hwo with e | ⟨t', n, hn, e⟩
    · exact Is_ne hw hf1 (by rw [e]; decide)
    · rw [e]; exact free_fa hx hl hV hE t' n hn
  | none =>
    refine qv_if (fun _ => ?_) (fun z => absurd rfl z)
    refine qc_getA hb (by decide) (fun _ => ?_)
    refine qc_getI (fun _ => ?_)
    refine qc_newFact hb (fun q b' A' E' hb' hu hA hEE _ => ?_)
    have s3' : Is b' 9 g.s := hu.1.1 _ _ s3
    have ead : b'.ad g.s 1 = b.ad g.s 1 := hu.1.2 _ _ s3.1
    have eaw : b'.ad w j = b.ad w j := hu.1.2 _ _ hw.1
    have hwq : w ≠ q := fun z => hu.2.1 (by rw [← z]; exact hw.1)
    rw [← ead, ← eaw]
    refine qc_astG hb' s3' (by decide) (by decide) (fun _ _ => ?_)
    rw [ix_of hN.1]
    have hx' := CXx_new hx hV hl hb' hu hA hEE hE
    refine qc_comeK hx' hV hT hl ht (by rw [up3_at, va_up_self]) (hu.1.1 _ _ hw) hk hwq (fun k hk => ?_) (fun I' F' A'' E'' hM hcI => h hl q _ _ _ _ _ hM hu.1.1 ⟨fun t n hn => ?_, fun hm => ?_⟩ (fun x j hx => hu.1.2 x j hx.1))
    · rw [hA w hwq]; exact hcs k hk
    · rw [hcI.1 t n hn, va_up_ne _ _ (fun z => hu.2.1 (by rw [← z]; exact (hF t n hn).1.1))]
    · obtain ⟨y1, y2⟩ := hcI.2 hm
      have hq : g.h ≠ q := fun z => hu.2.1 (by rw [← z]; exact hs.2.2.2.2.1.1)
      refine ⟨?_, by rw [y2, hA _ hq]⟩
      rw [y1, ← hEE _ hq]
      funext j
      exact up3_ne (fun z => Is_ne hs.2.2.2.2.1 s3 (by decide) z.1)
end VP1
