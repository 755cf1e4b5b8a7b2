set_option linter.unusedVariables false
set_option linter.unusedSimpArgs false
/-! the class: table -/
section VZA
variable {b b' : CT} {I I' : Nat → Nat → Int32} {F F' : Nat → Nat → Option Nat} {A A' : Nat → Nat → Nat → Int32} {E E' : Nat → Nat → Nat → Option Nat} {o t n n' k f p j ci s h l N w : Nat} {a c : AS} {g : CGs} {x y : HS} {X X' : String → HS → Prop} {Q Q' : HS → Prop} {QI QI' : Int32 → HS → Prop} {QF QF' : Option Nat → HS → Prop}
theorem qc_putF0 {q : Nat} {v : Option Nat} (hb : CB0 b) (hi : Is b ci q) (hj : oF ci j = 0) (h : Q (cS b I (up2 F q j v) A E) → Q' (cS b I (up2 F q j v) A E)) : wPutF (cS b I F A E) ci j (some q) v Q → wPutF (cS b I F A E) ci j (some q) v Q' := by
  rw [c_putF0 hb hi hj, c_putF0 hb hi hj]; exact h
theorem qc_newTable (hb : CB b) {s : Nat} (hs : Is b 9 s) {m : Int32} {Z Z' : Option Nat → HS → Prop} (hZ : ∀ q r b' I' F' A' E', CB b' → Xt b b' → q ∉ b.B.LP → r ∉ b.B.LP → Is b' 10 q → Is b' 0 r → (∀ c a, Is b' c a → Is b c a ∨ a = q ∧ c = 10 ∨ a = r ∧ c = 0 ∨ a ∉ b.B.LP ∧ 20 ≤ c) → (∀ a, a ∈ b.B.LP → I' a = I a ∧ F' a = F a ∧ A' a = A a ∧ E' a = E a) → I' q 0 = I s 3 → I' q 1 = m → I' q 5 = 0 → F' q 2 = some r → (∀ i, E' q 3 i = none) → I' r 0 = 4 → F' r 2 = none → F' r 3 = none → F' r 4 = none → Z (some q) (cS b' I' F' A' E') → Z' (some q) (cS b' I' F' A' E')) :
    (wNew (cS b I F A E) 10 6 fun q4 x5 => wGetI x5 9 3 (some s) fun v6 => w_X10_init q4 v6 m x5 (fun x7 => Z q4 x7) (fun _ _ => False)) → (wNew (cS b I F A E) 10 6 fun q4 x5 => wGetI x5 9 3 (some s) fun v6 => w_X10_init q4 v6 m x5 (fun x7 => Z' q4 x7) (fun _ _ => False)) := by
  refine qc_new hb.1 (fun q hq => ?_)
  have x1 := CBX_new (ci := 10) (N := 6) (CBX_nil.mpr hb) hq
  have t1 := Pa_new (ci := 10) (N := 6) hb.1 hq
  have is1 := bnew_Is (ci := 10) (N := 6) hq
  have q1 : Is (bnew b q 10 6) 10 q := (is1 10 q).mpr (Or.inr ⟨rfl, rfl⟩)
  have hsq : s ≠ q := fun z => hq (by rw [← z]; exact hs.1)
  refine qc_getI (fun _ => ?_)
  rw [va_up_ne _ _ hsq]
  unfold w_X10_init
  refine q_ref ?_
  refine qc_new x1.1 (fun r hr => ?_)
  have x2 := CBX_new0 (ci := 0) (N := 5) x1 hr no_own0
  have t2 : Pa (bnew (bnew b q 10 6) r 0 5) q [] := Pa_newo t1
  have is2 := bnew_Is (ci := 0) (N := 5) hr
  have q2 := (is2 10 q).mpr (Or.inl q1)
  have r2 : Is (bnew (bnew b q 10 6) r 0 5) 0 r := (is2 0 r).mpr (Or.inr ⟨rfl, rfl⟩)
  have hrq : r ≠ q := fun z => hr (by rw [z]; exact q1.1)
  unfold w_X0_init
  refine q_ref ?_
  refine qc_putI (fun _ => ?_)
  refine qc_putI (fun _ => ?_)
  refine qc_putF0 x2.1 r2 (by decide) ?_
  refine qc_putF0 x2.1 q2 (by decide) ?_
  refine qc_newG (j := 3) (N := 4) x2.1 q2 (Pa_no t2 (by decide)) (by decide) (fun p e hp => ?_)
  obtain ⟨x3, t3⟩ := Pa_arr (kd := 28) (N := 4) x2 q2 t2 List.mem_cons_self hp (j := 3) (by decide) (by decide) (by decide) (by decide)
  have is3 := barr_Is (b := bnew (bnew b q 10 6) r 0 5) (q := q) (j := 3) (kd := 28) (N := 4) hp
  have q3 := (is3 10 q).mpr (Or.inl q2)
  refine qc_newJ (j := 4) (N := 3) x3.1 q3 (Pa_no t3 (by decide)) (by decide) (fun p2 e2 hp2 => ?_)
  obtain ⟨x4, t4⟩ := Pa_arr (kd := 20) (N := 3) x3 q3 t3 List.mem_cons_self hp2 (j := 4) (by decide) (by decide) (by decide) (by decide)
  have is4 := barr_Is (b := barr (bnew (bnew b q 10 6) r 0 5) q 3 p 28 4) (q := q) (j := 4) (kd := 20) (N := 3) hp2
  have q4 := (is4 10 q).mpr (Or.inl q3)
  have x5 := CBX_nil.mp (Pa_end x4 t4 q4 oF10)
  refine qc_putI (fun _ => ?_)
  refine qc_putI (fun _ => ?_)
  have l1 : ∀ a, a ∈ b.B.LP → a ≠ q := fun a ha => bnew_k hq ha
  have l2 : ∀ a, a ∈ b.B.LP → a ≠ r := fun a ha => bnew_k hr (List.mem_append_left _ ha)
  have hrb : r ∉ b.B.LP := fun z => hr (List.mem_append_left _ z)
  have isf : ∀ c a, Is b c a → Is (barr (barr (bnew (bnew b q 10 6) r 0 5) q 3 p 28 4) q 4 p2 20 3) c a := fun c a h => (is4 c a).mpr (Or.inl ((is3 c a).mpr (Or.inl ((is2 c a).mpr (Or.inl ((is1 c a).mpr (Or.inl h)))))))
  refine hZ q r _ _ _ _ _ x5 ⟨isf, fun a j ha => ?_⟩ hq hrb q4 ((is4 0 r).mpr (Or.inl ((is3 0 r).mpr (Or.inl r2)))) (fun c a h => ?_) (fun a ha => ⟨?_, ?_, ?_, ?_⟩) ?_ ?_ ?_ ?_ ?_ ?_ ?_ ?_ ?_
  · show up2 (fun a j => (barr (bnew (bnew b q 10 6) r 0 5) q 3 p 28 4).ad a j) q 4 p2 a j = b.ad a j
    rw [up2_a _ _ _ _ (l1 a ha)]
    show up2 (fun a j => (bnew (bnew b q 10 6) r 0 5).ad a j) q 3 p a j = b.ad a j
    rw [up2_a _ _ _ _ (l1 a ha)]; rfl
  · have pn : p ∉ b.B.LP := fun z => hp (List.mem_append_left _ (List.mem_append_left _ z))
    have p2n : p2 ∉ b.B.LP := fun z => hp2 (List.mem_append_left _ (List.mem_append_left _ (List.mem_append_left _ z)))
    rcases (is4 c a).mp h with h | ⟨rfl, rfl⟩
    · rcases (is3 c a).mp h with h | ⟨rfl, rfl⟩
      · rcases (is2 c a).mp h with h | ⟨rfl, rfl⟩
        · rcases (is1 c a).mp h with h | ⟨rfl, rfl⟩
          · exact Or.inl h
          · exact Or.inr (Or.inl ⟨rfl, rfl⟩)
        · exact Or.inr (Or.inr (Or.inl ⟨rfl, rfl⟩))
      · exact Or.inr (Or.inr (Or.inr ⟨pn, by decide⟩))
    · exact Or.inr (Or.inr (Or.inr ⟨p2n, by decide⟩))
  · funext j
    rw [up2_a _ _ _ _ (l1 a ha), up2_a _ _ _ _ (l1 a ha), up2_a _ _ _ _ (l2 a ha), up2_a _ _ _ _ (l2 a ha), va_up_ne _ _ (l2 a ha), va_up_ne _ _ (l1 a ha)]
  · funext j
    rw [up2_a _ _ _ _ (l1 a ha), up2_a _ _ _ _ (l2 a ha), va_up_ne _ _ (l2 a ha), va_up_ne _ _ (l1 a ha)]
  · funext j
    rw [up2_a _ _ _ _ (l1 a ha), up2_a _ _ _ _ (l1 a ha)]
  · funext j
    rw [up2_a _ _ _ _ (l1 a ha), up2_a _ _ _ _ (l1 a ha)]
  · rw [up2_k _ _ _ _ (by decide), up2_self]
  · rw [up2_self]
  · rw [up2_k _ _ _ _ (by decide), up2_k _ _ _ _ (by decide), up2_a _ _ _ _ (Ne.symm hrq), up2_a _ _ _ _ (Ne.symm hrq), va_up_ne _ _ (Ne.symm hrq), va_up_self]
  · rw [up2_self]
  · intro i; rw [up2_k _ _ _ _ (by decide), up2_self]
  · rw [up2_a _ _ _ _ hrq, up2_a _ _ _ _ hrq, up2_k _ _ _ _ (by decide), up2_self]
  · rw [up2_a _ _ _ _ hrq, up2_self]
  · rw [up2_a _ _ _ _ hrq, up2_k _ _ _ _ (by decide), va_up_self]
  · rw [up2_a _ _ _ _ hrq, up2_k _ _ _ _ (by decide), va_up_self]
theorem kc_table (hk : KC o (N + 1) a x) (hW : AVT a) (n : Int32) : w_X11_table (some o) n x (fun r u => OK_table a n 0 r ∧ KC o N (nx_table a n) u) (fun E u => (E = eIA ∧ OK_table a n 1 0 ∨ E = eIS ∧ OK_table a n 2 0) ∧ KC o N (nx_table a n) u) := by
  have h := kc1_table hk.1 n
  obtain ⟨g, b, I, F, A, E, rfl, hz, hx⟩ := hk.2
  have hV := hW.1
  have hb := hx.1
  have hs := hx.2.1
  have s3 := hs.2.2.1
  obtain ⟨-, -, htb, hFa, hR, hK, hN, hH, hC, hO⟩ := id hx
  have htn := hV.1.2.2.2.2.2.2.2
  have e4 : (4 : Int32).toInt = 4 := by decide
  have e1 : (1 : Int32).toInt = 1 := by decide
  revert h
  unfold w_X11_table
  have same : ∀ u, nx1_table a.1 n = a.1 → CX o a u → CX o (nx_table a n) u := fun u e h => by
    show CX o (a.w_1 (nx1_table a.1 n)) u
    rw [e]; exact h
  refine qc_range (fun c1 c2 => ?_) (fun c h => ⟨h.1, h.2, same _ (if_neg (fun z => c (by rw [e1, e4]; exact z.1))) (CX_wC hz hx)⟩)
  rw [e1] at c1
  rw [e4] at c2
  refine qc_getF hb (by decide) (fun _ => ?_)
  rw [hs.2.1]
  refine qc_recv (fun _ => ?_)
  unfold w_X9_makeTable
  refine qc_getI (fun _ => ?_)
  rw [htb.1]
  refine qv_if (fun z => ?_) (fun z => ?_)
  rotate_left
  · simp only [i32, Int32.reduceToInt] at z
    refine qv_if (fun _ => ?_) (fun y => absurd rfl y)
    have h12 : a.tn.toInt = 12 := by omega
    exact qc_throw (fun h => ⟨h.1, h.2, same _ (if_neg (fun y => y.2 h12)) (CX_wC hz hx)⟩)
  simp only [i32, Int32.reduceToInt] at z
  have e : nx1_table a.1 n = (a.vv, a.tl, a.tn + 1, va_up a.co (ix a.tn) n, va_up a.ix (ix a.tn) (fun _ => false)) := if_pos ⟨⟨c1, c2⟩, fun y => by have y : a.tn.toInt = 12 := y; omega⟩
  have hit : ((ix a.tn : Nat) : Int) = a.tn.toInt := ix_int htn.1
  have hni : ¬ inT a (ix a.tn) := by unfold inT; omega
  have ht1 : (a.tn + 1).toInt = a.tn.toInt + 1 := i_add rfl (by decide) (by omega)
  have ltn : ∀ t, inT a t → t ≠ ix a.tn := fun t ht z => hni (by rw [← z]; exact ht)
  refine qc_getA hb (by decide) (fun _ => ?_)
  refine qc_getI (fun _ => ?_)
  refine qc_newTable hb s3 (fun q r b' I' F' A' E' hb' hXt hq hr q10 r0 hcl hfr i0 i1 i5 f2 e3 ri0 rf2 rf3 rf4 => ?_)
  have up : ∀ ci x, Is b ci x → Is b' ci x := hXt.1
  have s3' := up _ _ s3
  have ead : b'.ad g.s 0 = b.ad g.s 0 := hXt.2 _ _ s3.1
  have neq : ∀ ci x, Is b ci x → x ≠ q ∧ x ≠ r := fun ci x hx => ⟨fun z => hq (by rw [← z]; exact hx.1), fun z => hr (by rw [← z]; exact hx.1)⟩
  have hqs : q ≠ g.s := fun z => (neq _ _ s3).1 z.symm
  have hrs : r ≠ g.s := fun z => (neq _ _ s3).2 z.symm
  rw [htb.1, ← ead]
  refine qc_astG hb' s3' (by decide) (by decide) (fun _ _ => ?_)
  refine qc_getI (fun _ => ?_)
  refine qc_putI (fun _ => ?_)
  refine qc_getI (fun _ => ?_)
  rw [up2_self, (hfr _ s3.1).1, htb.1]
  have en1 : ¬ (a.tn + 1 - 1 = (-1 : Int32)) := fun y => by
    have h1 : (a.tn + 1 - 1).toInt = a.tn.toInt + 1 - 1 := i_sub ht1 (by decide) (by omega)
    rw [y] at h1
    have h2 : (-1 : Int32).toInt = -1 := by decide
    omega
  refine qv_if (fun y => absurd y en1) (fun _ h => ?_)
  -- the heap, as it now is
  have jI : ∀ ci x j, Is b ci x → ¬ (x = g.s ∧ j = 3) → up2 I' g.s 3 (a.tn + 1) x j = I x j := fun ci x j hx hj => (if_neg hj).trans (by rw [(hfr x hx.1).1])
  have jIn : ∀ x j, x ≠ g.s → up2 I' g.s 3 (a.tn + 1) x j = I' x j := fun x j hx => if_neg (fun y => hx y.1)
  have jE : ∀ ci x j, Is b ci x → ¬ (x = g.s ∧ j = 0) → up3 E' g.s 0 (ix a.tn) (some q) x j = E x j := fun ci x j hx hj => (up3_ne hj).trans (by rw [(hfr x hx.1).2.2.2])
  have jEn : ∀ x j, x ≠ g.s → up3 E' g.s 0 (ix a.tn) (some q) x j = E' x j := fun x j hx => up3_ne (fun y => hx y.1)
  have js3 : up2 I' g.s 3 (a.tn + 1) g.s 3 = a.tn + 1 := up2_self _ _ _ _
  have jes : up3 E' g.s 0 (ix a.tn) (some q) g.s 0 = va_up (E g.s 0) (ix a.tn) (some q) := by rw [up3_at, (hfr _ s3.1).2.2.2]
  generalize up2 I' g.s 3 (a.tn + 1) = I2 at jI jIn js3 h ⊢
  generalize up3 E' g.s 0 (ix a.tn) (some q) = E2 at jE jEn jes h ⊢
  have sI' : ∀ S : List (Nat × Nat), (9, 3) ∉ S → sI b S I I2 := fun S hS ci x j hx hj => jI ci x j hx (fun y => hS (by
    have ee : ci = 9 := by rw [← hx.2, y.1]; exact s3.2
    rw [ee, y.2] at hj; exact hj))
  have sF' : ∀ S : List (Nat × Nat), sF b S F F' := fun S ci x j hx _ => by rw [(hfr x hx.1).2.1]
  have sA' : ∀ S : List (Nat × Nat), sA b S A A' := fun S ci x j hx _ => by rw [(hfr x hx.1).2.2.1]
  have sE' : ∀ S : List (Nat × Nat), (9, 0) ∉ S → sE b S E E2 := fun S hS ci x j hx hj => jE ci x j hx (fun y => hS (by
    have ee : ci = 9 := by rw [← hx.2, y.1]; exact s3.2
    rw [ee, y.2] at hj; exact hj))
  have dn : ∀ ci x, Is b' ci x → ci ≠ 10 → ci ≠ 0 → ci < 20 → Is b ci x := fun ci x hx h1 h2 h3 => by
    rcases hcl ci x hx with y | y | y | y
    · exact y
    · exact absurd y.2 h1
    · exact absurd y.2 h2
    · omega
  have dn0 : ∀ x, Is b' 0 x → Is b 0 x ∨ x = r := fun x hx => by
    rcases hcl 0 x hx with y | y | y | y
    · exact Or.inl y
    · exact absurd y.2 (by decide)
    · exact Or.inr y.1
    · omega
  have hfa : ∀ t n, n ∈ a.rw t → Is b 1 (g.fa n) := fun t n h => (hFa t n h).1
  have hin : ∀ t n, n ∈ a.rw t → inT a t := fun t n hn => Classical.byContradiction (fun y => by rw [hV.1.1 t y] at hn; exact absurd hn List.not_mem_nil)
  refine ⟨h.1, h.2, (g.s, g.h, g.l, g.lk, va_up g.d (ix a.tn) q, va_up g.r (ix a.tn) r, g.fa, va_up g.ct r (ix a.tn), g.sz), b', I2, F', A', E2, rfl, hz, ?_⟩
  show CXx o (a.w_1 (nx1_table a.1 n)) _ b' I2 F' A' E2
  rw [e]
  have inn : ∀ t : Nat, (t : Int) < (a.tn + 1).toInt → inT a t ∨ t = ix a.tn := fun t ht => by
    by_cases hh : inT a t
    · exact Or.inl hh
    · unfold inT at hh; exact Or.inr (by omega)
  have ini : ∀ t, inT a t → (t : Int) < (a.tn + 1).toInt := fun t ht => by unfold inT at ht; omega
  have ect : ∀ c, Is b 0 c → va_up g.ct r (ix a.tn) c = g.ct c := fun c hc => va_up_ne _ _ (neq _ _ hc).2
  have ctin : ∀ c, Is b 0 c → inT a (g.ct c) := fun c hc => (hR.2.1.1 c hc).1
  have hd : ∀ t, inT a t → Is b 10 (g.d t) := fun t h => (htb.2 t h).2.1
  refine ⟨hb', CXs_eq hs up (fun x hx => dn 8 x hx (by decide) (by decide) (by decide)) (sF' _) (sE' _ (by decide)), ⟨js3, fun t ht => ?_⟩, fun t m hm => ?_, ⟨fun c hc => ?_, ⟨fun c hc => ?_, fun c c' hc hc' y1 y2 y3 => ?_⟩, ⟨fun t k xx ht hk hxx => ?_, fun t t' k k' xx ht ht' hk hk' y1 y2 => ?_⟩, fun t k m ht hk hne hm => ?_⟩, CXk_eq hK s3 up (sE' _ (by decide)), CXn_eq hN s3 (sI' _ (by decide)), CXh_eq hH hs.2.2.2.2.1 hfa (sI' _ (by decide)) (sF' _) (sA' _) (sE' _ (by decide)), fun c hc => ?_, CXo_eq hO hs.1 (sI' _ (by decide)) (sA' _)⟩
  · have ht : (t : Int) < (a.tn + 1).toInt := ht
    show E2 g.s 0 t = some (va_up g.d (ix a.tn) q t) ∧ Is b' 10 (va_up g.d (ix a.tn) q t) ∧ (I2 (va_up g.d (ix a.tn) q t) 0).toInt = (t : Int) ∧ I2 (va_up g.d (ix a.tn) q t) 1 = va_up a.co (ix a.tn) n t ∧ F' (va_up g.d (ix a.tn) q t) 2 = some (va_up g.r (ix a.tn) r t) ∧ Is b' 0 (va_up g.r (ix a.tn) r t) ∧ I2 (va_up g.r (ix a.tn) r t) 0 = 4 ∧ va_up g.ct r (ix a.tn) (va_up g.r (ix a.tn) r t) = t ∧ (I2 (va_up g.d (ix a.tn) q t) 5).toInt = ((a.ky t).length : Int) ∧ ∀ (i : Nat) (m : Int32), (a.ky t)[i]? = some m → A' (va_up g.d (ix a.tn) q t) 4 i = m
    rcases inn t ht with hh | hh
    · have hne := ltn t hh
      obtain ⟨t1, t2, t3, t4, t5, t6, t7, t8, t9, t10⟩ := htb.2 t hh
      rw [jes, va_up_ne _ _ hne, va_up_ne _ _ hne, va_up_ne _ _ hne, va_up_ne _ _ hne, jI _ _ 0 t2 (fun y => absurd y.2 (by decide)), jI _ _ 1 t2 (fun y => absurd y.2 (by decide)), jI _ _ 5 t2 (fun y => absurd y.2 (by decide)), jI _ _ 0 t6 (fun y => absurd y.2 (by decide)), (hfr _ t2.1).2.1, (hfr _ t2.1).2.2.1, ect _ t6]
      exact ⟨t1, up _ _ t2, t3, t4, t5, up _ _ t6, t7, t8, t9, t10⟩
    · subst hh
      rw [jes, va_up_self, va_up_self, va_up_self, va_up_self, va_up_self, jIn q 0 hqs, jIn q 1 hqs, jIn q 5 hqs, jIn r 0 hrs, hV.2.1.1 _ hni, i0, htb.1, i5]
      exact ⟨rfl, q10, hit.symm, i1, f2, r0, ri0, rfl, by decide, fun i m hm => by simp at hm⟩
  · have hm : m ∈ a.rw t := hm
    have hh := hin t m hm
    have y := CF1_eq (hFa t m hm) up (sI' _ (by decide)) (sF' _) (sA' _)
    unfold CF1 at y ⊢
    show Is b' 1 (g.fa m) ∧ F' (g.fa m) 2 = some (va_up g.d (ix a.tn) q t) ∧ _
    rw [va_up_ne _ _ (ltn t hh)]; exact y
  · show ChL F' E2 (ix (I2 c 0)) c ((rowL a (va_up g.ct r (ix a.tn) c) (ix (I2 c 0)) (I2 c 1)).map g.fa)
    rcases dn0 c hc with y | y
    · obtain ⟨z1, z2⟩ := hR.1 c y
      rw [ect c y, jI 0 c 0 y (fun w => absurd w.2 (by decide)), jI 0 c 1 y (fun w => absurd w.2 (by decide))]
      unfold ChL
      rw [(hfr c y.1).2.1]
      refine ⟨LnO_congr (fun qq hqq => ?_) z1, z2⟩
      obtain ⟨m, hm, rfl⟩ := List.mem_map.mp hqq
      rw [jE 1 _ 1 (hfa _ m (rowL_sub hm).1) (fun w => absurd w.2 (by decide))]
    · subst y
      rw [va_up_self, jIn c 0 hrs, ri0]
      have er : rowL a (ix a.tn) (ix 4) (I2 c 1) = [] := by
        show (if ix 4 = 4 then a.rw (ix a.tn) else _) = []
        rw [if_pos (by decide), hV.1.1 _ hni]
      rw [er]
      exact ⟨rf3, rf4⟩
  · show ((va_up g.ct r (ix a.tn) c : Nat) : Int) < (a.tn + 1).toInt ∧ wIn (I2 c 0) 5 ∧ (ix (I2 c 0) = 4 → c = va_up g.r (ix a.tn) r (va_up g.ct r (ix a.tn) c)) ∧ (ix (I2 c 0) < 4 → E2 (va_up g.d (ix a.tn) q (va_up g.ct r (ix a.tn) c)) 3 (ix (I2 c 0)) ≠ none)
    rcases dn0 c hc with y | y
    · obtain ⟨z1, z2, z3, z4⟩ := hR.2.1.1 c y
      have hh := ctin c y
      rw [ect c y, jI 0 c 0 y (fun w => absurd w.2 (by decide)), va_up_ne _ _ (ltn _ hh), va_up_ne _ _ (ltn _ hh), jE 10 _ 3 (hd _ hh) (fun w => absurd w.2 (by decide))]
      exact ⟨ini _ hh, z2, z3, z4⟩
    · subst y
      rw [va_up_self, va_up_self, jIn c 0 hrs, ri0]
      exact ⟨by omega, ⟨by decide, by decide⟩, fun _ => rfl, fun w => absurd w (by decide)⟩
  · have y1 : va_up g.ct r (ix a.tn) c = va_up g.ct r (ix a.tn) c' := y1
    rcases dn0 c hc with w1 | w1
    · rcases dn0 c' hc' with w2 | w2
      · rw [ect c w1, ect c' w2] at y1
        rw [jI 0 c 0 w1 (fun w => absurd w.2 (by decide)), jI 0 c' 0 w2 (fun w => absurd w.2 (by decide))] at y2
        rw [jI 0 c 1 w1 (fun w => absurd w.2 (by decide)), jI 0 c' 1 w2 (fun w => absurd w.2 (by decide))] at y3
        exact hR.2.1.2 c c' w1 w2 y1 y2 y3
      · subst w2
        rw [ect c w1, va_up_self] at y1
        exact absurd y1 (ltn _ (ctin c w1))
    · subst w1
      rcases dn0 c' hc' with w2 | w2
      · rw [va_up_self, ect c' w2] at y1
        exact absurd y1.symm (ltn _ (ctin c' w2))
      · exact w2.symm
  · have ht : (t : Int) < (a.tn + 1).toInt := ht
    have hxx : E2 (va_up g.d (ix a.tn) q t) 3 k = some xx := hxx
    show Is b' 4 xx ∧ (I2 xx 0).toInt = (k : Int) ∧ (k : Int) < (va_up a.co (ix a.tn) n t).toInt ∧ ∀ i, i < 64 → Bkt b' t k xx i (va_up g.ct r (ix a.tn)) I2 F' E2
    rcases inn t ht with hh | hh
    · rw [va_up_ne _ _ (ltn t hh), jE 10 _ 3 (hd t hh) (fun w => absurd w.2 (by decide))] at hxx
      obtain ⟨z1, z2, z3, z4⟩ := hR.2.2.1.1 t k xx hh hk hxx
      rw [jI 4 xx 0 z1 (fun w => absurd w.2 (by decide)), va_up_ne _ _ (ltn t hh)]
      refine ⟨up _ _ z1, z2, z3, fun i hi => ?_⟩
      obtain ⟨C, hCC, hm⟩ := z4 i hi
      refine ⟨C, ?_, fun c => ?_⟩
      · rw [jE 4 xx 1 z1 (fun w => absurd w.2 (by decide))]
        exact LnO_congr (fun c hc => by rw [(hfr c ((hm c).mp hc).1.1).2.1]) hCC
      · rw [hm c]
        constructor
        · rintro ⟨w1, w2, w3, w4⟩
          rw [ect c w1, jI 0 c 0 w1 (fun w => absurd w.2 (by decide)), jI 0 c 1 w1 (fun w => absurd w.2 (by decide))]
          exact ⟨up _ _ w1, w2, w3, w4⟩
        · rintro ⟨w1, w2, w3, w4⟩
          rcases dn0 c w1 with w5 | w5
          · rw [ect c w5] at w2
            rw [jI 0 c 0 w5 (fun w => absurd w.2 (by decide))] at w3
            rw [jI 0 c 1 w5 (fun w => absurd w.2 (by decide))] at w4
            exact ⟨w5, w2, w3, w4⟩
          · subst w5
            rw [va_up_self] at w2
            exact absurd w2.symm (ltn t hh)
    · subst hh
      rw [va_up_self, jEn q 3 hqs, e3 k] at hxx
      exact absurd hxx (by simp)
  · have ht : (t : Int) < (a.tn + 1).toInt := ht
    have ht' : (t' : Int) < (a.tn + 1).toInt := ht'
    have y1 : E2 (va_up g.d (ix a.tn) q t) 3 k = some xx := y1
    have y2 : E2 (va_up g.d (ix a.tn) q t') 3 k' = some xx := y2
    rcases inn t ht with hh | hh
    · rcases inn t' ht' with hh' | hh'
      · rw [va_up_ne _ _ (ltn t hh), jE 10 _ 3 (hd t hh) (fun w => absurd w.2 (by decide))] at y1
        rw [va_up_ne _ _ (ltn t' hh'), jE 10 _ 3 (hd t' hh') (fun w => absurd w.2 (by decide))] at y2
        exact hR.2.2.1.2 t t' k k' xx hh hh' hk hk' y1 y2
      · subst hh'
        rw [va_up_self, jEn q 3 hqs, e3 k'] at y2
        exact absurd y2 (by simp)
    · subst hh
      rw [va_up_self, jEn q 3 hqs, e3 k] at y1
      exact absurd y1 (by simp)
  · have hm : m ∈ a.rw t := hm
    have hh := hin t m hm
    have hne : E2 (va_up g.d (ix a.tn) q t) 3 k ≠ none := hne
    rw [va_up_ne _ _ (ltn t hh), jE 10 _ 3 (hd t hh) (fun w => absurd w.2 (by decide))] at hne
    obtain ⟨c, w1, w2, w3, w4⟩ := hR.2.2.2 t k m hh hk hne hm
    exact ⟨c, up _ _ w1, (ect c w1).trans w2, by rw [jI 0 c 0 w1 (fun w => absurd w.2 (by decide))]; exact w3, by rw [jI 0 c 1 w1 (fun w => absurd w.2 (by decide))]; exact w4⟩
  · obtain ⟨w1, w2⟩ := hC c hc
    have h5 := (hs.2.2.2.2.2.2.2.1 c hc).2.1
    rw [show A' o 4 = A o 4 from by rw [(hfr _ hs.1.1).2.2.1]]
    refine ⟨w1, fun hop => ?_⟩
    obtain ⟨⟨v1, v2, v3, v4, v5, v6, v7, v8⟩, v9⟩ := w2 hop
    have hh := ltn _ v1
    have jl : ∀ j, I2 (g.lk c) j = I (g.lk c) j := fun j => jI 5 _ j h5 (fun w => Is_ne h5 s3 (by decide) w.1)
    have co' : va_up a.co (ix a.tn) n (a.ct c) = a.co (a.ct c) := va_up_ne _ _ hh
    refine ⟨⟨ini _ v1, by rw [jl 6]; exact v2, ?_, ?_, by rw [jl 4]; exact v5, by rw [(hfr _ h5.1).2.1]; exact v6, by rw [(hfr _ h5.1).2.2.1]; exact v7, fun m hm => ⟨(v8 m hm).1, ?_⟩⟩, by rw [jl 0]; exact v9⟩
    · show F' (g.lk c) 2 = some (va_up g.d (ix a.tn) q (a.ct c))
      rw [(hfr _ h5.1).2.1, va_up_ne _ _ hh]; exact v3
    · show ∀ k, k < 4 → bitm (I2 (g.lk c) 3) k = (bitm (a.cm c) k && decide ((k : Int) < (va_up a.co (ix a.tn) n (a.ct c)).toInt))
      rw [jl 3, co']; exact v4
    · have y := (v8 m hm).2
      unfold fitB at y ⊢
      show ((List.range 4).all fun k => !(bitm (a.cm c) k && decide ((k : Int) < (va_up a.co (ix a.tn) n (a.ct c)).toInt)) || a.fc m k == a.cv c k) = true
      rw [co']; exact y
end VZA
