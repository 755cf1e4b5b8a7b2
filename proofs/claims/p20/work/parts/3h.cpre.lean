set_option linter.unusedVariables false
set_option linter.unusedSimpArgs false
/-! the class: what is asked before a call does anything; looks begin -/
section VH1
variable {b : CT} {I I' : Nat → Nat → Int32} {F F' : Nat → Nat → Option Nat} {A A' : Nat → Nat → Nat → Int32} {E E' : Nat → Nat → Nat → Option Nat} {o t n n' k f c p x w j ci q s h l : Nat} {a : AS} {g : CGs} {lk d r ct fa : Nat → Nat} {y : HS} {X X' : String → HS → Prop} {Q Q' : HS → Prop} {QI QI' : Int32 → HS → Prop} {QF QF' : Option Nat → HS → Prop}
theorem qc_range {l0 l1 l2 : Int32} (hQ : l1.toInt ≤ l0.toInt → l0.toInt ≤ l2.toInt → Q (cS b I F A E) → Q' (cS b I F A E)) (hX : ¬ (l1.toInt ≤ l0.toInt ∧ l0.toInt ≤ l2.toInt) → X eIA (cS (b.B.wC (b.B.c - 1) (b.B.z - 6), b.2) I F A E) → X' eIA (cS (b.B.wC (b.B.c - 1) (b.B.z - 6), b.2) I F A E)) : w_X11_requireRange l0 l1 l2 (cS b I F A E) Q X → w_X11_requireRange l0 l1 l2 (cS b I F A E) Q' X' := qs_range hQ hX
theorem qc_tableOf (hx : CXx o a g b I F A E) {t : Int32} (h0 : ¬ tabOk a t → X eNE (cS (b.B.wC (b.B.c - 1) (b.B.z - 6), b.2) I F A E) → X' eNE (cS (b.B.wC (b.B.c - 1) (b.B.z - 6), b.2) I F A E)) (h1 : tabOk a t → QF (some (g.d (ix t))) (cS b I F A E) → QF' (some (g.d (ix t))) (cS b I F A E)) : w_X11_tableOf (some o) t (cS b I F A E) QF X → w_X11_tableOf (some o) t (cS b I F A E) QF' X' := by
  obtain ⟨hb, hs, ht, -⟩ := hx
  unfold w_X11_tableOf
  refine qc_getF hb (by decide) (fun _ => ?_)
  rw [hs.2.1]
  refine qc_recv (fun _ => ?_)
  unfold w_X9_tableAt
  dsimp only [wJoin]
  have no : ¬ tabOk a t → wIf ((none : Option Nat) = none) (wThrow (cS b I F A E) eNE X) (QF none (cS b I F A E)) → wIf ((none : Option Nat) = none) (wThrow (cS b I F A E) eNE X') (QF' none (cS b I F A E)) := fun hn => qv_if (fun _ => qc_throw (h0 hn)) (fun z => absurd rfl z)
  refine qv_if (fun z => no (fun y => ?_)) (fun z => qc_getI (fun _ => ?_))
  · simp only [i32, Int32.reduceToInt] at z; have := y.1; omega
  · rw [ht.1]
    refine qv_if (fun z2 => ?_) (fun z2 => no (fun y => ?_))
    · simp only [i32, Int32.reduceToInt] at z z2
      have htab : tabOk a t := ⟨by omega, z2⟩
      refine qc_getA hb (by decide) (fun _ => ?_)
      refine qc_aldG hb hs.2.2.1 (by decide) (by decide) (fun _ => ?_)
      rw [(ht.2 _ (tab_in htab)).1]
      exact qv_if (fun z => absurd z (by simp)) (fun _ => h1 htab)
    · simp only [i32] at z2; exact z2 y.2
theorem qc_requireTime (hx : CXx o a g b I F A E) {q : Int32} (h0 : ¬ timeOk a q → X eIA (cS (b.B.wC (b.B.c - 1) (b.B.z - 6), b.2) I F A E) → X' eIA (cS (b.B.wC (b.B.c - 1) (b.B.z - 6), b.2) I F A E)) (h1 : timeOk a q → Q (cS b I F A E) → Q' (cS b I F A E)) : w_X11_requireTime (some o) q (cS b I F A E) Q X → w_X11_requireTime (some o) q (cS b I F A E) Q' X' := by
  obtain ⟨hb, hs, ht, hF, hR, hK, hN, -⟩ := hx
  unfold w_X11_requireTime
  dsimp only [wJoin]
  refine qv_if (fun z => h1 (Or.inl (by rw [z]; decide))) (fun z => ?_)
  have hz : q.toInt ≠ -1 := fun y => z (i_ext (by rw [y]; decide))
  refine qc_getF hb (by decide) (fun _ => ?_)
  rw [hs.2.1]
  refine qc_getI (fun _ => ?_)
  refine qc_getF hb (by decide) (fun _ => ?_)
  rw [hs.2.1]
  refine qc_getI (fun _ => ?_)
  refine qs_range (fun c1 c2 => h1 (Or.inr ?_)) (fun hn => h0 (fun y => hn ?_))
  · rw [hN.2.2.2] at c1; rw [hN.2.2.1] at c2; exact ⟨c1, c2⟩
  · rw [hN.2.2.2, hN.2.2.1]; exact y.resolve_left hz
theorem qc_timeOf (hx : CXx o a g b I F A E) {q : Int32} (h : ∀ T : Int32, T.toInt = timeOf a q → QI T (cS b I F A E) → QI' T (cS b I F A E)) : w_X9_timeOf (some g.s) q (cS b I F A E) QI X → w_X9_timeOf (some g.s) q (cS b I F A E) QI' X' := by
  obtain ⟨hb, hs, ht, hF, hR, hK, hN, -⟩ := hx
  unfold w_X9_timeOf
  dsimp only [wJoin]
  refine qv_if (fun z => qc_getI (fun _ => h _ ?_)) (fun z => h _ ?_)
  · unfold timeOf; rw [if_pos (by rw [z]; decide)]; exact hN.2.2.1
  · unfold timeOf; rw [if_neg (fun y => z (i_ext (by rw [y]; decide)))]
theorem qc_requireLook (hx : CXx o a g b I F A E) {t m q : Int32} (k1 : ¬ (maskOk m ∧ timeOk a q) → X eIA (cS (b.B.wC (b.B.c - 1) (b.B.z - 6), b.2) I F A E) → X' eIA (cS (b.B.wC (b.B.c - 1) (b.B.z - 6), b.2) I F A E)) (k2 : maskOk m ∧ timeOk a q → ¬ tabOk a t → X eNE (cS (b.B.wC (b.B.c - 1) (b.B.z - 6), b.2) I F A E) → X' eNE (cS (b.B.wC (b.B.c - 1) (b.B.z - 6), b.2) I F A E)) (k0 : maskOk m ∧ timeOk a q → tabOk a t → Q (cS b I F A E) → Q' (cS b I F A E)) : w_X11_requireLook (some o) t m q (cS b I F A E) Q X → w_X11_requireLook (some o) t m q (cS b I F A E) Q' X' := by
  unfold w_X11_requireLook
  refine qs_range (fun c1 c2 => ?_) (fun hn => k1 (fun y => hn ⟨y.1.1, y.1.2⟩))
  have hm : maskOk m := ⟨c1, c2⟩
  refine qc_recv (fun _ => ?_)
  refine qc_requireTime hx (fun hn => k1 (fun y => hn y.2)) (fun hti => ?_)
  refine qc_recv (fun _ => ?_)
  exact qc_tableOf hx (k2 ⟨hm, hti⟩) (k0 ⟨hm, hti⟩)
theorem mask_co : ∀ i : Fin 16, ∀ c : Fin 5, ∀ k : Fin 4, 1 ≤ c.val → bitm (Int32.ofNat i.val &&& (((1 : Int32) <<< (Int32.ofNat c.val &&& 31)) - 1)) k.val = (bitm (Int32.ofNat i.val) k.val && decide (k.val < c.val)) := by decide
theorem mask_and {m c : Int32} (hm : maskOk m) (hc : 1 ≤ c.toInt ∧ c.toInt ≤ 4) {k : Nat} (hk : k < 4) : bitm (m &&& (((1 : Int32) <<< (c &&& 31)) - 1)) k = (bitm m k && decide ((k : Int) < c.toInt)) := by
  have e1 : m = Int32.ofNat m.toInt.toNat := i_of (by have := hm.1; omega)
  have e2 : c = Int32.ofNat c.toInt.toNat := i_of (by omega)
  have h := mask_co ⟨m.toInt.toNat, by have := hm.1; have := hm.2; omega⟩ ⟨c.toInt.toNat, by omega⟩ ⟨k, hk⟩ (by show 1 ≤ c.toInt.toNat; omega)
  have h : bitm (Int32.ofNat m.toInt.toNat &&& (((1 : Int32) <<< (Int32.ofNat c.toInt.toNat &&& 31)) - 1)) k = (bitm (Int32.ofNat m.toInt.toNat) k && decide (k < c.toInt.toNat)) := h
  rw [← e1, ← e2] at h
  rw [h]
  congr 1
  exact decide_eq_decide.mpr (by omega)
/-- of a look nothing else has changed -/
def Lq (q : Nat) (I I' : Nat → Nat → Int32) (F F' : Nat → Nat → Option Nat) (A A' : Nat → Nat → Nat → Int32) : Prop := (∀ x, x ≠ q → I' x = I x) ∧ (∀ x, x ≠ q → F' x = F x) ∧ ∀ x, x ≠ q → A' x = A x
theorem Lq_rf : Lq q I I F F A A := ⟨fun _ _ => rfl, fun _ _ => rfl, fun _ _ => rfl⟩
theorem Lq_I {v : Int32} (h : Lq q I I' F F' A A') : Lq q I (up2 I' q j v) F F' A A' := ⟨fun x hx => by rw [← h.1 x hx]; funext j'; exact if_neg (fun z => hx z.1), h.2⟩
theorem Lq_F {v : Option Nat} (h : Lq q I I' F F' A A') : Lq q I I' F (up2 F' q j v) A A' := ⟨h.1, fun x hx => by rw [← h.2.1 x hx]; funext j'; exact if_neg (fun z => hx z.1), h.2.2⟩
theorem Lq_A {i : Nat} {v : Int32} (h : Lq q I I' F F' A A') : Lq q I I' F F' A (up3 A' q j i v) := ⟨h.1, h.2.1, fun x hx => by rw [← h.2.2 x hx]; funext j'; exact up3_ne (fun z => hx z.1)⟩
theorem Lq_Iq {js : List Nat} {I2 : Nat → Nat → Int32} (h : Lq q I I' F F' A A') (h2 : Iq q js I' I2) : Lq q I I2 F F' A A' := ⟨fun x hx => by rw [h2.1 x hx, h.1 x hx], h.2⟩
theorem qc_begin (hx : CXx o a g b I F A E) (hV : AV a) (hq : Is b 5 q) (ht : inT a t) {m T : Int32} (hm : maskOk m) (h : ∀ I' F' A', Lq q I I' F F' A A' → Lk1 a q t false m T.toInt none a.vv g.d g.fa I' F' A' → I' q 0 = 0 → Q (cS b I' F' A' E) → Q' (cS b I' F' A' E)) : w_X5_begin (some q) (some (g.d t)) m (some (b.ad o 1)) T (cS b I F A E) Q X → w_X5_begin (some q) (some (g.d t)) m (some (b.ad o 1)) T (cS b I F A E) Q' X' := by
  obtain ⟨hb, hs, htb, hF, hR, hK, hN, hH, hC, hO⟩ := hx
  obtain ⟨t1, t2, t3, t4, -⟩ := htb.2 t ht
  have hco := (hV.2.1.2 t ht).2.1
  have hqo : o ≠ q := Is_ne hs.1 hq (by decide)
  unfold w_X5_begin
  refine qc_putF hb (by decide) (fun _ => ?_)
  refine qc_recv (fun _ => ?_)
  unfold w_X10_allColumns
  refine qc_getI (fun _ => ?_)
  rw [t4]
  refine qc_putI (fun _ => ?_)
  refine qc_putI (fun _ => ?_)
  refine qc_putF hb (by decide) (fun _ => ?_)
  refine qc_putZ (fun _ => ?_)
  refine qc_putI (fun _ => ?_)
  refine qc_putI (fun _ => ?_)
  have L0 : Lq q I (up2 (up2 (up2 (up2 (up2 I q 3 (m &&& (((1 : Int32) <<< (a.co t &&& 31)) - 1))) q 4 T) q 6 0) q 0 0) q 7 0) F (up2 (up2 F q 2 (some (g.d t))) q 5 none) A A := Lq_I (Lq_I (Lq_I (Lq_I (Lq_I (Lq_F (Lq_F Lq_rf))))))
  have i3 : (up2 (up2 (up2 (up2 (up2 I q 3 (m &&& (((1 : Int32) <<< (a.co t &&& 31)) - 1))) q 4 T) q 6 0) q 0 0) q 7 0) q 3 = m &&& (((1 : Int32) <<< (a.co t &&& 31)) - 1) := by simp [up2]
  have i4 : (up2 (up2 (up2 (up2 (up2 I q 3 (m &&& (((1 : Int32) <<< (a.co t &&& 31)) - 1))) q 4 T) q 6 0) q 0 0) q 7 0) q 4 = T := by simp [up2]
  have i6 : (up2 (up2 (up2 (up2 (up2 I q 3 (m &&& (((1 : Int32) <<< (a.co t &&& 31)) - 1))) q 4 T) q 6 0) q 0 0) q 7 0) q 6 = 0 := by simp [up2]
  have i0 : (up2 (up2 (up2 (up2 (up2 I q 3 (m &&& (((1 : Int32) <<< (a.co t &&& 31)) - 1))) q 4 T) q 6 0) q 0 0) q 7 0) q 0 = 0 := by simp [up2]
  have f2 : (up2 (up2 F q 2 (some (g.d t))) q 5 none) q 2 = some (g.d t) := by simp [up2]
  have f5 : (up2 (up2 F q 2 (some (g.d t))) q 5 none) q 5 = none := by simp [up2]
  generalize up2 (up2 (up2 (up2 (up2 I q 3 (m &&& (((1 : Int32) <<< (a.co t &&& 31)) - 1))) q 4 T) q 6 0) q 0 0) q 7 0 = I2 at L0 i3 i4 i6 i0 ⊢
  generalize up2 (up2 F q 2 (some (g.d t))) q 5 none = F2 at L0 f2 f5 ⊢
  refine qc_loop (fun v b' I' F' A' E' => b' = b ∧ I' = I2 ∧ F' = F2 ∧ E' = E ∧ Lq q I I2 F F2 A A' ∧ ∃ i : Nat, v.toInt = (i : Int) ∧ i ≤ 4 ∧ ∀ k, k < i → A' q 1 k = a.vv k) ⟨rfl, rfl, rfl, rfl, L0, 0, by decide, by omega, fun k hk => absurd hk (by omega)⟩ (fun v b' I' F' A' E' again again' ⟨e1, e2, e3, e4, L1, i, j1, j2, j3⟩ ha => ?_)
  subst e1; subst e2; subst e3; subst e4
  refine qv_if (fun z => ?_) (fun z => ?_)
  · simp only [i32, Int32.reduceToInt] at z
    refine h _ _ _ L1 ⟨ht, ?_, f2, fun k hk => ?_, by rw [i4], f5, fun k hk => j3 k (by omega), fun n hn => absurd hn (by simp)⟩ i0
    · rw [i6]; simp
    · rw [i3]; exact mask_and hm hco hk
  · simp only [i32, Int32.reduceToInt] at z
    refine qc_getA hb (by decide) (fun _ => ?_)
    refine qc_ald hb hs.1 (by decide) (by decide) (fun _ => ?_)
    refine qc_astI hb hq (by decide) (fun _ => ?_)
    rw [ix_of j1, L1.2.2 o hqo, hO.1 i (by omega)]
    refine ha _ _ _ _ _ _ ⟨rfl, rfl, rfl, rfl, Lq_A L1, i + 1, by rw [i_add j1 (show (1 : Int32).toInt = 1 by decide) (by omega)]; omega, by omega, fun k hk => ?_⟩
    rw [up3_at]
    by_cases e : k = i
    · rw [e, va_up_self]
    · rw [va_up_ne _ _ e]; exact j3 k (by omega)
theorem qc_beginLook (hx : CXx o a g b I F A E) (hV : AV a) (hq : Is b 5 q) {t m at' : Int32} (k1 : ¬ (maskOk m ∧ timeOk a at') → X eIA (cS (b.B.wC (b.B.c - 1) (b.B.z - 6), b.2) I F A E) → X' eIA (cS (b.B.wC (b.B.c - 1) (b.B.z - 6), b.2) I F A E)) (k2 : maskOk m ∧ timeOk a at' → ¬ tabOk a t → X eNE (cS (b.B.wC (b.B.c - 1) (b.B.z - 6), b.2) I F A E) → X' eNE (cS (b.B.wC (b.B.c - 1) (b.B.z - 6), b.2) I F A E))
    (k0 : maskOk m ∧ timeOk a at' → tabOk a t → ∀ I' F' A', Lq q I I' F F' A A' → Lk1 a q (ix t) false m (timeOf a at') none a.vv g.d g.fa I' F' A' → I' q 0 = 0 → Q (cS b I' F' A' E) → Q' (cS b I' F' A' E)) : w_X11_beginLook (some o) (some q) t m at' (cS b I F A E) Q X → w_X11_beginLook (some o) (some q) t m at' (cS b I F A E) Q' X' := by
  have hb := hx.1
  have hs := hx.2.1
  unfold w_X11_beginLook
  refine qc_recv (fun _ => ?_)
  refine qc_requireLook hx k1 k2 (fun hm ht => ?_)
  refine qc_recv (fun _ => ?_)
  refine qc_tableOf hx (fun hn => absurd ht hn) (fun _ => ?_)
  refine qc_getA hb (by decide) (fun _ => ?_)
  refine qc_getF hb (by decide) (fun _ => ?_)
  rw [hs.2.1]
  refine qc_recv (fun _ => ?_)
  refine qc_timeOf hx (fun T hT => ?_)
  refine qc_recv (fun _ => ?_)
  refine qc_begin hx hV hq (tab_in ht) hm.1 (fun I' F' A' h1 h2 h3 => ?_)
  rw [hT] at h2
  exact k0 hm ht I' F' A' h1 h2 h3
/-- the keeper's own look doesn't count -/
theorem CXx_l (hx : CXx o a g b I F A E) (h : Lq g.l I I' F F' A A') : CXx o a g b I' F' A' E := by
  have hs := hx.2.1
  have ne : ∀ ci x j (S : List (Nat × Nat)), Is b ci x → (ci, j) ∈ S → (∀ j, (5, j) ∉ S) → x ≠ g.l := fun ci x j S hx hj hS z => hS j (by rw [← hs.2.2.2.2.2.2.1.2, ← z, hx.2]; exact hj)
  refine CXx_eq hx (fun ci x j hx hj => ?_) (fun ci x j hx hj => ?_) (fun ci x j hx hj => ?_) (fun _ _ _ _ _ => rfl) (fun c hc => ?_)
  · rw [h.1 x (ne ci x j _ hx hj (fun j z => by simp only [cxI, cxF, cxA, List.mem_cons, Prod.mk.injEq, List.not_mem_nil, or_false] at z; omega))]
  · rw [h.2.1 x (ne ci x j _ hx hj (fun j z => by simp only [cxI, cxF, cxA, List.mem_cons, Prod.mk.injEq, List.not_mem_nil, or_false] at z; omega))]
  · rw [h.2.2 x (ne ci x j _ hx hj (fun j z => by simp only [cxI, cxF, cxA, List.mem_cons, Prod.mk.injEq, List.not_mem_nil, or_false] at z; omega))]
  · have := (hs.2.2.2.2.2.2.2.1 c hc).2.2
    exact ⟨h.1 _ this, h.2.1 _ this, h.2.2 _ this⟩
theorem qc_numberOf {v : Option Nat} (h0 : v = none → QI (-1) (cS b I F A E) → QI' (-1) (cS b I F A E)) (h1 : ∀ f, v = some f → QI (I f 4) (cS b I F A E) → QI' (I f 4) (cS b I F A E)) : w_X11_numberOf v (cS b I F A E) QI X → w_X11_numberOf v (cS b I F A E) QI' X' := by
  unfold w_X11_numberOf
  dsimp only [wJoin]
  cases v with
  | none => exact qv_if (fun _ => h0 rfl) (fun z => absurd rfl z)
  | some f => exact qv_if (fun z => absurd z (by simp)) (fun _ => qc_getI (fun _ => h1 f rfl))
theorem qc_take (h : QI (I q 7) (cS b (up2 I q 7 0) F A E) → QI' (I q 7) (cS b (up2 I q 7 0) F A E)) : w_X5_takeLookedAt (some q) (cS b I F A E) QI X → w_X5_takeLookedAt (some q) (cS b I F A E) QI' X' := by
  unfold w_X5_takeLookedAt
  exact qc_getI (fun _ => qc_putI (fun _ => h))
end VH1
