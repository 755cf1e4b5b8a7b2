set_option linter.unusedVariables false
set_option linter.unusedSimpArgs false
/-! the class: a look begins, with any values (laid by mkn.py) -/
section SN1
variable {b : CT} {I I' : Nat → Nat → Int32} {F F' : Nat → Nat → Option Nat} {A A' : Nat → Nat → Nat → Int32} {E : Nat → Nat → Nat → Option Nat} {o t n k q : Nat} {a : AS} {g : CGs} {X X' : String → HS → Prop} {Q Q' : HS → Prop}
theorem qs_begin (hx : CXx o a g b I F A E) (hV : AV a) (hq : Is b 5 q) (ht : inT a t) {m T : Int32} (hm : maskOk m) {ci w j : Nat} (hw : Is b ci w) (hwj : oF ci j = 20) (hwq : w ≠ q) (h : ∀ I' F' A', Lq q I I' F F' A A' → Lk1 a q t false m T.toInt none (A w j) g.d g.fa I' F' A' → I' q 0 = 0 → I' q 7 = 0 → Q (cS b I' F' A' E) → Q' (cS b I' F' A' E)) : w_X5_begin (some q) (some (g.d t)) m (some (b.ad w j)) T (cS b I F A E) Q X → w_X5_begin (some q) (some (g.d t)) m (some (b.ad w j)) T (cS b I F A E) Q' X' := by
  obtain ⟨hb, hs, htb, hF, hR, hK, hN, hH, hC, hO⟩ := hx
  obtain ⟨t1, t2, t3, t4, -⟩ := htb.2 t ht
  have hco := (hV.2.1.2 t ht).2.1
  unfold w_X5_begin
  refine qc_putF hb (by decide) (fun _ => ?_)
  refine qc_recv (fun _ => ?_)
  unfold w_X10_allColumns
  refine qc_getI (fun _ => ?_)
  rw [t4]
  refine qc_putI (fun _ => ?_)
  refine qc_putI (fun _ => ?_)
  refine qc_putF hb (by decide) (fun _ => ?_)
  refine qc_putZ (fun _ => ?_)
  refine qc_putI (fun _ => ?_)
  refine qc_putI (fun _ => ?_)
  have L0 : Lq q I (up2 (up2 (up2 (up2 (up2 I q 3 (m &&& (((1 : Int32) <<< (a.co t &&& 31)) - 1))) q 4 T) q 6 0) q 0 0) q 7 0) F (up2 (up2 F q 2 (some (g.d t))) q 5 none) A A := Lq_I (Lq_I (Lq_I (Lq_I (Lq_I (Lq_F (Lq_F Lq_rf))))))
  have i3 : (up2 (up2 (up2 (up2 (up2 I q 3 (m &&& (((1 : Int32) <<< (a.co t &&& 31)) - 1))) q 4 T) q 6 0) q 0 0) q 7 0) q 3 = m &&& (((1 : Int32) <<< (a.co t &&& 31)) - 1) := by simp [up2]
  have i4 : (up2 (up2 (up2 (up2 (up2 I q 3 (m &&& (((1 : Int32) <<< (a.co t &&& 31)) - 1))) q 4 T) q 6 0) q 0 0) q 7 0) q 4 = T := by simp [up2]
  have i6 : (up2 (up2 (up2 (up2 (up2 I q 3 (m &&& (((1 : Int32) <<< (a.co t &&& 31)) - 1))) q 4 T) q 6 0) q 0 0) q 7 0) q 6 = 0 := by simp [up2]
  have i0 : (up2 (up2 (up2 (up2 (up2 I q 3 (m &&& (((1 : Int32) <<< (a.co t &&& 31)) - 1))) q 4 T) q 6 0) q 0 0) q 7 0) q 0 = 0 := by simp [up2]
  have i7 : (up2 (up2 (up2 (up2 (up2 I q 3 (m &&& (((1 : Int32) <<< (a.co t &&& 31)) - 1))) q 4 T) q 6 0) q 0 0) q 7 0) q 7 = 0 := by simp [up2]
  have f2 : (up2 (up2 F q 2 (some (g.d t))) q 5 none) q 2 = some (g.d t) := by simp [up2]
  have f5 : (up2 (up2 F q 2 (some (g.d t))) q 5 none) q 5 = none := by simp [up2]
  generalize up2 (up2 (up2 (up2 (up2 I q 3 (m &&& (((1 : Int32) <<< (a.co t &&& 31)) - 1))) q 4 T) q 6 0) q 0 0) q 7 0 = I2 at L0 i3 i4 i6 i0 i7 ⊢
  generalize up2 (up2 F q 2 (some (g.d t))) q 5 none = F2 at L0 f2 f5 ⊢
  refine qc_loop (fun v b' I' F' A' E' => b' = b ∧ I' = I2 ∧ F' = F2 ∧ E' = E ∧ Lq q I I2 F F2 A A' ∧ ∃ i : Nat, v.toInt = (i : Int) ∧ i ≤ 4 ∧ ∀ k, k < i → A' q 1 k = A w j k) ⟨rfl, rfl, rfl, rfl, L0, 0, by decide, by omega, fun k hk => absurd hk (by omega)⟩ (fun v b' I' F' A' E' again again' ⟨e1, e2, e3, e4, L1, i, j1, j2, j3⟩ ha => ?_)
  subst e1; subst e2; subst e3; subst e4
  refine qv_if (fun z => ?_) (fun z => ?_)
  · simp only [i32, Int32.reduceToInt] at z
    refine h _ _ _ L1 ⟨ht, ?_, f2, fun k hk => ?_, by rw [i4], f5, fun k hk => j3 k (by omega), fun n hn => absurd hn (by simp)⟩ i0 i7
    · rw [i6]; simp
    · rw [i3]; exact mask_and hm hco hk
  · simp only [i32, Int32.reduceToInt] at z
    refine qc_getA hb (by decide) (fun _ => ?_)
    refine qc_ald hb hw hwj (by decide) (fun _ => ?_)
    refine qc_astI hb hq (by decide) (fun _ => ?_)
    rw [ix_of j1, L1.2.2 w hwq]
    refine ha _ _ _ _ _ _ ⟨rfl, rfl, rfl, rfl, Lq_A L1, i + 1, by rw [i_add j1 (show (1 : Int32).toInt = 1 by decide) (by omega)]; omega, by omega, fun k hk => ?_⟩
    rw [up3_at]
    by_cases e : k = i
    · rw [e, va_up_self]
    · rw [va_up_ne _ _ e]; exact j3 k (by omega)
end SN1
