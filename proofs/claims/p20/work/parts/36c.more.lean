set_option linter.unusedVariables false
set_option linter.unusedSimpArgs false
/-- the reader and the goal have changed, but not the goal's sign -/
def Fq (r q : Nat) (I I' : Nat → Nat → Int32) : Prop := (∀ a, a ≠ r → a ≠ q → I' a = I a) ∧ I' q 2 = I q 2
/-- a goal about a table has one -/
def TbG (b : CT) (I : Nat → Nat → Int32) (F : Nat → Nat → Option Nat) (q : Nat) : Prop := (I q 2 = 116 ∨ I q 2 = 33) → ∃ t, F q 3 = some t ∧ Is b 10 t
section C29
variable {b : CT} {g : Gh} {o s h N r q : Nat} {vv vv' : Nat → Int32} {x : HS} {I I' I'' : Nat → Nat → Int32} {F F' : Nat → Nat → Option Nat} {A A' : Nat → Nat → Nat → Int32} {E : Nat → Nat → Nat → Option Nat} {W : Nat → Prop} {X : String → HS → Prop} {Q : HS → Prop} {QI : Int32 → HS → Prop} {QF : Option Nat → HS → Prop}
theorem Fq_rf : Fq r q I I := ⟨fun _ _ _ => rfl, rfl⟩
theorem Fq_tr (h : Fq r q I I') (h2 : Fq r q I' I'') : Fq r q I I'' := ⟨fun a z1 z2 => by rw [h2.1 a z1 z2, h.1 a z1 z2], by rw [h2.2, h.2]⟩
theorem Fq_r (hr : q ≠ r) (h : Ol r I I') : Fq r q I I' := ⟨fun a z1 _ => h a z1, by rw [h q hr]⟩
theorem Fq_q {j : Nat} {v : Int32} (hj : j ≠ 2) : Fq r q I (up2 I q j v) := ⟨fun a _ z => up2_row _ _ _ z, up2_k _ _ _ _ (fun z => hj z.symm)⟩
theorem KS_G (hs : KRs b g o s h vv r I F A E N) (hq : Is b 2 q) (h1 : Ol q I I') (h3 : Ol q A A') (hG : GO b I' A') : KRs b g o s h vv r I' F A' E N := by
  obtain ⟨hk, hz, k3, k4, k5, k6⟩ := hs
  obtain ⟨s1, s2, s3, s4, s5, -⟩ := id hk.2.2.1
  have n11 : ∀ c j, (c, j) ∈ rI3 → c ≠ 2 := fun c j z => by simp only [rI3, List.mem_cons, List.not_mem_nil, or_false, Prod.mk.injEq] at z; omega
  have m11 : ∀ c j, (c, j) ∈ rA3 → c ≠ 2 := fun c j z => by simp only [rA3, List.mem_cons, List.not_mem_nil, or_false, Prod.mk.injEq] at z; omega
  have eo : A' o = A o := h3 o (Is_ne s1 hq (by decide))
  have eoI : I' o = I o := h1 o (Is_ne s1 hq (by decide))
  refine ⟨KV_eqG hk ⟨fun c a j ha hr => by rw [h1 a (Is_ne ha hq (n11 c j hr))], fun _ _ _ _ _ => rfl, fun c a j ha hr => by rw [h3 a (Is_ne ha hq (m11 c j hr))], fun _ _ _ _ _ => rfl⟩ (by unfold CU; rw [eo]; exact hk.2.2.2.2.2.1) hG (by rw [eo]; exact hk.2.2.2.2.2.2.2.2.1.1) (by unfold KN; rw [eoI]; exact hk.2.2.2.2.2.2.1), ?_, k3, k4, k5, ?_⟩
  · unfold HZ
    rw [h1 h (Is_ne s5 hq (by decide))]; exact hz
  · rw [h1 r (Is_ne k3 hq (by decide))]; exact k6
theorem KS_GO (hs : KRs b g o s h vv r I F A E N) : GO b I A := hs.1.2.2.2.2.2.2.2.2.1.2
theorem GO_set {i : Nat} {w v : Int32} (h : GO b I A) (hwv : (w = 1 ∨ w = 2 ∨ w = 3) → wIn v 8) : GO b I (up3 (up3 A q 0 i w) q 1 i v) := fun q' hq' => by
  obtain ⟨h1, h2⟩ := h q' hq'
  refine ⟨fun k hk hkk => ?_, h2⟩
  by_cases hqq : q' = q
  · subst hqq
    rw [up3_at, up3_ne (show ¬ (q' = q' ∧ 1 = 0) by omega)]
    rw [up3_ne (show ¬ (q' = q' ∧ 0 = 1) by omega), up3_at] at hkk
    by_cases hki : k = i
    · subst hki
      rw [va_up_self] at hkk ⊢
      exact hwv hkk
    · rw [va_up_ne _ _ hki] at hkk ⊢
      exact h1 k hk hkk
  · rw [up3_ne (fun z => hqq z.1), up3_ne (fun z => hqq z.1)] at hkk ⊢
    exact h1 k hk hkk
theorem up3_same {α : Type} {f : Nat → Nat → Nat → α} {a j i : Nat} : up3 f a j i (f a j i) = f := by
  funext a' j' i'
  unfold up3
  split
  · rename_i hh; obtain ⟨rfl, rfl, rfl⟩ := hh; rfl
  · rfl
theorem GO_kind {i : Nat} {w : Int32} (h : GO b I A) (hwv : (w = 1 ∨ w = 2 ∨ w = 3) → wIn (A q 1 i) 8) : GO b I (up3 A q 0 i w) := by
  have := GO_set (q := q) (i := i) (w := w) (v := A q 1 i) h hwv
  have e : up3 (up3 A q 0 i w) q 1 i (A q 1 i) = up3 A q 0 i w := by
    have e2 : A q 1 i = up3 A q 0 i w q 1 i := by rw [up3_ne (by omega)]
    conv => lhs; rw [e2]
    exact up3_same
  rw [e] at this; exact this
theorem r_arg (hs : KRs b g o s h vv r I F A E N) (hq : Is b 2 q) {k m : Int32} (hk4 : wIn k 4) (hX : ∀ x', KInv o N vv x' → X eUO x') (hQ : ∀ I' A', KRs b g o s h vv r I' F A' E N → Fq r q I I' → Q (cS b I' F A' E)) : w_X6_readArg (some r) (some q) k m (cS b I F A E) Q X := by
  have h3 := hs.2.2.1
  have hb := hs.1.1
  have hqr : q ≠ r := Is_ne hq h3 (by decide)
  simp only [w_X6_readArg]
  rw [c_recv h3]
  refine r_here hs (fun v hv => ?_)
  refine wJoin_i (fun K => ∀ I' A', KRs b g o s h vv r I' F A' E N → Fq r q I I' → K (cS b I' F A' E)) hQ (fun K hK => ?_)
  refine wJoin_i (fun K => K (cS b I F A E)) ?_ (fun K2 hK2 => ⟨fun _ => hK2, fun q1 => ⟨fun _ => hK2, fun q2 => ?_⟩⟩)
  · refine wJoin_i (fun K => K (cS b I F A E)) ?_ (fun K2 hK2 => ⟨fun q1 => ⟨fun _ => hK2, fun _ => ?_⟩, fun _ => hK2⟩)
    · simp only [cw hb, h3, hq, hk4, true_and]
      have g1 := KS_G hs hq Ol_rf (Ol_up3 Ol_rf) (GO_kind (q := q) (i := ix k) (w := 0) (KS_GO hs) (fun z => absurd z (by decide)))
      refine r_number g1 hX (fun w I1 p1 p2 => ?_)
      simp only [cw hb, hq, hk4, true_and]
      have g2 := KS_G p1 hq Ol_rf (Ol_up3 Ol_rf) (GO_set (q := q) (i := ix k) (w := 0) (v := w) (I := I1) (A := A) (GO_fr (KS_GO hs) (fun _ h => h) (fun q' hq' => by rw [p2 q' (Is_ne hq' h3 (by decide))]) (fun _ _ => ⟨rfl, rfl⟩)) (fun z => absurd z (by decide)))
      exact hK _ _ g2 (Fq_r hqr p2)
    · simp only [cw hb, h3, hq, hk4, true_and]
      have g1 := KS_G hs hq Ol_rf (Ol_up3 Ol_rf) (GO_kind (q := q) (i := ix k) (w := 4) (KS_GO hs) (fun z => absurd z (by decide)))
      obtain ⟨z1, z2⟩ := KS_6 g1 (hv.resolve_left (fun z => by rw [z] at q1; exact absurd q1 (by decide)))
      exact hK _ _ z1 (Fq_r hqr (Ol_up2 Ol_rf))
  · simp only [cw hb, h3, hq, hk4, true_and]
    have w1 : 65 ≤ v.toInt ∧ v.toInt < 73 := by simp only [i32, Int32.reduceToInt] at q1 q2; omega
    have e : (v - 65).toInt = v.toInt - 65 := i_sub rfl (by decide) (by omega)
    have g1 := KS_G hs hq Ol_rf (Ol_up3 (Ol_up3 Ol_rf)) (GO_set (q := q) (i := ix k) (w := 2) (v := v - 65) (KS_GO hs) (fun _ => ⟨by omega, by omega⟩))
    obtain ⟨z1, z2⟩ := KS_6 g1 (hv.resolve_left (fun z => by rw [z] at w1; exact absurd w1 (by decide)))
    exact hK _ _ z1 (Fq_r hqr (Ol_up2 Ol_rf))
theorem r_sort (hs : KRs b g o s h vv r I F A E N) (hq : Is b 2 q) {k m : Int32} (hk4 : wIn k 4) (hQ : ∀ v I' A', KRs b g o s h vv r I' F A' E N → Fq r q I I' → QI v (cS b I' F A' E)) : w_X6_sortTableArg (some r) (some q) k m (cS b I F A E) QI X := by
  have h3 := hs.2.2.1
  have hb := hs.1.1
  simp only [w_X6_sortTableArg, cw hb, hq, hk4, true_and]
  refine wJoin_i (fun K => ∀ v A', KRs b g o s h vv r I F A' E N → K v (cS b I F A' E)) (fun v A1 p1 => ?_) (fun K hK => ⟨fun q1 => ?_, fun _ => hK _ _ hs⟩)
  · simp only [cw hb, hq, hk4, true_and, wJoin, wIf]
    have set : QI v (cS b (up2 I q 4 (I q 4 ||| 1 <<< (k &&& 31))) F A1 E) := hQ _ _ _ (KS_G p1 hq (Ol_up2 Ol_rf) Ol_rf (GO_fr (KS_GO p1) (fun _ h => h) (fun q' hq' => by
        by_cases hqq : q' = q
        · rw [hqq]; exact up2_k _ _ _ _ (by decide)
        · exact up2_a _ _ _ _ hqq) (fun _ _ => ⟨rfl, rfl⟩))) (Fq_q (by decide))
    exact ⟨fun _ => set, fun _ => ⟨fun _ => set, fun _ => hQ _ _ _ p1 Fq_rf⟩⟩
  · simp only [cw hb, h3, hq, hk4, true_and]
    have hin := (KS_GO hs q hq).1 (ix k) (ix_lt hk4) (Or.inr (Or.inl q1))
    have g1 : ∀ w, KRs b g o s h vv r I F (up3 A q 0 (ix k) w) E N := fun w => KS_G hs hq Ol_rf (Ol_up3 Ol_rf) (GO_kind (KS_GO hs) (fun _ => hin))
    refine c_isIn (fun r1 _ => ⟨fun _ => ?_, fun _ => ?_⟩)
    · simp only [cw hb, hq, hk4, true_and]
      refine c_isIn (fun r2 _ => ⟨fun _ => ?_, fun _ => ?_⟩)
      · simp only [cw hb, hq, hk4, true_and]; exact hK _ _ hs
      · simp only [cw hb, hq, hk4, true_and]; exact hK _ _ (g1 3)
    · simp only [cw hb, hq, hk4, true_and]; exact hK _ _ (g1 1)
theorem r_known (hs : KRs b g o s h vv r I F A E N) (hq : Is b 2 q) {k m : Int32} (hk4 : wIn k 4) (hX : ∀ x', KInv o N vv x' → X eUO x') (hQ : ∀ A', KRs b g o s h vv r I F A' E N → Q (cS b I F A' E)) : w_X6_requireKnown (some r) (some q) k m (cS b I F A E) Q X := by
  have h3 := hs.2.2.1
  have hb := hs.1.1
  simp only [w_X6_requireKnown, cw hb, h3, hq, hk4, true_and]
  refine wJoin_i (fun K => ∀ A', KRs b g o s h vv r I F A' E N → K (cS b I F A' E)) hQ (fun K hK => ⟨fun q1 => ?_, fun _ => hK _ hs⟩)
  have hin := (KS_GO hs q hq).1 (ix k) (ix_lt hk4) (Or.inr (Or.inl q1))
  refine c_isIn (fun r1 _ => ?_)
  refine wJoin_i (fun K => K (cS b I F A E)) ?_ (fun K2 hK2 => ⟨fun _ => ?_, fun _ => hK2⟩)
  · simp only [cw hb, hq, hk4, true_and]
    exact hK _ (KS_G hs hq Ol_rf (Ol_up3 Ol_rf) (GO_kind (KS_GO hs) (fun _ => hin)))
  · rw [c_recv h3]
    exact r_refuse hs hX
theorem r_knownArg (hs : KRs b g o s h vv r I F A E N) (hq : Is b 2 q) {k : Int32} (hk4 : wIn k 4) (hX : ∀ x', KInv o N vv x' → X eUO x') (hQ : ∀ I' A', KRs b g o s h vv r I' F A' E N → Fq r q I I' → Q (cS b I' F A' E)) : w_X6_readKnownArg (some r) (some q) k (cS b I F A E) Q X := by
  have h3 := hs.2.2.1
  have hb := hs.1.1
  have hqr : q ≠ r := Is_ne hq h3 (by decide)
  simp only [w_X6_readKnownArg]
  rw [c_recv h3]
  refine r_skip hs (fun I1 p1 p2 => ?_)
  simp only [cw hb, h3]
  refine r_arg p1 hq hk4 hX (fun I2 A2 q1 q2 => ?_)
  rw [c_recv h3]
  exact r_known q1 hq hk4 hX (fun A3 w1 => hQ _ _ w1 (Fq_tr (Fq_r hqr p2) q2))
end C29
