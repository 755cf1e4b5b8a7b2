set_option linter.unusedVariables false
set_option linter.unusedSimpArgs false
section C24
variable {b : CT} {g : Gh} {o s h N : Nat} {vv vv' : Nat → Int32} {x : HS} {I I' : Nat → Nat → Int32} {F F' : Nat → Nat → Option Nat} {A A' : Nat → Nat → Nat → Int32} {E : Nat → Nat → Nat → Option Nat} {W : Nat → Prop} {X : String → HS → Prop} {Q : HS → Prop} {QI : Int32 → HS → Prop} {QF : Option Nat → HS → Prop}
theorem KV_o (hk : KV b g o s h vv I F A E N NW) (h1 : Ol o I I') (h3 : Ol o A A') (hC : CU b g o F A' E) (hv : A' o 1 = vv') (hN : KN o I') : KV b g o s h vv' I' F A' E N NW ∧ (HZ h I → HZ h I') := by
  obtain ⟨s1, s2, s3, s4, s5, -⟩ := id hk.2.2.1
  have n11 : ∀ c j, (c, j) ∈ rI3 → c ≠ 11 := fun c j z => by simp only [rI3, List.mem_cons, List.not_mem_nil, or_false, Prod.mk.injEq] at z; omega
  have m11 : ∀ c j, (c, j) ∈ rA3 → c ≠ 11 := fun c j z => by simp only [rA3, List.mem_cons, List.not_mem_nil, or_false, Prod.mk.injEq] at z; omega
  refine ⟨KV_eqG hk ⟨fun c a j ha hr => by rw [h1 a (Is_ne ha s1 (n11 c j hr))], fun _ _ _ _ _ => rfl, fun c a j ha hr => by rw [h3 a (Is_ne ha s1 (m11 c j hr))], fun _ _ _ _ _ => rfl⟩ hC (GO_fr hk.2.2.2.2.2.2.2.2.1.2 (fun _ h => h) (fun q hq => by rw [h1 q (Is_ne hq s1 (by decide))]) (fun q hq => by rw [h3 q (Is_ne hq s1 (by decide))]; exact ⟨rfl, rfl⟩)) hv hN, fun hz => ?_⟩
  unfold HZ
  rw [h1 h (Is_ne s5 s1 (by decide))]; exact hz
theorem KV_oI (hk : KV b g o s h vv I F A E N NW) (hz : HZ h I) {j : Nat} {v : Int32} (hN : KN o (up2 I o j v)) : KV b g o s h vv (up2 I o j v) F A E N NW ∧ HZ h (up2 I o j v) := by
  obtain ⟨z1, z2⟩ := KV_o hk (Ol_up2 (Ol_rf (f := I)) (j := j) (v := v)) Ol_rf hk.2.2.2.2.2.1 hk.2.2.2.2.2.2.2.2.1.1 hN
  exact ⟨z1, z2 hz⟩
theorem KN9 {v : Int32} (h : KN o I) (hv : 0 ≤ v.toInt ∧ v.toInt ≤ 400) : KN o (up2 I o 9 v) := by
  unfold KN
  rw [up2_self, up2_k _ _ _ _ (by decide)]; exact ⟨hv, h.2⟩
theorem KN10 {v : Int32} (h : KN o I) (hv : 0 ≤ v.toInt ∧ v.toInt ≤ 3000) : KN o (up2 I o 10 v) := by
  unfold KN
  rw [up2_self, up2_k _ _ _ _ (by decide)]; exact ⟨h.1, hv⟩
theorem KN11 {v : Int32} (h : KN o I) : KN o (up2 I o 11 v) := by
  unfold KN
  rw [up2_k _ _ _ _ (by decide), up2_k _ _ _ _ (by decide)]; exact h
theorem KV_11 (hk : KV b g o s h vv I F A E N NW) (hz : HZ h I) {v : Int32} : KV b g o s h vv (up2 I o 11 v) F A E N NW ∧ HZ h (up2 I o 11 v) := KV_oI hk hz (KN11 hk.2.2.2.2.2.2.1)
theorem c_putBytes (hk : KV b g o s h vv I F A E N NW) (hz : HZ h I) {v : Int32} (hQ : ∀ I' A', KV b g o s h vv I' F A' E N NW → HZ h I' → Q (cS b I' F A' E)) : w_X11_putBytes (some o) v (cS b I F A E) Q X := by
  have s1 := hk.2.2.1.1
  have hb := hk.1
  simp only [w_X11_putBytes]
  refine wLoop_i (fun n v x => ∃ I' A', x = cS b I' F A' E ∧ KV b g o s h vv I' F A' E N NW ∧ HZ h I' ∧ n = (v.toInt + 8).toNat ∧ v.toInt ≤ 24 ∧ -8 ≤ v.toInt) 32 ⟨I, A, rfl, hk, hz, by decide, by decide, by decide⟩ ?_
  rintro n w x again ha ⟨I1, A1, rfl, p1, p2, p3, p4, p5⟩
  simp only [wJoin, wIf]
  refine ⟨fun _ => hQ _ _ p1 p2, fun h1 => ?_⟩
  simp only [cw hb, s1]
  refine ⟨fun _ => hQ _ _ p1 p2, fun h2 => ?_⟩
  have hw : 0 ≤ w.toInt := by simp only [i32, Int32.reduceToInt] at h1; omega
  have h9 : (I1 o 9).toInt < 400 := by simp only [i32, Int32.reduceToInt] at h2; omega
  have k9 := p1.2.2.2.2.2.2.1.1.1
  have e8 : (w + -8).toInt = w.toInt + -8 := i_add rfl (show (-8 : Int32).toInt = -8 by decide) (by omega)
  have e9 : (I1 o 9 + 1).toInt = (I1 o 9).toInt + 1 := i_add rfl (by decide) (by omega)
  refine ⟨⟨k9, by omega⟩, ?_⟩
  generalize w + -8 = w1 at e8 ⊢
  obtain ⟨z1, z2⟩ := KV_o (I' := up2 I1 o 9 (I1 o 9 + 1)) (A' := up3 A1 o 0 (ix (I1 o 9)) (((v >>> (w &&& 31)).toInt8.toInt32).toInt8.toInt32)) (vv' := vv) p1 (Ol_up2 Ol_rf) (Ol_up3 Ol_rf) (by unfold CU; rw [up3_ne (by omega)]; exact p1.2.2.2.2.2.1) (by rw [up3_ne (by omega)]; exact p1.2.2.2.2.2.2.2.2.1.1) (KN9 p1.2.2.2.2.2.2.1 ⟨by omega, by omega⟩)
  exact ha _ _ _ (by omega) ⟨_, _, rfl, z1, z2 p2, rfl, by omega, by omega⟩
theorem k_feed (hk : KInv o (N + 1) vv x) {p0 p1 p2 p3 p4 : Int32} (hX : ∀ e x', e = eIB → KInv o N vv x' → X e x') (hQ : ∀ r x', KInv o N vv x' → QI r x') : w_X11_feed (some o) p0 p1 p2 p3 p4 x QI X := by
  obtain ⟨b, g, s, h, I, F, A, E, rfl, hk, hz⟩ := hk
  have s1 := hk.2.2.1.1
  have hb := hk.1
  simp only [w_X11_feed, cw hb, s1]
  refine ⟨fun _ => ?_, fun _ => c_thr hk hz (fun x' => hX _ x' rfl)⟩
  refine c_putBytes hk hz (fun I1 A1 a1 b1 => ?_)
  rw [c_recv s1]
  refine c_putBytes a1 b1 (fun I2 A2 a2 b2 => ?_)
  rw [c_recv s1]
  refine c_putBytes a2 b2 (fun I3 A3 a3 b3 => ?_)
  rw [c_recv s1]
  refine c_putBytes a3 b3 (fun I4 A4 a4 b4 => ?_)
  rw [c_recv s1]
  refine c_putBytes a4 b4 (fun I5 A5 a5 b5 => ?_)
  rw [c_getI s1]
  exact hQ _ _ (CI_ok a5 b5)
theorem k_end (hk : KInv o (N + 1) vv x) {n : Int32} (hX : ∀ e x', e = eIA → KInv o N vv x' → X e x') (hQ : ∀ r x', KInv o N vv x' → QI r x') : w_X11_end (some o) n x QI X := by
  obtain ⟨b, g, s, h, I, F, A, E, rfl, hk, hz⟩ := hk
  have s1 := hk.2.2.1.1
  have hb := hk.1
  simp only [w_X11_end, cw hb, s1]
  refine c_range hk hz (fun x' => hX _ x' rfl) (fun h1 h2 => ?_)
  rw [c_putI s1]
  have k9 := hk.2.2.2.2.2.2.1
  have h1' : 0 ≤ n.toInt := h1
  obtain ⟨z1, z2⟩ := KV_oI hk hz (KN9 (v := n) k9 ⟨h1', by have := k9.1; omega⟩)
  exact hQ _ _ (CI_ok z1 z2)
theorem k_value (hk : KInv o (N + 1) vv x) {k v : Int32} (hX : ∀ x', ¬ (0 ≤ k.toInt ∧ k.toInt ≤ 3) → KInv o N vv x' → X eIA x') (hQ : ∀ x', 0 ≤ k.toInt ∧ k.toInt ≤ 3 → KInv o N (va_up vv (ix k) v) x' → QI (vv (ix k)) x') : w_X11_value (some o) k v x QI X := by
  obtain ⟨b, g, s, h, I, F, A, E, rfl, hk, hz⟩ := hk
  have s1 := hk.2.2.1.1
  have hb := hk.1
  simp only [w_X11_value, w_X11_requireRange, wJoin, wIf]
  have hv := hk.2.2.2.2.2.2.2.2.1.1
  have hout : (¬ (0 ≤ k.toInt ∧ k.toInt ≤ 3)) → wThrow (cS b I F A E) eIA X := fun hn => c_thr hk hz (fun x' => hX x' hn)
  refine ⟨fun h1 => hout (fun z => ?_), fun h1 => ⟨fun h2 => ?_, fun h2 => hout (fun z => ?_)⟩⟩
  · simp only [i32, Int32.reduceToInt] at h1; omega
  · simp only [i32, Int32.reduceToInt] at h1 h2
    have hin : wIn k 4 := ⟨by omega, by omega⟩
    simp only [cw hb, s1, hin, true_and]
    rw [hv]
    obtain ⟨z1, z2⟩ := KV_o (I' := I) (A' := up3 A o 1 (ix k) v) (vv' := va_up vv (ix k) v) hk Ol_rf (Ol_up3 Ol_rf) (by unfold CU; rw [up3_ne (by omega)]; exact hk.2.2.2.2.2.1) (by rw [up3_at, hv]) hk.2.2.2.2.2.2.1
    exact hQ _ ⟨by omega, by omega⟩ (CI_ok z1 (z2 hz))
  · simp only [i32, Int32.reduceToInt] at h2; omega
theorem k_table (hk : KInv o (N + 1) vv x) {n : Int32} (hX : ∀ e x', (e = eIA ∨ e = eIS) → KInv o N vv x' → X e x') (hQ : ∀ r x', KInv o N vv x' → QI r x') : w_X11_table (some o) n x QI X := by
  obtain ⟨b, g, s, h, I, F, A, E, rfl, hk, hz⟩ := hk
  obtain ⟨s1, s2, s3, s4, s5, -⟩ := id hk.2.2.1
  have hb := hk.1
  simp only [w_X11_table]
  refine c_range hk hz (fun x' => hX _ x' (Or.inl rfl)) (fun h1 h2 => ?_)
  simp only [cw hb, s1, s2, s3]
  refine c_makeTable hk ⟨h1, h2⟩ (fun _ => ⟨fun _ => c_thr hk hz (fun x' => hX _ x' (Or.inr rfl)), fun z => absurd rfl z⟩) (fun r b' g' I' F' A' E' z0 z1 z2 => ⟨fun z => absurd z z0, fun _ => hQ _ _ ⟨b', g', s, h, I', F', A', E', rfl, z1, by unfold HZ; rw [z2]; exact hz⟩⟩)
end C24
