set_option linter.unusedVariables false
set_option linter.unusedSimpArgs false
section KS
variable {x x0 : HS} {o N : Nat} {a : A1} {Q Q' : HS → Prop} {QI QI' : Int32 → HS → Prop} {QF QF' : Option Nat → HS → Prop} {X X' : String → HS → Prop}
theorem qx_astB {r : Option Nat} {i v : Int32} {Z Z' : HS → Prop} (h : ∀ f, Z (x.wJ f) → Z' (x.wJ f)) : wAstB x r i v Z → wAstB x r i v Z' := fun ⟨a, h1, h2, h3, h4, h5⟩ => ⟨a, h1, h2, h3, h4, h _ h5⟩
theorem qs_range {l0 l1 l2 : Int32} (hQ : l1.toInt ≤ l0.toInt → l0.toInt ≤ l2.toInt → Q x → Q' x) (hX : ¬ (l1.toInt ≤ l0.toInt ∧ l0.toInt ≤ l2.toInt) → X eIA (x.wC (x.c - 1) (x.z - 6)) → X' eIA (x.wC (x.c - 1) (x.z - 6))) : w_X11_requireRange l0 l1 l2 x Q X → w_X11_requireRange l0 l1 l2 x Q' X' := by
  simp only [w_X11_requireRange, wJoin, wIf, i32]
  rintro ⟨h1, h2⟩
  exact ⟨fun c => qv_throw (hX (by omega)) (h1 c), fun c => ⟨fun d => hQ (by omega) d ((h2 c).1 d), fun d => qv_throw (hX (by omega)) ((h2 c).2 d)⟩⟩
theorem qs_putBytes {p : Int32} {n : Int} (ht : Vt x0 x) (hn : (x.I o 9).toInt = n) (h0 : 0 ≤ n) (h1 : n ≤ 396) (hQ : ∀ u, Vt x0 u → (u.I o 9).toInt = n + 4 → Q u → Q' u) : w_X11_putBytes (some o) p x Q X → w_X11_putBytes (some o) p x Q' X' := by
  unfold w_X11_putBytes
  refine q_loopV (fun v x => Vt x0 x ∧ ∃ i : Int, 0 ≤ i ∧ i ≤ 4 ∧ v.toInt = 24 - 8 * i ∧ (x.I o 9).toInt = n + i) ⟨ht, 0, by omega, by omega, by decide, by omega⟩ (fun v x again again' ⟨ht, i, i0, i1, i2, i3⟩ ha => ?_)
  refine q_join0 (P := fun x => Vt x0 x ∧ (x.I o 9).toInt = n + 4) (fun y hy => hQ y hy.1 hy.2) (fun K K' hk => ?_)
  refine qv_if (fun c => hk _ ⟨ht, ?_⟩) (fun c => ?_)
  · simp only [i32, Int32.reduceToInt] at c; omega
  · simp only [i32, Int32.reduceToInt] at c
    refine qv_getI (fun _ _ => ?_)
    refine qv_if (fun c2 => ?_) (fun c2 => ?_)
    · simp only [i32, Int32.reduceToInt] at c2; omega
    · refine qv_getF (fun _ _ => ?_)
      refine qv_getI (fun _ _ => ?_)
      refine qx_astB (fun f => ?_)
      refine qv_getI (fun _ _ => ?_)
      refine qv_putI (fun _ k9 => ?_)
      refine ha _ _ ⟨Vt_I (Vt_J ht) ⟨fun z => absurd (k9.symm.trans z.1) (by decide), fun z => absurd (k9.symm.trans z.1) (by decide)⟩, i + 1, by omega, by omega, ?_, ?_⟩
      · rw [i_add i2 (show (-8 : Int32).toInt = -8 by decide) (by omega)]; omega
      · have e : ((x.wJ f).wI (up2 (x.wJ f).I o 9 ((x.wJ f).I o 9 + 1))).I o 9 = x.I o 9 + 1 := up2_self _ _ _ _
        rw [e, i_add i3 (show (1 : Int32).toInt = 1 by decide) (by omega)]; omega
theorem kc1_feed (hk : KC1 o (N + 1) a x) (p1 p2 p3 p4 p5 : Int32) : w_X11_feed (some o) p1 p2 p3 p4 p5 x (fun r u => OK1_feed a p1 p2 p3 p4 p5 0 r ∧ KC1 o N (nx1_feed a p1 p2 p3 p4 p5) u) (fun E u => (E = eIB ∧ OK1_feed a p1 p2 p3 p4 p5 1 0) ∧ KC1 o N (nx1_feed a p1 p2 p3 p4 p5) u) := by
  have ho := KC1_o hk
  obtain ⟨k1, k2, k3, k4, k5⟩ := id hk
  have h := k_feed (QI := fun r u => KInv o N a.vv u) (X := fun E u => E = eIB ∧ KInv o N a.vv u) k1 (p0 := p1) (p1 := p2) (p2 := p3) (p3 := p4) (p4 := p5) (fun E u h1 h2 => ⟨h1, h2⟩) (fun r u h => h)
  revert h
  unfold w_X11_feed
  refine qv_getI (fun _ _ => ?_)
  rw [k3]
  refine qv_if (fun c => ?_) (fun c => ?_)
  · simp only [i32, Int32.reduceToInt] at c
    refine q_recv (qs_putBytes (x0 := x) (n := a.tl.toInt) Vt_rf (by rw [k3]) k4 (by omega) (fun u1 v1 n1 => ?_))
    refine q_recv (qs_putBytes (x0 := x) v1 n1 (by omega) (by omega) (fun u2 v2 n2 => ?_))
    refine q_recv (qs_putBytes (x0 := x) v2 n2 (by omega) (by omega) (fun u3 v3 n3 => ?_))
    refine q_recv (qs_putBytes (x0 := x) v3 n3 (by omega) (by omega) (fun u4 v4 n4 => ?_))
    refine q_recv (qs_putBytes (x0 := x) v4 n4 (by omega) (by omega) (fun u5 v5 n5 => ?_))
    refine qv_getI (fun _ _ h => ?_)
    have e : u5.I o 9 = a.tl + 20 := i_ext (by rw [i_add rfl (show (20 : Int32).toInt = 20 by decide) (by omega)]; omega)
    have e2 : (a.tl + 20).toInt = a.tl.toInt + 20 := i_add rfl (by decide) (by omega)
    rw [e]
    unfold OK1_feed nx1_feed
    rw [if_pos c, if_pos c]
    exact ⟨⟨rfl, fun _ => rfl⟩, h, KT1_Vt k2 ho v5, e, by show 0 ≤ (a.tl + 20).toInt; omega, by show (a.tl + 20).toInt ≤ 400; omega⟩
  · simp only [i32, Int32.reduceToInt] at c
    refine qv_throw (fun h => ?_)
    unfold OK1_feed nx1_feed
    rw [if_neg c, if_neg c]
    exact ⟨⟨h.1, rfl, fun z => absurd z (by decide)⟩, KC1_V1 hk h.2 V1_rf⟩
theorem kc1_end (hk : KC1 o (N + 1) a x) (n : Int32) : w_X11_end (some o) n x (fun r u => OK1_end a n 0 r ∧ KC1 o N (nx1_end a n) u) (fun E u => (E = eIA ∧ OK1_end a n 1 0) ∧ KC1 o N (nx1_end a n) u) := by
  have ho := KC1_o hk
  obtain ⟨k1, k2, k3, k4, k5⟩ := id hk
  have h := k_end (QI := fun r u => KInv o N a.vv u) (X := fun E u => E = eIA ∧ KInv o N a.vv u) k1 (n := n) (fun E u h1 h2 => ⟨h1, h2⟩) (fun r u h => h)
  revert h
  unfold w_X11_end OK1_end nx1_end
  refine qv_getI (fun _ _ => ?_)
  rw [k3]
  refine qs_range (fun c1 c2 => ?_) (fun c h => ?_)
  · have c : 0 ≤ n.toInt ∧ n.toInt ≤ a.tl.toInt := ⟨c1, c2⟩
    rw [if_pos c, if_pos c]
    refine qv_putI (fun _ k9 h => ?_)
    exact ⟨⟨rfl, fun _ => rfl⟩, h, KT1_Vt k2 ho (Vt_I Vt_rf ⟨fun z => absurd (k9.symm.trans z.1) (by decide), fun z => absurd (k9.symm.trans z.1) (by decide)⟩), up2_self _ _ _ _, c1, by show n.toInt ≤ 400; omega⟩
  · have c : ¬ (0 ≤ n.toInt ∧ n.toInt ≤ a.tl.toInt) := c
    rw [if_neg c, if_neg c]
    exact ⟨⟨h.1, rfl, fun z => absurd z (by decide)⟩, KC1_V1 hk h.2 V1_rf⟩
theorem kc1_value (hk : KC1 o (N + 1) a x) (k v : Int32) : w_X11_value (some o) k v x (fun r u => OK1_value a k v 0 r ∧ KC1 o N (nx1_value a k v) u) (fun E u => (E = eIA ∧ OK1_value a k v 1 0) ∧ KC1 o N (nx1_value a k v) u) := by
  have ho := KC1_o hk
  obtain ⟨k1, k2, k3, k4, k5⟩ := id hk
  have hw : (0 ≤ k.toInt ∧ k.toInt < 4) ↔ 0 ≤ k.toInt ∧ k.toInt ≤ 3 := ⟨fun z => ⟨z.1, by omega⟩, fun z => ⟨z.1, by omega⟩⟩
  have h := k_value (QI := fun r u => (0 ≤ k.toInt ∧ k.toInt ≤ 3) ∧ KInv o N (va_up a.vv (ix k) v) u ∧ r = a.vv (ix k)) (X := fun E u => E = eIA ∧ ¬ (0 ≤ k.toInt ∧ k.toInt ≤ 3) ∧ KInv o N a.vv u) k1 (k := k) (v := v) (fun u h1 h2 => ⟨rfl, h1, h2⟩) (fun u h1 h2 => ⟨h1, h2, rfl⟩)
  revert h
  refine fr_X11_value (P := V1 x) (V1_clo (by decide) (by decide) (by decide) (by decide)) (fun r u hv hq => ?_) (fun e u hv hq => ?_) V1_rf
  · unfold OK1_value nx1_value
    rw [if_pos (hw.mpr hq.1), if_pos (hw.mpr hq.1)]
    exact ⟨⟨rfl, fun _ => hq.2.2⟩, hq.2.1, KT1_Vt k2 ho hv.1, by rw [hv.2 o ho.1 ho.2]; exact k3, k4, k5⟩
  · unfold OK1_value nx1_value
    rw [if_neg (fun z => hq.2.1 (hw.mp z)), if_neg (fun z => hq.2.1 (hw.mp z))]
    exact ⟨⟨hq.1, rfl, fun z => absurd z (by decide)⟩, KC1_V1 hk hq.2.2 hv⟩
theorem kc1_question (hk : KC1 o (N + 1) a x) (p : Int32) : w_X11_question (some o) p x (fun r u => OK1_question a p 0 r ∧ KC1 o N (nx1_question a p) u) (fun E u => (E = eIA ∧ OK1_question a p 1 0 ∨ E = eUO ∧ OK1_question a p 2 0 ∨ E = eAE ∧ OK1_question a p 3 0) ∧ KC1 o N (nx1_question a p) u) := by
  have ho := KC1_o hk
  obtain ⟨k1, k2, k3, k4, k5⟩ := id hk
  have h := k_question (QI := fun r u => KInv o N a.vv u) (X := fun E u => (E = eIA ∨ E = eUO ∨ E = eAE) ∧ KInv o N a.vv u) k1 (a := p) (fun E u h1 h2 => ⟨h1, h2⟩) (fun r u h => h)
  revert h
  have key : ∀ u, V1 (x.wI (up2 x.I o 9 0)) u → KInv o N a.vv u → KC1 o N (nx1_question a p) u := fun u hv hi => by
    refine ⟨hi, KT1_Vt k2 ho (Vt_tr (Vt_I Vt_rf ⟨fun z => absurd (ho.2.symm.trans z.1) (by decide), fun z => absurd (ho.2.symm.trans z.1) (by decide)⟩) hv.1), ?_, by show 0 ≤ (0 : Int32).toInt; decide, by show (0 : Int32).toInt ≤ 400; decide⟩
    rw [hv.2 o ho.1 ho.2]; exact up2_self _ _ _ _
  refine fr2_X11_question (P := V1 (x.wI (up2 x.I o 9 0))) (V1_clo (by decide) (by decide) (by decide) (by decide)) (fun r u hv hq => ⟨trivial, key u hv hq⟩) (fun e u hv hq => ⟨?_, key u hv hq.2⟩) (fun q hq _ _ => by cases hq; exact V1_rf)
  exact hq.1.imp (fun z => ⟨z, trivial⟩) (fun z => z.imp (fun z => ⟨z, trivial⟩) (fun z => ⟨z, trivial⟩))
end KS
