set_option linter.unusedVariables false
set_option linter.unusedSimpArgs false
/-! the class: feed, end, value, question, solution, count, table -/
section VZ1
variable {b b' : CT} {I I' : Nat → Nat → Int32} {F F' : Nat → Nat → Option Nat} {A A' : Nat → Nat → Nat → Int32} {E E' : Nat → Nat → Nat → Option Nat} {o t n n' k f p j ci s h l N : Nat} {a c : AS} {g : CGs} {x y : HS} {X X' : String → HS → Prop} {Q Q' : HS → Prop} {QI QI' : Int32 → HS → Prop} {QF QF' : Option Nat → HS → Prop}
theorem CX_HQ (hx : CXx o a g b I F A E) : HQk b g.lk E := ⟨hx.1, fun c hc => (hx.2.1.2.2.2.2.2.2.2.1 c hc).2.1, fun v i q hv hq c hc => (hx.2.1.2.2.2.2.2.2.2.2.2 v i q hv hq).2 c hc⟩
theorem PQ_rf {lk : Nat → Nat} : PQ b lk I F A E (cS b I F A E) := ⟨b.B.c, b.B.z, I, F, A, rfl, sI_rf, sF_rf, sA_rf, sK_rf⟩
theorem CX_PQ (hz : g.sz = 0) (hx : CXx o a g b I F A E) {u : HS} (h : PQ b g.lk I F A E u) : CX o a u := by
  obtain ⟨c, z, I', F', A', rfl, h1, h2, h3, h4⟩ := h
  exact CX_wC hz (CXx_eq hx h1 h2 h3 sE_rf h4)
theorem CXx_w1 (hx : CXx o a g b I F A E) {v : A1} (h1 : v.tn = a.tn) (h2 : v.co = a.co) (h3 : v.vv = a.vv) : CXx o (a.w_1 v) g b I F A E := by
  obtain ⟨v1, v2, v3, v4, v5⟩ := v
  obtain ⟨⟨a1, a2, a3, a4, a5⟩, a'⟩ := a
  have h1 : v3 = a3 := h1
  have h2 : v4 = a4 := h2
  have h3 : v1 = a1 := h3
  subst h1; subst h2; subst h3
  exact hx
theorem CX_w1 {v : A1} {u : HS} (h : CX o a u) (h1 : v.tn = a.tn) (h2 : v.co = a.co) (h3 : v.vv = a.vv) : CX o (a.w_1 v) u := by
  obtain ⟨g, b, I, F, A, E, e, hz, hx⟩ := h
  exact ⟨g, b, I, F, A, E, e, hz, CXx_w1 hx h1 h2 h3⟩
theorem kc_feed (hk : KC o (N + 1) a x) (hW : AVT a) (p1 p2 p3 p4 p5 : Int32) : w_X11_feed (some o) p1 p2 p3 p4 p5 x (fun r u => OK_feed a p1 p2 p3 p4 p5 0 r ∧ KC o N (nx_feed a p1 p2 p3 p4 p5) u) (fun E u => (E = eIB ∧ OK_feed a p1 p2 p3 p4 p5 1 0) ∧ KC o N (nx_feed a p1 p2 p3 p4 p5) u) := by
  have h := kc1_feed hk.1 p1 p2 p3 p4 p5
  obtain ⟨g, b, I, F, A, E, rfl, hz, hx⟩ := hk.2
  have e : (nx1_feed a.1 p1 p2 p3 p4 p5).tn = a.tn ∧ (nx1_feed a.1 p1 p2 p3 p4 p5).co = a.co ∧ (nx1_feed a.1 p1 p2 p3 p4 p5).vv = a.vv := by unfold nx1_feed; split <;> exact ⟨rfl, rfl, rfl⟩
  exact fq_X11_feed (CX_HQ hx) (fun r u hu hq => ⟨hq.1, hq.2, CX_w1 (CX_PQ hz hx hu) e.1 e.2.1 e.2.2⟩) (fun ee u hu hq => ⟨hq.1, hq.2, CX_w1 (CX_PQ hz hx hu) e.1 e.2.1 e.2.2⟩) PQ_rf h
theorem kc_end (hk : KC o (N + 1) a x) (hW : AVT a) (n : Int32) : w_X11_end (some o) n x (fun r u => OK_end a n 0 r ∧ KC o N (nx_end a n) u) (fun E u => (E = eIA ∧ OK_end a n 1 0) ∧ KC o N (nx_end a n) u) := by
  have h := kc1_end hk.1 n
  obtain ⟨g, b, I, F, A, E, rfl, hz, hx⟩ := hk.2
  have e : (nx1_end a.1 n).tn = a.tn ∧ (nx1_end a.1 n).co = a.co ∧ (nx1_end a.1 n).vv = a.vv := by unfold nx1_end; split <;> exact ⟨rfl, rfl, rfl⟩
  exact fq_X11_end (CX_HQ hx) (fun r u hu hq => ⟨hq.1, hq.2, CX_w1 (CX_PQ hz hx hu) e.1 e.2.1 e.2.2⟩) (fun ee u hu hq => ⟨hq.1, hq.2, CX_w1 (CX_PQ hz hx hu) e.1 e.2.1 e.2.2⟩) PQ_rf h
theorem kc_question (hk : KC o (N + 1) a x) (hW : AVT a) (p : Int32) : w_X11_question (some o) p x (fun r u => OK_question a p 0 r ∧ KC o N (nx_question a p) u) (fun E u => (E = eIA ∧ OK_question a p 1 0 ∨ E = eUO ∧ OK_question a p 2 0 ∨ E = eAE ∧ OK_question a p 3 0) ∧ KC o N (nx_question a p) u) := by
  have h := kc1_question hk.1 p
  obtain ⟨g, b, I, F, A, E, rfl, hz, hx⟩ := hk.2
  exact fq_X11_question (CX_HQ hx) (fun r u hu hq => ⟨hq.1, hq.2, CX_w1 (CX_PQ hz hx hu) rfl rfl rfl⟩) (fun ee u hu hq => ⟨hq.1, hq.2, CX_w1 (CX_PQ hz hx hu) rfl rfl rfl⟩) PQ_rf h
theorem kc_solution (hk : KC o (N + 1) a x) (hW : AVT a) (p1 p2 : Int32) : w_X11_solution (some o) p1 p2 x (fun r u => OK_solution a p1 p2 0 r ∧ KC o N (nx_solution a p1 p2) u) (fun E u => (E = eIA ∧ OK_solution a p1 p2 1 0 ∨ E = eIB ∧ OK_solution a p1 p2 2 0) ∧ KC o N (nx_solution a p1 p2) u) := by
  have h := kc1_solution hk.1 p1 p2
  obtain ⟨g, b, I, F, A, E, rfl, hz, hx⟩ := hk.2
  exact fq_X11_solution (CX_HQ hx) (fun r u hu hq => ⟨hq.1, hq.2, CX_PQ hz hx hu⟩) (fun ee u hu hq => ⟨hq.1, hq.2, CX_PQ hz hx hu⟩) PQ_rf h
theorem kc_count (hk : KC o (N + 1) a x) (hW : AVT a) (p1 : Int32) : w_X11_count (some o) p1 x (fun r u => OK_count a p1 0 r ∧ KC o N (nx_count a p1) u) (fun E u => (E = eIA ∧ OK_count a p1 1 0) ∧ KC o N (nx_count a p1) u) := by
  have h := kc1_count hk.1 p1
  obtain ⟨g, b, I, F, A, E, rfl, hz, hx⟩ := hk.2
  exact fq_X11_count (CX_HQ hx) (fun r u hu hq => ⟨hq.1, hq.2, CX_PQ hz hx hu⟩) (fun ee u hu hq => ⟨hq.1, hq.2, CX_PQ hz hx hu⟩) PQ_rf h
theorem kc_value (hk : KC o (N + 1) a x) (hW : AVT a) (k v : Int32) : w_X11_value (some o) k v x (fun r u => OK_value a k v 0 r ∧ KC o N (nx_value a k v) u) (fun E u => (E = eIA ∧ OK_value a k v 1 0) ∧ KC o N (nx_value a k v) u) := by
  have h := kc1_value hk.1 k v
  obtain ⟨g, b, I, F, A, E, rfl, hz, hx⟩ := hk.2
  have hb := hx.1
  have hs := hx.2.1
  have e3 : (3 : Int32).toInt = 3 := by decide
  have e0 : (0 : Int32).toInt = 0 := by decide
  revert h
  unfold w_X11_value
  refine qc_range (fun c1 c2 => ?_) (fun c h => ?_)
  · rw [e0] at c1
    rw [e3] at c2
    have hk4 : ix k < 4 := by unfold ix; omega
    have e : nx1_value a.1 k v = a.1.wvv (va_up a.1.vv (ix k) v) := if_pos ⟨c1, by omega⟩
    refine qc_getA hb (by decide) (fun _ => ?_)
    refine qc_ald hb hs.1 (by decide) (by decide) (fun _ => ?_)
    refine qc_getA hb (by decide) (fun _ => ?_)
    refine qc_astI hb hs.1 (by decide) (fun _ h => ?_)
    refine ⟨h.1, h.2, g, _, _, _, _, _, rfl, hz, ?_⟩
    show CXx o (a.w_1 (nx1_value a.1 k v)) g b I F (up3 A o 1 (ix k) v) E
    rw [e]
    obtain ⟨-, -, htb, hFa, hR, hK, hN, hH, hC, hO⟩ := id hx
    have sA' : ∀ S : List (Nat × Nat), (11, 1) ∉ S → sA b S A (up3 A o 1 (ix k) v) := fun S h2 => sA_up sA_rf hs.1 h2
    have hfa : ∀ t n, n ∈ a.rw t → Is b 1 (g.fa n) := fun t n h => (hFa t n h).1
    refine ⟨hb, hs, CXt_eq htb hs.2.2.1 (fun _ _ h => h) (fun _ _ => rfl) sI_rf sF_rf (sA' _ (by decide)) sE_rf, fun t n hn => CF1_eq (hFa t n hn) (fun _ _ h => h) sI_rf sF_rf (sA' _ (by decide)), hR, hK, hN, CXh_eq hH hs.2.2.2.2.1 hfa sI_rf sF_rf (sA' _ (by decide)) sE_rf, CXc_eq hC hs.1 (sA' _ (by decide)) (fun c hc => ⟨rfl, rfl, funext fun j => up3_ne (fun z => Is_ne (hs.2.2.2.2.2.2.2.1 c hc).2.1 hs.1 (by decide) z.1)⟩), fun i hi => ?_, hO.2.1, ?_⟩
    · show up3 A o 1 (ix k) v o 1 i = va_up a.vv (ix k) v i
      rw [up3_at]
      by_cases ei : i = ix k
      · rw [ei, va_up_self, va_up_self]
      · rw [va_up_ne _ _ ei, va_up_ne _ _ ei]; exact hO.1 i hi
    · rw [up3_ne (fun z => absurd z.2 (by decide))]; exact hO.2.2
  · have e : nx1_value a.1 k v = a.1 := if_neg (fun z => c (by rw [e0, e3]; omega))
    refine ⟨h.1, h.2, ?_⟩
    show CX o (a.w_1 (nx1_value a.1 k v)) _
    rw [e]
    exact CX_wC hz hx
end VZ1
