set_option linter.unusedVariables false
set_option linter.unusedSimpArgs false
/-- what there is -/
def CL (b : CT) (L : Nat → Nat → Prop) : Prop := ∀ c a, Is b c a → L c a ∨ 20 ≤ c
def bz (x : HS) : CT := (x, fun _ _ => 0, fun _ => none)
section C38
variable {b b' b'' : CT} {I I' I'' : Nat → Nat → Int32} {F F' F'' : Nat → Nat → Option Nat} {A A' A'' : Nat → Nat → Nat → Int32} {E E' E'' : Nat → Nat → Nat → Option Nat} {NT NT' : Nat → Nat → Prop} {X : List Nat} {q a j ci s h r v o N : Nat} {Q : HS → Prop} {XF : String → HS → Prop}
theorem CL_Ex {L : Nat → Nat → Prop} (h0 : CL b L) (h : Ex b b' I I' F F' A A' E E' NT) : CL b' (fun c a => L c a ∨ NT c a) := fun c a z => by
  rcases h.2.1 c a z with z | ⟨-, z | z⟩
  · exact (h0 c a z).imp Or.inl id
  · exact Or.inl (Or.inr z)
  · exact Or.inr z
theorem CL_arr {L : Nat → Nat → Prop} {p kd N : Nat} (h0 : CL b L) (hp : p ∉ b.B.LP) (hk : 20 ≤ kd) : CL (barr b q j p kd N) L := fun c a z => by
  rcases (barr_Is hp c a).mp z with z | ⟨-, z⟩
  · exact h0 c a z
  · exact Or.inr (by omega)
theorem PV_arr {p kd N : Nat} (ho : Is b 11 o) (hp : p ∉ b.B.LP) {u : Nat → Int32} {w : Nat → Option Nat} : PV b (barr b o j p kd N) I I F F A (up2 A o j u) E (up2 E o j w) := ⟨fun c a z => (barr_Is hp c a).mpr (Or.inl z), fun c a ha hc => ⟨rfl, rfl, up2_row _ _ _ (Is_ne ha ho hc), up2_row _ _ _ (Is_ne ha ho hc)⟩⟩
theorem PV_F {w : Option Nat} (ho : Is b 11 o) : PV b b I I F (up2 F o j w) A A E E := ⟨fun _ _ h => h, fun c a ha hc => ⟨rfl, up2_row _ _ _ (Is_ne ha ho hc), rfl, rfl⟩⟩
/-- a keeper that knows nothing yet -/
theorem KV_new {l : Nat} (hb : CB b) (ho : Is b 11 o) (hCL : CL b (fun c a => c = 11 ∨ c = 9 ∧ a = s ∨ c = 3 ∨ c = 5 ∨ c = 6 ∧ a = r ∨ c = 2 ∨ c = 8 ∧ a = v ∨ c = 7)) (hS : SP b I F E s h) (hR : RP b E r) (hV : VP b F E v) (hG : GZ b I A) (f2 : F o 2 = some s) (f6 : F o 6 = some l) (hl : Is b 5 l) (f7 : F o 7 = some r) (f8 : F o 8 = some v) (hE : ∀ i, i < 10 → ∃ l, E o 3 i = some l ∧ Is b 5 l) (i9 : I o 9 = 0) (i10 : I o 10 = 0) (a1 : A o 1 = fun _ => 0) (a4 : A o 4 = fun _ => 0) (hc : 153096 + 16 * N ≤ b.B.c) (hz : 772800 + 100 * N ≤ b.B.z) : ∃ g, KV b g o s h (fun _ => 0) I F A E N NW ∧ HZ h I := by
  obtain ⟨h1, h2, h3, h4, h5, h6, h7, h8, h9⟩ := hS
  have no : ∀ c a, c ∈ [0, 1, 4, 10] → ¬ Is b c a := fun c a hc ha => by
    have := hCL c a ha
    simp only [List.mem_cons, List.not_mem_nil, or_false] at hc
    omega
  have z0 : (0 : Int32).toInt = 0 := by decide
  refine ⟨(fun _ _ => False, fun _ _ => 0, fun _ => 0, fun _ => 0, fun _ => 0), ⟨hb, ⟨⟨fun c hc => absurd hc (no 0 c (by decide)), fun c hc => absurd hc (no 4 c (by decide)), fun c hc => absurd hc (no 10 c (by decide)), fun _ _ hv => absurd hv (fun z => z)⟩, ⟨fun _ _ hv => absurd hv (fun z => z), fun _ _ _ _ hv => absurd hv (fun z => z)⟩, ⟨fun _ _ hv => absurd hv (fun z => z), 0, fun _ hv => absurd hv (fun z => z)⟩, ⟨fun _ _ _ _ _ hv => absurd hv (fun z => z), fun c hc => absurd hc (no 0 c (by decide))⟩, ⟨h1, ?_, ?_, ?_, ?_, fun _ hv => absurd hv (fun z => z)⟩, ⟨?_, ?_, ?_⟩⟩, ?_, ?_, ?_, ?_, ?_, ?_, ⟨a1, ?_⟩, fun x hx => absurd hx (no 4 x (by decide)), fun t ht => absurd ht (no 10 t (by decide)), fun i _ => h8 i⟩, ?_⟩
  · rw [h5]; exact ⟨by decide, by decide⟩
  · intro i hi; rw [h5, z0] at hi; omega
  · intro i f hf; rw [h9] at hf; exact absurd hf (by simp)
  · intro i j f _ _ hf; rw [h9] at hf; exact absurd hf (by simp)
  · rw [h4]; exact ⟨by decide, by decide⟩
  · intro i hi; rw [h4, z0] at hi; omega
  · intro i f hf; rw [h8] at hf; exact absurd hf (by simp)
  · refine ⟨ho, f2, h1, h3, h2, ⟨l, f6, hl⟩, ⟨r, f7, hR.1⟩, ⟨v, f8, hV.1⟩, hE, fun a ha => ?_, fun r' hr' => ?_, fun v' hv' => ?_⟩
    · have := hCL 9 a ha; omega
    · have : r' = r := by have := hCL 6 r' hr'; omega
      rw [this]; exact hR.2
    · have : v' = v := by have := hCL 8 v' hv'; omega
      rw [this]; exact ⟨hV.2.1, hV.2.2.1, hV.2.2.2⟩
  · intro i f hi; rw [h5, z0] at hi; omega
  · refine ⟨by rw [h6]; exact ⟨by decide, by decide⟩, by rw [h7]; exact ⟨by decide, by decide⟩, fun i hi => ?_, fun i hi => ?_⟩
    · rw [h6, z0] at hi; omega
    · rw [h7, z0] at hi; omega
  · intro i _ hne; rw [a4] at hne; exact absurd rfl hne
  · exact ⟨by rw [i9]; exact ⟨by decide, by decide⟩, by rw [i10]; exact ⟨by decide, by decide⟩⟩
  · have n1 : NK s E ≤ 3000 := cnt_le _ _
    have n2 : NI s E ≤ 48 := cnt_le _ _
    unfold BU
    omega
  · intro q hq
    obtain ⟨g1, g2⟩ := hG q hq
    refine ⟨fun k _ hk => ?_, by rw [g1]; exact ⟨by decide, by decide⟩⟩
    rw [g2 k] at hk
    exact absurd hk (by decide)
  · intro _; rw [h6]; decide
theorem k_init3 (r1 : CBX b []) (o9 : Is b 11 o) (cl9 : CL b (fun c a => c = 11 ∨ c = 9 ∧ a = s ∨ c = 3 ∨ c = 5 ∨ c = 6 ∧ a = r ∨ c = 2)) (i9 : ∀ j, I o j = 0) (a9 : A o 1 = fun _ => 0) (a9b : A o 4 = fun _ => 0) (f92 : F o 2 = some s) {l : Nat} (f96 : F o 6 = some l) (f97 : F o 7 = some r) (s9 : SP b I F E s h) (l9 : Is b 5 l) (r4 : RP b E r) (r5 : GZ b I A) (hc : 153096 + 16 * N + 48 ≤ b.B.c) (hz : 772800 + 100 * N + 1876 ≤ b.B.z) (hQ : ∀ x', KInv o N (fun _ => 0) x' → Q x') :
    wNew (cS b I F A E) 8 8 fun q31 x32 => w_X8_init q31 x32 (fun x33 => wPutF x33 11 8 (some o) q31 fun x35 => wLoop (σ := Int32) (fun v39 x38 again36 => wIf (10 ≤ v39) (Q x38) (wGetF x38 11 3 (some o) fun v40 => wNew x38 5 8 fun q41 x42 => w_X5_init q41 x42 (fun x43 => wAstG x43 26 5 v40 v39 q41 fun x45 => again36 (v39 + 1) x45) (fun _ _ => False))) 0 x35) (fun _ _ => False) := by
  -- the solver
  refine m_solver r1 (fun a ha => absurd ha List.not_mem_nil) (by omega) (by omega) (fun v b11 I11 F11 A11 E11 w1 w2 w3 w4 w5 w6 => ?_)
  have o11 := w3.1 _ _ o9
  rw [c_putF0 w1.1 o11 (by decide)]
  have cl11 := CL_Ex cl9 w3
  obtain ⟨v1, v2, v3, v4⟩ := w3.2.2.2.2 o o9.1
  have i11 : ∀ j, I11 o j = 0 := fun j => by rw [v1]; exact i9 j
  have a11 : A11 o 1 = fun _ => 0 := by rw [v3]; exact a9
  have a11b : A11 o 4 = fun _ => 0 := by rw [v3]; exact a9b
  have f112 : up2 F11 o 8 (some v) o 2 = some s := by rw [up2_k _ _ _ _ (by decide), v2]; exact f92
  have f116 : up2 F11 o 8 (some v) o 6 = some l := by rw [up2_k _ _ _ _ (by decide), v2]; exact f96
  have f117 : up2 F11 o 8 (some v) o 7 = some r := by rw [up2_k _ _ _ _ (by decide), v2]; exact f97
  have f118 : up2 F11 o 8 (some v) o 8 = some v := up2_self _ _ _ _
  have pv11 := PV_F (j := 8) (w := some v) (I := I11) (F := F11) (E := E11) (A := A11) o11
  have s11 := SP_PV (SP_PV s9 (PV_Ex w3)) pv11
  have r11 := RP_PV r4 (PV_Ex w3)
  have v11 := VP_PV w4 pv11
  have g11 := GZ_Ex r5 w3 (fun c a z => by omega)
  have l11 := w3.1 _ _ l9
  generalize up2 F11 o 8 (some v) = F12 at f112 f116 f117 f118 s11 v11 ⊢
  clear v1 v2 v3 v4 s9 cl9 a9 a9b w3 pv11 r4 r5
  -- the cursors
  refine m_looks (kd := 26) (by decide) (by decide) w1 o11 List.not_mem_nil (by omega) (by omega) (fun b13 I13 F13 A13 E13 g1 g2 g3 g4 g5 g6 g7 g8 g9 g10 => ?_)
  obtain ⟨v1, v2, v3, -⟩ := g6 o o11.1
  have pv13 : PV b11 b13 I11 I13 F12 F13 A11 A13 E11 E13 := ⟨g2, fun c a ha hc => by
    obtain ⟨d1, d2, d3, d4⟩ := g6 a ha.1
    exact ⟨d1, d2, d3, d4 (Is_ne ha o11 hc)⟩⟩
  have cl13 : CL b13 (fun c a => c = 11 ∨ c = 9 ∧ a = s ∨ c = 3 ∨ c = 5 ∨ c = 6 ∧ a = r ∨ c = 2 ∨ c = 8 ∧ a = v ∨ c = 7) := fun c a z => by
    rcases g3 c a z with z | ⟨-, z⟩
    · have := cl11 c a z
      omega
    · omega
  have g13 : GZ b13 I13 A13 := fun q hq => by
    rcases g3 2 q hq with z | ⟨-, z | z⟩
    · obtain ⟨d1, d2, d3, d4⟩ := g6 q z.1
      rw [d1, d3]; exact g11 q z
    · exact absurd z (by decide)
    · exact absurd z (by decide)
  obtain ⟨gg, k1, k2⟩ := KV_new (N := N) (l := l) (CBX_nil.mp g1) (g2 _ _ o11) cl13 (SP_PV s11 pv13) (RP_PV r11 pv13) (VP_PV v11 pv13) g13 (by rw [v2]; exact f112) (by rw [v2]; exact f116) (g2 _ _ l11) (by rw [v2]; exact f117) (by rw [v2]; exact f118) g7 (by rw [v1]; exact i11 9) (by rw [v1]; exact i11 10) (by rw [v3]; exact a11) (by rw [v3]; exact a11b) (by omega) (by omega)
  exact hQ _ ⟨b13, gg, s, h, I13, F13, A13, E13, rfl, k1, k2⟩
theorem k_init2 (y6 : CBX b []) (o6 : Is b 11 o) (cl6 : CL b (fun c a => c = 11 ∨ c = 9 ∧ a = s ∨ c = 3)) (i3 : ∀ j, I o j = 0) (a6 : A o 1 = fun _ => 0) (a6b : A o 4 = fun _ => 0) (f3 : F o 2 = some s) (s6 : SP b I F E s h) (hc : 153096 + 16 * N + 82 ≤ b.B.c) (hz : 772800 + 100 * N + 2046 ≤ b.B.z) (hQ : ∀ x', KInv o N (fun _ => 0) x' → Q x') :
    wNew (cS b I F A E) 5 8 fun q21 x22 => w_X5_init q21 x22 (fun x23 => wPutF x23 11 6 (some o) q21 fun x25 => wNew x25 6 8 fun q26 x27 => w_X6_init q26 x27 (fun x28 => wPutF x28 11 7 (some o) q26 fun x30 => wNew x30 8 8 fun q31 x32 => w_X8_init q31 x32 (fun x33 => wPutF x33 11 8 (some o) q31 fun x35 => wLoop (σ := Int32) (fun v39 x38 again36 => wIf (10 ≤ v39) (Q x38) (wGetF x38 11 3 (some o) fun v40 => wNew x38 5 8 fun q41 x42 => w_X5_init q41 x42 (fun x43 => wAstG x43 26 5 v40 v39 q41 fun x45 => again36 (v39 + 1) x45) (fun _ _ => False))) 0 x35) (fun _ _ => False)) (fun _ _ => False)) (fun _ _ => False) := by
  -- the look
  refine m_look y6 (by omega) (by omega) (fun l b7 I7 F7 A7 E7 n1 n2 n3 n4 n5 n6 => ?_)
  have o7 := n4.1 _ _ o6
  rw [c_putF0 n1.1 o7 (by decide)]
  have cl7 := CL_Ex cl6 n4
  obtain ⟨v1, v2, v3, v4⟩ := n4.2.2.2.2 o o6.1
  have i7 : ∀ j, I7 o j = 0 := fun j => by rw [v1]; exact i3 j
  have a7 : A7 o 1 = fun _ => 0 := by rw [v3]; exact a6
  have a7b : A7 o 4 = fun _ => 0 := by rw [v3]; exact a6b
  have f72 : up2 F7 o 6 (some l) o 2 = some s := by rw [up2_k _ _ _ _ (by decide), v2]; exact f3
  have f76 : up2 F7 o 6 (some l) o 6 = some l := up2_self _ _ _ _
  have s7 := SP_PV (A' := A7) (A := A7) (SP_PV s6 (PV_Ex n4)) (PV_F (j := 6) (w := some l) (I := I7) (F := F7) (E := E7) o7)
  generalize up2 F7 o 6 (some l) = F8 at f72 f76 s7 ⊢
  clear v1 v2 v3 v4 s6 cl6 y6 a6 a6b n4
  -- the reader
  have gz : GZ b7 I7 A7 := fun q hq => by have := cl7 2 q hq; omega
  refine m_reader n1 (fun a ha => absurd ha List.not_mem_nil) gz (by omega) (by omega) (fun r b9 I9 F9 A9 E9 r1 r2 r3 r4 r5 r6 r7 => ?_)
  have o9 := r3.1 _ _ o7
  rw [c_putF0 r1.1 o9 (by decide)]
  have cl9 := CL_Ex cl7 r3
  obtain ⟨v1, v2, v3, v4⟩ := r3.2.2.2.2 o o7.1
  have i9 : ∀ j, I9 o j = 0 := fun j => by rw [v1]; exact i7 j
  have a9 : A9 o 1 = fun _ => 0 := by rw [v3]; exact a7
  have a9b : A9 o 4 = fun _ => 0 := by rw [v3]; exact a7b
  have f92 : up2 F9 o 7 (some r) o 2 = some s := by rw [up2_k _ _ _ _ (by decide), v2]; exact f72
  have f96 : up2 F9 o 7 (some r) o 6 = some l := by rw [up2_k _ _ _ _ (by decide), v2]; exact f76
  have f97 : up2 F9 o 7 (some r) o 7 = some r := up2_self _ _ _ _
  have pv9 := PV_F (j := 7) (w := some r) (I := I9) (F := F9) (E := E9) (A := A9) o9
  have s9 := SP_PV (SP_PV s7 (PV_Ex r3)) pv9
  have l9 := r3.1 _ _ n2
  generalize up2 F9 o 7 (some r) = F10 at f92 f96 f97 s9 ⊢
  clear v1 v2 v3 v4 s7 cl7 gz a7 a7b r3 pv9
  have cl9' : CL b9 (fun c a => c = 11 ∨ c = 9 ∧ a = s ∨ c = 3 ∨ c = 5 ∨ c = 6 ∧ a = r ∨ c = 2) := fun c a z => by
    have := cl9 c a z
    omega
  exact k_init3 r1 o9 cl9' i9 a9 a9b f92 f96 f97 s9 l9 r4 r5 (by omega) (by omega) hQ
theorem k_init {x : HS} (hLP : x.LP = [o]) (hk : x.k o = 11) (hI : ∀ j, x.I o j = 0) (hc : 153096 + 16 * N + 94 ≤ x.c) (hz : 772800 + 100 * N + 20503 ≤ x.z) (hQ : ∀ x', KInv o N (fun _ => 0) x' → Q x') : w_X11_init (some o) x Q XF := by
  have e0 : x = cS (bz x) x.I x.F (fun _ _ _ => 0) (fun _ _ _ => none) := by
    show HS.mk x.LP x.k x.n x.I x.F x.J x.G x.c x.z = _
    unfold cS
    have : cF (bz x) x.F = x.F := by
      funext a j
      exact if_neg (by show ¬ (none : Option (Nat × Nat)) = some (a, j); simp)
    rw [this]
    rfl
  have hb : CBX (bz x) [o] := ⟨fun q a j z => absurd z (by show ¬ (none : Option (Nat × Nat)) = some (a, j); simp), fun a ha haX => absurd (by rw [← hLP]; exact ha) haX⟩
  have ho : Is (bz x) 11 o := ⟨by show o ∈ x.LP; rw [hLP]; exact List.mem_singleton.mpr rfl, hk⟩
  have t0 : Pa (bz x) o [] := ⟨fun j hj => absurd hj List.not_mem_nil, fun r j z => absurd z (by show ¬ (none : Option (Nat × Nat)) = some (o, j); simp)⟩
  have cl0 : CL (bz x) (fun c a => c = 11) := fun c a ha => by
    have h1 : a ∈ x.LP := ha.1
    rw [hLP, List.mem_singleton] at h1
    rw [h1] at ha
    have h2 : x.k o = c := ha.2
    exact Or.inl (by rw [← h2]; exact hk)
  have hcb : (bz x).B.c = x.c := rfl
  have hzb : (bz x).B.z = x.z := rfl
  rw [e0]
  clear e0
  generalize bz x = b at hb ho t0 cl0 hcb hzb ⊢
  generalize hx : x.I = I at hI ⊢
  generalize x.F = F
  generalize (fun _ _ _ => (0 : Int32) : Nat → Nat → Nat → Int32) = A
  generalize (fun _ _ _ => none : Nat → Nat → Nat → Option Nat) = E
  simp only [w_X11_init, wRef, Option.some.injEq, exists_eq', true_and]
  -- tape and values
  refine c_newJ (j := 0) (N := 400) hb.1 ho (Pa_no t0 (by decide)) (by decide) (by decide) (by omega) (by omega) (fun p1 u1 hp1 => ?_)
  obtain ⟨x1, t1⟩ := Pa_arr (kd := 21) (N := 400) hb ho t0 List.mem_cons_self hp1 (j := 0) (by decide) (by decide) (by decide) (by decide)
  have o1 := (barr_Is (q := o) (j := 0) (kd := 21) (N := 400) hp1 11 o).mpr (Or.inl ho)
  have cl1 := CL_arr (q := o) (j := 0) (kd := 21) (N := 400) cl0 hp1 (by decide)
  have c1 : (barr b o 0 p1 21 400).B.c = x.c - 1 := by rw [barr_c, hcb]
  have z1 : (barr b o 0 p1 21 400).B.z = x.z - 400 := by rw [barr_z, hzb]
  generalize barr b o 0 p1 21 400 = b1 at x1 t1 o1 cl1 c1 z1 ⊢
  refine c_newJ (j := 1) (N := 4) x1.1 o1 (Pa_no t1 (by decide)) (by decide) (by decide) (by omega) (by omega) (fun p2 u2 hp2 => ?_)
  obtain ⟨x2, t2⟩ := Pa_arr (kd := 20) (N := 4) x1 o1 t1 List.mem_cons_self hp2 (j := 1) (by decide) (by decide) (by decide) (by decide)
  have o2 := (barr_Is (q := o) (j := 1) (kd := 20) (N := 4) hp2 11 o).mpr (Or.inl o1)
  have cl2 := CL_arr (q := o) (j := 1) (kd := 20) (N := 4) cl1 hp2 (by decide)
  have c2 : (barr b1 o 1 p2 20 4).B.c = x.c - 2 := by rw [barr_c, c1]; omega
  have z2 : (barr b1 o 1 p2 20 4).B.z = x.z - 404 := by rw [barr_z, z1]; omega
  have a2 : up2 (up2 A o 0 (fun _ => 0)) o 1 (fun _ => 0) o 1 = fun _ => (0 : Int32) := up2_self _ _ _ _
  generalize barr b1 o 1 p2 20 4 = b2 at x2 t2 o2 cl2 c2 z2 ⊢
  generalize up2 (up2 A o 0 (fun _ => 0)) o 1 (fun _ => 0) = A2 at a2 ⊢
  generalize up2 (up2 E o 0 u1) o 1 u2 = E2
  clear x1 t1 cl1 hb t0 cl0
  -- the store
  refine m_store x2 (by omega) (by omega) (fun s h b3 I3 F3 A3 E3 m1 m2 m3 m4 m5 m6 m7 => ?_)
  have o3 := m4.1 _ _ o2
  rw [c_putF0 m1.1 o3 (by decide)]
  have t3 := m4.2.2.2.1 o _ o2.1 t2
  have cl3 := CL_Ex cl2 m4
  obtain ⟨v1, v2, v3, v4⟩ := m4.2.2.2.2 o o2.1
  have i3 : ∀ j, I3 o j = 0 := fun j => by rw [v1]; exact hI j
  have a3 : A3 o 1 = fun _ => 0 := by rw [v3]; exact a2
  have f3 : up2 F3 o 2 (some s) o 2 = some s := up2_self _ _ _ _
  have s3 := SP_PV (A' := A3) (A := A3) m5 (PV_F (j := 2) (w := some s) (I := I3) (F := F3) (E := E3) o3)
  generalize up2 F3 o 2 (some s) = F4 at f3 s3 ⊢
  clear x2 t2 cl2 m4 m5 v1 v2 v3 v4
  -- cursors, what is open, what was found
  refine c_newG (j := 3) (N := 10) m1.1 o3 (Pa_no t3 (by decide)) (by decide) (by decide) (by omega) (by omega) (fun p4 u4 hp4 => ?_)
  obtain ⟨x4, t4⟩ := Pa_arr (kd := 26) (N := 10) m1 o3 t3 List.mem_cons_self hp4 (j := 3) (by decide) (by decide) (by decide) (by decide)
  have o4 := (barr_Is (q := o) (j := 3) (kd := 26) (N := 10) hp4 11 o).mpr (Or.inl o3)
  have cl4 := CL_arr (q := o) (j := 3) (kd := 26) (N := 10) cl3 hp4 (by decide)
  have c4 : (barr b3 o 3 p4 26 10).B.c = x.c - 10 := by rw [barr_c, m6, c2]; omega
  have z4 : (barr b3 o 3 p4 26 10).B.z = x.z - 15447 := by rw [barr_z, m7, z2]; omega
  have a4 : up2 A3 o 3 u4 o 1 = fun _ => 0 := by rw [up2_k _ _ _ _ (by decide)]; exact a3
  have s4 := SP_PV s3 (PV_arr (j := 3) (kd := 26) (N := 10) (I := I3) (F := F4) (A := A3) (E := E3) (u := u4) (w := fun _ => none) o3 hp4)
  generalize barr b3 o 3 p4 26 10 = b4 at x4 t4 o4 cl4 c4 z4 s4 ⊢
  generalize up2 A3 o 3 u4 = A4 at a4 ⊢
  generalize up2 E3 o 3 (fun _ => none) = E4 at s4 ⊢
  refine c_newJ (j := 4) (N := 10) x4.1 o4 (Pa_no t4 (by decide)) (by decide) (by decide) (by omega) (by omega) (fun p5 u5 hp5 => ?_)
  obtain ⟨x5, t5⟩ := Pa_arr (kd := 22) (N := 10) x4 o4 t4 List.mem_cons_self hp5 (j := 4) (by decide) (by decide) (by decide) (by decide)
  have o5 := (barr_Is (q := o) (j := 4) (kd := 22) (N := 10) hp5 11 o).mpr (Or.inl o4)
  have cl5 := CL_arr (q := o) (j := 4) (kd := 22) (N := 10) cl4 hp5 (by decide)
  have c5 : (barr b4 o 4 p5 22 10).B.c = x.c - 11 := by rw [barr_c, c4]; omega
  have z5 : (barr b4 o 4 p5 22 10).B.z = x.z - 15457 := by rw [barr_z, z4]; omega
  have a5 : up2 A4 o 4 (fun _ => 0) o 1 = fun _ => 0 := by rw [up2_k _ _ _ _ (by decide)]; exact a4
  have a5b : up2 A4 o 4 (fun _ => 0) o 4 = fun _ => 0 := up2_self _ _ _ _
  have s5 := SP_PV s4 (PV_arr (j := 4) (kd := 22) (N := 10) (I := I3) (F := F4) (A := A4) (E := E4) (u := fun _ => 0) (w := u5) o4 hp5)
  generalize barr b4 o 4 p5 22 10 = b5 at x5 t5 o5 cl5 c5 z5 s5 ⊢
  generalize up2 A4 o 4 (fun _ => 0) = A5 at a5 a5b ⊢
  generalize up2 E4 o 4 u5 = E5 at s5 ⊢
  refine c_newJ (j := 5) (N := 3000) x5.1 o5 (Pa_no t5 (by decide)) (by decide) (by decide) (by omega) (by omega) (fun p6 u6 hp6 => ?_)
  obtain ⟨x6, t6⟩ := Pa_arr (kd := 20) (N := 3000) x5 o5 t5 List.mem_cons_self hp6 (j := 5) (by decide) (by decide) (by decide) (by decide)
  have o6 := (barr_Is (q := o) (j := 5) (kd := 20) (N := 3000) hp6 11 o).mpr (Or.inl o5)
  have cl6 := CL_arr (q := o) (j := 5) (kd := 20) (N := 3000) cl5 hp6 (by decide)
  have c6 : (barr b5 o 5 p6 20 3000).B.c = x.c - 12 := by rw [barr_c, c5]; omega
  have z6 : (barr b5 o 5 p6 20 3000).B.z = x.z - 18457 := by rw [barr_z, z5]; omega
  have a6 : up2 A5 o 5 (fun _ => 0) o 1 = fun _ => 0 := by rw [up2_k _ _ _ _ (by decide)]; exact a5
  have a6b : up2 A5 o 5 (fun _ => 0) o 4 = fun _ => 0 := by rw [up2_k _ _ _ _ (by decide)]; exact a5b
  have s6 := SP_PV s5 (PV_arr (j := 5) (kd := 20) (N := 3000) (I := I3) (F := F4) (A := A5) (E := E5) (u := fun _ => 0) (w := u6) o5 hp6)
  have y6 := Pa_end x6 t6 o6 oF11
  generalize barr b5 o 5 p6 20 3000 = b6 at y6 o6 cl6 c6 z6 s6 ⊢
  generalize up2 A5 o 5 (fun _ => 0) = A6 at a6 a6b ⊢
  generalize up2 E5 o 5 u6 = E6 at s6 ⊢
  clear s5 s4 s3 cl5 cl4 cl3 t5 t4 t3 x5 x4 m1 a5 a5b a4 a3 a2
  have cl6' : CL b6 (fun c a => c = 11 ∨ c = 9 ∧ a = s ∨ c = 3) := fun c a z => by
    rcases cl6 c a z with (y | y | y) | y
    · exact Or.inl (Or.inl y)
    · exact Or.inl (Or.inr (Or.inl y))
    · exact Or.inl (Or.inr (Or.inr y.1))
    · exact Or.inr y
  exact k_init2 y6 o6 cl6' i3 a6 a6b f3 s6 (by rw [c6]; omega) (by rw [z6]; omega) hQ
end C38
