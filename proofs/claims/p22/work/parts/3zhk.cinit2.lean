set_option linter.unusedVariables false
set_option linter.unusedSimpArgs false
/-! the class: making a keeper -/
/-- all that was there is as it was, but fields W of o -/
def Go (o : Nat) (W : List Nat) (x0 x : HS) : Prop := (∀ a, a ∈ x0.LP → a ≠ o → a ∈ x.LP ∧ x.k a = x0.k a ∧ x.F a = x0.F a ∧ x.I a = x0.I a ∧ x.J a = x0.J a ∧ x.G a = x0.G a) ∧ (o ∈ x0.LP → o ∈ x.LP ∧ x.k o = x0.k o ∧ ∀ j, j ∉ W → x.F o j = x0.F o j)
section HK1
variable {o q j kd N : Nat} {W W' : List Nat} {x0 x y u : HS} {w : Option Nat} {Q Q' : HS → Prop} {X X' : String → HS → Prop}
theorem Go_n (h : Gn x0 x) : Go o W x0 x := ⟨fun a ha _ => h a ha, fun ho => ⟨(h o ho).1, (h o ho).2.1, fun j _ => by rw [(h o ho).2.2.1]⟩⟩
theorem Go_tr (h : Go o W x0 x) (h2 : Go o W x y) : Go o W x0 y := ⟨fun a ha hn => by
    obtain ⟨p1, p2, p3, p4, p5, p6⟩ := h.1 a ha hn
    obtain ⟨q1, q2, q3, q4, q5, q6⟩ := h2.1 a p1 hn
    exact ⟨q1, q2.trans p2, q3.trans p3, q4.trans p4, q5.trans p5, q6.trans p6⟩, fun ho => by
    obtain ⟨p1, p2, p3⟩ := h.2 ho
    obtain ⟨q1, q2, q3⟩ := h2.2 p1
    exact ⟨q1, q2.trans p2, fun j hj => (q3 j hj).trans (p3 j hj)⟩⟩
theorem Go_mono (h : Go o W x0 x) (hw : ∀ j, j ∈ W → j ∈ W') : Go o W' x0 x := ⟨h.1, fun ho => ⟨(h.2 ho).1, (h.2 ho).2.1, fun j hj => (h.2 ho).2.2 j (fun z => hj (hw j z))⟩⟩
theorem Go_put (h : Gn x u) : Go o [j] x (u.wF (up2 u.F o j w)) := ⟨fun a ha hn => by
    obtain ⟨p1, p2, p3, p4, p5, p6⟩ := h a ha
    exact ⟨p1, p2, (up2_row _ _ _ hn).trans p3, p4, p5, p6⟩, fun ho => by
    obtain ⟨p1, p2, p3, p4, p5, p6⟩ := h o ho
    refine ⟨p1, p2, fun j' hj' => ?_⟩
    have hne : j' ≠ j := fun z => hj' (by rw [z]; exact List.mem_singleton.mpr rfl)
    rw [← p3]
    exact up2_k _ _ _ _ hne⟩
/-- what a new keeper has -/
def QI0 (o : Nat) (u : HS) : Prop := ∃ t r v lt sp ga la, (t ∈ u.LP ∧ u.k t = 21 ∧ u.J t = fun _ => 0) ∧ u.F o 0 = some t ∧ (o ∈ u.LP ∧ u.k o = 11) ∧ u.F o 7 = some r ∧ (r ∈ u.LP ∧ u.k r = 6) ∧ u.F r 0 = some ga ∧ Inj10 (u.G ga) ∧ u.F o 8 = some v ∧ (v ∈ u.LP ∧ u.k v = 8) ∧ (lt ∈ u.LP ∧ u.k lt = 7) ∧ (sp ∈ u.LP ∧ u.k sp = 7) ∧ u.F v 0 = some lt ∧ u.F v 2 = some sp ∧ lt ≠ sp ∧ (u.I lt 1 = 0 ∧ u.I lt 2 = 0) ∧ u.F v 3 = some la ∧ Inj10 (u.G la)
set_option maxRecDepth 4000 in
theorem qi_init (ho : o ∈ x.LP ∧ x.k o = 11) (h : ∀ u, QI0 o u → Q u → Q' u) : w_X11_init (some o) x Q X → w_X11_init (some o) x Q' X' := by
  unfold w_X11_init
  refine q_ref (r_newJ (fun t ht => r_putF ?_))
  have not' : t ≠ o := fun z => ht (by rw [z]; exact ho.1)
  have a1 : Go o [0] x ((x.newJ t 21 (400 : Int32).toInt.toNat).wF (up2 (x.newJ t 21 (400 : Int32).toInt.toNat).F o 0 (some t))) := Go_put (Gn_newJ ht)
  have a2 : ((x.newJ t 21 (400 : Int32).toInt.toNat).wF (up2 (x.newJ t 21 (400 : Int32).toInt.toNat).F o 0 (some t))).F o 0 = some t := up2_self _ _ _ _
  have a3 : t ∈ ((x.newJ t 21 (400 : Int32).toInt.toNat).wF (up2 (x.newJ t 21 (400 : Int32).toInt.toNat).F o 0 (some t))).LP := List.mem_append_right _ (List.mem_singleton.mpr rfl)
  have a4 : ((x.newJ t 21 (400 : Int32).toInt.toNat).wF (up2 (x.newJ t 21 (400 : Int32).toInt.toNat).F o 0 (some t))).k t = 21 := va_up_self _ _ _
  have a5 : ((x.newJ t 21 (400 : Int32).toInt.toNat).wF (up2 (x.newJ t 21 (400 : Int32).toInt.toNat).F o 0 (some t))).J t = fun _ => 0 := va_up_self _ _ _
  generalize (x.newJ t 21 (400 : Int32).toInt.toNat).wF (up2 (x.newJ t 21 (400 : Int32).toInt.toNat).F o 0 (some t)) = y1 at a1 a2 a3 a4 a5 ⊢
  have o1 : o ∈ y1.LP ∧ y1.k o = 11 := ⟨(a1.2 ho.1).1, (a1.2 ho.1).2.1.trans ho.2⟩
  refine r_newJ (fun q4 h4 => r_putF ?_)
  have b1 : Go o [1, 2, 3, 4, 5, 6, 7, 8] y1 ((y1.newJ q4 20 (4 : Int32).toInt.toNat).wF (up2 (y1.newJ q4 20 (4 : Int32).toInt.toNat).F o 1 (some q4))) := Go_mono (Go_put (Gn_newJ h4)) (by decide)
  generalize (y1.newJ q4 20 (4 : Int32).toInt.toNat).wF (up2 (y1.newJ q4 20 (4 : Int32).toInt.toNat).F o 1 (some q4)) = y2 at b1 ⊢
  refine r_new (fun q7 h7 => ?_)
  refine gi_X9 (x0 := y2) (Gn_new h7) h7 (fun u3 g3 => r_putF ?_)
  have c1 : Go o [1, 2, 3, 4, 5, 6, 7, 8] y1 (u3.wF (up2 u3.F o 2 (some q7))) := Go_tr b1 (Go_mono (Go_put g3) (by decide))
  generalize u3.wF (up2 u3.F o 2 (some q7)) = y3 at c1 ⊢
  refine r_newG (fun q12 h12 => r_putF ?_)
  have d1 : Go o [1, 2, 3, 4, 5, 6, 7, 8] y1 ((y3.newG q12 26 (10 : Int32).toInt.toNat).wF (up2 (y3.newG q12 26 (10 : Int32).toInt.toNat).F o 3 (some q12))) := Go_tr c1 (Go_mono (Go_put (Gn_newG h12)) (by decide))
  have d2 : ((y3.newG q12 26 (10 : Int32).toInt.toNat).wF (up2 (y3.newG q12 26 (10 : Int32).toInt.toNat).F o 3 (some q12))).F o 3 = some q12 := up2_self _ _ _ _
  have d3 : q12 ∈ ((y3.newG q12 26 (10 : Int32).toInt.toNat).wF (up2 (y3.newG q12 26 (10 : Int32).toInt.toNat).F o 3 (some q12))).LP := List.mem_append_right _ (List.mem_singleton.mpr rfl)
  have d4 : q12 ≠ o := fun z => h12 (by rw [z]; exact (c1.2 o1.1).1)
  generalize (y3.newG q12 26 (10 : Int32).toInt.toNat).wF (up2 (y3.newG q12 26 (10 : Int32).toInt.toNat).F o 3 (some q12)) = y4 at d1 d2 d3 ⊢
  have o4 : o ∈ y4.LP ∧ y4.k o = 11 := ⟨(d1.2 o1.1).1, (d1.2 o1.1).2.1.trans o1.2⟩
  refine r_newJ (fun q15 h15 => r_putF ?_)
  have e1 : Go o [4, 5, 6, 7, 8] y4 ((y4.newJ q15 22 (10 : Int32).toInt.toNat).wF (up2 (y4.newJ q15 22 (10 : Int32).toInt.toNat).F o 4 (some q15))) := Go_mono (Go_put (Gn_newJ h15)) (by decide)
  generalize (y4.newJ q15 22 (10 : Int32).toInt.toNat).wF (up2 (y4.newJ q15 22 (10 : Int32).toInt.toNat).F o 4 (some q15)) = y5 at e1 ⊢
  refine r_newJ (fun q18 h18 => r_putF ?_)
  have f1 : Go o [4, 5, 6, 7, 8] y4 ((y5.newJ q18 20 (3000 : Int32).toInt.toNat).wF (up2 (y5.newJ q18 20 (3000 : Int32).toInt.toNat).F o 5 (some q18))) := Go_tr e1 (Go_mono (Go_put (Gn_newJ h18)) (by decide))
  generalize (y5.newJ q18 20 (3000 : Int32).toInt.toNat).wF (up2 (y5.newJ q18 20 (3000 : Int32).toInt.toNat).F o 5 (some q18)) = y6 at f1 ⊢
  refine r_new (fun q21 h21 => ?_)
  refine gi_X5 (x0 := y6) (Gn_new h21) h21 (fun u7 g7 _ => r_putF ?_)
  have g1 : Go o [4, 5, 6, 7, 8] y4 (u7.wF (up2 u7.F o 6 (some q21))) := Go_tr f1 (Go_mono (Go_put g7) (by decide))
  generalize u7.wF (up2 u7.F o 6 (some q21)) = y7 at g1 ⊢
  have o7 : o ∈ y7.LP ∧ y7.k o = 11 := ⟨(g1.2 o4.1).1, (g1.2 o4.1).2.1.trans o4.2⟩
  have c7 : q12 ∈ y7.LP := (g1.1 q12 d3 d4).1
  refine r_new (fun r hr => ?_)
  have nro : r ≠ o := fun z => hr (by rw [z]; exact o7.1)
  refine gi_X6 (x0 := y7) (Gn_new hr) hr ⟨List.mem_append_right _ (List.mem_singleton.mpr rfl), va_up_self _ _ _⟩ (fun u8 g8 l8 hga => r_putF ?_)
  obtain ⟨ga, ga1, ga2, ga3, ga4⟩ := hga
  have nga : ga ∉ y7.LP := fun z => ga2 (List.mem_append_left _ z)
  have ngo : ga ≠ o := fun z => nga (by rw [z]; exact o7.1)
  have ngq : ga ≠ q12 := fun z => nga (by rw [z]; exact c7)
  have p1 : Go o [4, 5, 6, 7, 8] y4 (u8.wF (up2 u8.F o 7 (some r))) := Go_tr g1 (Go_mono (Go_put g8) (by decide))
  have p2 : (u8.wF (up2 u8.F o 7 (some r))).F o 7 = some r := up2_self _ _ _ _
  have p3 : r ∈ (u8.wF (up2 u8.F o 7 (some r))).LP ∧ (u8.wF (up2 u8.F o 7 (some r))).k r = 6 := l8
  have p4 : (u8.wF (up2 u8.F o 7 (some r))).F r 0 = some ga := (congrFun (up2_row _ _ _ nro) 0).trans ga3
  have p5 : ga ∈ (u8.wF (up2 u8.F o 7 (some r))).LP := ga1
  have p6 : Inj10 ((u8.wF (up2 u8.F o 7 (some r))).G ga) := ga4
  have p7 : q12 ∈ (u8.wF (up2 u8.F o 7 (some r))).LP := (g8 q12 c7).1
  generalize u8.wF (up2 u8.F o 7 (some r)) = y8 at p1 p2 p3 p4 p5 p6 p7 ⊢
  have o8 : o ∈ y8.LP ∧ y8.k o = 11 := ⟨(p1.2 o4.1).1, (p1.2 o4.1).2.1.trans o4.2⟩
  refine r_new (fun v hv => ?_)
  have nvo : v ≠ o := fun z => hv (by rw [z]; exact o8.1)
  refine gi_X8 (x0 := y8) (Gn_new hv) hv ⟨List.mem_append_right _ (List.mem_singleton.mpr rfl), va_up_self _ _ _⟩ (fun u9 g9 l9 hso => r_putF ?_)
  obtain ⟨lt, sp, la, s1, s2, s3, s4, s5, s6, s7, s8, s9, s10, s11⟩ := hso
  have nlo : la ≠ o := fun z => s11 (by rw [z]; exact o8.1)
  have nlq : la ≠ q12 := fun z => s11 (by rw [z]; exact p7)
  have w1 : Go o [8] y8 (u9.wF (up2 u9.F o 8 (some v))) := Go_put g9
  have w2 : (u9.wF (up2 u9.F o 8 (some v))).F o 8 = some v := up2_self _ _ _ _
  have w3 : v ∈ (u9.wF (up2 u9.F o 8 (some v))).LP ∧ (u9.wF (up2 u9.F o 8 (some v))).k v = 8 := l9
  have wv : ∀ j, (u9.wF (up2 u9.F o 8 (some v))).F v j = u9.F v j := fun j => congrFun (up2_row _ _ _ nvo) j
  have t1 : lt ∈ (u9.wF (up2 u9.F o 8 (some v))).LP ∧ (u9.wF (up2 u9.F o 8 (some v))).k lt = 7 := s1
  have t2 : sp ∈ (u9.wF (up2 u9.F o 8 (some v))).LP ∧ (u9.wF (up2 u9.F o 8 (some v))).k sp = 7 := s2
  have t3 := (wv 0).trans s3
  have t4 := (wv 2).trans s4
  have t6 : (u9.wF (up2 u9.F o 8 (some v))).I lt 1 = 0 ∧ (u9.wF (up2 u9.F o 8 (some v))).I lt 2 = 0 := s6
  have t7 := (wv 3).trans s7
  have t8 : la ∈ (u9.wF (up2 u9.F o 8 (some v))).LP := s8
  have t9 : Inj10 ((u9.wF (up2 u9.F o 8 (some v))).G la) := s9
  clear wv
  generalize u9.wF (up2 u9.F o 8 (some v)) = y9 at w1 w2 w3 t1 t2 t3 t4 t6 t7 t8 t9 ⊢
  have o9 : o ∈ y9.LP ∧ y9.k o = 11 := ⟨(w1.2 o8.1).1, (w1.2 o8.1).2.1.trans o8.2⟩
  have full : Go o [4, 5, 6, 7, 8] y4 y9 := Go_tr p1 (Go_mono w1 (by decide))
  have all : Go o [1, 2, 3, 4, 5, 6, 7, 8] y1 y9 := Go_tr d1 (Go_mono full (by decide))
  have F3 : y9.F o 3 = some q12 := ((full.2 o4.1).2.2 3 (by decide)).trans d2
  have F0 : y9.F o 0 = some t := ((all.2 o1.1).2.2 0 (by decide)).trans a2
  have F7 : y9.F o 7 = some r := ((w1.2 o8.1).2.2 7 (by decide)).trans p2
  obtain ⟨tt1, tt2, tt3, tt4, tt5, tt6⟩ := all.1 t a3 not'
  obtain ⟨rr1, rr2, rr3, -⟩ := w1.1 r p3.1 nro
  obtain ⟨gg1, gg2, gg3, gg4, gg5, gg6⟩ := w1.1 ga p5 ngo
  have qq := (w1.1 q12 p7 d4).1
  refine gi_looks (x0 := HS.mk [] y9.k y9.n y9.I y9.F y9.J y9.G 0 0) (by decide) (fun a ha => absurd ha List.not_mem_nil) o9.1 F3 qq List.not_mem_nil (fun u10 _ hl _ => ?_)
  obtain ⟨ho1, ho2, ho3, -⟩ := hl o o9.1
  obtain ⟨ht1, ht2, -, -, ht5, -⟩ := hl t tt1
  obtain ⟨hr1, hr2, hr3, -⟩ := hl r rr1
  obtain ⟨-, -, -, -, -, hg6⟩ := hl ga gg1
  obtain ⟨hv1, hv2, hv3, -⟩ := hl v w3.1
  obtain ⟨hlt1, hlt2, -, hlt4, -⟩ := hl lt t1.1
  obtain ⟨hsp1, hsp2, -⟩ := hl sp t2.1
  obtain ⟨-, -, -, -, -, hla6⟩ := hl la t8
  refine h u10 ⟨t, r, v, lt, sp, ga, la, ⟨ht1, (ht2.trans tt2).trans a4, (ht5.trans tt5).trans a5⟩, by rw [ho3]; exact F0, ⟨ho1, ho2.trans o9.2⟩, by rw [ho3]; exact F7, ⟨hr1, (hr2.trans rr2).trans p3.2⟩, by rw [hr3, rr3]; exact p4, by rw [hg6 ngq, gg6]; exact p6, by rw [ho3]; exact w2, ⟨hv1, hv2.trans w3.2⟩, ⟨hlt1, hlt2.trans t1.2⟩, ⟨hsp1, hsp2.trans t2.2⟩, by rw [hv3]; exact t3, by rw [hv3]; exact t4, s5, by rw [hlt4]; exact t6, by rw [hv3]; exact t7, by rw [hla6 nlq]; exact t9⟩
/-- in words of things -/
theorem QI0_QR {N : Nat} {a : AS} (h : QI0 o u) (hk : KZ o N a u) : QR3 o (a, fun _ => 0, 0, fun _ => false, fun _ _ => 0) u := by
  obtain ⟨b, I, F, A, E, rfl, hb⟩ := KZ_cS hk
  obtain ⟨t, r, v, lt, sp, ga, la, ⟨t1, t2, t3⟩, f0, i1, f7, i2, f60, gi, f8, i3, i4, i5, f80, f82, f5, ⟨z1, z2⟩, f83, li⟩ := h
  have i1 : Is b 11 o := i1
  have i2 : Is b 6 r := i2
  have i3 : Is b 8 v := i3
  have i4 : Is b 7 lt := i4
  have i5 : Is b 7 sp := i5
  have f0 : cF b F o 0 = some t := f0
  have f7 : cF b F o 7 = some r := f7
  have f8 : cF b F o 8 = some v := f8
  have f80 : cF b F v 0 = some lt := f80
  have f82 : cF b F v 2 = some sp := f82
  have f60 : cF b F r 0 = some ga := f60
  have f83 : cF b F v 3 = some la := f83
  rw [cF_ow hb i1 (by decide)] at f0
  rw [cF_no hb i1 (by decide)] at f7
  rw [cF_no hb i1 (by decide)] at f8
  rw [cF_no hb i3 (by decide)] at f80
  rw [cF_no hb i3 (by decide)] at f82
  rw [cF_ow hb i2 (by decide)] at f60
  rw [cF_ow hb i3 (by decide)] at f83
  have et := Option.some.inj f0
  have eg := Option.some.inj f60
  have el := Option.some.inj f83
  subst et; subst eg; subst el
  refine ⟨b, I, F, A, E, rfl, hb, r, v, lt, sp, ⟨i1, i2, i3, i4, i5⟩, ⟨f7, f8, f80, f82, f5⟩, ⟨fun i i' z h1 h2 h3 h4 => gi i i' z h1 h2 ((cG_at hb i2 (by decide)).trans h3) ((cG_at hb i2 (by decide)).trans h4), fun i i' z h1 h2 h3 h4 => li i i' z h1 h2 ((cG_at hb i3 (by decide)).trans h3) ((cG_at hb i3 (by decide)).trans h4)⟩, ⟨funext fun i => ?_, fun i => by show -128 ≤ (0 : Int32).toInt ∧ (0 : Int32).toInt ≤ 127; decide⟩, ?_, ?_, fun i k hi => absurd hi (Nat.not_lt_zero _)⟩
  · exact (cJ_at hb i1 (by decide)).symm.trans (congrFun t3 i)
  · rw [show I lt 2 = 0 from z2]
    show (0 : Int32).toInt = ((0 : Nat) : Int)
    decide
  · rw [show I lt 1 = 0 from z1]; exact KnR_0
end HK1
theorem kq_init {x : HS} {o N : Nat} {X : String → HS → Prop} (hLP : x.LP = [o]) (hk : x.k o = 11) (hI : ∀ j, x.I o j = 0) (hc : 153096 + 16 * N + 94 ≤ x.c) (hz : 772800 + 100 * N + 20503 ≤ x.z) : w_X11_init (some o) x (fun u => KQ o N AQ0 u) X :=
  qi_init (X := X) (X' := X) ⟨by rw [hLP]; exact List.mem_singleton.mpr rfl, hk⟩ (fun u hu hz => ⟨hz, QI0_QR hu hz⟩) (kz_init (X := X) hLP hk hI hc hz)
