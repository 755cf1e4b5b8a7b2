set_option linter.unusedVariables false
set_option linter.unusedSimpArgs false
/-! the class: question and solution -/
section HF1
variable {b : CT} {I I' : Nat → Nat → Int32} {F F' : Nat → Nat → Option Nat} {A A' : Nat → Nat → Nat → Int32} {E : Nat → Nat → Nat → Option Nat} {o N v r lt sp : Nat} {vv : Nat → Int32} {x : HS} {a : AS} {g : CGs}
theorem sk_goals (hk : KInv o N vv x) {ga : Nat} (hr : r ∈ x.LP ∧ x.k r = 6) (hg : x.F r 0 = some ga) : ∀ i, i < 10 → ∃ z, x.G ga i = some z ∧ z ∈ x.LP ∧ x.k z = 2 := fun i hi => by
  obtain ⟨b, g, s, h, I, F, A, E, rfl, hkv, -⟩ := hk
  have hb := hkv.1
  have ir : Is b 6 r := hr
  obtain ⟨z, z1, z2⟩ := hkv.2.2.1.2.2.2.2.2.2.2.2.2.2.1 r ir i hi
  have hg : cF b F r 0 = some ga := hg
  rw [cF_ow hb ir (by decide)] at hg
  have hg := Option.some.inj hg
  refine ⟨z, ?_, z2.1, z2.2⟩
  rw [← hg]
  exact (cG_at hb ir (by decide)).trans z1
theorem sk_looks (hk : KInv o N vv x) {la : Nat} (hr : v ∈ x.LP ∧ x.k v = 8) (hg : x.F v 3 = some la) : ∀ i, i < 10 → ∃ z, x.G la i = some z ∧ z ∈ x.LP ∧ x.k z = 5 := fun i hi => by
  obtain ⟨b, g, s, h, I, F, A, E, rfl, hkv, -⟩ := hk
  have hb := hkv.1
  have ir : Is b 8 v := hr
  obtain ⟨z, z1, z2⟩ := (hkv.2.2.1.2.2.2.2.2.2.2.2.2.2.2 v ir).2.2 i hi
  have hg : cF b F v 3 = some la := hg
  rw [cF_ow hb ir (by decide)] at hg
  have hg := Option.some.inj hg
  refine ⟨z, ?_, z2.1, z2.2⟩
  rw [← hg]
  exact (cG_at hb ir (by decide)).trans z1
/-- which columns have an index, in this picture of the heap -/
theorem hix_of (h1 : KT1 o a.1 (cS b I F A E)) (hx : CXx o a g b I F A E) : ∀ t, inT a t → ∀ k, k < 4 → (E (g.d t) 3 k ≠ none ↔ a.ix t k = true) := fun t ht k hk => by
  obtain ⟨hb, hs, htb, -⟩ := hx
  obtain ⟨s, q, d, y, k1, k2, k3, k4, k5, k6, k7, k8⟩ := h1
  obtain ⟨j1, j2, j3, j4, j5, j6⟩ := k7 t ht
  obtain ⟨t1, t2, -⟩ := htb.2 t ht
  have k1 : cF b F o 2 = some s := k1
  rw [cF_no hb hs.1 (by decide), hs.2.1] at k1
  have es : g.s = s := Option.some.inj k1
  subst es
  have k3 : cF b F g.s 0 = some q := k3
  rw [cF_ow hb hs.2.2.1 (by decide)] at k3
  have eq : b.ad g.s 0 = q := Option.some.inj k3
  subst eq
  have j1 : cG b E (b.ad g.s 0) t = some (d t) := j1
  rw [cG_at hb hs.2.2.1 (by decide), t1] at j1
  have ed : g.d t = d t := Option.some.inj j1
  rw [← ed] at j4
  have j4 : cF b F (g.d t) 3 = some (y t) := j4
  rw [cF_ow hb t2 (by decide)] at j4
  have ey : b.ad (g.d t) 3 = y t := Option.some.inj j4
  have j6 := j6 k hk
  rw [← ey] at j6
  have e : (cS b I F A E).G (b.ad (g.d t) 3) k = E (g.d t) 3 k := cG_at hb t2 (by decide)
  rw [e] at j6
  have j6 : (E (g.d t) 3 k).isSome = a.ix t k := j6
  rw [← j6]
  cases E (g.d t) 3 k with
  | none => simp
  | some z => simp
/-- the reader and its goals don't count for the tables -/
theorem CXx_rq {gl : Nat → Nat} (hx : CXx o a g b I F A E) (ir : Is b 6 r) (ig : ∀ i, i < 10 → Is b 2 (gl i)) (h : RQs r gl I I' F F' A A') : CXx o a g b I' F' A' E := by
  have ne : ∀ ci z, Is b ci z → ci ≠ 6 → ci ≠ 2 → I' z = I z ∧ F' z = F z ∧ A' z = A z := fun ci z hz h6 h2 => h z (Is_ne hz ir h6) (fun i hi => Is_ne hz (ig i hi) h2)
  refine CXx_eq hx (fun ci z j hz hj => ?_) (fun ci z j hz hj => ?_) (fun ci z j hz hj => ?_) (fun _ _ _ _ _ => rfl) (fun c hc => ?_)
  · rw [(ne ci z hz (fun y => by rw [y] at hj; simp only [cxI, List.mem_cons, Prod.mk.injEq, List.not_mem_nil, or_false] at hj; omega) (fun y => by rw [y] at hj; simp only [cxI, List.mem_cons, Prod.mk.injEq, List.not_mem_nil, or_false] at hj; omega)).1]
  · rw [(ne ci z hz (fun y => by rw [y] at hj; simp only [cxF, List.mem_cons, Prod.mk.injEq, List.not_mem_nil, or_false] at hj; omega) (fun y => by rw [y] at hj; simp only [cxF, List.mem_cons, Prod.mk.injEq, List.not_mem_nil, or_false] at hj; omega)).2.1]
  · rw [(ne ci z hz (fun y => by rw [y] at hj; simp only [cxA, List.mem_cons, Prod.mk.injEq, List.not_mem_nil, or_false] at hj; omega) (fun y => by rw [y] at hj; simp only [cxA, List.mem_cons, Prod.mk.injEq, List.not_mem_nil, or_false] at hj; omega)).2.2]
  · exact ne 5 _ (hx.2.1.2.2.2.2.2.2.2.1 c hc).2.1 (by decide) (by decide)
end HF1
section HF2
variable {o N : Nat} {qa : AT3} {x : HS} {p : Int32} {X X' : String → HS → Prop} {QI QI' : Int32 → HS → Prop}
/-- what a question says and leaves -/
theorem qq_question {a' : AS} (hk : KQ o (N + 1) qa x) (hW : AVW qa.1) (hXr : ∀ e u, X e u → ∃ (b' : CT) (I' : Nat → Nat → Int32) (F' : Nat → Nat → Option Nat) (A' : Nat → Nat → Nat → Int32) (E' : Nat → Nat → Nat → Option Nat), u = cS b' I' F' A' E' ∧ CB b')
    (hIA : ¬ timeOk qa.1 p → ∀ u, QR3 o (a', qa.2) u → X eIA u → X' eIA u)
    (hUO : timeOk qa.1 p → qRd qa = none → ∀ u, QR3 o (a', qa.2) u → X eUO u → X' eUO u)
    (hAE : timeOk qa.1 p → ∀ g, qRd qa = some g → mostL < (qSol qa p g.1).1 → ∀ u, QR3 o (a', qa.2) u → X eAE u → X' eAE u)
    (hOK : timeOk qa.1 p → ∀ g, qRd qa = some g → ¬ mostL < (qSol qa p g.1).1 → ∀ r u, r.toInt = ((qSol qa p g.1).2.1 : Int) → QR3 o (a', qa.tp, (qSol qa p g.1).2.1, g.2, (qSol qa p g.1).2.2) u → QI r u → QI' r u) : w_X11_question (some o) p x QI X → w_X11_question (some o) p x QI' X' := by
  have hrg := QR_rg hk.2
  have hk1 := hk.1.1.1
  have hV : AV qa.1 := hW.1.1
  obtain ⟨K, hv0, hfr⟩ := QR_K hk.2
  obtain ⟨g, b, I, F, A, E, rfl, hsz, hx⟩ := hk.1.1.2
  have hb := hx.1
  have hs := hx.2.1
  obtain ⟨r, v, lt, sp, ⟨i1, i2, i3, i4, i5⟩, ⟨f1, f2, f3, f4, f5⟩, ⟨g1, g2⟩, ⟨t1, t2⟩, s1, s2, s3⟩ := QR_rep hk.2 hb
  have hgl0 : ∀ i, i < 10 → ∃ z, E r 0 i = some z ∧ Is b 2 z := fun i hi => by
    obtain ⟨z, z1, z2, z3⟩ := sk_goals hk1.1 (ga := b.ad r 0) i2 (cF_ow hb i2 (by decide)) i hi
    exact ⟨z, (cG_at hb i2 (by decide)).symm.trans z1, z2, z3⟩
  obtain ⟨gl, hgl⟩ : ∃ gl : Nat → Nat, ∀ i, i < 10 → E r 0 i = some (gl i) ∧ Is b 2 (gl i) := ⟨fun i => (E r 0 i).getD 0, fun i hi => by
    obtain ⟨z, z1, z2⟩ := hgl0 i hi
    show E r 0 i = some ((E r 0 i).getD 0) ∧ Is b 2 ((E r 0 i).getD 0)
    rw [z1]; exact ⟨rfl, z2⟩⟩
  have gli : ∀ i j, i < 10 → j < 10 → gl i = gl j → i = j := fun i j hi hj e => g1 i j (gl i) hi hj (hgl i hi).1 (by rw [e]; exact (hgl j hj).1)
  have hlv0 : ∀ i, i < 10 → ∃ z, E v 3 i = some z ∧ Is b 5 z := fun i hi => by
    obtain ⟨z, z1, z2, z3⟩ := sk_looks hk1.1 (la := b.ad v 3) i3 (cF_ow hb i3 (by decide)) i hi
    exact ⟨z, (cG_at hb i3 (by decide)).symm.trans z1, z2, z3⟩
  obtain ⟨lv, hlv⟩ : ∃ lv : Nat → Nat, ∀ i, i < 10 → E v 3 i = some (lv i) ∧ Is b 5 (lv i) := ⟨fun i => (E v 3 i).getD 0, fun i hi => by
    obtain ⟨z, z1, z2⟩ := hlv0 i hi
    show E v 3 i = some ((E v 3 i).getD 0) ∧ Is b 5 ((E v 3 i).getD 0)
    rw [z1]; exact ⟨rfl, z2⟩⟩
  have lvi : ∀ i j, i < 10 → j < 10 → lv i = lv j → i = j := fun i j hi hj e => g2 i j (lv i) hi hj (hlv i hi).1 (by rw [e]; exact (hlv j hj).1)
  have hix := hix_of hk1.2.1 hx
  have e9 : I o 9 = qa.1.tl := hk1.2.2.1
  have h90 : 0 ≤ qa.1.tl.toInt := hk1.2.2.2.1
  have h94 : qa.1.tl.toInt ≤ 400 := hk1.2.2.2.2
  have hn : (I o 9).toInt = (qa.1.tl.toInt.toNat : Int) := by rw [e9]; omega
  have hor : o ≠ r := Is_ne i1 i2 (by decide)
  unfold w_X11_question
  refine qc_getI (fun _ => qc_putI (fun _ => ?_))
  refine qc_getF hb (by decide) (fun _ => ?_)
  rw [f1]
  refine qc_putI (fun _ => qc_recv (fun _ => ?_))
  have hv1 : Vs K (cS b I F A E) (cS b (up2 (up2 I o 9 0) r 3 (-1)) F A E) := Vs_I (a := r) (j := 3) (v := -1) (Vs_I (a := o) (j := 9) (v := 0) hv0 (by rw [show (cS b I F A E).k o = 11 from i1.2]; decide)) (by
    show b.B.k r ≠ 7
    rw [i2.2]; decide)
  have hb1 : Vb (cS b I F A E) (cS b (up2 (up2 I o 9 0) r 3 (-1)) F A E) := fun a h => ⟨h, rfl, fun _ => rfl⟩
  have hx1 : CXx o qa.1 g b (up2 (up2 I o 9 0) r 3 (-1)) F A E := CXx_eq hx (sI_up (sI_up sI_rf i1 (by decide)) i2 (by decide)) sF_rf sA_rf sE_rf (fun c hc => by
    have hl := (hs.2.2.2.2.2.2.2.1 c hc).2.1
    exact ⟨by rw [up2_row _ _ _ (Is_ne hl i2 (by decide)), up2_row _ _ _ (Is_ne hl i1 (by decide))], rfl, rfl⟩)
  have z1 : ∀ z, z ≠ o → z ≠ r → (up2 (up2 I o 9 0) r 3 (-1)) z = I z := fun z h1 h2 => by rw [up2_row _ _ _ h2, up2_row _ _ _ h1]
  generalize up2 (up2 I o 9 0) r 3 (-1) = I1 at hv1 hb1 hx1 z1 ⊢
  have tape : ∀ u, Vb (cS b I F A E) u → ∀ t, t ∈ (cS b I F A E).LP → (cS b I F A E).k t = 21 → (cS b I F A E).F o 0 = some t → (cS b I F A E).J t = qa.tp → u.J t = qa.tp := fun u hu t h1 h2 _ h4 => ((hu t h1).2.2 h2).trans h4
  refine qc_requireTime hx1 (fun hno hXX => hIA hno _ (hfr _ a' qa.tp (Vs_C hv1) (tape _ hb1) hrg (hXr _ _ hXX)) hXX) (fun hti => ?_)
  refine qc_getF hb (by decide) (fun _ => ?_)
  rw [f1]
  refine qc_getA hb (by decide) (fun _ => ?_)
  refine qc_getF hb (by decide) (fun _ => ?_)
  rw [hs.2.1]
  refine qc_recv (fun _ => ?_)
  have hTB : TBc b g.s g.d qa.1.tn qa.1.co I1 E := ⟨hs.2.2.1, hx1.2.2.1.1, fun t ht => by
    obtain ⟨y1, y2, y3, y4, -⟩ := hx1.2.2.1.2 t ht
    have := (hV.2.1.2 t ht).2.1
    exact ⟨y1, y2, y4, this.1, this.2⟩⟩
  refine fun hw => qr_question (tp := qa.tp) (n := qa.1.tl.toInt.toNat) (X := fun e u => X e u ∧ Vs K (cS b I F A E) u ∧ Vb (cS b I F A E) u) hb i2 i1 hTB hgl gli hn (by omega) (fun i _ => by rw [t1]) (fun i _ => t2 i) (fun I2 F2 A2 Gs kf hqu hRQ hn1 hn10 hkn hgo => ?_) (fun hno u hu => hUO hti hno u (hfr u a' qa.tp hu.2.1 (tape u hu.2.2) hrg (hXr _ _ hu.1)) hu.1) (fk_X6_readQuestion (K := K) (x0 := cS b I F A E) (fun u hu hq => hq) (fun e u hu hq => ⟨hq.1, hu, hq.2⟩) hv1 (fr_X6_readQuestion (P := Vb (cS b I F A E)) (Vb_clo (by decide)) (fun u hu hq => hq) (fun e u hu hq => (⟨hq, hu⟩ : _ ∧ Vb (cS b I F A E) u)) hb1 hw))
  have hqu : qRd qa = some (Gs, kf) := hqu
  have ig : ∀ i, i < 10 → Is b 2 (gl i) := fun i hi => (hgl i hi).2
  have n2 : ∀ ci z, Is b ci z → ci ≠ 6 → ci ≠ 2 → I2 z = I1 z ∧ F2 z = F z ∧ A2 z = A z := fun ci z hz h6 h2 => hRQ z (Is_ne hz i2 h6) (fun i hi => Is_ne hz (ig i hi) h2)
  have hx2 := CXx_rq hx1 i2 ig hRQ
  obtain ⟨o1, o2, o3⟩ := n2 11 o i1 (by decide) (by decide)
  refine qc_putI (fun _ => ?_)
  have hx3 : CXx o qa.1 g b (up2 I2 o 11 50001) F2 A2 E := CXx_eq hx2 (sI_up sI_rf i1 (by decide)) sF_rf sA_rf sE_rf (fun c hc => by
    have hl := (hs.2.2.2.2.2.2.2.1 c hc).2.1
    exact ⟨by rw [up2_row _ _ _ (Is_ne hl i1 (by decide))], rfl, rfl⟩)
  have z3 : ∀ z, z ≠ o → (up2 I2 o 11 50001) z = I2 z := fun z h1 => up2_row _ _ _ h1
  generalize up2 I2 o 11 50001 = I3 at hx3 z3 ⊢
  refine qc_getF hb (by decide) (fun _ => ?_)
  rw [show F2 o 8 = some v by rw [o2]; exact f2]
  refine qc_getF hb (by decide) (fun _ => ?_)
  rw [show F2 o 7 = some r by rw [o2]; exact f1]
  refine qc_getF hb (by decide) (fun _ => ?_)
  rw [show F2 o 2 = some g.s by rw [o2]; exact hs.2.1]
  refine qc_recv (fun _ => ?_)
  refine qc_timeOf hx3 (fun T hT => ?_)
  refine qc_recv (fun _ => ?_)
  obtain ⟨v1, v2, v3⟩ := n2 8 v i3 (by decide) (by decide)
  obtain ⟨l1, l2, l3⟩ := n2 7 lt i4 (by decide) (by decide)
  have hro : r ≠ o := Ne.symm hor
  have hco : ∀ t : Nat, (t : Int) < qa.1.tn.toInt → 1 ≤ (qa.1.co t).toInt := fun t ht => (hV.2.1.2 t ht).2.1.1
  have hRs : qSol qa p Gs = solA qa.1 T.toInt Gs (fun _ => 0) (0, 0, fun _ _ => 0) := by unfold qSol; rw [hT]
  have ltI : I3 lt = I lt := by rw [z3 lt (Is_ne i4 i1 (by decide)), l1, z1 lt (Is_ne i4 i1 (by decide)) (Is_ne i4 i2 (by decide))]
  refine qs_solveAll (lv := lv) (gl := gl) (kf := kf) (R := qSol qa p Gs) hV hx3 i3 i2 i4 i5 (by rw [v2]; exact f3) (by rw [v2]; exact f4) f5 hlv lvi hgl (by rw [z3 r hro]; exact hn1) hn10 (fun i G hG => ?_) hix (by rw [z3 r hro]; exact hkn) (quA_wf hco 10 _ kf 0 Gs hqu) hRs (fun I4 F4 A4 hle fr4 w0 w2 hK hkn4 => ?_) (fun I4 F4 A4 hov fr4 w0 w2 hXX => ?_)
  · have hi : i < 10 := by have := (List.getElem?_eq_some_iff.mp hG).1; omega
    exact GoC_congr (hgo i G hG).1 (z3 _ (Is_ne (ig i hi) i1 (by decide))) rfl rfl
  · obtain ⟨q1, q2, q3⟩ := fr4 o (Is_ne i1 i3 (by decide)) (Is_ne i1 i5 (by decide)) (fun i hi => Is_ne i1 (hlv i hi).2 (by decide))
    have e8 : F4 o 8 = some v := by rw [q2, o2]; exact f2
    refine qc_getF hb (by decide) (fun _ => ?_)
    rw [e8]
    refine qc_getI (fun _ => qc_putI (fun _ => ?_))
    have hso : sp ≠ o := Is_ne i5 i1 (by decide)
    refine hOK hti (Gs, kf) hqu (by show ¬ mostL < (qSol qa p Gs).1; omega) _ _ hK.1 ⟨b, _, F4, A4, E, rfl, hb, r, v, sp, lt, ⟨i1, i2, i3, i5, i4⟩, ⟨by rw [q2, o2]; exact f1, e8, w0, w2, Ne.symm f5⟩, ⟨g1, g2⟩, ⟨by rw [q3, o3]; exact t1, t2⟩, ?_, ?_, hK.2⟩
    · rw [up2_row _ _ _ hso]; exact hK.1
    · rw [up2_row _ _ _ hso]; exact hkn4
  · obtain ⟨q1, q2, q3⟩ := fr4 o (Is_ne i1 i3 (by decide)) (Is_ne i1 i5 (by decide)) (fun i hi => Is_ne i1 (hlv i hi).2 (by decide))
    obtain ⟨m1, m2, m3⟩ := fr4 lt (Is_ne i4 i3 (by decide)) f5 (fun i hi => Is_ne i4 (hlv i hi).2 (by decide))
    refine hAE hti (Gs, kf) hqu hov _ ⟨(b.B.wC (b.B.c - 1) (b.B.z - 6), b.2), I4, F4, A4, E, rfl, CB_wC hb, r, v, lt, sp, ⟨i1, i2, i3, i4, i5⟩, ⟨by rw [q2, o2]; exact f1, by rw [q2, o2]; exact f2, w0, w2, f5⟩, ⟨g1, g2⟩, ⟨by rw [q3, o3]; exact t1, t2⟩, ?_, ?_, fun i k h1 h2 h3 h4 => ?_⟩ hXX
    · rw [m1, ltI]; exact s1
    · rw [m1, ltI]; exact s2
    · rw [m3, l3]; exact s3 i k h1 h2 h3 h4
theorem kq_question (hk : KQ o (N + 1) qa x) (hW : AVW qa.1) (p : Int32) : w_X11_question (some o) p x (fun r u => OKq_question qa p 0 r ∧ KQ o N (nxq_question qa p) u) (fun E u => (E = eIA ∧ OKq_question qa p 1 0 ∨ E = eUO ∧ OKq_question qa p 2 0 ∨ E = eAE ∧ OKq_question qa p 3 0) ∧ KQ o N (nxq_question qa p) u) := by
  have n1 : (1 : Int32) ≠ 0 := by decide
  have n2 : (2 : Int32) ≠ 0 := by decide
  have n3 : (3 : Int32) ≠ 0 := by decide
  have stay : qCd qa p ≠ 0 → nxq_question qa p = (nx_question qa.1 p, qa.2) := fun hc => by
    unfold nxq_question
    split
    · rfl
    · exact if_neg hc
  refine qq_question (a' := nx_question qa.1 p) hk hW (fun e u hz => KZ_cS hz.2) (fun hno u hq hz => ?_) (fun hti hno u hq hz => ?_) (fun hti g hg hov u hq hz => ?_) (fun hti g hg hov r u hr hq hz => ?_) (kz_question hk.1 hW p)
  · have hc : qCd qa p = 1 := if_neg hno
    exact ⟨Or.inl ⟨rfl, hc.symm, fun y => absurd (hc.symm.trans y) n1⟩, by rw [stay (by rw [hc]; exact n1)]; exact ⟨hz.2, hq⟩⟩
  · have hc : qCd qa p = 2 := by unfold qCd; rw [if_pos hti, hno]
    exact ⟨Or.inr (Or.inl ⟨rfl, hc.symm, fun y => absurd (hc.symm.trans y) n2⟩), by rw [stay (by rw [hc]; exact n2)]; exact ⟨hz.2, hq⟩⟩
  · have hc : qCd qa p = 3 := by unfold qCd; rw [if_pos hti, hg]; exact if_pos hov
    exact ⟨Or.inr (Or.inr ⟨rfl, hc.symm, fun y => absurd (hc.symm.trans y) n3⟩), by rw [stay (by rw [hc]; exact n3)]; exact ⟨hz.2, hq⟩⟩
  · have hc : qCd qa p = 0 := by unfold qCd; rw [if_pos hti, hg]; exact if_neg hov
    have hnx : nxq_question qa p = (nx_question qa.1 p, qa.tp, (qSol qa p g.1).2.1, g.2, (qSol qa p g.1).2.2) := by unfold nxq_question; rw [hg]; exact if_pos hc
    refine ⟨⟨hc.symm, fun _ => ?_⟩, by rw [hnx]; exact ⟨hz.2, hq⟩⟩
    unfold qAn
    rw [hg]
    exact i_of hr
/-- solution -/
theorem kq_solution (hk : KQ o (N + 1) qa x) (hW : AVW qa.1) (p1 p2 : Int32) : w_X11_solution (some o) p1 p2 x (fun r u => OKq_solution qa p1 p2 0 r ∧ KQ o N (nxq_solution qa p1 p2) u) (fun E u => (E = eIA ∧ OKq_solution qa p1 p2 1 0 ∨ E = eIB ∧ OKq_solution qa p1 p2 2 0) ∧ KQ o N (nxq_solution qa p1 p2) u) := by
  have hrg := QR_rg hk.2
  have n1 : (1 : Int32) ≠ 0 := by decide
  have n2 : (2 : Int32) ≠ 0 := by decide
  have hkz := kz_solution hk.1 hW p1 p2
  obtain ⟨K, hv, hfr⟩ := QR_K hk.2
  obtain ⟨b, I, F, A, E, rfl, hb, r, v, lt, sp, ⟨i1, i2, i3, i4, i5⟩, ⟨f1, f2, f3, f4, f5⟩, -, -, s1, s2, s3⟩ := hk.2
  have step : w_X11_solution (some o) p1 p2 (cS b I F A E) (fun r u => OK_solution qa.1 p1 p2 0 r ∧ KZ o N (nx_solution qa.1 p1 p2) u) (fun E u => (E = eIA ∧ OK_solution qa.1 p1 p2 1 0 ∨ E = eIB ∧ OK_solution qa.1 p1 p2 2 0) ∧ KZ o N (nx_solution qa.1 p1 p2) u) → w_X11_solution (some o) p1 p2 (cS b I F A E) (fun r u => OKq_solution qa p1 p2 0 r ∧ KZ o N (nx_solution qa.1 p1 p2) u) (fun E u => (E = eIA ∧ OKq_solution qa p1 p2 1 0 ∨ E = eIB ∧ OKq_solution qa p1 p2 2 0) ∧ KZ o N (nx_solution qa.1 p1 p2) u) := by
    unfold w_X11_solution
    refine qc_range (fun c1 c2 => ?_) (fun hno hz => ⟨Or.inl ⟨rfl, ?_⟩, hz.2⟩)
    rotate_left
    · have hc : sCd qa p1 p2 = 1 := if_neg (fun y => hno ⟨y.1, y.2⟩)
      exact ⟨hc.symm, fun y => absurd (hc.symm.trans y) n1⟩
    rw [show (0 : Int32).toInt = 0 by decide] at c1
    rw [show (7 : Int32).toInt = 7 by decide] at c2
    have bad : ∀ {b2 : CT}, ¬ (0 ≤ p1.toInt ∧ p1.toInt < (qa.sc : Int) ∧ p1.toInt < 100 ∧ qa.sk (ix p2) = true) → ((eIB = eIA ∧ OK_solution qa.1 p1 p2 1 0 ∨ eIB = eIB ∧ OK_solution qa.1 p1 p2 2 0) ∧ KZ o N (nx_solution qa.1 p1 p2) (cS b2 I F A E)) → ((eIB = eIA ∧ OKq_solution qa p1 p2 1 0 ∨ eIB = eIB ∧ OKq_solution qa p1 p2 2 0) ∧ KZ o N (nx_solution qa.1 p1 p2) (cS b2 I F A E)) := fun {b2} hno hz => by
      have hc : sCd qa p1 p2 = 2 := by unfold sCd; rw [if_pos ⟨c1, c2⟩, if_neg hno]
      exact ⟨Or.inr ⟨rfl, hc.symm, fun y => absurd (hc.symm.trans y) n2⟩, hz.2⟩
    have hk8 : p2.toInt = ((ix p2 : Nat) : Int) := (ix_int c1).symm
    refine qc_getF hb (by decide) (fun _ => ?_)
    rw [f2]
    refine qc_getF hb (by decide) (fun _ => ?_)
    rw [f3]
    dsimp only [wJoin]
    refine qv_if (fun z => qc_throw (bad (fun y => ?_))) (fun z => ?_)
    · rw [i32.1, show (0 : Int32).toInt = 0 by decide] at z
      have := y.1; omega
    rw [i32.1, show (0 : Int32).toInt = 0 by decide] at z
    refine qc_recv (fun _ => ?_)
    unfold w_X7_keptCount
    refine qc_getI (fun _ => ?_)
    have em : (if (100 : Int32) < I lt 2 then 100 else I lt 2).toInt = if 100 < (qa.sc : Int) then 100 else (qa.sc : Int) := by
      by_cases y : (100 : Int32) < I lt 2
      · rw [if_pos y]
        rw [i32.1, s1, show (100 : Int32).toInt = 100 by decide] at y
        rw [if_pos y]; decide
      · rw [if_neg y]
        rw [i32.1, s1, show (100 : Int32).toInt = 100 by decide] at y
        rw [if_neg y]; exact s1
    refine qv_if (fun z2 => qc_throw (bad (fun y => ?_))) (fun z2 => ?_)
    · rw [i32.2.1, em] at z2
      have y1 := y.2.1
      have y2 := y.2.2.1
      split at z2 <;> omega
    rw [i32.2.1, em] at z2
    have lt1 : p1.toInt < (qa.sc : Int) ∧ p1.toInt < 100 := by split at z2 <;> omega
    refine qc_getI (fun _ => ?_)
    refine qc_isIn hk8 ?_
    rw [s2 (ix p2) (by omega)]
    cases hkk : qa.sk (ix p2) with
    | false =>
      exact qv_if (fun _ => qc_throw (bad (fun y => by rw [hkk] at y; cases y.2.2.2))) (fun z => absurd rfl z)
    | true =>
      refine qv_if (fun z => absurd z (by decide)) (fun _ => ?_)
      have hi1 : p1.toInt = ((ix p1 : Nat) : Int) := (ix_int (by omega)).symm
      have ep : (p1 * 8 + p2).toInt = ((8 * ix p1 + ix p2 : Nat) : Int) := by rw [i_add (i_mul hi1 (show (8 : Int32).toInt = 8 by decide) (by omega)) hk8 (by omega)]; omega
      refine qc_getA hb (by decide) (fun _ => ?_)
      refine qc_ald hb i4 (by decide) (by decide) (fun _ => ?_)
      rw [ix_of ep, s3 (ix p1) (ix p2) (by omega) (by omega) (by omega) hkk]
      have hc : sCd qa p1 p2 = 0 := by unfold sCd; rw [if_pos ⟨c1, c2⟩, if_pos ⟨by omega, lt1.1, lt1.2, hkk⟩]
      exact fun hz => ⟨⟨hc.symm, fun _ => rfl⟩, hz.2⟩
  refine fk_X11_solution (K := K) (x0 := cS b I F A E) (fun r u hu hq => ?_) (fun e u hu hq => ?_) hv (fr_X11_solution (P := Vb (cS b I F A E)) (Vb_clo (by decide)) (fun r u hb hq => (⟨hq, hb⟩ : _ ∧ Vb (cS b I F A E) u)) (fun e u hb hq => (⟨hq, hb⟩ : _ ∧ Vb (cS b I F A E) u)) Vb_rf (step hkz))
  · exact ⟨hq.1.1, hq.1.2, hfr u _ qa.tp hu (fun t h1 h2 h3 h4 => ((hq.2 t h1).2.2 h2).trans h4) hrg (KZ_cS hq.1.2)⟩
  · exact ⟨hq.1.1, hq.1.2, hfr u _ qa.tp hu (fun t h1 h2 h3 h4 => ((hq.2 t h1).2.2 h2).trans h4) hrg (KZ_cS hq.1.2)⟩
end HF2
