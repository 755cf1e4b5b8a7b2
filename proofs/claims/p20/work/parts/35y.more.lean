set_option linter.unusedVariables false
set_option linter.unusedSimpArgs false
section C25
variable {b : CT} {g : Gh} {o s h N : Nat} {vv vv' : Nat → Int32} {x : HS} {I I' : Nat → Nat → Int32} {F F' : Nat → Nat → Option Nat} {A A' : Nat → Nat → Nat → Int32} {E : Nat → Nat → Nat → Option Nat} {W : Nat → Prop} {X : String → HS → Prop} {Q : HS → Prop} {QI : Int32 → HS → Prop} {QF : Option Nat → HS → Prop}
theorem k_index (hk : KInv o (N + 1) vv x) {t k : Int32} (hX : ∀ e x', (e = eIA ∨ e = eNE) → KInv o N vv x' → X e x') (hQ : ∀ r x', KInv o N vv x' → QI r x') : w_X11_index (some o) t k x QI X := by
  obtain ⟨b, g, s, h, I, F, A, E, rfl, hk, hz⟩ := hk
  obtain ⟨s1, s2, s3, s4, s5, -⟩ := id hk.2.2.1
  have hb := hk.1
  simp only [w_X11_index, cw hb, s1]
  refine c_tableOf hk hz (fun x' => hX _ x' (Or.inr rfl)) (fun ta hta => ?_)
  rw [c_getI hta]
  refine c_range hk hz (fun x' => hX _ x' (Or.inl rfl)) (fun h1 h2 => ?_)
  rw [c_recv hta]
  refine c_makeIndex hk hta (fun _ => ?_) (fun r b' g' I' F' A' E' hr z1 z2 => ?_)
  · simp only [wJoin, wIf]
    exact ⟨fun _ => hQ _ _ (CI_ok hk hz), fun _ => hQ _ _ (CI_ok hk hz)⟩
  · have : KInv o N vv (cS b' I' F' A' E') := ⟨b', g', s, h, I', F', A', E', rfl, z1, by unfold HZ; rw [z2]; exact hz⟩
    simp only [wJoin, wIf]
    exact ⟨fun _ => hQ _ _ this, fun _ => hQ _ _ this⟩
/-- one more key -/
theorem KV_key (hk : KV b g o s h vv I F A E N NW) {t : Nat} {v : Int32} {i : Nat} {m : Int32} (ht : Is b 10 t) (hv : 0 ≤ v.toInt ∧ v.toInt ≤ 3) : KV b g o s h vv (up2 I t 5 v) F (up3 A t 4 i m) E N NW := by
  obtain ⟨hb, hCo, hSK, hTY, hHI, hCU, hKN, hBU, hvv⟩ := hk
  obtain ⟨s1, s2, s3, s4, s5, -⟩ := id hSK
  obtain ⟨hL, hVC, hP, hC, hKP, hTS⟩ := id hCo
  have i1 : ∀ c a j, Is b c a → ¬ (c = 10 ∧ j = 5) → up2 I t 5 v a j = I a j := fun c a j ha hj => by
    unfold up2
    rw [if_neg (fun z => hj ⟨by rw [← ha.2, z.1, ht.2], z.2⟩)]
  have a1 : ∀ c a, Is b c a → c ≠ 10 → up3 A t 4 i m a = A a := fun c a ha hc => funext fun j => up3_ne (fun z => Is_ne ha ht hc z.1)
  obtain ⟨l1, l2, l3, l4⟩ := id hL
  have hfd : ∀ n r w, Rf b 0 r → Fdn I F n r w → Fdn (up2 I t 5 v) F n r w := fun n r w hr h => Fd_mono hL (fun c hc => ⟨i1 0 c 1 hc (by omega), rfl⟩) hr h
  refine ⟨hb, ⟨⟨fun c hc => ?_, fun y hy => ?_, fun t' ht' => ?_, l4⟩, hVC, hP, ⟨fun k f t' x hk hv' ht' hx => ?_, hC.2⟩, ?_, ?_⟩, hSK, ?_, ?_, ?_, ?_, hBU, ⟨?_, ?_⟩, fun x hx => ?_, ?_⟩
  · obtain ⟨p1, p2, p3, p4, p5⟩ := l1 c hc
    unfold XCh
    rw [i1 0 c 0 hc (by omega)]
    refine ⟨p1, p2, fun d hd => ?_, p4, p5⟩
    obtain ⟨z1, z2, z3, z4⟩ := p3 d hd
    exact ⟨z1, z2, z3, by rw [i1 0 d 0 z1 (by omega)]; exact z4⟩
  · obtain ⟨p1, p2, p3⟩ := l2 y hy
    unfold XIx
    rw [i1 4 y 0 hy (by omega)]
    refine ⟨p1, p2, fun i c hc => ?_⟩
    obtain ⟨z1, z2, z3⟩ := p3 i c hc
    exact ⟨z1, z2, by rw [i1 0 c 0 z1 (by omega)]; exact z3⟩
  · obtain ⟨p1, p2, ⟨r', p3, p4, p5, p6⟩, p7⟩ := l3 t' ht'
    unfold XTb
    rw [i1 10 t' 1 ht' (by omega)]
    refine ⟨p1, ?_, ⟨r', p3, p4, p5, by rw [i1 0 r' 0 p4 (by omega)]; exact p6⟩, fun k y hy => ?_⟩
    · by_cases hq : t' = t
      · rw [hq, up2_self]; exact hv
      · rw [up2_a _ _ _ _ hq]; exact p2
    · obtain ⟨z1, z2, z3, z4⟩ := p7 k y hy
      exact ⟨z1, z2, by rw [i1 4 y 0 z1 (by omega)]; exact z3, z4⟩
  · obtain ⟨n, hn⟩ := hC.1 k f t' x hk hv' ht' hx
    have htt := tab_of hL hv' ht'
    obtain ⟨x1, -⟩ := (l3 t' htt).2.2.2 k x hx
    rw [a1 1 f (l4 _ _ hv').1 (by decide)]
    exact ⟨n, hfd n _ _ (fun c hc => ((l2 x x1).2.2 _ c hc).1) hn⟩
  · unfold KP
    rw [i1 9 s 4 s3 (by omega)]; exact hKP
  · unfold TS
    rw [i1 9 s 3 s3 (by omega)]; exact hTS
  · unfold TY
    rw [i1 9 s 4 s3 (by omega)]; exact hTY
  · unfold HI
    rw [i1 3 h 3 s5 (by omega), i1 3 h 4 s5 (by omega), a1 3 h s5 (by decide)]; exact hHI
  · unfold CU
    rw [a1 11 o s1 (by decide)]; exact hCU
  · unfold KN
    rw [i1 11 o 9 s1 (by omega), i1 11 o 10 s1 (by omega)]; exact hKN
  · rw [a1 11 o s1 (by decide)]; exact hvv.1.1
  · exact GO_fr hvv.1.2 (fun _ h => h) (fun q hq => i1 2 q 5 hq (by omega)) (fun q hq => by rw [a1 2 q hq (by decide)]; exact ⟨rfl, rfl⟩)
  · rw [i1 4 x 0 hx (by omega)]; exact hvv.2.1 x hx
  · rw [i1 9 s 3 s3 (by omega)]; exact hvv.2.2
theorem k_key (hk : KInv o (N + 1) vv x) {t m : Int32} (hX : ∀ e x', (e = eIA ∨ e = eNE ∨ e = eIS ∨ e = eIB) → KInv o N vv x' → X e x') (hQ : ∀ r x', KInv o N vv x' → QI r x') : w_X11_key (some o) t m x QI X := by
  obtain ⟨b, g, s, h, I, F, A, E, rfl, hk, hz⟩ := hk
  obtain ⟨s1, s2, s3, s4, s5, -⟩ := id hk.2.2.1
  have hb := hk.1
  simp only [w_X11_key, cw hb, s1]
  refine c_tableOf hk hz (fun x' => hX _ x' (Or.inr (Or.inl rfl))) (fun ta hta => ?_)
  rw [c_recv hta, c_allColumns hta]
  refine c_range hk hz (fun x' => hX _ x' (Or.inl rfl)) (fun h1 h2 => ?_)
  rw [c_recv hta]
  refine c_hasTwins hb hk.2.1.1 hta (fun r _ => ⟨fun _ => ?_, fun _ => c_thr hk hz (fun x' => hX _ x' (Or.inr (Or.inr (Or.inl rfl))))⟩)
  rw [c_recv hta]
  refine c_hasKey hb hk.2.1.1 hta (fun r _ => ⟨fun _ => ?_, fun _ => hQ _ _ (CI_ok hk hz)⟩)
  simp only [w_X10_makeKey, cw hb, hta, wBit0, wBit1]
  obtain ⟨-, hkc, -⟩ := hk.2.1.1.2.2.1 ta hta
  refine ⟨fun hlt => ?_, fun _ => ⟨fun _ => c_thr hk hz (fun x' => hX _ x' (Or.inr (Or.inr (Or.inr rfl)))), fun z => absurd trivial z⟩⟩
  have hlt' : (I ta 5).toInt < 3 := by simp only [i32, Int32.reduceToInt] at hlt; omega
  have e5 : (I ta 5 + 1).toInt = (I ta 5).toInt + 1 := i_add rfl (by decide) (by omega)
  refine ⟨⟨hkc.1, by omega⟩, fun z => absurd z (by decide), fun _ => ?_⟩
  have z1 := KV_key (i := ix (I ta 5)) (m := m) hk hta (v := I ta 5 + 1) ⟨by omega, by omega⟩
  refine hQ _ _ (CI_ok z1 ?_)
  unfold HZ
  rw [up2_a _ _ _ _ (Is_ne s5 hta (by decide)), up2_a _ _ _ _ (Is_ne s5 hta (by decide))]; exact hz
theorem k_add (hk : KInv o (N + 1) vv x) {t a : Int32} (hX : ∀ e x', (e = eIA ∨ e = eNE ∨ e = eUO ∨ e = eIS) → KInv o N vv x' → X e x') (hQ : ∀ r x', KInv o N vv x' → QI r x') : w_X11_add (some o) t a x QI X := by
  obtain ⟨b, g, s, h, I, F, A, E, rfl, hk, hz⟩ := hk
  obtain ⟨s1, s2, s3, s4, s5, -⟩ := id hk.2.2.1
  have hb := hk.1
  simp only [w_X11_add]
  refine c_range hk hz (fun x' => hX _ x' (Or.inl rfl)) (fun h1 h2 => ?_)
  rw [c_recv s1]
  refine c_tableOf hk hz (fun x' => hX _ x' (Or.inr (Or.inl rfl))) (fun ta hta => ?_)
  simp only [cw hb, s1, hta]
  refine c_breaksKey hb hk.2.1.1 ⟨11, o, 1, rfl, s1, by decide, by decide⟩ hta (fun r _ => ⟨fun _ => ?_, fun _ => c_thr hk hz (fun x' => hX _ x' (Or.inr (Or.inr (Or.inl rfl))))⟩)
  simp only [cw hb, s1, s2, s3]
  refine c_come hk hta s1 (by decide) (by decide) (Or.inl (by decide)) ⟨fun _ => c_thr hk hz (fun x' => hX _ x' (Or.inr (Or.inr (Or.inr rfl)))), fun z => absurd rfl z⟩ (fun f b' I' F' A' E' y1 y2 y3 y4 y5 y6 y7 y8 y9 y10 y11 y12 => ⟨fun z => absurd z (by simp), fun _ => ?_⟩)
  have hta' := y2.1 _ _ hta
  obtain ⟨c1, c2, c3, c4, c5, c6⟩ := id y1.2.1
  have hB := y1.2.2.2.2.2.2.2.1
  have hu := hB
  unfold BU at hu
  have key : ∀ w : Int32, wRecv (cS b' I' F' A' E') 10 (some ta) (w_X10_place (some ta) (some f) w (cS b' I' F' A' E') (fun x15 => wGetI x15 1 4 (some f) fun v17 => QI v17 x15) X) := fun w => by
    rw [c_recv hta']
    refine c_place (p := False) y1.1 c1 c3 c4 c2 y4 hta' y3 y5 (fun z => absurd z (fun z => z)) (Or.inr ⟨by omega, by omega⟩) (fun b2 g2 I2 F2 E2 z1 z2 z3 z4 z5 z6 z7 z8 z9 z10 => ?_)
    rw [c_getI (z2.1.1 _ _ y3)]
    have s3' := y2.1 _ _ s3
    have hB2 : BU b2 s E2 N := BU_Fr s3' c6 z2 hB (by omega) (by omega)
    have hk2 := KV_place y1 (fun a z => z) y7 z1 z2 z3 z4 z5 z6 z7 hB2
    refine hQ _ _ ⟨b2, g2, s, h, I2, F2, A', E2, rfl, hk2, ?_⟩
    have eh : I2 h = I' h := z2.2.2.2.1 h (y2.1 _ _ s5).1
    have := HZ_le hz y11 y12
    unfold HZ at this ⊢
    rw [eh]; exact this
  simp only [wJoin, wIf]
  exact ⟨fun _ => key 1, fun _ => key 0⟩
theorem k_go (hk : KV b g o s h vv I F A E N NW) (hz : HZ h I) {f : Nat} (hf : g.V 4 f) (hQ : ∀ I' A' E', KV b g o s h vv I' F A' E' N NW → HZ h I' → Q (cS b I' F A' E')) : w_X9_go (some s) (some f) (cS b I F A E) Q X :=
  c_go hk hf (fun I' A' E' z1 z2 z3 => hQ I' A' E' z1 (HZ_le hz z2 z3))
theorem k_find (hk : KInv o (N + 1) vv x) {t m a : Int32} (hX : ∀ e x', (e = eIA ∨ e = eNE) → KInv o N vv x' → X e x') (hQ : ∀ r x', KInv o N vv x' → QI r x') : w_X11_find (some o) t m a x QI X := by
  obtain ⟨b, g, s, h, I, F, A, E, rfl, hk, hz⟩ := hk
  obtain ⟨s1, s2, s3, s4, s5, ⟨l, s6, s7⟩, -⟩ := id hk.2.2.1
  have hb := hk.1
  simp only [w_X11_find, cw hb, s1, s6]
  refine c_bLook hk hz s7 hX (fun I1 F1 A1 z1 z2 z3 _ f1 => ?_)
  have e1 : F1 o 6 = some l := by rw [f1]; exact s6
  simp only [cw hb, s1, e1, s7]
  refine k_adv z1 z2 z3 (fun r I2 F2 y1 y2 y3 y4 f2 => ?_)
  have e2 : F2 o 6 = some l := by rw [f2]; exact e1
  simp only [cw hb, s1, e2, s7]
  refine c_take s7 ?_
  rw [c_putI s1]
  obtain ⟨w1, w2⟩ := KV_I (v := 0) y1 y2 s7 (j := 7) (by decide)
  obtain ⟨u1, u2⟩ := KV_11 (v := I2 l 7) w1 w2
  exact k_num u1 y4 (fun v => hQ _ _ (CI_ok u1 u2))
theorem k_many (hk : KInv o (N + 1) vv x) {t m a : Int32} (hX : ∀ e x', (e = eIA ∨ e = eNE) → KInv o N vv x' → X e x') (hQ : ∀ r x', KInv o N vv x' → QI r x') : w_X11_many (some o) t m a x QI X := by
  obtain ⟨b, g, s, h, I, F, A, E, rfl, hk, hz⟩ := hk
  obtain ⟨s1, s2, s3, s4, s5, ⟨l, s6, s7⟩, -⟩ := id hk.2.2.1
  have hb := hk.1
  simp only [w_X11_many, cw hb, s1, s6]
  refine c_bLook hk hz s7 hX (fun I1 F1 A1 z1 z2 z3 _ f1 => ?_)
  refine wLoop_i (fun n v x => ∃ I2 F2, x = cS b I2 F2 A1 E ∧ KV b g o s h vv I2 F2 A1 E (N + 1) NW ∧ HZ h I2 ∧ Rd b g F2 l ∧ F2 o = F o ∧ 0 ≤ v.toInt ∧ v.toInt ≤ 3000 ∧ n = (3000 - v.toInt).toNat) 3000 ⟨I1, F1, rfl, z1, z2, z3, f1, by decide, by decide, by decide⟩ ?_
  rintro n v x again ha ⟨I2, F2, rfl, p1, p2, p3, p4, p5, p6, p7⟩
  refine wJoin_i (fun K => ∀ I3 F3, KV b g o s h vv I3 F3 A1 E (N + 1) NW → HZ h I3 → F3 o = F o → K (cS b I3 F3 A1 E)) (fun I3 F3 q1 q2 q3 => ?_) (fun K hK => ⟨fun _ => hK _ _ p1 p2 p4, fun hv => ?_⟩)
  · have e3 : F3 o 6 = some l := by rw [q3]; exact s6
    simp only [cw hb, s1, e3, s7]
    refine c_take s7 ?_
    rw [c_putI s1]
    obtain ⟨w1, w2⟩ := KV_I (v := 0) q1 q2 s7 (j := 7) (by decide)
    obtain ⟨u1, u2⟩ := KV_11 (v := I3 l 7) w1 w2
    exact hQ _ _ (CI_ok u1 u2)
  · have hv1 : v.toInt < 3000 := by simp only [i32, Int32.reduceToInt] at hv; omega
    have ev : (v + 1).toInt = v.toInt + 1 := i_add rfl (by decide) (by omega)
    have e2 : F2 o 6 = some l := by rw [p4]; exact s6
    simp only [cw hb, s1, e2, s7]
    refine k_adv p1 p2 p3 (fun r I3 F3 y1 y2 y3 y4 f2 => ⟨fun _ => hK _ _ y1 y2 (by rw [f2]; exact p4), fun _ => ?_⟩)
    exact ha _ _ _ (by omega) ⟨I3, F3, rfl, y1, y2, y3, by rw [f2]; exact p4, by omega, by omega, rfl⟩
theorem k_remove (hk : KInv o (N + 1) vv x) {t m a : Int32} (hX : ∀ e x', (e = eIA ∨ e = eNE) → KInv o N vv x' → X e x') (hQ : ∀ r x', KInv o N vv x' → QI r x') : w_X11_remove (some o) t m a x QI X := by
  obtain ⟨b, g, s, h, I, F, A, E, rfl, hk, hz⟩ := hk
  obtain ⟨s1, s2, s3, s4, s5, ⟨l, s6, s7⟩, -⟩ := id hk.2.2.1
  have hb := hk.1
  simp only [w_X11_remove]
  refine c_range hk hz (fun x' => hX _ x' (Or.inl rfl)) (fun _ _ => ?_)
  simp only [cw hb, s1, s6]
  refine c_bLook hk hz s7 hX (fun I1 F1 A1 z1 z2 z3 _ f1 => ?_)
  have go1 : ∀ {I F A E} , KV b g o s h vv I F A E (N + 1) NW → F o 2 = some s := fun h => h.2.2.1.2.1
  refine wJoin_i (fun K => ∀ v I3 F3 A3 E3, KV b g o s h vv I3 F3 A3 E3 (N + 1) NW → HZ h I3 → F3 o = F o → K v (cS b I3 F3 A3 E3)) (fun v I3 F3 A3 E3 q1 q2 q3 => ?_) (fun K hK => ⟨fun _ => ?_, fun _ => ?_⟩)
  · have e3 : F3 o 6 = some l := by rw [q3]; exact s6
    simp only [cw hb, s1, e3, s7]
    refine c_take s7 ?_
    rw [c_putI s1]
    obtain ⟨w1, w2⟩ := KV_I (v := 0) q1 q2 s7 (j := 7) (by decide)
    obtain ⟨u1, u2⟩ := KV_11 (v := I3 l 7) w1 w2
    exact hQ _ _ (CI_ok u1 u2)
  · have e1 : F1 o 6 = some l := by rw [f1]; exact s6
    simp only [w_X11_removeFirst, cw hb, s1, e1, s7]
    refine k_adv z1 z2 z3 (fun r I2 F2 y1 y2 y3 y4 f2 => ?_)
    refine wJoin_i (fun K => ∀ I3 A3 E3, KV b g o s h vv I3 F2 A3 E3 (N + 1) NW → HZ h I3 → K (cS b I3 F2 A3 E3)) (fun I3 A3 E3 q1 q2 => k_num q1 y4 (fun v => hK _ _ _ _ _ q1 q2 (by rw [f2]; exact f1))) (fun K2 hK2 => ⟨fun _ => hK2 _ _ _ y1 y2, fun hn => ?_⟩)
    obtain ⟨f, rfl⟩ := Option.ne_none_iff_exists'.mp hn
    simp only [cw hb, s1, go1 y1, s3]
    exact k_go y1 y2 (y4 f rfl) (fun I3 A3 E3 q1 q2 => hK2 _ _ _ q1 q2)
  · simp only [w_X11_removeAll]
    rw [c_recv s1]
    refine wLoop_i (fun n v x => ∃ I2 F2 A2 E2, x = cS b I2 F2 A2 E2 ∧ KV b g o s h vv I2 F2 A2 E2 (N + 1) NW ∧ HZ h I2 ∧ Rd b g F2 l ∧ F2 o = F o ∧ 0 ≤ v.toInt ∧ v.toInt ≤ 3000 ∧ n = (3000 - v.toInt).toNat) 3000 ⟨I1, F1, A1, E, rfl, z1, z2, z3, f1, by decide, by decide, by decide⟩ ?_
    rintro n v x again ha ⟨I2, F2, A2, E2, rfl, p1, p2, p3, p4, p5, p6, p7⟩
    refine wJoin_i (fun K => ∀ I3 F3 A3 E3, KV b g o s h vv I3 F3 A3 E3 (N + 1) NW → HZ h I3 → F3 o = F o → K (cS b I3 F3 A3 E3)) (fun I3 F3 A3 E3 q1 q2 q3 => hK _ _ _ _ _ q1 q2 q3) (fun K2 hK2 => ⟨fun _ => hK2 _ _ _ _ p1 p2 p4, fun hv => ?_⟩)
    have hv1 : v.toInt < 3000 := by simp only [i32, Int32.reduceToInt] at hv; omega
    have ev : (v + 1).toInt = v.toInt + 1 := i_add rfl (by decide) (by omega)
    have e2 : F2 o 6 = some l := by rw [p4]; exact s6
    simp only [cw hb, s1, e2, s7]
    refine k_adv p1 p2 p3 (fun r I3 F3 y1 y2 y3 y4 f2 => ⟨fun _ => hK2 _ _ _ _ y1 y2 (by rw [f2]; exact p4), fun hn => ?_⟩)
    obtain ⟨f, rfl⟩ := Option.ne_none_iff_exists'.mp hn
    simp only [cw hb, s1, go1 y1, s3]
    exact k_go y1 y2 (y4 f rfl) (fun I4 A4 E4 q1 q2 => ha _ _ _ (by omega) ⟨I4, F3, A4, E4, rfl, q1, q2, y3, by rw [f2]; exact p4, by omega, by omega, rfl⟩)
end C25
