set_option linter.unusedVariables false
set_option linter.unusedSimpArgs false
section C26
variable {b : CT} {g : Gh} {o s h N : Nat} {vv vv' : Nat → Int32} {x : HS} {I I' : Nat → Nat → Int32} {F F' : Nat → Nat → Option Nat} {A A' : Nat → Nat → Nat → Int32} {E : Nat → Nat → Nat → Option Nat} {W : Nat → Prop} {X : String → HS → Prop} {Q : HS → Prop} {QI : Int32 → HS → Prop} {QF : Option Nat → HS → Prop}
theorem c_freeCursor (hb : CB b) (s1 : Is b 11 o) (hQ : ∀ r : Int32, (r ≠ -1 → wIn r 10) → QI r (cS b I F A E)) : w_X11_freeCursor (some o) (cS b I F A E) QI X := by
  simp only [w_X11_freeCursor]
  refine wLoop_i (fun n v x => x = cS b I F A E ∧ 0 ≤ v.toInt ∧ n = (10 - v.toInt).toNat) 10 ⟨rfl, by decide, by decide⟩ ?_
  rintro n v x again ha ⟨rfl, p1, p2⟩
  refine ⟨fun _ => hQ _ (fun z => absurd rfl z), fun hv => ?_⟩
  have hv4 : v.toInt < 10 := by simp only [i32, Int32.reduceToInt] at hv; omega
  have ev : (v + 1).toInt = v.toInt + 1 := i_add rfl (by decide) (by omega)
  have hin : wIn v 10 := ⟨p1, by omega⟩
  simp only [cw hb, s1, hin, true_and]
  exact ⟨fun _ => hQ _ (fun _ => hin), fun _ => ha _ _ _ (by omega) ⟨rfl, by omega, rfl⟩⟩
theorem k_open (hk : KInv o (N + 1) vv x) {t m a : Int32} (hX : ∀ e x', (e = eIA ∨ e = eNE ∨ e = eIS) → KInv o N vv x' → X e x') (hQ : ∀ r x', KInv o N vv x' → QI r x') : w_X11_open (some o) t m a x QI X := by
  obtain ⟨b, g, s, h, I, F, A, E, rfl, hk, hz⟩ := hk
  obtain ⟨s1, s2, s3, s4, s5, s6, s7, s8, s9, -⟩ := id hk.2.2.1
  have hb := hk.1
  have hX' : ∀ e x', (e = eIA ∨ e = eNE) → KInv o N vv x' → X e x' := fun e x' he => hX e x' (he.imp id Or.inl)
  simp only [w_X11_open]
  rw [c_recv s1]
  refine c_rLook hk hz hX' ?_
  rw [c_recv s1]
  refine c_freeCursor hb s1 (fun r hr => ⟨fun _ => c_thr hk hz (fun x' => hX _ x' (Or.inr (Or.inr rfl))), fun hn => ?_⟩)
  have hin := hr hn
  obtain ⟨l, l1, l2⟩ := s9 (ix r) (ix_lt hin)
  simp only [cw hb, s1, hin, true_and, l1]
  refine c_bLook hk hz l2 hX' (fun I1 F1 A1 z1 z2 z3 a1 f1 => ?_)
  simp only [cw hb, s1, hin, true_and]
  refine ⟨Or.inr trivial, ?_⟩
  have hcu : CU b g o F1 (up3 A1 o 4 (ix r) 1) E := fun i hi ho => by
    by_cases hq : i = ix r
    · rw [hq]; exact ⟨l, l1, z3⟩
    · rw [up3_at, va_up_ne _ _ hq] at ho
      exact z1.2.2.2.2.2.1 i hi ho
  obtain ⟨w1, w2⟩ := KV_o (I' := I1) (A' := up3 A1 o 4 (ix r) 1) (vv' := vv) z1 Ol_rf (Ol_up3 Ol_rf) hcu (by rw [up3_ne (by omega)]; exact z1.2.2.2.2.2.2.2.2.1.1) z1.2.2.2.2.2.2.1
  exact hQ _ _ (CI_ok w1 (w2 z2))
theorem c_rOpen (hk : KV b g o s h vv I F A E (N + 1) NW) (hz : HZ h I) {k : Int32} (hX : ∀ e x', (e = eIA ∨ e = eNE) → KInv o N vv x' → X e x') (hQ : ∀ l, wIn k 10 → E o 3 (ix k) = some l → Rd b g F l → Q (cS b I F A E)) : w_X11_requireOpen (some o) k (cS b I F A E) Q X := by
  have s1 := hk.2.2.1.1
  simp only [w_X11_requireOpen]
  refine c_range hk hz (fun x' => hX _ x' (Or.inl rfl)) (fun h1 h2 => ?_)
  have h1' : 0 ≤ k.toInt := h1
  have h2' : k.toInt ≤ 9 := h2
  have hin : wIn k 10 := ⟨h1', by omega⟩
  simp only [cw hk.1, s1, hin, true_and]
  refine ⟨fun _ => c_thr hk hz (fun x' => hX _ x' (Or.inr rfl)), fun hn => ?_⟩
  obtain ⟨l, l1, l2⟩ := hk.2.2.2.2.2.1 (ix k) (ix_lt hin) hn
  exact hQ l hin l1 l2
theorem k_next (hk : KInv o (N + 1) vv x) {k : Int32} (hX : ∀ e x', (e = eIA ∨ e = eNE) → KInv o N vv x' → X e x') (hQ : ∀ r x', KInv o N vv x' → QI r x') : w_X11_next (some o) k x QI X := by
  obtain ⟨b, g, s, h, I, F, A, E, rfl, hk, hz⟩ := hk
  have s1 := hk.2.2.1.1
  have hb := hk.1
  simp only [w_X11_next]
  rw [c_recv s1]
  refine c_rOpen hk hz hX (fun l hin l1 l2 => ?_)
  have l3 := l2.1
  simp only [cw hb, s1, hin, true_and, l1, l3]
  refine k_adv hk hz l2 (fun r I2 F2 y1 y2 y3 y4 f2 => ?_)
  simp only [cw hb, s1, hin, true_and, l1, l3]
  refine c_take l3 ?_
  rw [c_putI s1]
  obtain ⟨w1, w2⟩ := KV_I (v := 0) y1 y2 l3 (j := 7) (by decide)
  obtain ⟨u1, u2⟩ := KV_11 (v := I2 l 7) w1 w2
  exact k_num u1 y4 (fun v => hQ _ _ (CI_ok u1 u2))
theorem k_close (hk : KInv o (N + 1) vv x) {k : Int32} (hX : ∀ e x', (e = eIA ∨ e = eNE) → KInv o N vv x' → X e x') (hQ : ∀ r x', KInv o N vv x' → QI r x') : w_X11_close (some o) k x QI X := by
  obtain ⟨b, g, s, h, I, F, A, E, rfl, hk, hz⟩ := hk
  have s1 := hk.2.2.1.1
  have hb := hk.1
  simp only [w_X11_close]
  rw [c_recv s1]
  refine c_rOpen hk hz hX (fun l hin l1 l2 => ?_)
  have l3 := l2.1
  simp only [cw hb, s1, hin, true_and, l1, l3]
  refine ⟨Or.inl trivial, ?_⟩
  have hcu : CU b g o F (up3 A o 4 (ix k) 0) E := fun i hi ho => by
    rw [up3_at] at ho
    by_cases hq : i = ix k
    · rw [hq, va_up_self] at ho; exact absurd rfl ho
    · rw [va_up_ne _ _ hq] at ho
      exact hk.2.2.2.2.2.1 i hi ho
  obtain ⟨w1, w2⟩ := KV_o (I' := I) (A' := up3 A o 4 (ix k) 0) (vv' := vv) hk Ol_rf (Ol_up3 Ol_rf) hcu (by rw [up3_ne (by omega)]; exact hk.2.2.2.2.2.2.2.2.1.1) hk.2.2.2.2.2.2.1
  exact hQ _ _ (CI_ok w1 (w2 hz))
theorem c_withNumber (hk : KV b g o s h vv I F A E N NW) {n : Int32} (hQ : ∀ r, (∀ f, r = some f → Is b 1 f ∧ ∃ t, F f 2 = some t ∧ Is b 10 t) → QF r (cS b I F A E)) : w_X9_withNumber (some s) n (cS b I F A E) QF X := by
  obtain ⟨s1, s2, s3, -⟩ := id hk.2.2.1
  have hb := hk.1
  obtain ⟨-, ⟨k1, k2⟩, k3, k4, k5, k6⟩ := id hk.2.1.2.2.2.2.1
  simp only [w_X9_withNumber]
  refine wLoop_i (fun n v x => x = cS b I F A E ∧ 0 ≤ v.toInt ∧ n = (3000 - v.toInt).toNat) 3000 ⟨rfl, by decide, by decide⟩ ?_
  rintro n v x again ha ⟨rfl, p1, p2⟩
  rw [c_getI s3]
  refine ⟨fun _ => hQ none (by simp), fun hv => ?_⟩
  have hv4 : v.toInt < (I s 4).toInt := by simp only [i32] at hv; omega
  have ev : (v + 1).toInt = v.toInt + 1 := i_add rfl (by decide) (by omega)
  have hin : wIn v 3000 := ⟨p1, by omega⟩
  have hvi : ((ix v : Nat) : Int) = v.toInt := ix_int p1
  obtain ⟨f, hf⟩ := Option.ne_none_iff_exists'.mp (k3 (ix v) (by omega))
  have hf1 := k4 _ f hf
  simp only [cw hb, s3, hin, true_and, hf, hf1]
  exact ⟨fun _ => hQ _ (fun f' hf' => by cases hf'; exact ⟨hf1, hk.2.2.2.1 (ix v) f (by omega) hf⟩), fun _ => ha _ _ _ (by omega) ⟨rfl, by omega, rfl⟩⟩
theorem k_fact (hk : KInv o (N + 1) vv x) {n w : Int32} (hX : ∀ e x', (e = eIA ∨ e = eNE) → KInv o N vv x' → X e x') (hQ : ∀ r x', KInv o N vv x' → QI r x') : w_X11_fact (some o) n w x QI X := by
  obtain ⟨b, g, s, h, I, F, A, E, rfl, hk, hz⟩ := hk
  obtain ⟨s1, s2, s3, -⟩ := id hk.2.2.1
  have hb := hk.1
  simp only [w_X11_fact]
  refine c_range hk hz (fun x' => hX _ x' (Or.inl rfl)) (fun h1 h2 => ?_)
  simp only [cw hb, s1, s2, s3]
  refine c_withNumber hk (fun r hr => ⟨fun _ => c_thr hk hz (fun x' => hX _ x' (Or.inr rfl)), fun hn => ?_⟩)
  obtain ⟨f, rfl⟩ := Option.ne_none_iff_exists'.mp hn
  obtain ⟨f1, t, f2, f3⟩ := hr f rfl
  obtain ⟨rr, r1, r2, r3, r4, r5⟩ := row_of hk.2.1.1 f3
  have ok := CI_ok hk hz
  simp only [cw hb, f1, f2, f3, r1, r2]
  refine ⟨fun _ => hQ _ _ ok, fun h4 => ⟨fun _ => hQ _ _ ok, fun h5 => ⟨fun _ => hQ _ _ ok, fun h6 => ⟨fun _ => c_factsAhead hb hk.2.1.1 r2 (fun r => hQ _ _ ok), fun h7 => ⟨?_, hQ _ _ ok⟩⟩⟩⟩⟩
  have h1' : 0 ≤ w.toInt := h1
  have h2' : w.toInt ≤ 7 := h2
  have n4 : w.toInt ≠ 4 := fun z => h4 (i_ext (by rw [z]; decide))
  have n5 : w.toInt ≠ 5 := fun z => h5 (i_ext (by rw [z]; decide))
  have n6 : w.toInt ≠ 6 := fun z => h6 (i_ext (by rw [z]; decide))
  have n7 : w.toInt ≠ 7 := fun z => h7 (i_ext (by rw [z]; decide))
  exact ⟨h1', by omega⟩
theorem k_mark (hk : KInv o (N + 1) vv x) (hX : ∀ e x', e = eIS → KInv o N vv x' → X e x') (hQ : ∀ r x', KInv o N vv x' → QI r x') : w_X11_mark (some o) x QI X := by
  obtain ⟨b, g, s, h, I, F, A, E, rfl, hk, hz⟩ := hk
  obtain ⟨s1, s2, s3, s4, s5, -⟩ := id hk.2.2.1
  have hb := hk.1
  obtain ⟨a1, a2, a3, a4⟩ := id hk.2.2.2.2.1
  simp only [w_X11_mark, w_X3_makeMark, cw hb, s1, s2, s3, s4, s5, wBit0, wBit1]
  refine ⟨fun hlt => ?_, fun _ => ⟨fun _ => c_thr hk hz (fun x' => hX _ x' rfl), fun z => absurd trivial z⟩⟩
  have hlt' : (I h 4).toInt < 8 := by simp only [i32, Int32.reduceToInt] at hlt; omega
  have e4 : (I h 4 + 1).toInt = (I h 4).toInt + 1 := i_add rfl (by decide) (by omega)
  have hKi : ((ix (I h 4) : Nat) : Int) = (I h 4).toInt := ix_int a2.1
  refine ⟨⟨a2.1, by omega⟩, fun z => absurd z (by decide), fun _ => ?_⟩
  have hk2 : KV b g o s h vv (up2 I h 4 (I h 4 + 1)) F (up3 A h 2 (ix (I h 4)) (I h 3)) E (N + 1) NW := by
    refine KV_h hk (Ol_up2 Ol_rf) (Ol_up3 Ol_rf) Ol_rf ?_
    unfold HI
    rw [up2_self, up2_k _ _ _ _ (by decide), up3_at, up3_ne (by omega)]
    refine ⟨a1, ⟨by omega, by omega⟩, a3, fun i hi => ?_⟩
    by_cases hq : i = ix (I h 4)
    · rw [hq, va_up_self]; exact a1.1
    · rw [va_up_ne _ _ hq]; exact a4 i (by omega)
  refine hQ _ _ (CI_ok hk2 (fun z => ?_))
  rw [up2_self] at z; omega
theorem k_back (hk : KInv o (N + 1) vv x) {tk : Int32} (hX : ∀ e x', e = eIS → KInv o N vv x' → X e x') (hQ : ∀ r x', KInv o N vv x' → QI r x') : w_X11_back (some o) tk x QI X := by
  obtain ⟨b, g, s, h, I, F, A, E, rfl, hk, hz⟩ := hk
  obtain ⟨s1, s2, s3, s4, s5, -⟩ := id hk.2.2.1
  have hb := hk.1
  obtain ⟨a1, a2, a3, a4⟩ := id hk.2.2.2.2.1
  simp only [w_X11_back, cw hb, s1, s2, s3, s4, s5]
  refine ⟨fun _ => c_thr hk hz (fun x' => hX _ x' rfl), fun h0 => ?_⟩
  have h40 : (I h 4).toInt ≠ 0 := fun z => h0 (i_ext (by rw [z]; decide))
  have e4 : (I h 4 - 1).toInt = (I h 4).toInt - 1 := i_sub rfl (by decide) (by omega)
  refine wJoin_i (fun K => K (cS b I F A E)) ?_ (fun K hK => ⟨fun _ => hK, fun _ => ?_⟩)
  · simp only [w_X3_dropMark, cw hb, s1, s2, s3, s4, s5]
    refine ⟨fun z => absurd z h0, fun _ => ?_⟩
    rw [up2_self]
    have hin : wIn (I h 4 - 1) 8 := ⟨by omega, by omega⟩
    refine ⟨hin, ?_⟩
    have hk2 : KV b g o s h vv (up2 I h 4 (I h 4 - 1)) F A E (N + 1) NW := by
      refine KV_h hk (Ol_up2 Ol_rf) Ol_rf Ol_rf ?_
      unfold HI
      rw [up2_self, up2_k _ _ _ _ (by decide)]
      exact ⟨a1, ⟨by omega, by omega⟩, a3, fun i hi => a4 i (by omega)⟩
    refine wJoin_i (fun K => ∀ v b' g' I' F' A' E', KV b' g' o s h vv I' F' A' E' (N + 1) NW → K v (cS b' I' F' A' E')) (fun v b' g' I' F' A' E' z => ?_) (fun K hK => ⟨fun _ => hK _ _ _ _ _ _ _ hk2, fun _ => ?_⟩)
    · obtain ⟨t1, t2, t3, t4, t5, -⟩ := id z.2.2.1
      obtain ⟨c1, c2, c3, c4⟩ := id z.2.2.2.2.1
      simp only [w_X3_forgetWithoutMarks, cw z.1, t1, t2, t3, t4, t5, wJoin, wIf]
      refine ⟨fun hm => ?_, fun hm => ?_⟩
      · have hk3 : KV b' g' o s h vv (up2 I' h 3 0) F' A' E' (N + 1) NW := by
          refine KV_h z (Ol_up2 Ol_rf) Ol_rf Ol_rf ?_
          unfold HI
          rw [up2_self, up2_k _ _ _ _ (by decide)]
          exact ⟨⟨by decide, by decide⟩, c2, fun i hi => absurd hi (by show ¬ ((i : Int) < 0); omega), c4⟩
        refine hQ _ _ (CI_ok hk3 (fun _ => ?_))
        rw [up2_self]; decide
      · refine hQ _ _ (CI_ok z (fun z2 => absurd (i_ext (by rw [z2]; decide)) hm))
    · skip
      exact c_turn hk2 (fun r b' g' I' F' A' E' z1 _ => hK _ _ _ _ _ _ _ z1)
  · exact c_hasRoom hk (fun r _ => ⟨fun _ => c_thr hk hz (fun x' => hX _ x' rfl), fun _ => hK⟩)
theorem c_openCursors (hb : CB b) (s1 : Is b 11 o) (hQ : ∀ r : Int32, (r.toInt ≤ 0 → ∀ i, i < 10 → A o 4 i = 0) → QI r (cS b I F A E)) : w_X11_openCursors (some o) (cS b I F A E) QI X := by
  simp only [w_X11_openCursors]
  refine wLoop_i (fun n v x => x = cS b I F A E ∧ 0 ≤ v.2.toInt ∧ v.2.toInt ≤ 10 ∧ 0 ≤ v.1.toInt ∧ v.1.toInt ≤ v.2.toInt ∧ (v.1.toInt ≤ 0 → ∀ i, i < ix v.2 → A o 4 i = 0) ∧ n = (10 - v.2.toInt).toNat) 10 ⟨rfl, by decide, by decide, by decide, by decide, fun _ i hi => absurd hi (by show ¬ i < 0; omega), by decide⟩ ?_
  rintro n ⟨w, v⟩ x again ha ⟨rfl, p1, p2, p3, p4, p5, p6⟩
  dsimp only at p1 p2 p3 p4 p5 p6 ⊢
  have hvi : ((ix v : Nat) : Int) = v.toInt := ix_int p1
  refine ⟨fun hv => hQ _ (fun z i hi => p5 z i ?_), fun hv => ?_⟩
  · simp only [i32, Int32.reduceToInt] at hv; omega
  have hv4 : v.toInt < 10 := by simp only [i32, Int32.reduceToInt] at hv; omega
  have ev : (v + 1).toInt = v.toInt + 1 := i_add rfl (by decide) (by omega)
  have ew : (w + 1).toInt = w.toInt + 1 := i_add rfl (by decide) (by omega)
  have eix : ix (v + 1) = ix v + 1 := ix_of (by omega)
  have hin : wIn v 10 := ⟨p1, by omega⟩
  simp only [cw hb, s1, hin, true_and, wJoin, wIf]
  generalize v + 1 = v1 at ev eix ⊢
  generalize w + 1 = w1 at ew ⊢
  refine ⟨fun h0 => ha (10 - v1.toInt).toNat _ _ (by omega) ⟨rfl, ?_, ?_, p3, ?_, fun z i hi => ?_, rfl⟩, fun _ => ha (10 - v1.toInt).toNat _ _ (by omega) ⟨rfl, ?_, ?_, ?_, ?_, fun z => ?_, rfl⟩⟩
  · show 0 ≤ v1.toInt; omega
  · show v1.toInt ≤ 10; omega
  · show w.toInt ≤ v1.toInt; omega
  · have hi : i < ix v1 := hi
    by_cases hq : i = ix v
    · rw [hq]; exact h0
    · exact p5 z i (by omega)
  · show 0 ≤ v1.toInt; omega
  · show v1.toInt ≤ 10; omega
  · show 0 ≤ w1.toInt; omega
  · show w1.toInt ≤ v1.toInt; omega
  · have z : w1.toInt ≤ 0 := z
    omega
theorem k_purge (hk : KInv o (N + 1) vv x) {a : Int32} (hX : ∀ e x', (e = eIA ∨ e = eIS) → KInv o N vv x' → X e x') (hQ : ∀ r x', KInv o N vv x' → QI r x') : w_X11_purge (some o) a x QI X := by
  obtain ⟨b, g, s, h, I, F, A, E, rfl, hk, hz⟩ := hk
  obtain ⟨s1, s2, s3, s4, s5, -⟩ := id hk.2.2.1
  have hb := hk.1
  simp only [w_X11_purge]
  rw [c_recv s1]
  refine c_rTime hk hz (fun x' => hX _ x' (Or.inl rfl)) ?_
  rw [c_recv s1]
  refine c_openCursors hb s1 (fun r hr => ?_)
  refine wJoin_i (fun K => K (cS b I F A E)) (c_thr hk hz (fun x' => hX _ x' (Or.inr rfl))) (fun K hK => ⟨fun _ => hK, fun h0 => ?_⟩)
  simp only [cw hb, s1, s2, s3, s4, s5]
  refine ⟨fun hm => ?_, fun _ => hK⟩
  refine c_timeOf hk (fun r2 => ?_)
  rw [c_recv s3]
  have hm0 : (I h 4).toInt = 0 := by
    have := hk.2.2.2.2.1.2.1
    simp only [i32, Int32.reduceToInt] at hm; omega
  have hr0 : r.toInt ≤ 0 := by simp only [i32, Int32.reduceToInt] at h0; omega
  refine c_forget hk (hz hm0) (hr hr0) (fun r3 g' I' F' E' z1 z2 z3 => hQ _ _ (CI_ok z1 ?_))
  unfold HZ; rw [z2]; exact hz
end C26
