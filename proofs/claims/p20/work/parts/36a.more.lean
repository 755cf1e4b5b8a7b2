set_option linter.unusedVariables false
set_option linter.unusedSimpArgs false
section C27
variable {b : CT} {g : Gh} {o s h N : Nat} {vv vv' : Nat → Int32} {x : HS} {I I' : Nat → Nat → Int32} {F F' : Nat → Nat → Option Nat} {A A' : Nat → Nat → Nat → Int32} {E : Nat → Nat → Nat → Option Nat} {W : Nat → Prop} {X : String → HS → Prop} {Q : HS → Prop} {QI : Int32 → HS → Prop} {QF : Option Nat → HS → Prop}
theorem c_putFound (hk : KV b g o s h vv I F A E N NW) (hz : HZ h I) {v : Int32} (hQ : ∀ I' A', KV b g o s h vv I' F A' E N NW → HZ h I' → Q (cS b I' F A' E)) : w_X11_putFound (some o) v (cS b I F A E) Q X := by
  have s1 := hk.2.2.1.1
  have hb := hk.1
  have k10 := hk.2.2.2.2.2.2.1.2
  simp only [w_X11_putFound, cw hb, s1, wJoin, wIf]
  refine ⟨fun _ => hQ _ _ hk hz, fun h1 => ?_⟩
  have h9 : (I o 10).toInt < 3000 := by simp only [i32, Int32.reduceToInt] at h1; omega
  have e9 : (I o 10 + 1).toInt = (I o 10).toInt + 1 := i_add rfl (by decide) (by omega)
  refine ⟨⟨k10.1, by omega⟩, ?_⟩
  obtain ⟨z1, z2⟩ := KV_o (I' := up2 I o 10 (I o 10 + 1)) (A' := up3 A o 5 (ix (I o 10)) v) (vv' := vv) hk (Ol_up2 Ol_rf) (Ol_up3 Ol_rf) (by unfold CU; rw [up3_ne (by omega)]; exact hk.2.2.2.2.2.1) (by rw [up3_ne (by omega)]; exact hk.2.2.2.2.2.2.2.2.1.1) (KN10 hk.2.2.2.2.2.2.1 ⟨by omega, by omega⟩)
  exact hQ _ _ z1 (z2 hz)
theorem k_changes (hk : KInv o (N + 1) vv x) {t a1 a2 : Int32} (hX : ∀ e x', (e = eIA ∨ e = eNE) → KInv o N vv x' → X e x') (hQ : ∀ r x', KInv o N vv x' → QI r x') : w_X11_changes (some o) t a1 a2 x QI X := by
  obtain ⟨b, g, s, h, I, F, A, E, rfl, hk, hz⟩ := hk
  obtain ⟨s1, s2, s3, -⟩ := id hk.2.2.1
  have hb := hk.1
  have hL := hk.2.1.1
  simp only [w_X11_changes]
  rw [c_recv s1]
  refine c_rTime hk hz (fun x' => hX _ x' (Or.inl rfl)) ?_
  rw [c_recv s1]
  refine c_rTime hk hz (fun x' => hX _ x' (Or.inl rfl)) ?_
  rw [c_recv s1]
  refine c_tableOf hk hz (fun x' => hX _ x' (Or.inr rfl)) (fun ta hta => ?_)
  simp only [cw hb, s1, s2, s3]
  refine c_timeOf hk (fun r1 => ?_)
  simp only [cw hb, s1, s2, s3]
  refine c_timeOf hk (fun r2 => ?_)
  obtain ⟨rr, w1, w2, w3, w4, w5⟩ := row_of hL hta
  simp only [cw hb, s1, hta, w1, w2]
  obtain ⟨z1, z2⟩ := KV_oI hk hz (KN10 (v := 0) hk.2.2.2.2.2.2.1 ⟨by decide, by decide⟩)
  refine wLoop_i (fun n v x => ∃ I2 A2, x = cS b I2 F A2 E ∧ KV b g o s h vv I2 F A2 E (N + 1) NW ∧ HZ h I2 ∧ On g F 4 ta v ∧ n = rk g 4 v) _ ⟨_, A, rfl, z1, z2, w5, rfl⟩ ?_
  rintro n v x again ha ⟨I2, A2, rfl, p1, p2, p3, p4⟩
  refine ⟨fun _ => ?_, fun hv => ?_⟩
  · simp only [cw hb, hta, w1, w2]
    refine wLoop_i (fun n v x => ∃ I2 A2, x = cS b I2 F A2 E ∧ KV b g o s h vv I2 F A2 E (N + 1) NW ∧ HZ h I2 ∧ On g F 4 ta v ∧ n = rk g 4 v) _ ⟨_, A2, rfl, p1, p2, w5, rfl⟩ ?_
    rintro n v x again ha ⟨I3, A3, rfl, p1, p2, p3, p4⟩
    refine ⟨fun _ => by rw [c_getI s1]; exact hQ _ _ (CI_ok p1 p2), fun hv => ?_⟩
    obtain ⟨f, rfl⟩ := Option.ne_none_iff_exists'.mp hv
    obtain ⟨u1, u2, u3⟩ := On_step hL p3
    rw [c_recv u1]
    refine c_isThere u1 (fun r3 _ => ?_)
    refine wJoin_i (fun K => ∀ I4 A4, KV b g o s h vv I4 F A4 E (N + 1) NW → HZ h I4 → K (cS b I4 F A4 E)) (fun I4 A4 q1 q2 => ?_) (fun K hK => ⟨fun _ => hK _ _ p1 p2, fun _ => ?_⟩)
    · simp only [cw hb, u1, show wIn 4 5 from ⟨by decide, by decide⟩, true_and, show ix 4 = 4 from by decide]
      exact ha _ _ _ (by omega) ⟨I4, A4, rfl, q1, q2, u2, rfl⟩
    · rw [c_recv u1]
      refine c_isThere u1 (fun r4 _ => ⟨fun _ => ?_, fun _ => hK _ _ p1 p2⟩)
      rw [c_getI u1, c_recv s1]
      exact c_putFound p1 p2 (fun I4 A4 q1 q2 => hK _ _ q1 q2)
  · obtain ⟨f, rfl⟩ := Option.ne_none_iff_exists'.mp hv
    obtain ⟨u1, u2, u3⟩ := On_step hL p3
    rw [c_recv u1]
    refine c_isThere u1 (fun r3 _ => ?_)
    refine wJoin_i (fun K => ∀ I4 A4, KV b g o s h vv I4 F A4 E (N + 1) NW → HZ h I4 → K (cS b I4 F A4 E)) (fun I4 A4 q1 q2 => ?_) (fun K hK => ⟨fun _ => hK _ _ p1 p2, fun _ => ?_⟩)
    · simp only [cw hb, u1, show wIn 4 5 from ⟨by decide, by decide⟩, true_and, show ix 4 = 4 from by decide]
      exact ha _ _ _ (by omega) ⟨I4, A4, rfl, q1, q2, u2, rfl⟩
    · rw [c_recv u1]
      refine c_isThere u1 (fun r4 _ => ⟨fun _ => ?_, fun _ => hK _ _ p1 p2⟩)
      rw [c_getI u1, c_recv s1]
      exact c_putFound p1 p2 (fun I4 A4 q1 q2 => hK _ _ q1 q2)
theorem k_found (hk : KInv o (N + 1) vv x) {i : Int32} (hX : ∀ e x', e = eIB → KInv o N vv x' → X e x') (hQ : ∀ r x', KInv o N vv x' → QI r x') : w_X11_found (some o) i x QI X := by
  obtain ⟨b, g, s, h, I, F, A, E, rfl, hk, hz⟩ := hk
  have s1 := hk.2.2.1.1
  have hb := hk.1
  have k10 := hk.2.2.2.2.2.2.1.2
  simp only [w_X11_found, cw hb, s1, wJoin, wIf]
  refine ⟨fun _ => c_thr hk hz (fun x' => hX _ x' rfl), fun h1 => ⟨fun h2 => ⟨?_, hQ _ _ (CI_ok hk hz)⟩, fun _ => c_thr hk hz (fun x' => hX _ x' rfl)⟩⟩
  simp only [i32, Int32.reduceToInt] at h1 h2
  exact ⟨by omega, by omega⟩
theorem k_solution (hk : KInv o (N + 1) vv x) {i k : Int32} (hX : ∀ e x', (e = eIA ∨ e = eIB) → KInv o N vv x' → X e x') (hQ : ∀ r x', KInv o N vv x' → QI r x') : w_X11_solution (some o) i k x QI X := by
  obtain ⟨b, g, s, h, I, F, A, E, rfl, hk, hz⟩ := hk
  obtain ⟨s1, s2, s3, s4, s5, s6, s7, ⟨v, s8, s8'⟩, s9, s10, s11, s12⟩ := id hk.2.2.1
  obtain ⟨⟨l, l1, l2⟩, -⟩ := s12 v s8'
  have hb := hk.1
  simp only [w_X11_solution]
  refine c_range hk hz (fun x' => hX _ x' (Or.inl rfl)) (fun h1 h2 => ?_)
  have h1' : 0 ≤ k.toInt := h1
  have h2' : k.toInt ≤ 7 := h2
  simp only [cw hb, s1, s8, s8', l1, l2, w_X7_keptCount]
  refine wJoin_i (fun K => K (cS b I F A E)) (c_thr hk hz (fun x' => hX _ x' (Or.inr rfl))) (fun K hK => ⟨fun _ => hK, fun h3 => ⟨fun _ => hK, fun h4 => ?_⟩⟩)
  refine c_isIn (fun r _ => ⟨fun _ => hK, fun _ => ?_⟩)
  simp only [cw hb, l2]
  refine ⟨?_, hQ _ _ (CI_ok hk hz)⟩
  have h3' : 0 ≤ i.toInt := by simp only [i32, Int32.reduceToInt] at h3; omega
  have h4' : i.toInt < 100 := by
    split at h4
    · simp only [i32, Int32.reduceToInt] at h4; omega
    · rename_i hh; simp only [i32, Int32.reduceToInt] at h4 hh; omega
  have e8 : (i * 8).toInt = i.toInt * 8 := i_mul rfl (by decide) (by omega)
  have e9 : (i * 8 + k).toInt = i.toInt * 8 + k.toInt := i_add e8 rfl (by omega)
  exact ⟨by omega, by omega⟩
theorem k_count (hk : KInv o (N + 1) vv x) {w : Int32} (hX : ∀ e x', e = eIA → KInv o N vv x' → X e x') (hQ : ∀ r x', KInv o N vv x' → QI r x') : w_X11_count (some o) w x QI X := by
  obtain ⟨b, g, s, h, I, F, A, E, rfl, hk, hz⟩ := hk
  obtain ⟨s1, s2, s3, s4, s5, s6, ⟨r, s7, s7'⟩, ⟨v, s8, s8'⟩, s9, s10, s11, s12⟩ := id hk.2.2.1
  obtain ⟨⟨l, l1, l2⟩, -⟩ := s12 v s8'
  have hb := hk.1
  have ok := CI_ok hk hz
  simp only [w_X11_count]
  refine c_range hk hz (fun x' => hX _ x' rfl) (fun h1 h2 => ?_)
  simp only [cw hb, s1, s2, s3, s4, s5, s7, s7', s8, s8', l1, l2]
  refine ⟨fun _ => hQ _ _ ok, fun _ => ⟨fun _ => hQ _ _ ok, fun _ => ⟨fun _ => hQ _ _ ok, fun _ => ⟨fun _ => hQ _ _ ok, fun _ => ⟨fun _ => hQ _ _ ok, fun _ => ⟨fun _ => hQ _ _ ok, fun _ => ⟨fun _ => hQ _ _ ok, fun _ => ⟨fun _ => ?_, fun _ => ⟨fun _ => hQ _ _ ok, fun _ => ⟨fun _ => ?_, fun _ => ?_⟩⟩⟩⟩⟩⟩⟩⟩⟩⟩
  · exact c_openCursors hb s1 (fun r _ => hQ _ _ ok)
  · simp only [w_J6_bitCount_0f7a4]; exact hQ _ _ ok
  · simp only [w_X11_factsThereNow, cw hb, s1, s2, s3]
    refine c_tableAt hk (fun r hr => ?_)
    simp only [wJoin, wIf]
    refine ⟨fun _ => hQ _ _ ok, fun hn => ?_⟩
    obtain ⟨t, rfl⟩ := Option.ne_none_iff_exists'.mp hn
    rw [c_recv (hr t rfl)]
    exact c_factsThereNow hb hk.2.1.1 (hr t rfl) (fun _ => hQ _ _ ok)
end C27
