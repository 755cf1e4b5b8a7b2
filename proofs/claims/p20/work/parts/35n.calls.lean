set_option linter.unusedVariables false
set_option linter.unusedSimpArgs false
section C14
variable {b : CT} {g : Gh} {o s h N : Nat} {vv : Nat → Int32} {I : Nat → Nat → Int32} {F : Nat → Nat → Option Nat} {A : Nat → Nat → Nat → Int32} {E : Nat → Nat → Nat → Option Nat} {W : Nat → Prop} {X : String → HS → Prop} {Q : HS → Prop} {QI : Int32 → HS → Prop} {QF : Option Nat → HS → Prop}
theorem BU_Fr {b' : CT} {I' : Nat → Nat → Int32} {F' : Nat → Nat → Option Nat} {E' : Nat → Nat → Nat → Option Nat} {M : Nat} (hs : Is b 9 s) (hT : TS b s I E) (hF : Fr b b' I I' F F' E E') (hB : BU b s E N) (hc : b.B.c + 16 * M ≤ b'.B.c + 16 * N) (hz : b.B.z + 100 * M ≤ b'.B.z + 100 * N) : BU b' s E' M := by
  obtain ⟨r1, r2, r3, r4, r5, r6⟩ := hF
  unfold BU NK at hB ⊢
  rw [r6 9 s 1 hs (by decide) (by decide), NI_eq hs hT (r6 9 s 0 hs (by decide) (by decide)) (fun t ht => r6 10 t 3 ht (by decide) (by decide))]
  omega
theorem KV_place (hk : KV b g o s h vv I F A E N W) {b' : CT} {g' : Gh} {f t M : Nat} {I' : Nat → Nat → Int32} {F' : Nat → Nat → Option Nat} {E' : Nat → Nat → Nat → Option Nat} (hW : ∀ a, W a → a = f) (hi : ∃ i : Nat, (i : Int) < (I s 4).toInt ∧ E s 1 i = some f)
    (z1 : CB b') (z2 : Fr b b' I I' F F' E E') (z3 : LO b' g' I' F' E') (z4 : PR g' F' E') (z5 : CE b' g' I' F' A E') (z6 : VC g' F' E' NX) (z7 : Vk g g' E f t 4) (hB : BU b' s E' M) : KV b' g' o s h vv I' F' A E' M NW := by
  obtain ⟨hb, hCo, hSK, hTY, hHI, hCU, hKN, hBU, hvv⟩ := hk
  obtain ⟨s1, s2, s3, s4, s5, s6, s7, s8, s9, s10, s11, s12⟩ := id hSK
  obtain ⟨hL, hVC, -, -, hKP, hTS⟩ := id hCo
  obtain ⟨-, hk0, k3, k4, k5, k6⟩ := id hKP
  obtain ⟨r1, r2, r3, r4, r5, r6⟩ := id z2
  have oI : ∀ c a, Is b c a → I' a = I a := fun c a ha => r4 a ha.1
  have oF' : ∀ c a j, Is b c a → c ≠ 0 → F' a j = F a j := fun c a j ha h1 => r5 c a j ha (fun z => h1 z.1)
  have oE : ∀ c a j, Is b c a → c ≠ 1 → c ≠ 4 → E' a j = E a j := fun c a j ha h1 h4 => r6 c a j ha (fun z => h4 z.1) (fun z => h1 z.1)
  have back : ∀ c a, c ≠ 0 → Is b' c a → Is b c a := fun c a h1 ha => (r3 c a ha).resolve_right (fun z => h1 z.1)
  have mono : ∀ l a, g.V l a → g'.V l a := fun l a hv => (z7 l a).mpr (Or.inl hv)
  have hf4 : g'.V 4 f := (z7 4 f).mpr (Or.inr ⟨rfl, Or.inl rfl⟩)
  have ex : ∀ {c : Nat} {u : Option Nat}, (∃ l, u = some l ∧ Is b c l) → ∃ l, u = some l ∧ Is b' c l := fun ⟨l, z1, z2⟩ => ⟨l, z1, r1.1 _ _ z2⟩
  refine ⟨z1, ⟨z3, z6, z4, z5, ⟨r1.1 _ _ s3, ?_, ?_, ?_, ?_, fun f' hv => ?_⟩, ?_⟩, ?_, fun i f' hi' hf' => ?_, ?_, ?_, ?_, hB, ⟨hvv.1.1, GO_fr hvv.1.2 (fun q hq => back 2 q (by decide) hq) (fun q hq => by rw [oI 2 q hq]) (fun q hq => ⟨rfl, rfl⟩)⟩, fun x hx => ?_, ?_⟩
  · rw [oI 9 s s3]; exact hk0
  · rw [oI 9 s s3, oE 9 s 1 s3 (by decide) (by decide)]; exact k3
  · rw [oE 9 s 1 s3 (by decide) (by decide)]; exact fun i f' hf' => r1.1 _ _ (k4 i f' hf')
  · rw [oE 9 s 1 s3 (by decide) (by decide)]; exact k5
  · rw [oI 9 s s3, oE 9 s 1 s3 (by decide) (by decide)]
    rcases (z7 4 f').mp hv with h | ⟨rfl, -⟩
    · exact k6 f' h
    · exact hi
  · unfold TS
    rw [oI 9 s s3, oE 9 s 0 s3 (by decide) (by decide)]
    exact ⟨hTS.1, hTS.2.1, fun i t ht => r1.1 _ _ (hTS.2.2 i t ht)⟩
  · unfold SK
    rw [oF' 11 o 2 s1 (by decide), oF' 11 o 6 s1 (by decide), oF' 11 o 7 s1 (by decide), oF' 11 o 8 s1 (by decide), oF' 9 s 2 s3 (by decide), oE 11 o 3 s1 (by decide) (by decide)]
    refine ⟨r1.1 _ _ s1, s2, r1.1 _ _ s3, s4, r1.1 _ _ s5, ex s6, ex s7, ex s8, fun i hi => ex (s9 i hi), fun a ha => s10 a (back 9 a (by decide) ha), fun r hr i hi => ?_, fun v hv => ?_⟩
    · have hr' := back 6 r (by decide) hr
      rw [oE 6 r 0 hr' (by decide) (by decide)]; exact ex (s11 r hr' i hi)
    · have hv' := back 8 v (by decide) hv
      rw [oF' 8 v 0 hv' (by decide), oF' 8 v 2 hv' (by decide), oE 8 v 3 hv' (by decide) (by decide)]
      exact ⟨ex (s12 v hv').1, ex (s12 v hv').2.1, fun i hi => ex ((s12 v hv').2.2 i hi)⟩
  · rw [oI 9 s s3] at hi'
    rw [oE 9 s 1 s3 (by decide) (by decide)] at hf'
    rw [oF' 1 f' 2 (k4 i f' hf') (by decide)]
    obtain ⟨t', y1, y2⟩ := hTY i f' hi' hf'
    exact ⟨t', y1, r1.1 _ _ y2⟩
  · unfold HI
    rw [oI 3 h s5, oE 3 h 0 s5 (by decide) (by decide)]
    refine ⟨hHI.1, hHI.2.1, fun i hi => ?_, hHI.2.2.2⟩
    obtain ⟨f', y1, y2, y3, y4⟩ := hHI.2.2.1 i hi
    refine ⟨f', y1, r1.1 _ _ y2, Or.inl ?_, by rw [oF' 1 f' 3 y2 (by decide)]; exact fun z f'' hf'' => mono _ _ (y4 z f'' hf'')⟩
    rcases y3 with y3 | y3
    · exact mono _ _ y3
    · rw [hW f' y3]; exact hf4
  · unfold CU
    rw [oE 11 o 3 s1 (by decide) (by decide)]
    intro i hi ho
    obtain ⟨l, y1, y2, t', y3, y4, y5⟩ := hCU i hi ho
    refine ⟨l, y1, r1.1 _ _ y2, t', by rw [oF' 5 l 2 y2 (by decide)]; exact y3, r1.1 _ _ y4, fun f' hf' => ?_⟩
    rw [oF' 5 l 5 y2 (by decide)] at hf'
    obtain ⟨y6, y7⟩ := y5 f' hf'
    exact ⟨mono _ _ y6, by rw [oF' 1 f' 2 (hL.2.2.2 _ _ y6).1 (by decide)]; exact y7⟩
  · unfold KN
    rw [oI 11 o s1]; exact hKN
  · have hx' := back 4 x (by decide) hx
    have hU : Is b 10 (g.U x) := (hL.2.1 x hx').2.1
    have h0 := hvv.2.1 x hx'
    have h1 : E' (g.U x) 3 (ix (I' x 0)) = some x := by rw [oI 4 x hx', oE 10 _ 3 hU (by decide) (by decide)]; exact h0
    have h2 := ((z3.2.2.1 _ (r1.1 _ _ hU)).2.2.2 _ x h1).2.1
    rw [h2]; exact h1
  · rw [oI 9 s s3, oE 9 s 0 s3 (by decide) (by decide)]; exact ⟨fun t' ht' => hvv.2.2.1 t' (back 10 t' (by decide) ht'), hvv.2.2.2⟩
/-- one stands in for another -/
theorem KV_F3 (hk : KV b g o s h vv I F A E N W) {d f : Nat} (hd : Is b 1 d) (hf : g.V 4 f) : KV b g o s h vv I (up2 F d 3 (some f)) A E N W := by
  obtain ⟨hb, hCo, hSK, hTY, hHI, hCU, hKN, hBU, hvv⟩ := hk
  obtain ⟨s1, s2, s3, s4, s5, s6, s7, s8, s9, s10, s11, s12⟩ := id hSK
  have n : ∀ a j, j ≠ 3 → up2 F d 3 (some f) a j = F a j := fun a j hj => up2_k _ _ _ _ hj
  refine ⟨hb, Core_eq hCo eqI_rf (eqF_up eqF_rf hd (by decide)) eqA_rf eqE_rf, ?_, fun i f' hi hf' => by rw [n _ _ (by decide)]; exact hTY i f' hi hf', ?_, fun i hi ho => ?_, hKN, hBU, hvv⟩
  · unfold SK
    simp only [n _ _ (show (2 : Nat) ≠ 3 by decide), n _ _ (show (6 : Nat) ≠ 3 by decide), n _ _ (show (7 : Nat) ≠ 3 by decide), n _ _ (show (8 : Nat) ≠ 3 by decide), n _ _ (show (0 : Nat) ≠ 3 by decide)]
    exact hSK
  · refine ⟨hHI.1, hHI.2.1, fun i hi => ?_, hHI.2.2.2⟩
    obtain ⟨f', y1, y2, y3, y4⟩ := hHI.2.2.1 i hi
    refine ⟨f', y1, y2, y3, fun z f'' hf'' => ?_⟩
    by_cases hq : f' = d
    · rw [hq, up2_self] at hf''; cases hf''; exact hf
    · rw [up2_a _ _ _ _ hq] at hf''; exact y4 z f'' hf''
  · obtain ⟨l, y1, y2, t', y3, y4, y5⟩ := hCU i hi ho
    exact ⟨l, y1, y2, t', by rw [n _ _ (by decide)]; exact y3, y4, fun f' hf' => by rw [n _ _ (by decide)] at hf' ⊢; exact y5 f' hf'⟩
theorem c_comeAgain (hk : KV b g o s h vv I F A E N NW) {d : Nat} (hd : g.V 4 d) (hQ : ∀ b' g' I' F' A' E', KV b' g' o s h vv I' F' A' E' N NW → I' h 4 = I h 4 → HLe h I I' → Q (cS b' I' F' A' E')) : w_X9_comeAgain (some s) (some d) (cS b I F A E) Q X := by
  have hb := hk.1
  obtain ⟨s1, s2, s3, s4, s5, -⟩ := id hk.2.2.1
  obtain ⟨hL, hVC, -⟩ := id hk.2.1
  obtain ⟨hd1, ⟨t, ht, htt⟩, -⟩ := hL.2.2.2 _ _ hd
  simp only [w_X9_comeAgain, cw hb, hd1, s3, ht]
  refine c_come hk htt hd1 (by decide) (by decide) (Or.inr hd) ?_ (fun f b' I' F' A' E' y1 y2 y3 y4 y5 y6 y7 y8 y9 y10 y11 y12 => ?_)
  · exact ⟨fun _ => hQ _ _ _ _ _ _ hk rfl HLe_rf, fun z => absurd rfl z⟩
  · refine ⟨fun z => absurd z (by simp), fun _ => ?_⟩
    have hdf : d ≠ f := fun z => y4 (by rw [← z]; exact hd)
    have hd1' := y2.1 _ _ hd1
    have htt' := y2.1 _ _ htt
    have ht' : F' d 2 = some t := by rw [y8 1 d hd1 hdf]; exact ht
    simp only [cw y1.1, hd1', ht', htt']
    obtain ⟨c1, c2, c3, c4, c5, c6⟩ := id y1.2.1
    refine c_placeAfter y1.1 c1 c3 c4 c2 y4 htt' y3 y5 hd ht' (fun k hk4 => ?_) (fun g' F2 E2 z2 z3 z4 z5 z6 z7 => ?_)
    · have eI : I' t = I t := y10 10 t htt (by decide)
      rw [eI] at hk4
      have := (hL.2.2.1 t htt).1
      rw [y6 k (by omega), if_pos hk4, y9 1 d hd1 hdf (by decide)]
    · simp only [cw y1.1, hd1']
      have hB : BU b' s E2 N := BU_Fr (y2.1 _ _ s3) c6 z2 y1.2.2.2.2.2.2.2.1 (Nat.le_refl _) (Nat.le_refl _)
      have hk2 := KV_place y1 (fun a z => z) y7 y1.1 z2 z3 z4 z5 z6 z7 hB
      exact hQ _ _ _ _ _ _ (KV_F3 hk2 hd1' ((z7 4 f).mpr (Or.inr ⟨rfl, Or.inl rfl⟩))) y11 y12
theorem c_turn (hk : KV b g o s h vv I F A E N NW) {from_ : Int32} (hQ : ∀ r b' g' I' F' A' E', KV b' g' o s h vv I' F' A' E' N NW → I' h 4 = I h 4 → QI r (cS b' I' F' A' E')) : w_X9_turn (some s) from_ (cS b I F A E) QI X := by
  have hb := hk.1
  obtain ⟨s1, s2, s3, s4, s5, -⟩ := id hk.2.2.1
  have hsz := hk.2.2.2.2.1.1
  simp only [w_X9_turn, cw hb, s3, s4, s5]
  have e0 : (I h 3 - 1).toInt = (I h 3).toInt - 1 := i_sub rfl (by decide) (by omega)
  generalize I h 3 - 1 = v0 at e0 ⊢
  refine wLoop_i (fun n v x => ∃ b1 g1 I1 F1 A1 E1, x = cS b1 I1 F1 A1 E1 ∧ KV b1 g1 o s h vv I1 F1 A1 E1 N NW ∧ I1 h 4 = I h 4 ∧ (I h 3).toInt ≤ (I1 h 3).toInt ∧ v.toInt < (I h 3).toInt ∧ -1 ≤ v.toInt ∧ n = (v.toInt + 1).toNat) _ ⟨b, g, I, F, A, E, rfl, hk, rfl, Int.le_refl _, by omega, by omega, rfl⟩ ?_
  rintro n v x again ha ⟨b1, g1, I1, F1, A1, E1, rfl, hk1, p1, p2, p3, p4, p5⟩
  refine wJoin_i (fun K => K (cS b1 I1 F1 A1 E1)) (hQ _ _ _ _ _ _ _ hk1 p1) (fun K hK => ⟨fun _ => hK, fun _ => ⟨fun _ => hK, fun hv => ?_⟩⟩)
  have hv0 : 0 ≤ v.toInt := by simp only [i32, Int32.reduceToInt] at hv; omega
  have hvi : ((ix v : Nat) : Int) = v.toInt := ix_int hv0
  have ev : (v + -1).toInt = v.toInt + -1 := i_add rfl (show (-1 : Int32).toInt = -1 by decide) (by omega)
  obtain ⟨-, -, s3', s4', s5', -⟩ := id hk1.2.2.1
  obtain ⟨q1, q2, q3, q4⟩ := id hk1.2.2.2.2.1
  obtain ⟨f, z1, z2, z3, z4⟩ := q3 (ix v) (by omega)
  have hvf : g1.V 4 f := z3.resolve_right (fun z => z)
  have hin : wIn v 6000 := ⟨hv0, by omega⟩
  simp only [cw hk1.1, s3', s4', s5', hin, true_and, z1, z2]
  refine wJoin_i (fun K => ∀ b2 g2 I2 F2 A2 E2, KV b2 g2 o s h vv I2 F2 A2 E2 N NW → I2 h 4 = I1 h 4 → HLe h I1 I2 → K (cS b2 I2 F2 A2 E2)) (fun b2 g2 I2 F2 A2 E2 y1 y2 y3' => ?_) (fun K hK2 => ⟨fun hw => ?_, fun _ => c_comeAgain hk1 hvf hK2⟩)
  · clear e0
    have y3 := y3'.1
    generalize v + -1 = v1 at ev ⊢
    exact ha (v1.toInt + 1).toNat _ _ (by omega) ⟨b2, g2, I2, F2, A2, E2, rfl, y1, by rw [y2, p1], by omega, by omega, by omega, rfl⟩
  · refine wJoin_i (fun K => ∀ f', g1.V 4 f' → K (some f') (cS b1 I1 F1 A1 E1)) (fun f' hf' => ?_) (fun K hK3 => ⟨fun _ => hK3 _ hvf, fun hn => ?_⟩)
    · simp only [cw hk1.1, s3']
      exact c_go hk1 hf' (fun I' A' E' y1 y2 y3 => hK2 _ _ _ _ _ _ y1 y2 y3)
    · obtain ⟨f', hf'⟩ := Option.ne_none_iff_exists'.mp hn
      rw [hf']
      exact hK3 f' (z4 hw f' hf')
theorem c_goneSinceMark (hk : KV b g o s h vv I F A E N W) (hQ : ∀ r, QI r (cS b I F A E)) : w_X3_goneSinceMark (some h) (cS b I F A E) QI X := by
  have hb := hk.1
  obtain ⟨s1, s2, s3, s4, s5, -⟩ := id hk.2.2.1
  obtain ⟨q1, q2, q3, q4⟩ := hk.2.2.2.2.1
  simp only [w_X3_goneSinceMark, cw hb, s5]
  refine wJoin_i (fun K => ∀ r, K r (cS b I F A E)) hQ (fun K hK => ⟨fun _ => hK _, fun hm => ?_⟩)
  have hm1 : 0 < (I h 4).toInt := by simp only [i32, Int32.reduceToInt] at hm; omega
  have e1 : (I h 4 - 1).toInt = (I h 4).toInt - 1 := i_sub rfl (by decide) (by omega)
  have hin : wIn (I h 4 - 1) 8 := ⟨by omega, by omega⟩
  refine ⟨hin, ?_⟩
  have h0 := q4 (ix (I h 4 - 1)) (by have := ix_int hin.1; omega)
  refine wLoop_i (fun n v x => x = cS b I F A E ∧ 0 ≤ v.2.toInt ∧ n = ((I h 3).toInt - v.2.toInt).toNat) _ ⟨rfl, h0, rfl⟩ ?_
  rintro n ⟨w, v⟩ x again ha ⟨rfl, p1, p2⟩
  dsimp only at p1 p2 ⊢
  simp only [cw hb, s5]
  refine ⟨fun _ => hK _, fun hv => ?_⟩
  have hv1 : v.toInt < (I h 3).toInt := by simp only [i32] at hv; omega
  have ev : (v + 1).toInt = v.toInt + 1 := i_add rfl (by decide) (by omega)
  refine ⟨⟨p1, by omega⟩, ?_⟩
  refine wJoin_i (fun K => ∀ r, K r (cS b I F A E)) (fun r => ha ((I h 3).toInt - (v + 1).toInt).toNat _ _ (by omega) ⟨rfl, by show 0 ≤ (v + 1).toInt; omega, rfl⟩) (fun K hK2 => ⟨fun _ => hK2 _, fun _ => hK2 _⟩)
theorem c_hasRoom (hk : KV b g o s h vv I F A E N W) (hQ : ∀ r : Int32, (r = 0 ∨ r = 1) → QI r (cS b I F A E)) : w_X9_hasRoomToTurn (some s) (cS b I F A E) QI X := by
  have hb := hk.1
  obtain ⟨s1, s2, s3, s4, s5, -⟩ := id hk.2.2.1
  simp only [w_X9_hasRoomToTurn, cw hb, s3, s4, s5]
  refine c_goneSinceMark hk (fun r => ?_)
  simp only [cw hb, s3, wJoin, wIf, wBit0, wBit1]
  exact ⟨fun _ => hQ _ (Or.inl rfl), fun _ => hQ _ (Or.inr rfl)⟩
end C14
