set_option linter.unusedVariables false
set_option linter.unusedSimpArgs false
section C22
variable {b : CT} {g : Gh} {o s h N : Nat} {vv : Nat → Int32} {I : Nat → Nat → Int32} {F : Nat → Nat → Option Nat} {A : Nat → Nat → Nat → Int32} {E : Nat → Nat → Nat → Option Nat} {W : Nat → Prop} {X : String → HS → Prop} {Q : HS → Prop} {QI : Int32 → HS → Prop} {QF : Option Nat → HS → Prop}
theorem KV_attach (hk : KV b g o s h vv I F A E (N + 1) NW) {b1 b2 : CT} {g2 : Gh} {t q K : Nat} {I1 I2 : Nat → Nat → Int32} {F1 F2 : Nat → Nat → Option Nat} {A1 : Nat → Nat → Nat → Int32} {E1 E2 E3 : Nat → Nat → Nat → Option Nat} (hK : K < 4) (ht : Is b 10 t) (hKc : (K : Int) < (I t 1).toInt) (hnone : E t 3 K = none)
    (n2 : Xt b b1) (n3 : q ∉ b.B.LP) (n4 : Is b1 4 q) (n5 : ∀ c a, Is b1 c a → Is b c a ∨ a = q ∧ c = 4 ∨ a ∉ b.B.LP ∧ 20 ≤ c) (n8 : ∀ a, a ∈ b.B.LP → I1 a = I a ∧ F1 a = F a ∧ A1 a = A a ∧ E1 a = E a) (hqk : (I1 q 0).toInt = K)
    (hI : IL b b b1 b2 g g2 t q K I1 I2 F F1 F2 A1 E E1 E2 none) (e1 : ∀ a j, ¬ (a = t ∧ j = 3) → E3 a j = E2 a j) (e2 : E3 t 3 = va_up (E2 t 3) K (some q)) (hc : b.B.c ≤ b2.B.c + 3002) (hz : b.B.z ≤ b2.B.z + 15066) : KV b2 g2 o s h vv I2 F2 A1 E3 N NW ∧ I2 h = I h := by
  obtain ⟨hb, hCo, hSK, hTY, hHI, hCU, hKN, hBU, hvv⟩ := hk
  obtain ⟨s1, s2, s3, s4, s5, s6, s7, s8, s9, s10, s11, s12⟩ := id hSK
  obtain ⟨hL, hVC, hP, hC, hKP, hTS⟩ := id hCo
  obtain ⟨l1, l2, l3, l4⟩ := id hL
  obtain ⟨c1, c2, c3, c4, c5, c6, c7, c8, c9, c10, c11, c12, c13⟩ := hI
  obtain ⟨r1, r2, r3, r4, r5, r6⟩ := id c2
  have up : ∀ c a, Is b c a → Is b2 c a := fun c a ha => r1.1 _ _ (n2.1 _ _ ha)
  have oI : ∀ c a, Is b c a → I2 a = I a := fun c a ha => by rw [r4 a (n2.1 _ _ ha).1, (n8 a ha.1).1]
  have oF' : ∀ c a j, Is b c a → ¬ (c = 0 ∧ (j = 3 ∨ j = 4)) → F2 a j = F a j := fun c a j ha hj => by rw [r5 c a j (n2.1 _ _ ha) hj, (n8 a ha.1).2.1]
  have oA : ∀ c a, Is b c a → A1 a = A a := fun c a ha => (n8 a ha.1).2.2.1
  have oE2 : ∀ c a j, Is b c a → c ≠ 1 → c ≠ 4 → E2 a j = E a j := fun c a j ha h1 h4 => by rw [r6 c a j (n2.1 _ _ ha) (fun z => h4 z.1) (fun z => h1 z.1), (n8 a ha.1).2.2.2]
  have oE3 : ∀ c a j, Is b c a → c ≠ 1 → c ≠ 4 → c ≠ 10 → E3 a j = E a j := fun c a j ha h1 h4 h10 => by rw [e1 a j (fun z => Is_ne ha ht h10 z.1), oE2 c a j ha h1 h4]
  have back : ∀ c a, c ≠ 0 → c ≠ 4 → c < 20 → Is b2 c a → Is b c a := fun c a h0 h4 h20 ha => by
    rcases r3 c a ha with h | h
    · rcases n5 c a h with h | h | h
      · exact h
      · exact absurd h.2 h4
      · omega
    · exact absurd h.1 h0
  have back4 : ∀ a, Is b2 4 a → Is b 4 a ∨ a = q := fun a ha => by
    rcases r3 4 a ha with h | h
    · rcases n5 4 a h with h | h | h
      · exact Or.inl h
      · exact Or.inr h.1
      · exact absurd h.2 (by decide)
    · exact absurd h.1 (by decide)
  have hq2 := r1.1 _ _ n4
  have hqI : (I2 q 0).toInt = K := by rw [r4 q n4.1]; exact hqk
  have ht2 := up _ _ ht
  have eT2 : E2 t 3 = E t 3 := oE2 10 t 3 ht (by decide) (by decide)
  have seen := all_seen hL hP (t := t) (P := fun f => g2.V K f) (fun f h1 h2 => by
    rcases c11 f h1 h2 with z | z | z
    · exact Or.inl z
    · exact absurd z (by simp)
    · exact Or.inr z)
  have v24 : ∀ f, g2.V 4 f → g.V 4 f := fun f hf => (c7 4 f hf).elim id (fun z => z.2.1)
  have f22 : ∀ f, g2.V 4 f → F2 f 2 = F f 2 := fun f hf => oF' 1 f 2 (l4 4 f (v24 f hf)).1 (by omega)
  have e3c : ∀ c a j, Is b2 c a → c ≠ 10 → E3 a j = E2 a j := fun c a j ha hc => e1 a j (fun z => Is_ne ha ht2 hc z.1)
  have E3x : ∀ t' k, (t' = t ∧ k = K ∧ E3 t' 3 k = some q) ∨ ¬ (t' = t ∧ k = K) ∧ E3 t' 3 k = E2 t' 3 k := fun t' k => by
    by_cases hq : t' = t
    · subst hq
      by_cases hk : k = K
      · exact Or.inl ⟨rfl, hk, by rw [e2, hk, va_up_self]⟩
      · exact Or.inr ⟨fun z => hk z.2, by rw [e2, va_up_ne _ _ hk]⟩
    · exact Or.inr ⟨fun z => hq z.1, by rw [e1 t' 3 (fun z => hq z.1)]⟩
  have hL3 : LO b2 g2 I2 F2 E3 := by
    obtain ⟨m1, m2, m3, m4⟩ := id c3
    refine ⟨m1, fun x hx => ?_, fun t' ht' => ?_, fun l f hv => ?_⟩
    · unfold XIx
      rw [e3c 4 x 1 hx (by decide)]; exact m2 x hx
    · obtain ⟨p1, p2, p3, p4⟩ := m3 t' ht'
      refine ⟨p1, p2, p3, fun k x hx => ?_⟩
      rcases E3x t' k with ⟨rfl, rfl, h3⟩ | ⟨-, h3⟩
      · rw [h3] at hx; cases hx
        exact ⟨hq2, c9, hqI, by rw [oI 10 t' ht]; exact hKc⟩
      · rw [h3] at hx; exact p4 k x hx
    · unfold XV
      rw [e3c 1 f 1 (m4 l f hv).1 (by decide)]; exact m4 l f hv
  have eI9 : I2 s = I s := oI 9 s s3
  have eE91 : E3 s 1 = E s 1 := oE3 9 s 1 s3 (by decide) (by decide) (by decide)
  have eE90 : E3 s 0 = E s 0 := oE3 9 s 0 s3 (by decide) (by decide) (by decide)
  refine ⟨⟨c1, ⟨hL3, ⟨c6.1, fun k f t' hk hv ht' hx => ?_⟩, ⟨fun f t' hv ht' => ?_, c4.2⟩, ⟨fun k f t' x hk hv ht' hx => ?_, fun c hc => ?_⟩, ⟨up _ _ s3, ?_, ?_, ?_, ?_, fun f hv => ?_⟩, ?_⟩, ?_, fun i f hi hf => ?_, ?_, ?_, ?_, ?_, ?_, fun x hx => ?_, ?_⟩, oI 3 h s5⟩
  · rcases E3x t' k with ⟨rfl, rfl, h3⟩ | ⟨hn, h3⟩
    · rw [h3]
      rw [f22 f hv] at ht'
      exact ⟨fun _ => seen f (v24 f hv) ht', fun _ => by simp⟩
    · rw [h3]
      refine c6.2 k f t' hk hv ht' (fun z => hn ⟨?_, z.1⟩)
      have := z.2
      rw [← f22 f hv, ht'] at this
      cases this; rfl
  · rcases c4.1 f t' hv ht' with z | ⟨p, z1, z2, z3⟩
    · exact Or.inl z
    · exact Or.inr ⟨p, z1, z2, by rw [e3c 1 p 1 (c3.2.2.2 _ _ z1).1 (by decide)]; exact z3⟩
  · have hv4 := (c6.1 k f hv).1
    rcases E3x t' k with ⟨rfl, rfl, h3⟩ | ⟨hn, h3⟩
    · rw [h3] at hx; cases hx
      rw [f22 f hv4] at ht'
      rw [e3c 4 q 1 hq2 (by decide)]
      exact (c10 f hv ht').2
    · rw [h3] at hx
      obtain ⟨n, hn2⟩ := c5.1 k f t' x hk hv ht' hx
      have htt := tab_of c3 hv ht'
      obtain ⟨x1, -⟩ := (c3.2.2.1 t' htt).2.2.2 k x hx
      rw [e3c 4 x 1 x1 (by decide)]
      exact ⟨n, hn2⟩
  · exact RC_eq c5.2 c3 (fun _ _ h => h) (fun _ _ => rfl) (fun _ _ => rfl) (fun _ _ => rfl) (fun _ _ => rfl) (fun x hx => e3c 4 x 1 hx (by decide)) c hc
  · rw [eI9]; exact hKP.2.1
  · rw [eI9, eE91]; exact hKP.2.2.1
  · rw [eE91]; exact fun i f hf => up _ _ (hKP.2.2.2.1 i f hf)
  · rw [eE91]; exact hKP.2.2.2.2.1
  · rw [eI9, eE91]; exact hKP.2.2.2.2.2 f (v24 f hv)
  · unfold TS
    rw [eI9, eE90]
    exact ⟨hTS.1, hTS.2.1, fun i t ht => up _ _ (hTS.2.2 i t ht)⟩
  · exact SK_fr hSK up (fun c a hc ha => back c a (by rintro rfl; simp at hc) (by rintro rfl; simp at hc) (by simp only [List.mem_cons, List.not_mem_nil, or_false] at hc; omega) ha) (fun c a j ha hr => oF' c a j ha (by rintro ⟨rfl, -⟩; simp at hr)) (fun c a j ha hr => oE3 c a j ha (by rintro rfl; simp at hr) (by rintro rfl; simp at hr) (by rintro rfl; simp at hr))
  · rw [eI9] at hi
    rw [eE91] at hf
    obtain ⟨t', z1, z2⟩ := hTY i f hi hf
    exact ⟨t', by rw [oF' 1 f 2 (hKP.2.2.2.1 i f hf) (by omega)]; exact z1, up _ _ z2⟩
  · unfold HI
    rw [oI 3 h s5, oE3 3 h 0 s5 (by decide) (by decide) (by decide), oA 3 h s5]
    refine ⟨hHI.1, hHI.2.1, fun i hi => ?_, hHI.2.2.2⟩
    obtain ⟨f, z1, z2, z3, z4⟩ := hHI.2.2.1 i hi
    exact ⟨f, z1, up _ _ z2, z3.imp (c8 _ _) id, by rw [oF' 1 f 3 z2 (by omega)]; exact fun z f' hf' => c8 _ _ (z4 z f' hf')⟩
  · unfold CU
    rw [oA 11 o s1, oE3 11 o 3 s1 (by decide) (by decide) (by decide)]
    intro i hi ho
    obtain ⟨l, z1, z2, t', z3, z4, z5⟩ := hCU i hi ho
    refine ⟨l, z1, up _ _ z2, t', by rw [oF' 5 l 2 z2 (by omega)]; exact z3, up _ _ z4, fun f' hf' => ?_⟩
    rw [oF' 5 l 5 z2 (by omega)] at hf'
    obtain ⟨z6, z7⟩ := z5 f' hf'
    exact ⟨c8 _ _ z6, by rw [oF' 1 f' 2 (l4 _ _ z6).1 (by omega)]; exact z7⟩
  · unfold KN
    rw [oI 11 o s1]; exact hKN
  · have en : NK s E3 = NK s E := by unfold NK; rw [eE91]
    have ei : NI s E3 + 1 ≤ NI s E := by
      obtain ⟨i, z1, z2⟩ := hvv.2.2.1 t ht
      have h12 := hTS.1
      refine cnt_less (i0 := 4 * i + K) (by omega) (fun j _ hp => ?_) ?_ ?_
      · skip
        rw [eE90] at hp
        cases he : E s 0 (j / 4) with
        | none => rfl
        | some t' =>
          rw [he] at hp
          dsimp only at hp ⊢
          rcases E3x t' (j % 4) with ⟨_, _, h3⟩ | ⟨_, h3⟩
          · rw [h3] at hp; exact absurd hp (by simp)
          · rw [h3, oE2 10 t' 3 (hTS.2.2 _ t' he) (by decide) (by decide)] at hp; exact hp
      · skip
        rw [eE90, show (4 * i + K) / 4 = i by omega, show (4 * i + K) % 4 = K by omega, z2]
        dsimp only
        rw [e2, va_up_self]; rfl
      · skip
        rw [show (4 * i + K) / 4 = i by omega, show (4 * i + K) % 4 = K by omega, z2]
        dsimp only
        rw [hnone]; rfl
    unfold BU at hBU ⊢
    rw [en]; omega
  · exact ⟨by rw [oA 11 o s1]; exact hvv.1.1, GO_fr hvv.1.2 (fun q hq => back 2 q (by decide) (by decide) (by decide) hq) (fun q hq => by rw [oI 2 q hq]) (fun q hq => by rw [oA 2 q hq]; exact ⟨rfl, rfl⟩)⟩
  · have key : ∃ T, E3 T 3 (ix (I2 x 0)) = some x ∧ Is b2 10 T := by
      rcases back4 x hx with hx' | rfl
      · refine ⟨g.U x, ?_, up _ _ (l2 x hx').2.1⟩
        have h0 := hvv.2.1 x hx'
        rw [oI 4 x hx']
        rcases E3x (g.U x) (ix (I x 0)) with ⟨h1, h2, h3⟩ | ⟨_, h3⟩
        · rw [h1, h2, hnone] at h0; exact absurd h0 (by simp)
        · rw [h3, oE2 10 _ 3 (l2 x hx').2.1 (by decide) (by decide)]; exact h0
      · exact ⟨t, by rw [ix_of hqI, e2, va_up_self], ht2⟩
    obtain ⟨T, h1, h2⟩ := key
    rw [((hL3.2.2.1 T h2).2.2.2 _ x h1).2.1]; exact h1
  · rw [eI9, eE90]; exact ⟨fun t' ht' => hvv.2.2.1 t' (back 10 t' (by decide) (by decide) (by decide) ht'), hvv.2.2.2⟩
theorem c_makeIndex (hk : KV b g o s h vv I F A E (N + 1) NW) {t : Nat} {k : Int32} (ht : Is b 10 t) (hQn : KV b g o s h vv I F A E (N + 1) NW → QI 0 (cS b I F A E)) (hQ : ∀ r b' g' I' F' A' E', (r = 0 ∨ r = 1) → KV b' g' o s h vv I' F' A' E' N NW → I' h = I h → QI r (cS b' I' F' A' E')) : w_X10_makeIndex (some t) k (cS b I F A E) QI X := by
  have hk0 := hk
  obtain ⟨hb, hCo, hSK, hTY, hHI, hCU, hKN, hBU, hvv⟩ := hk
  obtain ⟨hL, hVC, hP, hC, hKP, hTS⟩ := id hCo
  obtain ⟨tc, -, -, tx⟩ := hL.2.2.1 t ht
  have hu := hBU
  unfold BU at hu
  simp only [w_X10_makeIndex, wBit0, wBit1]
  refine wJoin_i (fun K => K (cS b I F A E)) (hQn hk0) (fun K hK => ⟨fun _ => hK, fun hk1 => ?_⟩)
  rw [c_getI ht]
  refine ⟨fun _ => hK, fun hk2 => ?_⟩
  have k1 : 0 ≤ k.toInt := by simp only [i32, Int32.reduceToInt] at hk1; omega
  have k2 : k.toInt < (I t 1).toInt := by simp only [i32] at hk2; omega
  have hkin : wIn k 4 := ⟨k1, by omega⟩
  have hki : ((ix k : Nat) : Int) = k.toInt := ix_int k1
  simp only [cw hb, ht, hkin, true_and]
  refine ⟨fun hnone => ?_, fun _ => hK⟩
  have hpos : 1 ≤ NI s E := by
    obtain ⟨i, z1, z2⟩ := hvv.2.2.1 t ht
    have h12 := hTS.1
    refine cnt_pos (i := 4 * i + ix k) (by omega) ?_
    rw [show (4 * i + ix k) / 4 = i by omega, show (4 * i + ix k) % 4 = ix k by omega, z2]
    dsimp only
    rw [hnone]; rfl
  refine c_newIndex hb (by omega) (by omega) (fun q b1 I1 F1 A1 E1 n1 n2 n3 n4 n5 n6 n7 n8 n9 n10 => ?_)
  obtain ⟨g1, gV, gR, gU, d1, d2, d3, d4⟩ := idx_new hL hVC hP hC (fun k' f' => k' = ix k ∧ F f' 2 = some t) ht hkin n2 n3 n4 n5 n8 n9 n10
  obtain ⟨r, r1, r2, r3, r4, r5⟩ := row_of hL ht
  obtain ⟨C, hC1, hC2⟩ := row_cnt hL hKP
  have ht1 := n2.1 _ _ ht
  have hr1 := n2.1 _ _ r2
  have er1 : F1 t 2 = some r := by rw [(n8 t ht.1).2.1]; exact r1
  have er3 : F1 r 3 = F r 3 := by rw [(n8 r r2.1).2.1]
  simp only [cw n1, ht1, hr1, er1, er3]
  have gV' : ∀ l f, g1.V l f ↔ g.V l f := fun l f => by show g1.1 l f ↔ g.1 l f; rw [show g1.1 = g.1 from gV]
  have hnk : ∀ f, g1.V (ix k) f → F f 2 = some t → False := fun f hv hft => by
    have hv2 := (gV' _ _).mp hv
    exact (hVC.2 (ix k) f t (by omega) (hVC.1 _ _ hv2).1 hft (fun z => z)).mpr hv2 hnone
  have hIL0 : IL b b b1 b1 g g1 t q (ix k) I1 I1 F F1 F1 A1 E E1 E1 (F r 3) := ⟨n1, Fr_rf, d1, d3, d4, d2, fun l f h => Or.inl ((gV' _ _).mp h), fun l f h => (gV' _ _).mpr h, gU, fun f hv hft => absurd (hnk f hv hft) (fun z => z), fun f hv hft => by
    rcases hP.1 f t hv hft with ⟨r', z1, z2⟩ | ⟨p, z1, z2, z3⟩
    · rw [r1] at z1; cases z1
      exact Or.inr (Or.inl z2)
    · exact Or.inr (Or.inr ⟨p, z1, z2, z3, fun y => hnk p y z2⟩), fun a ha => by rw [(n8 a ha.1).2.2.2], r5⟩
  have hC0 := hC1 (F r 3)
  refine wLoop_i (fun n w y => ∃ b2 g2 I2 F2 E2, y = cS b2 I2 F2 A1 E2 ∧ IL b b b1 b2 g g2 t q (ix k) I1 I2 F F1 F2 A1 E E1 E2 w ∧ b.B.c + C w ≤ b2.B.c + 3002 ∧ b.B.z + 5 * C w ≤ b2.B.z + 15066 ∧ n = rk g 4 w) _ ⟨b1, g1, I1, F1, E1, rfl, hIL0, by omega, by omega, rfl⟩ ?_
  rintro n w y again ha ⟨b2, g2, I2, F2, E2, rfl, p1, p2, p3, p4⟩
  have hFr := p1.2.1
  have ht2 := hFr.1.1 _ _ ht1
  have hq2 := hFr.1.1 _ _ n4
  have hkq : (I1 q 0).toInt = ix k := by rw [n9, hki]
  refine ⟨fun hw => ?_, fun hw => ?_⟩
  · subst hw
    simp only [cw p1.1, ht2, hkin, true_and]
    refine ⟨fun y hy => by cases hy; exact hq2, ?_⟩
    obtain ⟨z1, z2⟩ := KV_attach (E3 := up3 E2 t 3 (ix k) (some q)) hk0 (by omega) ht (by omega) hnone n2 n3 n4 n5 n8 hkq p1 (fun a j hj => up3_ne hj) up3_at (by omega) (by omega)
    exact hQ 1 b2 g2 I2 F2 A1 _ (Or.inr rfl) z1 z2
  · obtain ⟨f, rfl⟩ := Option.ne_none_iff_exists'.mp hw
    rw [c_recv hq2]
    have hstep := hC2 f t p1.2.2.2.2.2.2.2.2.2.2.2.2
    have hrk := (On_step hL p1.2.2.2.2.2.2.2.2.2.2.2.2).2.2
    have hCw := hC1 (some f)
    refine c_idx_step hL hP (by omega) n2.1 (fun c a j hca _ => by rw [(n8 a hca.1).2.1]) ht ht1 n4 hkq (by rw [(n8 t ht.1).2.2.2]; exact hnone) p1 (by omega) (by omega) (fun b3 g3 I3 F3 E3 z1 z2 z3 => ?_)
    exact ha (rk g 4 (E f 1 4)) _ _ (by omega) ⟨b3, g3, I3, F3, E3, rfl, z1, by omega, by omega, rfl⟩
end C22
