set_option linter.unusedVariables false
set_option linter.unusedSimpArgs false
section C18
variable {b : CT} {g : Gh} {o s h N : Nat} {vv : Nat → Int32} {I : Nat → Nat → Int32} {F : Nat → Nat → Option Nat} {A : Nat → Nat → Nat → Int32} {E : Nat → Nat → Nat → Option Nat} {W : Nat → Prop} {X : String → HS → Prop} {Q : HS → Prop} {QI : Int32 → HS → Prop} {QF : Option Nat → HS → Prop}
theorem c_makeTable (hk : KV b g o s h vv I F A E (N + 1) NW) {m : Int32} (hm : 1 ≤ m.toInt ∧ m.toInt ≤ 4) (hQn : KV b g o s h vv I F A E (N + 1) NW → QI (-1) (cS b I F A E)) (hQ : ∀ r b' g' I' F' A' E', r ≠ -1 → KV b' g' o s h vv I' F' A' E' N NW → I' h = I h → QI r (cS b' I' F' A' E')) : w_X9_makeTable (some s) m (cS b I F A E) QI X := by
  have hk0 := hk
  obtain ⟨hb, hCo, hSK, hTY, hHI, hCU, hKN, hBU, hvv⟩ := hk
  obtain ⟨s1, s2, s3, s4, s5, s6, s7, s8, s9, s10, s11, s12⟩ := id hSK
  obtain ⟨hL, hVC, hP, hC, hKP, hTS⟩ := id hCo
  obtain ⟨l1, l2, l3, l4⟩ := id hL
  have hu := hBU
  unfold BU at hu
  simp only [w_X9_makeTable, cw hb, s3]
  refine ⟨fun hlt => ?_, fun _ => hQn hk0⟩
  have hlt1 : (I s 3).toInt < 12 := by simp only [i32, Int32.reduceToInt] at hlt; omega
  have h30 := hTS.1.1
  have hin : wIn (I s 3) 12 := ⟨h30, by omega⟩
  have hKi : ((ix (I s 3) : Nat) : Int) = (I s 3).toInt := ix_int h30
  refine c_newTable hb s3 (by omega) (by omega) (fun q r b' I' F' A' E' n1 n2 n3 n4 n5 n6 n7 n8 n9 n10 n11 n12 n13 n14 n15 n16 n17 n18 => ?_)
  have up : ∀ c a, Is b c a → Is b' c a := n2.1
  have s3' := up _ _ s3
  have ead : b.ad s 0 = b'.ad s 0 := (n2.2 s 0 s3.1).symm
  rw [ead]
  simp only [cw n1, s3', hin, true_and]
  refine ⟨fun y hy => by cases hy; exact n5, ?_⟩
  have eI3 : I' s 3 = I s 3 := by rw [(n10 s s3.1).1]
  rw [up2_self, eI3]
  have e4 : (I s 3 + 1).toInt = (I s 3).toInt + 1 := i_add rfl (by decide) (by omega)
  generalize hI2 : up2 I' s 3 (I s 3 + 1) = I2
  generalize hE2 : up3 E' s 0 (ix (I s 3)) (some q) = E2
  have i1 : ∀ a j, ¬ (a = s ∧ j = 3) → I2 a j = I' a j := fun a j hj => by rw [← hI2]; exact if_neg hj
  have i2 : I2 s 3 = I s 3 + 1 := by rw [← hI2, up2_self]
  have e1 : ∀ a j, ¬ (a = s ∧ j = 0) → E2 a j = E' a j := fun a j hj => by rw [← hE2]; exact up3_ne hj
  have e2 : E2 s 0 = va_up (E s 0) (ix (I s 3)) (some q) := by rw [← hE2, up3_at, (n10 s s3.1).2.2.2]
  clear hI2 hE2
  have oI : ∀ c a j, Is b c a → ¬ (c = 9 ∧ j = 3) → I2 a j = I a j := fun c a j ha hj => by
    rw [i1 a j (fun z => hj ⟨by rw [← ha.2, z.1, s3.2], z.2⟩), (n10 a ha.1).1]
  have oF' : ∀ c a, Is b c a → F' a = F a := fun c a ha => (n10 a ha.1).2.1
  have oA : ∀ c a, Is b c a → A' a = A a := fun c a ha => (n10 a ha.1).2.2.1
  have oE : ∀ c a j, Is b c a → ¬ (c = 9 ∧ j = 0) → E2 a j = E a j := fun c a j ha hj => by
    rw [e1 a j (fun z => hj ⟨by rw [← ha.2, z.1, s3.2], z.2⟩), (n10 a ha.1).2.2.2]
  have back : ∀ c a, c ≠ 10 → c ≠ 0 → c < 20 → Is b' c a → Is b c a := fun c a h1 h2 h3 ha => by
    rcases n7 c a ha with h | h | h | h
    · exact h
    · exact absurd h.2 h1
    · exact absurd h.2 h2
    · omega
  have back10 : ∀ a, Is b' 10 a → Is b 10 a ∨ a = q := fun a ha => by
    rcases n7 10 a ha with h | h | h | h
    · exact Or.inl h
    · exact Or.inr h.1
    · exact absurd h.2 (by decide)
    · exact absurd h.2 (by decide)
  have back0 : ∀ a, Is b' 0 a → Is b 0 a ∨ a = r := fun a ha => by
    rcases n7 0 a ha with h | h | h | h
    · exact Or.inl h
    · exact absurd h.2 (by decide)
    · exact Or.inr h.1
    · exact absurd h.2 (by decide)
  have hqs : q ≠ s := fun z => n3 (by rw [z]; exact s3.1)
  have hrs : r ≠ s := fun z => n4 (by rw [z]; exact s3.1)
  have nr : ∀ a, a ∈ b.B.LP → a ≠ r := fun a ha z => n4 (by rw [← z]; exact ha)
  have hg : ∃ g' : Gh, g'.V = g.V ∧ g'.R = g.R ∧ g'.U = g.U ∧ (∀ a, a ∈ b.B.LP → g'.T a = g.T a) ∧ g'.T r = q ∧ ∀ a, a ∈ b.B.LP → g'.S a = g.S a := ⟨(g.1, g.2.1, va_up g.T r q, g.2.2.2.1, g.2.2.2.2), rfl, rfl, rfl, fun a ha => va_up_ne _ _ (nr a ha), va_up_self _ _ _, fun _ _ => rfl⟩
  obtain ⟨g', gV, gR, gU, gT', gTr, gS'⟩ := hg
  have gV' : ∀ l f, g'.V l f ↔ g.V l f := fun l f => by show g'.1 l f ↔ g.1 l f; rw [show g'.1 = g.1 from gV]
  have gR' : ∀ l f, g'.R l f = g.R l f := fun l f => congrFun (congrFun gR l) f
  have gU' : ∀ f, g'.U f = g.U f := fun f => congrFun gU f
  have vF : ∀ l f, g.V l f → F' f = F f := fun l f hv => oF' 1 f (l4 l f hv).1
  have tF : ∀ l f t, g.V l f → F f 2 = some t → Is b 10 t := fun l f t hv ht => tab_of hL hv ht
  have hL' : LO b' g' I2 F' E2 := by
    refine ⟨fun c hc => ?_, fun y hy => ?_, fun t ht => ?_, fun l f hv => ?_⟩
    · rcases back0 c hc with hc | rfl
      · obtain ⟨p1, p2, p3, p4, p5⟩ := l1 c hc
        unfold XCh
        rw [oI 0 c 0 hc (by omega), oF' 0 c hc, gT' c hc.1]
        refine ⟨p1, up _ _ p2, fun d hd => ?_, fun f hf => ?_, fun f hf => ?_⟩
        · obtain ⟨z1, z2, z3, z4⟩ := p3 d hd
          exact ⟨up _ _ z1, by rw [gS' d z1.1, gS' c hc.1]; exact z2, by rw [gT' d z1.1]; exact z3, by rw [oI 0 d 0 z1 (by omega)]; exact z4⟩
        · exact ⟨(gV' _ _).mpr (p4 f hf).1, by rw [vF _ _ (p4 f hf).1]; exact (p4 f hf).2⟩
        · exact ⟨(gV' _ _).mpr (p5 f hf).1, by rw [vF _ _ (p5 f hf).1]; exact (p5 f hf).2⟩
      · unfold XCh
        rw [i1 c 0 (by omega), n15, n16, n17, n18, gTr]
        exact ⟨⟨by decide, by decide⟩, n5, fun d hd => absurd hd (by simp), fun d hd => absurd hd (by simp), fun d hd => absurd hd (by simp)⟩
    · have hy' := back 4 y (by decide) (by decide) (by decide) hy
      obtain ⟨p1, p2, p3⟩ := l2 y hy'
      unfold XIx
      rw [oI 4 y 0 hy' (by omega), oE 4 y 1 hy' (by omega), gU']
      refine ⟨p1, up _ _ p2, fun i c hc => ?_⟩
      obtain ⟨z1, z2, z3⟩ := p3 i c hc
      exact ⟨up _ _ z1, by rw [gT' c z1.1]; exact z2, by rw [oI 0 c 0 z1 (by omega)]; exact z3⟩
    · rcases back10 t ht with ht | rfl
      · obtain ⟨p1, p2, ⟨r', p3, p4, p5, p6⟩, p7⟩ := l3 t ht
        unfold XTb
        rw [oI 10 t 1 ht (by omega), oI 10 t 5 ht (by omega), oF' 10 t ht, oE 10 t 3 ht (by omega)]
        refine ⟨p1, p2, ⟨r', p3, up _ _ p4, by rw [gT' r' p4.1]; exact p5, by rw [oI 0 r' 0 p4 (by omega)]; exact p6⟩, fun k y hy => ?_⟩
        obtain ⟨z1, z2, z3, z4⟩ := p7 k y hy
        exact ⟨up _ _ z1, by rw [gU']; exact z2, by rw [oI 4 y 0 z1 (by omega)]; exact z3, z4⟩
      · unfold XTb
        rw [i1 t 1 (by omega), i1 t 5 (by omega), n11, n12, n13, e1 t 3 (by omega)]
        exact ⟨hm, ⟨by decide, by decide⟩, ⟨r, rfl, n6, gTr, by rw [i1 r 0 (by omega)]; exact n15⟩, fun k y hy => by rw [n14] at hy; exact absurd hy (by simp)⟩
    · have hv2 := (gV' _ _).mp hv
      obtain ⟨p1, ⟨t, p2, p3⟩, p4⟩ := l4 l f hv2
      unfold XV
      rw [vF _ _ hv2, oE 1 f 1 p1 (by omega)]
      refine ⟨up _ _ p1, ⟨t, p2, up _ _ p3⟩, fun f' hf' => ?_⟩
      obtain ⟨z1, z2, z3⟩ := p4 f' hf'
      exact ⟨(gV' _ _).mpr z1, by rw [vF _ _ z1]; exact z2, by rw [gR', gR']; exact z3⟩
  have hfd : ∀ n r w, Rf b 0 r → Fdn I F n r w → Fdn I2 F' n r w := fun n r w hr h => Fd_mono hL (fun c hc => ⟨oI 0 c 1 hc (by omega), by rw [oF' 0 c hc]⟩) hr h
  have hr : I s 3 + 1 - 1 ≠ -1 := fun z => by
    have e5 : (I s 3 + 1 - 1).toInt = (I s 3).toInt + 1 - 1 := i_sub e4 (by decide) (by omega)
    rw [z] at e5
    have : (-1 : Int32).toInt = -1 := by decide
    omega
  refine hQ _ b' g' I2 F' A' E2 hr ⟨n1, ⟨hL', ⟨fun l f hv => ⟨(gV' _ _).mpr (hVC.1 l f ((gV' _ _).mp hv)).1, (hVC.1 l f ((gV' _ _).mp hv)).2⟩, fun k f t hk hv ht hx => ?_⟩, ⟨fun f t hv ht => ?_, ?_⟩, ⟨fun k f t x hk hv ht hx => ?_, fun c hc => ?_⟩, ⟨s3', ?_, ?_, ?_, ?_, fun f hv => ?_⟩, ⟨?_, fun i hi => ?_, fun i t ht => ?_⟩⟩, ?_, fun i f hi hf => ?_, ?_, ?_, ?_, ?_, ?_, fun x hx => ?_, fun t ht => ?_, fun i hi => ?_⟩ ?_
  · have hv2 := (gV' _ _).mp hv
    rw [vF _ _ hv2] at ht
    rw [oE 10 t 3 (tF _ _ _ hv2 ht) (by omega), gV']
    exact hVC.2 k f t hk hv2 ht hx
  · have hv2 := (gV' _ _).mp hv
    rw [vF _ _ hv2] at ht
    have htt := tF _ _ _ hv2 ht
    rcases hP.1 f t hv2 ht with ⟨r', z1, z2⟩ | ⟨p, z1, z2, z3⟩
    · obtain ⟨-, -, ⟨r'', y1, y2, -⟩, -⟩ := l3 t htt
      rw [z1] at y1; cases y1
      exact Or.inl ⟨r', by rw [oF' 10 t htt]; exact z1, by rw [oF' 0 r' y2]; exact z2⟩
    · exact Or.inr ⟨p, (gV' _ _).mpr z1, by rw [vF _ _ z1]; exact z2, by rw [oE 1 p 1 (l4 _ _ z1).1 (by omega)]; exact z3⟩
  · obtain ⟨B, hB⟩ := hP.2
    exact ⟨B, fun f hf => by rw [gR']; exact hB f ((gV' _ _).mp hf)⟩
  · have hv2 := (gV' _ _).mp hv
    rw [vF _ _ hv2] at ht
    have htt := tF _ _ _ hv2 ht
    rw [oE 10 t 3 htt (by omega)] at hx
    obtain ⟨n, hn⟩ := hC.1 k f t x hk hv2 ht hx
    obtain ⟨x1, -⟩ := (l3 t htt).2.2.2 k x hx
    rw [oA 1 f (l4 _ _ hv2).1, oE 4 x 1 x1 (by omega)]
    exact ⟨n, hfd n _ _ (fun c hc => ((l2 x x1).2.2 _ c hc).1) hn⟩
  · rcases back0 c hc with hc | rfl
    · exact RC_eq hC.2 hL up (fun c hc => gT' c hc.1) (fun x _ => gU' x) (fun t ht => by rw [oF' 10 t ht]) (fun c hc => by rw [oF' 0 c hc]) (fun x hx => oE 4 x 1 hx (by omega)) c hc
    · rw [gTr]; exact Or.inl n13
  · rw [oI 9 s 4 s3 (by omega)]; exact hKP.2.1
  · rw [oI 9 s 4 s3 (by omega), oE 9 s 1 s3 (by omega)]; exact hKP.2.2.1
  · rw [oE 9 s 1 s3 (by omega)]; exact fun i f hf => up _ _ (hKP.2.2.2.1 i f hf)
  · rw [oE 9 s 1 s3 (by omega)]; exact hKP.2.2.2.2.1
  · rw [oI 9 s 4 s3 (by omega), oE 9 s 1 s3 (by omega)]; exact hKP.2.2.2.2.2 f ((gV' _ _).mp hv)
  · rw [i2, e4]; exact ⟨by omega, by omega⟩
  · rw [i2, e4] at hi
    rw [e2]
    by_cases hq : i = ix (I s 3)
    · rw [hq, va_up_self]; simp
    · rw [va_up_ne _ _ hq]; exact hTS.2.1 i (by omega)
  · rw [e2] at ht
    by_cases hq : i = ix (I s 3)
    · rw [hq, va_up_self] at ht; cases ht; exact n5
    · rw [va_up_ne _ _ hq] at ht; exact up _ _ (hTS.2.2 i t ht)
  · exact SK_fr hSK up (fun c a hc ha => back c a (by rintro rfl; simp at hc) (by rintro rfl; simp at hc) (by simp only [List.mem_cons, List.not_mem_nil, or_false] at hc; omega) ha) (fun c a j ha _ => by rw [oF' c a ha]) (fun c a j ha hr => oE c a j ha (by rintro ⟨rfl, -⟩; simp at hr))
  · rw [oI 9 s 4 s3 (by omega)] at hi
    rw [oE 9 s 1 s3 (by omega)] at hf
    obtain ⟨t, z1, z2⟩ := hTY i f hi hf
    exact ⟨t, by rw [oF' 1 f (hKP.2.2.2.1 i f hf)]; exact z1, up _ _ z2⟩
  · unfold HI
    rw [oI 3 h 3 s5 (by omega), oI 3 h 4 s5 (by omega), oE 3 h 0 s5 (by omega), oA 3 h s5]
    refine ⟨hHI.1, hHI.2.1, fun i hi => ?_, hHI.2.2.2⟩
    obtain ⟨f, z1, z2, z3, z4⟩ := hHI.2.2.1 i hi
    exact ⟨f, z1, up _ _ z2, z3.imp (gV' _ _).mpr id, by rw [oF' 1 f z2]; exact fun z f' hf' => (gV' _ _).mpr (z4 z f' hf')⟩
  · unfold CU
    rw [oA 11 o s1, oE 11 o 3 s1 (by omega)]
    intro i hi ho
    obtain ⟨l, z1, z2, t', z3, z4, z5⟩ := hCU i hi ho
    refine ⟨l, z1, up _ _ z2, t', by rw [oF' 5 l z2]; exact z3, up _ _ z4, fun f' hf' => ?_⟩
    rw [oF' 5 l z2] at hf'
    obtain ⟨z6, z7⟩ := z5 f' hf'
    exact ⟨(gV' _ _).mpr z6, by rw [vF _ _ z6]; exact z7⟩
  · unfold KN
    rw [oI 11 o 9 s1 (by omega), oI 11 o 10 s1 (by omega)]; exact hKN
  · have en : NK s E2 = NK s E := by unfold NK; rw [oE 9 s 1 s3 (by omega)]
    have ei : NI s E2 = NI s E := by
      refine cnt_congr (fun i _ => ?_)
      rw [e2]
      by_cases hq : i / 4 = ix (I s 3)
      · rw [hq, va_up_self, hvv.2.2.2 (ix (I s 3)) (by omega)]
        dsimp only
        rw [e1 q 3 (by omega), n14]; rfl
      · rw [va_up_ne _ _ hq]
        cases he : E s 0 (i / 4) with
        | none => rfl
        | some t => dsimp only; rw [oE 10 t 3 (hTS.2.2 _ t he) (by omega)]
    unfold BU
    rw [en, ei, n8, n9]; omega
  · exact ⟨by rw [oA 11 o s1]; exact hvv.1.1, GO_fr hvv.1.2 (fun q hq => back 2 q (by decide) (by decide) (by decide) hq) (fun q hq => oI 2 q 5 hq (by omega)) (fun q hq => by rw [oA 2 q hq]; exact ⟨rfl, rfl⟩)⟩
  · have hx' := back 4 x (by decide) (by decide) (by decide) hx
    rw [gU', oI 4 x 0 hx' (by omega), oE 10 _ 3 (l2 x hx').2.1 (by omega)]
    exact hvv.2.1 x hx'
  · rw [i2, e4, e2]
    rcases back10 t ht with ht | rfl
    · obtain ⟨i, z1, z2⟩ := hvv.2.2.1 t ht
      exact ⟨i, by omega, by rw [va_up_ne _ _ (by omega)]; exact z2⟩
    · exact ⟨ix (I s 3), by omega, va_up_self _ _ _⟩
  · rw [i2, e4] at hi
    rw [e2, va_up_ne _ _ (by omega)]
    exact hvv.2.2.2 i (by omega)
  · funext j; exact oI 3 h j s5 (by omega)
end C18
