set_option linter.unusedVariables false
set_option linter.unusedSimpArgs false
section C13
variable {b : CT} {g : Gh} {o s h N : Nat} {vv : Nat → Int32} {I : Nat → Nat → Int32} {F : Nat → Nat → Option Nat} {A : Nat → Nat → Nat → Int32} {E : Nat → Nat → Nat → Option Nat} {X : String → HS → Prop} {Q : HS → Prop} {QF : Option Nat → HS → Prop}
/-- the fact in the slot is made one of the table t -/
theorem KV_come (hk : KV b g o s h vv I F A E N NW) {b1 : CT} {f t : Nat} {I1 I4 : Nat → Nat → Int32} {F1 F2 : Nat → Nat → Option Nat} {A1 A4 : Nat → Nat → Nat → Int32} {E1 : Nat → Nat → Nat → Option Nat} (hK : (I s 4).toInt < 3000) (hc : Co1 b b1 g s f (ix (I s 4)) I I1 F F1 A A1 E E1) (hB : BU b1 s E1 N) (ht : Is b 10 t)
    (i1 : ∀ a j, a ≠ f → ¬ (a = s ∧ (j = 4 ∨ j = 5 ∨ j = 6)) → I4 a j = I1 a j) (i2 : I4 s 4 = I s 4 + 1) (f1 : ∀ a, a ≠ f → F2 a = F1 a) (f2 : F2 f 2 = some t) (a1 : ∀ a, a ≠ f → A4 a = A1 a) : KV b1 g o s h vv I4 F2 A4 E1 N NW := by
  obtain ⟨hb, hCo, hSK, hTY, hHI, hCU, hKN, hBU, hvv⟩ := hk
  obtain ⟨s1, s2, s3, s4, s5, s6, s7, s8, s9, s10, s11, s12⟩ := id hSK
  obtain ⟨hL, hVC, -, -, hKP, hTS⟩ := id hCo
  obtain ⟨-, ⟨k1, k2⟩, k3, k4, k5, k6⟩ := id hKP
  obtain ⟨c1, c2, c3, c4, c5, c6, c7, c8, c9⟩ := hc
  have hKi : ((ix (I s 4) : Nat) : Int) = (I s 4).toInt := ix_int k1
  have hK1 : (I s 4 + 1).toInt = (I s 4).toInt + 1 := i_add rfl (by decide) (by omega)
  have nf : ∀ c a, Is b c a → c ≠ 1 → a ≠ f := fun c a ha hc z => by
    have h1 := c2.1 _ _ ha
    rw [z] at h1
    exact hc (by rw [← h1.2, c7.2])
  have nV : ∀ l a, g.V l a → a ≠ f := fun l a ha z => c8 (by rw [← z]; exact (hVC.1 l a ha).1)
  have oI : ∀ c a j, Is b c a → c ≠ 1 → c ≠ 9 → I4 a j = I a j := fun c a j ha h1 h9 => by
    rw [i1 a j (nf c a ha h1) (fun z => Is_ne ha s3 h9 z.1), (c4 a ha.1).1]
  have oF' : ∀ c a, Is b c a → c ≠ 1 → F2 a = F a := fun c a ha h1 => by rw [f1 a (nf c a ha h1), (c4 a ha.1).2.1]
  have oA : ∀ c a, Is b c a → c ≠ 1 → A4 a = A a := fun c a ha h1 => by rw [a1 a (nf c a ha h1), (c4 a ha.1).2.2.1]
  have oE : ∀ c a, Is b c a → c ≠ 9 → E1 a = E a := fun c a ha h9 => (c4 a ha.1).2.2.2 (Is_ne ha s3 h9)
  have back : ∀ c a, c ≠ 1 → c < 20 → Is b1 c a → Is b c a := fun c a h1 h2 ha => by
    rcases c3 c a ha with h | ⟨-, h | h⟩
    · exact h
    · exact absurd h.2 h1
    · omega
  have vLP : ∀ l a, g.V l a → a ∈ b.B.LP := fun l a hv => (hL.2.2.2 _ _ hv).1.1
  have s3' := c2.1 _ _ s3
  refine ⟨c1, Core_gen hCo c2.1 (fun c a hc ha => back c a (by rintro rfl; exact absurd hc (by decide)) (by simp only [List.mem_cons, List.not_mem_nil, or_false] at hc; omega) ha) (fun c a j ha hr => oI c a j ha (by rintro rfl; simp at hr) (by rintro rfl; simp at hr)) (fun c a j ha hr => by rw [oF' c a ha (by rintro rfl; simp at hr)]) (fun c a j ha hr => by rw [oE c a ha (by rintro rfl; simp at hr)]) (fun l f' hv => ?_) ⟨s3', ?_, fun i hi => ?_, fun i f' hf' => ?_, fun i j f' hi hj h1 h2 => ?_, fun f' hv => ?_⟩ ⟨?_, fun i hi => ?_, fun i t' ht' => ?_⟩, ?_, fun i f' hi hf' => ?_, ?_, ?_, ?_, hB, ?_⟩
  · have hne := nV l f' hv
    have hm := vLP l f' hv
    rw [f1 f' hne, a1 f' hne, (c4 f' hm).2.1, (c4 f' hm).2.2.1, (c4 f' hm).2.2.2 (Is_ne (hL.2.2.2 _ _ hv).1 s3 (by decide))]
    exact ⟨rfl, rfl, rfl⟩
  · rw [i2, hK1]; exact ⟨by omega, by omega⟩
  · rw [i2, hK1] at hi
    rw [c6]
    by_cases hq : i = ix (I s 4)
    · rw [hq, va_up_self]; simp
    · rw [va_up_ne _ _ hq]; exact k3 i (by omega)
  · rw [c6] at hf'
    by_cases hq : i = ix (I s 4)
    · rw [hq, va_up_self] at hf'; cases hf'; exact c7
    · rw [va_up_ne _ _ hq] at hf'; exact c2.1 _ _ (k4 i f' hf')
  · rw [c6] at h1 h2
    by_cases hqi : i = ix (I s 4)
    · by_cases hqj : j = ix (I s 4)
      · rw [hqi, hqj]
      · rw [hqi, va_up_self] at h1; cases h1
        rw [va_up_ne _ _ hqj] at h2
        rw [c9 j hj h2, hqi]
    · rw [va_up_ne _ _ hqi] at h1
      by_cases hqj : j = ix (I s 4)
      · rw [hqj, va_up_self] at h2; cases h2
        rw [c9 i hi h1, hqj]
      · rw [va_up_ne _ _ hqj] at h2
        exact k5 i j f' hi hj h1 h2
  · obtain ⟨i, h1, h2⟩ := k6 f' hv
    refine ⟨i, by rw [i2, hK1]; omega, ?_⟩
    rw [c6, va_up_ne _ _ (by omega)]; exact h2
  · have : I4 s 3 = I s 3 := by rw [i1 s 3 (nf 9 s s3 (by decide)) (by omega), (c4 s s3.1).1]
    rw [this]; exact hTS.1
  · have : I4 s 3 = I s 3 := by rw [i1 s 3 (nf 9 s s3 (by decide)) (by omega), (c4 s s3.1).1]
    rw [this] at hi
    rw [c5]; exact hTS.2.1 i hi
  · rw [c5] at ht'; exact c2.1 _ _ (hTS.2.2 i t' ht')
  · unfold SK
    rw [oF' 11 o s1 (by decide), oF' 9 s s3 (by decide), oE 11 o s1 (by decide)]
    have ex : ∀ {c : Nat} {u : Option Nat}, (∃ l, u = some l ∧ Is b c l) → ∃ l, u = some l ∧ Is b1 c l := fun ⟨l, z1, z2⟩ => ⟨l, z1, c2.1 _ _ z2⟩
    refine ⟨c2.1 _ _ s1, s2, s3', s4, c2.1 _ _ s5, ex s6, ex s7, ex s8, fun i hi => ex (s9 i hi), fun a ha => s10 a (back 9 a (by decide) (by decide) ha), fun r hr i hi => ?_, fun v hv => ?_⟩
    · have hr' := back 6 r (by decide) (by decide) hr
      rw [oE 6 r hr' (by decide)]; exact ex (s11 r hr' i hi)
    · have hv' := back 8 v (by decide) (by decide) hv
      rw [oF' 8 v hv' (by decide), oE 8 v hv' (by decide)]
      exact ⟨ex (s12 v hv').1, ex (s12 v hv').2.1, fun i hi => ex ((s12 v hv').2.2 i hi)⟩
  · rw [i2, hK1] at hi
    rw [c6] at hf'
    by_cases hq : i = ix (I s 4)
    · rw [hq, va_up_self] at hf'; cases hf'
      exact ⟨t, f2, c2.1 _ _ ht⟩
    · rw [va_up_ne _ _ hq] at hf'
      have hne : f' ≠ f := fun z => hq (c9 i (by omega) (by rw [← z]; exact hf'))
      obtain ⟨t', z1, z2⟩ := hTY i f' (by omega) hf'
      exact ⟨t', by rw [f1 f' hne, (c4 f' (k4 i f' hf').1).2.1]; exact z1, c2.1 _ _ z2⟩
  · unfold HI
    rw [oI 3 h 3 s5 (by decide) (by decide), oI 3 h 4 s5 (by decide) (by decide), oE 3 h s5 (by decide), oA 3 h s5 (by decide)]
    refine ⟨hHI.1, hHI.2.1, fun i hi => ?_, hHI.2.2.2⟩
    obtain ⟨f', z1, z2, z3, z4⟩ := hHI.2.2.1 i hi
    have hv := z3.resolve_right (fun z => z)
    exact ⟨f', z1, c2.1 _ _ z2, Or.inl hv, by rw [f1 f' (nV 4 f' hv), (c4 f' z2.1).2.1]; exact z4⟩
  · unfold CU
    rw [oA 11 o s1 (by decide), oE 11 o s1 (by decide)]
    intro i hi ho
    obtain ⟨l, z1, z2, t', z3, z4, z5⟩ := hCU i hi ho
    refine ⟨l, z1, c2.1 _ _ z2, t', by rw [oF' 5 l z2 (by decide)]; exact z3, c2.1 _ _ z4, fun f' hf' => ?_⟩
    rw [oF' 5 l z2 (by decide)] at hf'
    obtain ⟨z6, z7⟩ := z5 f' hf'
    exact ⟨z6, by rw [f1 f' (nV 4 f' z6), (c4 f' (vLP 4 f' z6)).2.1]; exact z7⟩
  · unfold KN
    rw [oI 11 o 9 s1 (by decide) (by decide), oI 11 o 10 s1 (by decide) (by decide)]; exact hKN
  · refine ⟨⟨by rw [oA 11 o s1 (by decide)]; exact hvv.1.1, GO_fr hvv.1.2 (fun q hq => back 2 q (by decide) (by decide) hq) (fun q hq => oI 2 q 5 hq (by decide) (by decide)) (fun q hq => by rw [oA 2 q hq (by decide)]; exact ⟨rfl, rfl⟩)⟩, fun x hx => ?_, ?_⟩
    rotate_left
    · have : I4 s 3 = I s 3 := by rw [i1 s 3 (nf 9 s s3 (by decide)) (by omega), (c4 s s3.1).1]
      rw [this, c5]; exact ⟨fun t' ht' => hvv.2.2.1 t' (back 10 t' (by decide) (by decide) ht'), hvv.2.2.2⟩
    have hx' := back 4 x (by decide) (by decide) hx
    rw [oI 4 x 0 hx' (by decide) (by decide), oE 10 _ (hL.2.1 x hx').2.1 (by decide)]
    exact hvv.2.1 x hx'
theorem c_come (hk : KV b g o s h vv I F A E N NW) {t ca a j : Nat} (ht : Is b 10 t) (ha : Is b ca a) (h20 : oF ca j = 20) (h4 : oL ca j = 4) (hca : ca ≠ 1 ∨ g.V 4 a)
    (hQn : QF none (cS b I F A E)) (hQ : ∀ f b' I' F' A' E', KV b' g o s h vv I' F' A' E' N (fun a => a = f) → Xt b b' → Is b' 1 f → ¬ g.V 4 f → F' f 2 = some t → (∀ k : Nat, k < 4 → A' f 0 k = if (k : Int) < (I t 1).toInt then A a j k else 0) → (∃ i : Nat, (i : Int) < (I' s 4).toInt ∧ E' s 1 i = some f) → (∀ c x, Is b c x → x ≠ f → F' x = F x) → (∀ c x, Is b c x → x ≠ f → c ≠ 3 → A' x = A x) → (∀ c x, Is b c x → c ∉ [1, 3, 9] → I' x = I x) → I' h 4 = I h 4 → HLe h I I' → QF (some f) (cS b' I' F' A' E')) : w_X9_come (some s) (some t) (some (b.ad a j)) (cS b I F A E) QF X := by
  have hb := hk.1
  obtain ⟨s1, s2, s3, s4, s5, -⟩ := id hk.2.2.1
  obtain ⟨hL, hVC, -, -, hKP, hTS⟩ := id hk.2.1
  obtain ⟨-, ⟨k1, k2⟩, -⟩ := id hKP
  simp only [w_X9_come, cw hb, s3]
  refine ⟨fun hlt => ?_, fun _ => hQn⟩
  have hK : (I s 4).toInt < 3000 := by simp only [i32, Int32.reduceToInt] at hlt; exact hlt
  have hin : wIn (I s 4) 3000 := ⟨k1, by omega⟩
  refine ⟨hin, ?_⟩
  refine wJoin_i (fun K => ∀ f b1 I1 F1 A1 E1, Co1 b b1 g s f (ix (I s 4)) I I1 F F1 A A1 E E1 → BU b1 s E1 N → K (cS b1 I1 F1 A1 E1)) (fun f b1 I1 F1 A1 E1 hc hB => ?_) (fun K hK2 => ?_)
  · obtain ⟨c1, c2, c3, c4, c5, c6, c7, c8, c9⟩ := id hc
    have s3' := c2.1 _ _ s3
    have ht' := c2.1 _ _ ht
    have s5' := c2.1 _ _ s5
    have eK : I1 s 4 = I s 4 := by rw [(c4 s s3.1).1]
    have eEf : E1 s 1 (ix (I s 4)) = some f := by rw [c6, va_up_self]
    have hsf : s ≠ f := Is_ne s3' c7 (by decide)
    have hfs : f ≠ s := fun z => hsf z.symm
    have htf : t ≠ f := Is_ne ht' c7 (by decide)
    have hts : t ≠ s := Is_ne ht' s3' (by decide)
    have ha' := c2.1 _ _ ha
    have haf : ¬ (a = f ∧ j = 0) := by
      rintro ⟨rfl, -⟩
      rcases hca with h | h
      · exact h (by rw [← ha'.2, c7.2])
      · exact c8 h
    have hoF0 : oF 1 0 = 20 := by decide
    have ead : b.ad a j = b1.ad a j := (c2.2 a j ha.1).symm
    simp only [cw c1, s3', eK, hin, true_and, eEf, c7]
    generalize hI3 : up2 (up2 (up2 (up2 (up2 I1 s 4 _) s 6 _) f 4 _) f 5 _) f 6 _ = I3
    have i1 : ∀ a j, a ≠ f → ¬ (a = s ∧ (j = 4 ∨ j = 5 ∨ j = 6)) → I3 a j = I1 a j := fun a j h1 h2 => by
      rw [← hI3, up2_a _ _ _ _ h1, up2_a _ _ _ _ h1, up2_a _ _ _ _ h1]
      unfold up2
      rw [if_neg (fun z => h2 ⟨z.1, Or.inr (Or.inr z.2)⟩), if_neg (fun z => h2 ⟨z.1, Or.inl z.2⟩)]
    have i2 : I3 s 4 = I s 4 + 1 := by
      rw [← hI3, up2_a _ _ _ _ hsf, up2_a _ _ _ _ hsf, up2_a _ _ _ _ hsf, up2_k _ _ _ _ (by decide), up2_self]
    clear hI3
    generalize hF2 : up2 (up2 F1 f 2 (some t)) f 3 none = F2
    have f1 : ∀ a, a ≠ f → F2 a = F1 a := fun a h1 => by
      funext j; rw [← hF2, up2_a _ _ _ _ h1, up2_a _ _ _ _ h1]
    have f2 : F2 f 2 = some t := by rw [← hF2, up2_k _ _ _ _ (by decide), up2_self]
    have f3 : F2 f 3 = none := by rw [← hF2, up2_self]
    clear hF2
    have et1 : I3 t 1 = I t 1 := by rw [i1 t 1 htf (fun z => hts z.1), (c4 t ht.1).1]
    have hcols := (hL.2.2.1 t ht).1
    refine wLoop_i (fun n v x => ∃ A', x = cS b1 I3 F2 A' E1 ∧ Ol f A1 A' ∧ (∀ k : Nat, (k : Int) < v.toInt → A' f 0 k = if (k : Int) < (I t 1).toInt then A a j k else 0) ∧ 0 ≤ v.toInt ∧ v.toInt ≤ 4 ∧ n = (4 - v.toInt).toNat) 4 ⟨A1, rfl, Ol_rf, fun k hk => absurd hk (by simp only [Int32.reduceToInt]; omega), by decide, by decide, by decide⟩ ?_
    rintro n v x again hag ⟨A', rfl, p1, p2, p3, p4, p5⟩
    refine ⟨fun hv => ?_, fun hv => ?_⟩
    · have hv4 : v.toInt = 4 := by simp only [i32, Int32.reduceToInt] at hv; omega
      have es2 : F2 s 2 = some h := by rw [f1 s hsf, (c4 s s3.1).2.1]; exact s4
      simp only [cw c1, s3', es2, s5']
      have hk1 := KV_come (I4 := up2 I3 s 5 (I3 s 5 + 1)) (F2 := F2) (A4 := A') hk hK hc hB ht (fun a j h1 h2 => by
        rw [← i1 a j h1 h2]
        exact if_neg (fun z => h2 ⟨z.1, Or.inr (Or.inl z.2)⟩)) (by rw [up2_k _ _ _ _ (by decide)]; exact i2) f1 f2 p1
      refine c_note c1 s5' c7 hk1.2.2.2.2.1 (Or.inl rfl) (W' := fun a => a = f) (fun a z => absurd z id) (Or.inr rfl) (fun _ f' hf' => by rw [f3] at hf'; exact absurd hf' (by simp)) (fun I' A'' E' y1 y2 y3 y4 y5 y6 => ?_)
      have hsh : s ≠ h := Is_ne s3' s5' (by decide)
      have hfh : f ≠ h := Is_ne c7 s5' (by decide)
      have hhs : h ≠ s := fun z => hsh z.symm
      have hhf : h ≠ f := fun z => hfh z.symm
      have ehI : ∀ j, up2 I3 s 5 (I3 s 5 + 1) h j = I h j := fun j => by
        rw [up2_a _ _ _ _ hhs, i1 h j hhf (fun z => hhs z.1), (c4 h s5.1).1]
      refine hQ f b1 I' F2 A'' E' (KV_h hk1 y1 y2 y3 y6) c2 c7 c8 f2 (fun k hk4 => ?_) ⟨ix (I s 4), ?_, ?_⟩ (fun c x hx hxf => ?_) (fun c x hx hxf hc3 => ?_) (fun c x hx hc139 => ?_) ?_ ?_
      · rw [y2 f hfh]; exact p2 k (by omega)
      · have hKi : ((ix (I s 4) : Nat) : Int) = (I s 4).toInt := ix_int k1
        have hK1 : (I s 4 + 1).toInt = (I s 4).toInt + 1 := i_add rfl (by decide) (by omega)
        rw [y1 s hsh, up2_k _ _ _ _ (by decide), i2, hK1]; omega
      · rw [y3 s hsh]; exact eEf
      · rw [f1 x hxf, (c4 x hx.1).2.1]
      · rw [y2 x (Is_ne hx s5 hc3), p1 x hxf, (c4 x hx.1).2.2.1]
      · simp only [List.mem_cons, List.not_mem_nil, or_false, not_or] at hc139
        rw [y1 x (Is_ne hx s5 hc139.2.1)]
        funext j'
        have hxf : x ≠ f := Is_ne (c2.1 _ _ hx) c7 hc139.1
        have hxs : x ≠ s := Is_ne hx s3 hc139.2.2
        rw [up2_a _ _ _ _ hxs, i1 x j' hxf (fun z => hxs z.1), (c4 x hx.1).1]
      · rw [y4, ehI]
      · unfold HLe at y5 ⊢; rw [ehI, ehI] at y5; exact y5
    · have hv4 : v.toInt < 4 := by simp only [i32, Int32.reduceToInt] at hv; omega
      have ev : (v + 1).toInt = v.toInt + 1 := i_add rfl (by decide) (by omega)
      have hvi : ((ix v : Nat) : Int) = v.toInt := ix_int p3
      have hvin : wIn v 4 := ⟨p3, by omega⟩
      have hgo : ∀ u, (u = if v.toInt < (I t 1).toInt then A a j (ix v) else 0) → again (v + 1) (cS b1 I3 F2 (up3 A' f 0 (ix v) u) E1) := fun u hu => hag _ _ _ (by omega) ⟨_, rfl, Ol_up3 p1, fun k hk5 => by
        rw [up3_at]
        by_cases hq : k = ix v
        · rw [hq, va_up_self, hu, hvi]
        · rw [va_up_ne _ _ hq]; exact p2 k (by omega), by omega, by omega, rfl⟩
      simp only [cw c1, c7, ht', et1, hvin, true_and]
      refine wJoin_i (fun K => ∀ u, (u = if v.toInt < (I t 1).toInt then A a j (ix v) else 0) → K u (cS b1 I3 F2 A' E1)) (fun u hu => ?_) (fun K hK3 => ⟨fun hge => hK3 _ ?_, fun hlt2 => ?_⟩)
      · simp only [cw c1, c7, hvin, true_and]
        exact hgo u hu
      · rw [if_neg]; simp only [i32] at hge; omega
      · rw [ead, c_ald c1 ha' h20 (by decide), h4]
        refine ⟨hvin, hK3 _ ?_⟩
        have : v.toInt < (I t 1).toInt := by simp only [i32] at hlt2; omega
        rw [if_pos this]
        have : A' a j = A a j := by
          by_cases hq : a = f
          · -- its own row of columns is another
            rw [hq] at ha'
            rcases hca with h | h
            · exact absurd (by rw [← ha'.2, c7.2]) h
            · rw [hq] at h; exact absurd h c8
          · rw [p1 a hq, (c4 a ha.1).2.2.1]
        rw [this]
  · have := c_come1 hk hK (v4 := E s 1 (ix (I s 4))) rfl (Z := K) hK2
    simp only [cw hb, s3] at this
    exact this
end C13
