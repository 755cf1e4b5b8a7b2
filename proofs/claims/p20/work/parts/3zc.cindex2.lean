set_option linter.unusedVariables false
set_option linter.unusedSimpArgs false
/-! the class: index -/
section VZC
variable {b b' : CT} {I I' : Nat → Nat → Int32} {F F' : Nat → Nat → Option Nat} {A A' : Nat → Nat → Nat → Int32} {E E' : Nat → Nat → Nat → Option Nat} {o t n n' k f p j ci s h l N w : Nat} {a c : AS} {g : CGs} {x y : HS} {X X' : String → HS → Prop} {Q Q' : HS → Prop} {QI QI' : Int32 → HS → Prop} {QF QF' : Option Nat → HS → Prop}
theorem qc_newIndex (hb : CB b) {k : Int32} {Z Z' : Option Nat → HS → Prop} (hZ : ∀ q b' I' F' A' E', CB b' → Xt b b' → q ∉ b.B.LP → Is b' 4 q → (∀ c a, Is b' c a → Is b c a ∨ a = q ∧ c = 4 ∨ a ∉ b.B.LP ∧ 20 ≤ c) → (∀ a, a ∈ b.B.LP → I' a = I a ∧ F' a = F a ∧ A' a = A a ∧ E' a = E a) → I' q 0 = k → (∀ i, E' q 1 i = none) → Z (some q) (cS b' I' F' A' E') → Z' (some q) (cS b' I' F' A' E')) :
    (wNew (cS b I F A E) 4 2 fun q6 x7 => w_X4_init q6 k x7 (fun x8 => Z q6 x8) (fun _ _ => False)) → (wNew (cS b I F A E) 4 2 fun q6 x7 => w_X4_init q6 k x7 (fun x8 => Z' q6 x8) (fun _ _ => False)) := by
  refine qc_new hb.1 (fun q hq => ?_)
  have x1 := CBX_new (ci := 4) (N := 2) (CBX_nil.mpr hb) hq
  have t1 := Pa_new (ci := 4) (N := 2) hb.1 hq
  have is1 := bnew_Is (ci := 4) (N := 2) hq
  have q1 : Is (bnew b q 4 2) 4 q := (is1 4 q).mpr (Or.inr ⟨rfl, rfl⟩)
  unfold w_X4_init
  refine q_ref ?_
  refine qc_newG (j := 1) (N := 64) x1.1 q1 (Pa_no t1 (by decide)) (by decide) (fun p e hp => ?_)
  obtain ⟨x2, t2⟩ := Pa_arr (kd := 29) (N := 64) x1 q1 t1 List.mem_cons_self hp (j := 1) (by decide) (by decide) (by decide) (by decide)
  have is2 := barr_Is (b := bnew b q 4 2) (q := q) (j := 1) (kd := 29) (N := 64) hp
  have q2 := (is2 4 q).mpr (Or.inl q1)
  have x3 := CBX_nil.mp (Pa_end x2 t2 q2 oF4)
  refine qc_putI (fun _ => ?_)
  have l1 : ∀ a, a ∈ b.B.LP → a ≠ q := fun a ha => bnew_k hq ha
  refine hZ q _ _ _ _ _ x3 ⟨fun c a h => (is2 c a).mpr (Or.inl ((is1 c a).mpr (Or.inl h))), fun a j ha => ?_⟩ hq q2 (fun c a h => ?_) (fun a ha => ⟨?_, ?_, ?_, ?_⟩) ?_ ?_
  · show up2 (fun a j => (bnew b q 4 2).ad a j) q 1 p a j = b.ad a j
    rw [up2_a _ _ _ _ (l1 a ha)]; rfl
  · rcases (is2 c a).mp h with h | ⟨rfl, rfl⟩
    · rcases (is1 c a).mp h with h | ⟨rfl, rfl⟩
      · exact Or.inl h
      · exact Or.inr (Or.inl ⟨rfl, rfl⟩)
    · exact Or.inr (Or.inr ⟨fun z => hp (List.mem_append_left _ z), by decide⟩)
  · funext j; rw [up2_a _ _ _ _ (l1 a ha), va_up_ne _ _ (l1 a ha)]
  · rw [va_up_ne _ _ (l1 a ha)]
  · funext j; rw [up2_a _ _ _ _ (l1 a ha)]
  · funext j; rw [up2_a _ _ _ _ (l1 a ha)]
  · rw [up2_self]
  · intro i; rw [up2_self]
/-- the list of a chain, while the index k of the table t has got the facts C -/
def ixL (a : AS) (t k : Nat) (C : List Nat) (ct : Nat → Nat) (fa : Nat → Nat) (I : Nat → Nat → Int32) (c : Nat) : List Nat := if ct c = t ∧ ix (I c 0) = k then (C.filter fun n => a.fc n k == I c 1).map fa else (rowL a (ct c) (ix (I c 0)) (I c 1)).map fa
theorem qc_makeIndex (hx : CXx o a g b I F A E) (hV : AV a) (ht : inT a t) {kv : Int32} (hkv : kv.toInt = (k : Int)) (hk : (k : Int) < (a.co t).toInt)
    (h0 : ∀ v : Int32, QI v (cS b I F A E) → QI' v (cS b I F A E)) (h1 : ∀ (v : Int32) b' ct' I' F' A' E', CXx o a (g.wfa g.fa ct') b' I' F' A' E' → QI v (cS b' I' F' A' E') → QI' v (cS b' I' F' A' E')) : w_X10_makeIndex (some (g.d t)) kv (cS b I F A E) QI X → w_X10_makeIndex (some (g.d t)) kv (cS b I F A E) QI' X' := by
  obtain ⟨hb, hs, htb, hFa, hR, hK, hN, hH, hC, hO⟩ := id hx
  obtain ⟨t1, t2, t3, t4, t5, t6, t7, t8, t9, t10⟩ := htb.2 t ht
  have hco := (hV.2.1.2 t ht).2.1
  have hk4 : k < 4 := by omega
  unfold w_X10_makeIndex
  dsimp only [wJoin]
  refine qv_if (fun z => ?_) (fun _ => ?_)
  · simp only [i32, Int32.reduceToInt] at z; omega
  refine qc_getI (fun _ => ?_)
  rw [t4]
  refine qv_if (fun z => ?_) (fun _ => ?_)
  · simp only [i32] at z; omega
  refine qc_getA hb (by decide) (fun _ => ?_)
  refine qc_aldG hb t2 (by decide) (by decide) (fun _ => ?_)
  rw [ix_of hkv]
  refine qv_if (fun hno => ?_) (fun _ => qc_bit (h0 0))
  refine qc_newIndex hb (fun q b1 I1 F1 A1 E1 hb1 hXt hq q4 hcl hfr i0 e1 => ?_)
  have up1 : ∀ ci x, Is b ci x → Is b1 ci x := hXt.1
  have ne : ∀ ci x, Is b ci x → x ≠ q := fun ci x hx z => hq (by rw [← z]; exact hx.1)
  have dn : ∀ ci x, Is b1 ci x → ci ≠ 4 → ci < 20 → Is b ci x := fun ci x hx h1 h2 => by
    rcases hcl ci x hx with y | y | y
    · exact y
    · exact absurd y.2 h1
    · omega
  have hd : ∀ t, inT a t → Is b 10 (g.d t) := fun t h => (htb.2 t h).2.1
  have hfa : ∀ t n, n ∈ a.rw t → Is b 1 (g.fa n) := fun t n h => (hFa t n h).1
  -- no chain is there yet
  have noC : ∀ c, Is b 0 c → ¬ (g.ct c = t ∧ ix (I c 0) = k) := fun c hc z => by
    have := (hR.2.1.1 c hc).2.2.2 (by rw [z.2]; exact hk4)
    rw [z.1, z.2] at this
    exact this hno
  have hF1 : ∀ t n, n ∈ a.rw t → CF1 a b1 g.d g.fa I1 F1 A1 t n := fun t n hn => by
    have y := hFa t n hn
    unfold CF1 at y ⊢
    obtain ⟨z1, z2, z3, z4⟩ := hfr _ y.1.1
    rw [z1, z2, z3]
    exact ⟨up1 _ _ y.1, y.2⟩
  have d1 : ∀ t, inT a t → Is b1 10 (g.d t) := fun t h => up1 _ _ (hd t h)
  refine qc_getF hb1 (by decide) (fun _ => ?_)
  rw [(hfr _ t2.1).2.1, t5]
  refine qc_getF hb1 (by decide) (fun _ => ?_)
  rw [(hfr _ t6.1).2.1]
  have hrow := row_LnO hR ⟨t6, t7, t8⟩
  have eE1 : ∀ ci x j, Is b ci x → E1 x j = E x j := fun ci x j hx => by rw [(hfr x hx.1).2.2.2]
  have hrow1 : LnO (fun q => E1 q 1 4) (F (g.r t) 3) ((a.rw t).map g.fa) := LnO_congr (fun qq hqq => by
    obtain ⟨m, hm, rfl⟩ := List.mem_map.mp hqq
    rw [eE1 1 _ 1 (hfa t m hm)]) hrow
  -- while it is filled
  refine qc_loop (fun v b' I' F' A' E' => A' = A1 ∧ ∃ (ct' : Nat → Nat) (C S : List Nat), a.rw t = C ++ S ∧ LnO (fun q => E' q 1 4) v (S.map g.fa) ∧ CB b' ∧ Fr b1 b' I1 I' F1 F' E1 E' ∧ (∀ y, E' y 3 = E1 y 3) ∧ CH1 b' I' F' E' (ixL a t k C ct' g.fa I') ∧ CH2 b' a.tn g.d g.r ct' I' (up3 E' (g.d t) 3 k (some q)) ∧ CH3 b' a.tn a.co g.d ct' I' F' (up3 E' (g.d t) 3 k (some q)) ∧ (∀ c, Is b 0 c → ct' c = g.ct c) ∧ ∀ n, n ∈ C → ∃ c, Is b' 0 c ∧ ct' c = t ∧ ix (I' c 0) = k ∧ I' c 1 = a.fc n k) ⟨rfl, g.ct, [], a.rw t, rfl, hrow1, hb1, Fr_rf, fun _ => rfl, fun c hc => ?_, ⟨fun c hc => ?_, fun c c' hc hc' y1 y2 y3 => ?_⟩, ⟨fun t' k' xx ht' hk' hxx => ?_, fun ta tb ka kb xx hta htb' hka hkb y1 y2 => ?_⟩, fun _ _ => rfl, fun m hm => absurd hm List.not_mem_nil⟩ (fun v b' I' F' A' E' again again' ⟨eA, ct', C, S, s1, s2, hb', hFr, h3e, c1, c2, c3, hct, hex⟩ ha => ?_)
  · have hc0 := dn 0 c hc (by decide) (by decide)
    obtain ⟨z1, z2⟩ := hR.1 c hc0
    show ChL F1 E1 (ix (I1 c 0)) c (ixL a t k [] g.ct g.fa I1 c)
    unfold ixL
    rw [(hfr c hc0.1).1, if_neg (noC c hc0)]
    unfold ChL
    rw [(hfr c hc0.1).2.1]
    refine ⟨LnO_congr (fun qq hqq => ?_) z1, z2⟩
    obtain ⟨m, hm, rfl⟩ := List.mem_map.mp hqq
    rw [eE1 1 _ 1 (hfa _ m (rowL_sub hm).1)]
  · have hc0 := dn 0 c hc (by decide) (by decide)
    obtain ⟨z1, z2, z3, z4⟩ := hR.2.1.1 c hc0
    rw [(hfr c hc0.1).1]
    refine ⟨z1, z2, z3, fun w => ?_⟩
    have := z4 w
    unfold up3
    split
    · simp
    · rw [eE1 10 _ 3 (hd _ z1)]; exact this
  · have w1 := dn 0 c hc (by decide) (by decide)
    have w2 := dn 0 c' hc' (by decide) (by decide)
    rw [(hfr c w1.1).1, (hfr c' w2.1).1] at y2 y3
    exact hR.2.1.2 c c' w1 w2 y1 y2 y3
  · have htt : inT a t' := ht'
    by_cases e : t' = t ∧ k' = k
    · obtain ⟨rfl, rfl⟩ := e
      have exx : up3 E1 (g.d t') 3 k' (some q) (g.d t') 3 k' = some q := if_pos ⟨rfl, rfl, rfl⟩
      rw [exx] at hxx
      cases hxx
      refine ⟨q4, by rw [i0]; exact hkv, hk, fun i hi => ⟨[], ?_, fun c => ⟨fun z => absurd z List.not_mem_nil, fun z => ?_⟩⟩⟩
      · rw [up3_ne (fun z => absurd z.2 (by decide)), e1 i]; rfl
      · have w1 := dn 0 c z.1 (by decide) (by decide)
        have z3 := z.2.2.1
        rw [(hfr c w1.1).1] at z3
        exact absurd ⟨z.2.1, z3⟩ (noC c w1)
    · have exx : up3 E1 (g.d t) 3 k (some q) (g.d t') 3 k' = E (g.d t') 3 k' := by
        have hne : ¬ (g.d t' = g.d t ∧ (3 : Nat) = 3 ∧ k' = k) := fun z => e ⟨by
          have y1 := (htb.2 t' htt).2.2.1
          rw [z.1, t3] at y1; omega, z.2.2⟩
        refine (if_neg hne).trans ?_
        rw [eE1 10 _ 3 (hd t' htt)]
      rw [exx] at hxx
      obtain ⟨z1, z2, z3, z4⟩ := hR.2.2.1.1 t' k' xx ht' hk' hxx
      rw [(hfr xx z1.1).1]
      refine ⟨up1 _ _ z1, z2, z3, fun i hi => ?_⟩
      obtain ⟨Cc, hCc, hm⟩ := z4 i hi
      refine ⟨Cc, ?_, fun c => ?_⟩
      · rw [up3_ne (fun z => absurd z.2 (by decide)), eE1 4 xx 1 z1]
        exact LnO_congr (fun c hc => by rw [(hfr c ((hm c).mp hc).1.1).2.1]) hCc
      · rw [hm c]
        constructor
        · rintro ⟨w1, w2, w3, w4⟩
          rw [(hfr c w1.1).1]; exact ⟨up1 _ _ w1, w2, w3, w4⟩
        · rintro ⟨w1, w2, w3, w4⟩
          have w5 := dn 0 c w1 (by decide) (by decide)
          rw [(hfr c w5.1).1] at w3 w4
          exact ⟨w5, w2, w3, w4⟩
  · have haa : inT a ta := hta
    have hbb : inT a tb := htb'
    have cs : ∀ t' k', inT a t' → k' < 4 → up3 E1 (g.d t) 3 k (some q) (g.d t') 3 k' = some xx → (t' = t ∧ k' = k ∧ xx = q) ∨ (E (g.d t') 3 k' = some xx ∧ xx ≠ q) := fun t' k' ht' hk' hxx => by
      by_cases e : t' = t ∧ k' = k
      · obtain ⟨rfl, rfl⟩ := e
        have exx : up3 E1 (g.d t') 3 k' (some q) (g.d t') 3 k' = some q := if_pos ⟨rfl, rfl, rfl⟩
        rw [exx] at hxx
        exact Or.inl ⟨rfl, rfl, (Option.some.inj hxx).symm⟩
      · have hne : ¬ (g.d t' = g.d t ∧ (3 : Nat) = 3 ∧ k' = k) := fun z => e ⟨by
          have y1 := (htb.2 t' ht').2.2.1
          rw [z.1, t3] at y1; omega, z.2.2⟩
        have exx : up3 E1 (g.d t) 3 k (some q) (g.d t') 3 k' = E (g.d t') 3 k' := (if_neg hne).trans (by rw [eE1 10 _ 3 (hd t' ht')])
        rw [exx] at hxx
        exact Or.inr ⟨hxx, ne _ _ (hR.2.2.1.1 t' k' xx ht' hk' hxx).1⟩
    rcases cs ta ka haa hka y1 with w1 | w1
    · rcases cs tb kb hbb hkb y2 with w2 | w2
      · rw [w1.1, w2.1]
      · exact absurd w1.2.2 w2.2
    · rcases cs tb kb hbb hkb y2 with w2 | w2
      · exact absurd w2.2.2 w1.2
      · exact hR.2.2.1.2 ta tb ka kb xx hta htb' hka hkb w1.1 w2.1
  subst eA
  obtain ⟨x1, x2, x3, x4, x5, x6⟩ := id hFr
  have upb : ∀ ci x, Is b ci x → Is b' ci x := fun ci x hx => x1.1 _ _ (up1 _ _ hx)
  have hFf : ∀ t n, n ∈ a.rw t → CF1 a b' g.d g.fa I' F' A' t n := fun t n hn => by
    have y := hF1 t n hn
    unfold CF1 at y ⊢
    rw [x4 _ y.1.1, x5 1 _ 2 y.1 (fun z => absurd z.1 (by decide))]
    exact ⟨x1.1 _ _ y.1, y.2⟩
  cases v with
  | none =>
    refine qv_if (fun _ => ?_) (fun z => absurd rfl z)
    have hS0 : S = [] := List.map_eq_nil_iff.mp (LnO_none s2)
    rw [hS0, List.append_nil] at s1
    refine qc_getA hb' (by decide) (fun _ => ?_)
    refine qc_astG hb' (x1.1 _ _ (d1 t ht)) (by decide) (by decide) (fun _ _ => ?_)
    rw [ix_of hkv]
    refine qc_bit (h1 1 b' ct' I' F' A' _ ?_)
    have eE2 : ∀ ci x j, Is b ci x → ci ≠ 1 → ci ≠ 4 → ¬ (ci = 10 ∧ j = 3) → up3 E' (g.d t) 3 k (some q) x j = E x j := fun ci x j hx h1 h4 h10 => by
      have hne : ¬ (x = g.d t ∧ j = 3) := fun z => h10 ⟨by rw [← hx.2, z.1]; exact t2.2, z.2⟩
      rw [up3_ne hne, x6 ci x j (up1 _ _ hx) (fun z => h4 z.1) (fun z => h1 z.1), eE1 ci x j hx]
    have eI : ∀ ci x, Is b ci x → I' x = I x := fun ci x hx => (x4 _ (up1 _ _ hx).1).trans (hfr x hx.1).1
    have eF : ∀ ci x j, Is b ci x → ci ≠ 0 → F' x j = F x j := fun ci x j hx h0 => (x5 ci x j (up1 _ _ hx) (fun z => h0 z.1)).trans (by rw [(hfr x hx.1).2.1])
    have eA : ∀ ci x, Is b ci x → A' x = A x := fun ci x hx => (hfr x hx.1).2.2.1
    have sI' : ∀ S, sI b S I I' := fun S ci x j hx _ => by rw [eI ci x hx]
    have sF' : ∀ S : List (Nat × Nat), S.all (fun p => p.1 != 0) = true → sF b S F F' := fun S hS ci x j hx hj => eF ci x j hx (fun z => by have := List.all_eq_true.mp hS _ hj; simp [z] at this)
    have sA' : ∀ S, sA b S A A' := fun S ci x j hx _ => by rw [eA ci x hx]
    have sE' : ∀ S : List (Nat × Nat), S.all (fun p => p.1 != 1 && p.1 != 4 && p.1 != 10) = true → sE b S E (up3 E' (g.d t) 3 k (some q)) := fun S hS ci x j hx hj => by
      have := List.all_eq_true.mp hS _ hj
      simp at this
      exact eE2 ci x j hx this.1.1 this.1.2 (fun z => this.2 z.1)
    have dn8 : ∀ x, Is b' 8 x → Is b 8 x := fun x hx => dn 8 x ((x3 8 x hx).resolve_right (fun z => absurd z.1 (by decide))) (by decide) (by decide)
    have s3 := hs.2.2.1
    refine ⟨hb', CXs_eq hs upb dn8 (sF' _ (by decide)) (sE' _ (by decide)), CXt_eq htb s3 upb hct (sI' _) (sF' _ (by decide)) (sA' _) (sE' _ (by decide)), hFf, ⟨fun c hc => ?_, c2, c3, fun t' k' m ht' hk' hne hm => ?_⟩, CXk_eq hK s3 upb (sE' _ (by decide)), CXn_eq hN s3 (sI' _), CXh_eq hH hs.2.2.2.2.1 hfa (sI' _) (sF' _ (by decide)) (sA' _) (sE' _ (by decide)), CXc_eq hC hs.1 (sA' _) (fun c hc => ?_), CXo_eq hO hs.1 (sI' _) (sA' _)⟩
    · have y := c1 c hc
      have el : ixL a t k C ct' g.fa I' c = (rowL a (ct' c) (ix (I' c 0)) (I' c 1)).map g.fa := by
        unfold ixL
        split
        · rename_i z
          rw [z.1, z.2]
          unfold rowL
          rw [if_neg (by omega), s1]
        · rfl
      rw [el] at y
      show ChL F' (up3 E' (g.d t) 3 k (some q)) (ix (I' c 0)) c ((rowL a (ct' c) (ix (I' c 0)) (I' c 1)).map g.fa)
      refine ⟨LnO_congr (fun qq hqq => ?_) y.1, y.2⟩
      rw [up3_ne (fun z => absurd z.2 (by decide))]
    · have hne : up3 E' (g.d t) 3 k (some q) (g.d t') 3 k' ≠ none := hne
      have htt : inT a t' := ht'
      by_cases e : t' = t ∧ k' = k
      · obtain ⟨rfl, rfl⟩ := e
        rw [s1] at hm
        exact hex m hm
      · have hne2 : ¬ (g.d t' = g.d t ∧ (3 : Nat) = 3 ∧ k' = k) := fun z => e ⟨by
          have y1 := (htb.2 t' htt).2.2.1
          rw [z.1, t3] at y1; omega, z.2.2⟩
        have exx : up3 E' (g.d t) 3 k (some q) (g.d t') 3 k' = E (g.d t') 3 k' := (if_neg hne2).trans (by rw [x6 10 _ 3 (d1 t' htt) (fun z => absurd z.1 (by decide)) (fun z => absurd z.1 (by decide)), eE1 10 _ 3 (hd t' htt)])
        rw [exx] at hne
        obtain ⟨c, w1, w2, w3, w4⟩ := hR.2.2.2 t' k' m htt hk' hne hm
        exact ⟨c, upb _ _ w1, (hct c w1).trans w2, by rw [eI 0 c w1]; exact w3, by rw [eI 0 c w1]; exact w4⟩
    · have h5 := (hs.2.2.2.2.2.2.2.1 c hc).2.1
      exact ⟨eI 5 _ h5, funext fun j => eF 5 _ j h5 (by decide), eA 5 _ h5⟩
  | some fq =>
    refine qv_if (fun z => absurd z (by simp)) (fun _ => ?_)
    obtain ⟨S2, eS, hS2⟩ := LnO_some s2
    cases S with
    | nil => simp at eS
    | cons n S =>
      rw [List.map_cons] at eS
      have ef : fq = g.fa n := (List.cons.inj eS).1.symm
      have eS' : S2 = S.map g.fa := (List.cons.inj eS).2.symm
      subst ef; subst eS'
      have hn : n ∈ a.rw t := by rw [s1]; exact List.mem_append_right _ List.mem_cons_self
      have hFn := hFf t n hn
      have s1' : a.rw t = (C ++ [n]) ++ S := by rw [s1]; simp
      have hnd' : (C ++ n :: S).Nodup := by rw [← s1]; exact hV.1.2.2.1 t
      have hnC : n ∉ C := fun z => (List.nodup_append.mp hnd').2.2 n z n List.mem_cons_self rfl
      have inL : ∀ c m, g.fa m ∈ ixL a t k C ct' g.fa I' c → m ∈ a.rw t → ct' c = t → ix (I' c 0) = k → m ∈ C ∧ a.fc m k = I' c 1 := fun c m hm hmr e1' e2' => by
        unfold ixL at hm
        rw [if_pos ⟨e1', e2'⟩] at hm
        obtain ⟨m', hm', e⟩ := List.mem_map.mp hm
        obtain ⟨w1, w2⟩ := List.mem_filter.mp hm'
        have em := fa_inj (hFf t m' (by rw [s1]; exact List.mem_append_left _ w1)) (hFf t m hmr) e
        subst em
        exact ⟨w1, eq_of_beq w2⟩
      have memL : ∀ c qq, qq ∈ ixL a t k C ct' g.fa I' c → ∃ m, m ∈ a.rw (ct' c) ∧ qq = g.fa m ∧ (ix (I' c 0) = 4 ∨ a.fc m (ix (I' c 0)) = I' c 1) := fun c qq hqq => by
        unfold ixL at hqq
        split at hqq
        · rename_i z
          obtain ⟨m, hm, e⟩ := List.mem_map.mp hqq
          obtain ⟨w1, w2⟩ := List.mem_filter.mp hm
          exact ⟨m, by rw [z.1, s1]; exact List.mem_append_left _ w1, e.symm, Or.inr (by rw [z.2]; exact eq_of_beq w2)⟩
        · obtain ⟨m, hm, e⟩ := List.mem_map.mp hqq
          exact ⟨m, (rowL_sub hm).1, e.symm, (rowL_sub hm).2⟩
      have hLf : ∀ c, Is b' 0 c → ∀ qq, qq ∈ ixL a t k C ct' g.fa I' c → Is b' 1 qq := fun c hc qq hqq => by
        obtain ⟨m, hm, rfl, -⟩ := memL c qq hqq
        exact (hFf _ m hm).1
      refine qc_recv (fun _ => ?_)
      refine qc_chainForV (Ev := up3 E' (g.d t) 3 k (some q)) (fun y j hj => up3_ne (fun z => hj z.2)) hb' c1 c2 c3 (fun t h => x1.1 _ _ (d1 t h)) ht hk4 (if_pos ⟨rfl, rfl, rfl⟩) hFn.1 hLf (fun c b2 I2 F2 E2 Ev2 ct2 L2 qv q3' q1 q2 q3 q4' q5 q6 q7 q8 q9 q10 q11 q12 => ?_)
      have hFn2 := hFn.2.2.1 k hk4
      rw [hFn2] at q9 q11
      have e2I : ∀ ci x, Is b' ci x → I2 x = I' x := fun ci x hx => q2.2.2.2.1 x hx.1
      have eEv2 : Ev2 = up3 E2 (g.d t) 3 k (some q) := by
        funext y j i
        by_cases hj : j = 3
        · subst hj
          rw [(q3' y).1]
          unfold up3
          rw [(q3' y).2]
        · rw [qv y j hj, up3_ne (fun z => hj z.2)]
      have L2o : ∀ c', Is b' 0 c' → L2 c' = ixL a t k C ct2 g.fa I2 c' := fun c' hc' => by
        rw [(q10 c' hc').2]
        unfold ixL
        rw [(q10 c' hc').1, e2I 0 c' hc']
      have hcC : L2 c = (C.filter fun m => a.fc m k == I2 c 1).map g.fa := by
        rcases q11 c q6 with w | ⟨-, w1, w2, w3⟩
        · rw [L2o c w]
          unfold ixL
          rw [if_pos ⟨q7, q8⟩]
        · rw [w2]
          have : (C.filter fun m => a.fc m k == I2 c 1) = [] := by
            rw [List.filter_eq_nil_iff]
            intro m hm hv
            obtain ⟨c0, y1, y2, y3, y4⟩ := hex m hm
            exact w3 c0 y1 y2 y3 (by rw [y4, ← q9]; exact eq_of_beq hv)
          rw [this]; rfl
      have memL2 : ∀ c' qq, Is b2 0 c' → qq ∈ L2 c' → ∃ m, m ∈ a.rw (ct2 c') ∧ qq = g.fa m ∧ (ix (I2 c' 0) = 4 ∨ a.fc m (ix (I2 c' 0)) = I2 c' 1) ∧ (ct2 c' = t → ix (I2 c' 0) = k → m ∈ C) := fun c' qq hc' hqq => by
        rcases q11 c' hc' with w | w
        · rw [(q10 c' w).2] at hqq
          obtain ⟨m, y1, y2, y3⟩ := memL c' qq hqq
          rw [(q10 c' w).1, e2I 0 c' w]
          refine ⟨m, y1, y2, y3, fun z1 z2 => ?_⟩
          subst y2
          exact (inL c' m hqq (by rw [← z1]; exact y1) z1 z2).1
        · rw [w.1, w.2.2.1] at hqq
          exact absurd hqq List.not_mem_nil
      have hf2 : ∀ t n, n ∈ a.rw t → Is b2 1 (g.fa n) := fun t n hn => q2.1.1 _ _ (hFf t n hn).1
      have hinj2 : ∀ t t' m m', m ∈ a.rw t → m' ∈ a.rw t' → g.fa m = g.fa m' → m = m' := fun t t' m m' hm hm' e => fa_inj (hFf t m hm) (hFf t' m' hm') e
      refine qc_recv (fun _ => ?_)
      refine qc_putBehind q1 q3 q6 (q2.1.1 _ _ hFn.1) (fun qq hqq => ?_) ?_ (fun c' hc' hl hz' => ?_) (fun c' hc' hne hl qq hqq hqq' => ?_) (fun F3 E3 p1 p1' p2 => ?_)
      · obtain ⟨m, y1, y2, -⟩ := memL2 c qq q6 hqq
        rw [y2]; exact hf2 _ m y1
      · rw [hcC]
        have hc : (C.filter fun m => a.fc m k == I2 c 1).Nodup := ((List.nodup_append.mp hnd').1).filter _
        refine List.pairwise_map.mpr (hc.imp_of_mem (fun h1 h2 hne he => hne ?_))
        have r1 : ∀ m, m ∈ C.filter (fun m => a.fc m k == I2 c 1) → m ∈ a.rw t := fun m hm => by rw [s1]; exact List.mem_append_left _ (List.mem_filter.mp hm).1
        exact hinj2 t t _ _ (r1 _ h1) (r1 _ h2) he
      · obtain ⟨m, y1, y2, y3, y4⟩ := memL2 c' _ hc' hz'
        have em := hinj2 t _ n m hn y1 y2
        subst em
        have et := hV.1.2.1 _ _ _ y1 hn
        exact hnC (y4 et (by rw [hl]; exact q8))
      · obtain ⟨m, y1, y2, y3, y4⟩ := memL2 c qq q6 hqq
        obtain ⟨m', z1, z2, z3, z4⟩ := memL2 c' qq hc' hqq'
        have em := hinj2 _ _ m m' y1 z1 (by rw [← y2, ← z2])
        subst em
        have et := hV.1.2.1 _ _ _ y1 z1
        rw [hl, q8] at z3
        rw [q8] at y3
        refine hne (q4'.2 c' c hc' q6 et.symm hl ?_)
        rw [← z3.resolve_left (by omega), ← y3.resolve_left (by omega)]
      · have hd2 : ∀ t : Nat, (t : Int) < a.tn.toInt → Is b2 10 (g.d t) := fun t h => q2.1.1 _ _ (x1.1 _ _ (d1 t h))
        have pq := PuE_q p1
        have e33 : ∀ y, E3 y 3 = E2 y 3 := fun y => funext fun i => p1.2 y 3 i (fun z => absurd z.2.1 (by decide))
        have pv : PuE b2 c (ix (I2 c 0)) F2 F3 (up3 E2 (g.d t) 3 k (some q)) (up3 E3 (g.d t) 3 k (some q)) := ⟨p1.1, fun y j i hy => by
          unfold up3
          rw [p1.2 y j i hy]⟩
        rw [eEv2] at q4' q5
        refine qc_getA q1 (by decide) (fun _ => ?_)
        refine qc_aldG q1 (q2.1.1 _ _ hFn.1) (by decide) (by decide) (fun _ => ?_)
        have e34 : E3 (g.fa n) 1 (ix 4) = E' (g.fa n) 1 4 := by
          have : ix (4 : Int32) = 4 := by decide
          rw [this, p1.2 _ 1 4 (fun z => by have := z.2.2; omega), q12 _ hFn.1]
        rw [e34]
        have hlane : ∀ m, m ∈ a.rw t → E3 (g.fa m) 1 4 = E' (g.fa m) 1 4 := fun m hm => by
          rw [p1.2 _ 1 4 (fun z => by have := z.2.2; omega), q12 _ (hFf t m hm).1]
        refine ha _ _ _ _ _ _ ⟨rfl, ct2, C ++ [n], S, s1', LnO_congr (fun qq hqq => ?_) hS2, q1, Fr_tr (Fr_tr hFr q2) (PuE_Fr q6 p1), fun y => (e33 y).trans ((q3' y).2.trans (h3e y)), fun c' hc' => ?_, CH2_Pu hd2 q4' pv, CH3_Pu hd2 q5 pv, fun c' hc' => ((q10 c' (upb _ _ hc')).1).trans (hct c' hc'), fun m hm => ?_⟩
        · obtain ⟨m, hm, rfl⟩ := List.mem_map.mp hqq
          exact hlane m (by rw [s1]; exact List.mem_append_right _ (List.mem_cons_of_mem _ hm))
        · have y := p2 c' hc'
          by_cases e : c' = c
          · subst e
            rw [va_up_self, hcC] at y
            have : ixL a t k (C ++ [n]) ct2 g.fa I2 c' = (C.filter fun m => a.fc m k == I2 c' 1).map g.fa ++ [g.fa n] := by
              unfold ixL
              rw [if_pos ⟨q7, q8⟩, List.filter_append, List.filter_cons_of_pos (by rw [q9]; simp), List.map_append]; rfl
            show ChL F3 E3 (ix (I2 c' 0)) c' (ixL a t k (C ++ [n]) ct2 g.fa I2 c')
            rw [this]; exact y
          · rw [va_up_ne _ _ e] at y
            have w := (q11 c' hc').resolve_right (fun z => e z.1)
            rw [L2o c' w] at y
            have : ixL a t k (C ++ [n]) ct2 g.fa I2 c' = ixL a t k C ct2 g.fa I2 c' := by
              unfold ixL
              split
              · rename_i z
                have hv : ¬ a.fc n k = I2 c' 1 := fun hv => e (q4'.2 c' c hc' q6 (by rw [z.1, q7]) (by rw [z.2, q8]) (by rw [← hv, q9]))
                rw [List.filter_append, List.filter_cons_of_neg (by rw [beq_iff_eq]; exact hv)]
                simp
              · rfl
            show ChL F3 E3 (ix (I2 c' 0)) c' (ixL a t k (C ++ [n]) ct2 g.fa I2 c')
            rw [this]; exact y
        · rcases List.mem_append.mp hm with w | w
          · obtain ⟨c0, y1, y2, y3, y4⟩ := hex m w
            exact ⟨c0, q2.1.1 _ _ y1, (q10 c0 y1).1.trans y2, by rw [e2I 0 c0 y1]; exact y3, by rw [e2I 0 c0 y1]; exact y4⟩
          · rw [List.mem_singleton.mp w]
            exact ⟨c, q6, q7, q8, q9⟩
theorem kc_index (hk : KC o (N + 1) a x) (hW : AVT a) (t k : Int32) : w_X11_index (some o) t k x (fun r u => OK_index a t k 0 r ∧ KC o N (nx_index a t k) u) (fun E u => (E = eIA ∧ OK_index a t k 2 0 ∨ E = eNE ∧ OK_index a t k 1 0) ∧ KC o N (nx_index a t k) u) := by
  have h := kc1_index hk.1 t k
  obtain ⟨g, b, I, F, A, E, rfl, hz, hx⟩ := hk.2
  have hV := hW.1
  have hb := hx.1
  have hs := hx.2.1
  have e : (nx1_index a.1 t k).tn = a.tn ∧ (nx1_index a.1 t k).co = a.co ∧ (nx1_index a.1 t k).vv = a.vv := by unfold nx1_index; split <;> exact ⟨rfl, rfl, rfl⟩
  have e0 : (0 : Int32).toInt = 0 := by decide
  revert h
  unfold w_X11_index
  refine qc_recv (fun _ => ?_)
  refine qc_tableOf hx (fun c h => ⟨h.1, h.2, CX_w1 (CX_wC hz hx) e.1 e.2.1 e.2.2⟩) (fun ht => ?_)
  have hti := tab_in ht
  obtain ⟨t1, t2, t3, t4, -⟩ := hx.2.2.1.2 _ hti
  have hco := (hV.2.1.2 _ hti).2.1
  refine qc_getI (fun _ => ?_)
  rw [t4]
  have ec : (a.co (ix t) - 1).toInt = (a.co (ix t)).toInt - 1 := i_sub rfl (by decide) (by omega)
  refine qc_range (fun c1 c2 => ?_) (fun c h => ⟨h.1, h.2, CX_w1 (CX_wC hz hx) e.1 e.2.1 e.2.2⟩)
  rw [e0] at c1
  rw [ec] at c2
  refine qc_recv (fun _ => ?_)
  dsimp only [wJoin]
  refine qc_makeIndex hx hV hti (k := ix k) (ix_int c1).symm (by have := ix_int c1; omega) (fun v => ?_) (fun v b' ct' I' F' A' E' hx' => ?_)
  · exact qv_if (fun _ h => ⟨h.1, h.2, CX_w1 ⟨_, _, _, _, _, _, rfl, hz, hx⟩ e.1 e.2.1 e.2.2⟩) (fun _ h => ⟨h.1, h.2, CX_w1 ⟨_, _, _, _, _, _, rfl, hz, hx⟩ e.1 e.2.1 e.2.2⟩)
  · exact qv_if (fun _ h => ⟨h.1, h.2, CX_w1 ⟨g.wfa g.fa ct', _, _, _, _, _, rfl, hz, hx'⟩ e.1 e.2.1 e.2.2⟩) (fun _ h => ⟨h.1, h.2, CX_w1 ⟨g.wfa g.fa ct', _, _, _, _, _, rfl, hz, hx'⟩ e.1 e.2.1 e.2.2⟩)
end VZC
