set_option linter.unusedVariables false
set_option linter.unusedSimpArgs false
/-! placing a fact -/
def NX : Nat → Nat → Prop := fun _ _ => False
/-- the fact f, of the table t, has been placed in the lanes up to k -/
def Vk (g g1 : Gh) (E : Nat → Nat → Nat → Option Nat) (f t k : Nat) : Prop := (∀ l f', g1.V l f' ↔ g.V l f' ∨ f' = f ∧ (l = 4 ∨ l < k ∧ E t 3 l ≠ none))
section C8
variable {b : CT} {g : Gh} {s : Nat} {I : Nat → Nat → Int32} {F : Nat → Nat → Option Nat} {A : Nat → Nat → Nat → Int32} {E : Nat → Nat → Nat → Option Nat} {XX : Nat → Nat → Prop} {X : String → HS → Prop} {Q : HS → Prop} {QF : Option Nat → HS → Prop}
theorem tab_of (hL : LO b g I F E) {l f t : Nat} (hv : g.V l f) (ht : F f 2 = some t) : Is b 10 t := by
  obtain ⟨-, ⟨t', p2, p3⟩, -⟩ := hL.2.2.2 l f hv
  rw [ht] at p2; cases p2; exact p3
theorem CE_Ins {g' : Gh} {l f c : Nat} {F' : Nat → Nat → Option Nat} {E' : Nat → Nat → Nat → Option Nat} (hL : LO b g I F E) (hf : Is b 1 f) (hc : Is b 0 c) (hC : CE b g I F A E) (h : Ins b g g' l f c F F' E E') (hn : l < 4 → ∀ t x, F f 2 = some t → E t 3 l = some x → Is b 10 t ∧ ∃ n, Fdn I F n (E x 1 (ix (A f 0 l &&& 63))) (A f 0 l)) : CE b g' I F' A E' := by
  obtain ⟨i1, i2, i3, i4, i5, i6, i7⟩ := h
  have e2 : ∀ a, F' a 2 = F a 2 := fun a => i5 a 2 (by rintro ⟨-, h⟩; omega)
  have eE : ∀ c a j i, Is b c a → c ≠ 1 → E' a j i = E a j i := fun c a j i ha hc => i6 a j i (fun z => hc (by rw [← ha.2, z.1.2]))
  refine ⟨?_, RC_eq hC.2 hL (fun _ _ h => h) (fun c _ => congrFun i2 c) (fun c _ => congrFun i4 c) (fun t _ => e2 t) (fun c _ => e2 c) (fun x hx => funext fun i => eE 4 x 1 i hx (by decide))⟩
  intro k f' t x hk hv ht hx
  rw [e2] at ht
  have key : Is b 10 t ∧ ∃ n, E t 3 k = some x ∧ Fdn I F n (E x 1 (ix (A f' 0 k &&& 63))) (A f' 0 k) := by
    rcases (i1 k f').mp hv with hv | ⟨rfl, rfl⟩
    · have htt := tab_of hL hv ht
      rw [eE 10 t 3 k htt (by decide)] at hx
      obtain ⟨n, hn⟩ := hC.1 k f' t x hk hv ht hx
      exact ⟨htt, n, hx, hn⟩
    · by_cases hEt : E t 3 k = some x
      · obtain ⟨h1, n, h2⟩ := hn hk t x ht hEt
        exact ⟨h1, n, hEt, h2⟩
      · exfalso
        by_cases ht1 : Is b 1 t ∧ 3 = 1 ∧ k = k
        · exact absurd ht1.2.1 (by decide)
        · rw [i6 t 3 k ht1] at hx; exact hEt hx
  obtain ⟨htt, n, hEx, hFd⟩ := key
  obtain ⟨x1, x2, x3, x4⟩ := (hL.2.2.1 t htt).2.2.2 k x hEx
  refine ⟨n, ?_⟩
  rw [eE 4 x 1 _ x1 (by decide)]
  exact Fd_mono hL (fun c hc => ⟨rfl, e2 c⟩) (fun c hc => ((hL.2.1 x x1).2.2 _ c hc).1) hFd
/-- the lanes of the indexes, one after the other -/
theorem c_lanes {PUT : Option Nat → HS → (HS → Prop) → Prop} {D : Gh → (Nat → Nat → Option Nat) → Nat → Nat → Prop} {p : Prop} {t f : Nat} {g0 : Gh}
    (hPUT : ∀ (b : CT) (g : Gh) I F E c (Q : HS → Prop), CB b → LO b g I F E → PR g F E → Is b 0 c → Is b 1 f → F f 2 = some (g.T c) → ¬ g.V (ix (I c 0)) f → (I c 0 = 4 → F (g.T c) 2 = some c) → D g F (ix (I c 0)) (g.T c) → (∀ g' F' E', Ins b g g' (ix (I c 0)) f c F F' E E' → LO b g' I F' E' → PR g' F' E' → Q (cS b I F' A E')) → PUT (some c) (cS b I F A E) Q)
    (hb : CB b) (hL : LO b g I F E) (hP : PR g F E) (hC : CE b g I F A E) (hV : VC g0 F E NX) (h0 : Vk g0 g E f t 0) (hn : ¬ g0.V 4 f) (ht : Is b 10 t) (hf : Is b 1 f) (hft : F f 2 = some t)
    (hp : p → ∀ k x, k < 4 → E t 3 k = some x → ∃ n, Fdn I F n (E x 1 (ix (A f 0 k &&& 63))) (A f 0 k)) (hcost : p ∨ 4 ≤ b.B.c ∧ 20 ≤ b.B.z)
    (hD : ∀ (g1 : Gh) (F1 : Nat → Nat → Option Nat), (∀ l f', g0.V l f' → g1.V l f') → (∀ c a, Is b c a → F1 a 2 = F a 2) → ∀ k, k < 4 → E t 3 k ≠ none → D g1 F1 k t)
    (hQ : ∀ b' g' I' F' E', CB b' → Fr b b' I I' F F' E E' → LO b' g' I' F' E' → PR g' F' E' → CE b' g' I' F' A E' → VC g' F' E' NX → Vk g0 g' E f t 4 → (∀ a, Is b 1 a → ¬ g0.V 4 a → a ≠ f → E' a = E a) → (p → b' = b ∧ I' = I ∧ ∀ y, Is b 4 y → E' y 1 = E y 1) → (b.B.c ≤ b'.B.c + 4 ∧ b.B.z ≤ b'.B.z + 20) → Q (cS b' I' F' A E')) :
    wLoop (σ := Int32) (fun v7 x6 again4 => wGetI x6 10 1 (some t) fun v8 => wIf (v8 ≤ v7) (Q x6) (wGetF x6 10 3 (some t) fun v9 => wAldG x6 28 v9 v7 fun v10 => wJoin (κ := HS → Prop) (fun (x12 : HS) => again4 (v7 + 1) x12) (fun j11 => wIf (v10 = none) (j11 x6) (wGetF x6 10 3 (some t) fun v13 => wAldG x6 28 v13 v7 fun v14 => wRecv x6 4 v14 (w_X4_chainFor v14 (some f) x6 (fun v16 x15 => PUT v16 x15 (fun x17 => j11 x17)) X))))) 0 (cS b I F A E) := by
  obtain ⟨tc, -, -, tx⟩ := hL.2.2.1 t ht
  refine wLoop_i (fun n v x => ∃ b1 g1 I1 F1 E1, x = cS b1 I1 F1 A E1 ∧ CB b1 ∧ Fr b b1 I I1 F F1 E E1 ∧ LO b1 g1 I1 F1 E1 ∧ PR g1 F1 E1 ∧ CE b1 g1 I1 F1 A E1 ∧ Vk g0 g1 E f t (ix v) ∧ (∀ a, Is b 1 a → ¬ g0.V 4 a → a ≠ f → E1 a = E a) ∧ (p → b1 = b ∧ I1 = I ∧ ∀ y, Is b 4 y → E1 y 1 = E y 1) ∧ b.B.c ≤ b1.B.c + ix v ∧ b.B.z ≤ b1.B.z + 5 * ix v ∧ 0 ≤ v.toInt ∧ v.toInt ≤ (I t 1).toInt ∧ n = (4 - v.toInt).toNat) 4 ⟨b, g, I, F, E, rfl, hb, Fr_rf, hL, hP, hC, h0, fun _ _ _ _ => rfl, fun _ => ⟨rfl, rfl, fun _ _ => rfl⟩, by omega, by omega, by decide, by simp only [Int32.reduceToInt]; omega, by decide⟩ ?_
  rintro n v x again ha ⟨b1, g1, I1, F1, E1, rfl, hb1, hFr, hL1, hP1, hC1, hV1, hE1, hp1, hc1, hz1, p1, p2, p3⟩
  obtain ⟨r1, r2, r3, r4, r5, r6⟩ := id hFr
  have ht1 := r1.1 _ _ ht
  have hf1 := r1.1 _ _ hf
  have eI : I1 t 1 = I t 1 := by rw [r4 t ht.1]
  have eE : E1 t 3 = E t 3 := r6 10 t 3 ht (by decide) (by decide)
  have e2 : ∀ c a, Is b c a → F1 a 2 = F a 2 := fun c a ha => r5 c a 2 ha (by omega)
  have hvi : ((ix v : Nat) : Int) = v.toInt := ix_int p1
  rw [c_getI ht1, eI]
  refine ⟨fun hv => ?_, fun hv => ?_⟩
  · have hv1 : v.toInt = (I t 1).toInt := by simp only [i32] at hv; omega
    have hV4 : Vk g0 g1 E f t 4 := fun l f' => by
      rw [hV1 l f']
      refine or_congr Iff.rfl (and_congr Iff.rfl (or_congr Iff.rfl ⟨fun h => ⟨by omega, h.2⟩, fun h => ⟨?_, h.2⟩⟩))
      obtain ⟨x, hx⟩ := Option.ne_none_iff_exists'.mp h.2
      have := (tx l x hx).2.2.2
      omega
    refine hQ _ _ _ _ _ hb1 hFr hL1 hP1 hC1 ⟨fun l f' h => ?_, fun k f' t' hk h4 hft' _ => ?_⟩ hV4 hE1 hp1 ⟨by omega, by omega⟩
    · rcases (hV4 l f').mp h with h | ⟨rfl, h⟩
      · exact ⟨(hV4 _ _).mpr (Or.inl (hV.1 l f' h).1), (hV.1 l f' h).2⟩
      · exact ⟨(hV4 _ _).mpr (Or.inr ⟨rfl, Or.inl rfl⟩), by omega⟩
    · rw [hV4 k f']
      rcases (hV4 4 f').mp h4 with h | ⟨rfl, h⟩
      · have hf'1 := (hL1.2.2.2 4 f' h4).1
        have hf'b : Is b 1 f' := (r3 1 f' hf'1).resolve_right (fun z => absurd z.1 (by decide))
        have ht'1 := tab_of hL1 h4 hft'
        have ht'b : Is b 10 t' := (r3 10 t' ht'1).resolve_right (fun z => absurd z.1 (by decide))
        rw [e2 1 f' hf'b] at hft'
        have hne : f' ≠ f := fun z => hn (by rw [← z]; exact h)
        rw [r6 10 t' 3 ht'b (by decide) (by decide), hV.2 k f' t' hk h hft' (fun z => z)]
        exact ⟨fun z => Or.inl z, fun z => z.resolve_right (fun y => hne y.1)⟩
      · rw [e2 1 _ hf, hft] at hft'
        cases hft'
        rw [eE]
        have hnk : ¬ g0.V k f' := fun z => hn (hV.1 k f' z).1
        exact ⟨fun z => Or.inr ⟨rfl, Or.inr ⟨hk, z⟩⟩, fun z => (z.resolve_left hnk).2.elim (fun y => absurd y (by omega)) (fun y => y.2)⟩
  · have hv1 : v.toInt < (I t 1).toInt := by simp only [i32] at hv; omega
    have hv4 : wIn v 4 := ⟨p1, by omega⟩
    have ev : (v + 1).toInt = v.toInt + 1 := i_add rfl (by decide) (by omega)
    have eix : ix (v + 1) = ix v + 1 := ix_of (by omega)
    simp only [cw hb1, ht1, hv4, true_and, eE]
    refine wJoin_i (fun K => ∀ b2 g2 I2 F2 E2, CB b2 → Fr b b2 I I2 F F2 E E2 → LO b2 g2 I2 F2 E2 → PR g2 F2 E2 → CE b2 g2 I2 F2 A E2 → Vk g0 g2 E f t (ix v + 1) → (∀ a, Is b 1 a → ¬ g0.V 4 a → a ≠ f → E2 a = E a) → (p → b2 = b ∧ I2 = I ∧ ∀ y, Is b 4 y → E2 y 1 = E y 1) → b.B.c ≤ b2.B.c + (ix v + 1) → b.B.z ≤ b2.B.z + 5 * (ix v + 1) → K (cS b2 I2 F2 A E2)) (fun b2 g2 I2 F2 E2 z1 z2 z3 z4 z5 z6 z7 z8 z9 z10 => ha _ _ _ (by omega) ⟨b2, g2, I2, F2, E2, rfl, z1, z2, z3, z4, z5, by rw [eix]; exact z6, z7, z8, by rw [eix]; exact z9, by rw [eix]; exact z10, by omega, by omega, rfl⟩) (fun K hK => ⟨fun hnone => ?_, fun hsome => ?_⟩)
    · refine hK b1 g1 I1 F1 E1 hb1 hFr hL1 hP1 hC1 (fun l f' => ?_) hE1 hp1 (by omega) (by omega)
      rw [hV1 l f']
      refine or_congr Iff.rfl (and_congr Iff.rfl (or_congr Iff.rfl ⟨fun h => ⟨by omega, h.2⟩, fun h => ⟨?_, h.2⟩⟩))
      have : l ≠ ix v := fun z => h.2 (by rw [z]; exact hnone)
      omega
    · obtain ⟨x, hx⟩ := Option.ne_none_iff_exists'.mp hsome
      have hx1 : E1 t 3 (ix v) = some x := by rw [eE]; exact hx
      obtain ⟨x1, x2, x3, x4⟩ := (hL1.2.2.1 t ht1).2.2.2 _ x hx1
      have hxb : Is b 4 x := (r3 4 x x1).resolve_right (fun z => absurd z.1 (by decide))
      have exv : ix (I1 x 0) = ix v := ix_of x3
      rw [hx, c_recv x1]
      have hfound : p → ∃ n, Fdn I1 F1 n (E1 x 1 (ix (A f 0 (ix (I1 x 0)) &&& 63))) (A f 0 (ix (I1 x 0))) := fun hpp => by
        obtain ⟨n, hn⟩ := hp hpp (ix v) x (ix_lt hv4) hx
        obtain ⟨-, y2, y3⟩ := hp1 hpp
        rw [exv, y3 x hxb]
        refine ⟨n, Fd_mono hL (fun c hc => ⟨by rw [y2], e2 0 c hc⟩) (fun c hc => ((hL.2.1 x hxb).2.2 _ c hc).1) hn⟩
      refine c_chainFor hb1 hL1 hP1 hC1 (XX := fun _ f' => f' = f) ⟨fun l f' h => ?_, fun k f' t' hk h4 hft' hne => ?_⟩ x1 hf1 ?_ (fun c b2 g2 I2 F2 E2 q1 q2 q3 q4 q5 q6 q7 q8 q9 q10 q11 q12 q13 q14 q15 q16 _ => ?_)
      · rcases (hV1 l f').mp h with h | ⟨rfl, h⟩
        · exact ⟨(hV1 _ _).mpr (Or.inl (hV.1 l f' h).1), (hV.1 l f' h).2⟩
        · have hb4 : ix v < 4 := ix_lt hv4
          exact ⟨(hV1 _ _).mpr (Or.inr ⟨rfl, Or.inl rfl⟩), by omega⟩
      · rcases (hV1 4 f').mp h4 with h | ⟨rfl, h⟩
        · have hf'1 := (hL1.2.2.2 4 f' h4).1
          have hf'b : Is b 1 f' := (r3 1 f' hf'1).resolve_right (fun z => absurd z.1 (by decide))
          have ht'1 := tab_of hL1 h4 hft'
          have ht'b : Is b 10 t' := (r3 10 t' ht'1).resolve_right (fun z => absurd z.1 (by decide))
          rw [e2 1 f' hf'b] at hft'
          rw [r6 10 t' 3 ht'b (by decide) (by decide), hV.2 k f' t' hk h hft' (fun z => z), hV1 k f']
          exact ⟨fun z => Or.inl z, fun z => z.resolve_right (fun y => hne y.1)⟩
        · exact absurd rfl hne
      · rcases hcost with h | ⟨h1, h2⟩
        · exact Or.inl (hfound h)
        · have hb4 : ix v < 4 := ix_lt hv4
          exact Or.inr ⟨by omega, by omega⟩
      · obtain ⟨s1, s2, s3, s4, s5, s6⟩ := id q2
        have hv4' : ix v < 4 := ix_lt hv4
        have hV2 : ∀ l f', g2.V l f' ↔ g1.V l f' := fun l f' => by show g2.1 l f' ↔ g1.1 l f'; rw [show g2.1 = g1.1 from q7]
        have el : ix (I2 c 0) = ix v := by rw [q15]; exact exv
        have hTc : g2.T c = t := by rw [q14]; exact x2
        have hF2 : F2 f 2 = some t := by rw [s5 1 f 2 hf1 (by omega), e2 1 f hf]; exact hft
        have hnot : ¬ g2.V (ix v) f := fun z => by
          rcases (hV1 _ _).mp ((hV2 _ _).mp z) with h | ⟨-, h⟩
          · exact hn (hV.1 _ _ h).1
          · rcases h with h | h <;> omega
        have hFr2 := Fr_tr hFr q2
        refine hPUT b2 g2 I2 F2 E2 c _ q1 q3 q4 q13 (s1.1 _ _ hf1) (by rw [hTc]; exact hF2) (by rw [el]; exact hnot) (fun z => ?_) ?_ (fun g3 F3 E3 w1 w2 w3 => ?_)
        · rw [z] at el
          have : ix 4 = 4 := by decide
          omega
        · rw [el, hTc]
          refine hD g2 F2 (fun l f' h => (hV2 _ _).mpr ((hV1 _ _).mpr (Or.inl h))) (fun c a hca => ?_) (ix v) hv4' hsome
          rw [s5 c a 2 (r1.1 _ _ hca) (by omega), e2 c a hca]
        · rw [el] at w1
          have hFr3 := Fr_tr hFr2 (Fr_Ins (I := I2) q13 w1)
          refine hK b2 g3 I2 F3 E3 q1 hFr3 w2 w3 ?_ (fun l f' => ?_) (fun a ha hna haf => ?_) (fun hpp => ?_) ?_ ?_
          · refine CE_Ins q3 (s1.1 _ _ hf1) q13 q5 w1 (fun _ t' x' ht' hx' => ?_)
            rw [hF2] at ht'; cases ht'
            have : E2 t 3 (ix v) = some x := by rw [s6 10 t 3 ht1 (by decide) (by decide)]; exact hx1
            rw [this] at hx'; cases hx'
            refine ⟨s1.1 _ _ ht1, ?_⟩
            rw [exv] at q16; exact q16
          · rw [w1.1 l f', hV2, hV1 l f']
            constructor
            · rintro ((h | ⟨h1, h2⟩) | ⟨rfl, h2⟩)
              · exact Or.inl h
              · exact Or.inr ⟨h1, h2.imp id (fun z => ⟨by omega, z.2⟩)⟩
              · exact Or.inr ⟨h2, Or.inr ⟨by omega, hsome⟩⟩
            · rintro (h | ⟨h1, h2⟩)
              · exact Or.inl (Or.inl h)
              · rcases h2 with h2 | ⟨h2, h3⟩
                · exact Or.inl (Or.inr ⟨h1, Or.inl h2⟩)
                · by_cases hq : l = ix v
                  · exact Or.inr ⟨hq, h1⟩
                  · exact Or.inl (Or.inr ⟨h1, Or.inr ⟨by omega, h3⟩⟩)
          · have hna1 : ¬ g2.V (ix v) a := fun z => by
              rcases (hV1 _ _).mp ((hV2 _ _).mp z) with h | ⟨h, -⟩
              · exact hna (hV.1 _ _ h).1
              · exact haf h
            rw [w1.2.2.2.2.2.2 a hna1 haf]
            have : E2 a = E1 a := by
              funext j
              exact q11 a j (fun z => Is_ne (r1.1 _ _ ha) x1 (by decide) z.1)
            rw [this]; exact hE1 a ha hna haf
          · rcases q12 with ⟨y1, y2, y3, y4, y5⟩ | ⟨-, -, y⟩
            · obtain ⟨u1, u2, u3⟩ := hp1 hpp
              refine ⟨by rw [y1]; exact u1, by rw [y3]; exact u2, fun y hy => ?_⟩
              have : E3 y 1 = E2 y 1 := by
                funext i
                exact w1.2.2.2.2.2.1 y 1 i (fun z => Is_ne (s1.1 _ _ (r1.1 _ _ hy)) z.1 (by decide) rfl)
              rw [this, y5]; exact u3 y hy
            · obtain ⟨n, hn2⟩ := hfound hpp
              exact absurd hn2 (y n)
          · rcases q12 with ⟨y1, -⟩ | ⟨y, -⟩
            · rw [y1]; omega
            · rw [y]; omega
          · rcases q12 with ⟨y1, -⟩ | ⟨-, y, -⟩
            · rw [y1]; omega
            · rw [y]; omega
end C8
