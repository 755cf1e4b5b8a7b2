set_option linter.unusedVariables false
set_option linter.unusedSimpArgs false
/-! a fact comes -/
def NW : Nat → Prop := fun _ => False
section C12
variable {b b' : CT} {g : Gh} {o s h N : Nat} {vv : Nat → Int32} {I I' : Nat → Nat → Int32} {F F' : Nat → Nat → Option Nat} {A A' : Nat → Nat → Nat → Int32} {E E' : Nat → Nat → Nat → Option Nat} {W W' : Nat → Prop} {XX : Nat → Nat → Prop} {X : String → HS → Prop} {Q : HS → Prop} {QF : Option Nat → HS → Prop}
/-- more is there, but no new chains, indexes, tables; of facts, those that stand in no row may have changed -/
theorem Core_gen (hc : Core b g s I F A E XX) (h1 : ∀ c a, Is b c a → Is b' c a) (h2 : ∀ c a, c ∈ [0, 4, 10] → Is b' c a → Is b c a) (hI : ∀ c a j, Is b c a → (c, j) ∈ [(0, 0), (0, 1), (4, 0), (10, 1), (10, 5)] → I' a j = I a j) (hF : ∀ c a j, Is b c a → (c, j) ∈ [(0, 2), (0, 3), (0, 4), (10, 2)] → F' a j = F a j) (hE : ∀ c a j, Is b c a → (c, j) ∈ [(4, 1), (10, 3)] → E' a j = E a j) (hV : ∀ l f, g.V l f → F' f 2 = F f 2 ∧ A' f 0 = A f 0 ∧ E' f 1 = E f 1) (hKP : KP b' g s I' E') (hTS : TS b' s I' E') : Core b' g s I' F' A' E' XX := by
  obtain ⟨hL, hVC, hPR, hCE, -, -⟩ := hc
  obtain ⟨l1, l2, l3, l4⟩ := id hL
  have hT : ∀ l f t, g.V l f → F f 2 = some t → Is b 10 t := fun l f t hv ht => tab_of hL hv ht
  refine ⟨⟨fun c hc => ?_, fun x hx => ?_, fun t ht => ?_, fun l f hv => ?_⟩, ⟨hVC.1, fun k f t hk hv ht hx => ?_⟩, ⟨fun f t hv ht => ?_, hPR.2⟩, ⟨fun k f t x hk hv ht hx => ?_, fun c hc => RC_eq hCE.2 hL h1 (fun _ _ => rfl) (fun _ _ => rfl) (fun t ht => hF 10 t 2 ht (by decide)) (fun c hc => hF 0 c 2 hc (by decide)) (fun x hx => hE 4 x 1 hx (by decide)) c (h2 0 c (by decide) hc)⟩, hKP, hTS⟩
  · replace hc := h2 0 c (by decide) hc
    obtain ⟨p1, p2, p3, p4, p5⟩ := l1 c hc
    unfold XCh
    rw [hI 0 c 0 hc (by decide), hF 0 c 2 hc (by decide), hF 0 c 3 hc (by decide), hF 0 c 4 hc (by decide)]
    refine ⟨p1, h1 _ _ p2, fun d hd => ?_, fun f hf => ?_, fun f hf => ?_⟩
    · obtain ⟨q1, q2, q3, q4⟩ := p3 d hd
      exact ⟨h1 _ _ q1, q2, q3, by rw [hI 0 d 0 q1 (by decide)]; exact q4⟩
    · exact ⟨(p4 f hf).1, by rw [(hV _ _ (p4 f hf).1).1]; exact (p4 f hf).2⟩
    · exact ⟨(p5 f hf).1, by rw [(hV _ _ (p5 f hf).1).1]; exact (p5 f hf).2⟩
  · replace hx := h2 4 x (by decide) hx
    obtain ⟨p1, p2, p3⟩ := l2 x hx
    unfold XIx
    rw [hI 4 x 0 hx (by decide), hE 4 x 1 hx (by decide)]
    refine ⟨p1, h1 _ _ p2, fun i c hc => ?_⟩
    obtain ⟨q1, q2, q3⟩ := p3 i c hc
    exact ⟨h1 _ _ q1, q2, by rw [hI 0 c 0 q1 (by decide)]; exact q3⟩
  · replace ht := h2 10 t (by decide) ht
    obtain ⟨p1, p2, ⟨r, p3, p4, p5, p6⟩, p7⟩ := l3 t ht
    unfold XTb
    rw [hI 10 t 1 ht (by decide), hI 10 t 5 ht (by decide), hF 10 t 2 ht (by decide), hE 10 t 3 ht (by decide)]
    refine ⟨p1, p2, ⟨r, p3, h1 _ _ p4, p5, by rw [hI 0 r 0 p4 (by decide)]; exact p6⟩, fun k x hx => ?_⟩
    obtain ⟨q1, q2, q3, q4⟩ := p7 k x hx
    exact ⟨h1 _ _ q1, q2, by rw [hI 4 x 0 q1 (by decide)]; exact q3, q4⟩
  · obtain ⟨p1, ⟨t, p2, p3⟩, p4⟩ := l4 l f hv
    unfold XV
    rw [(hV l f hv).1, (hV l f hv).2.2]
    refine ⟨h1 _ _ p1, ⟨t, p2, h1 _ _ p3⟩, fun f' hf' => ?_⟩
    obtain ⟨q1, q2, q3⟩ := p4 f' hf'
    exact ⟨q1, by rw [(hV _ _ q1).1]; exact q2, q3⟩
  · rw [(hV _ _ hv).1] at ht
    rw [hE 10 t 3 (hT _ _ _ hv ht) (by decide)]
    exact hVC.2 k f t hk hv ht hx
  · rw [(hV _ _ hv).1] at ht
    have htt := hT _ _ _ hv ht
    rcases hPR.1 f t hv ht with ⟨r, p1, p2⟩ | ⟨p, p1, p2, p3⟩
    · obtain ⟨-, -, ⟨r', q3, q4, -⟩, -⟩ := l3 t htt
      rw [p1] at q3; cases q3
      exact Or.inl ⟨r, by rw [hF 10 t 2 htt (by decide)]; exact p1, by rw [hF 0 r 3 q4 (by decide)]; exact p2⟩
    · exact Or.inr ⟨p, p1, by rw [(hV _ _ p1).1]; exact p2, by rw [(hV _ _ p1).2.2]; exact p3⟩
  · rw [(hV _ _ hv).1] at ht
    have htt := hT _ _ _ hv ht
    rw [hE 10 t 3 htt (by decide)] at hx
    obtain ⟨n, hn⟩ := hCE.1 k f t x hk hv ht hx
    obtain ⟨q1, q2, q3⟩ := (l3 t htt).2.2.2 k x hx
    rw [(hV _ _ hv).2.1, hE 4 x 1 q1 (by decide)]
    exact ⟨n, Fd_eq (fun c hc => ⟨hI 0 c 1 hc (by decide), hF 0 c 2 hc (by decide)⟩) (fun c hc d hd => ((l1 c hc).2.2.1 d hd).1) n _ _ (fun c hc => ((l2 x q1).2.2 _ c hc).1) hn⟩
/-- the slot for the next fact has one, which stands in no row -/
def Co1 (b b1 : CT) (g : Gh) (s f K : Nat) (I I1 : Nat → Nat → Int32) (F F1 : Nat → Nat → Option Nat) (A A1 : Nat → Nat → Nat → Int32) (E E1 : Nat → Nat → Nat → Option Nat) : Prop :=
  CB b1 ∧ Xt b b1 ∧ (∀ c a, Is b1 c a → Is b c a ∨ a ∉ b.B.LP ∧ (a = f ∧ c = 1 ∨ a ≠ f ∧ 20 ≤ c)) ∧ (∀ a, a ∈ b.B.LP → I1 a = I a ∧ F1 a = F a ∧ A1 a = A a ∧ (a ≠ s → E1 a = E a)) ∧ E1 s 0 = E s 0 ∧ E1 s 1 = va_up (E s 1) K (some f) ∧ Is b1 1 f ∧ ¬ g.V 4 f ∧ ∀ i, i < 3000 → E s 1 i = some f → i = K
theorem cnt_pos {p : Nat → Bool} {i n : Nat} (hi : i < n) (hp : p i = true) : 0 < cnt p n := by
  refine Nat.pos_of_ne_zero (fun hz => ?_)
  have : ∀ m, i < m → m ≤ n → 0 < cnt p m := by
    intro m
    induction m with
    | zero => intro h; omega
    | succ m ih =>
      intro h1 h2
      unfold cnt
      by_cases hq : i = m
      · rw [← hq, hp]; simp
      · have := ih (by omega) (by omega); omega
  have := this n hi (Nat.le_refl _)
  omega
theorem c_come1 (hk : KV b g o s h vv I F A E N W) (hK : (I s 4).toInt < 3000) {v4 : Option Nat} (h4 : v4 = E s 1 (ix (I s 4))) {Z : HS → Prop} (hZ : ∀ f b1 I1 F1 A1 E1, Co1 b b1 g s f (ix (I s 4)) I I1 F F1 A A1 E E1 → BU b1 s E1 N → Z (cS b1 I1 F1 A1 E1)) :
    wIf (v4 = none) (wGetF (cS b I F A E) 9 1 (some s) fun v37 => wGetI (cS b I F A E) 9 4 (some s) fun v38 => wNew (cS b I F A E) 1 7 fun q39 x40 => w_X1_init q39 x40 (fun x41 => wAstG x41 25 1 v37 v38 q39 fun x43 => Z x43) (fun _ _ => False)) (Z (cS b I F A E)) := by
  obtain ⟨hb, hCo, hSK, -, -, -, -, hBU, -⟩ := hk
  obtain ⟨s1, s2, s3, s4, s5, -⟩ := id hSK
  obtain ⟨-, hVC, -, -, hKP, hTS⟩ := id hCo
  obtain ⟨-, ⟨k1, k2⟩, k3, k4, k5, k6⟩ := id hKP
  have hin : wIn (I s 4) 3000 := ⟨k1, by omega⟩
  have hKi : ((ix (I s 4) : Nat) : Int) = (I s 4).toInt := ix_int k1
  refine ⟨fun hn => ?_, fun hs => ?_⟩
  · rw [h4] at hn
    simp only [cw hb, s3]
    have hpos : 0 < NK s E := cnt_pos (ix_lt hin) (by rw [hn]; rfl)
    have hu := hBU
    unfold BU at hu
    refine c_newFact (CBX_nil.mpr hb) (fun a ha => absurd ha List.not_mem_nil) (by omega) (by omega) (fun q b' A' E' q1 q2 q3 q4 q5 q6 q7 => ?_)
    obtain ⟨n1, n2, n3, n4⟩ := id q2
    have hbq := CBX_nil.mp q1
    have hs' := n1.1 _ _ s3
    have hsq : s ≠ q := fun z => n2 (by rw [← z]; exact s3.1)
    have ead : b.ad s 1 = b'.ad s 1 := (n1.2 s 1 s3.1).symm
    rw [ead]
    simp only [cw hbq, hs', hin, true_and]
    refine ⟨fun y hy => by cases hy; exact n3, ?_⟩
    have hold : ∀ a, a ∈ b.B.LP → a ≠ q := fun a ha z => n2 (by rw [← z]; exact ha)
    have eE1 : up3 E' s 1 (ix (I s 4)) (some q) s 1 = va_up (E s 1) (ix (I s 4)) (some q) := by rw [up3_at, q6 s hsq]
    have hfr : ∀ i, E s 1 i ≠ some q := fun i z => n2 (k4 i q z).1
    refine hZ q b' _ _ _ _ ⟨hbq, n1, n4, fun a ha => ⟨va_up_ne _ _ (hold a ha), va_up_ne _ _ (hold a ha), q5 a (hold a ha), fun has => ?_⟩, ?_, eE1, n3, fun z => ?_, fun i _ z => absurd z (hfr i)⟩ ?_
    · funext j; rw [up3_ne (fun z => has z.1), q6 a (hold a ha)]
    · rw [up3_ne (by omega), q6 s hsq]
    · exact n2 (hCo.1.2.2.2 _ _ z).1.1
    · have e1 : NK s (up3 E' s 1 (ix (I s 4)) (some q)) + 1 = NK s E := by
        unfold NK
        rw [eE1]
        refine (cnt_set (f := ix (I s 4)) ?_ ?_ (fun i hi => ?_) (ix_lt hin)).symm
        · rw [va_up_self]; rfl
        · rw [hn]; rfl
        · rw [va_up_ne _ _ hi]
      have e2 : NI s (up3 E' s 1 (ix (I s 4)) (some q)) = NI s E := by
        refine NI_eq s3 hTS ?_ (fun t ht => ?_)
        · rw [up3_ne (by omega), q6 s hsq]
        · rw [up3_ne (fun z => Is_ne ht s3 (by decide) z.1), q6 t (hold t ht.1)]
      unfold BU
      rw [e2, q3, q4]
      omega
  · rw [h4] at hs
    obtain ⟨f, hf⟩ := Option.ne_none_iff_exists'.mp hs
    refine hZ f b I F A E ⟨hb, Xt_rf, fun c a h => Or.inl h, fun a ha => ⟨rfl, rfl, rfl, fun _ => rfl⟩, rfl, ?_, k4 _ f hf, fun z => ?_, fun i hi z => k5 i _ f hi (ix_lt hin) z hf⟩ hBU
    · rw [← hf, va_same]
    · obtain ⟨i, i1, i2⟩ := k6 f z
      have := k5 i _ f (by omega) (ix_lt hin) i2 hf
      omega
end C12
