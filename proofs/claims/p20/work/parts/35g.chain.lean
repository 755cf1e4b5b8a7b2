set_option linter.unusedVariables false
set_option linter.unusedSimpArgs false
/-! new chains -/
def bnew (b : CT) (q ci N : Nat) : CT := (HS.mk (b.B.LP ++ [q]) (va_up b.B.k q ci) b.B.n b.B.I b.B.F b.B.J b.B.G (b.B.c - 1) (b.B.z - N), b.2)
/-- what was there is there -/
def Xt (b b' : CT) : Prop := (∀ ci a, Is b ci a → Is b' ci a) ∧ ∀ a j, a ∈ b.B.LP → b'.ad a j = b.ad a j
theorem Xt_rf {b : CT} : Xt b b := ⟨fun _ _ h => h, fun _ _ _ => rfl⟩
theorem Xt_LP {b b' : CT} (h : Xt b b') {a : Nat} (ha : a ∈ b.B.LP) : a ∈ b'.B.LP := (h.1 (b.B.k a) a ⟨ha, rfl⟩).1
theorem Xt_tr {b b' b'' : CT} (h : Xt b b') (h2 : Xt b' b'') : Xt b b'' := ⟨fun ci a z => h2.1 ci a (h.1 ci a z), fun a j ha => by rw [h2.2 a j (Xt_LP h ha), h.2 a j ha]⟩
theorem bnew_Is {b : CT} {q ci N : Nat} (hq : q ∉ b.B.LP) : (∀ c a, Is (bnew b q ci N) c a ↔ Is b c a ∨ a = q ∧ c = ci) := by
  intro c a
  unfold Is bnew
  show a ∈ b.B.LP ++ [q] ∧ va_up b.B.k q ci a = c ↔ _
  rw [List.mem_append, List.mem_singleton]
  by_cases ha : a = q
  · subst ha
    rw [va_up_self]
    exact ⟨fun h => Or.inr ⟨rfl, h.2.symm⟩, fun h => h.elim (fun z => absurd z.1 hq) (fun z => ⟨Or.inr rfl, z.2.symm⟩)⟩
  · rw [va_up_ne _ _ ha]
    exact ⟨fun h => Or.inl ⟨h.1.resolve_right ha, h.2⟩, fun h => h.elim (fun z => ⟨Or.inl z.1, z.2⟩) (fun z => absurd z.1 ha)⟩
theorem bnew_Xt {b : CT} {q ci N : Nat} (hq : q ∉ b.B.LP) : Xt b (bnew b q ci N) := ⟨fun c a h => (bnew_Is hq c a).mpr (Or.inl h), fun _ _ _ => rfl⟩
theorem bnew_CB0 {b : CT} {q ci N : Nat} (hb : CB0 b) (hq : q ∉ b.B.LP) : CB0 (bnew b q ci N) := by
  intro p a j h
  obtain ⟨h1, h2, h3, h4, h5, h6⟩ := hb p a j h
  have e : ∀ x, x ∈ b.B.LP → (bnew b q ci N).B.k x = b.B.k x := fun x hx => va_up_ne _ _ (fun z => hq (by rw [← z]; exact hx))
  exact ⟨List.mem_append_left _ h1, List.mem_append_left _ h2, h3, by rw [e a h2]; exact h4, by rw [e p h1, e a h2]; exact h5, by rw [e a h2]; exact h6⟩
theorem bnew_CB {b : CT} {q ci N : Nat} (hb : CB b) (hq : q ∉ b.B.LP) (hc : ∀ j, oF ci j = 0) : CB (bnew b q ci N) := by
  refine ⟨bnew_CB0 hb.1 hq, fun a ha j hj => ?_⟩
  rcases List.mem_append.mp ha with h | h
  · have e : (bnew b q ci N).B.k a = b.B.k a := va_up_ne _ _ (fun z => hq (by rw [← z]; exact h))
    rw [e] at hj
    exact hb.2 a h j hj
  · rw [List.mem_singleton] at h
    subst h
    have e : (bnew b a ci N).B.k a = ci := va_up_self _ _ _
    rw [e] at hj
    exact absurd (hc j) hj
theorem c_new {b : CT} {I : Nat → Nat → Int32} {F : Nat → Nat → Option Nat} {A : Nat → Nat → Nat → Int32} {E : Nat → Nat → Nat → Option Nat} {ci N : Nat} (hb : CB0 b) (hc : 1 ≤ b.B.c) (hz : N ≤ b.B.z) {Z : Option Nat → HS → Prop} (hZ : ∀ q, q ∉ b.B.LP → Z (some q) (cS (bnew b q ci N) (va_up I q (fun _ => 0)) (va_up F q (fun _ => none)) A E)) : wNew (cS b I F A E) ci N Z := by
  refine ⟨hc, hz, fun q hq => ?_⟩
  have : (cS b I F A E).new q ci N = cS (bnew b q ci N) (va_up I q (fun _ => 0)) (va_up F q (fun _ => none)) A E := by
    have e : va_up (cF b F) q (fun _ => none) = cF (bnew b q ci N) (va_up F q (fun _ => none)) := by
      funext a j
      by_cases ha : a = q
      · subst ha
        rw [va_up_self]
        show none = if b.own (b.ad a j) = some (a, j) then some (b.ad a j) else va_up F a (fun _ => none) a j
        rw [if_neg (fun z => hq (hb _ _ _ z).2.1), va_up_self]
      · rw [va_up_ne _ _ ha]
        show (if b.own (b.ad a j) = some (a, j) then some (b.ad a j) else F a j) = if b.own (b.ad a j) = some (a, j) then some (b.ad a j) else va_up F q (fun _ => none) a j
        rw [va_up_ne _ _ ha]
    show HS.mk _ _ _ _ (va_up (cF b F) q fun _ => none) _ _ _ _ = _
    rw [e]; rfl
  rw [this]
  exact hZ q hq
theorem no_own0 : ∀ j, oF 0 j = 0 := by
  intro j
  unfold oF
  simp
/-- what may change while facts are placed -/
def Fr (b b' : CT) (I I' : Nat → Nat → Int32) (F F' : Nat → Nat → Option Nat) (E E' : Nat → Nat → Nat → Option Nat) : Prop :=
  Xt b b' ∧ b'.2 = b.2 ∧ (∀ ci a, Is b' ci a → Is b ci a ∨ ci = 0 ∧ a ∉ b.B.LP) ∧ (∀ a, a ∈ b.B.LP → I' a = I a) ∧ (∀ c a j, Is b c a → ¬ (c = 0 ∧ (j = 3 ∨ j = 4)) → F' a j = F a j) ∧ ∀ c a j, Is b c a → ¬ (c = 4 ∧ j = 1) → ¬ (c = 1 ∧ j = 1) → E' a j = E a j
theorem Fr_rf {b : CT} {I : Nat → Nat → Int32} {F : Nat → Nat → Option Nat} {E : Nat → Nat → Nat → Option Nat} : Fr b b I I F F E E := ⟨Xt_rf, rfl, fun _ _ h => Or.inl h, fun _ _ => rfl, fun _ _ _ _ _ => rfl, fun _ _ _ _ _ _ => rfl⟩
theorem Fr_tr {b b' b'' : CT} {I I' I'' : Nat → Nat → Int32} {F F' F'' : Nat → Nat → Option Nat} {E E' E'' : Nat → Nat → Nat → Option Nat} (h : Fr b b' I I' F F' E E') (h2 : Fr b' b'' I' I'' F' F'' E' E'') : Fr b b'' I I'' F F'' E E'' := by
  obtain ⟨p1, p2, p3, p4, p5, p6⟩ := h
  obtain ⟨q1, q2, q3, q4, q5, q6⟩ := h2
  refine ⟨Xt_tr p1 q1, by rw [q2, p2], fun ci a ha => ?_, fun a ha => by rw [q4 a (Xt_LP p1 ha), p4 a ha], fun c a j ha hj => by rw [q5 c a j (p1.1 c a ha) hj, p5 c a j ha hj], fun c a j ha h1 h2 => by rw [q6 c a j (p1.1 c a ha) h1 h2, p6 c a j ha h1 h2]⟩
  rcases q3 ci a ha with h | ⟨h1, h2⟩
  · exact p3 ci a h
  · exact Or.inr ⟨h1, fun z => h2 (Xt_LP p1 z)⟩
section C7
variable {b : CT} {g : Gh} {s : Nat} {I : Nat → Nat → Int32} {F : Nat → Nat → Option Nat} {A : Nat → Nat → Nat → Int32} {E : Nat → Nat → Nat → Option Nat} {XX : Nat → Nat → Prop} {X : String → HS → Prop} {Q : HS → Prop} {QF : Option Nat → HS → Prop}
theorem Fr_Ins {g g' : Gh} {l f c : Nat} {F' : Nat → Nat → Option Nat} {E' : Nat → Nat → Nat → Option Nat} (hc : Is b 0 c) (h : Ins b g g' l f c F F' E E') : Fr b b I I F F' E E' :=
  ⟨Xt_rf, rfl, fun _ _ h => Or.inl h, fun _ _ => rfl, fun c2 a j ha hj => h.2.2.2.2.1 a j (fun z => hj ⟨by rw [← ha.2, z.1, hc.2], z.2⟩), fun c2 a j ha h1 h2 => by
    funext i
    exact h.2.2.2.2.2.1 a j i (fun z => h2 ⟨by rw [← ha.2, z.1.2], z.2.1⟩)⟩
theorem Fd_mono {I' : Nat → Nat → Int32} {F' : Nat → Nat → Option Nat} (hL : LO b g I F E) (hI : ∀ c, Is b 0 c → I' c 1 = I c 1 ∧ F' c 2 = F c 2) {n : Nat} {r : Option Nat} {v : Int32} (hr : Rf b 0 r) (h : Fdn I F n r v) : Fdn I' F' n r v := Fd_eq hI (fun c hc d hd => ((hL.1 c hc).2.2.1 d hd).1) n r v hr h
/-- the chain for a fact of the index's table -/
theorem c_chainFor (hb : CB b) (hL : LO b g I F E) (hP : PR g F E) (hC : CE b g I F A E) (hV : VC g F E XX) {x f : Nat} (hx : Is b 4 x) (hf : Is b 1 f) (hcost : (∃ n, Fdn I F n (E x 1 (ix (A f 0 (ix (I x 0)) &&& 63))) (A f 0 (ix (I x 0)))) ∨ 1 ≤ b.B.c ∧ 5 ≤ b.B.z)
    (hQ : ∀ c b' g' I' F' E', CB b' → Fr b b' I I' F F' E E' → LO b' g' I' F' E' → PR g' F' E' → CE b' g' I' F' A E' → VC g' F' E' XX → g'.V = g.V → g'.R = g.R → g'.U = g.U → (∀ a, a ∈ b.B.LP → g'.T a = g.T a) → (∀ a j, ¬ (a = x ∧ j = 1) → E' a j = E a j) → ((b' = b ∧ g' = g ∧ I' = I ∧ F' = F ∧ E' = E) ∨ b'.B.c = b.B.c - 1 ∧ b'.B.z = b.B.z - 5 ∧ ∀ n, ¬ Fdn I F n (E x 1 (ix (A f 0 (ix (I x 0)) &&& 63))) (A f 0 (ix (I x 0)))) → Is b' 0 c → g'.T c = g.U x → I' c 0 = I x 0 → (∃ n, Fdn I' F' n (E' x 1 (ix (A f 0 (ix (I x 0)) &&& 63))) (A f 0 (ix (I x 0)))) → (∀ y i w, Is b 4 y → (∃ n, Fdn I F n (E y 1 i) w) → ∃ n, Fdn I' F' n (E' y 1 i) w) → QF (some c) (cS b' I' F' A E')) : w_X4_chainFor (some x) (some f) (cS b I F A E) QF X := by
  obtain ⟨x1, x2, x3⟩ := hL.2.1 x hx
  simp only [w_X4_chainFor, cw hb, hx, hf, x1, true_and]
  generalize A f 0 (ix (I x 0)) = v at *
  refine c_chainWith hb hL hx (fun r hn hs => ?_)
  refine ⟨fun h => ?_, fun h => ?_⟩
  · replace hn := hn h
    replace hcost := hcost.resolve_left (fun ⟨n, z⟩ => hn n z)
    refine c_new hb.1 hcost.1 hcost.2 (fun q hq => ?_)
    have hbq := bnew_CB (q := q) (ci := 0) (N := 5) hb hq no_own0
    have hIs := bnew_Is (b := b) (q := q) (ci := 0) (N := 5) hq
    have hq0 : Is (bnew b q 0 5) 0 q := (hIs 0 q).mpr (Or.inr ⟨rfl, rfl⟩)
    have hx0 : Is (bnew b q 0 5) 4 x := (hIs 4 x).mpr (Or.inl hx)
    have hne : ∀ a, a ∈ b.B.LP → a ≠ q := fun a ha z => hq (by rw [← z]; exact ha)
    have hxq : x ≠ q := hne x hx.1
    have ex : va_up I q (fun _ => 0) x 0 = I x 0 := by rw [va_up_ne _ _ hxq]
    have ead : b.ad x 1 = (bnew b q 0 5).ad x 1 := rfl
    simp only [w_X0_init, wRef, Option.some.injEq, exists_eq', true_and]
    simp only [cw hbq, hx0, hq0, and63, true_and, ex]
    refine ⟨fun y hy => by cases hy; exact hq0, ?_⟩
    generalize hI' : up2 (up2 (va_up I q (fun _ => 0)) q 0 (I x 0)) q 1 v = I'
    generalize hF' : up2 (va_up F q (fun _ => none)) q 2 (E x 1 (ix (v &&& 63))) = F'
    generalize hE' : up3 E x 1 (ix (v &&& 63)) (some q) = E'
    have eI : ∀ a, a ∈ b.B.LP → I' a = I a := fun a ha => by
      funext j
      rw [← hI', up2_a _ _ _ _ (hne a ha), up2_a _ _ _ _ (hne a ha), va_up_ne _ _ (hne a ha)]
    have eF : ∀ a, a ∈ b.B.LP → F' a = F a := fun a ha => by
      funext j
      rw [← hF', up2_a _ _ _ _ (hne a ha), va_up_ne _ _ (hne a ha)]
    have eE : ∀ a j, ¬ (a = x ∧ j = 1) → E' a j = E a j := fun a j h => by rw [← hE']; exact up3_ne h
    have eEx : E' x 1 = va_up (E x 1) (ix (v &&& 63)) (some q) := by rw [← hE', up3_at]
    have q0 : I' q 0 = I x 0 := by rw [← hI', up2_k _ _ _ _ (by decide), up2_self]
    have q1 : I' q 1 = v := by rw [← hI', up2_self]
    have q2 : F' q 2 = E x 1 (ix (v &&& 63)) := by rw [← hF', up2_self]
    have q3 : F' q 3 = none := by rw [← hF', up2_k _ _ _ _ (by decide), va_up_self]
    have q4 : F' q 4 = none := by rw [← hF', up2_k _ _ _ _ (by decide), va_up_self]
    clear hI' hF' hE'
    have hg : ∃ g' : Gh, g'.V = g.V ∧ g'.R = g.R ∧ g'.U = g.U ∧ g'.T = va_up g.T q (g.U x) ∧ g'.S = va_up g.S q (match E x 1 (ix (v &&& 63)) with | none => 0 | some d => g.S d + 1) := ⟨(g.1, g.2.1, va_up g.T q (g.U x), va_up g.S q (match E x 1 (ix (v &&& 63)) with | none => 0 | some d => g.S d + 1), g.2.2.2.2), rfl, rfl, rfl, rfl, rfl⟩
    obtain ⟨g', gV, gR, gU, gT, gS⟩ := hg
    have gV' : ∀ l f, g'.V l f ↔ g.V l f := fun l f => by show g'.1 l f ↔ g.1 l f; rw [show g'.1 = g.1 from gV]
    have gR' : ∀ l f, g'.R l f = g.R l f := fun l f => by show g'.2.1 l f = g.2.1 l f; rw [show g'.2.1 = g.2.1 from gR]
    have gU' : ∀ f, g'.U f = g.U f := fun f => by show g'.2.2.2.2 f = _; rw [show g'.2.2.2.2 = g.2.2.2.2 from gU]
    have gT' : ∀ a, a ∈ b.B.LP → g'.T a = g.T a := fun a ha => by
      show g'.2.2.1 a = _; rw [show g'.2.2.1 = _ from gT, va_up_ne _ _ (hne a ha)]
    have gTq : g'.T q = g.U x := by show g'.2.2.1 q = _; rw [show g'.2.2.1 = _ from gT, va_up_self]
    have gS' : ∀ a, a ∈ b.B.LP → g'.S a = g.S a := fun a ha => by
      show g'.2.2.2.1 a = _; rw [show g'.2.2.2.1 = _ from gS, va_up_ne _ _ (hne a ha)]
    have gSq : g'.S q = (match E x 1 (ix (v &&& 63)) with | none => 0 | some d => g.S d + 1) := by show g'.2.2.2.1 q = _; rw [show g'.2.2.2.1 = _ from gS, va_up_self]
    have up : ∀ c a, Is b c a → Is (bnew b q 0 5) c a := fun c a h => (hIs c a).mpr (Or.inl h)
    obtain ⟨l1, l2, l3, l4⟩ := id hL
    have vF : ∀ l f, g.V l f → F' f = F f := fun l f hv => eF f (l4 l f hv).1.1
    have hL' : LO (bnew b q 0 5) g' I' F' E' := by
      refine ⟨fun c hc => ?_, fun y hy => ?_, fun t ht => ?_, fun l f hv => ?_⟩
      · rcases (hIs 0 c).mp hc with hc | ⟨rfl, -⟩
        · obtain ⟨p1, p2, p3, p4, p5⟩ := l1 c hc
          unfold XCh
          rw [eI c hc.1, eF c hc.1, gT' c hc.1]
          refine ⟨p1, up _ _ p2, fun d hd => ?_, fun f hf => ?_, fun f hf => ?_⟩
          · obtain ⟨z1, z2, z3, z4⟩ := p3 d hd
            exact ⟨up _ _ z1, by rw [gS' d z1.1, gS' c hc.1]; exact z2, by rw [gT' d z1.1]; exact z3, by rw [eI d z1.1]; exact z4⟩
          · exact ⟨(gV' _ _).mpr (p4 f hf).1, by rw [vF _ _ (p4 f hf).1]; exact (p4 f hf).2⟩
          · exact ⟨(gV' _ _).mpr (p5 f hf).1, by rw [vF _ _ (p5 f hf).1]; exact (p5 f hf).2⟩
        · unfold XCh
          rw [q0, q2, q3, q4, gTq]
          refine ⟨⟨x1.1, by have := x1.2; omega⟩, up _ _ x2, fun d hd => ?_, fun f hf => absurd hf (by simp), fun f hf => absurd hf (by simp)⟩
          obtain ⟨z1, z2, z3⟩ := x3 _ d hd
          refine ⟨up _ _ z1, ?_, by rw [gT' d z1.1]; exact z2, by rw [eI d z1.1]; exact z3⟩
          rw [gSq, gS' d z1.1, hd]; exact Nat.lt_succ_self _
      · rcases (hIs 4 y).mp hy with hy | ⟨-, h⟩
        · obtain ⟨p1, p2, p3⟩ := l2 y hy
          unfold XIx
          rw [eI y hy.1, gU']
          refine ⟨p1, up _ _ p2, fun i c hc => ?_⟩
          by_cases hyx : y = x
          · subst hyx
            rw [eEx] at hc
            by_cases hi : i = ix (v &&& 63)
            · rw [hi, va_up_self] at hc
              cases hc
              exact ⟨hq0, gTq, q0⟩
            · rw [va_up_ne _ _ hi] at hc
              obtain ⟨z1, z2, z3⟩ := p3 i c hc
              exact ⟨up _ _ z1, by rw [gT' c z1.1]; exact z2, by rw [eI c z1.1]; exact z3⟩
          · rw [eE y 1 (fun z => hyx z.1)] at hc
            obtain ⟨z1, z2, z3⟩ := p3 i c hc
            exact ⟨up _ _ z1, by rw [gT' c z1.1]; exact z2, by rw [eI c z1.1]; exact z3⟩
        · exact absurd h (by decide)
      · rcases (hIs 10 t).mp ht with ht | ⟨-, h⟩
        · obtain ⟨p1, p2, ⟨r, p3, p4, p5, p6⟩, p7⟩ := l3 t ht
          unfold XTb
          rw [eI t ht.1, eF t ht.1, eE t 3 (fun z => absurd z.2 (by decide))]
          refine ⟨p1, p2, ⟨r, p3, up _ _ p4, by rw [gT' r p4.1]; exact p5, by rw [eI r p4.1]; exact p6⟩, fun k y hy => ?_⟩
          obtain ⟨z1, z2, z3, z4⟩ := p7 k y hy
          exact ⟨up _ _ z1, by rw [gU']; exact z2, by rw [eI y z1.1]; exact z3, z4⟩
        · exact absurd h (by decide)
      · have hv2 := (gV' _ _).mp hv
        obtain ⟨p1, ⟨t, p2, p3⟩, p4⟩ := l4 l f hv2
        unfold XV
        rw [vF _ _ hv2, eE f 1 (fun z => Is_ne p1 hx (by decide) z.1)]
        refine ⟨up _ _ p1, ⟨t, p2, up _ _ p3⟩, fun f' hf' => ?_⟩
        obtain ⟨z1, z2, z3⟩ := p4 f' hf'
        exact ⟨(gV' _ _).mpr z1, by rw [vF _ _ z1]; exact z2, by rw [gR', gR']; exact z3⟩
    have hT : ∀ l f t, g.V l f → F f 2 = some t → Is b 10 t := fun l f t hv ht => by
      obtain ⟨-, ⟨t', p2, p3⟩, -⟩ := l4 l f hv
      rw [ht] at p2; cases p2; exact p3
    have hFd : ∀ n r w, Rf b 0 r → Fdn I F n r w → Fdn I' F' n r w := fun n r w hr h => Fd_mono hL (fun c hc => by rw [eI c hc.1, eF c hc.1]; exact ⟨rfl, rfl⟩) hr h
    refine hQ q _ g' I' F' E' hbq ⟨bnew_Xt hq, rfl, fun ci a h => ?_, eI, fun c a j ha hj => by rw [eF a ha.1], fun c a j ha h1 h2 => eE a j (fun z => h1 ⟨by rw [← ha.2, z.1, hx.2], z.2⟩)⟩ hL' ?_ ?_ ?_ gV gR gU gT' eE (Or.inr ⟨rfl, rfl, hn⟩) hq0 gTq q0 ?_ (fun y i w hy ⟨n, hn3⟩ => ?_)
    · rcases (hIs ci a).mp h with h | ⟨rfl, rfl⟩
      · exact Or.inl h
      · exact Or.inr ⟨rfl, hq⟩
    · refine ⟨fun f t hv ht => ?_, ?_⟩
      · have hv2 := (gV' _ _).mp hv
        rw [vF _ _ hv2] at ht
        have htt := hT _ _ _ hv2 ht
        rcases hP.1 f t hv2 ht with ⟨r, r1, r2⟩ | ⟨p, r1, r2, r3⟩
        · obtain ⟨-, -, ⟨r', z1, z2, -⟩, -⟩ := l3 t htt
          rw [r1] at z1; cases z1
          exact Or.inl ⟨r, by rw [eF t htt.1]; exact r1, by rw [eF r z2.1]; exact r2⟩
        · exact Or.inr ⟨p, (gV' _ _).mpr r1, by rw [vF _ _ r1]; exact r2, by rw [eE p 1 (fun z => Is_ne (l4 _ _ r1).1 hx (by decide) z.1)]; exact r3⟩
      · obtain ⟨B, hB⟩ := hP.2
        exact ⟨B, fun f hf => by rw [gR']; exact hB f ((gV' _ _).mp hf)⟩
    · refine ⟨?_, ?_⟩
      rotate_left
      · intro c hc
        rcases (hIs 0 c).mp hc with hc | ⟨rfl, -⟩
        · rw [gT' c hc.1, eF _ (l1 c hc).2.1.1]
          refine (hC.2 c hc).imp id (fun ⟨y, i, n, z1, z2, z3, z4⟩ => ?_)
          have z5 := Sb_eq (F' := F') (fun c hc => by rw [eF c hc.1]) (fun c hc d hd => ((l1 c hc).2.2.1 d hd).1) n _ c (fun d hd => ((l2 y z1).2.2 _ d hd).1) z4
          by_cases hyi : y = x ∧ i = ix (v &&& 63)
          · obtain ⟨rfl, rfl⟩ := hyi
            exact ⟨y, _, n + 1, up _ _ z1, by rw [gU']; exact z2, z3, q, by rw [eEx, va_up_self], by rw [q2]; exact z5⟩
          · refine ⟨y, i, n, up _ _ z1, by rw [gU']; exact z2, z3, ?_⟩
            by_cases hyx : y = x
            · subst hyx
              rw [eEx, va_up_ne _ _ (fun z => hyi ⟨rfl, z⟩)]; exact z5
            · rw [eE y 1 (fun z => hyx z.1)]; exact z5
        · refine Or.inr ⟨x, ix (v &&& 63), 0, hx0, by rw [gU', gTq], ix_lt (and63 v), ?_⟩
          show E' x 1 _ = _
          rw [eEx, va_up_self]
      intro k f' t y hk hv ht hy
      have hv2 := (gV' _ _).mp hv
      rw [vF _ _ hv2] at ht
      have htt := hT _ _ _ hv2 ht
      rw [eE t 3 (fun z => absurd z.2 (by decide))] at hy
      obtain ⟨n, hn2⟩ := hC.1 k f' t y hk hv2 ht hy
      obtain ⟨z1, z2, z3, z4⟩ := (l3 t htt).2.2.2 k y hy
      have hrf : Rf b 0 (E y 1 (ix (A f' 0 k &&& 63))) := fun c hc => ((l2 y z1).2.2 _ c hc).1
      have hn3 := hFd _ _ _ hrf hn2
      by_cases hyx : y = x
      · subst hyx
        rw [eEx]
        by_cases hi : ix (A f' 0 k &&& 63) = ix (v &&& 63)
        · refine ⟨n + 1, q, by rw [hi, va_up_self], Or.inr ?_⟩
          rw [q2, ← hi]; exact hn3
        · exact ⟨n, by rw [va_up_ne _ _ hi]; exact hn3⟩
      · exact ⟨n, by rw [eE y 1 (fun z => hyx z.1)]; exact hn3⟩
    · refine ⟨fun l f hv => ⟨(gV' _ _).mpr (hV.1 l f ((gV' _ _).mp hv)).1, (hV.1 l f ((gV' _ _).mp hv)).2⟩, fun k f t hk hv ht hxx => ?_⟩
      have hv2 := (gV' _ _).mp hv
      rw [vF _ _ hv2] at ht
      rw [eE t 3 (fun z => absurd z.2 (by decide)), gV']
      exact hV.2 k f t hk hv2 ht hxx
    · exact ⟨1, q, by rw [eEx, va_up_self], Or.inl q1⟩
    · have hn4 := hFd _ _ _ (fun c hc => ((l2 y hy).2.2 _ c hc).1) hn3
      by_cases hyx : y = x
      · subst hyx
        rw [eEx]
        by_cases hi : i = ix (v &&& 63)
        · refine ⟨n + 1, q, by rw [hi, va_up_self], Or.inr ?_⟩
          rw [q2, ← hi]; exact hn4
        · exact ⟨n, by rw [va_up_ne _ _ hi]; exact hn4⟩
      · exact ⟨n, by rw [eE y 1 (fun z => hyx z.1)]; exact hn4⟩
  · obtain ⟨c, rfl⟩ := Option.ne_none_iff_exists'.mp h
    obtain ⟨c1, c2, c3, c4, c5⟩ := hs c rfl
    exact hQ c b g I F E hb Fr_rf hL hP hC hV rfl rfl rfl (fun _ _ => rfl) (fun _ _ _ => rfl) (Or.inl ⟨rfl, rfl, rfl, rfl, rfl⟩) c1 c2 c3 c5 (fun _ _ _ _ h => h)
end C7
