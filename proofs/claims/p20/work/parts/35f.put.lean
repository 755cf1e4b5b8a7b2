set_option linter.unusedVariables false
set_option linter.unusedSimpArgs false
/-! putting facts into chains -/
/-- the fact f now stands in the lane l too, in the chain c -/
def Ins (b : CT) (g g' : Gh) (l f c : Nat) (F F' : Nat → Nat → Option Nat) (E E' : Nat → Nat → Nat → Option Nat) : Prop :=
  (∀ l' f', g'.V l' f' ↔ g.V l' f' ∨ l' = l ∧ f' = f) ∧ g'.T = g.T ∧ g'.S = g.S ∧ g'.U = g.U ∧ (∀ a j, ¬ (a = c ∧ (j = 3 ∨ j = 4)) → F' a j = F a j) ∧ (∀ a j i, ¬ (Is b 1 a ∧ j = 1 ∧ i = l) → E' a j i = E a j i) ∧ ∀ a, ¬ g.V l a → a ≠ f → E' a = E a
def gR (g : Gh) (R : Nat → Nat → Nat) : Gh := (g.1, R, g.2.2.1, g.2.2.2.1, g.2.2.2.2)
def gV (g : Gh) (l f m : Nat) : Gh := (fun l' f' => g.V l' f' ∨ l' = l ∧ f' = f, fun l' f' => if l' = l ∧ f' = f then m else g.R l' f', g.2.2.1, g.2.2.2.1, g.2.2.2.2)
section C6
variable {b : CT} {g : Gh} {s : Nat} {I : Nat → Nat → Int32} {F : Nat → Nat → Option Nat} {A : Nat → Nat → Nat → Int32} {E : Nat → Nat → Nat → Option Nat} {XX : Nat → Nat → Prop} {X : String → HS → Prop} {Q : HS → Prop} {QF : Option Nat → HS → Prop}
theorem LO_rank {R : Nat → Nat → Nat} (h : LO b g I F E) (hR : ∀ l a c, g.R l a < g.R l c → R l a < R l c) : LO b (gR g R) I F E :=
  ⟨h.1, h.2.1, h.2.2.1, fun l f hv => by
    obtain ⟨p1, p2, p3⟩ := h.2.2.2 l f hv
    exact ⟨p1, p2, fun f' hf' => ⟨(p3 f' hf').1, (p3 f' hf').2.1, hR _ _ _ (p3 f' hf').2.2⟩⟩⟩
/-- one more stands in the lane, before p, and after nobody yet -/
theorem LO_add {l f t m : Nat} {p : Option Nat} (h : LO b g I F E) (hf : Is b 1 f) (ht : F f 2 = some t) (htt : Is b 10 t) (hn : ¬ g.V l f) (hp : On g F l t p) (hm : rk g l p ≤ m) : LO b (gV g l f m) I F (up3 E f 1 l p) := by
  obtain ⟨h1, h2, h3, h4⟩ := h
  have hne : ∀ c a j i, Is b c a → (c, j) ≠ (1, 1) → up3 E f 1 l p a j i = E a j i := fun c a j i ha hc => by
    rw [up3_ne]
    rintro ⟨rfl, rfl⟩
    exact hc (by rw [← ha.2, hf.2])
  have hR : ∀ l' f', g.V l' f' → (gV g l f m).R l' f' = g.R l' f' := fun l' f' hv => if_neg (fun z => hn (by rw [← z.1, ← z.2]; exact hv))
  refine ⟨fun c hc => ?_, fun x hx => ?_, fun t ht => ?_, fun l' f' hv => ?_⟩
  · obtain ⟨p1, p2, p3, p4, p5⟩ := h1 c hc
    exact ⟨p1, p2, p3, fun f hf => ⟨Or.inl (p4 f hf).1, (p4 f hf).2⟩, fun f hf => ⟨Or.inl (p5 f hf).1, (p5 f hf).2⟩⟩
  · obtain ⟨p1, p2, p3⟩ := h2 x hx
    exact ⟨p1, p2, fun i c hc => p3 i c (by rw [hne 4 x 1 i hx (by decide)] at hc; exact hc)⟩
  · obtain ⟨p1, p2, p3, p4⟩ := h3 t ht
    exact ⟨p1, p2, p3, fun k x hx => p4 k x (by rw [hne 10 t 3 k ht (by decide)] at hx; exact hx)⟩
  · rcases hv with hv | ⟨rfl, rfl⟩
    · obtain ⟨p1, p2, p3⟩ := h4 l' f' hv
      refine ⟨p1, p2, fun f'' hf'' => ?_⟩
      have : up3 E f 1 l p f' 1 l' = E f' 1 l' := by
        unfold up3; rw [if_neg]
        rintro ⟨rfl, -, rfl⟩; exact hn hv
      rw [this] at hf''
      obtain ⟨q1, q2, q3⟩ := p3 f'' hf''
      exact ⟨Or.inl q1, q2, by rw [hR _ _ q1, hR _ _ hv]; exact q3⟩
    · refine ⟨hf, ⟨t, ht, htt⟩, fun f'' hf'' => ?_⟩
      rw [up3_at, va_up_self] at hf''
      obtain ⟨q1, q2⟩ := hp f'' hf''
      refine ⟨Or.inl q1, by rw [q2, ht], ?_⟩
      rw [hR _ _ q1]
      have e1 : (gV g l' f' m).R l' f' = m := if_pos ⟨rfl, rfl⟩
      rw [e1]
      rw [hf''] at hm
      exact hm
/-- one who stands in the lane is put before another who does -/
theorem LO_link {l f d : Nat} (h : LO b g I F E) (hd : g.V l d) (hf : g.V l f) (ht : F f 2 = F d 2) (hr : g.R l f < g.R l d) : LO b g I F (up3 E d 1 l (some f)) := by
  obtain ⟨h1, h2, h3, h4⟩ := h
  have hdf := (h4 l d hd).1
  have hne : ∀ c a j i, Is b c a → (c, j) ≠ (1, 1) → up3 E d 1 l (some f) a j i = E a j i := fun c a j i ha hc => by
    rw [up3_ne]
    rintro ⟨rfl, rfl⟩
    exact hc (by rw [← ha.2, hdf.2])
  refine ⟨h1, fun x hx => ?_, fun t ht => ?_, fun l' f' hv => ?_⟩
  · obtain ⟨p1, p2, p3⟩ := h2 x hx
    exact ⟨p1, p2, fun i c hc => p3 i c (by rw [hne 4 x 1 i hx (by decide)] at hc; exact hc)⟩
  · obtain ⟨p1, p2, p3, p4⟩ := h3 t ht
    exact ⟨p1, p2, p3, fun k x hx => p4 k x (by rw [hne 10 t 3 k ht (by decide)] at hx; exact hx)⟩
  · obtain ⟨p1, p2, p3⟩ := h4 l' f' hv
    refine ⟨p1, p2, fun f'' hf'' => ?_⟩
    by_cases hq : f' = d ∧ l' = l
    · obtain ⟨rfl, rfl⟩ := hq
      rw [up3_at, va_up_self] at hf''
      cases hf''
      exact ⟨hf, ht, hr⟩
    · have : up3 E d 1 l (some f) f' 1 l' = E f' 1 l' := by
        unfold up3; rw [if_neg]
        rintro ⟨rfl, -, rfl⟩; exact hq ⟨rfl, rfl⟩
      rw [this] at hf''
      exact p3 f'' hf''
/-- a chain's first or last is another -/
theorem LO_end {c f j : Nat} (h : LO b g I F E) (hc : Is b 0 c) (hj : j = 3 ∨ j = 4) (hf : g.V (ix (I c 0)) f) (ht : F f 2 = some (g.T c)) : LO b g I (up2 F c j (some f)) E := by
  obtain ⟨h1, h2, h3, h4⟩ := h
  have hne : ∀ c2 a j', Is b c2 a → (c2 ≠ 0 ∨ j' = 2) → up2 F c j (some f) a j' = F a j' := fun c2 a j' ha hc2 => by
    unfold up2; rw [if_neg]
    rintro ⟨rfl, rfl⟩
    rcases hc2 with hc2 | hc2
    · exact hc2 (by rw [← ha.2, hc.2])
    · omega
  refine ⟨fun c' hc' => ?_, h2, fun t ht => ?_, fun l' f' hv => ?_⟩
  · obtain ⟨p1, p2, p3, p4, p5⟩ := h1 c' hc'
    have hf2 : ∀ l f', g.V l f' → up2 F c j (some f) f' 2 = F f' 2 := fun l f' hv => hne 1 f' 2 (h4 l f' hv).1 (Or.inl (by decide))
    refine ⟨p1, p2, fun d hd => p3 d (by rw [hne 0 c' 2 hc' (Or.inr rfl)] at hd; exact hd), fun f' hf' => ?_, fun f' hf' => ?_⟩
    · by_cases hq : c' = c ∧ 3 = j
      · obtain ⟨rfl, rfl⟩ := hq
        rw [up2_self] at hf'; cases hf'
        exact ⟨hf, by rw [hf2 _ _ hf]; exact ht⟩
      · have : up2 F c j (some f) c' 3 = F c' 3 := if_neg hq
        rw [this] at hf'
        exact ⟨(p4 f' hf').1, by rw [hf2 _ _ (p4 f' hf').1]; exact (p4 f' hf').2⟩
    · by_cases hq : c' = c ∧ 4 = j
      · obtain ⟨rfl, rfl⟩ := hq
        rw [up2_self] at hf'; cases hf'
        exact ⟨hf, by rw [hf2 _ _ hf]; exact ht⟩
      · have : up2 F c j (some f) c' 4 = F c' 4 := if_neg hq
        rw [this] at hf'
        exact ⟨(p5 f' hf').1, by rw [hf2 _ _ (p5 f' hf').1]; exact (p5 f' hf').2⟩
  · obtain ⟨p1, p2, ⟨r, p3, p4, p5, p6⟩, p7⟩ := h3 t ht
    exact ⟨p1, p2, ⟨r, by rw [hne 10 t 2 ht (Or.inl (by decide))]; exact p3, p4, p5, p6⟩, p7⟩
  · obtain ⟨p1, ⟨t, p2, p3⟩, p4⟩ := h4 l' f' hv
    have e1 : up2 F c j (some f) f' 2 = F f' 2 := hne 1 f' 2 p1 (Or.inl (by decide))
    refine ⟨p1, ⟨t, by rw [e1]; exact p2, p3⟩, fun f'' hf'' => ?_⟩
    obtain ⟨q1, q2, q3⟩ := p4 f'' hf''
    exact ⟨q1, by rw [e1, hne 1 f'' 2 (h4 _ _ q1).1 (Or.inl (by decide))]; exact q2, q3⟩
theorem c_putAhead (hb : CB b) {c f : Nat} (hL : LO b g I F E) (hP : PR g F E) (hc : Is b 0 c) (hf : Is b 1 f) (ht : F f 2 = some (g.T c)) (hn : ¬ g.V (ix (I c 0)) f) (hrow : I c 0 = 4 → F (g.T c) 2 = some c) (hQ : ∀ g' F' E', Ins b g g' (ix (I c 0)) f c F F' E E' → LO b g' I F' E' → PR g' F' E' → Q (cS b I F' A E')) : w_X0_putAhead (some c) (some f) (cS b I F A E) Q X := by
  obtain ⟨⟨l1, l2⟩, c2, -⟩ := hL.1 c hc
  have hli : wIn (I c 0) 5 := ⟨l1, by omega⟩
  have hfi := On_first hL hc
  have hrf : Rf b 1 (F c 3) := fun y hy => (hL.2.2.2 _ y (hfi y hy).1).1
  simp only [w_X0_putAhead, cw hb, hc, hf, hli, true_and, up2_k F c c (some f) (show (4 : Nat) ≠ 3 by decide)]
  refine ⟨hrf, ?_⟩
  have hL1 := LO_add hL hf ht c2 hn hfi (Nat.le_refl _)
  have hv : (gV g (ix (I c 0)) f (rk g (ix (I c 0)) (F c 3))).V (ix (I c 0)) f := Or.inr ⟨rfl, rfl⟩
  have hL2 := LO_end hL1 hc (Or.inl rfl) hv ht
  have hfc : f ≠ c := Is_ne hf hc (by decide)
  have hL3 := LO_end hL2 hc (Or.inr rfl) hv (by rw [up2_a _ _ _ _ hfc]; exact ht)
  have hPR : ∀ F' : Nat → Nat → Option Nat, (∀ a j, ¬ (a = c ∧ (j = 3 ∨ j = 4)) → F' a j = F a j) → F' c 3 = some f → PR (gV g (ix (I c 0)) f (rk g (ix (I c 0)) (F c 3))) F' (up3 E f 1 (ix (I c 0)) (F c 3)) := by
    intro F' hF' hF3
    have hne : ∀ a, Is b 1 a ∨ Is b 10 a → F' a 2 = F a 2 := fun a ha => hF' a 2 (by rintro ⟨-, h⟩; omega)
    refine ⟨fun f' t hv' ht' => ?_, ?_⟩
    · by_cases h4 : I c 0 = 4
      · have i4 : ix (I c 0) = 4 := by rw [h4]; decide
        rw [i4] at hv' ⊢
        have hrow := hrow h4
        rcases hv' with hv' | ⟨-, rfl⟩
        · have hf' := (hL.2.2.2 _ _ hv').1
          have ht2 : F f' 2 = some t := by rw [← hne f' (Or.inl hf')]; exact ht'
          rcases hP.1 f' t hv' ht2 with ⟨r, r1, r2⟩ | ⟨p, r1, r2, r3⟩
          · by_cases hrc : r = c
            · subst hrc
              refine Or.inr ⟨f, Or.inr ⟨rfl, rfl⟩, ?_, ?_⟩
              · rw [hne f (Or.inl hf), ht]
                have := (hL.1 r hc).2.2.2.1 f' r2
                rw [ht2] at this; exact this.2.symm
              · rw [up3_at, va_up_self]; exact r2
            · have hr0 : F' r 3 = F r 3 := hF' r 3 (fun z => hrc z.1)
              obtain ⟨-, ⟨tt, q1, q2⟩, -⟩ := hL.2.2.2 _ _ hv'
              rw [ht2] at q1; cases q1
              exact Or.inl ⟨r, by rw [hne t (Or.inr q2)]; exact r1, by rw [hr0]; exact r2⟩
          · refine Or.inr ⟨p, Or.inl r1, by rw [hne p (Or.inl (hL.2.2.2 _ _ r1).1)]; exact r2, ?_⟩
            have : p ≠ f := fun z => hn (by rw [i4, ← z]; exact r1)
            rw [up3_ne (fun z => this z.1)]; exact r3
        · rw [hne f' (Or.inl hf), ht] at ht'
          cases ht'
          exact Or.inl ⟨c, by rw [hne _ (Or.inr c2)]; exact hrow, hF3⟩
      · have i4 : ix (I c 0) ≠ 4 := fun z => h4 (i_ext (by have := ix_int l1; rw [z] at this; rw [← this]; decide))
        have hv'' : g.V 4 f' := hv'.resolve_right (fun z => i4 z.1.symm)
        have hf' := (hL.2.2.2 _ _ hv'').1
        have ht2 : F f' 2 = some t := by rw [← hne f' (Or.inl hf')]; exact ht'
        obtain ⟨-, ⟨tt, q1, q2⟩, -⟩ := hL.2.2.2 _ _ hv''
        rw [ht2] at q1; cases q1
        rcases hP.1 f' t hv'' ht2 with ⟨r, r1, r2⟩ | ⟨p, r1, r2, r3⟩
        · obtain ⟨-, -, ⟨r', z1, z2, z3, z4⟩, -⟩ := hL.2.2.1 t q2
          rw [r1] at z1; cases z1
          have hrc : r ≠ c := fun z => h4 (by rw [← z]; exact z4)
          exact Or.inl ⟨r, by rw [hne t (Or.inr q2)]; exact r1, by rw [hF' r 3 (fun z => hrc z.1)]; exact r2⟩
        · refine Or.inr ⟨p, Or.inl r1, by rw [hne p (Or.inl (hL.2.2.2 _ _ r1).1)]; exact r2, ?_⟩
          have : up3 E f 1 (ix (I c 0)) (F c 3) p 1 4 = E p 1 4 := if_neg (fun z => i4 z.2.2.symm)
          rw [this]; exact r3
    · obtain ⟨B, hB⟩ := hP.2
      refine ⟨B + rk g (ix (I c 0)) (F c 3) + 1, fun f' hf' => ?_⟩
      show (if 4 = ix (I c 0) ∧ f' = f then _ else g.R 4 f') < _
      split
      · omega
      · rename_i hq
        have := hB f' (hf'.resolve_right hq)
        omega
  have hIns : ∀ F', (∀ a j, ¬ (a = c ∧ (j = 3 ∨ j = 4)) → F' a j = F a j) → Ins b g (gV g (ix (I c 0)) f (rk g (ix (I c 0)) (F c 3))) (ix (I c 0)) f c F F' E (up3 E f 1 (ix (I c 0)) (F c 3)) := fun F' hF' => ⟨fun l' f' => Iff.rfl, rfl, rfl, rfl, hF', fun a j i h => if_neg (fun z => h ⟨by rw [z.1]; exact hf, z.2.1, z.2.2⟩), fun a ha haf => by funext j; exact up3_ne (fun z => haf z.1)⟩
  have hF1 : ∀ a j, ¬ (a = c ∧ (j = 3 ∨ j = 4)) → up2 F c 3 (some f) a j = F a j := fun a j h => if_neg (fun z => h ⟨z.1, Or.inl z.2⟩)
  have hF2 : ∀ a j, ¬ (a = c ∧ (j = 3 ∨ j = 4)) → up2 (up2 F c 3 (some f)) c 4 (some f) a j = F a j := fun a j h => by
    rw [show up2 (up2 F c 3 (some f)) c 4 (some f) a j = up2 F c 3 (some f) a j from if_neg (fun z => h ⟨z.1, Or.inr z.2⟩)]
    exact hF1 a j h
  refine wJoin_i (fun K => ∀ g' F' E', Ins b g g' (ix (I c 0)) f c F F' E E' → LO b g' I F' E' → PR g' F' E' → K (cS b I F' A E')) hQ (fun K hK => ⟨fun _ => ?_, fun _ => ?_⟩)
  · exact hK _ _ _ (hIns _ hF2) hL3 (hPR _ hF2 (by rw [up2_k _ _ _ _ (by decide), up2_self]))
  · exact hK _ _ _ (hIns _ hF1) hL2 (hPR _ hF1 (up2_self _ _ _ _))
theorem c_putAfter (hb : CB b) {c f d : Nat} (hL : LO b g I F E) (hP : PR g F E) (hc : Is b 0 c) (hf : Is b 1 f) (ht : F f 2 = some (g.T c)) (hn : ¬ g.V (ix (I c 0)) f) (hd : g.V (ix (I c 0)) d) (htd : F d 2 = some (g.T c)) (hQ : ∀ g' F' E', Ins b g g' (ix (I c 0)) f c F F' E E' → LO b g' I F' E' → PR g' F' E' → Q (cS b I F' A E')) : w_X0_putAfter (some c) (some f) (some d) (cS b I F A E) Q X := by
  obtain ⟨⟨l1, l2⟩, c2, -⟩ := hL.1 c hc
  have hli : wIn (I c 0) 5 := ⟨l1, by omega⟩
  obtain ⟨hd1, -, hd3⟩ := hL.2.2.2 _ d hd
  have hfd : f ≠ d := fun z => hn (by rw [z]; exact hd)
  have hrf : Rf b 1 (E d 1 (ix (I c 0))) := fun y hy => (hL.2.2.2 _ y (hd3 y hy).1).1
  simp only [w_X0_putAfter, cw hb, hc, hf, hd1, hli, true_and]
  refine ⟨hrf, fun y hy => by cases hy; exact hf, ?_⟩
  generalize hl : ix (I c 0) = l at *
  have hL0 : LO b (gR g (fun l a => 2 * g.R l a + 1)) I F E := LO_rank hL (fun l a c h => by show 2 * g.R l a + 1 < 2 * g.R l c + 1; omega)
  have hOn : On (gR g (fun l a => 2 * g.R l a + 1)) F l (g.T c) (E d 1 l) := fun y hy => ⟨(hd3 y hy).1, by rw [(hd3 y hy).2.1]; exact htd⟩
  have hrk : rk (gR g (fun l a => 2 * g.R l a + 1)) l (E d 1 l) ≤ 2 * g.R l d := by
    cases he : E d 1 l with
    | none => exact Nat.zero_le _
    | some y =>
      have := (hd3 y he).2.2
      show 2 * g.R l y + 1 + 1 ≤ 2 * g.R l d
      omega
  have hL1 := LO_add hL0 hf ht c2 hn hOn hrk
  have hvf : (gV (gR g (fun l a => 2 * g.R l a + 1)) l f (2 * g.R l d)).V l f := Or.inr ⟨rfl, rfl⟩
  have hvd : (gV (gR g (fun l a => 2 * g.R l a + 1)) l f (2 * g.R l d)).V l d := Or.inl hd
  have hL2 := LO_link hL1 hvd hvf (by rw [ht, htd]) (by
    show (if l = l ∧ f = f then _ else _) < (if l = l ∧ d = f then _ else 2 * g.R l d + 1)
    rw [if_pos ⟨rfl, rfl⟩, if_neg (fun z => hfd z.2.symm)]; omega)
  have hL3 := LO_end hL2 hc (Or.inr rfl) (by rw [hl]; exact hvf) ht
  generalize hg' : gV (gR g (fun l a => 2 * g.R l a + 1)) l f (2 * g.R l d) = g' at hL1 hL2 hL3 hvf hvd
  have hV' : ∀ l' f', g'.V l' f' ↔ g.V l' f' ∨ l' = l ∧ f' = f := fun l' f' => by rw [← hg']; exact Iff.rfl
  have hT' : g'.T = g.T ∧ g'.S = g.S ∧ g'.U = g.U := by rw [← hg']; exact ⟨rfl, rfl, rfl⟩
  have hE2 : ∀ a j i, ¬ (Is b 1 a ∧ j = 1 ∧ i = l) → up3 (up3 E f 1 l (E d 1 l)) d 1 l (some f) a j i = E a j i := fun a j i h => by
    unfold up3
    rw [if_neg (fun z => h ⟨by rw [z.1]; exact hd1, z.2.1, z.2.2⟩), if_neg (fun z => h ⟨by rw [z.1]; exact hf, z.2.1, z.2.2⟩)]
  have hPR : ∀ F' : Nat → Nat → Option Nat, (∀ a j, ¬ (a = c ∧ j = 4) → F' a j = F a j) → PR g' F' (up3 (up3 E f 1 l (E d 1 l)) d 1 l (some f)) := by
    intro F' hF'
    have hne : ∀ a, F' a 2 = F a 2 := fun a => hF' a 2 (by rintro ⟨-, h⟩; omega)
    have hne3 : ∀ a, F' a 3 = F a 3 := fun a => hF' a 3 (by rintro ⟨-, h⟩; omega)
    refine ⟨fun f' t hv' ht' => ?_, ?_⟩
    · rw [hne] at ht'
      rcases (hV' 4 f').mp hv' with hv | ⟨h4, rfl⟩
      · rcases hP.1 f' t hv ht' with ⟨r, r1, r2⟩ | ⟨p, r1, r2, r3⟩
        · exact Or.inl ⟨r, by rw [hne]; exact r1, by rw [hne3]; exact r2⟩
        · by_cases hq : p = d ∧ l = 4
          · obtain ⟨rfl, rfl⟩ := hq
            refine Or.inr ⟨f, (hV' _ _).mpr (Or.inr ⟨rfl, rfl⟩), by rw [hne, ht, ← htd, r2], ?_⟩
            rw [up3_ne (fun z => hfd z.1), up3_at, va_up_self]; exact r3
          · refine Or.inr ⟨p, (hV' _ _).mpr (Or.inl r1), by rw [hne]; exact r2, ?_⟩
            have : up3 (up3 E f 1 l (E d 1 l)) d 1 l (some f) p 1 4 = E p 1 4 := by
              unfold up3
              rw [if_neg (fun z => hq ⟨z.1, z.2.2.symm⟩), if_neg]
              rintro ⟨z1, -, z3⟩
              exact hn (by rw [← z3, ← z1]; exact r1)
            rw [this]; exact r3
      · refine Or.inr ⟨d, (hV' _ _).mpr (Or.inl (by rw [h4]; exact hd)), by rw [hne, htd, ← ht, ht'], ?_⟩
        rw [h4, up3_at, va_up_self]
    · obtain ⟨B, hB⟩ := hP.2
      refine ⟨2 * B + 2 + 2 * g.R l d, fun f' hf' => ?_⟩
      rw [← hg']
      show (if 4 = l ∧ f' = f then _ else 2 * g.R 4 f' + 1) < _
      split
      · omega
      · rename_i hq
        have := hB f' (((hV' _ _).mp hf').resolve_right hq)
        omega
  have hIns : ∀ F', (∀ a j, ¬ (a = c ∧ j = 4) → F' a j = F a j) → Ins b g g' l f c F F' E (up3 (up3 E f 1 l (E d 1 l)) d 1 l (some f)) := fun F' hF' => ⟨hV', hT'.1, hT'.2.1, hT'.2.2, fun a j h => hF' a j (fun z => h ⟨z.1, Or.inr z.2⟩), hE2, fun a ha haf => by
    funext j
    rw [up3_ne (fun z => ha (by rw [z.1]; exact hd)), up3_ne (fun z => haf z.1)]⟩
  have hF1 : ∀ a j, ¬ (a = c ∧ j = 4) → up2 F c 4 (some f) a j = F a j := fun a j h => if_neg h
  refine wJoin_i (fun K => ∀ g' F' E', Ins b g g' l f c F F' E E' → LO b g' I F' E' → PR g' F' E' → K (cS b I F' A E')) hQ (fun K hK => ⟨fun _ => ?_, fun _ => ?_⟩)
  · exact hK _ _ _ (hIns _ hF1) hL3 (hPR _ hF1)
  · exact hK _ _ _ (hIns _ (fun _ _ _ => rfl)) hL2 (hPR _ (fun _ _ _ => rfl))
theorem c_putBehind (hb : CB b) {c f : Nat} (hL : LO b g I F E) (hP : PR g F E) (hc : Is b 0 c) (hf : Is b 1 f) (ht : F f 2 = some (g.T c)) (hn : ¬ g.V (ix (I c 0)) f) (hrow : I c 0 = 4 → F (g.T c) 2 = some c) (hQ : ∀ g' F' E', Ins b g g' (ix (I c 0)) f c F F' E E' → LO b g' I F' E' → PR g' F' E' → Q (cS b I F' A E')) : w_X0_putBehind (some c) (some f) (cS b I F A E) Q X := by
  simp only [w_X0_putBehind, cw hb, hc]
  refine wJoin_i (fun K => ∀ g' F' E', Ins b g g' (ix (I c 0)) f c F F' E E' → LO b g' I F' E' → PR g' F' E' → K (cS b I F' A E')) hQ (fun K hK => ⟨fun _ => ?_, fun hl => ?_⟩)
  · exact c_putAhead hb hL hP hc hf ht hn hrow hK
  · obtain ⟨d, hd⟩ := Option.ne_none_iff_exists'.mp hl
    rw [hd]
    obtain ⟨q1, q2⟩ := On_last hL hc d hd
    exact c_putAfter hb hL hP hc hf ht hn q1 q2 hK
theorem c_placeIn (hb : CB b) {c f : Nat} {w : Int32} (hL : LO b g I F E) (hP : PR g F E) (hc : Is b 0 c) (hf : Is b 1 f) (ht : F f 2 = some (g.T c)) (hn : ¬ g.V (ix (I c 0)) f) (hrow : I c 0 = 4 → F (g.T c) 2 = some c) (hQ : ∀ g' F' E', Ins b g g' (ix (I c 0)) f c F F' E E' → LO b g' I F' E' → PR g' F' E' → Q (cS b I F' A E')) : w_X10_placeIn (some c) (some f) w (cS b I F A E) Q X := by
  simp only [w_X10_placeIn, wJoin, wIf, c_recv hc]
  first
    | exact ⟨fun _ => c_putBehind hb hL hP hc hf ht hn hrow hQ, fun _ => c_putAhead hb hL hP hc hf ht hn hrow hQ⟩
    | exact ⟨fun _ => c_putAhead hb hL hP hc hf ht hn hrow hQ, fun _ => c_putBehind hb hL hP hc hf ht hn hrow hQ⟩
end C6
