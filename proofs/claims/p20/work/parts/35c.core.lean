set_option linter.unusedVariables false
set_option linter.unusedSimpArgs false
/-! WHAT HOLDS OF THE CLASS'S TABLES AND FACTS -/
/-- what is said beside the heap: which facts stand in a lane, in which order; a chain's table, its place among its siblings; an index's table -/
def Gh : Type := (Nat → Nat → Prop) × (Nat → Nat → Nat) × (Nat → Nat) × (Nat → Nat) × (Nat → Nat)
abbrev Gh.V (g : Gh) (l f : Nat) : Prop := g.1 l f
abbrev Gh.R (g : Gh) (l f : Nat) : Nat := g.2.1 l f
abbrev Gh.T (g : Gh) (c : Nat) : Nat := g.2.2.1 c
abbrev Gh.S (g : Gh) (c : Nat) : Nat := g.2.2.2.1 c
abbrev Gh.U (g : Gh) (x : Nat) : Nat := g.2.2.2.2 x
def XCh (b : CT) (g : Gh) (I : Nat → Nat → Int32) (F : Nat → Nat → Option Nat) (c : Nat) : Prop := (0 ≤ (I c 0).toInt ∧ (I c 0).toInt ≤ 4) ∧ Is b 10 (g.T c) ∧ (∀ d, F c 2 = some d → Is b 0 d ∧ g.S d < g.S c ∧ g.T d = g.T c ∧ I d 0 = I c 0) ∧ (∀ f, F c 3 = some f → g.V (ix (I c 0)) f ∧ F f 2 = some (g.T c)) ∧ ∀ f, F c 4 = some f → g.V (ix (I c 0)) f ∧ F f 2 = some (g.T c)
def XIx (b : CT) (g : Gh) (I : Nat → Nat → Int32) (E : Nat → Nat → Nat → Option Nat) (x : Nat) : Prop := wIn (I x 0) 4 ∧ Is b 10 (g.U x) ∧ ∀ i c, E x 1 i = some c → Is b 0 c ∧ g.T c = g.U x ∧ I c 0 = I x 0
def XTb (b : CT) (g : Gh) (I : Nat → Nat → Int32) (F : Nat → Nat → Option Nat) (E : Nat → Nat → Nat → Option Nat) (t : Nat) : Prop := (1 ≤ (I t 1).toInt ∧ (I t 1).toInt ≤ 4) ∧ (0 ≤ (I t 5).toInt ∧ (I t 5).toInt ≤ 3) ∧ (∃ r, F t 2 = some r ∧ Is b 0 r ∧ g.T r = t ∧ I r 0 = 4) ∧ ∀ k x, E t 3 k = some x → Is b 4 x ∧ g.U x = t ∧ (I x 0).toInt = k ∧ (k : Int) < (I t 1).toInt
def XV (b : CT) (g : Gh) (F : Nat → Nat → Option Nat) (E : Nat → Nat → Nat → Option Nat) (l f : Nat) : Prop := Is b 1 f ∧ (∃ t, F f 2 = some t ∧ Is b 10 t) ∧ ∀ f', E f 1 l = some f' → g.V l f' ∧ F f' 2 = F f 2 ∧ g.R l f' < g.R l f
/-- each thing by itself -/
def LO (b : CT) (g : Gh) (I : Nat → Nat → Int32) (F : Nat → Nat → Option Nat) (E : Nat → Nat → Nat → Option Nat) : Prop :=
  (∀ c, Is b 0 c → XCh b g I F c) ∧ (∀ x, Is b 4 x → XIx b g I E x) ∧ (∀ t, Is b 10 t → XTb b g I F E t) ∧ ∀ l f, g.V l f → XV b g F E l f
/-- who stands in a row stands in the chains of its table's indexes, and in no others -/
def VC (g : Gh) (F : Nat → Nat → Option Nat) (E : Nat → Nat → Nat → Option Nat) (XX : Nat → Nat → Prop) : Prop := (∀ l f, g.V l f → g.V 4 f ∧ l ≤ 4) ∧ ∀ k f t, k < 4 → g.V 4 f → F f 2 = some t → ¬ XX k f → (E t 3 k ≠ none ↔ g.V k f)
/-- who stands in a row is its first or has one before it -/
def PR (g : Gh) (F : Nat → Nat → Option Nat) (E : Nat → Nat → Nat → Option Nat) : Prop := (∀ f t, g.V 4 f → F f 2 = some t → (∃ r, F t 2 = some r ∧ F r 3 = some f) ∨ ∃ p, g.V 4 p ∧ F p 2 = some t ∧ E p 1 4 = some f) ∧ ∃ B, ∀ f, g.V 4 f → g.R 4 f < B
/-- a chain with this value is found from here -/
def Fdn (I : Nat → Nat → Int32) (F : Nat → Nat → Option Nat) : Nat → Option Nat → Int32 → Prop
  | 0, _, _ => False
  | n + 1, r, v => ∃ c, r = some c ∧ (I c 1 = v ∨ Fdn I F n (F c 2) v)
/-- the chain c stands n siblings behind r -/
def Sb (F : Nat → Nat → Option Nat) : Nat → Option Nat → Nat → Prop
  | 0, r, c => r = some c
  | n + 1, r, c => ∃ d, r = some d ∧ Sb F n (F d 2) c
/-- each chain is its table's row or stands in an index's bucket -/
def RC (b : CT) (g : Gh) (F : Nat → Nat → Option Nat) (E : Nat → Nat → Nat → Option Nat) : Prop := ∀ c, Is b 0 c → F (g.T c) 2 = some c ∨ ∃ x i n, Is b 4 x ∧ g.U x = g.T c ∧ i < 64 ∧ Sb F n (E x 1 i) c
def CE (b : CT) (g : Gh) (I : Nat → Nat → Int32) (F : Nat → Nat → Option Nat) (A : Nat → Nat → Nat → Int32) (E : Nat → Nat → Nat → Option Nat) : Prop := (∀ k f t x, k < 4 → g.V k f → F f 2 = some t → E t 3 k = some x → ∃ n, Fdn I F n (E x 1 (ix (A f 0 k &&& 63))) (A f 0 k)) ∧ RC b g F E
def KP (b : CT) (g : Gh) (s : Nat) (I : Nat → Nat → Int32) (E : Nat → Nat → Nat → Option Nat) : Prop := Is b 9 s ∧ (0 ≤ (I s 4).toInt ∧ (I s 4).toInt ≤ 3000) ∧ (∀ i : Nat, (i : Int) < (I s 4).toInt → E s 1 i ≠ none) ∧ (∀ i f, E s 1 i = some f → Is b 1 f) ∧ (∀ i j f, i < 3000 → j < 3000 → E s 1 i = some f → E s 1 j = some f → i = j) ∧ ∀ f, g.V 4 f → ∃ i : Nat, (i : Int) < (I s 4).toInt ∧ E s 1 i = some f
def TS (b : CT) (s : Nat) (I : Nat → Nat → Int32) (E : Nat → Nat → Nat → Option Nat) : Prop := (0 ≤ (I s 3).toInt ∧ (I s 3).toInt ≤ 12) ∧ (∀ i : Nat, (i : Int) < (I s 3).toInt → E s 0 i ≠ none) ∧ ∀ i t, E s 0 i = some t → Is b 10 t
def Core (b : CT) (g : Gh) (s : Nat) (I : Nat → Nat → Int32) (F : Nat → Nat → Option Nat) (A : Nat → Nat → Nat → Int32) (E : Nat → Nat → Nat → Option Nat) (XX : Nat → Nat → Prop) : Prop :=
  LO b g I F E ∧ VC g F E XX ∧ PR g F E ∧ CE b g I F A E ∧ KP b g s I E ∧ TS b s I E
/-- what the above speaks of -/
def rI : List (Nat × Nat) := [(0, 0), (0, 1), (4, 0), (10, 1), (10, 5), (9, 3), (9, 4)]
def rF : List (Nat × Nat) := [(0, 2), (0, 3), (0, 4), (1, 2), (10, 2)]
def rE : List (Nat × Nat) := [(1, 1), (4, 1), (10, 3), (9, 0), (9, 1)]
def eqI (b : CT) (I I' : Nat → Nat → Int32) : Prop := ∀ ci a j, Is b ci a → (ci, j) ∈ rI → I' a j = I a j
def eqF (b : CT) (F F' : Nat → Nat → Option Nat) : Prop := ∀ ci a j, Is b ci a → (ci, j) ∈ rF → F' a j = F a j
def eqA (b : CT) (A A' : Nat → Nat → Nat → Int32) : Prop := ∀ a, Is b 1 a → A' a 0 = A a 0
def eqE (b : CT) (E E' : Nat → Nat → Nat → Option Nat) : Prop := ∀ ci a j, Is b ci a → (ci, j) ∈ rE → E' a j = E a j
theorem Is_ne {b : CT} {c1 c2 a a' : Nat} (h1 : Is b c1 a) (h2 : Is b c2 a') (h : c1 ≠ c2) : a ≠ a' := fun z => h (by rw [← h1.2, ← h2.2, z])
theorem eqI_rf {b : CT} {I : Nat → Nat → Int32} : eqI b I I := fun _ _ _ _ _ => rfl
theorem eqF_rf {b : CT} {I : Nat → Nat → Option Nat} : eqF b I I := fun _ _ _ _ _ => rfl
theorem eqA_rf {b : CT} {I : Nat → Nat → Nat → Int32} : eqA b I I := fun _ _ => rfl
theorem eqE_rf {b : CT} {I : Nat → Nat → Nat → Option Nat} : eqE b I I := fun _ _ _ _ _ => rfl
theorem eqI_up {b : CT} {I I' : Nat → Nat → Int32} {c a j : Nat} {v : Int32} (h : eqI b I I') (ha : Is b c a) (hj : (c, j) ∉ rI) : eqI b I (up2 I' a j v) := fun ci a' j' h' hr => by
  unfold up2
  rw [if_neg, h ci a' j' h' hr]
  rintro ⟨rfl, rfl⟩
  rw [← ha.2, h'.2] at hj; exact hj hr
theorem eqF_up {b : CT} {I I' : Nat → Nat → Option Nat} {c a j : Nat} {v : Option Nat} (h : eqF b I I') (ha : Is b c a) (hj : (c, j) ∉ rF) : eqF b I (up2 I' a j v) := fun ci a' j' h' hr => by
  unfold up2
  rw [if_neg, h ci a' j' h' hr]
  rintro ⟨rfl, rfl⟩
  rw [← ha.2, h'.2] at hj; exact hj hr
theorem up3_ne {α : Type} {f : Nat → Nat → Nat → α} {a j i a' j' : Nat} {v : α} (h : ¬ (a' = a ∧ j' = j)) : up3 f a j i v a' j' = f a' j' := by
  funext i'
  unfold up3
  rw [if_neg (fun z => h ⟨z.1, z.2.1⟩)]
theorem up3_at {α : Type} {f : Nat → Nat → Nat → α} {a j i : Nat} {v : α} : up3 f a j i v a j = va_up (f a j) i v := by
  funext i'
  unfold up3 va_up
  simp
theorem eqA_up {b : CT} {I I' : Nat → Nat → Nat → Int32} {c a j i : Nat} {v : Int32} (h : eqA b I I') (ha : Is b c a) (hj : (c, j) ≠ (1, 0)) : eqA b I (up3 I' a j i v) := fun a' h' => by
  rw [up3_ne, h a' h']
  rintro ⟨rfl, rfl⟩
  rw [← ha.2, h'.2] at hj; exact hj rfl
theorem eqE_up {b : CT} {I I' : Nat → Nat → Nat → Option Nat} {c a j i : Nat} {v : Option Nat} (h : eqE b I I') (ha : Is b c a) (hj : (c, j) ∉ rE) : eqE b I (up3 I' a j i v) := fun ci a' j' h' hr => by
  rw [up3_ne, h ci a' j' h' hr]
  rintro ⟨rfl, rfl⟩
  rw [← ha.2, h'.2] at hj; exact hj hr
theorem eqI_tr {b : CT} {I I' I'' : Nat → Nat → Int32} (h : eqI b I I') (h2 : eqI b I' I'') : eqI b I I'' := fun c a j ha hr => by rw [h2 c a j ha hr, h c a j ha hr]
theorem eqF_tr {b : CT} {I I' I'' : Nat → Nat → Option Nat} (h : eqF b I I') (h2 : eqF b I' I'') : eqF b I I'' := fun c a j ha hr => by rw [h2 c a j ha hr, h c a j ha hr]
theorem eqA_tr {b : CT} {I I' I'' : Nat → Nat → Nat → Int32} (h : eqA b I I') (h2 : eqA b I' I'') : eqA b I I'' := fun a ha => by rw [h2 a ha, h a ha]
theorem eqE_tr {b : CT} {I I' I'' : Nat → Nat → Nat → Option Nat} (h : eqE b I I') (h2 : eqE b I' I'') : eqE b I I'' := fun c a j ha hr => by rw [h2 c a j ha hr, h c a j ha hr]
section CC
variable {b : CT} {g : Gh} {s : Nat} {I I' : Nat → Nat → Int32} {F F' : Nat → Nat → Option Nat} {A A' : Nat → Nat → Nat → Int32} {E E' : Nat → Nat → Nat → Option Nat} {XX : Nat → Nat → Prop}
theorem LO_eq (h : LO b g I F E) (hI : eqI b I I') (hF : eqF b F F') (hE : eqE b E E') : LO b g I' F' E' := by
  obtain ⟨h1, h2, h3, h4⟩ := h
  have hV : ∀ l f, g.V l f → F' f 2 = F f 2 := fun l f hv => hF 1 f 2 (h4 l f hv).1 (by decide)
  refine ⟨fun c hc => ?_, fun x hx => ?_, fun t ht => ?_, fun l f hv => ?_⟩
  · obtain ⟨p1, p2, p3, p4, p5⟩ := h1 c hc
    have e0 := hI 0 c 0 hc (by decide)
    unfold XCh
    rw [e0, hF 0 c 2 hc (by decide), hF 0 c 3 hc (by decide), hF 0 c 4 hc (by decide)]
    refine ⟨p1, p2, fun d hd => ?_, fun f hf => ?_, fun f hf => ?_⟩
    · obtain ⟨q1, q2, q3, q4⟩ := p3 d hd
      exact ⟨q1, q2, q3, by rw [hI 0 d 0 q1 (by decide)]; exact q4⟩
    · obtain ⟨q1, q2⟩ := p4 f hf
      exact ⟨q1, by rw [hV _ _ q1]; exact q2⟩
    · obtain ⟨q1, q2⟩ := p5 f hf
      exact ⟨q1, by rw [hV _ _ q1]; exact q2⟩
  · obtain ⟨p1, p2, p3⟩ := h2 x hx
    unfold XIx
    rw [hI 4 x 0 hx (by decide), hE 4 x 1 hx (by decide)]
    refine ⟨p1, p2, fun i c hc => ?_⟩
    obtain ⟨q1, q2, q3⟩ := p3 i c hc
    exact ⟨q1, q2, by rw [hI 0 c 0 q1 (by decide)]; exact q3⟩
  · obtain ⟨p1, p2, ⟨r, p3, p4, p5, p6⟩, p7⟩ := h3 t ht
    unfold XTb
    rw [hI 10 t 1 ht (by decide), hI 10 t 5 ht (by decide), hF 10 t 2 ht (by decide), hE 10 t 3 ht (by decide)]
    refine ⟨p1, p2, ⟨r, p3, p4, p5, by rw [hI 0 r 0 p4 (by decide)]; exact p6⟩, fun k x hx => ?_⟩
    obtain ⟨q1, q2, q3, q4⟩ := p7 k x hx
    exact ⟨q1, q2, by rw [hI 4 x 0 q1 (by decide)]; exact q3, q4⟩
  · obtain ⟨p1, ⟨t, p2, p3⟩, p4⟩ := h4 l f hv
    unfold XV
    rw [hV l f hv, hE 1 f 1 p1 (by decide)]
    refine ⟨p1, ⟨t, p2, p3⟩, fun f' hf' => ?_⟩
    obtain ⟨q1, q2, q3⟩ := p4 f' hf'
    exact ⟨q1, by rw [hV _ _ q1]; exact q2, q3⟩
theorem Fd_eq (hC : ∀ c, Is b 0 c → I' c 1 = I c 1 ∧ F' c 2 = F c 2) (hL : ∀ c, Is b 0 c → ∀ d, F c 2 = some d → Is b 0 d) : ∀ (n : Nat) (r : Option Nat) (v : Int32), Rf b 0 r → Fdn I F n r v → Fdn I' F' n r v
  | 0, _, _, _, h => h
  | n + 1, r, v, hr, ⟨c, h1, h2⟩ => ⟨c, h1, by
      obtain ⟨e1, e2⟩ := hC c (hr c h1)
      rw [e1, e2]
      exact h2.imp id (fun h => Fd_eq hC hL n _ v (fun d hd => hL c (hr c h1) d hd) h)⟩
theorem Sb_eq (hC : ∀ c, Is b 0 c → F' c 2 = F c 2) (hL : ∀ c, Is b 0 c → ∀ d, F c 2 = some d → Is b 0 d) : ∀ (n : Nat) (r : Option Nat) (c : Nat), Rf b 0 r → Sb F n r c → Sb F' n r c
  | 0, _, _, _, h => h
  | n + 1, r, c, hr, ⟨d, h1, h2⟩ => ⟨d, h1, by
      rw [hC d (hr d h1)]
      exact Sb_eq hC hL n _ c (fun e he => hL d (hr d h1) e he) h2⟩
theorem RC_eq {b' : CT} {g' : Gh} (h : RC b g F E) (hL : LO b g I F E) (h1 : ∀ c a, Is b c a → Is b' c a) (hT : ∀ c, Is b 0 c → g'.T c = g.T c) (hU : ∀ x, Is b 4 x → g'.U x = g.U x) (h0 : ∀ t, Is b 10 t → F' t 2 = F t 2) (hC : ∀ c, Is b 0 c → F' c 2 = F c 2) (hE : ∀ x, Is b 4 x → E' x 1 = E x 1) : ∀ c, Is b 0 c → F' (g'.T c) 2 = some c ∨ ∃ x i n, Is b' 4 x ∧ g'.U x = g'.T c ∧ i < 64 ∧ Sb F' n (E' x 1 i) c := fun c hc => by
  rw [hT c hc, h0 _ (hL.1 c hc).2.1]
  refine (h c hc).imp id (fun ⟨x, i, n, z1, z2, z3, z4⟩ => ⟨x, i, n, h1 _ _ z1, by rw [hU x z1]; exact z2, z3, ?_⟩)
  rw [hE x z1]
  exact Sb_eq hC (fun c hc d hd => ((hL.1 c hc).2.2.1 d hd).1) n _ c (fun d hd => ((hL.2.1 x z1).2.2 _ d hd).1) z4
theorem Core_eq (h : Core b g s I F A E XX) (hI : eqI b I I') (hF : eqF b F F') (hA : eqA b A A') (hE : eqE b E E') : Core b g s I' F' A' E' XX := by
  obtain ⟨hL, hVC, hPR, hCE, hKP, hTS⟩ := h
  obtain ⟨l1, l2, l3, l4⟩ := id hL
  have hV : ∀ l f, g.V l f → F' f 2 = F f 2 := fun l f hv => hF 1 f 2 (l4 l f hv).1 (by decide)
  have hT : ∀ l f t, g.V l f → F f 2 = some t → Is b 10 t := fun l f t hv ht => by
    obtain ⟨-, ⟨t', p2, p3⟩, -⟩ := l4 l f hv
    rw [ht] at p2; cases p2; exact p3
  refine ⟨LO_eq hL hI hF hE, ⟨hVC.1, fun k f t hk hv ht hx => ?_⟩, ⟨fun f t hv ht => ?_, hPR.2⟩, ⟨fun k f t x hk hv ht hx => ?_, RC_eq hCE.2 hL (fun _ _ h => h) (fun _ _ => rfl) (fun _ _ => rfl) (fun t ht => hF 10 t 2 ht (by decide)) (fun c hc => hF 0 c 2 hc (by decide)) (fun x hx => hE 4 x 1 hx (by decide))⟩, ?_, ?_⟩
  · rw [hV _ _ hv] at ht
    rw [hE 10 t 3 (hT _ _ _ hv ht) (by decide)]
    exact hVC.2 k f t hk hv ht hx
  · rw [hV _ _ hv] at ht
    have htt := hT _ _ _ hv ht
    rcases hPR.1 f t hv ht with ⟨r, p1, p2⟩ | ⟨p, p1, p2, p3⟩
    · obtain ⟨-, -, ⟨r', q3, q4, -⟩, -⟩ := l3 t htt
      rw [p1] at q3; cases q3
      exact Or.inl ⟨r, by rw [hF 10 t 2 htt (by decide)]; exact p1, by rw [hF 0 r 3 q4 (by decide)]; exact p2⟩
    · exact Or.inr ⟨p, p1, by rw [hV _ _ p1]; exact p2, by rw [hE 1 p 1 (l4 _ _ p1).1 (by decide)]; exact p3⟩
  · rw [hV _ _ hv] at ht
    have htt := hT _ _ _ hv ht
    rw [hE 10 t 3 htt (by decide)] at hx
    obtain ⟨n, hn⟩ := hCE.1 k f t x hk hv ht hx
    obtain ⟨q1, q2, q3⟩ := (l3 t htt).2.2.2 k x hx
    rw [hA f (l4 _ _ hv).1, hE 4 x 1 q1 (by decide)]
    exact ⟨n, Fd_eq (fun c hc => ⟨hI 0 c 1 hc (by decide), hF 0 c 2 hc (by decide)⟩) (fun c hc d hd => ((l1 c hc).2.2.1 d hd).1) n _ _ (fun c hc => ((l2 x q1).2.2 _ c hc).1) hn⟩
  · obtain ⟨p1, p2, p3, p4, p5, p6⟩ := hKP
    unfold KP
    rw [hI 9 s 4 p1 (by decide), hE 9 s 1 p1 (by decide)]
    exact ⟨p1, p2, p3, p4, p5, p6⟩
  · unfold TS
    rw [hI 9 s 3 hKP.1 (by decide), hE 9 s 0 hKP.1 (by decide)]
    exact hTS
end CC
