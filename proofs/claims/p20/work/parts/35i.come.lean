set_option linter.unusedVariables false
set_option linter.unusedSimpArgs false
/-! WHAT HOLDS OF THE WHOLE CLASS BETWEEN CALLS -/
section C9a
variable {PP : Prop}
theorem c_place {b : CT} {g : Gh} {I : Nat → Nat → Int32} {F : Nat → Nat → Option Nat} {A : Nat → Nat → Nat → Int32} {E : Nat → Nat → Nat → Option Nat} {X : String → HS → Prop} {Q : HS → Prop} {p : Prop} {t f : Nat} {w : Int32} (hb : CB b) (hL : LO b g I F E) (hP : PR g F E) (hC : CE b g I F A E) (hV : VC g F E NX) (hn : ¬ g.V 4 f) (ht : Is b 10 t) (hf : Is b 1 f) (hft : F f 2 = some t)
    (hp : p → ∀ k x, k < 4 → E t 3 k = some x → ∃ n, Fdn I F n (E x 1 (ix (A f 0 k &&& 63))) (A f 0 k)) (hcost : p ∨ 4 ≤ b.B.c ∧ 20 ≤ b.B.z)
    (hQ : ∀ b' g' I' F' E', CB b' → Fr b b' I I' F F' E E' → LO b' g' I' F' E' → PR g' F' E' → CE b' g' I' F' A E' → VC g' F' E' NX → Vk g g' E f t 4 → (∀ a, Is b 1 a → ¬ g.V 4 a → a ≠ f → E' a = E a) → (p → b' = b ∧ I' = I ∧ ∀ y, Is b 4 y → E' y 1 = E y 1) → (b.B.c ≤ b'.B.c + 4 ∧ b.B.z ≤ b'.B.z + 20) → Q (cS b' I' F' A E')) : w_X10_place (some t) (some f) w (cS b I F A E) Q X := by
  obtain ⟨r, r1, r2, r3, r4, -⟩ := row_of hL ht
  have i4 : ix (I r 0) = 4 := by rw [r4]; decide
  simp only [w_X10_place, cw hb, ht, r1]
  refine c_placeIn hb hL hP r2 hf (by rw [r3]; exact hft) (by rw [i4]; exact hn) (fun _ => by rw [r3]; exact r1) (fun g1 F1 E1 h1 h2 h3 => ?_)
  rw [i4] at h1
  have e2 : ∀ a, F1 a 2 = F a 2 := fun a => h1.2.2.2.2.1 a 2 (by rintro ⟨-, h⟩; omega)
  have eE : ∀ c a j, Is b c a → c ≠ 1 → E1 a j = E a j := fun c a j ha hc => by
    funext i
    exact h1.2.2.2.2.2.1 a j i (fun z => hc (by rw [← ha.2, z.1.2]))
  have eT : E1 t 3 = E t 3 := eE 10 t 3 ht (by decide)
  have hFr1 : Fr b b I I F F1 E E1 := Fr_Ins r2 h1
  refine c_lanes (PUT := fun c x Q => w_X10_placeIn c (some f) w x Q X) (D := fun _ _ _ _ => True) (p := p) (g0 := g) (fun b g I F E c Q z1 z2 z3 z4 z5 z6 z7 z8 _ z9 => c_placeIn z1 z2 z3 z4 z5 z6 z7 z8 z9) hb h2 h3 (CE_Ins hL hf r2 hC h1 (fun z => absurd z (by omega))) ⟨hV.1, fun k f' t' hk h4 hft' hx => ?_⟩ (fun l f' => ?_) hn ht hf (by rw [e2]; exact hft) (fun hpp k x hk hx => ?_) hcost (fun _ _ _ _ _ _ _ => trivial) (fun b' g' I' F' E' z1 z2 z3 z4 z5 z6 z7 z8 z9 z10 => ?_)
  · rw [e2] at hft'
    rw [eE 10 t' 3 (tab_of hL h4 hft') (by decide)]
    exact hV.2 k f' t' hk h4 hft' hx
  · rw [h1.1 l f']
    refine or_congr Iff.rfl ⟨fun h => ⟨h.2, Or.inl h.1⟩, fun h => ⟨h.2.resolve_right (fun z => absurd z.1 (Nat.not_lt_zero _)), h.1⟩⟩
  · rw [eT] at hx
    obtain ⟨n, hn2⟩ := hp hpp k x hk hx
    obtain ⟨x1, -⟩ := (hL.2.2.1 t ht).2.2.2 k x hx
    rw [eE 4 x 1 x1 (by decide)]
    exact ⟨n, Fd_mono hL (fun c hc => ⟨rfl, e2 c⟩) (fun c hc => ((hL.2.1 x x1).2.2 _ c hc).1) hn2⟩
  · refine hQ b' g' I' F' E' z1 (Fr_tr hFr1 z2) z3 z4 z5 z6 (fun l f' => by rw [z7 l f', eT]) (fun a ha hna haf => by rw [z8 a ha hna haf, h1.2.2.2.2.2.2 a hna haf]) (fun hpp => ?_) z10
    obtain ⟨y1, y2, y3⟩ := z9 hpp
    exact ⟨y1, y2, fun y hy => by rw [y3 y hy, eE 4 y 1 hy (by decide)]⟩
theorem c_placeAfter {b : CT} {g : Gh} {I : Nat → Nat → Int32} {F : Nat → Nat → Option Nat} {A : Nat → Nat → Nat → Int32} {E : Nat → Nat → Nat → Option Nat} {X : String → HS → Prop} {Q : HS → Prop} {t f d : Nat} (hb : CB b) (hL : LO b g I F E) (hP : PR g F E) (hC : CE b g I F A E) (hV : VC g F E NX) (hn : ¬ g.V 4 f) (ht : Is b 10 t) (hf : Is b 1 f) (hft : F f 2 = some t) (hd : g.V 4 d) (hdt : F d 2 = some t)
    (hsame : ∀ k : Nat, (k : Int) < (I t 1).toInt → A f 0 k = A d 0 k)
    (hQ : ∀ g' F' E', Fr b b I I F F' E E' → LO b g' I F' E' → PR g' F' E' → CE b g' I F' A E' → VC g' F' E' NX → Vk g g' E f t 4 → Q (cS b I F' A E')) : w_X10_placeAfter (some t) (some f) (some d) (cS b I F A E) Q X := by
  obtain ⟨r, r1, r2, r3, r4, -⟩ := row_of hL ht
  have i4 : ix (I r 0) = 4 := by rw [r4]; decide
  simp only [w_X10_placeAfter, cw hb, ht, r1, r2]
  refine c_putAfter hb hL hP r2 hf (by rw [r3]; exact hft) (by rw [i4]; exact hn) (by rw [i4]; exact hd) (by rw [r3]; exact hdt) (fun g1 F1 E1 h1 h2 h3 => ?_)
  rw [i4] at h1
  have e2 : ∀ a, F1 a 2 = F a 2 := fun a => h1.2.2.2.2.1 a 2 (by rintro ⟨-, h⟩; omega)
  have eE : ∀ c a j, Is b c a → c ≠ 1 → E1 a j = E a j := fun c a j ha hc => by
    funext i
    exact h1.2.2.2.2.2.1 a j i (fun z => hc (by rw [← ha.2, z.1.2]))
  have eT : E1 t 3 = E t 3 := eE 10 t 3 ht (by decide)
  have hFr1 : Fr b b I I F F1 E E1 := Fr_Ins r2 h1
  have hfd : ∀ k x, k < 4 → E t 3 k = some x → ∃ n, Fdn I F1 n (E1 x 1 (ix (A f 0 k &&& 63))) (A f 0 k) := fun k x hk hx => by
    have hVk : g.V k d := (hV.2 k d t hk hd hdt (fun z => z)).mp (by rw [hx]; simp)
    obtain ⟨n, hn2⟩ := hC.1 k d t x hk hVk hdt hx
    obtain ⟨x1, -, -, x4⟩ := (hL.2.2.1 t ht).2.2.2 k x hx
    rw [eE 4 x 1 x1 (by decide), hsame k x4]
    exact ⟨n, Fd_mono hL (fun c hc => ⟨rfl, e2 c⟩) (fun c hc => ((hL.2.1 x x1).2.2 _ c hc).1) hn2⟩
  refine c_lanes (PUT := fun c x Q => wRecv x 0 c (w_X0_putAfter c (some f) (some d) x Q X)) (D := fun g F l t => g.V l d ∧ F d 2 = some t) (p := True) (g0 := g) (fun b g I F E c Q z1 z2 z3 z4 z5 z6 z7 z8 z9 z10 => by rw [c_recv z4]; exact c_putAfter z1 z2 z3 z4 z5 z6 z7 z9.1 z9.2 z10) hb h2 h3 (CE_Ins hL hf r2 hC h1 (fun z => absurd z (by omega))) ⟨hV.1, fun k f' t' hk h4 hft' hx => ?_⟩ (fun l f' => ?_) hn ht hf (by rw [e2]; exact hft) (fun _ k x hk hx => by rw [eT] at hx; exact hfd k x hk hx) (Or.inl trivial) (fun g2 F2 y1 y2 k hk hne => ?_) (fun b' g' I' F' E' z1 z2 z3 z4 z5 z6 z7 z8 z9 z10 => ?_)
  · rw [e2] at hft'
    rw [eE 10 t' 3 (tab_of hL h4 hft') (by decide)]
    exact hV.2 k f' t' hk h4 hft' hx
  · rw [h1.1 l f']
    refine or_congr Iff.rfl ⟨fun h => ⟨h.2, Or.inl h.1⟩, fun h => ⟨h.2.resolve_right (fun z => absurd z.1 (Nat.not_lt_zero _)), h.1⟩⟩
  · have hd1 := (hL.2.2.2 4 d hd).1
    rw [eT] at hne
    exact ⟨y1 k d ((hV.2 k d t hk hd hdt (fun z => z)).mp hne), by rw [y2 1 d hd1, e2]; exact hdt⟩
  · obtain ⟨rfl, rfl, -⟩ := z9 trivial
    exact hQ g' F' E' (Fr_tr hFr1 z2) z3 z4 z5 z6 (fun l f' => by rw [z7 l f', eT])
end C9a
def SK (b : CT) (o s h : Nat) (F : Nat → Nat → Option Nat) (E : Nat → Nat → Nat → Option Nat) : Prop := Is b 11 o ∧ F o 2 = some s ∧ Is b 9 s ∧ F s 2 = some h ∧ Is b 3 h ∧ (∃ l, F o 6 = some l ∧ Is b 5 l) ∧ (∃ r, F o 7 = some r ∧ Is b 6 r) ∧ (∃ v, F o 8 = some v ∧ Is b 8 v) ∧ (∀ i, i < 10 → ∃ l, E o 3 i = some l ∧ Is b 5 l) ∧ (∀ a, Is b 9 a → a = s) ∧ (∀ r, Is b 6 r → ∀ i, i < 10 → ∃ q, E r 0 i = some q ∧ Is b 2 q) ∧ ∀ v, Is b 8 v → (∃ l, F v 0 = some l ∧ Is b 7 l) ∧ (∃ l, F v 2 = some l ∧ Is b 7 l) ∧ ∀ i, i < 10 → ∃ q, E v 3 i = some q ∧ Is b 5 q
def TY (b : CT) (s : Nat) (I : Nat → Nat → Int32) (F : Nat → Nat → Option Nat) (E : Nat → Nat → Nat → Option Nat) : Prop := ∀ (i f : Nat), (i : Int) < (I s 4).toInt → E s 1 i = some f → ∃ t, F f 2 = some t ∧ Is b 10 t
def HI (b : CT) (g : Gh) (h : Nat) (I : Nat → Nat → Int32) (F : Nat → Nat → Option Nat) (A : Nat → Nat → Nat → Int32) (E : Nat → Nat → Nat → Option Nat) (W : Nat → Prop) : Prop := (0 ≤ (I h 3).toInt ∧ (I h 3).toInt ≤ 6000) ∧ (0 ≤ (I h 4).toInt ∧ (I h 4).toInt ≤ 8) ∧ (∀ i : Nat, (i : Int) < (I h 3).toInt → ∃ f, E h 0 i = some f ∧ Is b 1 f ∧ (g.V 4 f ∨ W f) ∧ (A h 1 i = 0 → ∀ f', F f 3 = some f' → g.V 4 f')) ∧ ∀ i : Nat, (i : Int) < (I h 4).toInt → 0 ≤ (A h 2 i).toInt
def CU (b : CT) (g : Gh) (o : Nat) (F : Nat → Nat → Option Nat) (A : Nat → Nat → Nat → Int32) (E : Nat → Nat → Nat → Option Nat) : Prop := ∀ i, i < 10 → A o 4 i ≠ 0 → ∃ l, E o 3 i = some l ∧ Rd b g F l
def KN (o : Nat) (I : Nat → Nat → Int32) : Prop := (0 ≤ (I o 9).toInt ∧ (I o 9).toInt ≤ 400) ∧ 0 ≤ (I o 10).toInt ∧ (I o 10).toInt ≤ 3000
/-- how many facts and indexes could yet be made -/
def NK (s : Nat) (E : Nat → Nat → Nat → Option Nat) : Nat := cnt (fun i => (E s 1 i).isNone) 3000
def NI (s : Nat) (E : Nat → Nat → Nat → Option Nat) : Nat := cnt (fun i => match E s 0 (i / 4) with | none => true | some t => (E t 3 (i % 4)).isNone) 48
def BU (b : CT) (s : Nat) (E : Nat → Nat → Nat → Option Nat) (N : Nat) : Prop := 3 * NK s E + 3002 * NI s E + 16 * N ≤ b.B.c ∧ 16 * NK s E + 15100 * NI s E + 100 * N ≤ b.B.z
/-- each index stands in its table, each table in the store -/
def IA (b : CT) (g : Gh) (s : Nat) (I : Nat → Nat → Int32) (E : Nat → Nat → Nat → Option Nat) : Prop := (∀ x, Is b 4 x → E (g.U x) 3 (ix (I x 0)) = some x) ∧ (∀ t, Is b 10 t → ∃ i : Nat, (i : Int) < (I s 3).toInt ∧ E s 0 i = some t) ∧ ∀ i : Nat, (I s 3).toInt ≤ (i : Int) → E s 0 i = none
/-- the values; in the goals, what stands for a variable is one, so is the target -/
def GO (b : CT) (I : Nat → Nat → Int32) (A : Nat → Nat → Nat → Int32) : Prop := ∀ q, Is b 2 q → (∀ k, k < 4 → (A q 0 k = 1 ∨ A q 0 k = 2 ∨ A q 0 k = 3) → wIn (A q 1 k) 8) ∧ wIn (I q 5) 8
def VG (b : CT) (o : Nat) (vv : Nat → Int32) (I : Nat → Nat → Int32) (A : Nat → Nat → Nat → Int32) : Prop := A o 1 = vv ∧ GO b I A
theorem GO_fr {b b' : CT} {I I' : Nat → Nat → Int32} {A A' : Nat → Nat → Nat → Int32} (h : GO b I A) (hb : ∀ q, Is b' 2 q → Is b 2 q) (hI : ∀ q, Is b 2 q → I' q 5 = I q 5) (hA : ∀ q, Is b 2 q → A' q 0 = A q 0 ∧ A' q 1 = A q 1) : GO b' I' A' := fun q hq => by
  have hq' := hb q hq
  rw [hI q hq', (hA q hq').1, (hA q hq').2]; exact h q hq'
def KV (b : CT) (g : Gh) (o s h : Nat) (vv : Nat → Int32) (I : Nat → Nat → Int32) (F : Nat → Nat → Option Nat) (A : Nat → Nat → Nat → Int32) (E : Nat → Nat → Nat → Option Nat) (N : Nat) (W : Nat → Prop) : Prop :=
  CB b ∧ Core b g s I F A E NX ∧ SK b o s h F E ∧ TY b s I F E ∧ HI b g h I F A E W ∧ CU b g o F A E ∧ KN o I ∧ BU b s E N ∧ VG b o vv I A ∧ IA b g s I E
def rI3 : List (Nat × Nat) := [(0, 0), (0, 1), (4, 0), (10, 1), (10, 5), (9, 3), (9, 4), (3, 3), (3, 4)]
def rF2 : List (Nat × Nat) := [(0, 2), (0, 3), (0, 4), (1, 2), (10, 2), (11, 2), (9, 2), (11, 6), (11, 7), (11, 8), (8, 0), (8, 2), (1, 3)]
def rA3 : List (Nat × Nat) := [(1, 0), (3, 1), (3, 2)]
def rI2 : List (Nat × Nat) := (2, 5) :: (11, 9) :: (11, 10) :: rI3
def rA2 : List (Nat × Nat) := (2, 0) :: (2, 1) :: (11, 1) :: (11, 4) :: rA3
def rE2 : List (Nat × Nat) := [(1, 1), (4, 1), (10, 3), (9, 0), (9, 1), (11, 3), (6, 0), (8, 3), (3, 0)]
/-- nothing that counts has changed -/
def EQ (b : CT) (I I' : Nat → Nat → Int32) (F F' : Nat → Nat → Option Nat) (A A' : Nat → Nat → Nat → Int32) (E E' : Nat → Nat → Nat → Option Nat) : Prop :=
  (∀ ci a j, Is b ci a → (ci, j) ∈ rI2 → I' a j = I a j) ∧ (∀ ci a j, Is b ci a → (ci, j) ∈ rF2 → F' a j = F a j) ∧ (∀ ci a j, Is b ci a → (ci, j) ∈ rA2 → A' a j = A a j) ∧ ∀ ci a j, Is b ci a → (ci, j) ∈ rE2 → E' a j = E a j
/-- nothing has changed but in the goals -/
def EQg (b : CT) (I I' : Nat → Nat → Int32) (F F' : Nat → Nat → Option Nat) (A A' : Nat → Nat → Nat → Int32) (E E' : Nat → Nat → Nat → Option Nat) : Prop :=
  (∀ ci a j, Is b ci a → (ci, j) ∈ rI3 → I' a j = I a j) ∧ (∀ ci a j, Is b ci a → (ci, j) ∈ rF2 → F' a j = F a j) ∧ (∀ ci a j, Is b ci a → (ci, j) ∈ rA3 → A' a j = A a j) ∧ ∀ ci a j, Is b ci a → (ci, j) ∈ rE2 → E' a j = E a j
section C9
variable {b : CT} {g : Gh} {o s h N : Nat} {vv : Nat → Int32} {I I' I'' : Nat → Nat → Int32} {F F' F'' : Nat → Nat → Option Nat} {A A' A'' : Nat → Nat → Nat → Int32} {E E' E'' : Nat → Nat → Nat → Option Nat} {W : Nat → Prop} {X : String → HS → Prop} {Q : HS → Prop} {QF : Option Nat → HS → Prop}
theorem EQ_rf : EQ b I I F F A A E E := ⟨fun _ _ _ _ _ => rfl, fun _ _ _ _ _ => rfl, fun _ _ _ _ _ => rfl, fun _ _ _ _ _ => rfl⟩
theorem EQ_tr (h1 : EQ b I I' F F' A A' E E') (h2 : EQ b I' I'' F' F'' A' A'' E' E'') : EQ b I I'' F F'' A A'' E E'' :=
  ⟨fun c a j ha hr => by rw [h2.1 c a j ha hr, h1.1 c a j ha hr], fun c a j ha hr => by rw [h2.2.1 c a j ha hr, h1.2.1 c a j ha hr], fun c a j ha hr => by rw [h2.2.2.1 c a j ha hr, h1.2.2.1 c a j ha hr], fun c a j ha hr => by rw [h2.2.2.2 c a j ha hr, h1.2.2.2 c a j ha hr]⟩
theorem EQ_I {c a j : Nat} {v : Int32} (h : EQ b I I' F F' A A' E E') (ha : Is b c a) (hj : (c, j) ∉ rI2) : EQ b I (up2 I' a j v) F F' A A' E E' := ⟨fun ci a' j' h' hr => by
  unfold up2
  rw [if_neg, h.1 ci a' j' h' hr]
  rintro ⟨rfl, rfl⟩
  rw [← ha.2, h'.2] at hj; exact hj hr, h.2⟩
theorem EQ_F {c a j : Nat} {v : Option Nat} (h : EQ b I I' F F' A A' E E') (ha : Is b c a) (hj : (c, j) ∉ rF2) : EQ b I I' F (up2 F' a j v) A A' E E' := ⟨h.1, fun ci a' j' h' hr => by
  unfold up2
  rw [if_neg, h.2.1 ci a' j' h' hr]
  rintro ⟨rfl, rfl⟩
  rw [← ha.2, h'.2] at hj; exact hj hr, h.2.2⟩
theorem EQ_A {c a j i : Nat} {v : Int32} (h : EQ b I I' F F' A A' E E') (ha : Is b c a) (hj : (c, j) ∉ rA2) : EQ b I I' F F' A (up3 A' a j i v) E E' := ⟨h.1, h.2.1, fun ci a' j' h' hr => by
  rw [up3_ne, h.2.2.1 ci a' j' h' hr]
  rintro ⟨rfl, rfl⟩
  rw [← ha.2, h'.2] at hj; exact hj hr, h.2.2.2⟩
theorem EQ_Ol {c l : Nat} (hl : Is b c l) (h1 : Ol l I I') (h2 : Ol l F F') (h3 : Ol l A A') (c1 : ∀ j, (c, j) ∉ rI2) (c2 : ∀ j, (c, j) ∉ rF2) (c3 : ∀ j, (c, j) ∉ rA2) : EQ b I I' F F' A A' E E :=
  ⟨fun ci a j ha hr => by
    rw [h1 a (fun z => ?_)]
    rw [z] at ha; rw [← ha.2, hl.2] at hr; exact c1 j hr, fun ci a j ha hr => by
    rw [h2 a (fun z => ?_)]
    rw [z] at ha; rw [← ha.2, hl.2] at hr; exact c2 j hr, fun ci a j ha hr => by
    rw [h3 a (fun z => ?_)]
    rw [z] at ha; rw [← ha.2, hl.2] at hr; exact c3 j hr, fun _ _ _ _ _ => rfl⟩
theorem EQ_look {l : Nat} (hl : Is b 5 l) (h1 : Ol l I I') (h2 : Ol l F F') (h3 : Ol l A A') : EQ b I I' F F' A A' E E :=
  EQ_Ol hl h1 h2 h3 (fun j z => by simp only [rI2, rI3, List.mem_cons, List.not_mem_nil, or_false, Prod.mk.injEq] at z; omega) (fun j z => by simp only [rF2, List.mem_cons, List.not_mem_nil, or_false, Prod.mk.injEq] at z; omega) (fun j z => by simp only [rA2, rA3, List.mem_cons, List.not_mem_nil, or_false, Prod.mk.injEq] at z; omega)
theorem sub_rI {x : Nat × Nat} (h : x ∈ rI) : x ∈ rI3 := (by decide : ∀ x, x ∈ rI → x ∈ rI3) x h
theorem sub_rF {x : Nat × Nat} (h : x ∈ rF) : x ∈ rF2 := (by decide : ∀ x, x ∈ rF → x ∈ rF2) x h
theorem sub_rE {x : Nat × Nat} (h : x ∈ rE) : x ∈ rE2 := (by decide : ∀ x, x ∈ rE → x ∈ rE2) x h
theorem NI_eq (hK : Is b 9 s) (hT : TS b s I E) (h0 : E' s 0 = E s 0) (h1 : ∀ t, Is b 10 t → E' t 3 = E t 3) : NI s E' = NI s E := by
  refine cnt_congr (fun i _ => ?_)
  rw [h0]
  cases he : E s 0 (i / 4) with
  | none => rfl
  | some t => dsimp only; rw [h1 t (hT.2.2 _ t he)]
theorem KV_eqG (hk : KV b g o s h vv I F A E N W) (he : EQg b I I' F F' A A' E E') (hC : CU b g o F' A' E') (hG : GO b I' A') {vv' : Nat → Int32} (hv : A' o 1 = vv') (hN : KN o I') : KV b g o s h vv' I' F' A' E' N W := by
  obtain ⟨h1, h2, h3, h4, h5, h6, h7, h8, h9⟩ := hk
  obtain ⟨e1, e2, e3, e4⟩ := he
  obtain ⟨s1, s2, s3, s4, s5, s6, s7, s8, s9, s10, s11, s12⟩ := id h3
  obtain ⟨-, -, -, -, k1, k2⟩ := id h2
  refine ⟨h1, Core_eq h2 (fun c a j ha hr => e1 c a j ha (sub_rI hr)) (fun c a j ha hr => e2 c a j ha (sub_rF hr)) (fun a ha => e3 1 a 0 ha (by decide)) (fun c a j ha hr => e4 c a j ha (sub_rE hr)), ?_, ?_, ?_, hC, hN, ?_, ?_⟩
  · unfold SK
    rw [e2 11 o 2 s1 (by decide), e2 9 s 2 s3 (by decide), e2 11 o 6 s1 (by decide), e2 11 o 7 s1 (by decide), e2 11 o 8 s1 (by decide), e4 11 o 3 s1 (by decide)]
    refine ⟨s1, s2, s3, s4, s5, s6, s7, s8, s9, s10, fun r hr => ?_, fun v hv => ?_⟩
    · rw [e4 6 r 0 hr (by decide)]; exact s11 r hr
    · rw [e2 8 v 0 hv (by decide), e2 8 v 2 hv (by decide), e4 8 v 3 hv (by decide)]; exact s12 v hv
  · intro i f hi hf
    rw [e1 9 s 4 s3 (by decide)] at hi
    rw [e4 9 s 1 s3 (by decide)] at hf
    have hf1 := k1.2.2.2.1 i f hf
    rw [e2 1 f 2 hf1 (by decide)]
    exact h4 i f hi hf
  · unfold HI
    rw [e1 3 h 3 s5 (by decide), e1 3 h 4 s5 (by decide), e4 3 h 0 s5 (by decide), e3 3 h 2 s5 (by decide), e3 3 h 1 s5 (by decide)]
    refine ⟨h5.1, h5.2.1, fun i hi => ?_, h5.2.2.2⟩
    obtain ⟨f, z1, z2, z3, z4⟩ := h5.2.2.1 i hi
    exact ⟨f, z1, z2, z3, by rw [e2 1 f 3 z2 (by decide)]; exact z4⟩
  · unfold BU NK
    rw [e4 9 s 1 s3 (by decide), NI_eq s3 k2 (e4 9 s 0 s3 (by decide)) (fun t ht => e4 10 t 3 ht (by decide))]
    exact h8
  · refine ⟨⟨hv, hG⟩, fun x hx => ?_, by rw [e1 9 s 3 s3 (by decide), e4 9 s 0 s3 (by decide)]; exact h9.2.2⟩
    rw [e1 4 x 0 hx (by decide), e4 10 _ 3 (h2.1.2.1 x hx).2.1 (by decide)]
    exact h9.2.1 x hx
theorem KV_eq (hk : KV b g o s h vv I F A E N W) (he : EQ b I I' F F' A A' E E') (hC : CU b g o F' A' E') : KV b g o s h vv I' F' A' E' N W :=
  KV_eqG hk ⟨fun c a j ha hr => he.1 c a j ha (List.mem_cons_of_mem _ (List.mem_cons_of_mem _ (List.mem_cons_of_mem _ hr))), he.2.1, fun c a j ha hr => he.2.2.1 c a j ha (List.mem_cons_of_mem _ (List.mem_cons_of_mem _ (List.mem_cons_of_mem _ (List.mem_cons_of_mem _ hr)))), he.2.2.2⟩ hC (GO_fr hk.2.2.2.2.2.2.2.2.1.2 (fun _ h => h) (fun q hq => he.1 2 q 5 hq (by decide)) (fun q hq => ⟨he.2.2.1 2 q 0 hq (by decide), he.2.2.1 2 q 1 hq (by decide)⟩)) (by rw [he.2.2.1 11 o 1 hk.2.2.1.1 (by decide)]; exact hk.2.2.2.2.2.2.2.2.1.1) (by unfold KN; rw [he.1 11 o 9 hk.2.2.1.1 (by decide), he.1 11 o 10 hk.2.2.1.1 (by decide)]; exact hk.2.2.2.2.2.2.1)
/-- the cursors, where looks have changed but none of theirs, or one that is ready again -/
theorem CU_eq (hc : CU b g o F A E) (h1 : A' o 4 = A o 4) (h2 : E' o 3 = E o 3) (hF : ∀ l, Is b 5 l → Rd b g F l → Rd b g F' l) : CU b g o F' A' E' := fun i hi ho => by
  rw [h1] at ho
  obtain ⟨l, h3, h4⟩ := hc i hi ho
  exact ⟨l, by rw [h2]; exact h3, hF l h4.1 h4⟩
theorem Rd_Ol {l l' : Nat} (hL : LO b g I F E) (h : Rd b g F l) (hO : Ol l' F F') (hl' : Is b 5 l') (hR : Rd b g F' l') : Rd b g F' l := by
  by_cases hq : l = l'
  · rw [hq]; exact hR
  · obtain ⟨h1, t, h2, h3, h4⟩ := h
    refine ⟨h1, t, by rw [hO l hq]; exact h2, h3, fun f hf => ?_⟩
    rw [hO l hq] at hf
    obtain ⟨h5, h6⟩ := h4 f hf
    exact ⟨h5, by rw [hO f (Is_ne (hL.2.2.2 _ _ h5).1 hl' (by decide))]; exact h6⟩
/-- where no look has changed -/
theorem KV_eq0 (hk : KV b g o s h vv I F A E N W) (he : EQ b I I' F F' A A' E E') (hF : ∀ l, Is b 5 l → F' l 2 = F l 2 ∧ F' l 5 = F l 5) : KV b g o s h vv I' F' A' E' N W := by
  have s1 := hk.2.2.1.1
  refine KV_eq hk he (CU_eq hk.2.2.2.2.2.1 (he.2.2.1 11 o 4 s1 (by decide)) (he.2.2.2 11 o 3 s1 (by decide)) (fun l hl hR => ?_))
  obtain ⟨h1, t, h2, h3, h4⟩ := hR
  refine ⟨h1, t, by rw [(hF l hl).1]; exact h2, h3, fun f hf => ?_⟩
  rw [(hF l hl).2] at hf
  obtain ⟨h5, h6⟩ := h4 f hf
  exact ⟨h5, by rw [he.2.1 1 f 2 (hk.2.1.1.2.2.2 _ _ h5).1 (by decide)]; exact h6⟩
end C9
