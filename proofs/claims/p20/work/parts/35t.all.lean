set_option linter.unusedVariables false
set_option linter.unusedSimpArgs false
section C20
variable {b : CT} {g : Gh} {o s h N : Nat} {vv : Nat → Int32} {I : Nat → Nat → Int32} {F : Nat → Nat → Option Nat} {A : Nat → Nat → Nat → Int32} {E : Nat → Nat → Nat → Option Nat} {W : Nat → Prop} {X : String → HS → Prop} {Q : HS → Prop} {QI : Int32 → HS → Prop} {QF : Option Nat → HS → Prop}
/-- an index that stands in no table yet -/
theorem idx_new (hL : LO b g I F E) (hV : VC g F E NX) (hP : PR g F E) (hC : CE b g I F A E) {b' : CT} {t q : Nat} {k : Int32} {I' : Nat → Nat → Int32} {F' : Nat → Nat → Option Nat} {A' : Nat → Nat → Nat → Int32} {E' : Nat → Nat → Nat → Option Nat} (XX : Nat → Nat → Prop) (ht : Is b 10 t) (hk : wIn k 4) (n2 : Xt b b') (n3 : q ∉ b.B.LP) (n4 : Is b' 4 q) (n5 : ∀ c a, Is b' c a → Is b c a ∨ a = q ∧ c = 4 ∨ a ∉ b.B.LP ∧ 20 ≤ c) (n8 : ∀ a, a ∈ b.B.LP → I' a = I a ∧ F' a = F a ∧ A' a = A a ∧ E' a = E a) (n9 : I' q 0 = k) (n10 : ∀ i, E' q 1 i = none) :
    ∃ g' : Gh, g'.V = g.V ∧ g'.R = g.R ∧ g'.U q = t ∧ LO b' g' I' F' E' ∧ VC g' F' E' XX ∧ PR g' F' E' ∧ CE b' g' I' F' A' E' := by
  obtain ⟨l1, l2, l3, l4⟩ := id hL
  have up := n2.1
  have oI : ∀ c a, Is b c a → I' a = I a := fun c a ha => (n8 a ha.1).1
  have oF' : ∀ c a, Is b c a → F' a = F a := fun c a ha => (n8 a ha.1).2.1
  have oA : ∀ c a, Is b c a → A' a = A a := fun c a ha => (n8 a ha.1).2.2.1
  have oE : ∀ c a, Is b c a → E' a = E a := fun c a ha => (n8 a ha.1).2.2.2
  have back : ∀ c a, c ≠ 4 → c < 20 → Is b' c a → Is b c a := fun c a h1 h3 ha => by
    rcases n5 c a ha with h | h | h
    · exact h
    · exact absurd h.2 h1
    · omega
  have nq : ∀ a, a ∈ b.B.LP → a ≠ q := fun a ha z => n3 (by rw [← z]; exact ha)
  have hg : ∃ g' : Gh, g'.V = g.V ∧ g'.R = g.R ∧ (∀ x, x ∈ b.B.LP → g'.U x = g.U x) ∧ g'.U q = t ∧ g'.T = g.T ∧ g'.S = g.S := ⟨(g.1, g.2.1, g.2.2.1, g.2.2.2.1, va_up g.U q t), rfl, rfl, fun x hx => va_up_ne _ _ (nq x hx), va_up_self _ _ _, rfl, rfl⟩
  obtain ⟨g', gV, gR, gU', gUq, gT, gS⟩ := hg
  have gV' : ∀ l f, g'.V l f ↔ g.V l f := fun l f => by show g'.1 l f ↔ g.1 l f; rw [show g'.1 = g.1 from gV]
  have gR' : ∀ l f, g'.R l f = g.R l f := fun l f => congrFun (congrFun gR l) f
  have gT' : ∀ f, g'.T f = g.T f := fun f => congrFun gT f
  have gS' : ∀ f, g'.S f = g.S f := fun f => congrFun gS f
  have vF : ∀ l f, g.V l f → F' f = F f := fun l f hv => oF' 1 f (l4 l f hv).1
  have tF : ∀ l f t, g.V l f → F f 2 = some t → Is b 10 t := fun l f t hv ht => tab_of hL hv ht
  refine ⟨g', gV, gR, gUq, ⟨fun c hc => ?_, fun y hy => ?_, fun t ht => ?_, fun l f hv => ?_⟩, ⟨fun l f hv => ⟨(gV' _ _).mpr (hV.1 l f ((gV' _ _).mp hv)).1, (hV.1 l f ((gV' _ _).mp hv)).2⟩, fun k f t hk hv ht hx => ?_⟩, ⟨fun f t hv ht => ?_, ?_⟩, ⟨fun k f t x hk hv ht hx => ?_, fun c hc => ?_⟩⟩
  · have hc := back 0 c (by decide) (by decide) hc
    obtain ⟨p1, p2, p3, p4, p5⟩ := l1 c hc
    unfold XCh
    rw [oI 0 c hc, oF' 0 c hc, gT' c]
    refine ⟨p1, up _ _ p2, fun d hd => ?_, fun f hf => ?_, fun f hf => ?_⟩
    · obtain ⟨z1, z2, z3, z4⟩ := p3 d hd
      exact ⟨up _ _ z1, by rw [gS', gS']; exact z2, by rw [gT']; exact z3, by rw [oI 0 d z1]; exact z4⟩
    · exact ⟨(gV' _ _).mpr (p4 f hf).1, by rw [vF _ _ (p4 f hf).1]; exact (p4 f hf).2⟩
    · exact ⟨(gV' _ _).mpr (p5 f hf).1, by rw [vF _ _ (p5 f hf).1]; exact (p5 f hf).2⟩
  · rcases n5 4 y hy with hy' | ⟨rfl, -⟩ | h
    · obtain ⟨p1, p2, p3⟩ := l2 y hy'
      unfold XIx
      rw [oI 4 y hy', oE 4 y hy', gU' y hy'.1]
      refine ⟨p1, up _ _ p2, fun i c hc => ?_⟩
      obtain ⟨z1, z2, z3⟩ := p3 i c hc
      exact ⟨up _ _ z1, by rw [gT']; exact z2, by rw [oI 0 c z1]; exact z3⟩
    · unfold XIx
      rw [n9, gUq]
      exact ⟨hk, up _ _ ht, fun i c hc => by rw [n10] at hc; exact absurd hc (by simp)⟩
    · exact absurd h.2 (by decide)
  · have ht := back 10 t (by decide) (by decide) ht
    obtain ⟨p1, p2, ⟨r', p3, p4, p5, p6⟩, p7⟩ := l3 t ht
    unfold XTb
    rw [oI 10 t ht, oF' 10 t ht, oE 10 t ht]
    refine ⟨p1, p2, ⟨r', p3, up _ _ p4, by rw [gT']; exact p5, by rw [oI 0 r' p4]; exact p6⟩, fun k y hy => ?_⟩
    obtain ⟨z1, z2, z3, z4⟩ := p7 k y hy
    exact ⟨up _ _ z1, by rw [gU' y z1.1]; exact z2, by rw [oI 4 y z1]; exact z3, z4⟩
  · have hv2 := (gV' _ _).mp hv
    obtain ⟨p1, ⟨t, p2, p3⟩, p4⟩ := l4 l f hv2
    unfold XV
    rw [vF _ _ hv2, oE 1 f p1]
    refine ⟨up _ _ p1, ⟨t, p2, up _ _ p3⟩, fun f' hf' => ?_⟩
    obtain ⟨z1, z2, z3⟩ := p4 f' hf'
    exact ⟨(gV' _ _).mpr z1, by rw [vF _ _ z1]; exact z2, by rw [gR', gR']; exact z3⟩
  · have hv2 := (gV' _ _).mp hv
    rw [vF _ _ hv2] at ht
    rw [oE 10 t (tF _ _ _ hv2 ht), gV']
    exact hV.2 k f t hk hv2 ht (fun z => z)
  · have hv2 := (gV' _ _).mp hv
    rw [vF _ _ hv2] at ht
    have htt := tF _ _ _ hv2 ht
    rcases hP.1 f t hv2 ht with ⟨r', z1, z2⟩ | ⟨p, z1, z2, z3⟩
    · obtain ⟨-, -, ⟨r'', y1, y2, -⟩, -⟩ := l3 t htt
      rw [z1] at y1; cases y1
      exact Or.inl ⟨r', by rw [oF' 10 t htt]; exact z1, by rw [oF' 0 r' y2]; exact z2⟩
    · exact Or.inr ⟨p, (gV' _ _).mpr z1, by rw [vF _ _ z1]; exact z2, by rw [oE 1 p (l4 _ _ z1).1]; exact z3⟩
  · obtain ⟨B, hB⟩ := hP.2
    exact ⟨B, fun f hf => by rw [gR']; exact hB f ((gV' _ _).mp hf)⟩
  · have hv2 := (gV' _ _).mp hv
    rw [vF _ _ hv2] at ht
    have htt := tF _ _ _ hv2 ht
    rw [oE 10 t htt] at hx
    obtain ⟨n, hn⟩ := hC.1 k f t x hk hv2 ht hx
    obtain ⟨x1, -⟩ := (l3 t htt).2.2.2 k x hx
    rw [oA 1 f (l4 _ _ hv2).1, oE 4 x x1]
    exact ⟨n, Fd_mono hL (fun c hc => by rw [oI 0 c hc, oF' 0 c hc]; exact ⟨rfl, rfl⟩) (fun c hc => ((l2 x x1).2.2 _ c hc).1) hn⟩
  · have hc := back 0 c (by decide) (by decide) hc
    exact RC_eq hC.2 hL up (fun c hc => gT' c) (fun x hx => gU' x hx.1) (fun t ht => by rw [oF' 10 t ht]) (fun c hc => by rw [oF' 0 c hc]) (fun x hx => by rw [oE 4 x hx]) c hc
theorem all_seen (hL : LO b g I F E) (hP : PR g F E) {t : Nat} {P : Nat → Prop} (h : ∀ f, g.V 4 f → F f 2 = some t → P f ∨ ∃ p, g.V 4 p ∧ F p 2 = some t ∧ E p 1 4 = some f ∧ ¬ P p) : ∀ f, g.V 4 f → F f 2 = some t → P f := by
  obtain ⟨B, hB⟩ := hP.2
  have key : ∀ n f, B - g.R 4 f ≤ n → g.V 4 f → F f 2 = some t → P f := by
    intro n
    induction n with
    | zero => intro f h1 h2 h3; have := hB f h2; omega
    | succ n ih =>
      intro f h1 h2 h3
      rcases h f h2 h3 with z | ⟨p, z1, z2, z3, z4⟩
      · exact z
      · have h5 := ((hL.2.2.2 4 p z1).2.2 f z3).2.2
        have h6 := hB p z1
        exact absurd (ih p (by omega) z1 z2) z4
  exact fun f h1 h2 => key _ f (Nat.le_refl _) h1 h2
end C20
