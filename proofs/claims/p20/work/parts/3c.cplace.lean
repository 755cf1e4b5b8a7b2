set_option linter.unusedVariables false
set_option linter.unusedSimpArgs false
/-! the class: chains are looked up and made; a fact is placed in all its lanes -/
theorem if_congr' {α : Type} {p q : Prop} [Decidable p] [Decidable q] {x y : α} (h : p ↔ q) : (if p then x else y) = if q then x else y := by
  by_cases hp : p
  · rw [if_pos hp, if_pos (h.mp hp)]
  · rw [if_neg hp, if_neg (fun z => hp (h.mpr z))]
section VC1
variable {b : CT} {I : Nat → Nat → Int32} {F : Nat → Nat → Option Nat} {A : Nat → Nat → Nat → Int32} {E : Nat → Nat → Nat → Option Nat} {o t n n' k f c p x : Nat} {tn : Int32} {co : Nat → Int32} {d r ct : Nat → Nat} {L : Nat → List Nat} {X X' : String → HS → Prop} {Q Q' : HS → Prop} {QI QI' : Int32 → HS → Prop} {QF QF' : Option Nat → HS → Prop}
theorem qc_chainWith (hb : CB b) {v : Int32} (hx : Is b 4 x) (hB : Bkt b t k x (ix (v &&& 63)) ct I F E) (h0 : (∀ c, Is b 0 c → ct c = t → ix (I c 0) = k → I c 1 ≠ v) → QF none (cS b I F A E) → QF' none (cS b I F A E)) (h1 : ∀ c, Is b 0 c → ct c = t → ix (I c 0) = k → I c 1 = v → QF (some c) (cS b I F A E) → QF' (some c) (cS b I F A E)) : w_X4_chainWith (some x) v (cS b I F A E) QF X → w_X4_chainWith (some x) v (cS b I F A E) QF' X' := by
  unfold w_X4_chainWith
  refine qc_getA hb (by decide) (fun _ => ?_)
  refine qc_aldG hb hx (by decide) (by decide) (fun _ => ?_)
  obtain ⟨C, hC, hm⟩ := hB
  refine qc_loop0 (fun w => ∃ P S, C = P ++ S ∧ LnO (fun c => F c 2) w S ∧ ∀ c, c ∈ P → I c 1 ≠ v) ⟨[], C, rfl, hC, fun c hc => absurd hc List.not_mem_nil⟩ (fun w again again' ⟨P, S, e, hS, hP⟩ ha => ?_)
  dsimp only [wJoin]
  cases w with
  | none =>
    refine qv_if (fun _ => h0 (fun c hc z1 z2 z3 => ?_)) (fun z => absurd rfl z)
    have hS0 := LnO_none hS
    rw [hS0, List.append_nil] at e
    exact hP c (by rw [← e]; exact (hm c).mpr ⟨hc, z1, z2, by rw [z3]⟩) z3
  | some c =>
    refine qv_if (fun z => absurd z (by simp)) (fun _ => ?_)
    obtain ⟨S', eS, hS'⟩ := LnO_some hS
    have hcC : c ∈ C := by rw [e, eS]; exact List.mem_append_right _ List.mem_cons_self
    obtain ⟨z1, z2, z3, z4⟩ := (hm c).mp hcC
    refine qc_getI (fun _ => ?_)
    refine qv_if (fun z => h1 c z1 z2 z3 z) (fun z => ?_)
    refine qc_getF hb (by decide) (fun _ => ?_)
    refine ha _ ⟨P ++ [c], S', by rw [e, eS]; simp, hS', fun c' hc' => ?_⟩
    rcases List.mem_append.mp hc' with y | y
    · exact hP c' y
    · rw [List.mem_singleton.mp y]; exact z
theorem qc_chainFor (hb : CB b) (h1 : CH1 b I F E L) (h2 : CH2 b tn d r ct I E) (h3 : CH3 b tn co d ct I F E) (hd : ∀ t : Nat, (t : Int) < tn.toInt → Is b 10 (d t)) (ht : (t : Int) < tn.toInt) (hk : k < 4) (hx : E (d t) 3 k = some x) (hf : Is b 1 f) (hLf : ∀ c, Is b 0 c → ∀ q, q ∈ L c → Is b 1 q)
    (hQ : ∀ c b' I' F' E' ct' L', CB b' → Fr b b' I I' F F' E E' → CH1 b' I' F' E' L' → CH2 b' tn d r ct' I' E' → CH3 b' tn co d ct' I' F' E' → Is b' 0 c → ct' c = t → ix (I' c 0) = k → I' c 1 = A f 0 k → (∀ q, Is b 0 q → ct' q = ct q ∧ L' q = L q) → (∀ q, Is b' 0 q → Is b 0 q ∨ q = c ∧ ¬ Is b 0 c ∧ L' c = [] ∧ ∀ c0, Is b 0 c0 → ct c0 = t → ix (I c0 0) = k → I c0 1 ≠ A f 0 k) → (∀ q, Is b 1 q → E' q = E q) → QF (some c) (cS b' I' F' A E') → QF' (some c) (cS b' I' F' A E')) : w_X4_chainFor (some x) (some f) (cS b I F A E) QF X → w_X4_chainFor (some x) (some f) (cS b I F A E) QF' X' := by
  obtain ⟨x1, x2, x3, x4⟩ := h3.1 t k x ht hk hx
  have hix : ix (I x 0) = k := ix_of x2
  unfold w_X4_chainFor
  refine qc_getA hb (by decide) (fun _ => ?_)
  refine qc_getI (fun _ => ?_)
  refine qc_ald hb hf (by decide) (by decide) (fun _ => ?_)
  rw [hix]
  generalize hv : A f 0 k = v at hQ ⊢
  have hi64 : ix (v &&& 63) < 64 := ix_lt (and63 v)
  refine qc_recv (fun _ => ?_)
  refine qc_chainWith hb x1 (x4 _ hi64) (fun hno => ?_) (fun c c1 c2 c3 c4 => ?_)
  · dsimp only [wJoin]
    refine qv_if (fun _ => ?_) (fun z => absurd rfl z)
    refine qc_new hb.1 (fun q hq => ?_)
    have hb1 : CB (bnew b q 0 5) := bnew_CB hb hq no_own0
    have hIs : ∀ c a, Is (bnew b q 0 5) c a ↔ Is b c a ∨ a = q ∧ c = 0 := bnew_Is hq
    have hxq : x ≠ q := fun z => hq (by rw [← z]; exact x1.1)
    have hx' : Is (bnew b q 0 5) 4 x := (hIs 4 x).mpr (Or.inl x1)
    have hqI : Is (bnew b q 0 5) 0 q := (hIs 0 q).mpr (Or.inr ⟨rfl, rfl⟩)
    refine qc_getI (fun _ => ?_)
    rw [va_up_ne _ _ hxq]
    refine qc_getA hb1 (by decide) (fun _ => ?_)
    refine qc_aldG hb1 hx' (by decide) (by decide) (fun _ => ?_)
    unfold w_X0_init
    refine q_ref ?_
    refine qc_putI (fun _ => ?_)
    refine qc_putI (fun _ => ?_)
    refine qc_putF hb1 (by decide) (fun _ => ?_)
    refine qc_getA hb1 (by decide) (fun _ => ?_)
    refine qc_astG hb1 hx' (by decide) (by decide) (fun _ _ => ?_)
    have ne : ∀ c a, Is b c a → a ≠ q := fun c a ha z => hq (by rw [← z]; exact ha.1)
    have eI : ∀ a, a ≠ q → up2 (up2 (va_up I q fun _ => 0) q 0 (I x 0)) q 1 v a = I a := fun a ha => by
      funext j
      exact (if_neg (fun z => ha z.1)).trans ((if_neg (fun z => ha z.1)).trans (by rw [va_up_ne _ _ ha]))
    have eF : ∀ a j, a ≠ q → up2 (va_up F q fun _ => none) q 2 (E x 1 (ix (v &&& 63))) a j = F a j := fun a j ha => (if_neg (fun z => ha z.1)).trans (by rw [va_up_ne _ _ ha])
    have eq0 : up2 (up2 (va_up I q fun _ => 0) q 0 (I x 0)) q 1 v q 0 = I x 0 := (if_neg (fun z => absurd z.2 (by decide))).trans (up2_self _ _ _ _)
    have eq1 : up2 (up2 (va_up I q fun _ => 0) q 0 (I x 0)) q 1 v q 1 = v := up2_self _ _ _ _
    have eq2 : up2 (va_up F q fun _ => none) q 2 (E x 1 (ix (v &&& 63))) q 2 = E x 1 (ix (v &&& 63)) := up2_self _ _ _ _
    have eq3 : up2 (va_up F q fun _ => none) q 2 (E x 1 (ix (v &&& 63))) q 3 = none := (if_neg (fun z => absurd z.2 (by decide))).trans (by rw [va_up_self])
    have eq4 : up2 (va_up F q fun _ => none) q 2 (E x 1 (ix (v &&& 63))) q 4 = none := (if_neg (fun z => absurd z.2 (by decide))).trans (by rw [va_up_self])
    have eE : ∀ a j i, ¬ (a = x ∧ j = 1 ∧ i = ix (v &&& 63)) → up3 E x 1 (ix (v &&& 63)) (some q) a j i = E a j i := fun a j i ha => if_neg ha
    have eEx : up3 E x 1 (ix (v &&& 63)) (some q) x 1 (ix (v &&& 63)) = some q := if_pos ⟨rfl, rfl, rfl⟩
    generalize up2 (up2 (va_up I q fun _ => 0) q 0 (I x 0)) q 1 v = I' at eI eq0 eq1 ⊢
    generalize up2 (va_up F q fun _ => none) q 2 (E x 1 (ix (v &&& 63))) = F' at eF eq2 eq3 eq4 ⊢
    generalize up3 E x 1 (ix (v &&& 63)) (some q) = E' at eE eEx ⊢
    have eEd : ∀ t : Nat, (t : Int) < tn.toInt → E' (d t) 3 = E (d t) 3 := fun t' ht' => funext fun i => eE _ _ _ (fun z => absurd z.2.1 (by decide))
    have e1f : ∀ q', Is b 1 q' → E' q' = E q' := fun q' hq' => funext fun j => funext fun i => eE _ _ _ (fun z => Is_ne hq' x1 (by decide) z.1)
    refine hQ q _ I' F' E' (va_up ct q t) (va_up L q []) hb1 ⟨bnew_Xt hq, rfl, fun ci a' h => ((hIs ci a').mp h).imp id (fun z => ⟨z.2, by rw [z.1]; exact hq⟩), fun a' ha' => eI a' (fun z => hq (by rw [← z]; exact ha')), fun c' a' j' ha' _ => eF a' j' (ne _ _ ha'), fun c' a' j' ha' z1 _ => funext fun i => eE a' j' i (fun z => z1 ⟨by rw [← ha'.2, z.1]; exact x1.2, z.2.1⟩)⟩ ?_ ?_ ?_ hqI (va_up_self _ _ _) (by rw [eq0]; exact hix) eq1 (fun q' hq' => ⟨va_up_ne _ _ (ne _ _ hq'), va_up_ne _ _ (ne _ _ hq')⟩) (fun q' hq' => ((hIs 0 q').mp hq').imp id (fun z => ⟨z.1, fun y => ne _ _ y rfl, va_up_self _ _ _, hno⟩)) e1f
    · intro c' hc'
      rcases (hIs 0 c').mp hc' with z | ⟨z, -⟩
      · have hne := ne _ _ z
        obtain ⟨y1, y2⟩ := h1 c' z
        rw [va_up_ne _ _ hne, eI c' hne]
        refine ⟨?_, by rw [eF c' 4 hne]; exact y2⟩
        rw [eF c' 3 hne]
        exact LnO_congr (fun q' hq' => by rw [e1f q' (hLf c' z q' hq')]) y1
      · subst z
        rw [va_up_self]
        exact ⟨eq3, eq4⟩
    · refine ⟨fun c' hc' => ?_, fun c1 c2 m1 m2 e1 e2 e3 => ?_⟩
      · rcases (hIs 0 c').mp hc' with z | ⟨z, -⟩
        · have hne := ne _ _ z
          obtain ⟨y1, y2, y3, y4⟩ := h2.1 c' z
          rw [va_up_ne _ _ hne, eI c' hne]
          exact ⟨y1, y2, y3, fun w => by rw [eEd _ y1]; exact y4 w⟩
        · subst z
          rw [va_up_self, eq0, hix]
          refine ⟨ht, ⟨by omega, by omega⟩, fun z => by omega, fun _ => ?_⟩
          rw [eEd t ht, hx]; simp
      · rcases (hIs 0 c1).mp m1 with z1 | ⟨z1, -⟩
        · rcases (hIs 0 c2).mp m2 with z2 | ⟨z2, -⟩
          · rw [va_up_ne _ _ (ne _ _ z1), va_up_ne _ _ (ne _ _ z2)] at e1
            rw [eI _ (ne _ _ z1), eI _ (ne _ _ z2)] at e2 e3
            exact h2.2 c1 c2 z1 z2 e1 e2 e3
          · subst z2
            rw [va_up_ne _ _ (ne _ _ z1), va_up_self] at e1
            rw [eI _ (ne _ _ z1)] at e2 e3
            rw [eq0, hix] at e2
            rw [eq1] at e3
            exact absurd e3 (hno c1 z1 e1 e2)
        · subst z1
          rcases (hIs 0 c2).mp m2 with z2 | ⟨z2, -⟩
          · rw [va_up_ne _ _ (ne _ _ z2), va_up_self] at e1
            rw [eI _ (ne _ _ z2)] at e2 e3
            rw [eq0, hix] at e2
            rw [eq1] at e3
            exact absurd e3.symm (hno c2 z2 e1.symm e2.symm)
          · exact z2.symm
    · refine ⟨fun t' k' x' ht' hk' hx'' => ?_, fun t1 t2 k1 k2 x' a1 a2 a3 a4 a5 a6 => ?_⟩
      · rw [eEd t' ht'] at hx''
        obtain ⟨y1, y2, y3, y4⟩ := h3.1 t' k' x' ht' hk' hx''
        have hne := ne _ _ y1
        rw [eI x' hne]
        refine ⟨(hIs 4 x').mpr (Or.inl y1), y2, y3, fun i hi => ?_⟩
        obtain ⟨C, hC, hm⟩ := y4 i hi
        have old : ∀ c', c' ∈ C → c' ≠ q := fun c' hc' => ne _ _ ((hm c').mp hc').1
        by_cases e : x' = x ∧ i = ix (v &&& 63)
        · obtain ⟨rfl, rfl⟩ := e
          have et : t' = t := h3.2 t' t k' k x' ht' ht hk' hk hx'' hx
          subst et
          have ek : k' = k := by omega
          subst ek
          refine ⟨q :: C, ⟨eEx, ?_⟩, fun c' => ?_⟩
          · show LnO (fun c => F' c 2) (F' q 2) C
            rw [eq2]
            exact LnO_congr (fun c' hc' => eF c' 2 (old c' hc')) hC
          · rw [List.mem_cons, hIs 0 c', hm c']
            constructor
            · rintro (z | ⟨z1, z2, z3, z4⟩)
              · subst z
                rw [va_up_self, eq0, eq1]
                exact ⟨Or.inr ⟨rfl, rfl⟩, rfl, hix, rfl⟩
              · rw [va_up_ne _ _ (ne _ _ z1), eI _ (ne _ _ z1)]
                exact ⟨Or.inl z1, z2, z3, z4⟩
            · rintro ⟨z1 | z1, z2, z3, z4⟩
              · rw [va_up_ne _ _ (ne _ _ z1)] at z2
                rw [eI _ (ne _ _ z1)] at z3 z4
                exact Or.inr ⟨z1, z2, z3, z4⟩
              · exact Or.inl z1.1
        · refine ⟨C, ?_, fun c' => ?_⟩
          · rw [eE x' 1 i (fun z => e ⟨z.1, z.2.2⟩)]
            exact LnO_congr (fun c' hc' => eF c' 2 (old c' hc')) hC
          · rw [hm c', hIs 0 c']
            constructor
            · rintro ⟨z1, z2, z3, z4⟩
              rw [va_up_ne _ _ (ne _ _ z1), eI _ (ne _ _ z1)]
              exact ⟨Or.inl z1, z2, z3, z4⟩
            · rintro ⟨z1 | z1, z2, z3, z4⟩
              · rw [va_up_ne _ _ (ne _ _ z1)] at z2
                rw [eI _ (ne _ _ z1)] at z3 z4
                exact ⟨z1, z2, z3, z4⟩
              · exfalso
                obtain ⟨rfl, -⟩ := z1
                rw [va_up_self] at z2
                rw [eq0] at z3
                rw [eq1] at z4
                subst z2
                have ek : k' = k := by omega
                subst ek
                rw [hx] at hx''
                cases hx''
                exact e ⟨rfl, z4.symm⟩
      · rw [eEd t1 a1] at a5
        rw [eEd t2 a2] at a6
        exact h3.2 t1 t2 k1 k2 x' a1 a2 a3 a4 a5 a6
  · dsimp only [wJoin]
    refine qv_if (fun z => absurd z (by simp)) (fun _ => ?_)
    exact hQ c b I F E ct L hb Fr_rf h1 h2 h3 c1 c2 c3 c4 (fun _ _ => ⟨rfl, rfl⟩) (fun _ h => Or.inl h) (fun _ _ => rfl)
/-- a fact f of the table t has been put (by pt) into the lanes below m, and into the row -/
def PlI (f t : Nat) (pt : List Nat → List Nat) (A : Nat → Nat → Nat → Int32) (tn : Int32) (co : Nat → Int32) (d r : Nat → Nat) (b : CT) (I : Nat → Nat → Int32) (F : Nat → Nat → Option Nat) (E : Nat → Nat → Nat → Option Nat) (ct : Nat → Nat) (L : Nat → List Nat) (m : Nat) (b' : CT) (I' : Nat → Nat → Int32) (F' : Nat → Nat → Option Nat) (E' : Nat → Nat → Nat → Option Nat) (ct' : Nat → Nat) (L' : Nat → List Nat) : Prop :=
  CB b' ∧ Fr b b' I I' F F' E E' ∧ CH1 b' I' F' E' L' ∧ CH2 b' tn d r ct' I' E' ∧ CH3 b' tn co d ct' I' F' E' ∧ (∀ c, Is b 0 c → ct' c = ct c) ∧
  (∀ c, Is b 0 c → L' c = if ct c = t ∧ (ix (I c 0) = 4 ∨ ix (I c 0) < m ∧ I c 1 = A f 0 (ix (I c 0))) then pt (L c) else L c) ∧
  (∀ c, Is b' 0 c → ¬ Is b 0 c → L' c = pt [] ∧ ct' c = t ∧ ix (I' c 0) < m ∧ I' c 1 = A f 0 (ix (I' c 0)) ∧ ∀ c0, Is b 0 c0 → ct c0 = t → ix (I c0 0) = ix (I' c 0) → I c0 1 ≠ A f 0 (ix (I' c 0))) ∧
  (∀ k, k < m → k < 4 → E (d t) 3 k ≠ none → ∃ c, Is b' 0 c ∧ ct' c = t ∧ ix (I' c 0) = k ∧ I' c 1 = A f 0 k) ∧
  ∀ q, Is b 1 q → (∀ c, Is b 0 c → q ∉ L c) → q ≠ f → E' q = E q
theorem PuE_q {l : Nat} {F' : Nat → Nat → Option Nat} {E' : Nat → Nat → Nat → Option Nat} (h : PuE b c l F F' E E') : (∀ x, ¬ Is b 1 x → E' x = E x) ∧ (∀ x, F' x 2 = F x 2) ∧ ∀ x, ¬ Is b 0 x → Is b 0 c → F' x = F x :=
  ⟨fun x hx => funext fun j => funext fun i => h.2 x j i (fun z => hx z.1), fun x => h.1 x 2 (fun z => by omega), fun x hx hc => funext fun j => h.1 x j (fun z => hx (by rw [z.1]; exact hc))⟩
theorem CH2_Pu {l : Nat} {F' : Nat → Nat → Option Nat} {E' : Nat → Nat → Nat → Option Nat} (hd : ∀ t : Nat, (t : Int) < tn.toInt → Is b 10 (d t)) (h : CH2 b tn d r ct I E) (hp : PuE b c l F F' E E') : CH2 b tn d r ct I E' := ⟨fun c' hc' => by
  obtain ⟨y1, y2, y3, y4⟩ := h.1 c' hc'
  refine ⟨y1, y2, y3, fun z => ?_⟩
  rw [(PuE_q hp).1 _ (fun w => Is_ne w (hd _ y1) (by decide) rfl)]; exact y4 z, h.2⟩
theorem CH3_Pu {l : Nat} {F' : Nat → Nat → Option Nat} {E' : Nat → Nat → Nat → Option Nat} (hd : ∀ t : Nat, (t : Int) < tn.toInt → Is b 10 (d t)) (h : CH3 b tn co d ct I F E) (hp : PuE b c l F F' E E') : CH3 b tn co d ct I F' E' := by
  have ed : ∀ t : Nat, (t : Int) < tn.toInt → E' (d t) = E (d t) := fun t ht => (PuE_q hp).1 _ (fun w => Is_ne w (hd _ ht) (by decide) rfl)
  refine ⟨fun t k x ht hk hx => ?_, fun t t' k k' x a1 a2 a3 a4 a5 a6 => ?_⟩
  · rw [ed t ht] at hx
    obtain ⟨y1, y2, y3, y4⟩ := h.1 t k x ht hk hx
    refine ⟨y1, y2, y3, fun i hi => ?_⟩
    obtain ⟨C, hC, hm⟩ := y4 i hi
    refine ⟨C, ?_, hm⟩
    rw [(PuE_q hp).1 x (fun w => Is_ne w y1 (by decide) rfl), show (fun c => F' c 2) = fun c => F c 2 from funext (PuE_q hp).2.1]
    exact hC
  · rw [ed t a1] at a5
    rw [ed t' a2] at a6
    exact h.2 t t' k k' x a1 a2 a3 a4 a5 a6
/-- one more lane -/
theorem qc_lanes {PUT : Option Nat → HS → (HS → Prop) → (String → HS → Prop) → Prop} {pt : List Nat → List Nat} {CND : List Nat → Prop}
    (hPUT : ∀ (b : CT) (I : Nat → Nat → Int32) (F : Nat → Nat → Option Nat) (E : Nat → Nat → Nat → Option Nat) (L : Nat → List Nat) (c : Nat) (Q Q' : HS → Prop), CB b → CH1 b I F E L → Is b 0 c → Is b 1 f → CND (L c) → (∀ q, q ∈ L c → Is b 1 q) → (L c).Nodup → (∀ c', Is b 0 c' → ix (I c' 0) = ix (I c 0) → f ∉ L c') → (∀ c', Is b 0 c' → c' ≠ c → ix (I c' 0) = ix (I c 0) → ∀ q, q ∈ L c → q ∉ L c') → (∀ F' E', PuE b c (ix (I c 0)) F F' E E' → (∀ q, q ≠ f → q ∉ L c → E' q = E q) → CH1 b I F' E' (va_up L c (pt (L c))) → Q (cS b I F' A E') → Q' (cS b I F' A E')) → PUT (some c) (cS b I F A E) Q X → PUT (some c) (cS b I F A E) Q' X')
    (hd : ∀ t : Nat, (t : Int) < tn.toInt → Is b 10 (d t)) (ht : (t : Int) < tn.toInt) (hco : I (d t) 1 = co t) (hc4 : (co t).toInt ≤ 4) (hf : Is b 1 f) (hfn : ∀ c, Is b 0 c → f ∉ L c) (hLm : ∀ c, Is b 0 c → (L c).Nodup ∧ ∀ q, q ∈ L c → Is b 1 q) (hdj : ∀ c c', Is b 0 c → Is b 0 c' → c ≠ c' → ix (I c 0) = ix (I c' 0) → ∀ q, q ∈ L c → q ∉ L c')
    (hcnd : ∀ c, Is b 0 c → ct c = t → I c 1 = A f 0 (ix (I c 0)) → CND (L c)) (hcn0 : (∀ k, k < 4 → E (d t) 3 k ≠ none → ∃ c, Is b 0 c ∧ ct c = t ∧ ix (I c 0) = k ∧ I c 1 = A f 0 k) ∨ CND [])
    (h3n : ∀ k, k < 4 → E (d t) 3 k ≠ none → (k : Int) < (co t).toInt) (hc0 : 0 ≤ (co t).toInt) (hpm : ∀ (M : List Nat) (q : Nat), q ∈ pt M → q = f ∨ q ∈ M) {b1 : CT} {I1 : Nat → Nat → Int32} {F1 : Nat → Nat → Option Nat} {E1 : Nat → Nat → Nat → Option Nat} {ct1 : Nat → Nat} {L1 : Nat → List Nat} (h0 : PlI f t pt A tn co d r b I F E ct L 0 b1 I1 F1 E1 ct1 L1)
    (hQ : ∀ b' I' F' E' ct' L', PlI f t pt A tn co d r b I F E ct L 4 b' I' F' E' ct' L' → Q (cS b' I' F' A E') → Q' (cS b' I' F' A E')) :
    wLoop (σ := Int32) (fun v7 x6 again4 => wGetI x6 10 1 (some (d t)) fun v8 => wIf (v8 ≤ v7) (Q x6) (wGetF x6 10 3 (some (d t)) fun v9 => wAldG x6 28 v9 v7 fun v10 => wJoin (κ := HS → Prop) (fun x12 => again4 (v7 + 1) x12) (fun j11 => wIf (v10 = none) (j11 x6) (wGetF x6 10 3 (some (d t)) fun v13 => wAldG x6 28 v13 v7 fun v14 => wRecv x6 4 v14 (w_X4_chainFor v14 (some f) x6 (fun v16 x15 => PUT v16 x15 (fun x17 => j11 x17) X) X))))) 0 (cS b1 I1 F1 A E1) →
    wLoop (σ := Int32) (fun v7 x6 again4 => wGetI x6 10 1 (some (d t)) fun v8 => wIf (v8 ≤ v7) (Q' x6) (wGetF x6 10 3 (some (d t)) fun v9 => wAldG x6 28 v9 v7 fun v10 => wJoin (κ := HS → Prop) (fun x12 => again4 (v7 + 1) x12) (fun j11 => wIf (v10 = none) (j11 x6) (wGetF x6 10 3 (some (d t)) fun v13 => wAldG x6 28 v13 v7 fun v14 => wRecv x6 4 v14 (w_X4_chainFor v14 (some f) x6 (fun v16 x15 => PUT v16 x15 (fun x17 => j11 x17) X') X'))))) 0 (cS b1 I1 F1 A E1) := by
  refine qc_loop (fun v b' I' F' A' E' => A' = A ∧ ∃ (m : Nat) (ct' : Nat → Nat) (L' : Nat → List Nat), v.toInt = (m : Int) ∧ (m : Int) ≤ (co t).toInt ∧ PlI f t pt A tn co d r b I F E ct L m b' I' F' E' ct' L') ⟨rfl, 0, ct1, L1, by decide, ?_, h0⟩ (fun v b' I' F' A' E' again again' ⟨eA, m, ct', L', m1, m2, hP⟩ ha => ?_)
  · show ((0 : Nat) : Int) ≤ (co t).toInt
    exact hc0
  · subst eA
    obtain ⟨hb', hFr, c1, c2, c3, hct, hold, hnew, hex, hfr⟩ := id hP
    have hdt' : Is b' 10 (d t) := hFr.1.1 10 _ (hd t ht)
    have eI : ∀ ci q, Is b ci q → I' q = I q := fun ci q hq => hFr.2.2.2.1 q hq.1
    have eE3 : E' (d t) 3 = E (d t) 3 := hFr.2.2.2.2.2 10 _ 3 (hd t ht) (fun z => absurd z.1 (by decide)) (fun z => absurd z.1 (by decide))
    have att : ∀ c, Is b 0 c → ct c = t → ix (I c 0) < 4 → E (d t) 3 (ix (I c 0)) ≠ none := fun c hc e hl => by
      have := (c2.1 c (hFr.1.1 _ _ hc)).2.2.2
      rw [eI 0 c hc, hct c hc, e, eE3] at this
      exact this hl
    refine qc_getI (fun _ => ?_)
    rw [eI 10 _ (hd t ht), hco]
    refine qv_if (fun z => ?_) (fun z => ?_)
    · simp only [i32] at z
      refine hQ b' I' F' E' ct' L' ⟨hb', hFr, c1, c2, c3, hct, fun c hc => ?_, fun c hc hn => ?_, fun k hk h4 hne => ?_, hfr⟩
      · rw [hold c hc]
        refine if_congr' ⟨fun w => ⟨w.1, w.2.imp id (fun y => ⟨by omega, y.2⟩)⟩, fun w => ⟨w.1, w.2.imp id (fun y => ⟨?_, y.2⟩)⟩⟩
        have := h3n _ y.1 (att c hc w.1 y.1)
        omega
      · obtain ⟨w1, w2, w3, w4, w5⟩ := hnew c hc hn
        exact ⟨w1, w2, by omega, w4, w5⟩
      · have := h3n k h4 hne
        exact hex k (by omega) h4 hne
    · simp only [i32] at z
      have hm4 : m < 4 := by omega
      refine qc_getA hb' (by decide) (fun _ => ?_)
      refine qc_aldG hb' hdt' (by decide) (by decide) (fun _ => ?_)
      rw [ix_of m1, eE3]
      dsimp only [wJoin]
      have n1 : (v + 1).toInt = ((m + 1 : Nat) : Int) := by rw [i_add m1 (show (1 : Int32).toInt = 1 by decide) (by omega)]; omega
      cases hx : E (d t) 3 m with
      | none =>
        refine qv_if (fun _ => ?_) (fun z => absurd rfl z)
        refine ha _ _ _ _ _ _ ⟨rfl, m + 1, ct', L', n1, by omega, hb', hFr, c1, c2, c3, hct, fun c hc => ?_, fun c hc hn => ?_, fun k hk h4 hne => ?_, hfr⟩
        · rw [hold c hc]
          refine if_congr' ⟨fun w => ⟨w.1, w.2.imp id (fun y => ⟨by omega, y.2⟩)⟩, fun w => ⟨w.1, w.2.imp id (fun y => ⟨?_, y.2⟩)⟩⟩
          refine Nat.lt_of_le_of_ne (by omega) (fun e => ?_)
          have := att c hc w.1 (by omega)
          rw [e] at this
          exact this hx
        · obtain ⟨w1, w2, w3, w4, w5⟩ := hnew c hc hn
          exact ⟨w1, w2, by omega, w4, w5⟩
        · exact hex k (Nat.lt_of_le_of_ne (by omega) (fun e => hne (by rw [e]; exact hx))) h4 hne
      | some x =>
        refine qv_if (fun z => absurd z (by simp)) (fun _ => ?_)
        refine qc_getA hb' (by decide) (fun _ => ?_)
        refine qc_aldG hb' hdt' (by decide) (by decide) (fun _ => ?_)
        rw [ix_of m1, eE3, hx]
        refine qc_recv (fun _ => ?_)
        have hm' : ∀ c, Is b' 0 c → ∀ q, q ∈ L' c → Is b' 1 q := fun c hc q hq => by
          by_cases ho : Is b 0 c
          · rw [hold c ho] at hq
            split at hq
            · rcases hpm _ _ hq with y | y
              · rw [y]; exact hFr.1.1 _ _ hf
              · exact hFr.1.1 _ _ ((hLm c ho).2 q y)
            · exact hFr.1.1 _ _ ((hLm c ho).2 q hq)
          · rw [(hnew c hc ho).1] at hq
            rcases hpm _ _ hq with y | y
            · rw [y]; exact hFr.1.1 _ _ hf
            · exact absurd y List.not_mem_nil
        refine qc_chainFor hb' c1 c2 c3 (fun t ht => hFr.1.1 _ _ (hd t ht)) ht hm4 (by rw [eE3]; exact hx) (hFr.1.1 _ _ hf) hm' (fun c b2 I2 F2 E2 ct2 L2 q1 q2 q3 q4 q5 q6 q7 q8 q9 q10 q11 q12 => ?_)
        have e2I : ∀ ci q, Is b' ci q → I2 q = I' q := fun ci q hq => q2.2.2.2.1 q hq.1
        -- a chain of this lane that stood before
        have old : ∀ c', Is b' 0 c' → ix (I2 c' 0) = m → Is b 0 c' ∧ L2 c' = L c' := fun c' hc' hl => by
          rw [e2I 0 c' hc'] at hl
          have hb0 : Is b 0 c' := Classical.byContradiction (fun w => by have := (hnew c' hc' w).2.2.1; omega)
          refine ⟨hb0, ?_⟩
          rw [(q10 c' hc').2, hold c' hb0, if_neg]
          rintro ⟨-, w⟩
          rw [eI 0 c' hb0] at hl
          omega
        have hLc : (Is b 0 c ∧ L2 c = L c) ∨ (¬ Is b 0 c ∧ ¬ Is b' 0 c ∧ L2 c = []) := by
          rcases q11 c q6 with w | ⟨-, w1, w2, -⟩
          · exact Or.inl (old c w q8)
          · exact Or.inr ⟨fun y => w1 (hFr.1.1 _ _ y), w1, w2⟩
        have oth : ∀ c', Is b2 0 c' → c' ≠ c → ix (I2 c' 0) = m → Is b 0 c' ∧ L2 c' = L c' := fun c' hc' hne hl => by
          rcases q11 c' hc' with w | w
          · exact old c' w hl
          · exact absurd w.1 hne
        have hfL : ∀ c', Is b2 0 c' → ix (I2 c' 0) = ix (I2 c 0) → f ∉ L2 c' := fun c' hc' hl => by
          rw [q8] at hl
          by_cases e : c' = c
          · subst e
            rcases hLc with w | w
            · rw [w.2]; exact hfn c' w.1
            · rw [w.2.2]; exact List.not_mem_nil
          · obtain ⟨w1, w2⟩ := oth c' hc' e hl
            rw [w2]; exact hfn c' w1
        refine hPUT b2 I2 F2 E2 L2 c _ _ q1 q3 q6 (q2.1.1 _ _ (hFr.1.1 _ _ hf)) ?_ (fun q hq => ?_) ?_ hfL (fun c' hc' hne hl q hq => ?_) (fun F3 E3 p1 p1' p2 => ?_)
        · rcases hLc with w | w
          · rw [w.2]
            refine hcnd c w.1 ?_ ?_
            · rw [← hct c w.1, ← (q10 c (hFr.1.1 _ _ w.1)).1]; exact q7
            · have e : I2 c = I c := (e2I 0 c (hFr.1.1 _ _ w.1)).trans (eI 0 c w.1)
              rw [e] at q8 q9
              rw [q8]; exact q9
          · rw [w.2.2]
            refine hcn0.resolve_left (fun y => ?_)
            obtain ⟨c0, y1, y2, y3, y4⟩ := y m hm4 (by rw [hx]; simp)
            rcases q11 c q6 with u | ⟨-, -, -, u⟩
            · exact w.2.1 u
            · exact u c0 (hFr.1.1 _ _ y1) (by rw [hct c0 y1]; exact y2) (by rw [eI 0 c0 y1]; exact y3) (by rw [eI 0 c0 y1]; exact y4)
        · rcases hLc with w | w
          · rw [w.2] at hq; exact q2.1.1 _ _ (hFr.1.1 _ _ ((hLm c w.1).2 q hq))
          · rw [w.2.2] at hq; exact absurd hq List.not_mem_nil
        · rcases hLc with w | w
          · rw [w.2]; exact (hLm c w.1).1
          · rw [w.2.2]; exact List.nodup_nil
        · rw [q8] at hl
          obtain ⟨w1, w2⟩ := oth c' hc' hne hl
          rw [w2]
          rcases hLc with w | w
          · rw [w.2] at hq
            refine hdj c c' w.1 w1 (fun y => hne y.symm) ?_ q hq
            have u1 := (e2I 0 c (hFr.1.1 _ _ w.1)).trans (eI 0 c w.1)
            have u2 := (e2I 0 c' (hFr.1.1 _ _ w1)).trans (eI 0 c' w1)
            rw [← u1, ← u2, q8, hl]
          · rw [w.2.2] at hq; exact absurd hq List.not_mem_nil
        · have hd2 : ∀ t : Nat, (t : Int) < tn.toInt → Is b2 10 (d t) := fun t ht => q2.1.1 _ _ (hFr.1.1 _ _ (hd t ht))
          have hFr3 : Fr b b2 I I2 F F3 E E3 := Fr_tr (Fr_tr hFr q2) (PuE_Fr q6 p1)
          have e3I : ∀ ci q, Is b ci q → I2 q = I q := fun ci q hq => hFr3.2.2.2.1 q hq.1
          refine ha _ _ _ _ _ _ ⟨rfl, m + 1, ct2, va_up L2 c (pt (L2 c)), n1, by omega, q1, hFr3, p2, CH2_Pu hd2 q4 p1, CH3_Pu hd2 q5 p1, fun q hq => ((q10 q (hFr.1.1 _ _ hq)).1).trans (hct q hq), fun q hq => ?_, fun q hq hn => ?_, fun k hk h4 hne => ?_, fun q hq hqn hqf => ?_⟩
          · by_cases e : q = c
            · subst e
              rcases hLc with w | w
              · have u := e3I 0 q hq
                have u7 : ct q = t := by rw [← hct q hq, ← (q10 q (hFr.1.1 _ _ hq)).1]; exact q7
                rw [va_up_self, w.2, if_pos]
                refine ⟨u7, Or.inr ⟨?_, ?_⟩⟩
                · rw [← u, q8]; omega
                · rw [← u, q8]; exact q9
              · exact absurd hq w.1
            · rw [va_up_ne _ _ e, (q10 q (hFr.1.1 _ _ hq)).2, hold q hq]
              refine if_congr' ⟨fun w => ⟨w.1, w.2.imp id (fun y => ⟨by omega, y.2⟩)⟩, fun w => ⟨w.1, w.2.imp id (fun y => ⟨?_, y.2⟩)⟩⟩
              refine Nat.lt_of_le_of_ne (by omega) (fun em => e ?_)
              refine q4.2 q c (q2.1.1 _ _ (hFr.1.1 _ _ hq)) q6 ?_ ?_ ?_
              · rw [(q10 q (hFr.1.1 _ _ hq)).1, hct q hq, w.1, q7]
              · rw [e3I 0 q hq, em, q8]
              · rw [e3I 0 q hq, y.2, em, q9]
          · by_cases e : q = c
            · subst e
              rcases hLc with w | w
              · exact absurd w.1 hn
              · rw [va_up_self, w.2.2]
                refine ⟨rfl, q7, by rw [q8]; omega, by rw [q8]; exact q9, fun c0 y1 y2 y3 => ?_⟩
                rcases q11 q q6 with u | ⟨-, -, -, u⟩
                · exact absurd u w.2.1
                · rw [q8] at y3 ⊢
                  have := u c0 (hFr.1.1 _ _ y1) (by rw [hct c0 y1]; exact y2) (by rw [eI 0 c0 y1]; exact y3)
                  rw [eI 0 c0 y1] at this; exact this
            · rcases q11 q hq with w | w
              · obtain ⟨w1, w2, w3, w4, w5⟩ := hnew q w hn
                rw [va_up_ne _ _ e, (q10 q w).2, (q10 q w).1, e2I 0 q w]
                exact ⟨w1, w2, by omega, w4, w5⟩
              · exact absurd w.1 e
          · by_cases e : k = m
            · subst e
              exact ⟨c, q6, q7, q8, q9⟩
            · obtain ⟨c0, y1, y2, y3, y4⟩ := hex k (by omega) h4 hne
              exact ⟨c0, q2.1.1 _ _ y1, by rw [(q10 c0 y1).1]; exact y2, by rw [e2I 0 c0 y1]; exact y3, by rw [e2I 0 c0 y1]; exact y4⟩
          · rw [p1' q hqf ?_, q12 q (hFr.1.1 _ _ hq), hfr q hq hqn hqf]
            rcases hLc with w | w
            · rw [w.2]; exact hqn c w.1
            · rw [w.2.2]; exact List.not_mem_nil
end VC1
