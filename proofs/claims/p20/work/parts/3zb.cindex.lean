set_option linter.unusedVariables false
set_option linter.unusedSimpArgs false
/-! the class: chains of an index that is being made -/
section VZB
variable {b : CT} {I : Nat → Nat → Int32} {F : Nat → Nat → Option Nat} {A : Nat → Nat → Nat → Int32} {E : Nat → Nat → Nat → Option Nat} {o t n n' k f c p x : Nat} {tn : Int32} {co : Nat → Int32} {d r ct : Nat → Nat} {L : Nat → List Nat} {X X' : String → HS → Prop} {Q Q' : HS → Prop} {QI QI' : Int32 → HS → Prop} {QF QF' : Option Nat → HS → Prop}
theorem qc_chainForV {Ev : Nat → Nat → Nat → Option Nat} (hEv : ∀ y j, j ≠ 3 → Ev y j = E y j) (hb : CB b) (h1 : CH1 b I F E L) (h2 : CH2 b tn d r ct I Ev) (h3 : CH3 b tn co d ct I F Ev) (hd : ∀ t : Nat, (t : Int) < tn.toInt → Is b 10 (d t)) (ht : (t : Int) < tn.toInt) (hk : k < 4) (hx : Ev (d t) 3 k = some x) (hf : Is b 1 f) (hLf : ∀ c, Is b 0 c → ∀ q, q ∈ L c → Is b 1 q)
    (hQ : ∀ c b' I' F' E' Ev' ct' L', (∀ y j, j ≠ 3 → Ev' y j = E' y j) → (∀ y, Ev' y 3 = Ev y 3 ∧ E' y 3 = E y 3) → CB b' → Fr b b' I I' F F' E E' → CH1 b' I' F' E' L' → CH2 b' tn d r ct' I' Ev' → CH3 b' tn co d ct' I' F' Ev' → Is b' 0 c → ct' c = t → ix (I' c 0) = k → I' c 1 = A f 0 k → (∀ q, Is b 0 q → ct' q = ct q ∧ L' q = L q) → (∀ q, Is b' 0 q → Is b 0 q ∨ q = c ∧ ¬ Is b 0 c ∧ L' c = [] ∧ ∀ c0, Is b 0 c0 → ct c0 = t → ix (I c0 0) = k → I c0 1 ≠ A f 0 k) → (∀ q, Is b 1 q → E' q = E q) → QF (some c) (cS b' I' F' A E') → QF' (some c) (cS b' I' F' A E')) : w_X4_chainFor (some x) (some f) (cS b I F A E) QF X → w_X4_chainFor (some x) (some f) (cS b I F A E) QF' X' := by
  obtain ⟨x1, x2, x3, x4⟩ := h3.1 t k x ht hk hx
  have hix : ix (I x 0) = k := ix_of x2
  unfold w_X4_chainFor
  refine qc_getA hb (by decide) (fun _ => ?_)
  refine qc_getI (fun _ => ?_)
  refine qc_ald hb hf (by decide) (by decide) (fun _ => ?_)
  rw [hix]
  generalize hv : A f 0 k = v at hQ ⊢
  have hi64 : ix (v &&& 63) < 64 := ix_lt (and63 v)
  refine qc_recv (fun _ => ?_)
  have hB : Bkt b t k x (ix (v &&& 63)) ct I F E := by
    have := x4 _ hi64
    unfold Bkt at this ⊢
    rw [hEv x 1 (by decide)] at this
    exact this
  refine qc_chainWith hb x1 hB (fun hno => ?_) (fun c c1 c2 c3 c4 => ?_)
  · dsimp only [wJoin]
    refine qv_if (fun _ => ?_) (fun z => absurd rfl z)
    refine qc_new hb.1 (fun q hq => ?_)
    have hb1 : CB (bnew b q 0 5) := bnew_CB hb hq no_own0
    have hIs : ∀ c a, Is (bnew b q 0 5) c a ↔ Is b c a ∨ a = q ∧ c = 0 := bnew_Is hq
    have hxq : x ≠ q := fun z => hq (by rw [← z]; exact x1.1)
    have hx' : Is (bnew b q 0 5) 4 x := (hIs 4 x).mpr (Or.inl x1)
    have hqI : Is (bnew b q 0 5) 0 q := (hIs 0 q).mpr (Or.inr ⟨rfl, rfl⟩)
    refine qc_getI (fun _ => ?_)
    rw [va_up_ne _ _ hxq]
    refine qc_getA hb1 (by decide) (fun _ => ?_)
    refine qc_aldG hb1 hx' (by decide) (by decide) (fun _ => ?_)
    unfold w_X0_init
    refine q_ref ?_
    refine qc_putI (fun _ => ?_)
    refine qc_putI (fun _ => ?_)
    refine qc_putF hb1 (by decide) (fun _ => ?_)
    refine qc_getA hb1 (by decide) (fun _ => ?_)
    refine qc_astG hb1 hx' (by decide) (by decide) (fun _ _ => ?_)
    have ne : ∀ c a, Is b c a → a ≠ q := fun c a ha z => hq (by rw [← z]; exact ha.1)
    have eI : ∀ a, a ≠ q → up2 (up2 (va_up I q fun _ => 0) q 0 (I x 0)) q 1 v a = I a := fun a ha => by
      funext j
      exact (if_neg (fun z => ha z.1)).trans ((if_neg (fun z => ha z.1)).trans (by rw [va_up_ne _ _ ha]))
    have eF : ∀ a j, a ≠ q → up2 (va_up F q fun _ => none) q 2 (E x 1 (ix (v &&& 63))) a j = F a j := fun a j ha => (if_neg (fun z => ha z.1)).trans (by rw [va_up_ne _ _ ha])
    have eq0 : up2 (up2 (va_up I q fun _ => 0) q 0 (I x 0)) q 1 v q 0 = I x 0 := (if_neg (fun z => absurd z.2 (by decide))).trans (up2_self _ _ _ _)
    have eq1 : up2 (up2 (va_up I q fun _ => 0) q 0 (I x 0)) q 1 v q 1 = v := up2_self _ _ _ _
    have eq2 : up2 (va_up F q fun _ => none) q 2 (E x 1 (ix (v &&& 63))) q 2 = E x 1 (ix (v &&& 63)) := up2_self _ _ _ _
    have eq3 : up2 (va_up F q fun _ => none) q 2 (E x 1 (ix (v &&& 63))) q 3 = none := (if_neg (fun z => absurd z.2 (by decide))).trans (by rw [va_up_self])
    have eq4 : up2 (va_up F q fun _ => none) q 2 (E x 1 (ix (v &&& 63))) q 4 = none := (if_neg (fun z => absurd z.2 (by decide))).trans (by rw [va_up_self])
    have eE : ∀ a j i, ¬ (a = x ∧ j = 1 ∧ i = ix (v &&& 63)) → up3 E x 1 (ix (v &&& 63)) (some q) a j i = E a j i := fun a j i ha => if_neg ha
    have eEx : up3 E x 1 (ix (v &&& 63)) (some q) x 1 (ix (v &&& 63)) = some q := if_pos ⟨rfl, rfl, rfl⟩
    generalize up2 (up2 (va_up I q fun _ => 0) q 0 (I x 0)) q 1 v = I' at eI eq0 eq1 ⊢
    generalize up2 (va_up F q fun _ => none) q 2 (E x 1 (ix (v &&& 63))) = F' at eF eq2 eq3 eq4 ⊢
    have vE : ∀ y j, j ≠ 3 → up3 Ev x 1 (ix (v &&& 63)) (some q) y j = up3 E x 1 (ix (v &&& 63)) (some q) y j := fun y j hj => by
      funext i
      unfold up3
      rw [hEv y j hj]
    have v3 : ∀ y, up3 Ev x 1 (ix (v &&& 63)) (some q) y 3 = Ev y 3 ∧ up3 E x 1 (ix (v &&& 63)) (some q) y 3 = E y 3 := fun y => ⟨up3_ne (fun z => absurd z.2 (by decide)), up3_ne (fun z => absurd z.2 (by decide))⟩
    have eV : ∀ a j i, ¬ (a = x ∧ j = 1 ∧ i = ix (v &&& 63)) → up3 Ev x 1 (ix (v &&& 63)) (some q) a j i = Ev a j i := fun a j i ha => if_neg ha
    have eVx : up3 Ev x 1 (ix (v &&& 63)) (some q) x 1 (ix (v &&& 63)) = some q := if_pos ⟨rfl, rfl, rfl⟩
    generalize up3 Ev x 1 (ix (v &&& 63)) (some q) = Ev' at vE v3 eV eVx ⊢
    generalize up3 E x 1 (ix (v &&& 63)) (some q) = E' at eE eEx vE v3 ⊢
    have eEd : ∀ t : Nat, (t : Int) < tn.toInt → Ev' (d t) 3 = Ev (d t) 3 := fun t' ht' => funext fun i => eV _ _ _ (fun z => absurd z.2.1 (by decide))
    have e1f : ∀ q', Is b 1 q' → E' q' = E q' := fun q' hq' => funext fun j => funext fun i => eE _ _ _ (fun z => Is_ne hq' x1 (by decide) z.1)
    refine hQ q _ I' F' E' Ev' (va_up ct q t) (va_up L q []) vE v3 hb1 ⟨bnew_Xt hq, rfl, fun ci a' h => ((hIs ci a').mp h).imp id (fun z => ⟨z.2, by rw [z.1]; exact hq⟩), fun a' ha' => eI a' (fun z => hq (by rw [← z]; exact ha')), fun c' a' j' ha' _ => eF a' j' (ne _ _ ha'), fun c' a' j' ha' z1 _ => funext fun i => eE a' j' i (fun z => z1 ⟨by rw [← ha'.2, z.1]; exact x1.2, z.2.1⟩)⟩ ?_ ?_ ?_ hqI (va_up_self _ _ _) (by rw [eq0]; exact hix) eq1 (fun q' hq' => ⟨va_up_ne _ _ (ne _ _ hq'), va_up_ne _ _ (ne _ _ hq')⟩) (fun q' hq' => ((hIs 0 q').mp hq').imp id (fun z => ⟨z.1, fun y => ne _ _ y rfl, va_up_self _ _ _, hno⟩)) e1f
    · intro c' hc'
      rcases (hIs 0 c').mp hc' with z | ⟨z, -⟩
      · have hne := ne _ _ z
        obtain ⟨y1, y2⟩ := h1 c' z
        rw [va_up_ne _ _ hne, eI c' hne]
        refine ⟨?_, by rw [eF c' 4 hne]; exact y2⟩
        rw [eF c' 3 hne]
        exact LnO_congr (fun q' hq' => by rw [e1f q' (hLf c' z q' hq')]) y1
      · subst z
        rw [va_up_self]
        exact ⟨eq3, eq4⟩
    · refine ⟨fun c' hc' => ?_, fun c1 c2 m1 m2 e1 e2 e3 => ?_⟩
      · rcases (hIs 0 c').mp hc' with z | ⟨z, -⟩
        · have hne := ne _ _ z
          obtain ⟨y1, y2, y3, y4⟩ := h2.1 c' z
          rw [va_up_ne _ _ hne, eI c' hne]
          exact ⟨y1, y2, y3, fun w => by rw [eEd _ y1]; exact y4 w⟩
        · subst z
          rw [va_up_self, eq0, hix]
          refine ⟨ht, ⟨by omega, by omega⟩, fun z => by omega, fun _ => ?_⟩
          rw [eEd t ht, hx]; simp
      · rcases (hIs 0 c1).mp m1 with z1 | ⟨z1, -⟩
        · rcases (hIs 0 c2).mp m2 with z2 | ⟨z2, -⟩
          · rw [va_up_ne _ _ (ne _ _ z1), va_up_ne _ _ (ne _ _ z2)] at e1
            rw [eI _ (ne _ _ z1), eI _ (ne _ _ z2)] at e2 e3
            exact h2.2 c1 c2 z1 z2 e1 e2 e3
          · subst z2
            rw [va_up_ne _ _ (ne _ _ z1), va_up_self] at e1
            rw [eI _ (ne _ _ z1)] at e2 e3
            rw [eq0, hix] at e2
            rw [eq1] at e3
            exact absurd e3 (hno c1 z1 e1 e2)
        · subst z1
          rcases (hIs 0 c2).mp m2 with z2 | ⟨z2, -⟩
          · rw [va_up_ne _ _ (ne _ _ z2), va_up_self] at e1
            rw [eI _ (ne _ _ z2)] at e2 e3
            rw [eq0, hix] at e2
            rw [eq1] at e3
            exact absurd e3.symm (hno c2 z2 e1.symm e2.symm)
          · exact z2.symm
    · refine ⟨fun t' k' x' ht' hk' hx'' => ?_, fun t1 t2 k1 k2 x' a1 a2 a3 a4 a5 a6 => ?_⟩
      · rw [eEd t' ht'] at hx''
        obtain ⟨y1, y2, y3, y4⟩ := h3.1 t' k' x' ht' hk' hx''
        have hne := ne _ _ y1
        rw [eI x' hne]
        refine ⟨(hIs 4 x').mpr (Or.inl y1), y2, y3, fun i hi => ?_⟩
        obtain ⟨C, hC, hm⟩ := y4 i hi
        have old : ∀ c', c' ∈ C → c' ≠ q := fun c' hc' => ne _ _ ((hm c').mp hc').1
        by_cases e : x' = x ∧ i = ix (v &&& 63)
        · obtain ⟨rfl, rfl⟩ := e
          have et : t' = t := h3.2 t' t k' k x' ht' ht hk' hk hx'' hx
          subst et
          have ek : k' = k := by omega
          subst ek
          refine ⟨q :: C, ⟨eVx, ?_⟩, fun c' => ?_⟩
          · show LnO (fun c => F' c 2) (F' q 2) C
            rw [eq2, ← hEv x' 1 (by decide)]
            exact LnO_congr (fun c' hc' => eF c' 2 (old c' hc')) hC
          · rw [List.mem_cons, hIs 0 c', hm c']
            constructor
            · rintro (z | ⟨z1, z2, z3, z4⟩)
              · subst z
                rw [va_up_self, eq0, eq1]
                exact ⟨Or.inr ⟨rfl, rfl⟩, rfl, hix, rfl⟩
              · rw [va_up_ne _ _ (ne _ _ z1), eI _ (ne _ _ z1)]
                exact ⟨Or.inl z1, z2, z3, z4⟩
            · rintro ⟨z1 | z1, z2, z3, z4⟩
              · rw [va_up_ne _ _ (ne _ _ z1)] at z2
                rw [eI _ (ne _ _ z1)] at z3 z4
                exact Or.inr ⟨z1, z2, z3, z4⟩
              · exact Or.inl z1.1
        · refine ⟨C, ?_, fun c' => ?_⟩
          · rw [eV x' 1 i (fun z => e ⟨z.1, z.2.2⟩)]
            exact LnO_congr (fun c' hc' => eF c' 2 (old c' hc')) hC
          · rw [hm c', hIs 0 c']
            constructor
            · rintro ⟨z1, z2, z3, z4⟩
              rw [va_up_ne _ _ (ne _ _ z1), eI _ (ne _ _ z1)]
              exact ⟨Or.inl z1, z2, z3, z4⟩
            · rintro ⟨z1 | z1, z2, z3, z4⟩
              · rw [va_up_ne _ _ (ne _ _ z1)] at z2
                rw [eI _ (ne _ _ z1)] at z3 z4
                exact ⟨z1, z2, z3, z4⟩
              · exfalso
                obtain ⟨rfl, -⟩ := z1
                rw [va_up_self] at z2
                rw [eq0] at z3
                rw [eq1] at z4
                subst z2
                have ek : k' = k := by omega
                subst ek
                rw [hx] at hx''
                cases hx''
                exact e ⟨rfl, z4.symm⟩
      · rw [eEd t1 a1] at a5
        rw [eEd t2 a2] at a6
        exact h3.2 t1 t2 k1 k2 x' a1 a2 a3 a4 a5 a6
  · dsimp only [wJoin]
    refine qv_if (fun z => absurd z (by simp)) (fun _ => ?_)
    exact hQ c b I F E Ev ct L hEv (fun _ => ⟨rfl, rfl⟩) hb Fr_rf h1 h2 h3 c1 c2 c3 c4 (fun _ _ => ⟨rfl, rfl⟩) (fun _ h => Or.inl h) (fun _ _ => rfl)
end VZB
