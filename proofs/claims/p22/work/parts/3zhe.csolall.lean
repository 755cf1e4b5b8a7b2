set_option linter.unusedVariables false
set_option linter.unusedSimpArgs false
/-! the class: all goals are solved -/
section HE1
variable {b : CT} {I I' : Nat → Nat → Int32} {F F' : Nat → Nat → Option Nat} {A A' : Nat → Nat → Nat → Int32} {E : Nat → Nat → Nat → Option Nat} {o v r lt sp : Nat} {lv gl : Nat → Nat} {T : Int32} {Gs : List QG} {a : AS} {g : CGs} {kf : Nat → Bool} {R : SQ} {X X' : String → HS → Prop} {QI QI' : Int32 → HS → Prop}
theorem qs_solveAll (hV : AV a) (hx : CXx o a g b I F A E) (i3 : Is b 8 v) (i2 : Is b 6 r) (i4 : Is b 7 lt) (i5 : Is b 7 sp) (f3 : F v 0 = some lt) (f4 : F v 2 = some sp) (f5 : lt ≠ sp) (hlv : ∀ i, i < 10 → E v 3 i = some (lv i) ∧ Is b 5 (lv i)) (hli : ∀ i j, i < 10 → j < 10 → lv i = lv j → i = j) (hgl : ∀ i, i < 10 → E r 0 i = some (gl i) ∧ Is b 2 (gl i)) (hn : (I r 1).toInt = (Gs.length : Int)) (hn10 : Gs.length ≤ 10) (hgo : ∀ i G, Gs[i]? = some G → GoC (gl i) g.d G I F A) (hix : ∀ t, inT a t → ∀ k, k < 4 → (E (g.d t) 3 k ≠ none ↔ a.ix t k = true)) (hkn : KnR (I r 2) kf) (hch : KnCh a.tn a.co kf Gs (fun _ => false)) (hR : R = solA a T.toInt Gs (fun _ => 0) (0, 0, fun _ _ => 0))
    (h : ∀ I' F' A', R.1 ≤ mostL → (∀ z, z ≠ v → z ≠ sp → (∀ i, i < 10 → z ≠ lv i) → I' z = I z ∧ F' z = F z ∧ A' z = A z) → F' v 0 = some sp → F' v 2 = some lt → KpC sp kf R I' A' → KnR (I' sp 1) kf → QI (I' sp 2) (cS b I' F' A' E) → QI' (I' sp 2) (cS b I' F' A' E))
    (hX : ∀ I' F' A', mostL < R.1 → (∀ z, z ≠ v → z ≠ sp → (∀ i, i < 10 → z ≠ lv i) → I' z = I z ∧ F' z = F z ∧ A' z = A z) → F' v 0 = some lt → F' v 2 = some sp → X eAE (cS (b.B.wC (b.B.c - 1) (b.B.z - 6), b.2) I' F' A' E) → X' eAE (cS (b.B.wC (b.B.c - 1) (b.B.z - 6), b.2) I' F' A' E)) : w_X8_solveAll (some v) (some r) T (cS b I F A E) QI X → w_X8_solveAll (some v) (some r) T (cS b I F A E) QI' X' := by
  have hb := hx.1
  have hs := hx.2.1
  have hrv : r ≠ v := Is_ne i2 i3 (by decide)
  have hsv : sp ≠ v := Is_ne i5 i3 (by decide)
  have hrs : r ≠ sp := Is_ne i2 i5 (by decide)
  unfold w_X8_solveAll
  refine qc_putF hb (by decide) (fun _ => ?_)
  have e6 : up2 F v 6 (some r) v 6 = some r := up2_self _ _ _ _
  have e2 : up2 F v 6 (some r) v 2 = some sp := by rw [up2_k _ _ _ _ (by decide)]; exact f4
  have e0 : up2 F v 6 (some r) v 0 = some lt := by rw [up2_k _ _ _ _ (by decide)]; exact f3
  have ez : ∀ z, z ≠ v → up2 F v 6 (some r) z = F z := fun z hz => up2_row _ _ _ hz
  generalize up2 F v 6 (some r) = F3 at e6 e2 e0 ez ⊢
  refine qc_putI (fun _ => qc_putI (fun _ => ?_))
  refine qc_getF hb (by decide) (fun _ => ?_)
  rw [e2]
  refine qc_getI (fun _ => qc_putI (fun _ => ?_))
  refine qc_getF hb (by decide) (fun _ => ?_)
  rw [e2]
  refine qc_putI (fun _ => ?_)
  have j0 : (up2 (up2 I v 7 T) v 1 0) r 2 = I r 2 := by rw [up2_row _ _ _ hrv, up2_row _ _ _ hrv]
  rw [j0]
  have k7 : (up2 (up2 (up2 (up2 I v 7 T) v 1 0) sp 1 (I r 2)) sp 2 0) v 7 = T := by rw [up2_row _ _ _ (Ne.symm hsv), up2_row _ _ _ (Ne.symm hsv), up2_k _ _ _ _ (by decide), up2_self]
  have k1 : (up2 (up2 (up2 (up2 I v 7 T) v 1 0) sp 1 (I r 2)) sp 2 0) v 1 = 0 := by rw [up2_row _ _ _ (Ne.symm hsv), up2_row _ _ _ (Ne.symm hsv), up2_self]
  have ks1 : (up2 (up2 (up2 (up2 I v 7 T) v 1 0) sp 1 (I r 2)) sp 2 0) sp 1 = I r 2 := by rw [up2_k _ _ _ _ (by decide), up2_self]
  have ks2 : (up2 (up2 (up2 (up2 I v 7 T) v 1 0) sp 1 (I r 2)) sp 2 0) sp 2 = 0 := up2_self _ _ _ _
  have kz : ∀ z, z ≠ v → z ≠ sp → (up2 (up2 (up2 (up2 I v 7 T) v 1 0) sp 1 (I r 2)) sp 2 0) z = I z := fun z h1 h2 => by rw [up2_row _ _ _ h2, up2_row _ _ _ h2, up2_row _ _ _ h1, up2_row _ _ _ h1]
  generalize up2 (up2 (up2 (up2 I v 7 T) v 1 0) sp 1 (I r 2)) sp 2 0 = I3 at k7 k1 ks1 ks2 kz ⊢
  have hx3 : CXx o a g b I3 F3 A E := CXx_svf hx (fun ci z hz => by
    by_cases c7 : ci = 7
    · exact Or.inl (Or.inl c7)
    by_cases c8 : ci = 8
    · exact Or.inl (Or.inr (Or.inl c8))
    · exact Or.inr ⟨kz z (Is_ne hz i3 c8) (Is_ne hz i5 c7), ez z (Is_ne hz i3 c8), rfl⟩)
  have hS : SVh o a g b v r sp lv gl T Gs I3 F3 A E := ⟨hx3, ⟨i3, i2, i5⟩, ⟨e6, e2, k7⟩, hlv, hli, hgl, ⟨by rw [kz r hrv hrs]; exact hn, hn10⟩, fun i G hG => by
    have hi : i < 10 := by have := (List.getElem?_eq_some_iff.mp hG).1; omega
    have hz := (hgl i hi).2
    exact GoC_congr (hgo i G hG) (kz _ (Is_ne hz i3 (by decide)) (Is_ne hz i5 (by decide))) (ez _ (Is_ne hz i3 (by decide))) rfl, hix⟩
  have hle : Gs.length < 12 := by omega
  refine qc_recv (fun _ => ?_)
  refine qs_solve hV Gs 12 [] (fun _ => 0) (0, 0, fun _ _ => 0) (fun _ => false) 0 I3 F3 A _ _ _ _ hle rfl (show (0 : Int32).toInt = ((0 : Nat) : Int) by decide) hS hch (fun j hj z => (by cases z)) k1 (Nat.zero_le _) (Nat.le_refl _) ⟨by rw [ks2]; show (0 : Int32).toInt = ((0 : Nat) : Int); decide, fun i k hi => absurd hi (Nat.not_lt_zero _)⟩ (fun I4 F4 A4 hr4 kp hle4 h14 hK => ?_) (fun I4 F4 A4 hov hr4 => ?_)
  · have fr4 : ∀ z, z ≠ v → z ≠ sp → (∀ i, i < 10 → z ≠ lv i) → I4 z = I z ∧ F4 z = F z ∧ A4 z = A z := fun z h1 h2 h3 => by
      obtain ⟨y1, y2, y3⟩ := hr4.1 z h1 h2 (fun i _ hi => h3 i hi)
      exact ⟨y1.trans (kz z h1 h2), y2.trans (ez z h1), y3⟩
    have w2 : F4 v 2 = some sp := by rw [hr4.2.1.1]; exact e2
    have w0 : F4 v 0 = some lt := by rw [hr4.2.1.1]; exact e0
    refine qc_getF hb (by decide) (fun _ => ?_)
    rw [w2]
    refine qc_getF hb (by decide) (fun _ => ?_)
    rw [w0]
    refine qc_putF hb (by decide) (fun _ => qc_putF hb (by decide) (fun _ => qc_getI (fun _ => ?_)))
    refine h I4 _ A4 (by rw [hR]; exact hle4) (fun z h1 h2 h3 => ?_) (up2_self _ _ _ _) (by rw [up2_k _ _ _ _ (by decide), up2_self]) (by rw [hR]; exact hK) ?_
    · obtain ⟨y1, y2, y3⟩ := fr4 z h1 h2 h3
      exact ⟨y1, by rw [up2_row _ _ _ h1, up2_row _ _ _ h1]; exact y2, y3⟩
    · rw [hr4.2.2.2 1 (by decide), ks1]; exact hkn
  · refine hX I4 F4 A4 (by rw [hR]; exact hov) (fun z h1 h2 h3 => ?_) (by rw [hr4.2.1.1]; exact e0) (by rw [hr4.2.1.1]; exact e2)
    obtain ⟨y1, y2, y3⟩ := hr4.1 z h1 h2 (fun i _ hi => h3 i hi)
    exact ⟨y1.trans (kz z h1 h2), y2.trans (ez z h1), y3⟩
end HE1
