set_option linter.unusedVariables false
set_option linter.unusedSimpArgs false
/-! the class: add -/
section VQ1
variable {b b' : CT} {I I' : Nat → Nat → Int32} {F F' : Nat → Nat → Option Nat} {A A' : Nat → Nat → Nat → Int32} {E E' : Nat → Nat → Nat → Option Nat} {o n n' k f p w j ci q s h l N : Nat} {a : AS} {g : CGs} {cs : Nat → Int32} {d r ct fa : Nat → Nat} {x y : HS} {X X' : String → HS → Prop} {Q Q' : HS → Prop} {QI QI' : Int32 → HS → Prop} {QF QF' : Option Nat → HS → Prop}
theorem pt_ahead {t : Nat} {w : Int32} (hw : w ≠ 0) (hV : AV a) : ∀ (l : Nat) (v : Int32), (l = 4 ∨ l ≠ 4 ∧ cs l = v) → ptW w f ((rowL a t l v).map g.fa) = (rowL (comeA a t cs [] (a.rw t)) t l v).map (va_up g.fa a.nn f) := fun l v h => by
  obtain ⟨h1, h2⟩ := rowL_hit (g := g) (f := f) hV (L1 := []) (L2 := a.rw t) rfl h
  rw [h1, h2]
  unfold ptW
  rw [if_neg hw]
  by_cases h4 : l = 4 <;> simp [h4]
theorem pt_behind {t : Nat} (hV : AV a) : ∀ (l : Nat) (v : Int32), (l = 4 ∨ l ≠ 4 ∧ cs l = v) → ptW 0 f ((rowL a t l v).map g.fa) = (rowL (comeA a t cs (a.rw t) []) t l v).map (va_up g.fa a.nn f) := fun l v h => by
  obtain ⟨h1, h2⟩ := rowL_hit (g := g) (f := f) hV (L1 := a.rw t) (L2 := []) (List.append_nil _).symm h
  rw [h1, h2]
  unfold ptW
  rw [if_pos rfl]
  by_cases h4 : l = 4 <;> simp [h4]
theorem kc_add (hk : KC o (N + 1) a x) (hW : AVT a) (t h' : Int32) : w_X11_add (some o) t h' x (fun r u => OK_add a t h' 0 r ∧ KC o N (nx_add a t h') u) (fun E u => (E = eIA ∧ OK_add a t h' 1 0 ∨ E = eNE ∧ OK_add a t h' 2 0 ∨ E = eUO ∧ OK_add a t h' 3 0 ∨ E = eIS ∧ OK_add a t h' 4 0) ∧ KC o N (nx_add a t h') u) := by
  have h := kc1_add hk.1 t h'
  obtain ⟨g, b, I, F, A, E, rfl, hz, hx⟩ := hk.2
  have hV := hW.1
  have hb := hx.1
  have hs := hx.2.1
  have hO := hx.2.2.2.2.2.2.2.2.2
  have n0 : addCd a t h' ≠ 0 → nx_add a t h' = a := fun z => if_neg z
  have n1 : addCd a t h' = 0 → nx_add a t h' = addA a (ix t) h' := fun z => if_pos z
  revert h
  generalize nx_add a t h' = nx at n0 n1 ⊢
  unfold w_X11_add OK_add
  have e1 : (1 : Int32).toInt = 1 := by decide
  have e0 : (0 : Int32).toInt = 0 := by decide
  refine qc_range (fun c1 c2 => ?_) (fun c h => ?_)
  rotate_left
  · have e : addCd a t h' = 1 := if_neg (fun z => c (by rw [e0, e1]; exact z))
    rw [n0 (by rw [e]; decide)]
    exact ⟨Or.inl ⟨rfl, EX_bad e (by decide)⟩, h.2, CX_wC hz hx⟩
  rw [e0] at c1
  rw [e1] at c2
  have hh : 0 ≤ h'.toInt ∧ h'.toInt ≤ 1 := ⟨c1, c2⟩
  refine qc_recv (fun _ => ?_)
  refine qc_tableOf hx (fun c h => ?_) (fun ht => ?_)
  · have e : addCd a t h' = 2 := (if_pos hh).trans (if_neg c)
    rw [n0 (by rw [e]; decide)]
    exact ⟨Or.inr (Or.inl ⟨rfl, EX_bad e (by decide)⟩), h.2, CX_wC hz hx⟩
  have hti := tab_in ht
  have ecd : addCd a t h' = if breakB a (ix t) then 3 else if (allF a).length = 3000 then 4 else 0 := (if_pos hh).trans (if_pos ht)
  refine qc_getA hb (by decide) (fun _ => ?_)
  refine qc_recv (fun _ => ?_)
  refine qc_breaksKey hx hV hti ?_
  rcases Bool.eq_false_or_eq_true (breakB a (ix t)) with hbr | hbr
  · rw [if_pos hbr] at ecd
    rw [if_pos hbr]
    refine qv_if (fun z => absurd z (by decide)) (fun _ => ?_)
    refine qc_throw (fun h => ?_)
    rw [n0 (by rw [ecd]; decide)]
    exact ⟨Or.inr (Or.inr (Or.inl ⟨rfl, EX_bad ecd (by decide)⟩)), h.2, CX_wC hz hx⟩
  · have hbr' : ¬ breakB a (ix t) = true := by rw [hbr]; decide
    rw [if_neg hbr'] at ecd
    rw [if_neg hbr']
    refine qv_if (fun _ => ?_) (fun z => absurd rfl z)
    refine qc_getF hb (by decide) (fun _ => ?_)
    rw [hs.2.1]
    refine qc_getA hb (by decide) (fun _ => ?_)
    refine qc_recv (fun _ => ?_)
    refine qc_come hx hV (by have := hW.2; omega) hti hs.1 (by decide) (Or.inl rfl) (cs := addCs a (ix t)) (fun k hk => ?_) (fun hl => ?_) (fun hl f b1 I1 F1 A1 E1 hM hup _ _ => ?_)
    · unfold addCs
      rw [hO.1 k hk]
    · rw [if_pos hl] at ecd
      refine qv_if (fun _ => ?_) (fun z => absurd rfl z)
      refine qc_throw (fun h => ?_)
      rw [n0 (by rw [ecd]; decide)]
      exact ⟨Or.inr (Or.inr (Or.inr ⟨rfl, EX_bad ecd (by decide)⟩)), h.2, CX_wC hz hx⟩
    · rw [if_neg (by omega)] at ecd
      rw [n1 ecd]
      refine qv_if (fun z => absurd z (by simp)) (fun _ => ?_)
      dsimp only [wJoin]
      have hP := mid_PlP hM hV hti
      have fin : ∀ (L1 L2 : List Nat) (pt : List Nat → List Nat) (b' : CT) (I' : Nat → Nat → Int32) (F' : Nat → Nat → Option Nat) (E' : Nat → Nat → Nat → Option Nat) (ct' : Nat → Nat) (L' : Nat → List Nat), a.rw (ix t) = L1 ++ L2 → addA a (ix t) h' = comeA a (ix t) (addCs a (ix t)) L1 L2 → PlI f (ix t) pt A1 a.tn a.co g.d g.r b1 I1 F1 E1 g.ct (fun c => (rowL a (g.ct c) (ix (I1 c 0)) (I1 c 1)).map g.fa) 4 b' I' F' E' ct' L' → (∀ (l : Nat) (v : Int32), (l = 4 ∨ l ≠ 4 ∧ addCs a (ix t) l = v) → pt ((rowL a (ix t) l v).map g.fa) = (rowL (comeA a (ix t) (addCs a (ix t)) L1 L2) (ix t) l v).map (va_up g.fa a.nn f)) →
          (wGetI (cS b' I' F' A1 E') 1 4 (some f) fun v17 => OK1_add a.1 t h' 0 v17 ∧ KC1 o N (nx1_add a.1 t h') (cS b' I' F' A1 E')) → (wGetI (cS b' I' F' A1 E') 1 4 (some f) fun v17 => EX (addCd a t h') (num a.nn) 0 v17 ∧ KC o N (addA a (ix t) h') (cS b' I' F' A1 E')) := fun L1 L2 pt b' I' F' E' ct' L' eL eA hP' hpt => by
        have hX := come_fin hM hV hti (by have := hW.2; omega) eL hP' hpt
        have gg := comeA_f a (ix t) (addCs a (ix t)) L1 L2
        refine qc_getI (fun _ h => ?_)
        have hm : a.nn ∈ (comeA a (ix t) (addCs a (ix t)) L1 L2).rw (ix t) := by
          rw [gg.2.2.1, va_up_self]; exact List.mem_append_right _ List.mem_cons_self
        have h4 := num_fa (hX.2.2.2.1 (ix t) a.nn hm)
        have efa : (g.wfa (va_up g.fa a.nn f) ct').fa a.nn = f := va_up_self _ _ _
        rw [efa] at h4
        rw [eA]
        refine ⟨EX_ok ecd h4, ?_, g.wfa (va_up g.fa a.nn f) ct', _, _, _, _, _, rfl, hz, hX⟩
        rw [gg.1]; exact h.2
      refine qv_if (fun z => ?_) (fun z => ?_)
      · have eh : h'.toInt = 1 := by rw [z]; decide
        refine qc_recv (fun _ => ?_)
        refine qc_place hP (fun b' I' F' E' ct' L' hP' => fin [] (a.rw (ix t)) _ b' I' F' E' ct' L' rfl ?_ hP' (pt_ahead (by decide) hV))
        unfold addA comeA; rw [if_pos eh]; rfl
      · have eh : ¬ h'.toInt = 1 := fun y => z (i_ext (by rw [y]; decide))
        refine qc_recv (fun _ => ?_)
        refine qc_place hP (fun b' I' F' E' ct' L' hP' => fin (a.rw (ix t)) [] _ b' I' F' E' ct' L' (List.append_nil _).symm ?_ hP' (pt_behind hV))
        unfold addA comeA; rw [if_neg eh]
end VQ1
