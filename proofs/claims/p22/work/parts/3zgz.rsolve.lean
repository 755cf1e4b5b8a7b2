set_option linter.unusedVariables false
set_option linter.unusedSimpArgs false
/-! the reference: solving -/
/-- what is pending: a goal that was passed, its variables, what is left of its row -/
abbrev Pd : Type := QG × (Nat → Int32) × List Nat
def retQ (a : AS) (T : Int) : List Pd → List QG → SQ → SQ
  | [], _, s => s
  | f :: st, Gs, s => retQ a T st (f.1 :: Gs) (if f.1.kd = 0 then foldQ a T f.1 f.2.1 (fun x s => solA a T Gs (bindE a f.2.1 f.1 x) s) f.2.2 s else s)
def StOk (a : AS) (sl : Nat → Nat) (ar : Nat → Nat → Int32) : List Pd → Prop
  | [] => True
  | f :: st => (f.1.kd = 0 → ∃ x, (ar 51 st.length).toInt = (sl x : Int) ∧ ∃ P, a.rw f.1.tb = P ++ x :: f.2.2) ∧ EnvM f.1.kn f.2.1 ar ∧ (∀ p, p ∈ st → ∀ j, p.1.kn j = true → f.1.kn j = true) ∧ StOk a sl ar st
def pdG (st : List Pd) : List QG := (st.map fun f => f.1).reverse
/-- the new solutions -/
def KpM (kf : Nat → Bool) (s : SQ) (ar : Nat → Nat → Int32) : Prop := ∀ i k, i < s.2.1 → i < 100 → k < 8 → kf k = true → ar 54 (8 * i + k) = s.2.2 i k
section SZ1
variable {b : MT} {fi fi' fi'' : Nat → Int32} {ar ar' ar'' : Nat → Nat → Int32} {a : AS} {sl : Nat → Nat} {Ga Gs : List QG} {G : QG} {env : Nat → Int32} {kn kf : Nat → Bool} {tn : Int32} {co : Nat → Int32} {t n l g i k : Nat} {s : SQ} {T : Int} {X X' : String → HS → Prop} {Q Q' : HS → Prop} {QI QI' : Int32 → HS → Prop}
theorem retQ_le : ∀ (st : List Pd) (Gs : List QG) (s : SQ), s.1 ≤ (retQ a T st Gs s).1
  | [], _, s => Nat.le_refl _
  | f :: st, Gs, s => by
      refine Nat.le_trans ?_ (retQ_le st (f.1 :: Gs) _)
      split
      · exact foldQ_le (fun x s => solA_le Gs _ s) _ s
      · exact Nat.le_refl _
theorem StOk_cg : ∀ {st : List Pd}, StOk a sl ar st → (∀ i, i < st.length → ar' 51 i = ar 51 i) → (∀ p, p ∈ st → ∀ j, j < 8 → p.1.kn j = true → ar' 50 j = ar 50 j) → StOk a sl ar' st
  | [], _, _, _ => trivial
  | f :: st, h, h1, h2 => by
      obtain ⟨g1, g2, g3, g4⟩ := h
      refine ⟨fun z => ?_, fun j hj hkj => (h2 f List.mem_cons_self j hj hkj).trans (g2 j hj hkj), g3, StOk_cg g4 (fun i hi => h1 i (by rw [List.length_cons]; omega)) (fun p hp => h2 p (List.mem_cons_of_mem _ hp))⟩
      rw [h1 st.length (by rw [List.length_cons]; omega)]
      exact g1 z
theorem pdG_len {st : List Pd} : (pdG st).length = st.length := by unfold pdG; rw [List.length_reverse, List.length_map]
theorem pdG_cons {st : List Pd} {f : Pd} : pdG (f :: st) = pdG st ++ [f.1] := by unfold pdG; rw [List.map_cons, List.reverse_cons]
theorem KnCh_at : ∀ {P : List QG} {kn : Nat → Bool}, KnCh tn co kf (P ++ G :: Gs) kn → WfG tn co G ∧ KnCh tn co kf Gs (aftK G)
  | [], _, h => ⟨h.1, h.2.2⟩
  | _ :: P, _, h => KnCh_at (P := P) h.2.2
theorem aftK_mono {j : Nat} (h : G.kn j = true) : aftK G j = true := by
  unfold aftK
  split
  · unfold mkKn; rw [h]; rfl
  · split
    · unfold va_up
      split
      · rfl
      · exact h
    · exact h
/-- how a solving ends -/
def SlO (kf : Nat → Bool) (R : SQ) (r : Int32) (fi : Nat → Int32) (ar : Nat → Nat → Int32) : Prop := (R.1 ≤ mostL ∧ fi 38 = Int32.ofNat R.1 ∧ r.toInt = (R.2.1 : Int) ∧ KpM kf R ar) ∨ (mostL < R.1 ∧ ∃ l', fi 38 = Int32.ofNat l' ∧ mostL < l' ∧ l' ≤ mostL + 1)
/-- too many were looked at -/
def OvI (R : SQ) (fi : Nat → Int32) : Prop := mostL < R.1 ∧ ∃ l', fi 38 = Int32.ofNat l' ∧ mostL < l' ∧ l' ≤ mostL + 1
/-- going ahead -/
def AhI (a : AS) (kf : Nat → Bool) (R : SQ) (T : Int) (st : List Pd) (Gs : List QG) (s : SQ) (v : Int32 × Int32 × Int32) (ar : Nat → Nat → Int32) : Prop := v.2.2 = 0 ∧ v.2.1.toInt = (st.length : Int) ∧ s.2.1 ≤ s.1 ∧ ∃ kn env, KnCh a.tn a.co kf Gs kn ∧ EnvM kn env ar ∧ (∀ p, p ∈ st → ∀ j, p.1.kn j = true → kn j = true) ∧ R = retQ a T st Gs (solA a T Gs env s)
/-- going back -/
def BkI (a : AS) (R : SQ) (T : Int) (st : List Pd) (Gs : List QG) (s : SQ) (v : Int32 × Int32 × Int32) : Prop := v.2.2 = 1 ∧ v.2.1.toInt = (st.length : Int) - 1 ∧ s.2.1 ≤ s.1 + 1 ∧ R = retQ a T st Gs s
def GdI (a : AS) (sl : Nat → Nat) (Ga : List QG) (kf : Nat → Bool) (R : SQ) (T : Int) (st : List Pd) (Gs : List QG) (s : SQ) (v : Int32 × Int32 × Int32) (fi : Nat → Int32) (ar : Nat → Nat → Int32) : Prop := (s.1 ≤ mostL ∧ fi 38 = Int32.ofNat s.1 ∧ v.1.toInt = (s.2.1 : Int) ∧ KpM kf s ar ∧ Ga = pdG st ++ Gs ∧ StOk a sl ar st) ∧ (AhI a kf R T st Gs s v ar ∨ BkI a R T st Gs s v)
def SvI (a : AS) (sl : Nat → Nat) (Ga : List QG) (kf : Nat → Bool) (R : SQ) (T : Int) (v : Int32 × Int32 × Int32) (fi : Nat → Int32) (ar : Nat → Nat → Int32) : Prop := SMh a sl Ga fi ar ∧ (OvI R fi ∨ ∃ st Gs s, GdI a sl Ga kf R T st Gs s v fi ar)
end SZ1
