set_option linter.unusedVariables false
set_option linter.unusedSimpArgs false
/-! what always holds of a run's state -/
abbrev inT (a : AS) (t : Nat) : Prop := (t : Int) < a.tn.toInt
/-- where the changes that are noted begin -/
def baseT (a : AS) : Int := a.tm - a.hs.length
def AVr (a : AS) : Prop := (∀ t, ¬ inT a t → a.rw t = []) ∧ (∀ t t' n, n ∈ a.rw t → n ∈ a.rw t' → t = t') ∧ (∀ t, (a.rw t).Nodup) ∧ (∀ t n, n ∈ a.rw t → n < a.nn ∧ a.ft n = t ∧ 1 ≤ a.fb n ∧ a.fb n ≤ a.tm ∧ (a.fd n = -1 ∨ a.fb n < a.fd n ∧ a.fd n ≤ a.tm)) ∧ (0 ≤ a.hz ∧ a.hz ≤ a.tm) ∧ (a.nn : Int) ≤ a.tm ∧ (allF a).length ≤ 3000 ∧ (0 ≤ a.tn.toInt ∧ a.tn.toInt ≤ 12)
def AVk (a : AS) : Prop := (∀ t, ¬ inT a t → a.ky t = []) ∧ ∀ t, inT a t → (a.ky t).length ≤ 3 ∧ (1 ≤ (a.co t).toInt ∧ (a.co t).toInt ≤ 4) ∧ ∀ m, m ∈ a.ky t → 1 ≤ m.toInt ∧ m.toInt < 2 ^ (a.co t).toInt.toNat
def AVh (a : AS) : Prop := a.mk.length ≤ 8 ∧ (∀ m, m ∈ a.mk → m ≤ a.hs.length) ∧ (a.mk = [] → a.hs = []) ∧ (a.hs.length : Int) ≤ a.tm ∧
  (∀ (k : Nat) (e : Nat × Bool), a.hs[k]? = some e → e.1 ∈ a.rw (a.ft e.1) ∧ (e.2 = false → a.fb e.1 = baseT a + k + 1) ∧ (e.2 = true → a.fd e.1 = baseT a + k + 1)) ∧
  ∀ t n, n ∈ a.rw t → baseT a < a.fb n → a.sn n ∈ a.rw t ∧ (a.sn n = n ∨ (baseT a < a.fb n ∧ 0 ≤ a.fd n ∧ a.fd n < a.fb (a.sn n)))
def AVc (a : AS) : Prop := ∀ c, c < 10 → a.op c = true → inT a (a.ct c) ∧ (∀ n, a.cl c = some n → n ∈ a.rw (a.ct c)) ∧ maskOk (a.cm c) ∧ a.ci c ≤ a.tm
def AV (a : AS) : Prop := AVr a ∧ AVk a ∧ AVh a ∧ AVc a ∧ a.fo.length ≤ 3000
/-! the reference's facts: n stands in the slot sl n -/
def RF1 (a : AS) (sl : Nat → Nat) (ar : Nat → Nat → Int32) (t n : Nat) : Prop := sl n < 3000 ∧ ar 11 (sl n) ≠ 0 ∧ (ar 12 (sl n)).toInt = (t : Int) ∧ (∀ k, k < 4 → ar 13 (4 * sl n + k) = a.fc n k) ∧ (ar 14 (sl n)).toInt = (n : Int) ∧ (ar 15 (sl n)).toInt = a.fb n ∧ (ar 16 (sl n)).toInt = a.fd n
def RXf (a : AS) (sl : Nat → Nat) (ar : Nat → Nat → Int32) : Prop := (∀ t, inT a t → LnK (ar 18) (ar 7 t) ((a.rw t).map sl) ∧ LnK (ar 17) (ar 8 t) ((a.rw t).map sl).reverse) ∧ (∀ t n, n ∈ a.rw t → RF1 a sl ar t n) ∧ ∀ s, s < 3000 → ar 11 s ≠ 0 → ∃ t n, n ∈ a.rw t ∧ sl n = s
def RXk (a : AS) (ar : Nat → Nat → Int32) : Prop := ∀ t, inT a t → (ar 6 t).toInt = ((a.ky t).length : Int) ∧ ∀ (i : Nat) (m : Int32), (a.ky t)[i]? = some m → ar 9 (3 * t + i) = m
def RXs (a : AS) (fi : Nat → Int32) : Prop := (fi 20).toInt = ((allF a).length : Int) ∧ (fi 21).toInt = (a.nn : Int) ∧ (fi 22).toInt = a.tm ∧ (fi 23).toInt = a.hz ∧ fi 39 = 0
def RXh (a : AS) (sl : Nat → Nat) (fi : Nat → Int32) (ar : Nat → Nat → Int32) : Prop := (fi 27).toInt = (a.mk.length : Int) ∧ (∀ (i m : Nat), a.mk[i]? = some m → (ar 26 i).toInt = (m : Int)) ∧
  (a.mk ≠ [] → (fi 25).toInt = (a.hs.length : Int) ∧ (∀ (i : Nat) (e : Nat × Bool), a.hs[i]? = some e → (ar 24 i).toInt = if e.2 then -1 - (sl e.1 : Int) else (sl e.1 : Int)) ∧ ∀ t n, n ∈ a.rw t → baseT a < a.fb n → (ar 19 (sl n)).toInt = (sl (a.sn n) : Int))
def RXc (a : AS) (sl : Nat → Nat) (ar : Nat → Nat → Int32) : Prop := ∀ c, c < 10 → (ar 28 c ≠ 0 ↔ a.op c = true) ∧ (a.op c = true → (ar 29 c ≠ 0 ↔ a.ov c = true) ∧ (ar 30 c).toInt = (a.ct c : Int) ∧ ar 31 c = a.cm c ∧ (ar 32 c).toInt = a.ci c ∧ (ar 33 c).toInt = (match a.cl c with | none => -1 | some n => (sl n : Int)) ∧ ar 34 c = a.cd c ∧ ∀ k, k < 4 → ar 35 (4 * c + k) = a.cv c k)
def RXo (a : AS) (fi : Nat → Int32) (ar : Nat → Nat → Int32) : Prop := (fi 37).toInt = (a.fo.length : Int) ∧ ∀ (i : Nat) (v : Int32), a.fo[i]? = some v → ar 36 i = v
def RX (a : AS) (fi : Nat → Int32) (ar : Nat → Nat → Int32) : Prop := ∃ sl : Nat → Nat, RXf a sl ar ∧ RXk a ar ∧ RXs a fi ∧ RXh a sl fi ar ∧ RXc a sl ar ∧ RXo a fi ar
def RM (mo M : Nat) (a : AS) (y : HS) : Prop := ∃ (b : MT) (fi : Nat → Int32) (ar : Nat → Nat → Int32), MB b ∧ b.o = mo ∧ y = mS b fi ar ∧ G M fi ar ∧ RA a.1 fi ar ∧ RX a fi ar ∧ AV a
theorem mS_inj2 {b b2 : MT} (hb : MB b) (hb2 : MB b2) (ho : b.o = b2.o) {fi fi' : Nat → Int32} {ar ar' : Nat → Nat → Int32} (h : mS b fi ar = mS b2 fi' ar') : fi = fi' ∧ ∀ j, j ∈ mIds → ar j = ar' j := by
  have e1 : ∀ j, j ∈ mIds → b.a j = b2.a j := fun j hj => by
    have h1 : (mS b fi ar).F b.o j = some (b.a j) := (hb.2.2.1 j hj).1
    have h2 : (mS b2 fi' ar').F b2.o j = some (b2.a j) := (hb2.2.2.1 j hj).1
    rw [h, ho, h2] at h1
    exact (Option.some.inj h1).symm
  refine ⟨funext fun j => ?_, fun j hj => funext fun i => ?_⟩
  · have := congrArg (fun x : HS => x.I b.o j) h
    have h2 : (mS b2 fi' ar').I b2.o j = fi' j := m_I
    rw [← ho] at h2
    simp only [m_I] at this
    exact this.trans h2
  · have := congrArg (fun x : HS => x.J (b.a j) i) h
    have h2 : (mS b2 fi' ar').J (b2.a j) i = ar' j i := mJ_at hb2 hj
    rw [← e1 j hj] at h2
    simp only [m_J, mJ_at hb hj] at this
    exact this.trans h2
theorem RA_congr {a : A1} {fi : Nat → Int32} {ar ar' : Nat → Nat → Int32} (h : RA a fi ar) (he : ∀ j, j ∈ mIds → ar j = ar' j) : RA a fi ar' := by
  unfold RA at h ⊢
  rw [← he 3 (by decide), ← he 4 (by decide), ← he 5 (by decide)]
  exact h
section R2
variable {b : MT} {fi : Nat → Int32} {ar : Nat → Nat → Int32} {mo M : Nat} {a : AS} {y : HS} {X X' : String → HS → Prop} {Q Q' : HS → Prop} {QI QI' : Int32 → HS → Prop}
/-- safety, v1's view and the rest, put together again -/
theorem RM_of (hb : MB b) {a1 : A1} (h1 : RM1 b.o M a1 (mS b fi ar)) (ha : a1 = a.1) (hX : RX a fi ar) (hV : AV a) : RM b.o M a (mS b fi ar) := by
  obtain ⟨b2, fi2, ar2, hb2, ho, e, hG, hA⟩ := h1
  obtain ⟨e1, e2⟩ := mS_inj2 hb hb2 ho.symm e
  subst e1
  exact ⟨b, fi, ar, hb, rfl, rfl, G_congr hG (fun j hj => (e2 j hj).symm), by rw [← ha]; exact RA_congr hA (fun j hj => (e2 j hj).symm), hX, hV⟩
theorem RM_g (hb : MB b) {vv : Nat → Int32} (h : RG b M vv (mS b fi ar)) (hA : RA a.1 fi ar) (hX : RX a fi ar) (hV : AV a) : RM b.o (M + 1) a (mS b fi ar) := by
  obtain ⟨fi', ar', e, hG, -⟩ := h
  obtain ⟨e1, e2⟩ := mS_inj hb e
  subst e1
  exact ⟨b, fi, ar, hb, rfl, rfl, G_congr hG (fun j hj => (e2 j hj).symm), hA, hX, hV⟩
theorem RM_o (h : RM mo M a y) : mo ∈ y.LP ∧ y.k mo = 12 := by
  obtain ⟨b, fi, ar, hb, rfl, rfl, -⟩ := h
  exact ⟨hb.1, hb.2.1⟩
theorem RM_1 (h : RM mo M a y) : RM1 mo M a.1 y := by
  obtain ⟨b, fi, ar, hb, h1, h2, hG, hA, -⟩ := h
  exact ⟨b, fi, ar, hb, h1, h2, hG, hA⟩
theorem rc_thrown (h : RM mo M a y) : w_X12_thrown (some mo) y (fun r u => r = y.I mo 0 ∧ u = y) X := rc1_thrown (RM_1 h)
/-- what RX speaks of stays -/
theorem RX_fr {WF WA : List Nat} {fi' : Nat → Int32} {ar' : Nat → Nat → Int32} (h : RX a fi ar) (hf : frM WF WA fi ar fi' ar') (h1 : ∀ j, j ∈ [20, 21, 22, 23, 39, 27, 25, 37] → j ∉ WF) (h2 : ∀ j, j ∈ [18, 7, 17, 8, 11, 12, 13, 14, 15, 16, 6, 9, 26, 24, 19, 28, 29, 30, 31, 32, 33, 34, 35, 36] → j ∉ WA) : RX a fi' ar' := by
  have e : ∀ j, j ∈ [20, 21, 22, 23, 39, 27, 25, 37] → fi' j = fi j := fun j hj => hf.1 j (h1 j hj)
  have g : ∀ j, j ∈ [18, 7, 17, 8, 11, 12, 13, 14, 15, 16, 6, 9, 26, 24, 19, 28, 29, 30, 31, 32, 33, 34, 35, 36] → ar' j = ar j := fun j hj => hf.2 j (h2 j hj)
  unfold RX RXf RF1 RXk RXs RXh RXc RXo at h ⊢
  rw [e 20 (by decide), e 21 (by decide), e 22 (by decide), e 23 (by decide), e 39 (by decide), e 27 (by decide), e 25 (by decide), e 37 (by decide), g 18 (by decide), g 7 (by decide), g 17 (by decide), g 8 (by decide), g 11 (by decide), g 12 (by decide), g 13 (by decide), g 14 (by decide), g 15 (by decide), g 16 (by decide), g 6 (by decide), g 9 (by decide), g 26 (by decide), g 24 (by decide), g 19 (by decide), g 28 (by decide), g 29 (by decide), g 30 (by decide), g 31 (by decide), g 32 (by decide), g 33 (by decide), g 34 (by decide), g 35 (by decide), g 36 (by decide)]
  exact h
end R2
