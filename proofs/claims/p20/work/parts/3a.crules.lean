set_option linter.unusedVariables false
set_option linter.unusedSimpArgs false
/-! THE CLASS: rules over its heap of things (cS); what is said of it, apart from safety -/
section QC
variable {b : CT} {I : Nat → Nat → Int32} {F : Nat → Nat → Option Nat} {A : Nat → Nat → Nat → Int32} {E : Nat → Nat → Nat → Option Nat} {ci a j kd c2 N : Nat} {i v : Int32} {w : Option Nat}
theorem qc_getI {Z Z' : Int32 → Prop} (h : Is b ci a → Z (I a j) → Z' (I a j)) : wGetI (cS b I F A E) ci j (some a) Z → wGetI (cS b I F A E) ci j (some a) Z' := fun ⟨a', h1, h2, h3, h4⟩ => by
  cases h1; exact ⟨a, rfl, h2, h3, h ⟨h2, h3⟩ h4⟩
theorem qc_getF (hb : CB b) (hj : oF ci j = 0) {Z Z' : Option Nat → Prop} (h : Is b ci a → Z (F a j) → Z' (F a j)) : wGetF (cS b I F A E) ci j (some a) Z → wGetF (cS b I F A E) ci j (some a) Z' := fun ⟨a', h1, h2, h3, h4⟩ => by
  cases h1
  have e : (cS b I F A E).F a j = F a j := cF_no hb ⟨h2, h3⟩ hj
  rw [e] at h4
  exact ⟨a, rfl, h2, h3, by rw [e]; exact h ⟨h2, h3⟩ h4⟩
theorem qc_getA (hb : CB b) (hj : oF ci j ≠ 0) {Z Z' : Option Nat → Prop} (h : Is b ci a → Z (some (b.ad a j)) → Z' (some (b.ad a j))) : wGetF (cS b I F A E) ci j (some a) Z → wGetF (cS b I F A E) ci j (some a) Z' := fun ⟨a', h1, h2, h3, h4⟩ => by
  cases h1
  have e : (cS b I F A E).F a j = some (b.ad a j) := cF_ow hb ⟨h2, h3⟩ hj
  rw [e] at h4
  exact ⟨a, rfl, h2, h3, by rw [e]; exact h ⟨h2, h3⟩ h4⟩
theorem qc_recv {Z Z' : Prop} (h : Is b ci a → Z → Z') : wRecv (cS b I F A E) ci (some a) Z → wRecv (cS b I F A E) ci (some a) Z' := fun ⟨⟨a', h1, h2, h3⟩, z⟩ => by
  cases h1; exact ⟨⟨a, rfl, h2, h3⟩, h ⟨h2, h3⟩ z⟩
/-- who is asked isn't none -/
theorem qc_recvO {Z Z' : Prop} (h : ∀ q, w = some q → Is b ci q → Z → Z') : wRecv (cS b I F A E) ci w Z → wRecv (cS b I F A E) ci w Z' := fun ⟨⟨a', h1, h2, h3⟩, z⟩ => ⟨⟨a', h1, h2, h3⟩, h a' h1 ⟨h2, h3⟩ z⟩
theorem qc_putI {Z Z' : HS → Prop} (h : Is b ci a → Z (cS b (up2 I a j v) F A E) → Z' (cS b (up2 I a j v) F A E)) : wPutI (cS b I F A E) ci j (some a) v Z → wPutI (cS b I F A E) ci j (some a) v Z' := fun ⟨a', h1, h2, h3, h4⟩ => by
  cases h1; exact ⟨a, rfl, h2, h3, h ⟨h2, h3⟩ h4⟩
theorem qc_putZ {Z Z' : HS → Prop} (h : Is b ci a → Z (cS b (up2 I a j v) F A E) → Z' (cS b (up2 I a j v) F A E)) : wPutZ (cS b I F A E) ci j (some a) v Z → wPutZ (cS b I F A E) ci j (some a) v Z' := fun ⟨a', h1, h2, h3, h4, h5⟩ => by
  cases h1; exact ⟨a, rfl, h2, h3, h4, h ⟨h2, h3⟩ h5⟩
theorem qc_putF (hb : CB b) (hj : oF ci j = 0) {Z Z' : HS → Prop} (h : Is b ci a → Z (cS b I (up2 F a j w) A E) → Z' (cS b I (up2 F a j w) A E)) : wPutF (cS b I F A E) ci j (some a) w Z → wPutF (cS b I F A E) ci j (some a) w Z' := fun z => by
  have hi : Is b ci a := by
    obtain ⟨a', h1, h2, h3, -⟩ := z
    cases h1; exact ⟨h2, h3⟩
  rw [c_putF hb hi hj] at z ⊢
  exact h hi z
theorem qc_ald (hb : CB b) (hi : Is b ci a) (hk : oF ci j = kd) (h0 : kd ≠ 0) {Z Z' : Int32 → Prop} (h : wIn i (oL ci j) → Z (A a j (ix i)) → Z' (A a j (ix i))) : wAldJ (cS b I F A E) kd (some (b.ad a j)) i Z → wAldJ (cS b I F A E) kd (some (b.ad a j)) i Z' := by
  rw [c_ald hb hi hk h0, c_ald hb hi hk h0]; exact qv_and h
theorem qc_aldG (hb : CB b) (hi : Is b ci a) (hk : oF ci j = kd) (h0 : kd ≠ 0) {Z Z' : Option Nat → Prop} (h : wIn i (oL ci j) → Z (E a j (ix i)) → Z' (E a j (ix i))) : wAldG (cS b I F A E) kd (some (b.ad a j)) i Z → wAldG (cS b I F A E) kd (some (b.ad a j)) i Z' := by
  rw [c_aldG hb hi hk h0, c_aldG hb hi hk h0]; exact qv_and h
theorem qc_astI (hb : CB b) (hi : Is b ci a) (hk : oF ci j = 20) {Z Z' : HS → Prop} (h : wIn i (oL ci j) → Z (cS b I F (up3 A a j (ix i) v) E) → Z' (cS b I F (up3 A a j (ix i) v) E)) : wAstI (cS b I F A E) (some (b.ad a j)) i v Z → wAstI (cS b I F A E) (some (b.ad a j)) i v Z' := by
  rw [c_astI hb hi hk, c_astI hb hi hk]; exact qv_and h
theorem qc_astZ (hb : CB b) (hi : Is b ci a) (hk : oF ci j = 22) {Z Z' : HS → Prop} (h : wIn i (oL ci j) → Z (cS b I F (up3 A a j (ix i) v) E) → Z' (cS b I F (up3 A a j (ix i) v) E)) : wAstZ (cS b I F A E) (some (b.ad a j)) i v Z → wAstZ (cS b I F A E) (some (b.ad a j)) i v Z' := by
  rw [c_astZ hb hi hk, c_astZ hb hi hk]; exact fun z => ⟨z.1, z.2.1, h z.1 z.2.2⟩
theorem qc_astG (hb : CB b) (hi : Is b ci a) (hk : oF ci j = kd) (h0 : kd ≠ 0) {Z Z' : HS → Prop} (h : wIn i (oL ci j) → Rf b c2 w → Z (cS b I F A (up3 E a j (ix i) w)) → Z' (cS b I F A (up3 E a j (ix i) w))) : wAstG (cS b I F A E) kd c2 (some (b.ad a j)) i w Z → wAstG (cS b I F A E) kd c2 (some (b.ad a j)) i w Z' := by
  rw [c_astG hb hi hk h0, c_astG hb hi hk h0]; exact fun z => ⟨z.1, z.2.1, h z.1 z.2.1 z.2.2⟩
theorem qc_len (hb : CB b) (hi : Is b ci a) (hk : oF ci j = kd) (h0 : kd ≠ 0) {Z Z' : Int32 → Prop} (h : Z (Int32.ofNat (oL ci j)) → Z' (Int32.ofNat (oL ci j))) : wLen (cS b I F A E) kd (some (b.ad a j)) Z → wLen (cS b I F A E) kd (some (b.ad a j)) Z' := fun ⟨a', h1, h2, h3, h4⟩ => by
  cases h1
  have e : (cS b I F A E).n (b.ad a j) = oL ci j := (c_arr hb hi (by rw [hk]; exact h0)).2.2.2
  rw [e] at h4
  exact ⟨_, rfl, h2, h3, by rw [e]; exact h h4⟩
theorem qc_bit {v : Int32} {Z Z' : Prop} (h : Z → Z') : wBit v Z → wBit v Z' := fun z => ⟨z.1, h z.2⟩
theorem qc_throw {S : String} {X X' : String → HS → Prop} (h : X S (cS (b.B.wC (b.B.c - 1) (b.B.z - 6), b.2) I F A E) → X' S (cS (b.B.wC (b.B.c - 1) (b.B.z - 6), b.2) I F A E)) : wThrow (cS b I F A E) S X → wThrow (cS b I F A E) S X' := fun z => ⟨z.1, z.2.1, h z.2.2⟩
theorem CB_wC {c z : Nat} (hb : CB b) : CB (b.B.wC c z, b.2) := hb
theorem qc_new (hb : CB0 b) {Z Z' : Option Nat → HS → Prop} (h : ∀ q, q ∉ b.B.LP → Z (some q) (cS (bnew b q ci N) (va_up I q (fun _ => 0)) (va_up F q (fun _ => none)) A E) → Z' (some q) (cS (bnew b q ci N) (va_up I q (fun _ => 0)) (va_up F q (fun _ => none)) A E)) : wNew (cS b I F A E) ci N Z → wNew (cS b I F A E) ci N Z' := fun z =>
  ⟨z.1, z.2.1, fun q hq => (c_new (I := I) (F := F) (A := A) (E := E) (Z := fun q x => Z q x → Z' q x) hb z.1 z.2.1 h).2.2 q hq (z.2.2 q hq)⟩
theorem qc_newJ (hb : CB0 b) {q : Nat} (hq : Is b ci q) (hno : ∀ r, b.own r ≠ some (q, j)) {len : Int32} (hl : len.toInt = N) {Z Z' : HS → Prop} (hZ : ∀ p e, p ∉ b.B.LP → Z (cS (barr b q j p kd N) I F (up2 A q j (fun _ => 0)) (up2 E q j e)) → Z' (cS (barr b q j p kd N) I F (up2 A q j (fun _ => 0)) (up2 E q j e))) : (wNewJ (cS b I F A E) kd len fun r x2 => wPutF x2 ci j (some q) r Z) → wNewJ (cS b I F A E) kd len fun r x2 => wPutF x2 ci j (some q) r Z' := fun z => by
  have hl2 : len.toInt.toNat = N := by omega
  have zz := c_newJ (I := I) (F := F) (A := A) (E := E) (kd := kd) (Z := fun x => Z x → Z' x) hb hq hno hl (by have := z.2.1; omega) z.2.2.1 (by have := z.2.2.2.1; rw [hl2] at this; exact this) hZ
  refine ⟨z.1, z.2.1, z.2.2.1, z.2.2.2.1, fun p hp => ?_⟩
  obtain ⟨a1, e1, p1, p2, p3⟩ := z.2.2.2.2 p hp
  obtain ⟨a2, e2, q1, q2, q3⟩ := zz.2.2.2.2 p hp
  cases e1; cases e2
  exact ⟨q, rfl, p1, p2, q3 p3⟩
theorem qc_newG (hb : CB0 b) {q : Nat} (hq : Is b ci q) (hno : ∀ r, b.own r ≠ some (q, j)) {len : Int32} (hl : len.toInt = N) {Z Z' : HS → Prop} (hZ : ∀ p e, p ∉ b.B.LP → Z (cS (barr b q j p kd N) I F (up2 A q j e) (up2 E q j (fun _ => none))) → Z' (cS (barr b q j p kd N) I F (up2 A q j e) (up2 E q j (fun _ => none)))) : (wNewG (cS b I F A E) kd len fun r x2 => wPutF x2 ci j (some q) r Z) → wNewG (cS b I F A E) kd len fun r x2 => wPutF x2 ci j (some q) r Z' := fun z => by
  have hl2 : len.toInt.toNat = N := by omega
  have zz := c_newG (I := I) (F := F) (A := A) (E := E) (kd := kd) (Z := fun x => Z x → Z' x) hb hq hno hl (by have := z.2.1; omega) z.2.2.1 (by have := z.2.2.2.1; rw [hl2] at this; exact this) hZ
  refine ⟨z.1, z.2.1, z.2.2.1, z.2.2.2.1, fun p hp => ?_⟩
  obtain ⟨a1, e1, p1, p2, p3⟩ := z.2.2.2.2 p hp
  obtain ⟨a2, e2, q1, q2, q3⟩ := zz.2.2.2.2 p hp
  cases e1; cases e2
  exact ⟨q, rfl, p1, p2, q3 p3⟩
/-- a loop: what holds at its head, over the heap's things -/
theorem qc_loop {σ : Type} {B B' : σ → HS → (σ → HS → Prop) → Prop} {v : σ} (P : σ → CT → (Nat → Nat → Int32) → (Nat → Nat → Option Nat) → (Nat → Nat → Nat → Int32) → (Nat → Nat → Nat → Option Nat) → Prop) (hx : P v b I F A E)
    (h : ∀ (v : σ) (b : CT) (I : Nat → Nat → Int32) (F : Nat → Nat → Option Nat) (A : Nat → Nat → Nat → Int32) (E : Nat → Nat → Nat → Option Nat) (again again' : σ → HS → Prop), P v b I F A E → (∀ v' b' I' F' A' E', P v' b' I' F' A' E' → again v' (cS b' I' F' A' E') → again' v' (cS b' I' F' A' E')) → B v (cS b I F A E) again → B' v (cS b I F A E) again') : wLoop B v (cS b I F A E) → wLoop B' v (cS b I F A E) :=
  q_loopV (fun v x => ∃ b I F A E, x = cS b I F A E ∧ P v b I F A E) ⟨b, I, F, A, E, rfl, hx⟩ (fun v x again again' ⟨b, I, F, A, E, e, hp⟩ ha => by
    subst e
    exact h v b I F A E again again' hp (fun v' b' I' F' A' E' hp' => ha v' _ ⟨b', I', F', A', E', rfl, hp'⟩))
/-- the same where nothing changes -/
theorem qc_loop0 {σ : Type} {B B' : σ → HS → (σ → HS → Prop) → Prop} {v : σ} (P : σ → Prop) (hx : P v) (h : ∀ (v : σ) (again again' : σ → HS → Prop), P v → (∀ v', P v' → again v' (cS b I F A E) → again' v' (cS b I F A E)) → B v (cS b I F A E) again → B' v (cS b I F A E) again') : wLoop B v (cS b I F A E) → wLoop B' v (cS b I F A E) :=
  q_loopV (fun v x => x = cS b I F A E ∧ P v) ⟨rfl, hx⟩ (fun v x again again' ⟨e, hp⟩ ha => by
    subst e
    exact h v again again' hp (fun v' hp' => ha v' _ ⟨rfl, hp'⟩))
end QC
/-! lists by references: from h through the things L to none -/
def LnO (nx : Nat → Option Nat) : Option Nat → List Nat → Prop
  | h, [] => h = none
  | h, q :: L => h = some q ∧ LnO nx (nx q) L
theorem LnO_congr {nx nx' : Nat → Option Nat} : ∀ {L : List Nat} {h : Option Nat}, (∀ q, q ∈ L → nx' q = nx q) → LnO nx h L → LnO nx' h L
  | [], _, _, h => h
  | q :: L, _, he, h => ⟨h.1, by rw [he q List.mem_cons_self]; exact LnO_congr (fun p hp => he p (List.mem_cons_of_mem _ hp)) h.2⟩
theorem LnO_none {nx : Nat → Option Nat} {L : List Nat} (h : LnO nx none L) : L = [] := by
  cases L with
  | nil => rfl
  | cons q L => exact absurd h.1 (by simp)
theorem LnO_some {nx : Nat → Option Nat} {q : Nat} {L : List Nat} (h : LnO nx (some q) L) : ∃ L', L = q :: L' ∧ LnO nx (nx q) L' := by
  cases L with
  | nil => exact absurd h (by simp [LnO])
  | cons p L =>
    obtain ⟨h1, h2⟩ := h
    cases h1
    exact ⟨L, rfl, h2⟩
/-- the rest behind one of the list -/
theorem LnO_at {nx : Nat → Option Nat} {q : Nat} {L2 : List Nat} : ∀ {L1 : List Nat} {h : Option Nat}, LnO nx h (L1 ++ q :: L2) → LnO nx (nx q) L2
  | [], _, h => h.2
  | _ :: L1, _, h => LnO_at (L1 := L1) h.2
/-- one is put in behind p -/
theorem LnO_ins {nx : Nat → Option Nat} {p q : Nat} {L2 : List Nat} : ∀ {L1 : List Nat} {h : Option Nat}, LnO nx h (L1 ++ p :: L2) → p ∉ L1 → p ∉ L2 → q ∉ L1 → q ∉ L2 → q ≠ p → LnO (va_up (va_up nx q (nx p)) p (some q)) h (L1 ++ p :: q :: L2)
  | [], h, hl, _, h2, _, h4, h5 => ⟨hl.1, by rw [va_up_self], by
      rw [va_up_ne _ _ h5, va_up_self]
      exact LnO_congr (fun s hs => by rw [va_up_ne _ _ (fun z => h2 (by rw [← z]; exact hs)), va_up_ne _ _ (fun z => h4 (by rw [← z]; exact hs))]) hl.2⟩
  | x :: L1, h, hl, h1, h2, h3, h4, h5 => ⟨hl.1, by
      rw [va_up_ne _ _ (fun z => h1 (by rw [← z]; exact List.mem_cons_self)), va_up_ne _ _ (fun z => h3 (by rw [← z]; exact List.mem_cons_self))]
      exact LnO_ins hl.2 (fun z => h1 (List.mem_cons_of_mem _ z)) h2 (fun z => h3 (List.mem_cons_of_mem _ z)) h4 h5⟩
theorem LnO_cons {nx : Nat → Option Nat} {q : Nat} {L : List Nat} {h : Option Nat} (hl : LnO nx h L) (hq : q ∉ L) : LnO (va_up nx q h) (some q) (q :: L) := ⟨rfl, by
  rw [va_up_self]
  exact LnO_congr (fun s hs => va_up_ne _ _ (fun z => hq (by rw [← z]; exact hs))) hl⟩
