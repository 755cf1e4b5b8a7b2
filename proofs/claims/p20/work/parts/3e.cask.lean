set_option linter.unusedVariables false
set_option linter.unusedSimpArgs false
/-! the class: asking -/
def thC (I : Nat → Nat → Int32) (f : Nat) (T : Int32) : Bool := decide ((I f 5).toInt ≤ T.toInt ∧ ((I f 6).toInt = -1 ∨ T.toInt < (I f 6).toInt))
def okC (A : Nat → Nat → Nat → Int32) (f : Nat) (m : Int32) (w j k : Nat) : Bool := !(bitm m k) || A f 0 k == A w j k
def fitC (A : Nat → Nat → Nat → Int32) (f : Nat) (m : Int32) (w j : Nat) : Bool := (List.range 4).all (okC A f m w j)
theorem find_filter {p q : Nat → Bool} (h : ∀ n, p n = true → q n = true) : ∀ (L : List Nat), (L.filter q).find? p = L.find? p
  | [] => rfl
  | x :: L => by
      rw [List.filter_cons]
      by_cases hq : q x = true
      · rw [if_pos hq, List.find?_cons, List.find?_cons, find_filter h L]
      · have hp : p x = false := by
          cases hpx : p x with
          | false => rfl
          | true => exact absurd (h x hpx) hq
        rw [if_neg hq, List.find?_cons, hp, find_filter h L]
section VE1
variable {b : CT} {I : Nat → Nat → Int32} {F : Nat → Nat → Option Nat} {A : Nat → Nat → Nat → Int32} {E : Nat → Nat → Nat → Option Nat} {o t n n' k f c p x w j ci q : Nat} {m T : Int32} {a : AS} {d r ct fa : Nat → Nat} {y : HS} {X X' : String → HS → Prop} {Q Q' : HS → Prop} {QI QI' : Int32 → HS → Prop} {QF QF' : Option Nat → HS → Prop}
theorem qc_isIn {v : Int32} (hv : v.toInt = (k : Int)) (h : QI (if bitm m k then 1 else 0) y → QI' (if bitm m k then 1 else 0) y) : w_X11_isIn m v y QI X → w_X11_isIn m v y QI' X' := by
  unfold w_X11_isIn
  dsimp only [wJoin]
  refine qv_if (fun z => qc_bit ?_) (fun z => qc_bit ?_)
  · rw [if_pos ((bitm_iff hv).mp z)] at h; exact h
  · rw [if_neg (fun y => z ((bitm_iff hv).mpr y))] at h; exact h
theorem qc_isThere (h : Is b 1 f → QI (if thC I f T then 1 else 0) (cS b I F A E) → QI' (if thC I f T then 1 else 0) (cS b I F A E)) : w_X1_isThere (some f) T (cS b I F A E) QI X → w_X1_isThere (some f) T (cS b I F A E) QI' X' := by
  unfold w_X1_isThere
  refine qc_getI (fun hf => ?_)
  have h := h hf
  have e1 : I f 6 = -1 ↔ (I f 6).toInt = -1 := ⟨fun z => by rw [z]; decide, fun z => i_ext (by rw [z]; decide)⟩
  dsimp only [wJoin]
  refine qv_if (fun z => qc_bit ?_) (fun z => qc_getI (fun _ => qv_if (fun z2 => qc_bit ?_) (fun z2 => qc_getI (fun _ => qv_if (fun z3 => qc_bit ?_) (fun z3 => qc_bit ?_)))))
  · simp only [i32] at z
    have : thC I f T = false := decide_eq_false (by omega)
    rw [this] at h; exact h
  · simp only [i32] at z
    rw [e1] at z2
    have : thC I f T = true := decide_eq_true (by omega)
    rw [this] at h; exact h
  · simp only [i32] at z z3
    rw [e1] at z2
    have : thC I f T = false := decide_eq_false (by omega)
    rw [this] at h; exact h
  · simp only [i32] at z z3
    rw [e1] at z2
    have : thC I f T = true := decide_eq_true (by omega)
    rw [this] at h; exact h
theorem qc_isNow (h : Is b 1 f → QI (if decide ((I f 6).toInt = -1) then 1 else 0) (cS b I F A E) → QI' (if decide ((I f 6).toInt = -1) then 1 else 0) (cS b I F A E)) : w_X1_isThereNow (some f) (cS b I F A E) QI X → w_X1_isThereNow (some f) (cS b I F A E) QI' X' := by
  unfold w_X1_isThereNow
  refine qc_getI (fun hf => ?_)
  have h := h hf
  have e1 : I f 6 = -1 ↔ (I f 6).toInt = -1 := ⟨fun z => by rw [z]; decide, fun z => i_ext (by rw [z]; decide)⟩
  dsimp only [wJoin]
  refine qv_if (fun z => qc_bit ?_) (fun z => qc_bit ?_)
  · rw [decide_eq_true (e1.mp z)] at h; exact h
  · rw [decide_eq_false (fun y => z (e1.mpr y))] at h; exact h
theorem qc_fits (hb : CB b) (hf : Is b 1 f) (hw : Is b ci w) (hk : oF ci j = 20) (h : QI (if fitC A f m w j then 1 else 0) (cS b I F A E) → QI' (if fitC A f m w j then 1 else 0) (cS b I F A E)) : w_X1_fits (some f) m (some (b.ad w j)) (cS b I F A E) QI X → w_X1_fits (some f) m (some (b.ad w j)) (cS b I F A E) QI' X' := by
  unfold w_X1_fits
  refine qc_loop0 (fun v => ∃ i : Nat, v.toInt = (i : Int) ∧ i ≤ 4 ∧ ∀ k, k < i → okC A f m w j k = true) ⟨0, by decide, by omega, fun k hk => absurd hk (by omega)⟩ (fun v again again' ⟨i, i1, i2, i3⟩ ha => ?_)
  refine qv_if (fun z => qc_bit ?_) (fun z => ?_)
  · simp only [i32, Int32.reduceToInt] at z
    have : fitC A f m w j = true := range_all.mpr (fun k hk => i3 k (by omega))
    rw [this] at h; exact h
  · simp only [i32, Int32.reduceToInt] at z
    have nxt : okC A f m w j i = true → again (v + 1) (cS b I F A E) → again' (v + 1) (cS b I F A E) := fun ho => ha _ ⟨i + 1, by rw [i_add i1 (show (1 : Int32).toInt = 1 by decide) (by omega)]; omega, by omega, fun k hk => by
      by_cases e : k = i
      · rw [e]; exact ho
      · exact i3 k (by omega)⟩
    refine qc_isIn i1 ?_
    dsimp only [wJoin]
    cases hbm : bitm m i with
    | false =>
      refine qv_if (fun _ => nxt ?_) (fun z => absurd rfl z)
      unfold okC; rw [hbm]; rfl
    | true =>
      refine qv_if (fun z => absurd z (by decide)) (fun _ => ?_)
      refine qc_getA hb (by decide) (fun _ => ?_)
      refine qc_ald hb hf (by decide) (by decide) (fun _ => ?_)
      refine qc_ald hb hw hk (by decide) (fun _ => ?_)
      rw [ix_of i1]
      refine qv_if (fun z => nxt ?_) (fun z => qc_bit ?_)
      · unfold okC; rw [hbm, z]; simp
      · have hno : okC A f m w j i = false := by unfold okC; rw [hbm]; simp [z]
        have : fitC A f m w j = false := by
          cases hq : fitC A f m w j with
          | false => rfl
          | true => rw [range_all.mp hq i (by omega)] at hno; exact absurd hno (by decide)
        rw [this] at h; exact h
/-- which lane is taken -/
def LaO (E : Nat → Nat → Nat → Option Nat) (m : Int32) (dt : Nat) (v : Int32) (l : Nat) : Prop := v.toInt = (l : Int) ∧ (l = 4 ∨ l < 4 ∧ bitm m l = true ∧ E dt 3 l ≠ none)
theorem qc_laneFor (hb : CB b) {dt : Nat} (hc : (I dt 1).toInt ≤ 4) (h : ∀ v l, LaO E m dt v l → QI v (cS b I F A E) → QI' v (cS b I F A E)) : w_X10_laneFor (some dt) m (cS b I F A E) QI X → w_X10_laneFor (some dt) m (cS b I F A E) QI' X' := by
  unfold w_X10_laneFor
  refine qc_loop0 (fun v => ∃ i : Nat, v.toInt = (i : Int)) ⟨0, by decide⟩ (fun v again again' ⟨i, i1⟩ ha => ?_)
  refine qc_getI (fun hd => ?_)
  refine qv_if (fun z => h 4 4 ⟨by decide, Or.inl rfl⟩) (fun z => ?_)
  simp only [i32] at z
  have nxt : again (v + 1) (cS b I F A E) → again' (v + 1) (cS b I F A E) := ha _ ⟨i + 1, by rw [i_add i1 (show (1 : Int32).toInt = 1 by decide) (by omega)]; omega⟩
  refine qc_isIn i1 ?_
  dsimp only [wJoin]
  cases hbm : bitm m i with
  | false => exact qv_if (fun _ => nxt) (fun z => absurd rfl z)
  | true =>
    refine qv_if (fun z => absurd z (by decide)) (fun _ => ?_)
    refine qc_getA hb (by decide) (fun _ => ?_)
    refine qc_aldG hb hd (by decide) (by decide) (fun _ => ?_)
    rw [ix_of i1]
    exact qv_if (fun _ => nxt) (fun z2 => h v i ⟨i1, Or.inr ⟨by omega, hbm, z2⟩⟩)
/-- what is said of the tables' chains, for one table -/
theorem qc_firstIn (hb : CB b) (hr : CXr a b d r ct fa I F E) (ht : inT a t) (hrow : Is b 10 (d t) ∧ F (d t) 2 = some (r t) ∧ Is b 0 (r t) ∧ I (r t) 0 = 4 ∧ ct (r t) = t) (hq : Is b 5 q) {v : Int32} {l : Nat} (hl : LaO E m (d t) v l)
    (h : ∀ w, LnO (fun q => E q 1 l) w ((rowL a t l (A q 1 l)).map fa) → QF w (cS b I F A E) → QF' w (cS b I F A E)) : w_X10_firstIn (some (d t)) v (some (b.ad q 1)) (cS b I F A E) QF X → w_X10_firstIn (some (d t)) v (some (b.ad q 1)) (cS b I F A E) QF' X' := by
  obtain ⟨h1, h2, h3, h4⟩ := hr
  obtain ⟨r1, r2, r3, r4, r5⟩ := hrow
  unfold w_X10_firstIn
  dsimp only [wJoin]
  have row : l = 4 → (wGetF (cS b I F A E) 10 2 (some (d t)) fun v3 => wGetF (cS b I F A E) 0 3 v3 fun v4 => QF v4 (cS b I F A E)) → (wGetF (cS b I F A E) 10 2 (some (d t)) fun v3 => wGetF (cS b I F A E) 0 3 v3 fun v4 => QF' v4 (cS b I F A E)) := fun e => by
    refine qc_getF hb (by decide) (fun _ => ?_)
    rw [r2]
    refine qc_getF hb (by decide) (fun _ => ?_)
    subst e
    refine h _ ?_
    have := (h1 (r t) r3).1
    have e0 : ix (I (r t) 0) = 4 := by rw [r4]; decide
    simp only [e0, r5] at this
    have er : ∀ v, rowL a t 4 v = a.rw t := fun v => if_pos rfl
    rw [er] at this ⊢
    exact this
  refine qv_if (fun z => ?_) (fun z => qv_if (fun z2 => ?_) (fun z2 => ?_))
  · simp only [i32, Int32.reduceToInt] at z
    have := hl.1
    omega
  · simp only [i32, Int32.reduceToInt] at z2
    have := hl.1
    exact row (hl.2.elim id (fun y => by omega))
  · simp only [i32, Int32.reduceToInt] at z z2
    have hl1 := hl.1
    obtain ⟨l4, lb, lx⟩ := hl.2.resolve_left (by omega)
    refine qc_getA hb (by decide) (fun _ => ?_)
    refine qc_aldG hb r1 (by decide) (by decide) (fun _ => ?_)
    rw [ix_of hl1]
    refine qv_if (fun z => absurd z lx) (fun _ => ?_)
    refine qc_getA hb (by decide) (fun _ => ?_)
    refine qc_aldG hb r1 (by decide) (by decide) (fun _ => ?_)
    rw [ix_of hl1]
    refine qc_ald hb hq (by decide) (by decide) (fun _ => ?_)
    rw [ix_of hl1]
    obtain ⟨x, hx⟩ := Option.ne_none_iff_exists'.mp lx
    rw [hx]
    obtain ⟨x1, x2, x3, x4⟩ := h3.1 t l x ht l4 hx
    refine qc_recv (fun _ => ?_)
    refine qc_chainWith hb x1 (x4 _ (ix_lt (and63 _))) (fun hno => ?_) (fun c c1 c2 c3 c4 => ?_)
    · refine qv_if (fun _ => h none ?_) (fun z => absurd rfl z)
      have : rowL a t l (A q 1 l) = [] := by
        unfold rowL
        rw [if_neg (by omega), List.filter_eq_nil_iff]
        intro n hn hv
        obtain ⟨c, c1, c2, c3, c4⟩ := h4 t l n ht l4 lx hn
        exact hno c c1 c2 c3 (by rw [c4]; exact eq_of_beq hv)
      rw [this]; rfl
    · refine qv_if (fun z => absurd z (by simp)) (fun _ => ?_)
      refine qc_getF hb (by decide) (fun _ => ?_)
      refine h _ ?_
      have := (h1 c c1).1
      simp only [c2, c3, c4] at this
      exact this
/-- what stands behind a fact in a lane -/
theorem lane_next (hr : CXr a b d r ct fa I F E) (ht : inT a t) (hrow : Is b 0 (r t) ∧ I (r t) 0 = 4 ∧ ct (r t) = t) {v : Int32} {l : Nat} (hl : LaO E m (d t) v l) (hn : n ∈ a.rw t) {P S : List Nat} (hs : rowL a t l (a.fc n l) = P ++ n :: S) : LnO (fun q => E q 1 l) (E (fa n) 1 l) (S.map fa) := by
  obtain ⟨h1, h2, h3, h4⟩ := hr
  obtain ⟨c, c1, c2, c3, c4⟩ : ∃ c, Is b 0 c ∧ ct c = t ∧ ix (I c 0) = l ∧ (l = 4 ∨ I c 1 = a.fc n l) := by
    rcases hl.2 with z | ⟨z1, z2, z3⟩
    · exact ⟨r t, hrow.1, hrow.2.2, by rw [hrow.2.1, z]; decide, Or.inl z⟩
    · obtain ⟨c, c1, c2, c3, c4⟩ := h4 t l n ht z1 z3 hn
      exact ⟨c, c1, c2, c3, Or.inr c4⟩
  have this : LnO (fun q => E q 1 (ix (I c 0))) (F c 3) ((rowL a (ct c) (ix (I c 0)) (I c 1)).map fa) := (h1 c c1).1
  have e : rowL a (ct c) (ix (I c 0)) (I c 1) = P ++ n :: S := by
    rw [c2, c3, ← hs]
    rcases c4 with z | z
    · unfold rowL; rw [if_pos z, if_pos z]
    · rw [z]
  rw [e, c3, List.map_append, List.map_cons] at this
  exact LnO_at this
theorem fit_fa (hF : CF1 a b d fa I F A t n) {mc : Int32} {vs : Nat → Int32} (hm : ∀ k, k < 4 → bitm mc k = (bitm m k && decide ((k : Int) < (a.co t).toInt))) (hv : ∀ k, k < 4 → A w j k = vs k) : fitC A (fa n) mc w j = fitB a t m vs n := by
  unfold fitC fitB
  rw [Bool.eq_iff_iff, range_all, range_all]
  refine forall_congr' (fun k => forall_congr' (fun hk => ?_))
  unfold okC
  rw [hm k hk, hF.2.2.1 k hk, hv k hk]
theorem th_fa (hF : CF1 a b d fa I F A t n) (hV : AV a) (hn : n ∈ a.rw t) {T' : Int} (hT : T.toInt = T') : thC I (fa n) T = thereB a T' n := by
  unfold thC thereB
  rw [hF.2.2.2.2.1, hF.2.2.2.2.2, hT]
  have := (hV.1.2.2.2.1 t n hn).2.2
  refine decide_eq_decide.mpr (and_congr Iff.rfl (or_congr ?_ Iff.rfl))
  omega
theorem now_fa (hF : CF1 a b d fa I F A t n) (hV : AV a) (hn : n ∈ a.rw t) : decide ((I (fa n) 6).toInt = -1) = aliveB a n := by
  unfold aliveB
  rw [hF.2.2.2.2.2]
  have := (hV.1.2.2.2.1 t n hn).2.2
  refine decide_eq_decide.mpr ?_
  omega
end VE1
