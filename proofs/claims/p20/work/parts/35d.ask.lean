set_option linter.unusedVariables false
set_option linter.unusedSimpArgs false
/-! asking facts, chains and tables -/
/-- none, or one who stands in the lane, of the table t -/
def On (g : Gh) (F : Nat → Nat → Option Nat) (l t : Nat) (p : Option Nat) : Prop := ∀ f, p = some f → g.V l f ∧ F f 2 = some t
def rk (g : Gh) (l : Nat) (p : Option Nat) : Nat := match p with
  | none => 0
  | some f => g.R l f + 1
/-- an array of four ints -/
def W4 (b : CT) (r : Option Nat) : Prop := ∃ ci a j, r = some (b.ad a j) ∧ Is b ci a ∧ oF ci j = 20 ∧ oL ci j = 4
section C4
variable {b : CT} {g : Gh} {s : Nat} {I : Nat → Nat → Int32} {F : Nat → Nat → Option Nat} {A : Nat → Nat → Nat → Int32} {E : Nat → Nat → Nat → Option Nat} {XX : Nat → Nat → Prop} {X : String → HS → Prop} {Q : Int32 → HS → Prop} {QF : Option Nat → HS → Prop}
theorem c_isIn {m k : Int32} {x : HS} (hQ : ∀ r : Int32, (r = 0 ∨ r = 1) → Q r x) : w_X11_isIn m k x Q X := by
  simp only [w_X11_isIn, wJoin, wIf, wBit0, wBit1]
  exact ⟨fun _ => hQ _ (Or.inr rfl), fun _ => hQ _ (Or.inl rfl)⟩
theorem c_isThere {f : Nat} {t : Int32} (hf : Is b 1 f) (hQ : ∀ r : Int32, (r = 0 ∨ r = 1) → Q r (cS b I F A E)) : w_X1_isThere (some f) t (cS b I F A E) Q X := by
  have q0 := hQ 0 (Or.inl rfl)
  have q1 := hQ 1 (Or.inr rfl)
  simp only [w_X1_isThere, wJoin, wIf, c_getI hf, wBit0, wBit1]
  exact ⟨fun _ => q0, fun _ => ⟨fun _ => q1, fun _ => ⟨fun _ => q0, fun _ => q1⟩⟩⟩
theorem c_isThereNow {f : Nat} (hf : Is b 1 f) : w_X1_isThereNow (some f) (cS b I F A E) Q X = ((I f 6 = -1 → Q 1 (cS b I F A E)) ∧ (I f 6 ≠ -1 → Q 0 (cS b I F A E))) := by
  simp only [w_X1_isThereNow, wJoin, wIf, c_getI hf, wBit0, wBit1, ne_eq]
theorem c_W4 (hb : CB b) {r : Option Nat} (h : W4 b r) {i : Int32} (hi : wIn i 4) {Z : Int32 → Prop} (hZ : ∀ v, Z v) : wAldJ (cS b I F A E) 20 r i Z := by
  obtain ⟨ci, a, j, rfl, h1, h2, h3⟩ := h
  rw [c_ald hb h1 h2 (by decide), h3]
  exact ⟨hi, hZ _⟩
theorem c_fits (hb : CB b) {f : Nat} {m : Int32} {r : Option Nat} (hf : Is b 1 f) (hr : W4 b r) (hQ : ∀ r : Int32, (r = 0 ∨ r = 1) → Q r (cS b I F A E)) : w_X1_fits (some f) m r (cS b I F A E) Q X := by
  have q0 := hQ 0 (Or.inl rfl)
  have q1 := hQ 1 (Or.inr rfl)
  simp only [w_X1_fits]
  refine wLoop_i (fun n v x => x = cS b I F A E ∧ 0 ≤ v.toInt ∧ n = (4 - v.toInt).toNat) 4 ⟨rfl, by decide, by decide⟩ ?_
  rintro n v x again ha ⟨rfl, p1, p2⟩
  refine ⟨fun _ => by rw [wBit1]; exact q1, fun hv => ?_⟩
  have hv4 : v.toInt < 4 := by simp only [i32, Int32.reduceToInt] at hv; omega
  have ev : (v + 1).toInt = v.toInt + 1 := i_add rfl (by decide) (by omega)
  have hgo : again (v + 1) (cS b I F A E) := ha _ _ _ (by omega) ⟨rfl, by omega, rfl⟩
  refine c_isIn (fun r1 hr1 => ⟨fun _ => hgo, fun _ => ?_⟩)
  simp only [cw hb, hf]
  exact ⟨⟨p1, by omega⟩, c_W4 hb hr ⟨p1, by omega⟩ (fun v2 => ⟨fun _ => hgo, fun _ => by rw [wBit0]; exact q0⟩)⟩
/-- one step along a lane -/
theorem On_step (hL : LO b g I F E) {l t f : Nat} (h : On g F l t (some f)) : Is b 1 f ∧ On g F l t (E f 1 l) ∧ rk g l (E f 1 l) < rk g l (some f) := by
  obtain ⟨h1, h2⟩ := h f rfl
  obtain ⟨p1, p2, p3⟩ := hL.2.2.2 l f h1
  refine ⟨p1, fun f' hf' => ?_, ?_⟩
  · obtain ⟨q1, q2, q3⟩ := p3 f' hf'
    exact ⟨q1, by rw [q2]; exact h2⟩
  · cases he : E f 1 l with
    | none => exact Nat.succ_pos _
    | some f' => exact Nat.succ_lt_succ (p3 f' he).2.2
theorem On_first (hL : LO b g I F E) {c : Nat} (hc : Is b 0 c) : On g F (ix (I c 0)) (g.T c) (F c 3) := fun f hf => (hL.1 c hc).2.2.2.1 f hf
theorem On_last (hL : LO b g I F E) {c : Nat} (hc : Is b 0 c) : On g F (ix (I c 0)) (g.T c) (F c 4) := fun f hf => (hL.1 c hc).2.2.2.2 f hf
theorem row_of (hL : LO b g I F E) {t : Nat} (ht : Is b 10 t) : ∃ r, F t 2 = some r ∧ Is b 0 r ∧ g.T r = t ∧ I r 0 = 4 ∧ On g F 4 t (F r 3) := by
  obtain ⟨-, -, ⟨r, p1, p2, p3, p4⟩, -⟩ := hL.2.2.1 t ht
  refine ⟨r, p1, p2, p3, p4, ?_⟩
  have := On_first hL p2
  rw [p3, p4, show ix 4 = 4 from by decide] at this
  exact this
theorem c_isThereNowFrom (hb : CB b) (hL : LO b g I F E) {t : Nat} {p r : Option Nat} {m : Int32} (hp : On g F 4 t p) (hr : W4 b r) (hQ : ∀ r : Int32, (r = 0 ∨ r = 1) → Q r (cS b I F A E)) : w_X10_isThereNowFrom p m r (cS b I F A E) Q X := by
  simp only [w_X10_isThereNowFrom]
  refine wLoop_i (fun n v x => x = cS b I F A E ∧ On g F 4 t v ∧ n = rk g 4 v) _ ⟨rfl, hp, rfl⟩ ?_
  rintro n v x again ha ⟨rfl, p1, p2⟩
  refine ⟨fun _ => by rw [wBit0]; exact hQ _ (Or.inl rfl), fun hv => ?_⟩
  obtain ⟨f, rfl⟩ := Option.ne_none_iff_exists'.mp hv
  obtain ⟨s1, s2, s3⟩ := On_step hL p1
  rw [c_recv s1, c_isThereNow s1]
  have hgo : again (E f 1 4) (cS b I F A E) := ha _ _ _ (by omega) ⟨rfl, s2, rfl⟩
  have hgo2 : wGetF (cS b I F A E) 1 1 (some f) fun v9 => wAldG (cS b I F A E) 25 v9 4 fun v10 => again v10 (cS b I F A E) := by
    simp only [cw hb, s1]; exact ⟨⟨by decide, by decide⟩, hgo⟩
  refine ⟨fun _ => ?_, fun _ => ⟨fun _ => hgo2, fun z => absurd rfl z⟩⟩
  refine ⟨fun z => absurd z (by decide), fun _ => ?_⟩
  rw [c_recv s1]
  exact c_fits hb s1 hr (fun r5 _ => ⟨fun _ => hgo2, fun _ => by rw [wBit1]; exact hQ _ (Or.inr rfl)⟩)
theorem W4_cols {f : Nat} (hf : Is b 1 f) : W4 b (some (b.ad f 0)) := ⟨1, f, 0, rfl, hf, by decide, by decide⟩
theorem c_hasTwins (hb : CB b) (hL : LO b g I F E) {t : Nat} {m : Int32} (ht : Is b 10 t) (hQ : ∀ r : Int32, (r = 0 ∨ r = 1) → Q r (cS b I F A E)) : w_X10_hasTwins (some t) m (cS b I F A E) Q X := by
  obtain ⟨r, r1, r2, r3, r4, r5⟩ := row_of hL ht
  simp only [w_X10_hasTwins, cw hb, ht, r1, r2]
  refine wLoop_i (fun n v x => x = cS b I F A E ∧ On g F 4 t v ∧ n = rk g 4 v) _ ⟨rfl, r5, rfl⟩ ?_
  rintro n v x again ha ⟨rfl, p1, p2⟩
  refine ⟨fun _ => by rw [wBit0]; exact hQ _ (Or.inl rfl), fun hv => ?_⟩
  obtain ⟨f, rfl⟩ := Option.ne_none_iff_exists'.mp hv
  obtain ⟨s1, s2, s3⟩ := On_step hL p1
  rw [c_recv s1, c_isThereNow s1]
  have hgo : again (E f 1 4) (cS b I F A E) := ha _ _ _ (by omega) ⟨rfl, s2, rfl⟩
  have hgo2 : wGetF (cS b I F A E) 1 1 (some f) fun v9 => wAldG (cS b I F A E) 25 v9 4 fun v10 => again v10 (cS b I F A E) := by
    simp only [cw hb, s1]; exact ⟨⟨by decide, by decide⟩, hgo⟩
  refine ⟨fun _ => ?_, fun _ => ⟨fun _ => hgo2, fun z => absurd rfl z⟩⟩
  refine ⟨fun z => absurd z (by decide), fun _ => ?_⟩
  simp only [cw hb, s1, show wIn 4 5 from ⟨by decide, by decide⟩, true_and, show ix 4 = 4 from by decide]
  refine c_isThereNowFrom hb hL s2 (W4_cols s1) (fun r5 _ => ⟨fun _ => ?_, fun _ => by rw [wBit1]; exact hQ _ (Or.inr rfl)⟩)
  simp only [cw hb, s1, show wIn 4 5 from ⟨by decide, by decide⟩, true_and, show ix 4 = 4 from by decide]
  exact hgo
theorem c_breaksKey (hb : CB b) (hL : LO b g I F E) {t : Nat} {w : Option Nat} (hw : W4 b w) (ht : Is b 10 t) (hQ : ∀ r : Int32, (r = 0 ∨ r = 1) → Q r (cS b I F A E)) : w_X10_breaksKey (some t) w (cS b I F A E) Q X := by
  obtain ⟨r, r1, r2, r3, r4, r5⟩ := row_of hL ht
  obtain ⟨-, hk, -⟩ := hL.2.2.1 t ht
  simp only [w_X10_breaksKey]
  refine wLoop_i (fun n v x => x = cS b I F A E ∧ 0 ≤ v.toInt ∧ n = (3 - v.toInt).toNat) 3 ⟨rfl, by decide, by decide⟩ ?_
  rintro n v x again ha ⟨rfl, p1, p2⟩
  rw [c_getI ht]
  refine ⟨fun _ => by rw [wBit0]; exact hQ _ (Or.inl rfl), fun hv => ?_⟩
  have hv4 : v.toInt < 3 := by simp only [i32, Int32.reduceToInt] at hv; omega
  have ev : (v + 1).toInt = v.toInt + 1 := i_add rfl (by decide) (by omega)
  simp only [cw hb, ht, r1, r2]
  refine ⟨⟨p1, by omega⟩, c_isThereNowFrom hb hL r5 hw (fun r6 _ => ⟨fun _ => ha _ _ _ (by omega) ⟨rfl, by omega, rfl⟩, fun _ => by rw [wBit1]; exact hQ _ (Or.inr rfl)⟩)⟩
theorem c_hasKey (hb : CB b) (hL : LO b g I F E) {t : Nat} {m : Int32} (ht : Is b 10 t) (hQ : ∀ r : Int32, (r = 0 ∨ r = 1) → Q r (cS b I F A E)) : w_X10_hasKey (some t) m (cS b I F A E) Q X := by
  obtain ⟨-, hk, -⟩ := hL.2.2.1 t ht
  simp only [w_X10_hasKey]
  refine wLoop_i (fun n v x => x = cS b I F A E ∧ 0 ≤ v.toInt ∧ n = (3 - v.toInt).toNat) 3 ⟨rfl, by decide, by decide⟩ ?_
  rintro n v x again ha ⟨rfl, p1, p2⟩
  rw [c_getI ht]
  refine ⟨fun _ => by rw [wBit0]; exact hQ _ (Or.inl rfl), fun hv => ?_⟩
  have hv4 : v.toInt < 3 := by simp only [i32, Int32.reduceToInt] at hv; omega
  have ev : (v + 1).toInt = v.toInt + 1 := i_add rfl (by decide) (by omega)
  simp only [cw hb, ht]
  exact ⟨⟨p1, by omega⟩, fun _ => by rw [wBit1]; exact hQ _ (Or.inr rfl), fun _ => ha _ _ _ (by omega) ⟨rfl, by omega, rfl⟩⟩
theorem c_factsThereNow (hb : CB b) (hL : LO b g I F E) {t : Nat} (ht : Is b 10 t) (hQ : ∀ r : Int32, Q r (cS b I F A E)) : w_X10_factsThereNow (some t) (cS b I F A E) Q X := by
  obtain ⟨r, r1, r2, r3, r4, r5⟩ := row_of hL ht
  simp only [w_X10_factsThereNow, cw hb, ht, r1, r2]
  refine wLoop_i (fun n v x => x = cS b I F A E ∧ On g F 4 t v.2 ∧ n = rk g 4 v.2) _ ⟨rfl, r5, rfl⟩ ?_
  rintro n ⟨w, v⟩ x again ha ⟨rfl, p1, p2⟩
  dsimp only at p1 p2 ⊢
  refine ⟨fun _ => hQ _, fun hv => ?_⟩
  obtain ⟨f, rfl⟩ := Option.ne_none_iff_exists'.mp hv
  obtain ⟨s1, s2, s3⟩ := On_step hL p1
  rw [c_recv s1, c_isThereNow s1]
  simp only [wJoin, wIf, cw hb, s1, show wIn 4 5 from ⟨by decide, by decide⟩, true_and, show ix 4 = 4 from by decide]
  have hgo : ∀ w2, again (w2, E f 1 4) (cS b I F A E) := fun w2 => ha (rk g 4 (E f 1 4)) _ _ (by omega) ⟨rfl, s2, rfl⟩
  exact ⟨fun _ => ⟨fun _ => hgo _, fun _ => hgo _⟩, fun _ => ⟨fun _ => hgo _, fun _ => hgo _⟩⟩
theorem c_factsAhead (hb : CB b) (hL : LO b g I F E) {c : Nat} {f : Option Nat} (hc : Is b 0 c) (hQ : ∀ r : Int32, Q r (cS b I F A E)) : w_X0_factsAhead (some c) f (cS b I F A E) Q X := by
  simp only [w_X0_factsAhead, cw hb, hc]
  obtain ⟨l1, l2⟩ := (hL.1 c hc).1
  refine wLoop_i (fun n v x => x = cS b I F A E ∧ On g F (ix (I c 0)) (g.T c) v.2 ∧ n = rk g (ix (I c 0)) v.2) _ ⟨rfl, On_first hL hc, rfl⟩ ?_
  rintro n ⟨w, v⟩ x again ha ⟨rfl, p1, p2⟩
  dsimp only at p1 p2 ⊢
  refine wJoin_i (fun K => K (cS b I F A E)) (hQ _) (fun K hK => ⟨fun _ => hK, fun hv => ⟨fun _ => hK, fun _ => ?_⟩⟩)
  obtain ⟨f', rfl⟩ := Option.ne_none_iff_exists'.mp hv
  obtain ⟨s1, s2, s3⟩ := On_step hL p1
  simp only [cw hb, s1, hc]
  exact ⟨⟨l1, by omega⟩, ha (rk g (ix (I c 0)) (E f' 1 (ix (I c 0)))) _ _ (by omega) ⟨rfl, s2, rfl⟩⟩
theorem and63 (v : Int32) : wIn (v &&& 63) 64 := by
  have h : (v &&& 63).toBitVec = v.toBitVec &&& 63#32 := rfl
  have h2 : (v.toBitVec &&& 63#32).toNat ≤ 63 := by
    rw [BitVec.toNat_and]; exact Nat.and_le_right
  have h3 : (v &&& 63).toInt = (v.toBitVec &&& 63#32).toInt := by rw [← h]; rfl
  have h4 : (v.toBitVec &&& 63#32).toInt = ((v.toBitVec &&& 63#32).toNat : Int) := by
    rw [BitVec.toInt_eq_toNat_cond, if_pos (by omega)]
  unfold wIn
  rw [h3, h4]; omega
/-- a chain of the index is looked for -/
theorem c_chainWith (hb : CB b) (hL : LO b g I F E) {x : Nat} {v : Int32} (hx : Is b 4 x) (hQ : ∀ r : Option Nat, (r = none → ∀ n, ¬ Fdn I F n (E x 1 (ix (v &&& 63))) v) → (∀ c, r = some c → Is b 0 c ∧ g.T c = g.U x ∧ I c 0 = I x 0 ∧ I c 1 = v ∧ ∃ n, Fdn I F n (E x 1 (ix (v &&& 63))) v) → QF r (cS b I F A E)) : w_X4_chainWith (some x) v (cS b I F A E) QF X := by
  simp only [w_X4_chainWith, cw hb, hx, and63, true_and]
  refine wLoop_i (fun n w x' => x' = cS b I F A E ∧ (∀ c, w = some c → Is b 0 c ∧ g.T c = g.U x ∧ I c 0 = I x 0) ∧ n = (match w with | none => 0 | some c => g.S c + 1) ∧ (∀ m, Fdn I F m (E x 1 (ix (v &&& 63))) v → ∃ m', Fdn I F m' w v) ∧ ∀ m', Fdn I F m' w v → ∃ m, Fdn I F m (E x 1 (ix (v &&& 63))) v) _ ⟨rfl, fun c hc => (hL.2.1 x hx).2.2 _ c hc, rfl, fun m h => ⟨m, h⟩, fun m h => ⟨m, h⟩⟩ ?_
  rintro n w x' again ha ⟨rfl, p1, p2, p3, p4⟩
  refine wJoin_i (fun K => (w = none ∨ ∃ c, w = some c ∧ I c 1 = v) → K (cS b I F A E)) (fun hw => ?_) (fun K hK => ⟨fun h => hK (Or.inl h), fun hw => ?_⟩)
  · refine hQ w (fun h m hm => ?_) (fun c hc => ?_)
    · obtain ⟨m', hm'⟩ := p3 m hm
      rw [h] at hm'
      cases m' with
      | zero => exact hm'
      | succ m' => obtain ⟨c, hc, -⟩ := hm'; exact absurd hc (by simp)
    · obtain ⟨q1, q2, q3⟩ := p1 c hc
      rcases hw with hw | ⟨c', h1, h2⟩
      · rw [hw] at hc; exact absurd hc (by simp)
      · rw [hc] at h1; cases h1
        exact ⟨q1, q2, q3, h2, p4 1 ⟨c, hc, Or.inl h2⟩⟩
  · obtain ⟨c, rfl⟩ := Option.ne_none_iff_exists'.mp hw
    obtain ⟨q1, q2, q3⟩ := p1 c rfl
    obtain ⟨-, -, q6, -⟩ := hL.1 c q1
    simp only [cw hb, q1]
    refine ⟨fun h => hK (Or.inr ⟨c, rfl, h⟩), fun hne => ?_⟩
    refine ha _ _ _ ?_ ⟨rfl, fun d hd => ?_, rfl, fun m hm => ?_, fun m hm => p4 (m + 1) ⟨c, rfl, Or.inr hm⟩⟩
    · rw [p2]
      cases hd : F c 2 with
      | none => exact Nat.succ_pos _
      | some d => exact Nat.succ_lt_succ (q6 d hd).2.1
    · obtain ⟨z1, z2, z3, z4⟩ := q6 d hd
      exact ⟨z1, by rw [z3]; exact q2, by rw [z4]; exact q3⟩
    · obtain ⟨m', hm'⟩ := p3 m hm
      cases m' with
      | zero => exact absurd hm' id
      | succ m' =>
        obtain ⟨c', hc', h⟩ := hm'
        cases hc'
        rcases h with h | h
        · exact absurd h hne
        · exact ⟨m', h⟩
theorem c_allColumns {t : Nat} (ht : Is b 10 t) : w_X10_allColumns (some t) (cS b I F A E) Q X = Q (((1 : Int32) <<< (I t 1 &&& 31)) - 1) (cS b I F A E) := by
  simp only [w_X10_allColumns, c_getI ht]
theorem c_laneFor (hb : CB b) (hL : LO b g I F E) {t : Nat} {m : Int32} (ht : Is b 10 t) (hQ : ∀ r : Int32, (r = 4 ∨ wIn r 4 ∧ E t 3 (ix r) ≠ none) → Q r (cS b I F A E)) : w_X10_laneFor (some t) m (cS b I F A E) Q X := by
  obtain ⟨hk, -⟩ := hL.2.2.1 t ht
  simp only [w_X10_laneFor]
  refine wLoop_i (fun n v x => x = cS b I F A E ∧ 0 ≤ v.toInt ∧ n = (4 - v.toInt).toNat) 4 ⟨rfl, by decide, by decide⟩ ?_
  rintro n v x again ha ⟨rfl, p1, p2⟩
  rw [c_getI ht]
  refine ⟨fun _ => hQ _ (Or.inl rfl), fun hv => ?_⟩
  have hv4 : v.toInt < 4 := by simp only [i32, Int32.reduceToInt] at hv; omega
  have ev : (v + 1).toInt = v.toInt + 1 := i_add rfl (by decide) (by omega)
  have hgo : again (v + 1) (cS b I F A E) := ha _ _ _ (by omega) ⟨rfl, by omega, rfl⟩
  refine c_isIn (fun r1 hr1 => ⟨fun _ => hgo, fun _ => ?_⟩)
  simp only [cw hb, ht]
  exact ⟨⟨p1, by omega⟩, fun _ => hgo, fun h => hQ _ (Or.inr ⟨⟨p1, by omega⟩, h⟩)⟩
theorem c_firstIn (hb : CB b) (hL : LO b g I F E) {t : Nat} {v : Int32} {w : Option Nat} (hw : W4 b w) (ht : Is b 10 t) (hv : v = 4 ∨ wIn v 4 ∧ E t 3 (ix v) ≠ none) (hQ : ∀ r, On g F (ix v) t r → QF r (cS b I F A E)) : w_X10_firstIn (some t) v w (cS b I F A E) QF X := by
  obtain ⟨r, r1, r2, r3, r4, r5⟩ := row_of hL ht
  simp only [w_X10_firstIn]
  refine wJoin_i (fun K => v = 4 → K (cS b I F A E)) (fun h => ?_) (fun K hK => ⟨fun h => hK ?_, fun h1 => ⟨fun h => hK ?_, fun h2 => ?_⟩⟩)
  · simp only [cw hb, ht, r1, r2]
    exact hQ _ (by rw [h]; exact r5)
  · rcases hv with hv | ⟨hv, -⟩
    · exact hv
    · have := hv.1; simp only [i32, Int32.reduceToInt] at h; omega
  · rcases hv with hv | ⟨hv, -⟩
    · exact hv
    · have := hv.2; simp only [i32, Int32.reduceToInt] at h; omega
  · rcases hv with hv | ⟨hv, hne⟩
    · rw [hv] at h2; exact absurd (by decide) h2
    · obtain ⟨x, hx⟩ := Option.ne_none_iff_exists'.mp hne
      obtain ⟨x1, x2, x3, -⟩ := (hL.2.2.1 t ht).2.2.2 _ x hx
      simp only [cw hb, ht, hv, true_and, hx]
      refine ⟨fun z => absurd z (by simp), fun _ => c_W4 hb hw hv (fun u => ?_)⟩
      rw [c_recv x1]
      refine c_chainWith hb hL x1 (fun r hn hs => ⟨fun h => ?_, fun h => ?_⟩)
      · exact hQ _ (fun f hf => absurd hf (by simp))
      · obtain ⟨c, rfl⟩ := Option.ne_none_iff_exists'.mp h
        obtain ⟨c1, c2, c3, -⟩ := hs c rfl
        simp only [cw hb, c1]
        refine hQ _ ?_
        have := On_first hL c1
        rw [c2, x2, c3] at this
        have e : I x 0 = v := i_ext (by rw [x3]; exact ix_int hv.1)
        rw [e] at this; exact this
end C4
