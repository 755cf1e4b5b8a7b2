set_option linter.unusedVariables false
set_option linter.unusedSimpArgs false
/-! QUESTIONS: what a text says (tp: the bytes, n: how many) -/
/-- the byte at i; -1 behind the end -/
def byA (tp : Nat → Int32) (n i : Nat) : Int32 := if i < n then tp i else -1
def blF (tp : Nat → Int32) (n : Nat) : Nat → Nat → Nat
  | 0, i => i
  | f + 1, i => if byA tp n i = 32 then blF tp n f (i + 1) else i
/-- behind the blanks -/
def blA (tp : Nat → Int32) (n i : Nat) : Nat := blF tp n (n - i) i
def dgB (tp : Nat → Int32) (n i : Nat) : Bool := decide (48 ≤ (byA tp n i).toInt ∧ (byA tp n i).toInt ≤ 57)
def dgF (tp : Nat → Int32) (n : Nat) : Nat → Nat → Int32 → Nat × Int32
  | 0, i, v => (i, v)
  | f + 1, i, v => if dgB tp n i then dgF tp n f (i + 1) (v * 10 + byA tp n i - 48) else (i, v)
/-- digits: where they end, what they say -/
def dgA (tp : Nat → Int32) (n i : Nat) (v : Int32) : Nat × Int32 := dgF tp n (n - i) i v
/-- one to nine digits -/
def nnA (tp : Nat → Int32) (n i : Nat) : Option (Int32 × Nat) := if (dgA tp n i 0).1 = i ∨ 9 < (dgA tp n i 0).1 - i then none else some ((dgA tp n i 0).2, (dgA tp n i 0).1)
def nmA (tp : Nat → Int32) (n i : Nat) : Option (Int32 × Nat) := if byA tp n i = 45 then (nnA tp n (i + 1)).map fun r => (-r.1, r.2) else nnA tp n i
/-- an argument: 0 a number, 1 a variable, 2 anything; and which -/
abbrev QA : Type := Nat × Int32
def varB (c : Int32) : Bool := decide (65 ≤ c.toInt ∧ c.toInt < 73)
def agA (tp : Nat → Int32) (n : Nat) (any : Bool) (i : Nat) : Option (QA × Nat) := if varB (byA tp n i) then some ((1, byA tp n i - 65), i + 1) else if any && byA tp n i == 95 then some ((2, 0), i + 1) else (nmA tp n i).map fun r => ((0, r.1), r.2)
/-- k + 1 arguments, with ',' between them -/
def taA (tp : Nat → Int32) (n : Nat) : Nat → Nat → Option (List QA × Nat)
  | 0, i => (agA tp n true (blA tp n i)).map fun r => ([r.1], blA tp n r.2)
  | k + 1, i => (agA tp n true (blA tp n i)).bind fun r => if byA tp n (blA tp n r.2) = 44 then (taA tp n k (blA tp n r.2 + 1)).map fun s => (r.1 :: s.1, s.2) else none
/-- a table's goal, at its t -/
def tgA (tp : Nat → Int32) (n : Nat) (tn : Int32) (co : Nat → Int32) (i : Nat) : Option ((Nat × List QA) × Nat) :=
  if byA tp n i = 116 then (nnA tp n (i + 1)).bind fun r => if (0 ≤ r.1.toInt ∧ r.1.toInt < tn.toInt) ∧ byA tp n (blA tp n r.2) = 40 then (taA tp n ((co (ix r.1)).toInt.toNat - 1) (blA tp n r.2 + 1)).bind fun s => if byA tp n s.2 = 41 then some ((ix r.1, s.1), s.2 + 1) else none else none else none
/-- a variable that is known, or a number -/
def knB (kn : Nat → Bool) (x : QA) : Bool := x.1 != 1 || kn (ix x.2)
def kaA (tp : Nat → Int32) (n : Nat) (kn : Nat → Bool) (i : Nat) : Option (QA × Nat) := (agA tp n false (blA tp n i)).bind fun r => if knB kn r.1 then some r else none
/-- a goal: its kind (0 t, 1 !, 2 <, 3 =, 4 #, 5 +, 6 -, 7 *), its table, its arguments, what is known before it -/
abbrev QG : Type := Nat × Nat × List QA × (Nat → Bool)
abbrev QG.kd (q : QG) : Nat := q.1
abbrev QG.tb (q : QG) : Nat := q.2.1
abbrev QG.ag (q : QG) : List QA := q.2.2.1
abbrev QG.kn (q : QG) : Nat → Bool := q.2.2.2
/-- a variable v -/
def isV (v : Nat) (x : QA) : Bool := x.1 == 1 && ix x.2 == v
/-- what arguments make known -/
def mkKn (kn : Nat → Bool) (L : List QA) : Nat → Bool := fun v => kn v || L.any (isV v)
def sgA (tp : Nat → Int32) (n : Nat) (kn : Nat → Bool) (i : Nat) : Option ((QG × (Nat → Bool)) × Nat) :=
  (agA tp n false i).bind fun x => if byA tp n (blA tp n x.2) = 58 ∧ x.1.1 = 1 then
      (if knB kn x.1 then none else (kaA tp n kn (blA tp n x.2 + 1)).bind fun l =>
        if byA tp n (blA tp n l.2) = 43 ∨ byA tp n (blA tp n l.2) = 45 ∨ byA tp n (blA tp n l.2) = 42 then (kaA tp n kn (blA tp n l.2 + 1)).map fun r => (((if byA tp n (blA tp n l.2) = 43 then 5 else if byA tp n (blA tp n l.2) = 45 then 6 else 7, 0, [x.1, l.1, r.1], kn), va_up kn (ix x.1.2) true), r.2) else none)
    else if (byA tp n (blA tp n x.2) = 60 ∨ byA tp n (blA tp n x.2) = 61 ∨ byA tp n (blA tp n x.2) = 35) ∧ knB kn x.1 = true then (kaA tp n kn (blA tp n x.2 + 1)).map fun r => (((if byA tp n (blA tp n x.2) = 60 then 2 else if byA tp n (blA tp n x.2) = 61 then 3 else 4, 0, [x.1, r.1], kn), kn), r.2) else none
/-- a goal, its blanks passed -/
def ogA (tp : Nat → Int32) (n : Nat) (tn : Int32) (co : Nat → Int32) (kn : Nat → Bool) (i : Nat) : Option ((QG × (Nat → Bool)) × Nat) :=
  if byA tp n i = 116 then (tgA tp n tn co i).map fun r => (((0, r.1.1, r.1.2, kn), mkKn kn r.1.2), r.2)
  else if byA tp n i = 33 then (tgA tp n tn co (blA tp n (i + 1))).map fun r => (((1, r.1.1, r.1.2, kn), kn), r.2)
  else sgA tp n kn i
/-- f goals at most, with ',' between them, to the end -/
def quA (tp : Nat → Int32) (n : Nat) (tn : Int32) (co : Nat → Int32) : Nat → (Nat → Bool) → Nat → Option (List QG × (Nat → Bool))
  | 0, _, _ => none
  | f + 1, kn, i => (ogA tp n tn co kn (blA tp n i)).bind fun r => if n ≤ blA tp n r.2 then some ([r.1.1], r.1.2) else if byA tp n (blA tp n r.2) = 44 then (quA tp n tn co f r.1.2 (blA tp n r.2 + 1)).map fun s => (r.1.1 :: s.1, s.2) else none
/-! where one may stand -/
section QS1
variable {tp : Nat → Int32} {n i j f : Nat} {v c : Int32}
theorem byA_in (h : byA tp n i = c) (hc : c ≠ -1) : i < n := Classical.byContradiction fun z => hc (by rw [← h]; exact if_neg z)
theorem byA_at (h : i < n) : byA tp n i = tp i := if_pos h
theorem byA_end (h : n ≤ i) : byA tp n i = -1 := if_neg (by omega)
theorem blF_eq : ∀ f i, n - i ≤ f → blF tp n f i = blA tp n i
  | 0, i, h => by unfold blA; rw [show n - i = 0 by omega]
  | f + 1, i, h => by
      by_cases hi : i < n
      · unfold blA
        obtain ⟨k, hk⟩ : ∃ k, n - i = k + 1 := ⟨n - i - 1, by omega⟩
        rw [hk]
        show (if byA tp n i = 32 then blF tp n f (i + 1) else i) = if byA tp n i = 32 then blF tp n k (i + 1) else i
        rw [blF_eq f (i + 1) (by omega), ← blF_eq k (i + 1) (by omega)]
      · have e : byA tp n i ≠ 32 := fun z => hi (byA_in z (by decide))
        unfold blA
        rw [show n - i = 0 by omega]
        exact if_neg e
  termination_by f => f
theorem blA_step : blA tp n i = if byA tp n i = 32 then blA tp n (i + 1) else i := by
  rw [← blF_eq (n - i + 1) i (by omega)]
  show (if byA tp n i = 32 then blF tp n (n - i) (i + 1) else i) = _
  rw [blF_eq (n - i) (i + 1) (by omega)]
theorem blA_le : ∀ (f i : Nat), n - i ≤ f → i ≤ n → i ≤ blA tp n i ∧ blA tp n i ≤ n ∧ byA tp n (blA tp n i) ≠ 32
  | f, i, h, hi => by
      rw [blA_step]
      by_cases e : byA tp n i = 32
      · have := byA_in e (by decide)
        rw [if_pos e]
        cases f with
        | zero => omega
        | succ f =>
          obtain ⟨h1, h2, h3⟩ := blA_le f (i + 1) (by omega) (by omega)
          exact ⟨by omega, h2, h3⟩
      · rw [if_neg e]; exact ⟨Nat.le_refl _, hi, e⟩
theorem blA_n (hi : i ≤ n) : blA tp n i ≤ n := (blA_le (n - i) i (Nat.le_refl _) hi).2.1
theorem dgB_in (h : dgB tp n i = true) : i < n := Classical.byContradiction fun z => by
  unfold dgB at h
  rw [byA_end (by omega)] at h
  revert h; decide
theorem dgF_eq : ∀ f i v, n - i ≤ f → dgF tp n f i v = dgA tp n i v
  | 0, i, v, h => by unfold dgA; rw [show n - i = 0 by omega]
  | f + 1, i, v, h => by
      by_cases hi : i < n
      · unfold dgA
        obtain ⟨k, hk⟩ : ∃ k, n - i = k + 1 := ⟨n - i - 1, by omega⟩
        rw [hk]
        show (if dgB tp n i then dgF tp n f (i + 1) (v * 10 + byA tp n i - 48) else (i, v)) = if dgB tp n i then dgF tp n k (i + 1) (v * 10 + byA tp n i - 48) else (i, v)
        rw [dgF_eq f (i + 1) _ (by omega), ← dgF_eq k (i + 1) _ (by omega)]
      · have e : ¬ dgB tp n i = true := fun z => hi (dgB_in z)
        unfold dgA
        rw [show n - i = 0 by omega]
        exact if_neg e
  termination_by f => f
theorem dgA_step : dgA tp n i v = if dgB tp n i then dgA tp n (i + 1) (v * 10 + byA tp n i - 48) else (i, v) := by
  rw [← dgF_eq (n - i + 1) i v (by omega)]
  show (if dgB tp n i then dgF tp n (n - i) (i + 1) (v * 10 + byA tp n i - 48) else (i, v)) = _
  rw [dgF_eq (n - i) (i + 1) _ (by omega)]
theorem dgA_le : ∀ (f i : Nat) (v : Int32), n - i ≤ f → i ≤ n → i ≤ (dgA tp n i v).1 ∧ (dgA tp n i v).1 ≤ n
  | f, i, v, h, hi => by
      rw [dgA_step]
      by_cases e : dgB tp n i = true
      · have := dgB_in e
        rw [if_pos e]
        cases f with
        | zero => omega
        | succ f =>
          obtain ⟨h1, h2⟩ := dgA_le f (i + 1) (v * 10 + byA tp n i - 48) (by omega) (by omega)
          exact ⟨by omega, h2⟩
      · rw [if_neg e]; exact ⟨Nat.le_refl _, hi⟩
theorem nnA_le {r : Int32 × Nat} (hi : i ≤ n) (h : nnA tp n i = some r) : i < r.2 ∧ r.2 ≤ n := by
  unfold nnA at h
  split at h
  · cases h
  · rename_i z
    cases h
    obtain ⟨h1, h2⟩ := dgA_le (tp := tp) (n := n) (n - i) i 0 (Nat.le_refl _) hi
    exact ⟨by show i < (dgA tp n i 0).1; omega, h2⟩
theorem nmA_le {r : Int32 × Nat} (hi : i ≤ n) (h : nmA tp n i = some r) : i < r.2 ∧ r.2 ≤ n := by
  unfold nmA at h
  split at h
  · rename_i e
    have := byA_in e (by decide)
    obtain ⟨s, hs, rfl⟩ := Option.map_eq_some_iff.mp h
    have := nnA_le (by omega) hs
    exact ⟨by show i < s.2; omega, this.2⟩
  · exact nnA_le hi h
theorem varB_ne (h : varB c = true) : c ≠ -1 := fun z => by rw [z] at h; revert h; decide
theorem agA_le {any : Bool} {r : QA × Nat} (hi : i ≤ n) (h : agA tp n any i = some r) : i < r.2 ∧ r.2 ≤ n := by
  unfold agA at h
  split at h
  · rename_i e
    cases h
    have := byA_in (tp := tp) (n := n) (i := i) rfl (varB_ne e)
    exact ⟨Nat.lt_succ_self _, this⟩
  · split at h
    · rename_i e
      cases h
      have := byA_in (tp := tp) (n := n) (i := i) (beq_iff_eq.mp (Bool.and_eq_true_iff.mp e).2) (by decide)
      exact ⟨Nat.lt_succ_self _, this⟩
    · obtain ⟨s, hs, rfl⟩ := Option.map_eq_some_iff.mp h
      exact nmA_le hi hs
theorem kaA_le {kn : Nat → Bool} {r : QA × Nat} (hi : i ≤ n) (h : kaA tp n kn i = some r) : r.2 ≤ n := by
  unfold kaA at h
  obtain ⟨s, hs, h2⟩ := Option.bind_eq_some_iff.mp h
  split at h2
  · cases h2; exact (agA_le (blA_n hi) hs).2
  · cases h2
end QS1
