set_option linter.unusedVariables false
set_option linter.unusedSimpArgs false
/-! QUESTIONS: what solves them -/
def mostL : Nat := 50000
/-- the lane: the first column that is asked for and has an index -/
def laneA (a : AS) (t : Nat) (m : Int32) : Option Nat := (List.range 4).find? fun k => decide ((k : Int) < (a.co t).toInt) && (bitm m k && a.ix t k)
def inLane (a : AS) (t : Nat) (m : Int32) (vs : Nat → Int32) (n : Nat) : Bool := match laneA a t m with
  | none => true
  | some k => a.fc n k == vs k
/-- how many were looked at, how many solutions, what they are -/
abbrev SQ : Type := Nat × Nat × (Nat → Nat → Int32)
/-- what an argument is worth -/
def worA (env : Nat → Int32) (x : QA) : Int32 := if x.1 = 1 then env (ix x.2) else x.2
def worK (env : Nat → Int32) (L : List QA) (k : Nat) : Int32 := match L[k]? with
  | none => 0
  | some x => worA env x
def mskG (G : QG) : Int32 := maskOf (mkL G.kn G.ag)
/-- the same variable, the same value -/
def oneB (a : AS) (L : List QA) (n : Nat) : Bool := (List.range L.length).all fun k => (List.range k).all fun i => match L[k]?, L[i]? with
  | some x, some y => !(x.1 == 1 && y.1 == 1 && x.2 == y.2) || a.fc n k == a.fc n i
  | _, _ => true
def hitB (a : AS) (T : Int) (G : QG) (env : Nat → Int32) (n : Nat) : Bool := askB a G.tb (mskG G) (worK env G.ag) T n && oneB a G.ag n
/-- the variables that a fact makes known -/
def bindE (a : AS) (env : Nat → Int32) (G : QG) (n : Nat) : Nat → Int32 := fun v => if G.kn v then env v else match G.ag.findIdx? (isV v) with
  | none => env v
  | some k => a.fc n k
/-- along a row: f is what a hit leads to -/
def foldQ (a : AS) (T : Int) (G : QG) (env : Nat → Int32) (f : Nat → SQ → SQ) : List Nat → SQ → SQ
  | [], s => s
  | x :: L, s => if mostL < s.1 then s else if inLane a G.tb (mskG G) (worK env G.ag) x then (if mostL < s.1 + 1 then (s.1 + 1, s.2) else if hitB a T G env x then foldQ a T G env f L (f x (s.1 + 1, s.2)) else foldQ a T G env f L (s.1 + 1, s.2)) else foldQ a T G env f L s
/-- along a row, to the first hit: how many were looked at then; the hit and what is behind it -/
def scanQ (a : AS) (T : Int) (G : QG) (env : Nat → Int32) : List Nat → Nat → Nat × Option (Nat × List Nat)
  | [], l => (l, none)
  | x :: L, l => if inLane a G.tb (mskG G) (worK env G.ag) x then (if mostL < l + 1 then (l + 1, none) else if hitB a T G env x then (l + 1, some (x, L)) else scanQ a T G env L (l + 1)) else scanQ a T G env L l
def cmpB (kd : Nat) (u w : Int32) : Bool := if kd = 2 then decide (u.toInt < w.toInt) else if kd = 3 then u == w else u != w
def opA (kd : Nat) (u w : Int32) : Int32 := if kd = 5 then u + w else if kd = 6 then u - w else u * w
/-- the variable that is made known -/
def worV (L : List QA) : Nat := match L with
  | [] => 0
  | x :: _ => ix x.2
def solA (a : AS) (T : Int) : List QG → (Nat → Int32) → SQ → SQ
  | [], env, s => (s.1, s.2.1 + 1, if s.2.1 < 100 then va_up s.2.2 s.2.1 env else s.2.2)
  | G :: Gs, env, s => if G.kd = 0 then foldQ a T G env (fun x s => solA a T Gs (bindE a env G x) s) (a.rw G.tb) s
    else if G.kd = 1 then (if mostL < (scanQ a T G env (a.rw G.tb) s.1).1 ∨ (scanQ a T G env (a.rw G.tb) s.1).2.isSome = true then ((scanQ a T G env (a.rw G.tb) s.1).1, s.2) else solA a T Gs env ((scanQ a T G env (a.rw G.tb) s.1).1, s.2))
    else if G.kd ≤ 4 then (if cmpB G.kd (worK env G.ag 0) (worK env G.ag 1) then solA a T Gs env s else s)
    else solA a T Gs (va_up env (worV G.ag) (opA G.kd (worK env G.ag 1) (worK env G.ag 2))) s
/-- the lane's part of a list -/
def lanL (a : AS) (G : QG) (env : Nat → Int32) (L : List Nat) : List Nat := L.filter (inLane a G.tb (mskG G) (worK env G.ag))
section SS1
variable {a : AS} {T : Int} {G : QG} {env : Nat → Int32} {f : Nat → SQ → SQ} {s : SQ} {L P R : List Nat} {l : Nat}
theorem foldQ_over : ∀ (L : List Nat), mostL < s.1 → foldQ a T G env f L s = s
  | [], _ => rfl
  | x :: L, h => if_pos h
theorem scanQ_le : ∀ (L : List Nat) (l : Nat), l ≤ (scanQ a T G env L l).1
  | [], l => Nat.le_refl _
  | x :: L, l => by
      unfold scanQ
      split
      · split
        · exact Nat.le_succ _
        · split
          · exact Nat.le_succ _
          · exact Nat.le_trans (Nat.le_succ _) (scanQ_le L (l + 1))
      · exact scanQ_le L l
/-- what a hit is -/
theorem scanQ_some {l' x : Nat} {R : List Nat} : ∀ (L : List Nat) (l : Nat), scanQ a T G env L l = (l', some (x, R)) → l < l' ∧ l' ≤ mostL ∧ hitB a T G env x = true ∧ ∃ P, L = P ++ x :: R
  | [], l, h => by cases h
  | y :: L, l, h => by
      unfold scanQ at h
      split at h
      · split at h
        · cases h
        · split at h
          · rename_i h1 h2
            cases h
            exact ⟨Nat.lt_succ_self _, by omega, h2, [], rfl⟩
          · obtain ⟨h1, h2, h3, P, h4⟩ := scanQ_some L (l + 1) h
            exact ⟨by omega, h2, h3, y :: P, by rw [h4]; rfl⟩
      · obtain ⟨h1, h2, h3, P, h4⟩ := scanQ_some L l h
        exact ⟨h1, h2, h3, y :: P, by rw [h4]; rfl⟩
/-- a stretch without a hit -/
theorem scanQ_skip : ∀ (P : List Nat) (l : Nat), (∀ x, x ∈ P → inLane a G.tb (mskG G) (worK env G.ag) x = true → hitB a T G env x = false) → l ≤ mostL → (l + (lanL a G env P).length ≤ mostL → scanQ a T G env (P ++ R) l = scanQ a T G env R (l + (lanL a G env P).length)) ∧ (mostL < l + (lanL a G env P).length → mostL < (scanQ a T G env (P ++ R) l).1)
  | [], l, _, hs => ⟨fun _ => rfl, fun z => absurd z (by show ¬ mostL < l + 0; omega)⟩
  | x :: P, l, h, hs => by
      show (_ → (if inLane a G.tb (mskG G) (worK env G.ag) x then (if mostL < l + 1 then (l + 1, none) else if hitB a T G env x then (l + 1, some (x, P ++ R)) else scanQ a T G env (P ++ R) (l + 1)) else scanQ a T G env (P ++ R) l) = _) ∧ (_ → mostL < (if inLane a G.tb (mskG G) (worK env G.ag) x then (if mostL < l + 1 then (l + 1, none) else if hitB a T G env x then (l + 1, some (x, P ++ R)) else scanQ a T G env (P ++ R) (l + 1)) else scanQ a T G env (P ++ R) l).1)
      have hP : ∀ y, y ∈ P → inLane a G.tb (mskG G) (worK env G.ag) y = true → hitB a T G env y = false := fun y hy => h y (List.mem_cons_of_mem _ hy)
      unfold lanL
      cases hi : inLane a G.tb (mskG G) (worK env G.ag) x with
      | false =>
        rw [if_neg (by decide), List.filter_cons_of_neg (by rw [hi]; decide)]
        exact scanQ_skip P l hP hs
      | true =>
        rw [if_pos rfl, List.filter_cons_of_pos hi, h x List.mem_cons_self hi, if_neg (show ¬ (false = true) by decide), List.length_cons]
        by_cases hm : mostL < l + 1
        · rw [if_pos hm]
          exact ⟨fun z => absurd z (by omega), fun _ => hm⟩
        · rw [if_neg hm]
          obtain ⟨h1, h2⟩ := scanQ_skip P (l + 1) hP (show l + 1 ≤ mostL by omega)
          unfold lanL at h1 h2
          refine ⟨fun z => ?_, fun z => h2 (by omega)⟩
          rw [h1 (by omega), show l + (P.filter (inLane a G.tb (mskG G) (worK env G.ag))).length.succ = (l + 1) + (P.filter (inLane a G.tb (mskG G) (worK env G.ag))).length by omega]
/-- one that is a hit -/
theorem scanQ_hit {n : Nat} (hi : inLane a G.tb (mskG G) (worK env G.ag) n = true) (hh : hitB a T G env n = true) (hl : l + 1 ≤ mostL) : scanQ a T G env (n :: R) l = (l + 1, some (n, R)) := by
  show (if inLane a G.tb (mskG G) (worK env G.ag) n then (if mostL < l + 1 then (l + 1, none) else if hitB a T G env n then (l + 1, some (n, R)) else scanQ a T G env R (l + 1)) else scanQ a T G env R l) = _
  rw [if_pos hi, if_neg (by omega), if_pos hh]
/-- one that makes too many -/
theorem scanQ_full {n : Nat} (hi : inLane a G.tb (mskG G) (worK env G.ag) n = true) (hl : mostL < l + 1) : mostL < (scanQ a T G env (n :: R) l).1 := by
  show mostL < (if inLane a G.tb (mskG G) (worK env G.ag) n then (if mostL < l + 1 then (l + 1, none) else if hitB a T G env n then (l + 1, some (n, R)) else scanQ a T G env R (l + 1)) else scanQ a T G env R l).1
  rw [if_pos hi, if_pos hl]; exact hl
/-- one that isn't -/
theorem scanQ_no {n : Nat} (hi : inLane a G.tb (mskG G) (worK env G.ag) n = true) (hh : hitB a T G env n = false) (hl : l + 1 ≤ mostL) : scanQ a T G env (n :: R) l = scanQ a T G env R (l + 1) := by
  show (if inLane a G.tb (mskG G) (worK env G.ag) n then (if mostL < l + 1 then (l + 1, none) else if hitB a T G env n then (l + 1, some (n, R)) else scanQ a T G env R (l + 1)) else scanQ a T G env R l) = _
  rw [if_pos hi, if_neg (by omega), hh]; rfl
theorem scanQ_out {n : Nat} (hi : inLane a G.tb (mskG G) (worK env G.ag) n = false) : scanQ a T G env (n :: R) l = scanQ a T G env R l := by
  show (if inLane a G.tb (mskG G) (worK env G.ag) n then (if mostL < l + 1 then (l + 1, none) else if hitB a T G env n then (l + 1, some (n, R)) else scanQ a T G env R (l + 1)) else scanQ a T G env R l) = _
  rw [hi]; rfl
/-- along a row: to the first hit, and on -/
theorem foldQ_scan : ∀ (L : List Nat) (s : SQ), s.1 ≤ mostL → foldQ a T G env f L s = match scanQ a T G env L s.1 with
    | (l, none) => (l, s.2)
    | (l, some p) => foldQ a T G env f p.2 (f p.1 (l, s.2))
  | [], s, h => rfl
  | x :: L, s, h => by
      rw [show foldQ a T G env f (x :: L) s = (if mostL < s.1 then s else if inLane a G.tb (mskG G) (worK env G.ag) x then (if mostL < s.1 + 1 then (s.1 + 1, s.2) else if hitB a T G env x then foldQ a T G env f L (f x (s.1 + 1, s.2)) else foldQ a T G env f L (s.1 + 1, s.2)) else foldQ a T G env f L s) from rfl, show scanQ a T G env (x :: L) s.1 = (if inLane a G.tb (mskG G) (worK env G.ag) x then (if mostL < s.1 + 1 then (s.1 + 1, none) else if hitB a T G env x then (s.1 + 1, some (x, L)) else scanQ a T G env L (s.1 + 1)) else scanQ a T G env L s.1) from rfl]
      rw [if_neg (by omega)]
      by_cases hi : inLane a G.tb (mskG G) (worK env G.ag) x = true
      · rw [if_pos hi, if_pos hi]
        by_cases hm : mostL < s.1 + 1
        · rw [if_pos hm, if_pos hm]
        · rw [if_neg hm, if_neg hm]
          by_cases hh : hitB a T G env x = true
          · rw [if_pos hh, if_pos hh]
          · rw [if_neg hh, if_neg hh]
            exact foldQ_scan L (s.1 + 1, s.2) (by show s.1 + 1 ≤ mostL; omega)
      · rw [if_neg hi, if_neg hi]
        exact foldQ_scan L s h
theorem foldQ_none (h : s.1 ≤ mostL) (hn : (scanQ a T G env L s.1).2 = none) : foldQ a T G env f L s = ((scanQ a T G env L s.1).1, s.2) := by
  rw [foldQ_scan L s h]
  generalize scanQ a T G env L s.1 = r at hn ⊢
  obtain ⟨l, w⟩ := r
  cases hn; rfl
theorem foldQ_some {l' x : Nat} (h : s.1 ≤ mostL) (hn : scanQ a T G env L s.1 = (l', some (x, R))) : foldQ a T G env f L s = foldQ a T G env f R (f x (l', s.2)) := by
  rw [foldQ_scan L s h, hn]
theorem foldQ_le (hf : ∀ x s, s.1 ≤ (f x s).1) : ∀ (L : List Nat) (s : SQ), s.1 ≤ (foldQ a T G env f L s).1
  | [], s => Nat.le_refl _
  | x :: L, s => by
      unfold foldQ
      split
      · exact Nat.le_refl _
      · split
        · split
          · exact Nat.le_succ _
          · split
            · exact Nat.le_trans (Nat.le_trans (Nat.le_succ _) (hf x (s.1 + 1, s.2))) (foldQ_le hf L _)
            · exact Nat.le_trans (Nat.le_succ _) (foldQ_le hf L (s.1 + 1, s.2))
        · exact foldQ_le hf L s
/-- too many in a stretch: too many in all -/
theorem foldQ_full (hf : ∀ x s, s.1 ≤ (f x s).1) (h : s.1 ≤ mostL) (hn : mostL < (scanQ a T G env L s.1).1) : mostL < (foldQ a T G env f L s).1 := by
  rw [foldQ_scan L s h]
  generalize scanQ a T G env L s.1 = r at hn ⊢
  obtain ⟨l, w⟩ := r
  cases w with
  | none => exact hn
  | some p => exact Nat.lt_of_lt_of_le hn (Nat.le_trans (hf p.1 (l, s.2)) (foldQ_le hf p.2 _))
theorem solA_le : ∀ (Gs : List QG) (env : Nat → Int32) (s : SQ), s.1 ≤ (solA a T Gs env s).1
  | [], env, s => Nat.le_refl _
  | G :: Gs, env, s => by
      unfold solA
      split
      · exact foldQ_le (fun x s => solA_le Gs _ s) _ s
      · split
        · split
          · exact scanQ_le _ _
          · exact Nat.le_trans (scanQ_le (a := a) (T := T) (G := G) (env := env) (a.rw G.tb) s.1) (solA_le Gs env ((scanQ a T G env (a.rw G.tb) s.1).1, s.2))
        · split
          · split
            · exact solA_le Gs env s
            · exact Nat.le_refl _
          · exact solA_le Gs _ s
/-- no more solutions than were looked at -/
theorem foldQ_cnt (hf : ∀ x s, s.1 ≤ (f x s).1 ∧ (f x s).2.1 + s.1 ≤ s.2.1 + (f x s).1 + 1) : ∀ (L : List Nat) (s : SQ), (foldQ a T G env f L s).2.1 + s.1 ≤ s.2.1 + (foldQ a T G env f L s).1
  | [], s => Nat.le_refl _
  | x :: L, s => by
      unfold foldQ
      split
      · exact Nat.le_refl _
      · split
        · split
          · show s.2.1 + s.1 ≤ s.2.1 + (s.1 + 1); omega
          · split
            · have h1 := hf x (s.1 + 1, s.2)
              have h2 := foldQ_cnt hf L (f x (s.1 + 1, s.2))
              have h3 : (f x (s.1 + 1, s.2)).2.1 + (s.1 + 1) ≤ s.2.1 + (f x (s.1 + 1, s.2)).1 + 1 := h1.2
              omega
            · have h2 : _ + (s.1 + 1) ≤ s.2.1 + _ := foldQ_cnt hf L (s.1 + 1, s.2)
              omega
        · exact foldQ_cnt hf L s
theorem solA_cnt : ∀ (Gs : List QG) (env : Nat → Int32) (s : SQ), (solA a T Gs env s).2.1 + s.1 ≤ s.2.1 + (solA a T Gs env s).1 + 1
  | [], env, s => by show s.2.1 + 1 + s.1 ≤ s.2.1 + s.1 + 1; omega
  | G :: Gs, env, s => by
      unfold solA
      split
      · have := foldQ_cnt (a := a) (T := T) (G := G) (env := env) (f := fun x s => solA a T Gs (bindE a env G x) s) (fun x s => ⟨solA_le Gs _ s, solA_cnt Gs _ s⟩) (a.rw G.tb) s
        omega
      · split
        · have h0 := scanQ_le (a := a) (T := T) (G := G) (env := env) (a.rw G.tb) s.1
          split
          · show s.2.1 + s.1 ≤ s.2.1 + (scanQ a T G env (a.rw G.tb) s.1).1 + 1; omega
          · have h1 : _ + (scanQ a T G env (a.rw G.tb) s.1).1 ≤ s.2.1 + _ + 1 := solA_cnt Gs env ((scanQ a T G env (a.rw G.tb) s.1).1, s.2)
            omega
        · split
          · split
            · exact solA_cnt Gs env s
            · omega
          · exact solA_cnt Gs _ s
end SS1
/-- how a goal changes what is known -/
def aftK (G : QG) : Nat → Bool := if G.kd = 0 then mkKn G.kn G.ag else if 5 ≤ G.kd then va_up G.kn (worV G.ag) true else G.kn
/-- goals of tables tn, co -/
def WfG (tn : Int32) (co : Nat → Int32) (G : QG) : Prop := G.kd ≤ 7 ∧ (∀ x, x ∈ G.ag → argOk x) ∧ (G.kd ≤ 1 → (G.tb : Int) < tn.toInt ∧ (G.ag.length : Int) = (co G.tb).toInt) ∧ (2 ≤ G.kd → G.kd ≤ 4 → ∃ x y, G.ag = [x, y] ∧ knB G.kn x = true ∧ knB G.kn y = true ∧ x.1 ≠ 2 ∧ y.1 ≠ 2) ∧ (5 ≤ G.kd → ∃ z x y, G.ag = [z, x, y] ∧ z.1 = 1 ∧ G.kn (ix z.2) = false ∧ knB G.kn x = true ∧ knB G.kn y = true ∧ x.1 ≠ 2 ∧ y.1 ≠ 2)
/-- from kn on, to kf in the end -/
def KnCh (tn : Int32) (co : Nat → Int32) (kf : Nat → Bool) : List QG → (Nat → Bool) → Prop
  | [], kn => kn = kf
  | G :: Gs, kn => WfG tn co G ∧ G.kn = kn ∧ KnCh tn co kf Gs (aftK G)
section SS2
variable {tp : Nat → Int32} {n : Nat} {tn : Int32} {co : Nat → Int32}
theorem taA_ln2 : ∀ (k i : Nat) (L : List QA) (j : Nat), taA tp n k i = some (L, j) → L.length = k + 1 ∧ ∀ x, x ∈ L → argOk x
  | 0, i, L, j, h => by
      unfold taA at h
      obtain ⟨r, hr, e⟩ := Option.map_eq_some_iff.mp h
      cases e
      exact ⟨rfl, fun x hx => by rw [List.mem_singleton.mp hx]; exact (agA_ok (x := r.1) (j := r.2) hr).1⟩
  | k + 1, i, L, j, h => by
      unfold taA at h
      obtain ⟨r, hr, e⟩ := Option.bind_eq_some_iff.mp h
      split at e
      · obtain ⟨s, hs, e⟩ := Option.map_eq_some_iff.mp e
        cases e
        obtain ⟨h1, h2⟩ := taA_ln2 k _ s.1 s.2 hs
        refine ⟨by rw [List.length_cons, h1], fun x hx => ?_⟩
        rcases List.mem_cons.mp hx with y | y
        · rw [y]; exact (agA_ok (x := r.1) (j := r.2) hr).1
        · exact h2 x y
      · cases e
theorem tgA_wf (hco : ∀ t : Nat, (t : Int) < tn.toInt → 1 ≤ (co t).toInt) {i j : Nat} {r : Nat × List QA} (h : tgA tp n tn co i = some (r, j)) : (r.1 : Int) < tn.toInt ∧ (r.2.length : Int) = (co r.1).toInt ∧ ∀ x, x ∈ r.2 → argOk x := by
  unfold tgA at h
  split at h
  · obtain ⟨w, hw, e⟩ := Option.bind_eq_some_iff.mp h
    split at e
    · rename_i hc
      obtain ⟨s, hs, e⟩ := Option.bind_eq_some_iff.mp e
      split at e
      · cases e
        have hv : ((ix w.1 : Nat) : Int) < tn.toInt := by rw [ix_int hc.1.1]; exact hc.1.2
        obtain ⟨l1, l2⟩ := taA_ln2 _ _ s.1 s.2 hs
        have := hco _ hv
        exact ⟨hv, by show (s.1.length : Int) = (co (ix w.1)).toInt; omega, l2⟩
      · cases e
    · cases e
  · cases h
theorem kaA_wf {kn : Nat → Bool} {i j : Nat} {x : QA} (h : kaA tp n kn i = some (x, j)) : argOk x ∧ knB kn x = true ∧ x.1 ≠ 2 := by
  unfold kaA at h
  obtain ⟨s, hs, e⟩ := Option.bind_eq_some_iff.mp h
  split at e
  · rename_i hk
    cases e
    have := agA_ok (x := x) (j := j) hs
    exact ⟨this.1, hk, this.2 rfl⟩
  · cases e
theorem sgA_wf {kn k2 : Nat → Bool} {i j : Nat} {G : QG} (h : sgA tp n kn i = some ((G, k2), j)) : WfG tn co G ∧ G.kn = kn ∧ aftK G = k2 := by
  unfold sgA at h
  obtain ⟨x, hx, e⟩ := Option.bind_eq_some_iff.mp h
  have okx := agA_ok (x := x.1) (j := x.2) hx
  split at e
  · rename_i hc
    split at e
    · cases e
    · rename_i hk
      obtain ⟨l, hl, e⟩ := Option.bind_eq_some_iff.mp e
      have okl := kaA_wf (x := l.1) (j := l.2) hl
      split at e
      · obtain ⟨r, hr, e⟩ := Option.map_eq_some_iff.mp e
        have okr := kaA_wf (x := r.1) (j := r.2) hr
        have e := (Prod.mk.inj e).1
        obtain ⟨e1, e2⟩ := Prod.mk.inj e
        have hkx : kn (ix x.1.2) = false := by
          unfold knB at hk
          rw [hc.2] at hk
          cases hq : kn (ix x.1.2) with
          | false => rfl
          | true => rw [hq] at hk; exact absurd rfl hk
        have k57 : 5 ≤ G.kd ∧ G.kd ≤ 7 := by
          rw [← e1]
          show 5 ≤ (if byA tp n (blA tp n l.2) = 43 then 5 else if byA tp n (blA tp n l.2) = 45 then 6 else 7) ∧ (if byA tp n (blA tp n l.2) = 43 then 5 else if byA tp n (blA tp n l.2) = 45 then 6 else 7) ≤ 7
          split
          · omega
          · split <;> omega
        have eag : G.ag = [x.1, l.1, r.1] := by rw [← e1]
        have ekn : G.kn = kn := by rw [← e1]
        refine ⟨⟨k57.2, ?_, fun z => by omega, fun z1 z2 => by omega, fun _ => ⟨x.1, l.1, r.1, eag, hc.2, by rw [ekn]; exact hkx, by rw [ekn]; exact okl.2.1, by rw [ekn]; exact okr.2.1, okl.2.2, okr.2.2⟩⟩, ekn, ?_⟩
        · rw [eag]
          intro y hy
          rcases List.mem_cons.mp hy with y1 | y1
          · rw [y1]; exact okx.1
          · rcases List.mem_cons.mp y1 with y2 | y2
            · rw [y2]; exact okl.1
            · rw [List.mem_singleton.mp y2]; exact okr.1
        · unfold aftK
          rw [if_neg (by omega), if_pos k57.1, eag, ekn]
          exact e2
      · cases e
  · split at e
    · rename_i hc
      obtain ⟨r, hr, e⟩ := Option.map_eq_some_iff.mp e
      have okr := kaA_wf (x := r.1) (j := r.2) hr
      have e := (Prod.mk.inj e).1
      obtain ⟨e1, e2⟩ := Prod.mk.inj e
      have k24 : 2 ≤ G.kd ∧ G.kd ≤ 4 := by
        rw [← e1]
        show 2 ≤ (if byA tp n (blA tp n x.2) = 60 then 2 else if byA tp n (blA tp n x.2) = 61 then 3 else 4) ∧ (if byA tp n (blA tp n x.2) = 60 then 2 else if byA tp n (blA tp n x.2) = 61 then 3 else 4) ≤ 4
        split
        · omega
        · split <;> omega
      have eag : G.ag = [x.1, r.1] := by rw [← e1]
      have ekn : G.kn = kn := by rw [← e1]
      refine ⟨⟨by omega, ?_, fun z => by omega, fun _ _ => ⟨x.1, r.1, eag, by rw [ekn]; exact hc.2, by rw [ekn]; exact okr.2.1, okx.2 rfl, okr.2.2⟩, fun z => by omega⟩, ekn, ?_⟩
      · rw [eag]
        intro y hy
        rcases List.mem_cons.mp hy with y1 | y1
        · rw [y1]; exact okx.1
        · rw [List.mem_singleton.mp y1]; exact okr.1
      · unfold aftK
        rw [if_neg (by omega), if_neg (by omega), ekn]
        exact e2
    · cases e
theorem ogA_wf (hco : ∀ t : Nat, (t : Int) < tn.toInt → 1 ≤ (co t).toInt) {kn k2 : Nat → Bool} {i j : Nat} {G : QG} (h : ogA tp n tn co kn i = some ((G, k2), j)) : WfG tn co G ∧ G.kn = kn ∧ aftK G = k2 := by
  unfold ogA at h
  split at h
  · obtain ⟨r, hr, e⟩ := Option.map_eq_some_iff.mp h
    cases e
    obtain ⟨w1, w2, w3⟩ := tgA_wf (r := r.1) (j := r.2) hco hr
    exact ⟨⟨by show 0 ≤ 7; omega, w3, fun _ => ⟨w1, w2⟩, fun z => absurd z (by show ¬ 2 ≤ 0; omega), fun z => absurd z (by show ¬ 5 ≤ 0; omega)⟩, rfl, rfl⟩
  · split at h
    · obtain ⟨r, hr, e⟩ := Option.map_eq_some_iff.mp h
      cases e
      obtain ⟨w1, w2, w3⟩ := tgA_wf (r := r.1) (j := r.2) hco hr
      exact ⟨⟨by show 1 ≤ 7; omega, w3, fun _ => ⟨w1, w2⟩, fun z => absurd z (by show ¬ 2 ≤ 1; omega), fun z => absurd z (by show ¬ 5 ≤ 1; omega)⟩, rfl, rfl⟩
    · exact sgA_wf h
/-- what a text says is well made -/
theorem quA_wf (hco : ∀ t : Nat, (t : Int) < tn.toInt → 1 ≤ (co t).toInt) : ∀ (f : Nat) (kn kf : Nat → Bool) (i : Nat) (Gs : List QG), quA tp n tn co f kn i = some (Gs, kf) → KnCh tn co kf Gs kn
  | 0, kn, kf, i, Gs, h => by cases h
  | f + 1, kn, kf, i, Gs, h => by
      unfold quA at h
      obtain ⟨r, hr, e⟩ := Option.bind_eq_some_iff.mp h
      obtain ⟨w1, w2, w3⟩ := ogA_wf (G := r.1.1) (k2 := r.1.2) (j := r.2) hco hr
      split at e
      · cases e
        exact ⟨w1, w2, w3⟩
      · split at e
        · obtain ⟨s, hs, e⟩ := Option.map_eq_some_iff.mp e
          cases e
          exact ⟨w1, w2, by rw [w3]; exact quA_wf hco f r.1.2 s.2 _ s.1 hs⟩
        · cases e
end SS2
