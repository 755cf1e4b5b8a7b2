set_option linter.unusedVariables false
set_option linter.unusedSimpArgs false
/-! the reference: matching a goal -/
def EnvM (kn : Nat → Bool) (env : Nat → Int32) (ar : Nat → Nat → Int32) : Prop := ∀ j, j < 8 → kn j = true → ar 50 j = env j
/-- the reference as it stands while a question is solved -/
def SMh (a : AS) (sl : Nat → Nat) (Ga : List QG) (fi : Nat → Int32) (ar : Nat → Nat → Int32) : Prop := RXf a sl ar ∧ RA a.1 fi ar ∧ fi 39 ≠ 0 ∧ (fi 49).toInt = (Ga.length : Int) ∧ Ga.length ≤ 10 ∧ ∀ g G, Ga[g]? = some G → GoM g G ar
/-- what solving may change -/
def FrSv (fi fi' : Nat → Int32) (ar ar' : Nat → Nat → Int32) : Prop := (∀ j, j ≠ 38 → fi' j = fi j) ∧ ∀ j, j ∉ [50, 51, 52, 54] → ar' j = ar j
/-- a pair of columns: the same variable, the same value -/
def oneP (a : AS) (L : List QA) (n k i : Nat) : Bool := match L[k]?, L[i]? with
  | some x, some y => !(x.1 == 1 && y.1 == 1 && x.2 == y.2) || a.fc n k == a.fc n i
  | _, _ => true
theorem oneB_P {a : AS} {L : List QA} {n : Nat} : oneB a L n = (List.range L.length).all fun k => (List.range k).all fun i => oneP a L n k i := rfl
theorem ofN1 : ∀ k : Fin 8, ∀ j : Fin 8, Int32.ofNat k.val = Int32.ofNat j.val → k.val = j.val := by decide
theorem ofN {k j : Nat} (hk : k < 8) (hj : j < 8) : Int32.ofNat k = Int32.ofNat j ↔ k = j := ⟨fun z => ofN1 ⟨k, hk⟩ ⟨j, hj⟩ z, fun z => by rw [z]⟩
section SX1
variable {b : MT} {fi fi' fi'' : Nat → Int32} {ar ar' ar'' : Nat → Nat → Int32} {a : AS} {sl : Nat → Nat} {Ga Gs : List QG} {G : QG} {env : Nat → Int32} {kn : Nat → Bool} {x : QA} {t n l g i k : Nat} {s : SQ} {X X' : String → HS → Prop} {Q Q' : HS → Prop} {QI QI' : Int32 → HS → Prop}
theorem FrSv_rf : FrSv fi fi ar ar := ⟨fun _ _ => rfl, fun _ _ => rfl⟩
theorem FrSv_tr (h : FrSv fi fi' ar ar') (h2 : FrSv fi' fi'' ar' ar'') : FrSv fi fi'' ar ar'' := ⟨fun j z => (h2.1 j z).trans (h.1 j z), fun j z => (h2.2 j z).trans (h.2 j z)⟩
theorem FrSv_38 {v : Int32} : FrSv fi (va_up fi 38 v) ar ar := ⟨fun j z => va_up_ne _ _ z, fun _ _ => rfl⟩
theorem FrSv_ar {j0 : Nat} (hj : j0 ∈ [50, 51, 52, 54]) (h : ∀ j, j ≠ j0 → ar' j = ar j) : FrSv fi fi ar ar' := ⟨fun _ _ => rfl, fun j z => h j (fun y => z (by rw [y]; exact hj))⟩
theorem GoM_eq (h : GoM g G ar) (he : ∀ j, j ∈ [44, 45, 46, 47, 48] → ar' j = ar j) : GoM g G ar' := by
  unfold GoM AgM at h ⊢
  rw [he 44 (by decide), he 45 (by decide), he 46 (by decide), he 47 (by decide), he 48 (by decide)]
  exact h
theorem SMh_fr (h : SMh a sl Ga fi ar) (hf : FrSv fi fi' ar ar') : SMh a sl Ga fi' ar' := by
  obtain ⟨h1, h2, h3, h4, h5, h6⟩ := h
  refine ⟨?_, ?_, by rw [hf.1 39 (by decide)]; exact h3, by rw [hf.1 49 (by decide)]; exact h4, h5, fun g G hG => GoM_eq (h6 g G hG) (fun j hj => hf.2 j (fun z => by simp only [List.mem_cons, List.not_mem_nil, or_false] at hj z; omega))⟩
  · unfold RXf RF1 at h1 ⊢
    rw [hf.2 18 (by decide), hf.2 7 (by decide), hf.2 17 (by decide), hf.2 8 (by decide), hf.2 11 (by decide), hf.2 12 (by decide), hf.2 13 (by decide), hf.2 14 (by decide), hf.2 15 (by decide), hf.2 16 (by decide)]
    exact h1
  · unfold RA at h2 ⊢
    rw [hf.1 2 (by decide), hf.1 10 (by decide), hf.2 3 (by decide), hf.2 4 (by decide), hf.2 5 (by decide)]
    exact h2
theorem ns_worth {p : Int32} (hb : MB b) (hx : argOk x) (h46 : ar 46 (ix p) = Int32.ofNat x.1) (h47 : ar 47 (ix p) = x.2) (he : x.1 = 1 → ar 50 (ix x.2) = env (ix x.2)) (h : QI (worA env x) (mS b fi ar) → QI' (worA env x) (mS b fi ar)) : w_X12_worth (some b.o) p (mS b fi ar) QI X → w_X12_worth (some b.o) p (mS b fi ar) QI' X' := by
  have hx2 := hx.1
  unfold w_X12_worth
  refine n_getF hb (by decide) (nv_ald hb (by decide) (by decide) (fun _ => ?_))
  rw [h46]
  dsimp only [wJoin]
  have e1 : Int32.ofNat x.1 = 1 ↔ x.1 = 1 := ofN (j := 1) (by omega) (by omega)
  unfold worA at h
  refine qv_if (fun z => ?_) (fun z => ?_)
  · have hx1 := e1.mp z
    rw [if_pos hx1] at h
    refine n_getF hb (by decide) (n_getF hb (by decide) (nv_ald hb (by decide) (by decide) (fun _ => ?_)))
    rw [h47]
    refine nv_ald hb (by decide) (by decide) (fun _ => ?_)
    rw [he hx1]; exact h
  · rw [if_neg (fun y => z (e1.mpr y))] at h
    refine n_getF hb (by decide) (nv_ald hb (by decide) (by decide) (fun _ => ?_))
    rw [h47]; exact h
/-- a goal of a table, in the reference's arrays -/
theorem goal_at (hS : SMh a sl Ga fi ar) (hV : AV a) (hG : Ga[g]? = some G) (hk : G.kd ≤ 1) (hw : WfG a.tn a.co G) : g < 10 ∧ ix (ar 45 g) = G.tb ∧ ar 4 G.tb = a.co G.tb ∧ (G.ag.length : Int) = (a.co G.tb).toInt ∧ G.ag.length ≤ 4 ∧ inT a G.tb := by
  obtain ⟨h1, h2, h3, h4, h5, h6⟩ := hS
  have hg : g < 10 := by have := (List.getElem?_eq_some_iff.mp hG).1; omega
  obtain ⟨w3, w4⟩ := hw.2.2.1 hk
  have hco := (hV.2.1.2 _ w3).2.1
  exact ⟨hg, ix_of ((h6 g G hG).2.1 hk), (h2.2.2.2 _ w3).1, w4, by omega, w3⟩
theorem ns_isOne {gv f : Int32} (hb : MB b) (hS : SMh a sl Ga fi ar) (hV : AV a) (hgv : gv.toInt = (g : Int)) (hG : Ga[g]? = some G) (hk : G.kd ≤ 1) (hw : WfG a.tn a.co G) (hn : n ∈ a.rw G.tb) (hf : f.toInt = (sl n : Int)) (h : QI (if oneB a G.ag n then 1 else 0) (mS b fi ar) → QI' (if oneB a G.ag n then 1 else 0) (mS b fi ar)) : w_X12_isOne (some b.o) gv f (mS b fi ar) QI X → w_X12_isOne (some b.o) gv f (mS b fi ar) QI' X' := by
  obtain ⟨g10, e45, e4, el, el4, hin⟩ := goal_at hS hV hG hk hw
  obtain ⟨r1, r2, r3, r4, -⟩ := hS.1.2.1 _ n hn
  have hag := (hS.2.2.2.2.2 g G hG).2.2.1
  have hok := hw.2.1
  have gi : ix gv = g := ix_of hgv
  unfold w_X12_isOne
  refine n_getF hb (by decide) (n_getF hb (by decide) (nv_ald hb (by decide) (by decide) (fun _ => nv_ald hb (by decide) (by decide) (fun _ => ?_))))
  rw [gi, e45, e4]
  refine n_loopV (b := b) (fun (v : Int32) fi' ar' => fi' = fi ∧ ar' = ar ∧ ∃ k : Nat, v.toInt = (k : Int) ∧ k ≤ G.ag.length ∧ ∀ k', k' < k → ∀ i', i' < k' → oneP a G.ag n k' i' = true) ⟨rfl, rfl, 0, by decide, Nat.zero_le _, fun k' hk' => absurd hk' (by omega)⟩ (fun v fi' ar' again again' ⟨e1, e2, k, k1, k2, k3⟩ ha => ?_)
  subst e1; subst e2
  refine qv_if (fun c => ?_) (fun c => ?_)
  · rw [i32.2.1] at c
    have : oneB a G.ag n = true := by
      rw [oneB_P, range_all]
      intro k' hk'
      rw [range_all]
      exact k3 k' (by omega)
    rw [this] at h
    exact q_bit h
  rw [i32.2.1] at c
  have hkl : k < G.ag.length := by omega
  have v1 : (v + 1).toInt = ((k + 1 : Nat) : Int) := by rw [i_add k1 (show (1 : Int32).toInt = 1 by decide) (by omega)]; omega
  refine n_loopV (b := b) (fun (u : Int32 × Int32) fi2 ar2 => fi2 = fi' ∧ ar2 = ar' ∧ u.1 = v ∧ ∃ i : Nat, u.2.toInt = (i : Int) ∧ i ≤ k ∧ ∀ i', i' < i → oneP a G.ag n k i' = true) ⟨rfl, rfl, rfl, 0, show (0 : Int32).toInt = ((0 : Nat) : Int) by decide, Nat.zero_le _, fun i' hi' => absurd hi' (by omega)⟩ (fun u fi2 ar2 again2 again2' ⟨e1, e2, eu, i, i1, i2, i3⟩ ha2 => ?_)
  subst e1; subst e2
  rw [eu]
  refine qv_if (fun c2 => ?_) (fun c2 => ?_)
  · rw [i32.2.1] at c2
    refine ha _ _ _ ⟨rfl, rfl, k + 1, v1, hkl, fun k' hk' i' hi' => ?_⟩
    by_cases e : k' = k
    · rw [e] at hi' ⊢; exact i3 i' (by omega)
    · exact k3 k' (by omega) i' hi'
  rw [i32.2.1] at c2
  have hik : i < k := by omega
  obtain ⟨x, hx⟩ : ∃ x, G.ag[k]? = some x := ⟨_, List.getElem?_eq_getElem hkl⟩
  obtain ⟨y, hy⟩ : ∃ y, G.ag[i]? = some y := ⟨_, List.getElem?_eq_getElem (show i < G.ag.length by omega)⟩
  have okx := (hok x (List.mem_of_getElem? hx)).1
  have oky := (hok y (List.mem_of_getElem? hy)).1
  have ep : ((5 : Int32) * gv + v).toInt = ((5 * g + k : Nat) : Int) := by rw [i_add (i_mul (show (5 : Int32).toInt = 5 by decide) hgv (by omega)) k1 (by omega)]; omega
  have eq : ((5 : Int32) * gv + u.2).toInt = ((5 * g + i : Nat) : Int) := by rw [i_add (i_mul (show (5 : Int32).toInt = 5 by decide) hgv (by omega)) i1 (by omega)]; omega
  have fp : ((4 : Int32) * f + v).toInt = ((4 * sl n + k : Nat) : Int) := by rw [i_add (i_mul (show (4 : Int32).toInt = 4 by decide) hf (by omega)) k1 (by omega)]; omega
  have fq : ((4 : Int32) * f + u.2).toInt = ((4 * sl n + i : Nat) : Int) := by rw [i_add (i_mul (show (4 : Int32).toInt = 4 by decide) hf (by omega)) i1 (by omega)]; omega
  obtain ⟨x46, x47⟩ := hag k x hx
  obtain ⟨y46, y47⟩ := hag i y hy
  have eP : oneP a G.ag n k i = (!(x.1 == 1 && y.1 == 1 && x.2 == y.2) || a.fc n k == a.fc n i) := by unfold oneP; rw [hx, hy]
  have nxt : oneP a G.ag n k i = true → again2 (v, u.2 + 1) (mS b fi2 ar2) → again2' (v, u.2 + 1) (mS b fi2 ar2) := fun ho => ha2 _ _ _ ⟨rfl, rfl, rfl, i + 1, by show (u.2 + 1).toInt = _; rw [i_add i1 (show (1 : Int32).toInt = 1 by decide) (by omega)]; omega, hik, fun i' hi' => by
    by_cases e : i' = i
    · rw [e]; exact ho
    · exact i3 i' (by omega)⟩
  refine n_getF hb (by decide) (nv_ald hb (by decide) (by decide) (fun _ => ?_))
  rw [ix_of ep, x46]
  dsimp only [wJoin]
  have ex1 : Int32.ofNat x.1 = 1 ↔ x.1 = 1 := ofN (j := 1) (by omega) (by omega)
  have ey1 : Int32.ofNat y.1 = 1 ↔ y.1 = 1 := ofN (j := 1) (by omega) (by omega)
  refine qv_if (fun z1 => ?_) (fun z1 => nxt ?_)
  · refine n_getF hb (by decide) (nv_ald hb (by decide) (by decide) (fun _ => ?_))
    rw [ix_of eq, y46]
    refine qv_if (fun z2 => ?_) (fun z2 => nxt ?_)
    · refine n_getF hb (by decide) (nv_ald hb (by decide) (by decide) (fun _ => n_getF hb (by decide) (nv_ald hb (by decide) (by decide) (fun _ => ?_))))
      rw [ix_of ep, ix_of eq, x47, y47]
      refine qv_if (fun z3 => ?_) (fun z3 => nxt ?_)
      · refine n_getF hb (by decide) (nv_ald hb (by decide) (by decide) (fun _ => n_getF hb (by decide) (nv_ald hb (by decide) (by decide) (fun _ => ?_))))
        rw [ix_of fp, ix_of fq, r4 k (by omega), r4 i (by omega)]
        refine qv_if (fun z4 => nxt ?_) (fun z4 => ?_)
        · rw [eP, beq_iff_eq.mpr z4, Bool.or_true]
        · have : oneB a G.ag n = false := oneB_no hx hy hik (ex1.mp z1) (ey1.mp z2) z3 z4
          rw [this] at h
          exact q_bit h
      · rw [eP, beq_eq_false_iff_ne.mpr z3, Bool.and_false]; rfl
    · rw [eP, beq_eq_false_iff_ne.mpr (fun w => z2 (ey1.mpr w)), Bool.and_false, Bool.false_and]; rfl
  · rw [eP, beq_eq_false_iff_ne.mpr (fun w => z1 (ex1.mpr w)), Bool.false_and, Bool.false_and]; rfl
/-- the words behind the mask -/
def w_mtLoop (l0 : Option Nat) (l1 v2 m l3 v11 : Int32) (x10 : HS) (Q : Int32 → HS → Prop) (X : String → HS → Prop) : Prop :=
 wLoop (σ := Int32) (fun v15 x14 again12 =>
 wJoin (κ := HS → Prop) (fun  (x17 : HS) =>
 Q v15 x17) (fun j16 =>
 wIf (v15 < 0)
 (j16 x14)
 (wRecv x14 12 l0
 (w_X12_isOne l0 l1 v15 x14 (fun v19 x18 =>
 wIf (v19 = 0)
 (wGetI x18 12 38 l0 fun v20 =>
 wJoin (κ := Int32 → HS → Prop) (fun (v23 : Int32) (x22 : HS) =>
 again12 v23 x22) (fun j21 =>
 wIf (v20 ≤ 50000)
 (wGetF x18 12 18 l0 fun v24 =>
 wAldJ x18 20 v24 v15 fun v25 =>
 wGetF x18 12 52 l0 fun v26 =>
 wRecv x18 12 l0
 (w_X12_seek l0 v2 v25 m l3 v26 0 x18 (fun v28 x27 =>
 j21 v28 x27) X))
 (j21 (-1) x18)))
 (j16 x18)) X)))) v11 x10
theorem w_mt (l0 : Option Nat) (l1 l2 l3 : Int32) (x : HS) (Q : Int32 → HS → Prop) (X : String → HS → Prop) : w_X12_match l0 l1 l2 l3 x Q X = wGetF x 12 45 l0 fun v1 => wAldJ x 20 v1 l1 fun v2 =>
 wLoop (σ := Int32 × Int32) (fun v6 x5 again3 =>
 wGetF x5 12 4 l0 fun v7 =>
 wAldJ x5 20 v7 v2 fun v8 =>
 wIf (v8 ≤ v6.2)
 (wGetF x5 12 52 l0 fun v9 =>
 wRecv x5 12 l0
 (w_X12_seek l0 v2 l2 v6.1 l3 v9 0 x5 (fun v11 x10 => w_mtLoop l0 l1 v2 v6.1 l3 v11 x10 Q X) X))
 (wGetF x5 12 46 l0 fun v29 =>
 wAldJ x5 20 v29 (((5 : Int32) * l1) + v6.2) fun v30 =>
 wJoin (κ := Int32 → HS → Prop) (fun (v33 : Int32) (x32 : HS) =>
 again3 (v33, (v6.2 + 1)) x32) (fun j31 =>
 wIf (v30 = 2)
 (j31 v6.1 x5)
 (wRecv x5 12 l0
 (w_X12_isKnown l0 l1 (((5 : Int32) * l1) + v6.2) x5 (fun v35 x34 =>
 wIf (v35 = 0)
 (j31 v6.1 x34)
 (wGetF x34 12 52 l0 fun v36 =>
 wRecv x34 12 l0
 (w_X12_worth l0 (((5 : Int32) * l1) + v6.2) x34 (fun v38 x37 =>
 wAstI x37 v36 v6.2 v38 fun x39 =>
 j31 (v6.1 ||| ((1 : Int32) <<< (v6.2 &&& 31))) x39) X))) X))))) (0, 0) x := rfl
/-- what a match says: r, l' -/
def MtO (a : AS) (sl : Nat → Nat) (G : QG) (env : Nat → Int32) (T : Int) (L : List Nat) (l : Nat) (r : Int32) (l' : Nat) (oc : Option (Nat × List Nat)) : Prop := r.toInt = (match oc with | none => (-1 : Int) | some p => (sl p.1 : Int)) ∧ l ≤ l' ∧ l' ≤ mostL + 1 ∧ (mostL < l' → mostL < (scanQ a T G env L l).1) ∧ ∀ x R, oc = some (x, R) → (∃ P, L = P ++ x :: R) ∧ askB a G.tb (mskG G) (worK env G.ag) T x = true
theorem ns_mtLoop {gv tw T r0 : Int32} {L : List Nat} {l0 : Nat} {oc0 : Option (Nat × List Nat)} (hb : MB b) (hS : SMh a sl Ga fi ar) (hV : AV a) (hgv : gv.toInt = (g : Int)) (hG : Ga[g]? = some G) (hk : G.kd ≤ 1) (hw : WfG a.tn a.co G) (htw : tw.toInt = (G.tb : Int)) (hby : ∀ k, k < 4 → bitm (mskG G) k = true → ar 52 k = worK env G.ag k) (hLs : ∃ P, a.rw G.tb = P ++ L) (h0 : MtO a sl G env T.toInt L l r0 l0 oc0) (h01 : l0 ≤ mostL → oc0 = none → scanQ a T.toInt G env L l = (l0, none)) (h02 : ∀ x R, oc0 = some (x, R) → l0 ≤ mostL → (oneB a G.ag x = true → scanQ a T.toInt G env L l = (l0, some (x, R))) ∧ (oneB a G.ag x = false → scanQ a T.toInt G env L l = scanQ a T.toInt G env R l0))
    (h : ∀ (r : Int32) (l' : Nat) (oc : Option (Nat × List Nat)), MtO a sl G env T.toInt L l r l' oc → (∀ x R, oc = some (x, R) → oneB a G.ag x = true) → (l' ≤ mostL → scanQ a T.toInt G env L l = (l', oc)) → QI r (mS b (va_up fi 38 (Int32.ofNat l')) ar) → QI' r (mS b (va_up fi 38 (Int32.ofNat l')) ar)) : w_mtLoop (some b.o) gv tw (mskG G) T r0 (mS b (va_up fi 38 (Int32.ofNat l0)) ar) QI X → w_mtLoop (some b.o) gv tw (mskG G) T r0 (mS b (va_up fi 38 (Int32.ofNat l0)) ar) QI' X' := by
  obtain ⟨g10, e45, e4, el, el4, hin⟩ := goal_at hS hV hG hk hw
  have mL : mostL = 50000 := rfl
  obtain ⟨P0, hP0⟩ := hLs
  unfold w_mtLoop
  refine n_loopV (b := b) (fun (v : Int32) fi' ar' => ar' = ar ∧ ∃ (l' : Nat) (oc : Option (Nat × List Nat)), fi' = va_up fi 38 (Int32.ofNat l') ∧ MtO a sl G env T.toInt L l v l' oc ∧ (l' ≤ mostL → oc = none → scanQ a T.toInt G env L l = (l', none)) ∧ ∀ x R, oc = some (x, R) → l' ≤ mostL → (oneB a G.ag x = true → scanQ a T.toInt G env L l = (l', some (x, R))) ∧ (oneB a G.ag x = false → scanQ a T.toInt G env L l = scanQ a T.toInt G env R l')) ⟨rfl, l0, oc0, rfl, h0, h01, h02⟩ (fun v fi' ar' again again' ⟨e1, l', oc, e2, k0, k1, k2⟩ ha => ?_)
  subst e1; subst e2
  dsimp only [wJoin]
  have hS1 : SMh a sl Ga (va_up fi 38 (Int32.ofNat l')) ar' := SMh_fr hS FrSv_38
  refine qv_if (fun c => ?_) (fun c => ?_)
  · rw [i32.1, show (0 : Int32).toInt = 0 by decide] at c
    cases oc with
    | none => exact h v l' none k0 (fun x R z => by cases z) (fun z => k1 z rfl)
    | some p =>
      have : v.toInt = (sl p.1 : Int) := k0.1
      omega
  rw [i32.1, show (0 : Int32).toInt = 0 by decide] at c
  cases oc with
  | none =>
    have : v.toInt = -1 := k0.1
    omega
  | some p =>
    obtain ⟨x, R⟩ := p
    have hv : v.toInt = (sl x : Int) := k0.1
    obtain ⟨q1, q2, q3, q4, q5⟩ := id k0
    obtain ⟨⟨P, hP⟩, hask⟩ := q5 x R rfl
    have hrow : a.rw G.tb = (P0 ++ P) ++ x :: R := by rw [hP0, hP, List.append_assoc]
    have hx : x ∈ a.rw G.tb := by rw [hrow]; exact List.mem_append_right _ List.mem_cons_self
    refine q_recv (ns_isOne hb hS1 hV hgv hG hk hw hx hv ?_)
    cases ho : oneB a G.ag x with
    | true =>
      refine qv_if (fun z => absurd z (by decide)) (fun _ => ?_)
      exact h v l' (some (x, R)) k0 (fun x' R' z => by cases z; exact ho) (fun z => (k2 x R rfl z).1 ho)
    | false =>
      refine qv_if (fun _ => ?_) (fun z => absurd rfl z)
      refine nv_getI hb ?_
      rw [va_up_self]
      have hc := cnt50 (n := l') (by omega)
      refine qv_if (fun z => ?_) (fun z => ?_)
      · have hle := hc.mp z
        refine n_getF hb (by decide) (nv_ald hb (by decide) (by decide) (fun _ => n_getF hb (by decide) (q_recv ?_)))
        rw [ix_of hv]
        have hln : LnK (ar' 18) (ar' 18 (sl x)) (R.map sl) := LnK_tail (A := P0 ++ P) (by rw [← hrow]; exact (hS.1.1 _ hin).1)
        have eR := (k2 x R rfl hle).2 ho
        obtain ⟨t1, t2, t3, t4, t5⟩ := seek_scan (a := a) (T := T.toInt) (G := G) (env := env) R l' hle
        rw [← eR] at t3 t4 t5
        refine ns_seek hb hS1.1 hS1.2.1 hV htw hin hS1.2.2.1 (va_up_self _ _ _) hle hln (fun n hn => by rw [hrow]; exact List.mem_append_right _ (List.mem_cons_of_mem _ hn)) (fun r hr => ?_)
        rw [seekQ_cg hby] at hr ⊢
        rw [va_twice]
        refine ha _ _ _ ⟨rfl, _, (seekQ a T.toInt G.tb (mskG G) (worK env G.ag) R l').2, rfl, ⟨hr, by omega, t1, t3, fun x' R' z => ?_⟩, t4, fun x' R' z => (t5 x' R' z).2.2.2⟩
        obtain ⟨⟨P', hP'⟩, ha', -⟩ := t5 x' R' z
        exact ⟨⟨P ++ [x] ++ P', by rw [hP, hP', List.append_assoc, List.append_assoc]; rfl⟩, ha'⟩
      · have hle : ¬ l' ≤ mostL := fun y => z (hc.mpr y)
        refine ha _ _ _ ⟨rfl, l', none, rfl, ⟨by show (-1 : Int32).toInt = -1; decide, q2, q3, q4, fun x' R' z => by cases z⟩, fun y => absurd y hle, fun x' R' z => by cases z⟩
theorem ns_match {gv from_ T : Int32} {L : List Nat} (hb : MB b) (hS : SMh a sl Ga fi ar) (hV : AV a) (hgv : gv.toInt = (g : Int)) (hG : Ga[g]? = some G) (hk : G.kd ≤ 1) (hw : WfG a.tn a.co G) (he : EnvM G.kn env ar) (hl : fi 38 = Int32.ofNat l) (hl2 : l ≤ mostL) (hL : LnK (ar 18) from_ (L.map sl)) (hLs : ∃ P, a.rw G.tb = P ++ L)
    (h : ∀ (r : Int32) (l' : Nat) (ar' : Nat → Nat → Int32) (oc : Option (Nat × List Nat)), (∀ j, j ≠ 52 → ar' j = ar j) → MtO a sl G env T.toInt L l r l' oc → (∀ x R, oc = some (x, R) → oneB a G.ag x = true) → (l' ≤ mostL → scanQ a T.toInt G env L l = (l', oc)) → QI r (mS b (va_up fi 38 (Int32.ofNat l')) ar') → QI' r (mS b (va_up fi 38 (Int32.ofNat l')) ar')) : w_X12_match (some b.o) gv from_ T (mS b fi ar) QI X → w_X12_match (some b.o) gv from_ T (mS b fi ar) QI' X' := by
  obtain ⟨g10, e45, e4, el, el4, hin⟩ := goal_at hS hV hG hk hw
  have hgo := hS.2.2.2.2.2 g G hG
  have hok := hw.2.1
  have gi : ix gv = g := ix_of hgv
  have htw : (ar 45 g).toInt = (G.tb : Int) := hgo.2.1 hk
  have hLm : ∀ n, n ∈ L → n ∈ a.rw G.tb := fun n hn => by obtain ⟨P, hP⟩ := hLs; rw [hP]; exact List.mem_append_right _ hn
  rw [w_mt, w_mt]
  refine n_getF hb (by decide) (nv_ald hb (by decide) (by decide) (fun _ => ?_))
  rw [gi]
  refine n_loopV (b := b) (fun (v : Int32 × Int32) fi' ar' => fi' = fi ∧ (∀ j, j ≠ 52 → ar' j = ar j) ∧ ∃ m : Nat, v.2.toInt = (m : Int) ∧ m ≤ G.ag.length ∧ v.1 = maskOf (fun j => decide (j < m) && mkL G.kn G.ag j) ∧ ∀ j, j < m → mkL G.kn G.ag j = true → ar' 52 j = worK env G.ag j) ⟨rfl, fun _ _ => rfl, 0, by decide, Nat.zero_le _, by rw [show (fun j => decide (j < 0) && mkL G.kn G.ag j) = fun _ => false from funext fun j => by rw [decide_eq_false (Nat.not_lt_zero j), Bool.false_and]]; rfl, fun j hj => absurd hj (by omega)⟩ (fun v fi' ar' again again' ⟨e1, hA, m, m1, m2, m3, m4⟩ ha => ?_)
  subst e1
  have hS1 : SMh a sl Ga fi' ar' := SMh_fr hS (FrSv_ar (j0 := 52) (by decide) hA)
  refine n_getF hb (by decide) (nv_ald hb (by decide) (by decide) (fun _ => ?_))
  rw [hA 4 (by decide), e45, e4]
  refine qv_if (fun c => ?_) (fun c => ?_)
  · rw [i32.2.1] at c
    have em : v.1 = mskG G := by
      rw [m3]
      unfold mskG
      congr 1
      funext j
      by_cases hj : j < m
      · rw [decide_eq_true hj, Bool.true_and]
      · rw [decide_eq_false hj, Bool.false_and]
        unfold mkL
        rw [List.getElem?_eq_none (by omega)]
    have hby : ∀ k, k < 4 → bitm (mskG G) k = true → ar' 52 k = worK env G.ag k := fun k hk4 hbit => by
      unfold mskG at hbit
      rw [bit_mask _ hk4] at hbit
      have hkl : k < G.ag.length := Nat.lt_of_not_le (fun y => by unfold mkL at hbit; rw [List.getElem?_eq_none y] at hbit; cases hbit)
      exact m4 k (by omega) hbit
    refine n_getF hb (by decide) (q_recv ?_)
    rw [em]
    obtain ⟨t1, t2, t3, t4, t5⟩ := seek_scan (a := a) (T := T.toInt) (G := G) (env := env) L l hl2
    refine ns_seek hb hS1.1 hS1.2.1 hV htw hin hS1.2.2.1 hl hl2 (by rw [hA 18 (by decide)]; exact hL) hLm (fun r hr => ?_)
    rw [seekQ_cg hby] at hr ⊢
    refine ns_mtLoop (l := l) hb hS1 hV hgv hG hk hw htw hby hLs ⟨hr, t2, t1, t3, fun x R z => ⟨(t5 x R z).1, (t5 x R z).2.1⟩⟩ t4 (fun x R z => (t5 x R z).2.2.2) (fun r' l' oc z1 z2 z3 => h r' l' ar' oc hA z1 z2 z3)
  · rw [i32.2.1] at c
    have hml : m < G.ag.length := by omega
    obtain ⟨x, hx⟩ : ∃ x, G.ag[m]? = some x := ⟨_, List.getElem?_eq_getElem hml⟩
    have okx := hok x (List.mem_of_getElem? hx)
    have okx1 := okx.1
    obtain ⟨x46, x47⟩ := hgo.2.2.1 m x hx
    have ep : ((5 : Int32) * gv + v.2).toInt = ((5 * g + m : Nat) : Int) := by rw [i_add (i_mul (show (5 : Int32).toInt = 5 by decide) hgv (by omega)) m1 (by omega)]; omega
    have emk : mkL G.kn G.ag m = mkB G.kn x := by unfold mkL; rw [hx]
    have v1 : (v.2 + 1).toInt = ((m + 1 : Nat) : Int) := by rw [i_add m1 (show (1 : Int32).toInt = 1 by decide) (by omega)]; omega
    have skip : mkB G.kn x = false → again (v.1, v.2 + 1) (mS b fi' ar') → again' (v.1, v.2 + 1) (mS b fi' ar') := fun hno => ha _ _ _ ⟨rfl, hA, m + 1, v1, hml, by
      show v.1 = _
      rw [m3]
      congr 1
      funext j
      by_cases e : j = m
      · rw [e, emk, hno, Bool.and_false, Bool.and_false]
      · congr 1
        exact decide_eq_decide.mpr (by omega), fun j hj hmk => by
      by_cases e : j = m
      · rw [e, emk, hno] at hmk; cases hmk
      · exact m4 j (by omega) hmk⟩
    refine n_getF hb (by decide) (nv_ald hb (by decide) (by decide) (fun _ => ?_))
    rw [ix_of ep, hA 46 (by decide), x46]
    dsimp only [wJoin]
    have e2 : Int32.ofNat x.1 = 2 ↔ x.1 = 2 := ofN (j := 2) (by omega) (by omega)
    refine qv_if (fun z => skip ?_) (fun z => ?_)
    · unfold mkB; rw [e2.mp z]; rfl
    have ne2 : x.1 ≠ 2 := fun y => z (e2.mpr y)
    refine q_recv (nr_isKnown (x := x) (kn := G.kn) hb okx (by rw [ix_of ep, hA 46 (by decide)]; exact x46) (by rw [ix_of ep, hA 47 (by decide)]; exact x47) (by rw [gi, hA 48 (by decide)]; exact hgo.2.2.2) ?_)
    have ekm : knB G.kn x = mkB G.kn x := by
      unfold knB mkB
      have : x.1 = 0 ∨ x.1 = 1 := by omega
      rcases this with y | y
      · rw [y]; rfl
      · rw [y]; simp
    cases hkb : knB G.kn x with
    | false =>
      refine qv_if (fun _ => skip (by rw [← ekm]; exact hkb)) (fun z => absurd rfl z)
    | true =>
      refine qv_if (fun z => absurd z (by decide)) (fun _ => ?_)
      refine n_getF hb (by decide) (q_recv ?_)
      refine ns_worth (x := x) (env := env) hb okx (by rw [ix_of ep, hA 46 (by decide)]; exact x46) (by rw [ix_of ep, hA 47 (by decide)]; exact x47) (fun h1 => ?_) ?_
      · rw [hA 50 (by decide)]
        have := okx.2 h1
        exact he _ (by have := ix_int this.1; omega) (knB_1 hkb h1)
      refine nv_astI hb (by decide) (by decide) (fun _ => ?_)
      rw [ix_of m1]
      refine ha _ _ _ ⟨rfl, fun j hj => ?_, m + 1, v1, hml, ?_, fun j hj hmk => ?_⟩
      · rw [up2_row _ _ _ hj]; exact hA j hj
      · show v.1 ||| ((1 : Int32) <<< (v.2 &&& 31)) = _
        rw [m3, mask_or _ ⟨by omega, by omega⟩, ix_of m1]
        congr 1
        funext j
        by_cases e : j = m
        · rw [e, va_up_self, emk, ← ekm, hkb, decide_eq_true (Nat.lt_succ_self m)]; rfl
        · rw [va_up_ne _ _ e]
          congr 1
          exact decide_eq_decide.mpr (by omega)
      · by_cases e : j = m
        · rw [e, up2_self]
          unfold worK
          rw [hx]
        · rw [up2_k _ _ _ _ e]
          exact m4 j (by omega) hmk
end SX1
