set_option linter.unusedVariables false
set_option linter.unusedSimpArgs false
/-! the reference: seeking, and what it looked at (laid by mkw.py) -/
/-- along a list, to the first that is there and fits: the reference's way to count -/
def seekQ (a : AS) (T : Int) (t : Nat) (m : Int32) (vs : Nat → Int32) : List Nat → Nat → Nat × Option (Nat × List Nat)
  | [], l => (l, none)
  | x :: L, l => if inLane a t m vs x then (if askB a t m vs T x then (l + 1, some (x, L)) else if mostL < l + 1 then (l + 1, none) else seekQ a T t m vs L (l + 1)) else seekQ a T t m vs L l
theorem find4 {p : Nat → Bool} {l : Nat} (h4 : l < 4) (h1 : p l = true) (h2 : ∀ i, i < l → p i = false) : (List.range 4).find? p = some l := by
  have e4 : List.range 4 = [0, 1, 2, 3] := rfl
  rw [e4]
  have c4 : l = 0 ∨ l = 1 ∨ l = 2 ∨ l = 3 := by omega
  rcases c4 with e | e | e | e
  · rw [e] at h1 ⊢
    rw [List.find?_cons, h1]
  · rw [e] at h1 h2 ⊢
    rw [List.find?_cons, h2 0 (by omega)]
    show List.find? p [1, 2, 3] = _
    rw [List.find?_cons, h1]
  · rw [e] at h1 h2 ⊢
    rw [List.find?_cons, h2 0 (by omega)]
    show List.find? p [1, 2, 3] = _
    rw [List.find?_cons, h2 1 (by omega)]
    show List.find? p [2, 3] = _
    rw [List.find?_cons, h1]
  · rw [e] at h1 h2 ⊢
    rw [List.find?_cons, h2 0 (by omega)]
    show List.find? p [1, 2, 3] = _
    rw [List.find?_cons, h2 1 (by omega)]
    show List.find? p [2, 3] = _
    rw [List.find?_cons, h2 2 (by omega)]
    show List.find? p [3] = _
    rw [List.find?_cons, h1]
section SW1
variable {b : MT} {fi fi' : Nat → Int32} {ar ar' : Nat → Nat → Int32} {a : AS} {sl : Nat → Nat} {t n l : Nat} {m : Int32} {T : Int} {vs vs' : Nat → Int32} {X X' : String → HS → Prop} {Q Q' : HS → Prop} {QI QI' : Int32 → HS → Prop}
theorem askB_cg (h : ∀ k, k < 4 → bitm m k = true → vs k = vs' k) : askB a t m vs T n = askB a t m vs' T n := by
  unfold askB
  congr 1
  unfold fitB
  apply Bool.eq_iff_iff.mpr
  rw [range_all, range_all]
  have : ∀ k, k < 4 → (!(bitm m k && decide ((k : Int) < (a.co t).toInt)) || a.fc n k == vs k) = (!(bitm m k && decide ((k : Int) < (a.co t).toInt)) || a.fc n k == vs' k) := fun k hk => by
    cases hb : bitm m k with
    | false => rfl
    | true => rw [h k hk hb]
  constructor
  · exact fun h k hk => by rw [← this k hk]; exact h k hk
  · exact fun h k hk => by rw [this k hk]; exact h k hk
theorem inLane_cg (h : ∀ k, k < 4 → bitm m k = true → vs k = vs' k) : inLane a t m vs n = inLane a t m vs' n := by
  unfold inLane
  cases hl : laneA a t m with
  | none => rfl
  | some k =>
    have h1 := List.find?_some hl
    have h2 := List.mem_range.mp (List.mem_of_find?_eq_some hl)
    have h1 : (decide ((k : Int) < (a.co t).toInt) && (bitm m k && a.ix t k)) = true := h1
    have h1 := (Bool.and_eq_true_iff.mp (Bool.and_eq_true_iff.mp h1).2).1
    show (a.fc n k == vs k) = (a.fc n k == vs' k)
    rw [h k h2 h1]
theorem seekQ_cg (h : ∀ k, k < 4 → bitm m k = true → vs k = vs' k) : ∀ (L : List Nat) (l : Nat), seekQ a T t m vs L l = seekQ a T t m vs' L l
  | [], l => rfl
  | x :: L, l => by
      unfold seekQ
      rw [inLane_cg h, askB_cg h, seekQ_cg h L (l + 1), seekQ_cg h L l]
/-- the same in the words of the spec -/
theorem seek_scan {G : QG} {env : Nat → Int32} : ∀ (L : List Nat) (l : Nat), l ≤ mostL → (seekQ a T G.tb (mskG G) (worK env G.ag) L l).1 ≤ mostL + 1 ∧ l ≤ (seekQ a T G.tb (mskG G) (worK env G.ag) L l).1 ∧ (mostL < (seekQ a T G.tb (mskG G) (worK env G.ag) L l).1 → mostL < (scanQ a T G env L l).1) ∧ ((seekQ a T G.tb (mskG G) (worK env G.ag) L l).1 ≤ mostL → (seekQ a T G.tb (mskG G) (worK env G.ag) L l).2 = none → scanQ a T G env L l = ((seekQ a T G.tb (mskG G) (worK env G.ag) L l).1, none)) ∧ ∀ x R, (seekQ a T G.tb (mskG G) (worK env G.ag) L l).2 = some (x, R) → (∃ P, L = P ++ x :: R) ∧ askB a G.tb (mskG G) (worK env G.ag) T x = true ∧ l < (seekQ a T G.tb (mskG G) (worK env G.ag) L l).1 ∧ ((seekQ a T G.tb (mskG G) (worK env G.ag) L l).1 ≤ mostL → (oneB a G.ag x = true → scanQ a T G env L l = ((seekQ a T G.tb (mskG G) (worK env G.ag) L l).1, some (x, R))) ∧ (oneB a G.ag x = false → scanQ a T G env L l = scanQ a T G env R (seekQ a T G.tb (mskG G) (worK env G.ag) L l).1))
  | [], l, h => ⟨by show l ≤ mostL + 1; omega, Nat.le_refl _, fun z => absurd z (by show ¬ mostL < l; omega), fun _ _ => rfl, fun x R z => by cases z⟩
  | y :: L, l, h => by
      cases hi : inLane a G.tb (mskG G) (worK env G.ag) y with
      | false =>
        have e1 : seekQ a T G.tb (mskG G) (worK env G.ag) (y :: L) l = seekQ a T G.tb (mskG G) (worK env G.ag) L l := by
          show (if inLane a G.tb (mskG G) (worK env G.ag) y then _ else _) = _
          rw [hi]; rfl
        rw [e1, scanQ_out hi]
        obtain ⟨h1, h2, h3, h4, h5⟩ := seek_scan (G := G) (env := env) L l h
        refine ⟨h1, h2, h3, h4, fun x R z => ?_⟩
        obtain ⟨⟨P, g1⟩, g2⟩ := h5 x R z
        exact ⟨⟨y :: P, by rw [g1]; rfl⟩, g2⟩
      | true =>
        cases ha : askB a G.tb (mskG G) (worK env G.ag) T y with
        | true =>
          have e1 : seekQ a T G.tb (mskG G) (worK env G.ag) (y :: L) l = (l + 1, some (y, L)) := by
            show (if inLane a G.tb (mskG G) (worK env G.ag) y then (if askB a G.tb (mskG G) (worK env G.ag) T y then _ else _) else _) = _
            rw [hi, ha]; rfl
          rw [e1]
          refine ⟨by show l + 1 ≤ mostL + 1; omega, Nat.le_succ _, fun z => scanQ_full hi z, fun _ z => (by cases z), fun x R z => ?_⟩
          cases z
          refine ⟨⟨[], rfl⟩, ha, Nat.lt_succ_self _, fun z => ⟨fun ho => scanQ_hit hi (by unfold hitB; rw [ha, ho]; rfl) z, fun ho => scanQ_no hi (by unfold hitB; rw [ho, Bool.and_false]) z⟩⟩
        | false =>
          have hh : hitB a T G env y = false := by unfold hitB; rw [ha]; rfl
          by_cases hm : mostL < l + 1
          · have e1 : seekQ a T G.tb (mskG G) (worK env G.ag) (y :: L) l = (l + 1, none) := by
              show (if inLane a G.tb (mskG G) (worK env G.ag) y then (if askB a G.tb (mskG G) (worK env G.ag) T y then _ else if mostL < l + 1 then _ else _) else _) = _
              rw [hi, ha, if_pos hm]; rfl
            rw [e1]
            exact ⟨by show l + 1 ≤ mostL + 1; omega, Nat.le_succ _, fun z => scanQ_full hi z, fun z => absurd z (by show ¬ l + 1 ≤ mostL; omega), fun x R z => by cases z⟩
          · have e1 : seekQ a T G.tb (mskG G) (worK env G.ag) (y :: L) l = seekQ a T G.tb (mskG G) (worK env G.ag) L (l + 1) := by
              show (if inLane a G.tb (mskG G) (worK env G.ag) y then (if askB a G.tb (mskG G) (worK env G.ag) T y then _ else if mostL < l + 1 then _ else _) else _) = _
              rw [hi, ha, if_neg hm]; rfl
            rw [e1, scanQ_no hi hh (by omega)]
            obtain ⟨h1, h2, h3, h4, h5⟩ := seek_scan (G := G) (env := env) L (l + 1) (by omega)
            refine ⟨h1, by omega, h3, h4, fun x R z => ?_⟩
            obtain ⟨⟨P, g1⟩, g2, g3, g4⟩ := h5 x R z
            exact ⟨⟨y :: P, by rw [g1]; rfl⟩, g2, by omega, g4⟩
/-- which lane, exactly -/
theorem ns_indexOf (hb : MB b) (hA : RA a.1 fi ar) {tw : Int32} (htw : tw.toInt = (t : Int)) (ht : inT a t) (hc : (a.co t).toInt ≤ 4) (h : ∀ r : Int32, r.toInt = (match laneA a t m with | none => (-1 : Int) | some k => (k : Int)) → QI r (mS b fi ar) → QI' r (mS b fi ar)) : w_X12_indexOf (some b.o) tw m (mS b fi ar) QI X → w_X12_indexOf (some b.o) tw m (mS b fi ar) QI' X' := by
  have a4 : ar 4 t = a.co t := (hA.2.2.2 t ht).1
  have a5 : ar 5 t = maskOf (a.ix t) := (hA.2.2.2 t ht).2
  unfold w_X12_indexOf
  refine n_loopV (fun v fi' ar' => fi' = fi ∧ ar' = ar ∧ ∃ i : Nat, v.toInt = (i : Int) ∧ i ≤ 4 ∧ ∀ j, j < i → (decide ((j : Int) < (a.co t).toInt) && (bitm m j && a.ix t j)) = false) ⟨rfl, rfl, 0, by decide, by omega, fun j hj => absurd hj (by omega)⟩ (fun v fi' ar' again again' ⟨e1, e2, i, i1, i2, i3⟩ ha => ?_)
  subst e1; subst e2
  refine n_getF hb (by decide) ?_
  refine nv_ald hb (by decide) (by decide) (fun _ => ?_)
  rw [ix_of htw, a4]
  refine qv_if (fun c => h _ ?_) (fun c => ?_)
  · rw [i32.2.1] at c
    have : laneA a t m = none := by
      unfold laneA
      rw [List.find?_eq_none]
      intro j hj
      by_cases hji : j < i
      · rw [i3 j hji]; decide
      · rw [decide_eq_false (show ¬ ((j : Int) < (a.co t).toInt) by omega)]; simp
    rw [this]
    show (-1 : Int32).toInt = -1
    decide
  rw [i32.2.1] at c
  have hv : (v + 1).toInt = ((i + 1 : Nat) : Int) := by rw [i_add i1 (show (1 : Int32).toInt = 1 by decide) (by omega)]; omega
  have go : (bitm m i && a.ix t i) = false → again (v + 1) (mS b fi' ar') → again' (v + 1) (mS b fi' ar') := fun hno => ha _ _ _ ⟨rfl, rfl, i + 1, hv, by omega, fun j hj => by
    by_cases e : j = i
    · rw [e, hno, Bool.and_false]
    · exact i3 j (by omega)⟩
  dsimp only [wJoin]
  refine qv_if (fun c2 => ?_) (fun c2 => go ?_)
  · have hm := (bitm_iff i1).mp c2
    refine n_getF hb (by decide) ?_
    refine nv_ald hb (by decide) (by decide) (fun _ => ?_)
    rw [ix_of htw, a5]
    refine qv_if (fun c3 => h _ ?_) (fun c3 => go ?_)
    · have h3 := (bitm_iff i1).mp c3
      rw [bit_mask _ (by omega)] at h3
      have : laneA a t m = some i := find4 (by omega) (by rw [decide_eq_true (show (i : Int) < (a.co t).toInt by omega), hm, h3]; rfl) i3
      rw [this]; exact i1
    · have : a.ix t i = false := by
        cases hy : a.ix t i with
        | false => rfl
        | true => exact absurd ((bitm_iff i1).mpr (by rw [bit_mask _ (by omega)]; exact hy)) c3
      rw [this, Bool.and_false]
  · have : bitm m i = false := by
      cases hy : bitm m i with
      | false => rfl
      | true => exact absurd ((bitm_iff i1).mpr hy) c2
    rw [this]; rfl
theorem ns_seek (hb : MB b) (hF : RXf a sl ar) (hA : RA a.1 fi ar) (hV : AV a) {tw from_ T : Int32} (htw : tw.toInt = (t : Int)) (ht : inT a t) (h39 : fi 39 ≠ 0) (hl : fi 38 = Int32.ofNat l) (hl2 : l ≤ mostL) {L : List Nat} (hL : LnK (ar 18) from_ (L.map sl)) (hLm : ∀ n, n ∈ L → n ∈ a.rw t)
    (h : ∀ r : Int32, r.toInt = (match (seekQ a T.toInt t m (ar 52) L l).2 with | none => (-1 : Int) | some p => (sl p.1 : Int)) → QI r (mS b (va_up fi 38 (Int32.ofNat (seekQ a T.toInt t m (ar 52) L l).1)) ar) → QI' r (mS b (va_up fi 38 (Int32.ofNat (seekQ a T.toInt t m (ar 52) L l).1)) ar)) : w_X12_seek (some b.o) tw from_ m T (some (b.a 52)) 0 (mS b fi ar) QI X → w_X12_seek (some b.o) tw from_ m T (some (b.a 52)) 0 (mS b fi ar) QI' X' := by
  have hco := (hV.2.1.2 t ht).2.1
  have mL : mostL = 50000 := rfl
  unfold w_X12_seek
  rw [m_recv hb, m_recv hb]
  refine ns_indexOf hb hA htw ht hco.2 (fun kr hkr => ?_)
  refine n_loopV (fun v fi' ar' => ar' = ar ∧ ∃ (L' : List Nat) (l' : Nat), fi' = va_up fi 38 (Int32.ofNat l') ∧ l' ≤ mostL ∧ LnK (ar 18) v (L'.map sl) ∧ (∀ n, n ∈ L' → n ∈ a.rw t) ∧ seekQ a T.toInt t m (ar 52) L l = seekQ a T.toInt t m (ar 52) L' l') ⟨rfl, L, l, by rw [← hl, va_same], hl2, hL, hLm, rfl⟩ (fun v fi' ar' again again' ⟨e2, L', l', e1, hl', l1, l2, l3⟩ hag => ?_)
  subst e1; subst e2
  rw [l3] at h
  refine qv_if (fun c => ?_) (fun c => ?_)
  · rw [i32.1, show (0 : Int32).toInt = 0 by decide] at c
    have e0 : L' = [] := List.map_eq_nil_iff.mp (LnK_neg l1 c)
    rw [e0] at h
    exact h (-1) (by show (-1 : Int32).toInt = -1; decide)
  · rw [i32.1, show (0 : Int32).toInt = 0 by decide] at c
    have c0 : 0 ≤ v.toInt := by omega
    obtain ⟨L2, eL, m2⟩ := LnK_pos l1 c0
    cases L' with
    | nil => exact absurd eL (by simp)
    | cons n L'' =>
    rw [List.map_cons] at eL
    obtain ⟨en, eL2⟩ := List.cons.inj eL
    rw [← eL2] at m2
    have hn := l2 n List.mem_cons_self
    have hL'' : ∀ x, x ∈ L'' → x ∈ a.rw t := fun x hx => l2 x (List.mem_cons_of_mem _ hx)
    have hiv : ((ix v : Nat) : Int) = v.toInt := ix_int c0
    obtain ⟨r1, r2, r3, r4, -⟩ := hF.2.1 t n hn
    rw [en] at r1 r2 r3 r4
    have hft : ix (ar' 12 (ix v)) = t := ix_of r3
    have hth : thS ar' (ix v) T = thereB a T.toInt n := by rw [← en]; exact th_sl hF hn rfl
    have hfit : fitS ar' (ix v) m 52 (ix 0) = fitB a t m (ar' 52) n := by
      rw [← en]
      exact fit_sl (fi := fi) hF hA ht hn (fun k _ => by rw [show ix (0 : Int32) = 0 by decide, Nat.zero_add])
    have eask : askB a t m (ar' 52) T.toInt n = (thS ar' (ix v) T && fitS ar' (ix v) m 52 (ix 0)) := by rw [hth, hfit]; rfl
    have go : ∀ w, w ≤ mostL → seekQ a T.toInt t m (ar' 52) (n :: L'') l' = seekQ a T.toInt t m (ar' 52) L'' w → again (ar' 18 (ix v)) (mS b (va_up fi 38 (Int32.ofNat w)) ar') → again' (ar' 18 (ix v)) (mS b (va_up fi 38 (Int32.ofNat w)) ar') := fun w hw e => hag _ _ _ ⟨rfl, L'', w, rfl, hw, m2, hL'', by rw [l3, e]⟩
    have j7 : ∀ w, w ≤ mostL → seekQ a T.toInt t m (ar' 52) (n :: L'') l' = seekQ a T.toInt t m (ar' 52) L'' w → (wGetF (mS b (va_up fi 38 (Int32.ofNat w)) ar') 12 18 (some b.o) fun v9 => wAldJ (mS b (va_up fi 38 (Int32.ofNat w)) ar') 20 v9 v fun v10 => again v10 (mS b (va_up fi 38 (Int32.ofNat w)) ar')) → (wGetF (mS b (va_up fi 38 (Int32.ofNat w)) ar') 12 18 (some b.o) fun v9 => wAldJ (mS b (va_up fi 38 (Int32.ofNat w)) ar') 20 v9 v fun v10 => again' v10 (mS b (va_up fi 38 (Int32.ofNat w)) ar')) := fun w hw e => n_getF hb (by decide) (nv_ald hb (by decide) (by decide) (fun _ => go w hw e))
    dsimp only [wJoin]
    have j11 : inLane a t m (ar' 52) n = true → (wGetI (mS b (va_up fi 38 (Int32.ofNat l')) ar') 12 38 (some b.o) fun v13 => wPutI (mS b (va_up fi 38 (Int32.ofNat l')) ar') 12 38 (some b.o) (v13 + 1) fun x14 => wRecv x14 12 (some b.o) (w_X12_isThere (some b.o) v T x14 (fun v16 x15 => wIf (v16 = 0) (wGetI x15 12 38 (some b.o) fun v19 => wIf (v19 ≤ 50000) (wGetF x15 12 18 (some b.o) fun v9 => wAldJ x15 20 v9 v fun v10 => again v10 x15) (wGetI x15 12 39 (some b.o) fun v20 => wIf (v20 = 0) (wGetF x15 12 18 (some b.o) fun v9 => wAldJ x15 20 v9 v fun v10 => again v10 x15) (QI (-1) x15))) (wRecv x15 12 (some b.o) (w_X12_fits (some b.o) v m (some (b.a 52)) 0 x15 (fun v22 x21 => wIf (v22 = 0) (wGetI x21 12 38 (some b.o) fun v19 => wIf (v19 ≤ 50000) (wGetF x21 12 18 (some b.o) fun v9 => wAldJ x21 20 v9 v fun v10 => again v10 x21) (wGetI x21 12 39 (some b.o) fun v20 => wIf (v20 = 0) (wGetF x21 12 18 (some b.o) fun v9 => wAldJ x21 20 v9 v fun v10 => again v10 x21) (QI (-1) x21))) (QI v x21)) X))) X)) → (wGetI (mS b (va_up fi 38 (Int32.ofNat l')) ar') 12 38 (some b.o) fun v13 => wPutI (mS b (va_up fi 38 (Int32.ofNat l')) ar') 12 38 (some b.o) (v13 + 1) fun x14 => wRecv x14 12 (some b.o) (w_X12_isThere (some b.o) v T x14 (fun v16 x15 => wIf (v16 = 0) (wGetI x15 12 38 (some b.o) fun v19 => wIf (v19 ≤ 50000) (wGetF x15 12 18 (some b.o) fun v9 => wAldJ x15 20 v9 v fun v10 => again' v10 x15) (wGetI x15 12 39 (some b.o) fun v20 => wIf (v20 = 0) (wGetF x15 12 18 (some b.o) fun v9 => wAldJ x15 20 v9 v fun v10 => again' v10 x15) (QI' (-1) x15))) (wRecv x15 12 (some b.o) (w_X12_fits (some b.o) v m (some (b.a 52)) 0 x15 (fun v22 x21 => wIf (v22 = 0) (wGetI x21 12 38 (some b.o) fun v19 => wIf (v19 ≤ 50000) (wGetF x21 12 18 (some b.o) fun v9 => wAldJ x21 20 v9 v fun v10 => again' v10 x21) (wGetI x21 12 39 (some b.o) fun v20 => wIf (v20 = 0) (wGetF x21 12 18 (some b.o) fun v9 => wAldJ x21 20 v9 v fun v10 => again' v10 x21) (QI' (-1) x21))) (QI' v x21)) X'))) X')) := fun hil => by
      have sq : seekQ a T.toInt t m (ar' 52) (n :: L'') l' = (if askB a t m (ar' 52) T.toInt n then (l' + 1, some (n, L'')) else if mostL < l' + 1 then (l' + 1, none) else seekQ a T.toInt t m (ar' 52) L'' (l' + 1)) := by
        show (if inLane a t m (ar' 52) n then _ else _) = _
        rw [if_pos hil]
      refine nv_getI hb ?_
      rw [va_up_self]
      refine nv_putI hb ?_
      rw [va_twice, show Int32.ofNat l' + 1 = Int32.ofNat (l' + 1) by rw [Int32.ofNat_add]; rfl]
      have e39 : va_up fi 38 (Int32.ofNat (l' + 1)) 39 ≠ 0 := by rw [va_up_ne _ _ (by decide)]; exact h39
      have hcn := cnt50 (n := l' + 1) (by omega)
      have j17 : askB a t m (ar' 52) T.toInt n = false → (wGetI (mS b (va_up fi 38 (Int32.ofNat (l' + 1))) ar') 12 38 (some b.o) fun v19 => wIf (v19 ≤ 50000) (wGetF (mS b (va_up fi 38 (Int32.ofNat (l' + 1))) ar') 12 18 (some b.o) fun v9 => wAldJ (mS b (va_up fi 38 (Int32.ofNat (l' + 1))) ar') 20 v9 v fun v10 => again v10 (mS b (va_up fi 38 (Int32.ofNat (l' + 1))) ar')) (wGetI (mS b (va_up fi 38 (Int32.ofNat (l' + 1))) ar') 12 39 (some b.o) fun v20 => wIf (v20 = 0) (wGetF (mS b (va_up fi 38 (Int32.ofNat (l' + 1))) ar') 12 18 (some b.o) fun v9 => wAldJ (mS b (va_up fi 38 (Int32.ofNat (l' + 1))) ar') 20 v9 v fun v10 => again v10 (mS b (va_up fi 38 (Int32.ofNat (l' + 1))) ar')) (QI (-1) (mS b (va_up fi 38 (Int32.ofNat (l' + 1))) ar')))) → (wGetI (mS b (va_up fi 38 (Int32.ofNat (l' + 1))) ar') 12 38 (some b.o) fun v19 => wIf (v19 ≤ 50000) (wGetF (mS b (va_up fi 38 (Int32.ofNat (l' + 1))) ar') 12 18 (some b.o) fun v9 => wAldJ (mS b (va_up fi 38 (Int32.ofNat (l' + 1))) ar') 20 v9 v fun v10 => again' v10 (mS b (va_up fi 38 (Int32.ofNat (l' + 1))) ar')) (wGetI (mS b (va_up fi 38 (Int32.ofNat (l' + 1))) ar') 12 39 (some b.o) fun v20 => wIf (v20 = 0) (wGetF (mS b (va_up fi 38 (Int32.ofNat (l' + 1))) ar') 12 18 (some b.o) fun v9 => wAldJ (mS b (va_up fi 38 (Int32.ofNat (l' + 1))) ar') 20 v9 v fun v10 => again' v10 (mS b (va_up fi 38 (Int32.ofNat (l' + 1))) ar')) (QI' (-1) (mS b (va_up fi 38 (Int32.ofNat (l' + 1))) ar')))) := fun hno => by
        rw [sq, hno, if_neg (by decide)] at h
        refine nv_getI hb ?_
        rw [va_up_self]
        refine qv_if (fun z => j7 (l' + 1) (hcn.mp z) ?_) (fun z => nv_getI hb (qv_if (fun y => absurd y e39) (fun _ => ?_)))
        · rw [sq, hno, if_neg (by decide), if_neg (by have := hcn.mp z; omega)]
        · rw [if_pos (show mostL < l' + 1 from Nat.lt_of_not_le (fun y => z (hcn.mpr y)))] at h
          exact h (-1) (by show (-1 : Int32).toInt = -1; decide)
      rw [m_recv hb, m_recv hb]
      refine n_isThere hb (fun _ => ?_)
      cases hth2 : thS ar' (ix v) T with
      | true =>
        refine qv_if (fun z => absurd z (by decide)) (fun _ => ?_)
        rw [m_recv hb, m_recv hb]
        refine n_fits hb (by decide) (by decide) (by decide) (by decide) (by decide) (by rw [hft, (hA.2.2.2 t ht).1]; exact hco.2) (fun _ => ?_)
        cases hfi : fitS ar' (ix v) m 52 (ix 0) with
        | true =>
          refine qv_if (fun z => absurd z (by decide)) (fun _ => ?_)
          rw [sq, eask, hth2, hfi, if_pos (show (true && true) = true from rfl)] at h
          exact h v (by show v.toInt = (sl n : Int); rw [en]; exact hiv.symm)
        | false =>
          refine qv_if (fun _ => j17 (by rw [eask, hth2, hfi]; rfl)) (fun z => absurd rfl z)
      | false =>
        refine qv_if (fun _ => j17 (by rw [eask, hth2]; rfl)) (fun z => absurd rfl z)
    have lan : inLane a t m (ar' 52) n = (match laneA a t m with | none => true | some k => a.fc n k == ar' 52 k) := rfl
    cases hla : laneA a t m with
    | none =>
      rw [hla] at hkr lan
      have hkr : kr.toInt = -1 := hkr
      refine qv_if (fun _ => j11 lan) (fun c3 => ?_)
      rw [i32.1, hkr, show (0 : Int32).toInt = 0 by decide] at c3
      omega
    | some k =>
      rw [hla] at hkr lan
      have hkr : kr.toInt = (k : Int) := hkr
      have lan : inLane a t m (ar' 52) n = (a.fc n k == ar' 52 k) := lan
      have k4 : k < 4 := List.mem_range.mp (List.mem_of_find?_eq_some hla)
      refine qv_if (fun c3 => ?_) (fun c3 => ?_)
      · rw [i32.1, hkr, show (0 : Int32).toInt = 0 by decide] at c3
        omega
      refine n_getF hb (by decide) ?_
      have e4 : ((4 : Int32) * v + kr).toInt = ((4 * ix v + k : Nat) : Int) := by
        rw [i_add (i_mul (show (4 : Int32).toInt = 4 by decide) rfl (by omega)) hkr (by omega)]; omega
      have es : ((0 : Int32) + kr).toInt = (k : Int) := by rw [Int32.zero_add]; exact hkr
      refine nv_ald hb (by decide) (by decide) (fun _ => ?_)
      refine nv_ald hb (by decide) (by decide) (fun _ => ?_)
      rw [ix_of e4, ix_of es, r4 k k4]
      refine qv_if (fun c4 => j11 (by rw [lan]; exact beq_iff_eq.mpr c4)) (fun c4 => ?_)
      refine j7 l' hl' ?_
      show (if inLane a t m (ar' 52) n then _ else _) = _
      rw [lan, beq_eq_false_iff_ne.mpr c4]; rfl
end SW1
