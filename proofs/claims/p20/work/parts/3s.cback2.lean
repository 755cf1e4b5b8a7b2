set_option linter.unusedVariables false
set_option linter.unusedSimpArgs false
/-! the class: back -/
abbrev CGs.wsz (g : CGs) (v : Nat) : CGs := (g.s, g.h, g.l, g.lk, g.d, g.r, g.fa, g.ct, v)
section VS1
variable {b b' : CT} {I I' : Nat → Nat → Int32} {F F' : Nat → Nat → Option Nat} {A A' : Nat → Nat → Nat → Int32} {E E' : Nat → Nat → Nat → Option Nat} {o t n n' k f p w j ci q s h l N : Nat} {a c : AS} {g : CGs} {cs : Nat → Int32} {d r ct fa : Nat → Nat} {x y : HS} {X X' : String → HS → Prop} {Q Q' : HS → Prop} {QI QI' : Int32 → HS → Prop} {QF QF' : Option Nat → HS → Prop}
theorem CXx_sn (hx : CXx o a g b I F A E) {m : Nat} (hn : n ∈ a.rw t) (hne : m ≠ n) : CXx o (a.w_sn (va_up a.sn n m)) g b I (up2 F (g.fa n) 3 (some (g.fa m))) A E := by
  obtain ⟨hb, hs, ht, hFa, hR, hK, hN, hH, hC, hO⟩ := hx
  have hf1 := (hFa t n hn).1
  have sF' : ∀ S : List (Nat × Nat), (1, 3) ∉ S → sF b S F (up2 F (g.fa n) 3 (some (g.fa m))) := fun S h2 => sF_up sF_rf hf1 h2
  have hd : ∀ t, inT a t → Is b 10 (g.d t) := fun t h => (ht.2 t h).2.1
  have hfa : ∀ t n, n ∈ a.rw t → Is b 1 (g.fa n) := fun t n h => (hFa t n h).1
  refine ⟨hb, CXs_eq hs (fun _ _ h => h) (fun _ h => h) (sF' _ (by decide)) sE_rf, CXt_eq ht hs.2.2.1 (fun _ _ h => h) (fun _ _ => rfl) sI_rf (sF' _ (by decide)) sA_rf sE_rf, fun t n hn => CF1_eq (hFa t n hn) (fun _ _ h => h) sI_rf (sF' _ (by decide)) sA_rf, CXr_eq hR hd hfa sI_rf (sF' _ (by decide)) sE_rf, hK, hN, ⟨hH.1, hH.2.1, hH.2.2.1, hH.2.2.2.1, fun t' n' hn' hb' => ?_⟩, CXc_eq hC hs.1 sA_rf (fun c hc => ?_), hO⟩
  · have hn' : n' ∈ a.rw t' := hn'
    have hb' : baseT a < a.fb n' := hb'
    show up2 F (g.fa n) 3 (some (g.fa m)) (g.fa n') 3 = if va_up a.sn n m n' = n' then none else some (g.fa (va_up a.sn n m n'))
    by_cases e : n' = n
    · subst e
      rw [up2_self, va_up_self, if_neg hne]
    · rw [va_up_ne _ _ e]
      exact (if_neg (fun z => e (fa_inj (hFa t' n' hn') (hFa t n hn) z.1))).trans (hH.2.2.2.2 t' n' hn' hb')
  · have h5 := (hs.2.2.2.2.2.2.2.1 c hc).2.1
    exact ⟨rfl, funext fun j => if_neg (fun z => Is_ne h5 hf1 (by decide) z.1), rfl⟩
theorem pt_ins {P R : List Nat} (hV : AV a) (hF : ∀ t n, n ∈ a.rw t → CF1 a b g.d g.fa I F A t n) (hr : a.rw t = P ++ n :: R) (hnP : n ∉ P) : ∀ (l : Nat) (v : Int32), (l = 4 ∨ l ≠ 4 ∧ a.fc n l = v) → insA (g.fa n) f ((rowL a t l v).map g.fa) = (rowL (comeA a t (a.fc n) (P ++ [n]) R) t l v).map (va_up g.fa a.nn f) := fun l v h => by
  have eL : a.rw t = (P ++ [n]) ++ R := by rw [hr]; simp
  have hn : n ∈ a.rw t := by rw [hr]; exact List.mem_append_right _ List.mem_cons_self
  obtain ⟨h1, h2⟩ := rowL_hit (g := g) (f := f) hV (L1 := P ++ [n]) (L2 := R) eL h
  have hno : ∀ (M : List Nat), (∀ m, m ∈ M → m ∈ P) → g.fa n ∉ M.map g.fa := fun M hM z => by
    obtain ⟨m, hm, e⟩ := List.mem_map.mp z
    have hmr : m ∈ a.rw t := by rw [hr]; exact List.mem_append_left _ (hM m hm)
    have := fa_inj (hF t m hmr) (hF t n hn) e
    subst this
    exact hnP (hM m hm)
  rw [h1, h2]
  by_cases h4 : l = 4
  · simp only [if_pos h4, List.map_append, List.map_cons, List.map_nil, List.append_assoc, List.cons_append, List.nil_append]
    exact insA_eq (hno P (fun _ z => z))
  · have hv := (h.resolve_left h4).2
    have ef : (P ++ [n]).filter (fun m => a.fc m l == v) = P.filter (fun m => a.fc m l == v) ++ [n] := by
      rw [List.filter_append, List.filter_cons_of_pos (by simp [hv])]; rfl
    simp only [if_neg h4, ef, List.map_append, List.map_cons, List.map_nil, List.append_assoc, List.cons_append, List.nil_append]
    exact insA_eq (hno _ (fun m z => (List.mem_filter.mp z).1))
/-- one that went comes again -/
theorem qc_comeAgain (hx : CXx o c g b I F A E) (hV : AV c) (hcz : CZ c) (hT : c.tm < 2000000000) (hl : (allF c).length < 3000) {P R : List Nat} (hr : c.rw (c.ft n) = P ++ n :: R) (hnP : n ∉ P) (hti : inT c (c.ft n))
    (h : ∀ f ct' b' I' F' A' E', CXx o (turnA c (n, true)) (g.wfa (va_up g.fa c.nn f) ct') b' I' F' A' E' → (∀ t n', n' ∈ c.rw t → F' (g.fa n') 3 = if n' = n then some f else F (g.fa n') 3) → (c.mk = [] → E' g.h = E g.h ∧ A' g.h = A g.h) → Q (cS b' I' F' A' E') → Q' (cS b' I' F' A' E')) : w_X9_comeAgain (some g.s) (some (g.fa n)) (cS b I F A E) Q X → w_X9_comeAgain (some g.s) (some (g.fa n)) (cS b I F A E) Q' X' := by
  have hb := hx.1
  have hs := hx.2.1
  have hF := hx.2.2.2.1
  have hn : n ∈ c.rw (c.ft n) := by rw [hr]; exact List.mem_append_right _ List.mem_cons_self
  have hFn := hF _ n hn
  have eL : c.rw (c.ft n) = (P ++ [n]) ++ R := by rw [hr]; simp
  unfold w_X9_comeAgain
  refine qc_getF hb (by decide) (fun _ => ?_)
  rw [hFn.2.1]
  refine qc_getA hb (by decide) (fun _ => ?_)
  refine qc_recv (fun _ => ?_)
  refine qc_come hx hV hT hti hFn.1 (by decide) (Or.inr ⟨_, n, hn, rfl⟩) (cs := c.fc n) (fun k hk => ?_) (fun z => by omega) (fun _ f b1 I1 F1 A1 E1 hM hup hcI _ => ?_)
  · split
    · exact (hFn.2.2.1 k hk).symm
    · exact hcz _ n hn k hk (by omega)
  · dsimp only [wJoin]
    refine qv_if (fun z => absurd z (by simp)) (fun _ => ?_)
    have hM' := hM
    obtain ⟨mb, ms, mt, mF, mR, mK, mN, mH, mC, mO, mf⟩ := hM'
    have hF1 : ∀ t n, n ∈ c.rw t → CF1 c b1 g.d g.fa I1 F1 A1 t n := fun t n hn => (mF t n hn).1
    refine qc_getF mb (by decide) (fun _ => ?_)
    rw [(hF1 _ n hn).2.1]
    refine qc_recv (fun _ => ?_)
    refine qc_placeAfter (mid_PlP hM hV hti) (p := g.fa n) (fun ch hch e1 e2 => ?_) (fun k hk hne => ?_) (fun b2 I2 F2 E2 ct' L' hP => ?_)
    · refine List.mem_map.mpr ⟨n, ?_, rfl⟩
      rw [e1]
      unfold rowL
      by_cases h4 : ix (I1 ch 0) = 4
      · rw [if_pos h4]; exact hn
      · rw [if_neg h4]
        have hl5 : ix (I1 ch 0) < 5 := ix_lt (mR.2.1.1 ch hch).2.1
        refine List.mem_filter.mpr ⟨hn, ?_⟩
        rw [e2.resolve_left h4, mf.2.2.2.1 _ (by omega)]; simp
    · obtain ⟨ch, c1, c2, c3, c4⟩ := mR.2.2.2 _ k n hti hk hne hn
      exact ⟨ch, c1, c2, c3, by rw [c4]; exact (mf.2.2.2.1 k hk).symm⟩
    · have hX := come_fin hM hV hti hT eL hP (pt_ins hV hF1 hr hnP)
      have hFr := hP.2.1
      have hnn : n ≠ c.nn := fun z => by have := (hV.1.2.2.2.1 _ n hn).1; omega
      have efa : va_up g.fa c.nn f n = g.fa n := va_up_ne _ _ hnn
      obtain ⟨g0, g1, g2, -⟩ := comeA_f c (c.ft n) (c.fc n) (P ++ [n]) R
      have hn1 : n ∈ (comeA c (c.ft n) (c.fc n) (P ++ [n]) R).rw (c.ft n) := by rw [g2]; exact (mem_come eL).mpr (Or.inl hn)
      have hS := CXx_sn hX (m := c.nn) hn1 (fun z => hnn z.symm)
      have e1 : (g.wfa (va_up g.fa c.nn f) ct').fa n = g.fa n := efa
      have e2 : (g.wfa (va_up g.fa c.nn f) ct').fa c.nn = f := va_up_self _ _ _
      rw [e1, e2, ← turn_went2 hr hnP] at hS
      refine qc_putF hX.1 (by decide) (fun _ => ?_)
      refine h f ct' _ _ _ _ _ hS (fun t n' hn' => ?_) (fun hm => ?_)
      · by_cases e : n' = n
        · subst e; rw [up2_self, if_pos rfl]
        · rw [if_neg e]
          refine (if_neg (fun z => e (fa_inj (hF t n' hn') hFn z.1))).trans ?_
          rw [hFr.2.2.2.2.1 1 _ 3 (hF1 t n' hn').1 (fun z => absurd z.1 (by decide)), hcI.1 t n' hn']
      · obtain ⟨y1, y2⟩ := hcI.2 hm
        refine ⟨?_, y2⟩
        rw [← y1]
        funext j
        exact hFr.2.2.2.2.2 3 _ j ms.2.2.2.2.1 (fun z => absurd z.1 (by decide)) (fun z => absurd z.1 (by decide))
/-- between two turns -/
def CBi (o : Nat) (a : AS) (g : CGs) (i : Nat) (c : AS) (g' : CGs) (b : CT) (I : Nat → Nat → Int32) (F : Nat → Nat → Option Nat) (A : Nat → Nat → Nat → Int32) (E : Nat → Nat → Nat → Option Nat) : Prop :=
  BA a i c ∧ CXx o c g' b I F A E ∧ (g'.s = g.s ∧ g'.h = g.h ∧ g'.sz = a.hs.length) ∧ (∀ t n, n ∈ a.rw t → g'.fa n = g.fa n) ∧ (c.mk ≠ [] → ∀ k, k < a.hs.length → c.hs[k]? = a.hs[k]?) ∧
  (c.mk = [] → ∀ (k : Nat) (e : Nat × Bool), a.hs[k]? = some e → E g.h 0 k = some (g.fa e.1) ∧ (A g.h 1 k ≠ 0 ↔ e.2 = true)) ∧
  ∀ t n, n ∈ a.rw t → baseT a < a.fb n → ndB a i n → F (g.fa n) 3 = if c.sn n = n then none else some (g'.fa (c.sn n))
theorem CBi_ent {i : Nat} {g' : CGs} (hV0 : AV a) (h : CBi o a g i c g' b I F A E) {k : Nat} {e : Nat × Bool} (he : a.hs[k]? = some e) : E g.h 0 k = some (g.fa e.1) ∧ (A g.h 1 k ≠ 0 ↔ e.2 = true) := by
  obtain ⟨hBA, hx, ⟨g1, g2, g3⟩, hfa, hpre, hno, -⟩ := h
  have hk := (List.getElem?_eq_some_iff.mp he).1
  by_cases hm : c.mk = []
  · exact hno hm k e he
  · have hH := hx.2.2.2.2.2.2.2.1
    have := hH.2.2.2.1 k e (by rw [hpre hm k hk]; exact he)
    rw [g2, hfa _ _ (hV0.2.2.1.2.2.2.2.1 k e he).1] at this
    exact this
theorem qc_turn1 (hU : UQ a) (hV0 : AV a) {i : Nat} {g' : CGs} (hI : CBi o a g (i + 1) c g' b I F A E) {e : Nat × Bool} (he : a.hs[i]? = some e) (hlm : lastM a ≤ i) (hT : c.tm < 2000000000) {v : Int32} (hv : v.toInt = (i : Int)) {K K' : HS → Prop}
    (h : ∀ g2 b' I' F' A' E', CBi o a g i (turnA c e) g2 b' I' F' A' E' → K (cS b' I' F' A' E') → K' (cS b' I' F' A' E')) :
    (wGetF (cS b I F A E) 9 2 (some g.s) fun v9 => wGetF (cS b I F A E) 3 0 v9 fun v10 => wAldG (cS b I F A E) 25 v10 v fun v11 => wGetF (cS b I F A E) 9 2 (some g.s) fun v12 => wGetF (cS b I F A E) 3 1 v12 fun v13 => wAldJ (cS b I F A E) 22 v13 v fun v14 => wJoin (κ := HS → Prop) (fun x16 => K x16) (fun j15 => wIf (v14 = 0) (wGetF (cS b I F A E) 1 3 v11 fun v17 => wJoin (κ := Option Nat → HS → Prop) (fun v20 x19 => wRecv x19 9 (some g.s) (w_X9_go (some g.s) v20 x19 (fun x21 => j15 x21) X)) (fun j18 => wIf (v17 = none) (j18 v11 (cS b I F A E)) (wGetF (cS b I F A E) 1 3 v11 fun v23 => j18 v23 (cS b I F A E)))) (wRecv (cS b I F A E) 9 (some g.s) (w_X9_comeAgain (some g.s) v11 (cS b I F A E) (fun x24 => j15 x24) X)))) →
    (wGetF (cS b I F A E) 9 2 (some g.s) fun v9 => wGetF (cS b I F A E) 3 0 v9 fun v10 => wAldG (cS b I F A E) 25 v10 v fun v11 => wGetF (cS b I F A E) 9 2 (some g.s) fun v12 => wGetF (cS b I F A E) 3 1 v12 fun v13 => wAldJ (cS b I F A E) 22 v13 v fun v14 => wJoin (κ := HS → Prop) (fun x16 => K' x16) (fun j15 => wIf (v14 = 0) (wGetF (cS b I F A E) 1 3 v11 fun v17 => wJoin (κ := Option Nat → HS → Prop) (fun v20 x19 => wRecv x19 9 (some g.s) (w_X9_go (some g.s) v20 x19 (fun x21 => j15 x21) X')) (fun j18 => wIf (v17 = none) (j18 v11 (cS b I F A E)) (wGetF (cS b I F A E) 1 3 v11 fun v23 => j18 v23 (cS b I F A E)))) (wRecv (cS b I F A E) 9 (some g.s) (w_X9_comeAgain (some g.s) v11 (cS b I F A E) (fun x24 => j15 x24) X')))) := by
  obtain ⟨e1, e2⟩ := CBi_ent hV0 hI he
  obtain ⟨hBA, hx, ⟨g1, g2, g3⟩, hfa, hpre, hno, hsti⟩ := id hI
  have hb := hx.1
  have hs := hx.2.1
  have hi := (List.getElem?_eq_some_iff.mp he).1
  obtain ⟨n, w⟩ := e
  have hm : n ∈ a.rw (a.ft n) := (hV0.2.2.1.2.2.2.2.1 i _ he).1
  have h2 := hs.2.2.2.1
  rw [g1, g2] at h2
  have hh : Is b 3 g.h := by have := hs.2.2.2.2.1; rw [g2] at this; exact this
  refine qc_getF hb (by decide) (fun _ => ?_)
  rw [h2]
  refine qc_getA hb (by decide) (fun _ => ?_)
  refine qc_aldG hb hh (by decide) (by decide) (fun _ => ?_)
  rw [ix_of hv, e1]
  refine qc_getF hb (by decide) (fun _ => ?_)
  rw [h2]
  refine qc_getA hb (by decide) (fun _ => ?_)
  refine qc_ald hb hh (by decide) (by decide) (fun _ => ?_)
  rw [ix_of hv]
  dsimp only [wJoin]
  cases w with
  | false =>
    have hA0 : A g.h 1 i = 0 := Classical.byContradiction (fun z => absurd (e2.mp z) (by simp))
    refine qv_if (fun _ => ?_) (fun z => absurd hA0 z)
    obtain ⟨hBA', s1, s4⟩ := BA_came hU hV0 hBA he hlm
    have hfb : a.fb n = baseT a + i + 1 := (hV0.2.2.1.2.2.2.2.1 i _ he).2.1 rfl
    have h4 := hV0.1.2.2.2.1 _ n hm
    have hst := hsti _ n hm (by omega) (h4.2.2.2.2.imp id (fun z => by omega))
    have hF : (if c.sn n = n then some (g.fa n) else some (g'.fa (c.sn n))) = some (g'.fa (c.sn n)) := by
      split
      · rename_i z; rw [z, hfa _ n hm]
      · rfl
    refine qc_getF hb (by decide) (fun _ => ?_)
    rw [hst]
    have fin : wRecv (cS b I F A E) 9 (some g.s) (w_X9_go (some g.s) (some (g'.fa (c.sn n))) (cS b I F A E) (fun x21 => K x21) X) → wRecv (cS b I F A E) 9 (some g.s) (w_X9_go (some g.s) (some (g'.fa (c.sn n))) (cS b I F A E) (fun x21 => K' x21) X') := by
      refine qc_recv (fun _ => ?_)
      rw [← g1]
      refine qc_go2 hx hBA.1 s1 s4 hT (fun I' A' E' hx' _ hnm => ?_)
      obtain ⟨q0, q1, q2, q3, q4, q5, q6, q7, q8, q9, q10, q11, q12, q13⟩ := goA_f c (c.sn n)
      refine h g' _ _ _ _ _ ⟨hBA', hx', ⟨g1, g2, g3⟩, hfa, fun z k hk => ?_, fun z k e' he' => ?_, fun t n' hn' hb' hnd' => ?_⟩
      · have z : (goA c (c.sn n)).mk ≠ [] := z
        rw [q11] at z
        show (goA c (c.sn n)).hs[k]? = _
        rw [q12, if_neg z, List.getElem?_append_left (by have := hBA.2.2.2.2.1 z; omega)]
        exact hpre z k hk
      · have z : (goA c (c.sn n)).mk = [] := z
        rw [q11] at z
        obtain ⟨y1, y2⟩ := hnm z
        rw [← g2, y1, y2, g2]
        exact hno z k e' he'
      · show F (g.fa n') 3 = if (goA c (c.sn n)).sn n' = n' then none else some (g'.fa ((goA c (c.sn n)).sn n'))
        rw [q7]
        refine hsti t n' hn' hb' (hnd'.imp id (fun z => ?_))
        have := hU.2 _ _ n n' hm hn'
        omega
    by_cases hsn : c.sn n = n
    · rw [if_pos hsn]
      refine qv_if (fun _ => ?_) (fun z => absurd rfl z)
      rw [if_pos hsn] at hF
      rw [hF]; exact fin
    · rw [if_neg hsn]
      refine qv_if (fun z => absurd z (by simp)) (fun _ => ?_)
      refine qc_getF hb (by decide) (fun _ => ?_)
      rw [hst, if_neg hsn]; exact fin
  | true =>
    have hA0 : A g.h 1 i ≠ 0 := e2.mpr rfl
    refine qv_if (fun z => absurd z hA0) (fun _ => ?_)
    have o1 := (hBA.2.2.2.2.2.2.2.1 _ n hm).1
    have hft : c.ft n = a.ft n := (hBA.1.1.2.2.2.1 _ n o1).2.1
    have hcn : n ∈ c.rw (c.ft n) := by rw [hft]; exact o1
    obtain ⟨P, R, hr, hnP⟩ := mem_split hcn
    obtain ⟨hBA', hl, -, -, hti⟩ := BA_went hU hV0 hBA he hlm hr hnP
    refine qc_recv (fun _ => ?_)
    rw [← g1, ← hfa _ n hm]
    refine qc_comeAgain hx hBA.1 hBA.2.2.2.2.2.2.1 hT hl hr hnP hti (fun f ct' b' I' F' A' E' hx' hF' hnm => ?_)
    obtain ⟨f0, f2, f4, f5, f7, f8, f9, f11, f12⟩ := turn_f hr hnP
    have hlt : ∀ t n', n' ∈ c.rw t → n' ≠ c.nn := fun t n' hn' z => by have := (hBA.1.1.2.2.2.1 t n' hn').1; omega
    have old : ∀ t n', n' ∈ a.rw t → n' ≠ c.nn := fun t n' hn' => hlt t n' (hBA.2.2.2.2.2.2.2.1 t n' hn').1
    refine h (g'.wfa (va_up g'.fa c.nn f) ct') _ _ _ _ _ ⟨hBA', hx', ⟨g1, g2, g3⟩, fun t n' hn' => ?_, fun z k hk => ?_, fun z k e' he' => ?_, fun t n' hn' hb' hnd' => ?_⟩
    · exact (va_up_ne _ _ (old t n' hn')).trans (hfa t n' hn')
    · have z : (turnA c (n, true)).mk ≠ [] := z
      rw [f11] at z
      show (turnA c (n, true)).hs[k]? = _
      rw [f12, if_neg z, List.getElem?_append_left (by have := hBA.2.2.2.2.1 z; omega)]
      exact hpre z k hk
    · have z : (turnA c (n, true)).mk = [] := z
      rw [f11] at z
      obtain ⟨y1, y2⟩ := hnm z
      rw [← g2, y1, y2, g2]
      exact hno z k e' he'
    · show F' (g.fa n') 3 = if (turnA c (n, true)).sn n' = n' then none else some (va_up g'.fa c.nn f ((turnA c (n, true)).sn n'))
      have p1 := (hBA.2.2.2.2.2.2.2.1 t n' hn').1
      have hF2 := hF' t n' p1
      rw [hfa t n' hn'] at hF2
      rw [hF2, f7]
      by_cases en : n' = n
      · subst en
        rw [if_pos rfl, va_up_self, if_neg (fun z => old t n' hn' z.symm), va_up_self]
      · have hnd : ndB a (i + 1) n' := hnd'.imp id (fun z => by
          have hfd : a.fd n = baseT a + i + 1 := (hV0.2.2.1.2.2.2.2.1 i _ he).2.2 rfl
          have : a.fd n' ≠ a.fd n := fun y => en (hU.1 _ _ n' n hn' hm (by
            have hB0 : 0 ≤ baseT a := by have := hV0.2.2.1.2.2.2.1; unfold baseT; omega
            omega) y)
          omega)
        rw [if_neg en, va_up_ne _ _ en, va_up_ne _ _ (old t n' hn'), hsti t n' hn' hb' hnd]
        have hsn := (hBA.2.2.2.2.2.2.2.2.1 t n' hn' hb' hnd).1
        rw [va_up_ne _ _ (hlt _ _ hsn)]
end VS1
