set_option linter.unusedVariables false
set_option linter.unusedSimpArgs false
/-! the reference: back, the words -/
def wfB : List Nat := [20, 21, 22, 25]
def waB : List Nat := [11, 12, 13, 14, 15, 16, 19, 24, 17, 18, 7, 8]
section RZ1
variable {b : MT} {fi fk : Nat → Int32} {ar ak : Nat → Nat → Int32} {mo M : Nat} {a c : AS} {y : HS} {sl sm : Nat → Nat} {X X' : String → HS → Prop} {Q Q' : HS → Prop} {QI QI' : Int32 → HS → Prop}
theorem n_turn (hb : MB b) (hG : G M fi ar) (hx0 : RXx a sl fi ar) (hV0 : AV a) (hmk : a.mk ≠ []) {i : Nat} {e : Nat × Bool} (hI : BKi a sl ar (i + 1) c sm fk ak) (he : a.hs[i]? = some e) (hlm : lastM a ≤ i) (hT : c.tm < 2000000000)
    (h : ∀ sm' fk' ak', BKi a sl ar i (turnA c e) sm' fk' ak' → frM wfB waB fk ak fk' ak' → Q (mS b fk' ak') → Q' (mS b fk' ak')) : w_X12_turn (some b.o) (ak 24 i) (mS b fk ak) Q X → w_X12_turn (some b.o) (ak 24 i) (mS b fk ak) Q' X' := by
  have hi := (List.getElem?_eq_some_iff.mp he).1
  obtain ⟨hx1, hV, e1, htm, hnn, hmkc, hold, h24', hst, hinj, hlen⟩ := id hI
  have h24 := (hx0.2.2.2.1.2.2 hmk).2.1 i e he
  rw [← h24' i hi] at h24
  generalize ak 24 i = v at h24
  unfold w_X12_turn
  obtain ⟨n, w⟩ := e
  have hm : n ∈ a.rw (a.ft n) := (hV0.2.2.1.2.2.2.2.1 i _ he).1
  have hsl := (hx0.1.2.1 _ n hm).1
  obtain ⟨o1, o2, o3, o4⟩ := hold _ n hm
  cases w with
  | false =>
    have h24 : v.toInt = (sl n : Int) := h24
    have hfb : a.fb n = baseT a + i + 1 := (hV0.2.2.1.2.2.2.2.1 i _ he).2.1 rfl
    have h4 := hV0.1.2.2.2.1 _ n hm
    obtain ⟨s1, s2, s3, s4, s5⟩ := hst _ n hm (by omega) (h4.2.2.2.2.imp id (fun z => by omega))
    refine qv_if (fun z => ?_) (fun _ => ?_)
    · simp only [i32, Int32.reduceToInt] at z; omega
    · refine n_loopV (fun w fi' ar' => fi' = fk ∧ ar' = ak ∧ (w.toInt = (sl n : Int) ∨ w.toInt = (sm (c.sn n) : Int))) ⟨rfl, rfl, Or.inl h24⟩ (fun w fi' ar' again again' ⟨e1, e2, hw⟩ ha => ?_)
      subst e1; subst e2
      have e19 : (ar' 19 (ix w)).toInt = (sm (c.sn n) : Int) := by
        rcases hw with z | z
        · rw [ix_of z]; exact s2
        · rw [ix_of z]; exact s3
      refine n_getF hb (by decide) ?_
      refine nv_ald hb (by decide) (by decide) (fun _ => ?_)
      refine qv_if (fun z => ?_) (fun _ => ?_)
      · rw [z] at e19
        rw [m_recv hb, m_recv hb]
        refine n_go2 hb hx1 hV s1 e19 hT (fun fk' ak' ff f24 hx => ?_)
        rw [turn_came] at h
        exact h sm fk' ak' (BK_came hG hx0.1 hV0 hI he hlm ff f24 hx) ⟨fun j hj => ff.1 j (fun z => hj ((by decide : ∀ j, j ∈ [22, 25] → j ∈ wfB) j z)), fun j hj => ff.2 j (fun z => hj ((by decide : ∀ j, j ∈ [16, 24] → j ∈ waB) j z))⟩
      · refine n_getF hb (by decide) ?_
        refine nv_ald hb (by decide) (by decide) (fun _ => ?_)
        exact ha _ _ _ ⟨rfl, rfl, Or.inr e19⟩
  | true =>
    have h24 : v.toInt = -1 - (sl n : Int) := h24
    have hneg : v < 0 := by simp only [i32, Int32.reduceToInt]; omega
    refine qv_if (fun _ => ?_) (fun z => absurd hneg z)
    · have hg : ((-1 : Int32) - v).toInt = (sl n : Int) := by
        rw [i_sub (show (-1 : Int32).toInt = -1 by decide) h24 (by omega)]; omega
      generalize (-1 : Int32) - v = g at hg ⊢
      have hft : c.ft n = a.ft n := (hV.1.2.2.2.1 _ n o1).2.1
      have hcn : n ∈ c.rw (c.ft n) := by rw [hft]; exact o1
      obtain ⟨P, R, hr, hnP⟩ := mem_split hcn
      have hq := hx1.1.2.1 _ n hcn
      unfold RF1 at hq
      rw [o3] at hq
      have hti : inT c (c.ft n) := Classical.byContradiction (fun z => by rw [hV.1.1 _ z] at hcn; exact absurd hcn List.not_mem_nil)
      refine n_getF hb (by decide) ?_
      refine nv_ald hb (by decide) (by decide) (fun _ => ?_)
      rw [ix_of hg]
      refine n_fresh hb (t := ak 12 (sl n)) (fun r s fk1 ak1 hrs hs hu h1 => ?_)
      have hsn : sl n ≠ s := fun z => hq.2.1 (by rw [z]; exact hu)
      refine n_loopV (fun v fi2 ar2 => fi2 = fk1 ∧ ∃ k0 : Nat, v.toInt = (k0 : Int) ∧ k0 ≤ 4 ∧ (∀ j, j ≠ 13 → ar2 j = ak1 j) ∧ (∀ k, k < k0 → ar2 13 (4 * s + k) = c.fc n k) ∧ ∀ x, x < 4 * s ∨ 4 * s + 4 ≤ x → ar2 13 x = ak1 13 x) ⟨rfl, 0, by decide, by omega, fun _ _ => rfl, fun k hk => absurd hk (by omega), fun _ _ => rfl⟩ (fun v2 fi2 ar2 ag ag' ⟨e1, k0, i1, i2, c1, c2', c3'⟩ hag => ?_)
      subst e1
      refine qv_if (fun c4 => ?_) (fun c4 => ?_)
      · simp only [i32, Int32.reduceToInt] at c4
        have hk4 : k0 = 4 := by omega
        subst hk4
        have emap : ((P ++ [n]) ++ R).map sm = (c.rw (c.ft n)).map sm := by rw [hr]; simp
        rw [List.map_append] at emap
        have hl1 : LnK (ar2 18) (ar2 7 (c.ft n)) ((P ++ [n]).map sm ++ R.map sm) := by
          rw [c1 18 (by decide), c1 7 (by decide), h1.1.2 18 (by decide), h1.1.2 7 (by decide), emap]; exact (hx1.1.1 _ hti).1
        have hl2 : LnK (ar2 17) (ar2 8 (c.ft n)) ((P ++ [n]).map sm ++ R.map sm).reverse := by
          rw [c1 17 (by decide), c1 8 (by decide), h1.1.2 17 (by decide), h1.1.2 8 (by decide), emap]; exact (hx1.1.1 _ hti).2
        have h12 : (ar2 12 s).toInt = (c.ft n : Int) := by
          rw [c1 12 (by decide), h1.2.2.2.2.2.1, va_up_self]; exact hq.2.2.1
        have hnd : ((P ++ [n]).map sm ++ R.map sm).Nodup := by rw [emap]; exact sl_nd hx1.1 hV _
        have hgn : s ∉ (P ++ [n]).map sm ++ R.map sm := fun z => by
          rw [emap] at z
          obtain ⟨n', hn', e⟩ := List.mem_map.mp z
          exact (hx1.1.2.1 _ n' hn').2.1 (by rw [e]; exact hu)
        refine n_link hb (t := c.ft n) (gN := s) (L1 := (P ++ [n]).map sm) (L2 := R.map sm) hrs (Or.inr ⟨P.map sm, sl n, by rw [List.map_append, ← o3]; rfl, hg⟩) h12 hl1 hl2 hnd hgn (fun ar3 h3 => ?_)
        refine n_getF hb (by decide) ?_
        refine nv_astI hb (by decide) (by decide) (fun _ => ?_)
        rw [ix_of hg]
        refine h _ _ _ (BK_went hG hx0.1 hV0 hI he hlm hT hr hnP hrs hs hu hq.2.2.1 h1 ⟨c1, c2', c3'⟩ h3) ⟨fun j hj => h1.1.1 j hj, fun j hj => ?_⟩
        have hjne : ∀ q, q ∈ waB → j ≠ q := fun q hq' z => hj (by rw [z]; exact hq')
        rw [up2_nj (hjne 19 (by decide)), h3.1 j (hjne 17 (by decide)) (hjne 18 (by decide)) (hjne 7 (by decide)) (hjne 8 (by decide)), c1 j (hjne 13 (by decide))]
        exact h1.1.2 j (fun z => hj ((by decide : ∀ j, j ∈ [11, 12, 14, 15, 16, 19, 24] → j ∈ waB) j z))
      · simp only [i32, Int32.reduceToInt] at c4
        refine n_getF hb (by decide) ?_
        refine n_getF hb (by decide) ?_
        have e4 : ((4 : Int32) * g + v2).toInt = ((4 * sl n + k0 : Nat) : Int) := by
          rw [i_add (i_mul (show (4 : Int32).toInt = 4 by decide) hg (by omega)) i1 (by omega)]; omega
        have e5 : ((4 : Int32) * r + v2).toInt = ((4 * s + k0 : Nat) : Int) := by
          rw [i_add (i_mul (show (4 : Int32).toInt = 4 by decide) hrs (by omega)) i1 (by omega)]; omega
        refine nv_ald hb (by decide) (by decide) (fun _ => ?_)
        rw [ix_of e4]
        refine nv_astI hb (by decide) (by decide) (fun _ => ?_)
        rw [ix_of e5]
        refine hag _ _ _ ⟨rfl, k0 + 1, by rw [i_add i1 (show (1 : Int32).toInt = 1 by decide) (by omega)]; omega, by omega, fun j hj => by rw [up2_nj hj]; exact c1 j hj, fun k hk => ?_, fun x hx' => ?_⟩
        · rw [up2_at]
          by_cases ek : k = k0
          · rw [ek, va_up_self, c3' _ (by omega), h1.1.2 13 (by decide)]
            exact hq.2.2.2.1 k0 (by omega)
          · rw [va_up_ne _ _ (by omega)]; exact c2' k (by omega)
        · rw [up2_at, va_up_ne _ _ (by omega)]; exact c3' x hx'
theorem mk_last (hH : RXh a sl fi ar) (hmk : a.mk ≠ []) : (ar 26 (ix (fi 27 - 1))).toInt = (lastM a : Int) ∧ lastM a ∈ a.mk := by
  have hl : 0 < a.mk.length := List.length_pos_iff.mpr hmk
  have e1 : (fi 27 - 1).toInt = ((a.mk.length - 1 : Nat) : Int) := by
    have h2 : a.mk.length < 2147483648 := by have := (fi 27).toInt_lt; have := hH.1; omega
    rw [i_sub hH.1 (show (1 : Int32).toInt = 1 by decide) (by omega)]; omega
  have e2 : a.mk[a.mk.length - 1]? = some (lastM a) := by
    unfold lastM
    rw [List.getLast?_eq_getElem?, List.getElem?_eq_getElem (by omega)]; rfl
  rw [ix_of e1]
  exact ⟨hH.2.1 _ _ e2, List.mem_of_getElem? e2⟩
theorem av_drop (hV : AV a) : AV (restH (dropA a)) := by
  obtain ⟨hr, hk, ⟨h1, h2, h3, h4, h5, h6⟩, hc, ho⟩ := hV
  unfold restH
  by_cases hm : (dropA a).mk = []
  · rw [if_pos hm]
    refine ⟨hr, hk, ⟨?_, ?_, fun _ => rfl, ?_, fun k e he => ?_, fun t n hn hb' => ?_⟩, hc, ho⟩
    · have : ((dropA a).w_hs []).mk = [] := hm
      rw [this]; simp
    · intro m hm'
      have e : ((dropA a).w_hs []).mk = [] := hm
      rw [e] at hm'; exact absurd hm' List.not_mem_nil
    · show ((([] : List (Nat × Bool)).length : Nat) : Int) ≤ a.tm
      have := hr.2.2.2.2.1; simp; omega
    · have he : ([] : List (Nat × Bool))[k]? = some e := he
      simp at he
    · have hn : n ∈ a.rw t := hn
      have hb' : a.tm - (([] : List (Nat × Bool)).length : Nat) < a.fb n := hb'
      have := (hr.2.2.2.1 t n hn).2.2.2.1
      simp at hb'; omega
  · rw [if_neg hm]
    refine ⟨hr, hk, ⟨?_, fun m hm' => h2 m ((List.dropLast_sublist _).subset hm'), fun z => absurd z hm, h4, h5, h6⟩, hc, ho⟩
    show a.mk.dropLast.length ≤ 8
    rw [List.length_dropLast]; omega
theorem rx_drop (hx : RXx a sl fi ar) (hmk : a.mk ≠ []) (v : Int32) (hv : v.toInt = (a.mk.length : Int) - 1) : RXx (restH (dropA a)) sl (va_up fi 27 v) ar := by
  obtain ⟨hF, hK, hS, hH, hC, hO⟩ := hx
  have hl : 0 < a.mk.length := List.length_pos_iff.mpr hmk
  have e1 : (va_up fi 27 v 27).toInt = (a.mk.dropLast.length : Int) := by
    rw [va_up_self, List.length_dropLast, hv]; omega
  have hS' : RXs a (va_up fi 27 v) := by
    simp only [RXs, va_up_ne, ne_eq, Nat.reduceEqDiff, not_false_eq_true]; exact hS
  have hO' : RXo a (va_up fi 27 v) ar := by
    simp only [RXo, va_up_ne, ne_eq, Nat.reduceEqDiff, not_false_eq_true]; exact hO
  have h26 : ∀ (i m : Nat), a.mk.dropLast[i]? = some m → (ar 26 i).toInt = (m : Int) := fun i m him => by
    refine hH.2.1 i m ?_
    have hi := (List.getElem?_eq_some_iff.mp him).1
    rw [List.length_dropLast] at hi
    rw [List.getElem?_dropLast, if_pos (by omega)] at him
    exact him
  unfold restH
  by_cases hm : (dropA a).mk = []
  · rw [if_pos hm]
    exact ⟨hF, hK, hS', ⟨e1, h26, fun z => absurd hm z⟩, hC, hO'⟩
  · rw [if_neg hm]
    refine ⟨hF, hK, hS', ⟨e1, h26, fun _ => ?_⟩, hC, hO'⟩
    have := hH.2.2 hmk
    rw [va_up_ne _ _ (by decide)]
    exact this
theorem BK_0 (hG : G M fi ar) (hx : RXx a sl fi ar) (hV : AV a) (hmk : a.mk ≠ []) {v : Int32} (hv : v.toInt = (a.mk.length : Int) - 1) (hlen : (allF a).length + goneN a ≤ 3000) {fj : Nat → Int32} (hx' : RXx a sl fj ar) : BKi a sl ar a.hs.length (restH (dropA a)) sl (va_up fj 27 v) ar := by
  have e0 : (restH (dropA a)).1 = a.1 ∧ (restH (dropA a)).rw = a.rw ∧ (restH (dropA a)).fb = a.fb ∧ (restH (dropA a)).fd = a.fd ∧ (restH (dropA a)).sn = a.sn ∧ (restH (dropA a)).nn = a.nn ∧ (restH (dropA a)).tm = a.tm ∧ ((restH (dropA a)).mk ≠ [] → a.hs.length ≤ (restH (dropA a)).hs.length) := by
    unfold restH
    by_cases hm : (dropA a).mk = []
    · rw [if_pos hm]; exact ⟨rfl, rfl, rfl, rfl, rfl, rfl, rfl, fun z => absurd hm z⟩
    · rw [if_neg hm]; exact ⟨rfl, rfl, rfl, rfl, rfl, rfl, rfl, fun _ => Nat.le_refl _⟩
  obtain ⟨g0, g1, g2, g3, g4, g5, g6, g7⟩ := e0
  have hbt : baseT a + a.hs.length = a.tm := by unfold baseT; omega
  have self : ∀ t n, n ∈ a.rw t → baseT a < a.fb n → ndB a a.hs.length n → a.sn n = n ∧ a.fd n = -1 := fun t n hn hb' hnd => by
    have h4 := (hV.1.2.2.2.1 t n hn).2.2.2.2
    have hfd : a.fd n = -1 := by
      rcases hnd with z | z
      · exact z
      · omega
    refine ⟨((hV.2.2.1.2.2.2.2.2 t n hn hb').2).resolve_right (fun z => by omega), hfd⟩
  refine ⟨rx_drop hx' hmk v hv, av_drop hV, g0, ?_, ?_, g7, ?_, fun _ _ => rfl, ?_, ?_, ?_⟩
  · rw [g6]; omega
  · rw [g5]; exact Nat.le_refl _
  · intro t n hn
    rw [g1, g2, g3]
    exact ⟨hn, rfl, rfl, fun _ => rfl⟩
  · intro t n hn hb' hnd
    obtain ⟨s1, s2⟩ := self t n hn hb' hnd
    have h19 := (hx.2.2.2.1.2.2 hmk).2.2 t n hn hb'
    rw [s1] at h19
    rw [g4, g1, g3, s1]
    exact ⟨hn, h19, h19, fun _ => s2, Or.inl rfl⟩
  · intro t t' n n' hn hn' hb1 hb2 d1 d2
    rw [g4, (self t n hn hb1 d1).1, (self t' n' hn' hb2 d2).1]
    exact id
  · rw [allF_eq g1, List.take_length]; exact hlen
end RZ1
