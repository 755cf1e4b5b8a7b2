set_option linter.unusedVariables false
set_option linter.unusedSimpArgs false
/-! the class: solving, what stays -/
/-- only the solver's own has changed -/
def SvF (b : CT) (lk : Nat → Nat) (I I' : Nat → Nat → Int32) (F F' : Nat → Nat → Option Nat) (A A' : Nat → Nat → Nat → Int32) : Prop := ∀ ci x, Is b ci x → (ci = 7 ∨ ci = 8 ∨ (ci = 5 ∧ NLk lk x)) ∨ (I' x = I x ∧ F' x = F x ∧ A' x = A x)
/-- what solving from the goal g0 on may change: the solver v (count, variables, wanted), its spare solutions sp, its looks from g0 on -/
def SVr (v sp : Nat) (lv : Nat → Nat) (g0 : Nat) (I I' : Nat → Nat → Int32) (F F' : Nat → Nat → Option Nat) (A A' : Nat → Nat → Nat → Int32) : Prop := (∀ x, x ≠ v → x ≠ sp → (∀ i, g0 ≤ i → i < 10 → x ≠ lv i) → I' x = I x ∧ F' x = F x ∧ A' x = A x) ∧ (F' v = F v ∧ ∀ j, j ≠ 1 → I' v j = I v j) ∧ F' sp = F sp ∧ ∀ j, j ≠ 2 → I' sp j = I sp j
/-- the solver as it stands while a question is solved -/
def SVh (o : Nat) (a : AS) (g : CGs) (b : CT) (v r sp : Nat) (lv gl : Nat → Nat) (T : Int32) (Ga : List QG) (I : Nat → Nat → Int32) (F : Nat → Nat → Option Nat) (A : Nat → Nat → Nat → Int32) (E : Nat → Nat → Nat → Option Nat) : Prop :=
  CXx o a g b I F A E ∧ (Is b 8 v ∧ Is b 6 r ∧ Is b 7 sp) ∧ (F v 6 = some r ∧ F v 2 = some sp ∧ I v 7 = T) ∧ (∀ i, i < 10 → E v 3 i = some (lv i) ∧ Is b 5 (lv i)) ∧ (∀ i j, i < 10 → j < 10 → lv i = lv j → i = j) ∧ (∀ i, i < 10 → E r 0 i = some (gl i) ∧ Is b 2 (gl i)) ∧ ((I r 1).toInt = (Ga.length : Int) ∧ Ga.length ≤ 10) ∧ (∀ i G, Ga[i]? = some G → GoC (gl i) g.d G I F A) ∧ ∀ t, inT a t → ∀ k, k < 4 → (E (g.d t) 3 k ≠ none ↔ a.ix t k = true)
/-- the variables that are known -/
def EnvC (kn : Nat → Bool) (env : Nat → Int32) (A : Nat → Nat → Nat → Int32) (v : Nat) : Prop := ∀ j, j < 8 → kn j = true → A v 4 j = env j
/-- what is wanted of the columns -/
def wanK (env : Nat → Int32) (G : QG) (k : Nat) : Int32 := if mkL G.kn G.ag k then worK env G.ag k else 0
theorem bit_mask0 : ∀ (b0 b1 b2 b3 : Bool), bitm ((if b0 then 1 else 0) + (if b1 then 2 else 0) + (if b2 then 4 else 0) + (if b3 then 8 else 0) : Int32) 0 = b0 ∧ bitm ((if b0 then 1 else 0) + (if b1 then 2 else 0) + (if b2 then 4 else 0) + (if b3 then 8 else 0) : Int32) 1 = b1 ∧ bitm ((if b0 then 1 else 0) + (if b1 then 2 else 0) + (if b2 then 4 else 0) + (if b3 then 8 else 0) : Int32) 2 = b2 ∧ bitm ((if b0 then 1 else 0) + (if b1 then 2 else 0) + (if b2 then 4 else 0) + (if b3 then 8 else 0) : Int32) 3 = b3 := by decide
theorem bit_mask (f : Nat → Bool) {k : Nat} (hk : k < 4) : bitm (maskOf f) k = f k := by
  obtain ⟨h0, h1, h2, h3⟩ := bit_mask0 (f 0) (f 1) (f 2) (f 3)
  have : k = 0 ∨ k = 1 ∨ k = 2 ∨ k = 3 := by omega
  unfold maskOf
  rcases this with e | e | e | e <;> subst e
  · exact h0
  · exact h1
  · exact h2
  · exact h3
theorem mask_rg0 : ∀ (b0 b1 b2 b3 : Bool), 0 ≤ ((if b0 then 1 else 0) + (if b1 then 2 else 0) + (if b2 then 4 else 0) + (if b3 then 8 else 0) : Int32).toInt ∧ ((if b0 then 1 else 0) + (if b1 then 2 else 0) + (if b2 then 4 else 0) + (if b3 then 8 else 0) : Int32).toInt ≤ 15 := by decide
theorem mask_rg (f : Nat → Bool) : maskOk (maskOf f) := mask_rg0 (f 0) (f 1) (f 2) (f 3)
section SR1
variable {b : CT} {I I' I'' : Nat → Nat → Int32} {F F' F'' : Nat → Nat → Option Nat} {A A' A'' : Nat → Nat → Nat → Int32} {E : Nat → Nat → Nat → Option Nat} {o v r sp q i j k n t g0 : Nat} {lv gl : Nat → Nat} {T : Int32} {Ga : List QG} {G : QG} {a : AS} {g : CGs} {env : Nat → Int32} {X X' : String → HS → Prop} {Q Q' : HS → Prop} {QI QI' : Int32 → HS → Prop}
theorem wan_bit (hk : k < 4) (h : bitm (mskG G) k = true) : wanK env G k = worK env G.ag k := by
  unfold mskG at h
  rw [bit_mask _ hk] at h
  unfold wanK; rw [h]; rfl
theorem askB_wan {T : Int} : askB a t (mskG G) (wanK env G) T n = askB a t (mskG G) (worK env G.ag) T n := by
  unfold askB
  congr 1
  unfold fitB
  apply Bool.eq_iff_iff.mpr
  rw [range_all, range_all]
  have : ∀ k, k < 4 → (!(bitm (mskG G) k && decide ((k : Int) < (a.co t).toInt)) || a.fc n k == wanK env G k) = (!(bitm (mskG G) k && decide ((k : Int) < (a.co t).toInt)) || a.fc n k == worK env G.ag k) := fun k hk => by
    cases hb : bitm (mskG G) k with
    | false => rfl
    | true => rw [wan_bit hk hb]
  constructor
  · exact fun h k hk => by rw [← this k hk]; exact h k hk
  · exact fun h k hk => by rw [this k hk]; exact h k hk
theorem inLane_wan : inLane a t (mskG G) (wanK env G) = inLane a t (mskG G) (worK env G.ag) := by
  funext n
  unfold inLane
  cases hl : laneA a t (mskG G) with
  | none => rfl
  | some k =>
    have h1 := List.find?_some hl
    have h2 := List.mem_range.mp (List.mem_of_find?_eq_some hl)
    have h1 : (decide ((k : Int) < (a.co t).toInt) && (bitm (mskG G) k && a.ix t k)) = true := h1
    have h1 := (Bool.and_eq_true_iff.mp (Bool.and_eq_true_iff.mp h1).2).1
    show (a.fc n k == wanK env G k) = (a.fc n k == worK env G.ag k)
    rw [wan_bit h2 h1]
theorem CXx_svf (hx : CXx o a g b I F A E) (h : SvF b g.lk I I' F F' A A') : CXx o a g b I' F' A' E := by
  have hs := hx.2.1
  refine CXx_eq hx (fun ci x j hx hj => ?_) (fun ci x j hx hj => ?_) (fun ci x j hx hj => ?_) (fun _ _ _ _ _ => rfl) (fun c hc => ?_)
  · rcases h ci x hx with z | z
    · exfalso
      simp only [cxI, List.mem_cons, Prod.mk.injEq, List.not_mem_nil, or_false] at hj
      omega
    · rw [z.1]
  · rcases h ci x hx with z | z
    · exfalso
      simp only [cxF, List.mem_cons, Prod.mk.injEq, List.not_mem_nil, or_false] at hj
      omega
    · rw [z.2.1]
  · rcases h ci x hx with z | z
    · exfalso
      simp only [cxA, List.mem_cons, Prod.mk.injEq, List.not_mem_nil, or_false] at hj
      omega
    · rw [z.2.2]
  · rcases h 5 (g.lk c) (hs.2.2.2.2.2.2.2.1 c hc).2.1 with z | z
    · exfalso
      rcases z with z | z | z
      · omega
      · omega
      · exact z.2 c hc rfl
    · exact z
theorem SVr_rf : SVr v sp lv g0 I I F F A A := ⟨fun _ _ _ _ => ⟨rfl, rfl, rfl⟩, ⟨rfl, fun _ _ => rfl⟩, rfl, fun _ _ => rfl⟩
theorem SVr_tr (h : SVr v sp lv g0 I I' F F' A A') (h2 : SVr v sp lv g0 I' I'' F' F'' A' A'') : SVr v sp lv g0 I I'' F F'' A A'' := ⟨fun x z1 z2 z3 => by
    obtain ⟨a1, a2, a3⟩ := h.1 x z1 z2 z3
    obtain ⟨b1, b2, b3⟩ := h2.1 x z1 z2 z3
    exact ⟨b1.trans a1, b2.trans a2, b3.trans a3⟩, ⟨h2.2.1.1.trans h.2.1.1, fun j hj => (h2.2.1.2 j hj).trans (h.2.1.2 j hj)⟩, h2.2.2.1.trans h.2.2.1, fun j hj => (h2.2.2.2 j hj).trans (h.2.2.2 j hj)⟩
theorem SVr_mono {g1 : Nat} (hg : g0 ≤ g1) (h : SVr v sp lv g1 I I' F F' A A') : SVr v sp lv g0 I I' F F' A A' := ⟨fun x z1 z2 z3 => h.1 x z1 z2 (fun i hi => z3 i (by omega)), h.2⟩
theorem SVh_SVr (hS : SVh o a g b v r sp lv gl T Ga I F A E) (h : SVr v sp lv g0 I I' F F' A A') : SVh o a g b v r sp lv gl T Ga I' F' A' E := by
  obtain ⟨h1, ⟨h2, h3, h4⟩, ⟨h5, h6, h7⟩, h8, h9, h10, ⟨h11, h12⟩, h13, h14⟩ := hS
  have hs := h1.2.1
  have nl : ∀ ci x, Is b ci x → ci ≠ 5 → ∀ i, g0 ≤ i → i < 10 → x ≠ lv i := fun ci x hx hc i _ hi => Is_ne hx (h8 i hi).2 hc
  have fr : ∀ ci x, Is b ci x → ci ≠ 5 → ci ≠ 7 → ci ≠ 8 → I' x = I x ∧ F' x = F x ∧ A' x = A x := fun ci x hx n5 n7 n8 => h.1 x (Is_ne hx h2 n8) (Is_ne hx h4 n7) (nl ci x hx n5)
  refine ⟨CXx_svf h1 (fun ci x hx => ?_), ⟨h2, h3, h4⟩, ⟨by rw [h.2.1.1]; exact h5, by rw [h.2.1.1]; exact h6, by rw [h.2.1.2 7 (by decide)]; exact h7⟩, h8, h9, h10, ⟨by rw [(fr 6 r h3 (by decide) (by decide) (by decide)).1]; exact h11, h12⟩, fun i G hG => ?_, h14⟩
  · by_cases c7 : ci = 7
    · exact Or.inl (Or.inl c7)
    by_cases c8 : ci = 8
    · exact Or.inl (Or.inr (Or.inl c8))
    by_cases c5 : ci = 5
    · subst c5
      by_cases e : ∃ i, i < 10 ∧ x = lv i
      · obtain ⟨i, hi, e⟩ := e
        refine Or.inl (Or.inr (Or.inr ⟨rfl, fun c hc => ?_⟩))
        rw [e]
        exact (hs.2.2.2.2.2.2.2.2.2 v i (lv i) h2 (h8 i hi).1).2 c hc
      · exact Or.inr (h.1 x (Is_ne hx h2 (by decide)) (Is_ne hx h4 (by decide)) (fun i _ hi z => e ⟨i, hi, z⟩))
    · exact Or.inr (fr ci x hx c5 c7 c8)
  · have hi : i < 10 := by have := (List.getElem?_eq_some_iff.mp hG).1; omega
    obtain ⟨e1, e2, e3⟩ := fr 2 (gl i) (h10 i hi).2 (by decide) (by decide) (by decide)
    exact GoC_congr (h13 i G hG) e1 e2 e3
/-- a look's begin, and the wanted values -/
def Bg (v q : Nat) (I I' : Nat → Nat → Int32) (F F' : Nat → Nat → Option Nat) (A A' : Nat → Nat → Nat → Int32) : Prop := (∀ x, x ≠ q → I' x = I x ∧ F' x = F x) ∧ (∀ x, x ≠ q → x ≠ v → A' x = A x) ∧ ∀ j, j ≠ 5 → A' v j = A v j
theorem Bg_SVr (h : Bg v (lv i) I I' F F' A A') (hi : g0 ≤ i ∧ i < 10) (h1 : v ≠ lv i) (h2 : sp ≠ lv i) : SVr v sp lv g0 I I' F F' A A' := ⟨fun x z1 z2 z3 => ⟨(h.1 x (z3 i hi.1 hi.2)).1, (h.1 x (z3 i hi.1 hi.2)).2, h.2.1 x (z3 i hi.1 hi.2) z1⟩, ⟨(h.1 v h1).2, fun j _ => by rw [(h.1 v h1).1]⟩, (h.1 sp h2).2, fun j _ => by rw [(h.1 sp h2).1]⟩
theorem qs_solBegin (hS : SVh o a g b v r sp lv gl T Ga I F A E) (hV : AV a) (hG : Ga[i]? = some G) (hk : G.kd ≤ 1) (hw : WfG a.tn a.co G) (he : EnvC G.kn env A v)
    (h : ∀ I' F' A', Bg v (lv i) I I' F F' A A' → Lk1 a (lv i) G.tb false (mskG G) T.toInt none (wanK env G) g.d g.fa I' F' A' → I' (lv i) 7 = 0 → Q (cS b I' F' A' E) → Q' (cS b I' F' A' E)) : w_X8_beginLook (some v) (some (lv i)) (some (gl i)) (cS b I F A E) Q X → w_X8_beginLook (some v) (some (lv i)) (some (gl i)) (cS b I F A E) Q' X' := by
  obtain ⟨h1, ⟨h2, h3, h4⟩, ⟨h5, h6, h7⟩, h8, h9, h10, ⟨h11, h12⟩, h13, h14⟩ := id hS
  have hb := h1.1
  have hi : i < 10 := by have := (List.getElem?_eq_some_iff.mp hG).1; omega
  have hq := (h10 i hi).2
  have hlv := (h8 i hi).2
  have hvl : v ≠ lv i := Is_ne h2 hlv (by decide)
  have hvq : gl i ≠ v := Is_ne hq h2 (by decide)
  obtain ⟨c1, c2, c30, -, -⟩ := h13 i G hG
  obtain ⟨c3, c4, c5⟩ := c30 hk
  obtain ⟨w1, w2, w30, -, -⟩ := hw
  obtain ⟨w3, w4⟩ := w30 hk
  unfold w_X8_beginLook
  refine qc_loop (fun u b' I' F' A' E' => b' = b ∧ I' = I ∧ F' = F ∧ E' = E ∧ (∀ x, x ≠ v → A' x = A x) ∧ (∀ j, j ≠ 5 → A' v j = A v j) ∧ ∃ m : Nat, u.toInt = (m : Int) ∧ m ≤ 4 ∧ ∀ k, k < m → A' v 5 k = wanK env G k) ⟨rfl, rfl, rfl, rfl, fun _ _ => rfl, fun _ _ => rfl, 0, by decide, by omega, fun k hk => absurd hk (by omega)⟩ (fun u b' I' F' A' E' again again' ⟨e1, e2, e3, e4, hA1, hA2, m, m1, m2, m3⟩ ha => ?_)
  subst e1; subst e2; subst e3; subst e4
  have hR : SVr v sp lv 0 I' I' F' F' A A' := ⟨fun x z1 _ _ => ⟨rfl, rfl, hA1 x z1⟩, ⟨rfl, fun _ _ => rfl⟩, rfl, fun _ _ => rfl⟩
  have hx' := (SVh_SVr hS hR).1
  refine qv_if (fun z => ?_) (fun z => ?_)
  · simp only [i32, Int32.reduceToInt] at z
    refine qc_getF hb (by decide) (fun _ => ?_)
    rw [c3]
    refine qc_getI (fun _ => ?_)
    rw [c4]
    refine qc_getA hb (by decide) (fun _ => ?_)
    refine qc_getI (fun _ => ?_)
    rw [h7]
    refine qc_recv (fun _ => ?_)
    refine qs_begin hx' hV hlv w3 (mask_rg _) h2 (by decide) hvl (fun I2 F2 A2 hL hK k0 k7 => ?_)
    obtain ⟨y1, y2, y3, y4, y5, y6, y7, y8⟩ := hK
    refine h I2 F2 A2 ⟨fun x hx => ⟨hL.1 x hx, hL.2.1 x hx⟩, fun x hx hx2 => (hL.2.2 x hx).trans (hA1 x hx2), fun j hj => by rw [hL.2.2 v hvl]; exact hA2 j hj⟩ ⟨y1, y2, y3, y4, y5, y6, fun k hk => (y7 k hk).trans (m3 k (by omega)), fun n hn => absurd hn (by simp)⟩ k7
  · simp only [i32, Int32.reduceToInt] at z
    have hm4 : m < 4 := by omega
    have um : ix u = m := ix_of m1
    have nxt : ∀ w, w = wanK env G m → (wAstI (cS b' I' F' A' E') (some (b'.ad v 5)) u w fun x18 => again (u + 1) x18) → (wAstI (cS b' I' F' A' E') (some (b'.ad v 5)) u w fun x18 => again' (u + 1) x18) := fun w hw => by
      refine qc_astI hb h2 (by decide) (fun _ => ?_)
      rw [um]
      refine ha _ _ _ _ _ _ ⟨rfl, rfl, rfl, rfl, fun x hx => ?_, fun j hj => ?_, m + 1, by rw [i_add m1 (show (1 : Int32).toInt = 1 by decide) (by omega)]; omega, by omega, fun k hk => ?_⟩
      · rw [← hA1 x hx]; funext j; exact up3_ne (fun z => hx z.1)
      · rw [← hA2 j hj]; exact up3_ne (fun z => hj z.2)
      · rw [up3_at]
        by_cases e : k = m
        · rw [e, va_up_self, hw]
        · rw [va_up_ne _ _ e]; exact m3 k (by omega)
    refine qc_getA hb (by decide) (fun _ => ?_)
    refine qc_getI (fun _ => ?_)
    rw [c4]
    refine qc_isIn m1 ?_
    dsimp only [wJoin]
    rw [bit_mask _ hm4]
    cases hb2 : mkL G.kn G.ag m with
    | false =>
      refine qv_if (fun _ => nxt 0 ?_) (fun z => absurd rfl z)
      unfold wanK; rw [hb2]; rfl
    | true =>
      refine qv_if (fun z => absurd z (by decide)) (fun _ => ?_)
      have hx2 : ∃ x, G.ag[m]? = some x ∧ mkB G.kn x = true := by
        unfold mkL at hb2
        cases hq2 : G.ag[m]? with
        | none => rw [hq2] at hb2; cases hb2
        | some x => rw [hq2] at hb2; exact ⟨x, rfl, hb2⟩
      obtain ⟨x, hx, hmk⟩ := hx2
      have okx := w2 x (List.mem_of_getElem? hx)
      obtain ⟨d1, d2⟩ := c5 m x hx
      have ne2 : x.1 ≠ 2 := fun e => by unfold mkB at hmk; rw [e] at hmk; cases hmk
      have kn1 : x.1 = 1 → G.kn (ix x.2) = true := fun e => by
        unfold mkB at hmk
        rw [e] at hmk
        simpa using hmk
      refine qc_recv (fun _ => ?_)
      refine qs_value (env := env) (x := x) m1 hb h2 hq ?_ ?_ (fun e => ?_) (nxt _ ?_)
      · rw [hA1 _ hvq, d1]
        unfold kdS
        by_cases e : x.1 = 1
        · rw [if_pos e, if_pos e, kn1 e]; rfl
        · rw [if_neg e, if_neg e]
          unfold kdN
          rw [if_neg e, if_neg ne2]
      · rw [hA1 _ hvq]; exact d2 ne2
      · rw [hA2 4 (by decide)]
        have := okx.2 e
        exact he _ (by have := ix_int this.1; omega) (kn1 e)
      · unfold wanK worK
        rw [hb2, hx]; rfl
end SR1
