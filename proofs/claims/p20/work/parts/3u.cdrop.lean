set_option linter.unusedVariables false
set_option linter.unusedSimpArgs false
/-! the class: a table forgets -/
section VU1
variable {b b' : CT} {I I' : Nat → Nat → Int32} {F F' : Nat → Nat → Option Nat} {A A' : Nat → Nat → Nat → Int32} {E E' : Nat → Nat → Nat → Option Nat} {o t n n' k f p w j ci q s h l N x : Nat} {a c : AS} {g : CGs} {cs : Nat → Int32} {d r ct fa : Nat → Nat} {y : HS} {X X' : String → HS → Prop} {Q Q' : HS → Prop} {QI QI' : Int32 → HS → Prop} {QF QF' : Option Nat → HS → Prop}
/-- chains of the table t have been emptied, those that W names -/
def Emp (b : CT) (ct : Nat → Nat) (t : Nat) (W : Nat → Prop) (F F' : Nat → Nat → Option Nat) : Prop := (∀ x j, ¬ (Is b 0 x ∧ ct x = t ∧ (j = 3 ∨ j = 4)) → F' x j = F x j) ∧ ∀ c, Is b 0 c → ct c = t → W c → F' c 3 = none ∧ F' c 4 = none
theorem Emp_put {W : Nat → Prop} {c0 : Nat} (h : Emp b ct t W F F') (hc : Is b 0 c0) (ht : ct c0 = t) : Emp b ct t (fun c => W c ∨ c = c0) F (up2 (up2 F' c0 3 none) c0 4 none) := by
  refine ⟨fun x j hx => ?_, fun c hc' ht' hw => ?_⟩
  · rw [← h.1 x j hx]
    exact (if_neg (fun z => hx ⟨by rw [z.1]; exact hc, by rw [z.1]; exact ht, Or.inr z.2⟩)).trans (if_neg (fun z => hx ⟨by rw [z.1]; exact hc, by rw [z.1]; exact ht, Or.inl z.2⟩))
  · by_cases e : c = c0
    · subst e
      exact ⟨(if_neg (fun z => absurd z.2 (by decide))).trans (up2_self _ _ _ _), up2_self _ _ _ _⟩
    · obtain ⟨y1, y2⟩ := h.2 c hc' ht' (hw.resolve_right e)
      exact ⟨(if_neg (fun z => e z.1)).trans ((if_neg (fun z => e z.1)).trans y1), (if_neg (fun z => e z.1)).trans ((if_neg (fun z => e z.1)).trans y2)⟩
theorem Emp_mono {W W' : Nat → Prop} (h : Emp b ct t W F F') (hw : ∀ c, Is b 0 c → ct c = t → W' c → W c) : Emp b ct t W' F F' := ⟨h.1, fun c h1 h2 h3 => h.2 c h1 h2 (hw c h1 h2 h3)⟩
theorem qc_empty (hb : CB b) {W : Nat → Prop} {c0 : Nat} (h : Emp b ct t W F F') (hc : Is b 0 c0) (ht : ct c0 = t) (hQ : ∀ F2, Emp b ct t (fun c => W c ∨ c = c0) F F2 → (∀ x, F2 x 2 = F' x 2) → Q (cS b I F2 A E) → Q' (cS b I F2 A E)) : w_X0_empty (some c0) (cS b I F' A E) Q X → w_X0_empty (some c0) (cS b I F' A E) Q' X' := by
  unfold w_X0_empty
  refine qc_putF hb (by decide) (fun _ => ?_)
  refine qc_putF hb (by decide) (fun _ => ?_)
  exact hQ _ (Emp_put h hc ht) (fun x => (if_neg (fun z => absurd z.2 (by decide))).trans (if_neg (fun z => absurd z.2 (by decide))))
theorem qc_emptyIx (hb : CB b) {W : Nat → Prop} (h0 : Emp b ct t W F F') (hx : Is b 4 x) (hB : ∀ i, i < 64 → Bkt b t k x i ct I F E) (hQ : ∀ F2, Emp b ct t (fun c => W c ∨ ix (I c 0) = k) F F2 → Q (cS b I F2 A E) → Q' (cS b I F2 A E)) : w_X4_empty (some x) (cS b I F' A E) Q X → w_X4_empty (some x) (cS b I F' A E) Q' X' := by
  unfold w_X4_empty
  refine qc_loop (fun v b' I' F2 A' E' => b' = b ∧ I' = I ∧ A' = A ∧ E' = E ∧ ∃ i : Nat, v.toInt = (i : Int) ∧ Emp b ct t (fun c => W c ∨ ix (I c 0) = k ∧ ix (I c 1 &&& 63) < i) F F2) ⟨rfl, rfl, rfl, rfl, 0, by decide, Emp_mono h0 (fun c _ _ z => z.resolve_right (fun y => absurd y.2 (by omega)))⟩ (fun v b' I' F2 A' E' again again' ⟨e1, e2, e3, e4, i, i1, hE⟩ ha => ?_)
  subst e1; subst e2; subst e3; subst e4
  refine qv_if (fun z => hQ _ (Emp_mono hE (fun c _ _ y => y.imp id (fun y => ⟨y, ?_⟩)))) (fun z => ?_)
  · simp only [i32, Int32.reduceToInt] at z
    have := ix_lt (and63 (I' c 1)); omega
  · simp only [i32, Int32.reduceToInt] at z
    obtain ⟨C, hC, hm⟩ := hB i (by omega)
    refine qc_getA hb (by decide) (fun _ => ?_)
    refine qc_aldG hb hx (by decide) (by decide) (fun _ => ?_)
    rw [ix_of i1]
    have hC2 : LnO (fun c => F2 c 2) (E' x 1 i) C := LnO_congr (fun c _ => hE.1 c 2 (fun z => by omega)) hC
    refine qc_loop (fun v2 b2 I2 F3 A2 E2 => b2 = b' ∧ I2 = I' ∧ A2 = A' ∧ E2 = E' ∧ v2.1 = v ∧ ∃ P S, C = P ++ S ∧ LnO (fun c => F3 c 2) v2.2 S ∧ Emp b' ct t (fun c => (W c ∨ ix (I' c 0) = k ∧ ix (I' c 1 &&& 63) < i) ∨ c ∈ P) F F3) ⟨rfl, rfl, rfl, rfl, rfl, [], C, rfl, hC2, Emp_mono hE (fun c _ _ z => z.resolve_right List.not_mem_nil)⟩ (fun v2 b2 I2 F3 A2 E2 ag ag' ⟨e1, e2, e3, e4, e5, P, S, s1, s2, s3⟩ hag => ?_)
    subst e1; subst e2; subst e3; subst e4
    obtain ⟨va, vp⟩ := v2
    dsimp only at e5 s2 ⊢
    subst e5
    cases vp with
    | none =>
      refine qv_if (fun _ => ?_) (fun z => absurd rfl z)
      have hS0 := LnO_none s2
      rw [hS0, List.append_nil] at s1
      refine ha _ _ _ _ _ _ ⟨rfl, rfl, rfl, rfl, i + 1, by rw [i_add i1 (show (1 : Int32).toInt = 1 by decide) (by omega)]; omega, Emp_mono s3 (fun c hc ht z => ?_)⟩
      rcases z with z | ⟨z1, z2⟩
      · exact Or.inl (Or.inl z)
      · by_cases e : ix (I2 c 1 &&& 63) = i
        · exact Or.inr (by rw [← s1]; exact (hm c).mpr ⟨hc, ht, z1, e⟩)
        · exact Or.inl (Or.inr ⟨z1, by omega⟩)
    | some c0 =>
      refine qv_if (fun z => absurd z (by simp)) (fun _ => ?_)
      obtain ⟨S', eS, hS'⟩ := LnO_some s2
      have hc0 : c0 ∈ C := by rw [s1, eS]; exact List.mem_append_right _ List.mem_cons_self
      obtain ⟨y1, y2, y3, y4⟩ := (hm c0).mp hc0
      refine qc_recv (fun _ => ?_)
      refine qc_empty hb s3 y1 y2 (fun F4 h4 h42 => ?_)
      refine qc_getF hb (by decide) (fun _ => ?_)
      rw [h42 c0]
      refine hag _ _ _ _ _ _ ⟨rfl, rfl, rfl, rfl, rfl, P ++ [c0], S', by rw [s1, eS]; simp, ?_, Emp_mono h4 (fun c hc ht z => ?_)⟩
      · rw [show (fun c => F4 c 2) = fun c => F3 c 2 from funext h42]; exact hS'
      · rcases z with z | z
        · exact Or.inl (Or.inl z)
        · rcases List.mem_append.mp z with z | z
          · exact Or.inl (Or.inr z)
          · exact Or.inr (List.mem_singleton.mp z)
/-- a table whose row is M -/
def rowM (a : AS) (t : Nat) (M : List Nat) : AS := a.w_rw (va_up a.rw t M)
theorem rowM_oth {t' l : Nat} {v : Int32} {M : List Nat} (h : t' ≠ t) : rowL (rowM a t M) t' l v = rowL a t' l v := by
  show (if l = 4 then va_up a.rw t M t' else (va_up a.rw t M t').filter fun n => a.fc n l == v) = _
  rw [va_up_ne _ _ h]; rfl
theorem rowM_at {l : Nat} {v : Int32} {M : List Nat} : rowL (rowM a t M) t l v = if l = 4 then M else M.filter fun n => a.fc n l == v := by
  show (if l = 4 then va_up a.rw t M t else (va_up a.rw t M t).filter fun n => a.fc n l == v) = _
  rw [va_up_self]
/-- while a table is filled again -/
def Dr (a : AS) (t : Nat) (M : List Nat) (d r fa ct0 : Nat → Nat) (A : Nat → Nat → Nat → Int32) (b0 : CT) (I0 : Nat → Nat → Int32) (F0 : Nat → Nat → Option Nat) (E0 : Nat → Nat → Nat → Option Nat) (b : CT) (ct : Nat → Nat) (I : Nat → Nat → Int32) (F : Nat → Nat → Option Nat) (E : Nat → Nat → Nat → Option Nat) : Prop :=
  CB b ∧ Fr b0 b I0 I F0 F E0 E ∧ CH1 b I F E (fun c => (rowL (rowM a t M) (ct c) (ix (I c 0)) (I c 1)).map fa) ∧ CH2 b a.tn d r ct I E ∧ CH3 b a.tn a.co d ct I F E ∧ (∀ c, Is b0 0 c → ct c = ct0 c) ∧ ∀ t k n, inT a t → k < 4 → E (d t) 3 k ≠ none → n ∈ a.rw t → ∃ c, Is b 0 c ∧ ct c = t ∧ ix (I c 0) = k ∧ I c 1 = a.fc n k
/-- what the facts are, that the table has had -/
def DrF (a : AS) (d r fa : Nat → Nat) (A : Nat → Nat → Nat → Int32) (b : CT) (ct : Nat → Nat) (I : Nat → Nat → Int32) (F : Nat → Nat → Option Nat) : Prop := (∀ t n, n ∈ a.rw t → CF1 a b d fa I F A t n) ∧ ∀ t, inT a t → Is b 10 (d t) ∧ I (d t) 1 = a.co t ∧ F (d t) 2 = some (r t) ∧ Is b 0 (r t) ∧ I (r t) 0 = 4 ∧ ct (r t) = t
theorem DrF_fr {ct' : Nat → Nat} (h : DrF a d r fa A b ct I F) (hf : Fr b b' I I' F F' E E') (hct : ∀ c, Is b 0 c → ct' c = ct c) : DrF a d r fa A b' ct' I' F' := by
  obtain ⟨x1, x2, x3, x4, x5, x6⟩ := hf
  refine ⟨fun t n hn => ?_, fun t ht => ?_⟩
  · have y := h.1 t n hn
    unfold CF1 at y ⊢
    rw [x4 _ y.1.1, x5 1 _ 2 y.1 (fun z => absurd z.1 (by decide))]
    exact ⟨x1.1 _ _ y.1, y.2⟩
  · obtain ⟨y1, y2, y3, y4, y5, y6⟩ := h.2 t ht
    rw [x4 _ y1.1, x5 10 _ 2 y1 (fun z => absurd z.1 (by decide)), x4 _ y4.1, hct _ y4]
    exact ⟨x1.1 _ _ y1, y2, y3, x1.1 _ _ y4, y5, y6⟩
/-- the facts that are kept are put in again -/
theorem qc_refill (hV : AV a) (ht : inT a t) {b0 : CT} {I0 : Nat → Nat → Int32} {F0 : Nat → Nat → Option Nat} {E0 : Nat → Nat → Nat → Option Nat} {ct0 : Nat → Nat} (hDF0 : DrF a d r fa A b0 ct0 I0 F0) {T : Int} {Tv : Int32} (hT : Tv.toInt = T) (hT0 : 0 ≤ T) {v0 : Option Nat} (hv0 : LnO (fun q => E q 1 4) v0 ((a.rw t).map fa)) (h0 : Dr a t [] d r fa ct0 A b0 I0 F0 E0 b ct I F E)
    (hQ : ∀ b' ct' I' F' E', Dr a t ((a.rw t).filter fun n => !(goneB a T n)) d r fa ct0 A b0 I0 F0 E0 b' ct' I' F' E' → Q (cS b' I' F' A E') → Q' (cS b' I' F' A E')) :
    wLoop (σ := Option Nat) (fun v14 x13 again11 => wIf (v14 = none) (Q x13) (wGetF x13 1 1 v14 fun v15 => wAldG x13 25 v15 4 fun v16 => wRecv x13 1 v14 (w_X1_isThereNow v14 x13 (fun v18 x17 => wJoin (κ := HS → Prop) (fun x20 => again11 v16 x20) (fun j19 => wJoin (κ := HS → Prop) (fun x22 => wRecv x22 10 (some (d t)) (w_X10_place (some (d t)) v14 0 x22 (fun x23 => j19 x23) X)) (fun j21 => wIf (v18 = 0) (wGetI x17 1 6 v14 fun v25 => wIf (v25 ≤ Tv) (j19 x17) (j21 x17)) (j21 x17)))) X))) v0 (cS b I F A E) →
    wLoop (σ := Option Nat) (fun v14 x13 again11 => wIf (v14 = none) (Q' x13) (wGetF x13 1 1 v14 fun v15 => wAldG x13 25 v15 4 fun v16 => wRecv x13 1 v14 (w_X1_isThereNow v14 x13 (fun v18 x17 => wJoin (κ := HS → Prop) (fun x20 => again11 v16 x20) (fun j19 => wJoin (κ := HS → Prop) (fun x22 => wRecv x22 10 (some (d t)) (w_X10_place (some (d t)) v14 0 x22 (fun x23 => j19 x23) X')) (fun j21 => wIf (v18 = 0) (wGetI x17 1 6 v14 fun v25 => wIf (v25 ≤ Tv) (j19 x17) (j21 x17)) (j21 x17)))) X'))) v0 (cS b I F A E) := by
  have hnd := hV.1.2.2.1 t
  have hco := (hV.2.1.2 t ht).2.1
  refine qc_loop (fun v b' I' F' A' E' => A' = A ∧ ∃ (ct' : Nat → Nat) (C S : List Nat), a.rw t = C ++ S ∧ LnO (fun q => E' q 1 4) v (S.map fa) ∧ Dr a t (C.filter fun n => !(goneB a T n)) d r fa ct0 A b0 I0 F0 E0 b' ct' I' F' E') ⟨rfl, ct, [], a.rw t, rfl, hv0, h0⟩ (fun v b' I' F' A' E' again again' ⟨eA, ct', C, S, s1, s2, hD⟩ ha => ?_)
  subst eA
  obtain ⟨hb', hFr, c1, c2, c3, hct, hex⟩ := id hD
  have hDF := DrF_fr hDF0 hFr hct
  cases v with
  | none =>
    refine qv_if (fun _ => ?_) (fun z => absurd rfl z)
    have hS0 : S = [] := List.map_eq_nil_iff.mp (LnO_none s2)
    rw [hS0, List.append_nil] at s1
    rw [← s1] at hD
    exact hQ _ _ _ _ _ hD
  | some fq =>
    refine qv_if (fun z => absurd z (by simp)) (fun _ => ?_)
    obtain ⟨S2, eS, hS2⟩ := LnO_some s2
    cases S with
    | nil => simp at eS
    | cons n S =>
      rw [List.map_cons] at eS
      have ef : fq = fa n := (List.cons.inj eS).1.symm
      have eS' : S2 = S.map fa := (List.cons.inj eS).2.symm
      subst ef; subst eS'
      have hn : n ∈ a.rw t := by rw [s1]; exact List.mem_append_right _ List.mem_cons_self
      have hFn := hDF.1 t n hn
      have s1' : a.rw t = (C ++ [n]) ++ S := by rw [s1]; simp
      have hnd' : (C ++ n :: S).Nodup := by rw [← s1]; exact hnd
      have hnC : n ∉ C := fun z => (List.nodup_append.mp hnd').2.2 n z n List.mem_cons_self rfl
      have hSn : ∀ m, m ∈ S → m ∉ C ∧ m ≠ n := fun m hm => ⟨fun z => (List.nodup_append.mp hnd').2.2 m z m (List.mem_cons_of_mem _ hm) rfl, fun z => (List.nodup_cons.mp (List.nodup_append.mp hnd').2.1).1 (by rw [← z]; exact hm)⟩
      have hmS : ∀ m, m ∈ S → m ∈ a.rw t := fun m hm => by rw [s1]; exact List.mem_append_right _ (List.mem_cons_of_mem _ hm)
      have hfd := (hV.1.2.2.2.1 t n hn).2.2
      refine qc_getA hb' (by decide) (fun _ => ?_)
      refine qc_aldG hb' hFn.1 (by decide) (by decide) (fun _ => ?_)
      refine qc_recv (fun _ => ?_)
      refine qc_isNow (fun _ => ?_)
      rw [now_fa hFn hV hn]
      dsimp only [wJoin]
      have skip : goneB a T n = true → again (E' (fa n) 1 4) (cS b' I' F' A' E') → again' (E' (fa n) 1 4) (cS b' I' F' A' E') := fun hg => ha _ _ _ _ _ _ ⟨rfl, ct', C ++ [n], S, s1', hS2, by
        rw [List.filter_append, List.filter_cons_of_neg (by simp [hg])]
        simpa using hD⟩
      have put : goneB a T n = false → wRecv (cS b' I' F' A' E') 10 (some (d t)) (w_X10_place (some (d t)) (some (fa n)) 0 (cS b' I' F' A' E') (fun x23 => again (E' (fa n) 1 4) x23) X) → wRecv (cS b' I' F' A' E') 10 (some (d t)) (w_X10_place (some (d t)) (some (fa n)) 0 (cS b' I' F' A' E') (fun x23 => again' (E' (fa n) 1 4) x23) X') := fun hg => by
        refine qc_recv (fun _ => ?_)
        obtain ⟨y1, y2, y3, y4, y5, y6⟩ := hDF.2 t ht
        -- who stands in a list
        have inL : ∀ c m, m ∈ rowL (rowM a t (C.filter fun n => !(goneB a T n))) (ct' c) (ix (I' c 0)) (I' c 1) → m ∈ a.rw (ct' c) ∧ (ct' c = t → m ∈ C) := fun c m hm => by
          by_cases e : ct' c = t
          · rw [e, rowM_at] at hm
            have hm' : m ∈ C.filter fun n => !(goneB a T n) := by
              split at hm
              · exact hm
              · exact (List.mem_filter.mp hm).1
            have hmC := (List.mem_filter.mp hm').1
            exact ⟨by rw [e, s1]; exact List.mem_append_left _ hmC, fun _ => hmC⟩
          · rw [rowM_oth e] at hm
            exact ⟨(rowL_sub hm).1, fun z => absurd z e⟩
        have ndL : ∀ t' l v, (rowL (rowM a t (C.filter fun n => !(goneB a T n))) t' l v).Nodup := fun t' l v => by
          by_cases e : t' = t
          · subst e
            rw [rowM_at]
            have hc : (C.filter fun n => !(goneB a T n)).Nodup := ((List.nodup_append.mp hnd').1).filter _
            split
            · exact hc
            · exact hc.filter _
          · rw [rowM_oth e]; exact rowL_nd hV
        have hfc : ∀ t' l v m, l ≠ 4 → m ∈ rowL (rowM a t (C.filter fun n => !(goneB a T n))) t' l v → a.fc m l = v := fun t' l v m hl hm => by
          by_cases e : t' = t
          · subst e
            rw [rowM_at, if_neg hl] at hm
            exact eq_of_beq (List.mem_filter.mp hm).2
          · rw [rowM_oth e] at hm
            exact (rowL_sub hm).2.resolve_left hl
        have hPl : PlP b' a.tn a.co d r ct' (fun c => (rowL (rowM a t (C.filter fun n => !(goneB a T n))) (ct' c) (ix (I' c 0)) (I' c 1)).map fa) t (fa n) I' F' E' := by
          refine ⟨hb', c1, c2, c3, fun t h => (hDF.2 t h).1, ht, y2, ⟨by omega, hco.2⟩, ⟨y3, y4, y5, y6⟩, hFn.1, fun c hc z => ?_, fun c hc => ⟨?_, fun q hq => ?_⟩, fun c c' hc hc' hne hl q hq hq' => ?_⟩
          · obtain ⟨m, hm, e⟩ := List.mem_map.mp z
            obtain ⟨w1, w2⟩ := inL c m hm
            have em := fa_inj (hDF.1 _ m w1) hFn e
            subst em
            exact hnC (w2 (hV.1.2.1 _ _ _ w1 hn))
          · refine List.pairwise_map.mpr ((ndL _ _ _).imp_of_mem (fun h1 h2 hne he => hne ?_))
            exact fa_inj (hDF.1 _ _ (inL c _ h1).1) (hDF.1 _ _ (inL c _ h2).1) he
          · obtain ⟨m, hm, rfl⟩ := List.mem_map.mp hq
            exact (hDF.1 _ m (inL c m hm).1).1
          · obtain ⟨m, hm, rfl⟩ := List.mem_map.mp hq
            obtain ⟨m', hm', e⟩ := List.mem_map.mp hq'
            have em := fa_inj (hDF.1 _ m' (inL c' m' hm').1) (hDF.1 _ m (inL c m hm).1) e
            subst em
            have et : ct' c = ct' c' := hV.1.2.1 _ _ _ (inL c _ hm).1 (inL c' _ hm').1
            by_cases h4 : ix (I' c 0) = 4
            · have e1 := (c2.1 c hc).2.2.1 h4
              have e2 := (c2.1 c' hc').2.2.1 (by rw [← hl]; exact h4)
              exact hne (by rw [e1, e2, et])
            · have z1 := hfc _ _ _ _ h4 hm
              have z2 := hfc _ _ _ _ (by rw [← hl]; exact h4) hm'
              exact hne (c2.2 c c' hc hc' et hl (by rw [← z1, ← z2, hl]))
        refine qc_place hPl (fun b2 I2 F2 E2 ct2 L2 hP => ?_)
        obtain ⟨pb, pF, p1, p2, p3, pct, pold, pnew, pex, pfr⟩ := hP
        have noNew : ∀ c, Is b2 0 c → Is b' 0 c := fun c hc => Classical.byContradiction (fun z => by
          obtain ⟨w1, w2, w3, w4, w5⟩ := pnew c hc z
          have hne : E' (d t) 3 (ix (I2 c 0)) ≠ none := by
            have := (p2.1 c hc).2.2.2 w3
            rw [w2, pF.2.2.2.2.2 10 _ 3 y1 (fun z => absurd z.1 (by decide)) (fun z => absurd z.1 (by decide))] at this
            exact this
          obtain ⟨c0, z1, z2, z3, z4⟩ := hex t _ n ht w3 hne hn
          exact w5 c0 z1 z2 z3 (by rw [z4]; exact (hFn.2.2.1 _ w3).symm))
        have e2I : ∀ ci x, Is b' ci x → I2 x = I' x := fun ci x hx => pF.2.2.2.1 x hx.1
        have hrem : ∀ m, m ∈ S → E2 (fa m) = E' (fa m) := fun m hm => by
          obtain ⟨z1, z2⟩ := hSn m hm
          have hFm := hDF.1 t m (hmS m hm)
          refine pfr _ hFm.1 (fun c hc z => ?_) (fun z => z2 (fa_inj hFm hFn z))
          obtain ⟨m', hm', e⟩ := List.mem_map.mp z
          obtain ⟨w1, w2⟩ := inL c m' hm'
          have em := fa_inj (hDF.1 _ m' w1) hFm e
          subst em
          exact z1 (w2 (hV.1.2.1 _ _ _ w1 (hmS _ hm)))
        refine ha _ _ _ _ _ _ ⟨rfl, ct2, C ++ [n], S, s1', ?_, pb, Fr_tr hFr pF, fun c hc => ?_, p2, p3, fun c hc => (pct c (hFr.1.1 _ _ hc)).trans (hct c hc), fun t' k m ht' hk hne hm => ?_⟩
        · exact LnO_congr (fun q hq => by
            obtain ⟨m, hm, rfl⟩ := List.mem_map.mp hq
            rw [hrem m hm]) hS2
        · have ho := noNew c hc
          have hch := p1 c hc
          rw [pold c ho] at hch
          show ChL F2 E2 (ix (I2 c 0)) c ((rowL (rowM a t ((C ++ [n]).filter fun n => !(goneB a T n))) (ct2 c) (ix (I2 c 0)) (I2 c 1)).map fa)
          rw [e2I 0 c ho] at hch ⊢
          rw [pct c ho]
          have hl5 : ix (I' c 0) < 5 := ix_lt (c2.1 c ho).2.1
          have ef : (C ++ [n]).filter (fun n => !(goneB a T n)) = C.filter (fun n => !(goneB a T n)) ++ [n] := by
            rw [List.filter_append, List.filter_cons_of_pos (by simp [hg])]; rfl
          have eq : (if ct' c = t ∧ (ix (I' c 0) = 4 ∨ ix (I' c 0) < 4 ∧ I' c 1 = A' (fa n) 0 (ix (I' c 0))) then ptW 0 (fa n) ((rowL (rowM a t (C.filter fun n => !(goneB a T n))) (ct' c) (ix (I' c 0)) (I' c 1)).map fa) else (rowL (rowM a t (C.filter fun n => !(goneB a T n))) (ct' c) (ix (I' c 0)) (I' c 1)).map fa) = (rowL (rowM a t ((C ++ [n]).filter fun n => !(goneB a T n))) (ct' c) (ix (I' c 0)) (I' c 1)).map fa := by
            by_cases e : ct' c = t
            · rw [e, rowM_at, rowM_at, ef]
              by_cases h4 : ix (I' c 0) = 4
              · rw [if_pos ⟨rfl, Or.inl h4⟩, if_pos h4, if_pos h4]
                unfold ptW
                rw [if_pos rfl, List.map_append]; rfl
              · have hk4 : ix (I' c 0) < 4 := by omega
                rw [if_neg h4, if_neg h4, List.filter_append]
                by_cases hv : I' c 1 = a.fc n (ix (I' c 0))
                · rw [if_pos ⟨rfl, Or.inr ⟨hk4, by rw [hFn.2.2.1 _ hk4]; exact hv⟩⟩, List.filter_cons_of_pos (by simp [hv])]
                  unfold ptW
                  rw [if_pos rfl, List.map_append]; rfl
                · rw [if_neg (fun z => z.2.elim h4 (fun y => hv (by rw [y.2, hFn.2.2.1 _ hk4]))), List.filter_cons_of_neg (by rw [beq_iff_eq]; exact fun z => hv z.symm)]
                  simp
            · rw [if_neg (fun z => e z.1), rowM_oth e, rowM_oth e]
          rw [← eq]; exact hch
        · have hd' := (hDF.2 t' ht').1
          rw [pF.2.2.2.2.2 10 _ 3 hd' (fun z => absurd z.1 (by decide)) (fun z => absurd z.1 (by decide))] at hne
          obtain ⟨c0, z1, z2, z3, z4⟩ := hex t' k m ht' hk hne hm
          exact ⟨c0, pF.1.1 _ _ z1, (pct c0 z1).trans z2, by rw [e2I 0 c0 z1]; exact z3, by rw [e2I 0 c0 z1]; exact z4⟩
      cases hal : aliveB a n with
      | false =>
        refine qv_if (fun _ => ?_) (fun z => absurd rfl z)
        refine qc_getI (fun _ => ?_)
        have h6 := hFn.2.2.2.2.2
        have hal' : ¬ a.fd n < 0 := of_decide_eq_false hal
        refine qv_if (fun z => skip ?_) (fun z => put ?_)
        · simp only [i32] at z
          unfold goneB
          exact decide_eq_true (by omega)
        · simp only [i32] at z
          unfold goneB
          exact decide_eq_false (by omega)
      | true =>
        refine qv_if (fun z => absurd z (by decide)) (fun _ => put ?_)
        have hal' : a.fd n < 0 := of_decide_eq_true hal
        unfold goneB
        exact decide_eq_false (by omega)
end VU1
