set_option linter.unusedVariables false
set_option linter.unusedSimpArgs false
/-! the class: purge -/
section VX1
variable {b b' : CT} {I I' : Nat → Nat → Int32} {F F' : Nat → Nat → Option Nat} {A A' : Nat → Nat → Nat → Int32} {E E' : Nat → Nat → Nat → Option Nat} {o t n n' k f p w j ci s h l N : Nat} {a c : AS} {g : CGs} {cs : Nat → Int32} {d r ct fa : Nat → Nat} {x y : HS} {X X' : String → HS → Prop} {Q Q' : HS → Prop} {QI QI' : Int32 → HS → Prop} {QF QF' : Option Nat → HS → Prop}
theorem allF_nd {a : AS} (hV : AV a) : (allF a).Nodup := by
  unfold allF
  have h2 := hV.1.2.1
  have h3 := hV.1.2.2.1
  have : ∀ (R : List Nat), R.Nodup → (R.flatMap a.rw).Nodup := by
    intro R
    induction R with
    | nil => exact fun _ => List.nodup_nil
    | cons x R ih =>
      intro hR
      have hR' := List.nodup_cons.mp hR
      rw [List.flatMap_cons]
      refine List.nodup_append.mpr ⟨h3 x, ih hR'.2, fun m hm m' hm' e => ?_⟩
      subst e
      obtain ⟨t, ht, hmt⟩ := List.mem_flatMap.mp hm'
      have := h2 x t m hm hmt
      subst this
      exact hR'.1 ht
  exact this _ List.nodup_range
theorem kc_purge (hk : KC o (N + 1) a x) (hW : AVT a) (q : Int32) : w_X11_purge (some o) q x (fun r u => OK_purge a q 0 r ∧ KC o N (nx_purge a q) u) (fun E u => (E = eIA ∧ OK_purge a q 1 0 ∨ E = eIS ∧ OK_purge a q 2 0) ∧ KC o N (nx_purge a q) u) := by
  have h := kc1_purge hk.1 q
  obtain ⟨g, b, I, F, A, E, rfl, hz, hx⟩ := hk.2
  have hV := hW.1
  have hb := hx.1
  have hs := hx.2.1
  have hH := hx.2.2.2.2.2.2.2.1
  have hN := hx.2.2.2.2.2.2.1
  have s3 := hs.2.2.1
  have s5 := hs.2.2.2.2.1
  revert h
  unfold w_X11_purge OK_purge
  have n0 : purgeCd a q ≠ 0 → nx_purge a q = a := fun z => if_neg z
  have n1 : purgeCd a q = 0 → nx_purge a q = (a.w_hz (max a.hz (timeOf a q))).w_rw (fun t => (a.rw t).filter fun n => !(goneB a (timeOf a q) n)) := fun z => if_pos z
  generalize nx_purge a q = nx at n0 n1 ⊢
  refine qc_recv (fun _ => ?_)
  refine qc_requireTime hx (fun c h => ?_) (fun hti => ?_)
  · have e : purgeCd a q = 1 := if_neg c
    rw [n0 (by rw [e]; decide)]
    exact ⟨Or.inl ⟨rfl, EX_bad e (by decide)⟩, h.2, CX_wC hz hx⟩
  refine qc_recv (fun _ => ?_)
  refine qc_openCursors hx (fun ov ho0 hov => ?_)
  dsimp only [wJoin]
  have bad : ∀ {PP : Prop}, ¬ (freeC (fun i => !(a.op i)) = 10 ∧ a.mk = []) → PP ∧ KC1 o N (nx1_purge a.1 q) (cS (b.B.wC (b.B.c - 1) (b.B.z - 6), b.2) I F A E) → (eIS = eIA ∧ EX (purgeCd a q) (num ((allF a).filter (goneB a (timeOf a q))).length) 1 0 ∨ eIS = eIS ∧ EX (purgeCd a q) (num ((allF a).filter (goneB a (timeOf a q))).length) 2 0) ∧ KC o N nx (cS (b.B.wC (b.B.c - 1) (b.B.z - 6), b.2) I F A E) := fun {PP} hn h => by
    have e : purgeCd a q = 2 := (if_pos hti).trans (if_neg hn)
    rw [n0 (by rw [e]; decide)]
    exact ⟨Or.inr ⟨rfl, EX_bad e (by decide)⟩, h.2, CX_wC hz hx⟩
  refine qv_if (fun z => qc_throw (bad (fun y => ?_))) (fun z => ?_)
  · simp only [i32, Int32.reduceToInt] at z
    have := hov.mpr (free10.mp y.1)
    omega
  simp only [i32, Int32.reduceToInt] at z
  have hop : ∀ c, c < 10 → a.op c = false := hov.mp (by omega)
  refine qc_getF hb (by decide) (fun _ => ?_)
  rw [hs.2.1]
  refine qc_getF hb (by decide) (fun _ => ?_)
  rw [hs.2.2.2.1]
  refine qc_getI (fun _ => ?_)
  refine qv_if (fun z2 => ?_) (fun z2 => qc_throw (bad (fun y => ?_)))
  rotate_left
  · simp only [i32, Int32.reduceToInt] at z2
    rw [hH.1, y.2] at z2
    simp at z2
  simp only [i32, Int32.reduceToInt] at z2
  rw [hH.1] at z2
  have hmk : a.mk = [] := List.eq_nil_of_length_eq_zero (by omega)
  have ecd : purgeCd a q = 0 := (if_pos hti).trans (if_pos ⟨free10.mpr hop, hmk⟩)
  rw [n1 ecd]
  refine qc_getF hb (by decide) (fun _ => ?_)
  rw [hs.2.1]
  refine qc_getF hb (by decide) (fun _ => ?_)
  rw [hs.2.1]
  refine qc_recv (fun _ => ?_)
  refine qc_timeOf hx (fun Tv hTv => ?_)
  refine qc_recv (fun _ => ?_)
  -- from here on, the time
  have hhz := hV.1.2.2.2.2.1
  have hTz : a.hz ≤ timeOf a q ∧ timeOf a q ≤ a.tm := by
    unfold timeOf
    rcases hti with y | y
    · rw [if_pos y]; exact ⟨hhz.2, Int.le_refl _⟩
    · by_cases e : q.toInt = -1
      · rw [if_pos e]; exact ⟨hhz.2, Int.le_refl _⟩
      · rw [if_neg e]; exact y
  generalize hTT : timeOf a q = T at hTv hTz ⊢
  have hmax : max a.hz T = T := by omega
  rw [hmax]
  have hT0 : 0 ≤ T := by omega
  unfold w_X9_forgetDead
  refine qc_getI (fun _ => ?_)
  refine qc_putI (fun _ => ?_)
  have e7 : (if I g.s 7 < Tv then Tv else I g.s 7).toInt = T := by
    split
    · exact hTv
    · rename_i y
      simp only [i32] at y
      rw [hN.2.2.2] at y ⊢
      omega
  generalize (if I g.s 7 < Tv then Tv else I g.s 7) = Hv at e7 ⊢
  have hI1 : ∀ x j, ¬ (x = g.s ∧ j = 7) → up2 I g.s 7 Hv x j = I x j := fun x j hx => if_neg hx
  have h17 : (up2 I g.s 7 Hv g.s 7).toInt = T := by rw [up2_self]; exact e7
  generalize hIg : up2 I g.s 7 Hv = I1 at hI1 h17 ⊢
  obtain ⟨-, -, htb, hFa, hR, hK, -, -, hC, hO⟩ := id hx
  have sI1 : ∀ S : List (Nat × Nat), (9, 7) ∉ S → sI b S I I1 := fun S hS => by rw [← hIg]; exact sI_up sI_rf s3 hS
  have hd : ∀ t, inT a t → Is b 10 (g.d t) := fun t h => (htb.2 t h).2.1
  have hfa : ∀ t n, n ∈ a.rw t → Is b 1 (g.fa n) := fun t n h => (hFa t n h).1
  have hR1 : CXr a b g.d g.r g.ct g.fa I1 F E := CXr_eq hR hd hfa (sI1 _ (by decide)) sF_rf sE_rf
  have hF1 : ∀ t n, n ∈ a.rw t → CF1 a b g.d g.fa I1 F A t n := fun t n hn => CF1_eq (hFa t n hn) (fun _ _ h => h) (sI1 _ (by decide)) sF_rf sA_rf
  have hD1 : DrF a g.d g.r g.fa A b g.ct I1 F := ⟨hF1, fun t ht => by
    obtain ⟨t1, t2, t3, t4, t5, t6, t7, t8, -⟩ := htb.2 t ht
    rw [hI1 _ 1 (fun z => Is_ne t2 s3 (by decide) z.1), hI1 _ 0 (fun z => Is_ne t6 s3 (by decide) z.1)]
    exact ⟨t2, t4, t5, t6, t7, t8⟩⟩
  have htn := hV.1.2.2.2.2.2.2.2
  obtain ⟨KL, hKL1, hKL2⟩ := kept_list hK
  refine qc_loop (fun v b' I' F' A' E' => A' = A ∧ ∃ (i : Nat) (ct' : Nat → Nat), v.toInt = (i : Int) ∧ (i : Int) ≤ a.tn.toInt ∧ CB b' ∧ Fr b b' I1 I' F F' E E' ∧ (∀ c, Is b 0 c → ct' c = g.ct c) ∧ CXr (pgA a T i) b' g.d g.r ct' g.fa I' F' E') ⟨rfl, 0, g.ct, by decide, by omega, hb, Fr_rf, fun _ _ => rfl, by rw [pg_0]; exact hR1⟩ (fun v b' I' F' A' E' again again' ⟨eA, i, ct', i1, i2, hb', hFr, hct, hRi⟩ ha => ?_)
  subst eA
  obtain ⟨x1, x2, x3, x4, x5, x6⟩ := id hFr
  have s3' : Is b' 9 g.s := x1.1 _ _ s3
  have eIs : I' g.s = I1 g.s := x4 _ s3.1
  have eEs : ∀ j, E' g.s j = E g.s j := fun j => x6 9 _ j s3 (fun z => absurd z.1 (by decide)) (fun z => absurd z.1 (by decide))
  refine qc_getI (fun _ => ?_)
  rw [eIs, hI1 _ 3 (fun z => absurd z.2 (by decide)), htb.1]
  refine qv_if (fun z => ?_) (fun z => ?_)
  · simp only [i32] at z
    have hi : a.tn.toInt = (i : Int) := by omega
    rw [pg_end hV hi] at hRi
    refine qc_getI (fun _ => ?_)
    rw [eIs, hI1 _ 4 (fun z => absurd z.2 (by decide))]
    refine qc_putI (fun _ => ?_)
    have hI2 : ∀ x j, ¬ (x = g.s ∧ j = 4) → up2 I' g.s 4 0 x j = I' x j := fun x j hx => if_neg hx
    have h24 : up2 I' g.s 4 0 g.s 4 = 0 := up2_self _ _ _ _
    generalize up2 I' g.s 4 0 = I2 at hI2 h24 ⊢
    have hfa' : ∀ t n, n ∈ a.rw t → Is b' 1 (g.fa n) ∧ (I2 (g.fa n) 6).toInt = a.fd n := fun t n hn => by
      have y := hF1 t n hn
      refine ⟨x1.1 _ _ y.1, ?_⟩
      rw [hI2 _ 6 (fun z => absurd z.2 (by decide)), x4 _ y.1.1]
      exact y.2.2.2.2.2
    have h27 : (I2 g.s 7).toInt = T := by rw [hI2 _ 7 (fun z => absurd z.2 (by decide)), eIs]; exact h17
    refine qc_compact (E := E') (QI := fun r u => OK1_purge a.1 q 0 r ∧ KC1 o N (nx1_purge a.1 q) u) (QI' := fun r u => EX (purgeCd a q) (num ((allF a).filter (goneB a T)).length) 0 r ∧ KC o N ((a.w_hz T).w_rw (fun t => (a.rw t).filter fun n => !(goneB a T n))) u) hb' s3' hfa' (fun t t' n n' hn hn' e => fa_inj (hFa t n hn) (hFa t' n' hn') e) hV hKL1 (fun k n hkn => by rw [eEs]; exact hKL2 k n hkn) (by rw [eEs]; exact hK.2.1) (by rw [eEs]; exact fun i q hi hq => x1.1 _ _ (hK.1 i q hi hq)) h27 hT0 hN.1 h24 (fun I3 E3 c1 c2 c3 c4 c5 c6 c7 => ?_)
    intro h
    -- how many there are
    have ndA := allF_nd hV
    have ndK : KL.Nodup := by
      refine List.nodup_iff_pairwise_ne.mpr (List.pairwise_iff_getElem.mpr (fun i j hi hj hij e => ?_))
      have y1 := (hKL2 i _ (List.getElem?_eq_getElem hi)).2
      have y2 := (hKL2 j _ (List.getElem?_eq_getElem hj)).2
      rw [e] at y1
      have hle := hV.1.2.2.2.2.2.2.1
      have := hK.2.1 i j _ (by omega) (by omega) y1 y2
      omega
    have memK : ∀ n, n ∈ KL ↔ n ∈ allF a := fun n => by
      constructor
      · intro hn
        obtain ⟨k, hk, e⟩ := List.mem_iff_getElem.mp hn
        exact (mem_allF hV.1).mpr (hKL2 k n (by rw [List.getElem?_eq_getElem hk, e])).1
      · intro hn
        obtain ⟨t, ht⟩ := (mem_allF hV.1).mp hn
        obtain ⟨k, hk, e⟩ := hK.2.2.2 t n ht
        have hk' : k < KL.length := by omega
        obtain ⟨⟨t', ht'⟩, e'⟩ := hKL2 k _ (List.getElem?_eq_getElem hk')
        rw [e] at e'
        have := fa_inj (hFa t n ht) (hFa t' _ ht') (Option.some.inj e')
        rw [this]
        exact List.getElem_mem hk'
    have hlenP : (KL.filter fun n => !(goneB a T n)).length = ((allF a).filter fun n => !(goneB a T n)).length := Nat.le_antisymm (len_sub (ndK.filter _) (fun n hn => by
      obtain ⟨y1, y2⟩ := List.mem_filter.mp hn
      exact List.mem_filter.mpr ⟨(memK n).mp y1, y2⟩)) (len_sub (ndA.filter _) (fun n hn => by
      obtain ⟨y1, y2⟩ := List.mem_filter.mp hn
      exact List.mem_filter.mpr ⟨(memK n).mpr y1, y2⟩))
    have hallP : (allF ((a.w_hz T).w_rw (fun t => (a.rw t).filter fun n => !(goneB a T n)))).length = (KL.filter fun n => !(goneB a T n)).length := by
      rw [hlenP]
      show ((List.range 12).flatMap fun t => (a.rw t).filter fun n => !(goneB a T n)).length = _
      rw [← List.filter_flatMap]; rfl
    have hcnt := filter_not_len (p := goneB a T) (allF a)
    have mm : ∀ t n, n ∈ (a.rw t).filter (fun n => !(goneB a T n)) → n ∈ a.rw t := fun t n hn => (List.mem_filter.mp hn).1
    have eI3 : ∀ ci x, Is b ci x → ci ≠ 9 → I3 x = I x := fun ci x hx hc => funext fun j => by
      have hne : x ≠ g.s := Is_ne hx s3 hc
      rw [c1 x j (fun z => hne z.1), hI2 x j (fun z => hne z.1), x4 x hx.1, hI1 x j (fun z => hne z.1)]
    have eIs3 : ∀ j, j ≠ 4 → j ≠ 7 → I3 g.s j = I g.s j := fun j h4 h7 => by
      rw [c1 _ j (fun z => h4 z.2), hI2 _ j (fun z => h4 z.2), eIs, hI1 _ j (fun z => h7 z.2)]
    have sI3 : ∀ S : List (Nat × Nat), (9, 4) ∉ S → (9, 7) ∉ S → sI b S I I3 := fun S y4 y7 ci x j hx hj => by
      by_cases hc : ci = 9
      · have hxs : x = g.s ∨ x ≠ g.s := Classical.em _
        rcases hxs with e | e
        · subst e
          subst hc
          exact eIs3 j (fun z => y4 (by rw [← z]; exact hj)) (fun z => y7 (by rw [← z]; exact hj))
        · rw [c1 x j (fun z => e z.1), hI2 x j (fun z => e z.1), x4 x hx.1, hI1 x j (fun z => e z.1)]
      · rw [eI3 ci x hx hc]
    have sF' : ∀ S : List (Nat × Nat), S.all (fun p => p.1 != 0) = true → sF b S F F' := fun S hS ci x j hx hj => x5 ci x j hx (fun z => by have := List.all_eq_true.mp hS _ hj; simp [z.1] at this)
    have sE3 : ∀ S : List (Nat × Nat), S.all (fun p => p.1 != 1 && p.1 != 4) = true → (9, 1) ∉ S → sE b S E E3 := fun S hS h91 ci x j hx hj => by
      have hh := List.all_eq_true.mp hS _ hj
      simp at hh
      have e1 : E' x j = E x j := x6 ci x j hx (fun z => hh.2 z.1) (fun z => hh.1 z.1)
      rw [← e1]
      refine c2 x j (fun z => h91 ?_)
      have e : ci = 9 := by rw [← hx.2, z.1]; exact s3.2
      rw [e, z.2] at hj; exact hj
    have dn8 : ∀ x, Is b' 8 x → Is b 8 x := fun x hx => (x3 8 x hx).resolve_right (fun z => absurd z.1 (by decide))
    refine ⟨EX_ok ecd ?_, h.2, g.wfa g.fa ct', _, _, _, _, _, rfl, hz, hb', CXs_eq hs x1.1 dn8 (sF' _ (by decide)) (sE3 _ (by decide) (by decide)), ?_, fun t n hn => ?_, ?_, ⟨c5, c4, ?_, ?_⟩, ⟨?_, ?_, ?_, ?_⟩, ?_, fun c hc => ?_, ?_⟩
    · refine num_of ?_
      rw [i_sub hN.1 c3 (by have := hV.1.2.2.2.2.2.2.1; omega), hlenP]; omega
    · exact CXt_eq htb s3 x1.1 hct (sI3 _ (by decide) (by decide)) (sF' _ (by decide)) sA_rf (sE3 _ (by decide) (by decide))
    · exact CF1_eq (hFa t n (mm t n hn)) x1.1 (sI3 _ (by decide) (by decide)) (sF' _ (by decide)) sA_rf
    · have hd' : ∀ t, inT a t → Is b' 10 (g.d t) := fun t h => x1.1 _ _ (hd t h)
      refine CXr_eq hRi hd' (fun t n hn => x1.1 _ _ (hfa t n (mm t n hn))) (fun ci x j hx hj => ?_) sF_rf (fun ci x j hx hj => ?_)
      · have hne : x ≠ g.s := fun z => by
          have e : ci = 9 := by rw [← hx.2, z]; exact s3'.2
          rw [e] at hj; simp at hj
        rw [c1 x j (fun z => hne z.1), hI2 x j (fun z => hne z.1)]
      · refine c2 x j (fun z => ?_)
        have e : ci = 9 := by rw [← hx.2, z.1]; exact s3'.2
        rw [e] at hj; simp at hj
    · rw [hallP]
      intro k hk
      obtain ⟨n, y1, y2⟩ := c6 k hk
      obtain ⟨z1, z2⟩ := List.mem_filter.mp y1
      obtain ⟨t, ht⟩ := (mem_allF hV.1).mp ((memK n).mp z1)
      exact ⟨t, n, List.mem_filter.mpr ⟨ht, z2⟩, y2⟩
    · rw [hallP]
      intro t n hn
      have hn : n ∈ (a.rw t).filter fun n => !(goneB a T n) := hn
      obtain ⟨z1, z2⟩ := List.mem_filter.mp hn
      exact c7 n (List.mem_filter.mpr ⟨(memK n).mpr ((mem_allF hV.1).mpr ⟨t, z1⟩), z2⟩)
    · rw [hallP]; exact c3
    · show (I3 g.s 5).toInt = _
      rw [eIs3 5 (by decide) (by decide)]; exact hN.2.1
    · show (I3 g.s 6).toInt = _
      rw [eIs3 6 (by decide) (by decide)]; exact hN.2.2.1
    · show (I3 g.s 7).toInt = T
      rw [c1 _ 7 (fun z => absurd z.2 (by decide))]; exact h27
    · have hH3 := CXh_eq hH s5 hfa (sI3 _ (by decide) (by decide)) (sF' _ (by decide)) (sA_rf (A := A')) (sE3 _ (by decide) (by decide))
      exact ⟨hH3.1, hH3.2.1, hH3.2.2.1, hH3.2.2.2.1, fun t n hn hb' => hH3.2.2.2.2 t n (mm t n hn) hb'⟩
    · have hC3 := hC c hc
      have hcl := hop c hc
      refine ⟨hC3.1, fun hop' => ?_⟩
      have hop' : a.op c = true := hop'
      rw [hcl] at hop'
      exact absurd hop' (by decide)
    · exact CXo_eq hO hs.1 (sI3 _ (by decide) (by decide)) sA_rf
  · simp only [i32] at z
    have hti' : inT a i := by unfold inT; omega
    refine qc_getA hb' (by decide) (fun _ => ?_)
    refine qc_aldG hb' s3' (by decide) (by decide) (fun _ => ?_)
    rw [ix_of i1, eEs, (htb.2 i hti').1]
    refine qc_getI (fun _ => ?_)
    rw [eIs]
    refine qc_recv (fun _ => ?_)
    have hVi : AV (pgA a T i) := av_sub hV hmk hop _
    have hDi : DrF (pgA a T i) g.d g.r g.fa A' b' ct' I' F' := by
      have := DrF_fr hD1 hFr hct
      exact ⟨fun t n hn => this.1 t n (List.mem_filter.mp hn).1, this.2⟩
    refine qc_dropDead hVi hti' hb' hRi hDi h17 hT0 (fun b2 ct2 I2 F2 E2 hDr => ?_)
    obtain ⟨d1, d2, d3, d4, d5, d6, d7⟩ := hDr
    have egone : (fun n => !(goneB (pgA a T i) T n)) = fun n => !(goneB a T n) := rfl
    rw [egone, pg_step] at d3
    refine ha _ _ _ _ _ _ ⟨rfl, i + 1, ct2, by rw [i_add i1 (show (1 : Int32).toInt = 1 by decide) (by omega)]; omega, by omega, d1, Fr_tr hFr d2, fun c hc => (d6 c (x1.1 _ _ hc)).trans (hct c hc), d3, d4, d5, fun t k n ht hk hne hn => ?_⟩
    refine d7 t k n ht hk hne ?_
    have hn : n ∈ (a.rw t).filter fun n => !(goneB a T n) || decide (i + 1 ≤ t) := hn
    obtain ⟨z1, z2⟩ := List.mem_filter.mp hn
    refine List.mem_filter.mpr ⟨z1, ?_⟩
    simp at z2 ⊢
    exact z2.imp id (fun y => by omega)
end VX1
