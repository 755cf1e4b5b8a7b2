set_option linter.unusedVariables false
set_option linter.unusedSimpArgs false
/-! the reference: giving, holding -/
section SY1
variable {b : MT} {fi fi' fi'' : Nat → Int32} {ar ar' ar'' : Nat → Nat → Int32} {a : AS} {sl : Nat → Nat} {Ga Gs : List QG} {G : QG} {env : Nat → Int32} {kn : Nat → Bool} {x : QA} {t n l g i k : Nat} {s : SQ} {X X' : String → HS → Prop} {Q Q' : HS → Prop} {QI QI' : Int32 → HS → Prop}
theorem oneB_eq {x y : QA} (h : oneB a G.ag n = true) (hx : G.ag[k]? = some x) (hy : G.ag[i]? = some y) (h1 : x.1 = 1) (h2 : y.1 = 1) (h3 : x.2 = y.2) : a.fc n k = a.fc n i := by
  by_cases e : a.fc n k = a.fc n i
  · exact e
  · exfalso
    rcases Nat.lt_or_ge i k with y1 | y1
    · rw [oneB_no hx hy y1 h1 h2 h3 e] at h; cases h
    · rcases Nat.lt_or_ge k i with y2 | y2
      · rw [oneB_no hy hx y2 h2 h1 h3.symm (fun z => e z.symm)] at h; cases h
      · have : i = k := by omega
        exact e (by rw [this])
theorem ns_give {gv f : Int32} (hb : MB b) (hS : SMh a sl Ga fi ar) (hV : AV a) (hgv : gv.toInt = (g : Int)) (hG : Ga[g]? = some G) (hk : G.kd ≤ 1) (hw : WfG a.tn a.co G) (hn : n ∈ a.rw G.tb) (hf : f.toInt = (sl n : Int)) (he : EnvM G.kn env ar) (hone : oneB a G.ag n = true) (hfit : ∀ k x, G.ag[k]? = some x → x.1 = 1 → G.kn (ix x.2) = true → a.fc n k = env (ix x.2))
    (h : ∀ ar', (∀ j, j ≠ 50 → ar' j = ar j) → (∀ j, j < 8 → G.kn j = true → ar' 50 j = ar 50 j) → EnvM (mkKn G.kn G.ag) (bindE a env G n) ar' → Q (mS b fi ar') → Q' (mS b fi ar')) : w_X12_give (some b.o) gv f (mS b fi ar) Q X → w_X12_give (some b.o) gv f (mS b fi ar) Q' X' := by
  obtain ⟨g10, e45, e4, el, el4, hin⟩ := goal_at hS hV hG hk hw
  obtain ⟨r1, r2, r3, r4, -⟩ := hS.1.2.1 _ n hn
  have hag := (hS.2.2.2.2.2 g G hG).2.2.1
  have hok := hw.2.1
  have gi : ix gv = g := ix_of hgv
  unfold w_X12_give
  refine n_getF hb (by decide) (n_getF hb (by decide) (nv_ald hb (by decide) (by decide) (fun _ => nv_ald hb (by decide) (by decide) (fun _ => ?_))))
  rw [gi, e45, e4]
  refine n_loopV (b := b) (fun (v : Int32) fi' ar' => fi' = fi ∧ (∀ j, j ≠ 50 → ar' j = ar j) ∧ (∀ j, j < 8 → G.kn j = true → ar' 50 j = ar 50 j) ∧ ∃ m : Nat, v.toInt = (m : Int) ∧ m ≤ G.ag.length ∧ ∀ k x, k < m → G.ag[k]? = some x → x.1 = 1 → ar' 50 (ix x.2) = a.fc n k) ⟨rfl, fun _ _ => rfl, fun _ _ _ => rfl, 0, by decide, Nat.zero_le _, fun k x hk => absurd hk (by omega)⟩ (fun v fi' ar' again again' ⟨e1, hA, hK, m, m1, m2, m3⟩ ha => ?_)
  subst e1
  refine qv_if (fun c => ?_) (fun c => ?_)
  · rw [i32.2.1] at c
    refine h ar' hA hK ?_
    exact bind_env (A := fun _ _ => ar 50) (A' := fun _ _ => ar' 50) (v := 0) hok he hK (fun k x hx h1 _ => m3 k x (by have := (List.getElem?_eq_some_iff.mp hx).1; omega) hx h1)
  rw [i32.2.1] at c
  have hml : m < G.ag.length := by omega
  obtain ⟨x, hx⟩ : ∃ x, G.ag[m]? = some x := ⟨_, List.getElem?_eq_getElem hml⟩
  have okx := hok x (List.mem_of_getElem? hx)
  have okx1 := okx.1
  obtain ⟨x46, x47⟩ := hag m x hx
  have ep : ((5 : Int32) * gv + v).toInt = ((5 * g + m : Nat) : Int) := by rw [i_add (i_mul (show (5 : Int32).toInt = 5 by decide) hgv (by omega)) m1 (by omega)]; omega
  have fp : ((4 : Int32) * f + v).toInt = ((4 * sl n + m : Nat) : Int) := by rw [i_add (i_mul (show (4 : Int32).toInt = 4 by decide) hf (by omega)) m1 (by omega)]; omega
  have v1 : (v + 1).toInt = ((m + 1 : Nat) : Int) := by rw [i_add m1 (show (1 : Int32).toInt = 1 by decide) (by omega)]; omega
  have ex1 : Int32.ofNat x.1 = 1 ↔ x.1 = 1 := ofN (j := 1) (by omega) (by omega)
  refine n_getF hb (by decide) (nv_ald hb (by decide) (by decide) (fun _ => ?_))
  rw [ix_of ep, hA 46 (by decide), x46]
  dsimp only [wJoin]
  refine qv_if (fun z => ?_) (fun z => ?_)
  · have hx1 := ex1.mp z
    have hx8 := okx.2 hx1
    refine n_getF hb (by decide) (n_getF hb (by decide) (nv_ald hb (by decide) (by decide) (fun _ => n_getF hb (by decide) (nv_ald hb (by decide) (by decide) (fun _ => nv_astI hb (by decide) (by decide) (fun _ => ?_))))))
    rw [ix_of ep, ix_of fp, hA 47 (by decide), x47, hA 13 (by decide), r4 m (by omega)]
    refine ha _ _ _ ⟨rfl, fun j hj => by rw [up2_row _ _ _ hj]; exact hA j hj, fun j hj hkj => ?_, m + 1, v1, hml, fun k y hk hy h1 => ?_⟩
    · by_cases e : j = ix x.2
      · rw [e, up2_self]
        rw [e] at hj hkj
        rw [hfit m x hx hx1 hkj]
        exact (he _ hj hkj).symm
      · rw [up2_k _ _ _ _ e]; exact hK j hj hkj
    · by_cases e : ix y.2 = ix x.2
      · rw [e, up2_self]
        have hy8 := (hok y (List.mem_of_getElem? hy)).2 h1
        have exy : x.2 = y.2 := i_ext (by have := ix_int hx8.1; have := ix_int hy8.1; omega)
        exact oneB_eq hone hx hy hx1 h1 exy
      · rw [up2_k _ _ _ _ e]
        refine m3 k y (Nat.lt_of_le_of_ne (Nat.lt_succ_iff.mp hk) (fun y2 => ?_)) hy h1
        rw [y2, hx] at hy
        cases hy
        exact e rfl
  · refine ha _ _ _ ⟨rfl, hA, hK, m + 1, v1, hml, fun k y hk hy h1 => m3 k y (Nat.lt_of_le_of_ne (Nat.lt_succ_iff.mp hk) (fun y2 => ?_)) hy h1⟩
    rw [y2, hx] at hy
    cases hy
    exact z (ex1.mpr h1)
theorem ns_holds {gv T : Int32} (hb : MB b) (hS : SMh a sl Ga fi ar) (hV : AV a) (hgv : gv.toInt = (g : Int)) (hG : Ga[g]? = some G) (hk : G.kd ≠ 0) (hw : WfG a.tn a.co G) (he : EnvM G.kn env ar) (hl : fi 38 = Int32.ofNat s.1) (hl2 : s.1 ≤ mostL)
    (hY : ∀ fi' ar' env' l', FrSv fi fi' ar ar' → (∀ j, j < 8 → G.kn j = true → ar' 50 j = ar 50 j) → ar' 51 = ar 51 → ar' 54 = ar 54 → EnvM (aftK G) env' ar' → fi' 38 = Int32.ofNat l' → s.1 ≤ l' → l' ≤ mostL → solA a T.toInt (G :: Gs) env s = solA a T.toInt Gs env' (l', s.2) → QI 1 (mS b fi' ar') → QI' 1 (mS b fi' ar'))
    (hNo : ∀ fi' ar' l', FrSv fi fi' ar ar' → (∀ j, j < 8 → G.kn j = true → ar' 50 j = ar 50 j) → ar' 50 = ar 50 → ar' 51 = ar 51 → ar' 54 = ar 54 → fi' 38 = Int32.ofNat l' → s.1 ≤ l' → l' ≤ mostL → solA a T.toInt (G :: Gs) env s = (l', s.2) → QI 0 (mS b fi' ar') → QI' 0 (mS b fi' ar'))
    (hOv : ∀ r fi' ar' l', FrSv fi fi' ar ar' → fi' 38 = Int32.ofNat l' → mostL < l' → l' ≤ mostL + 1 → mostL < (solA a T.toInt (G :: Gs) env s).1 → QI r (mS b fi' ar') → QI' r (mS b fi' ar')) : w_X12_holds (some b.o) gv T (mS b fi ar) QI X → w_X12_holds (some b.o) gv T (mS b fi ar) QI' X' := by
  obtain ⟨s1, s2, s3, s4, s5, s6⟩ := id hS
  have hgo := s6 g G hG
  have hg : g < 10 := by have := (List.getElem?_eq_some_iff.mp hG).1; omega
  have gi : ix gv = g := ix_of hgv
  have hkd := hw.1
  have ek : ∀ j, j < 8 → (ar 44 g = Int32.ofNat j ↔ G.kd = j) := fun j hj => by rw [hgo.1]; exact ofN (by omega) hj
  unfold w_X12_holds
  refine n_getF hb (by decide) (nv_ald hb (by decide) (by decide) (fun _ => ?_))
  rw [gi]
  refine qv_if (fun z => ?_) (fun z => ?_)
  · -- '!'
    have k1 : G.kd = 1 := (ek 1 (by omega)).mp z
    obtain ⟨g10, e45, e4, el, el4, hin⟩ := goal_at hS hV hG (by omega) hw
    have es : solA a T.toInt (G :: Gs) env s = if mostL < (scanQ a T.toInt G env (a.rw G.tb) s.1).1 ∨ (scanQ a T.toInt G env (a.rw G.tb) s.1).2.isSome = true then ((scanQ a T.toInt G env (a.rw G.tb) s.1).1, s.2) else solA a T.toInt Gs env ((scanQ a T.toInt G env (a.rw G.tb) s.1).1, s.2) := by
      show (if G.kd = 0 then _ else if G.kd = 1 then _ else _) = _
      rw [if_neg hk, if_pos k1]
    have eaf : aftK G = G.kn := by unfold aftK; rw [if_neg hk, if_neg (by omega)]
    refine n_getF hb (by decide) (n_getF hb (by decide) (nv_ald hb (by decide) (by decide) (fun _ => nv_ald hb (by decide) (by decide) (fun _ => q_recv ?_))))
    rw [gi, e45]
    refine ns_match (L := a.rw G.tb) hb hS hV hgv hG (by omega) hw he hl hl2 (s1.1 _ hin).1 ⟨[], rfl⟩ (fun r l' ar' oc hA ⟨q1, q2, q3, q4, q5⟩ hone hsc => ?_)
    have hfr : FrSv fi (va_up fi 38 (Int32.ofNat l')) ar ar' := FrSv_tr FrSv_38 (FrSv_ar (j0 := 52) (by decide) hA)
    have h38 : va_up fi 38 (Int32.ofNat l') 38 = Int32.ofNat l' := va_up_self _ _ _
    dsimp only [wJoin]
    by_cases hov : mostL < l'
    · have ho : mostL < (solA a T.toInt (G :: Gs) env s).1 := by
        rw [es, if_pos (Or.inl (q4 hov))]; exact q4 hov
      exact qv_if (fun _ => q_bit (hOv _ _ _ l' hfr h38 hov q3 ho)) (fun _ => q_bit (hOv _ _ _ l' hfr h38 hov q3 ho))
    · have hsc := hsc (by omega)
      have h50 : ar' 50 = ar 50 := hA 50 (by decide)
      have hkp : ∀ j, j < 8 → G.kn j = true → ar' 50 j = ar 50 j := fun j _ _ => by rw [h50]
      cases oc with
      | none =>
        have q1 : r.toInt = -1 := q1
        refine qv_if (fun c => ?_) (fun _ => q_bit ?_)
        · rw [i32.2.1, q1, show (0 : Int32).toInt = 0 by decide] at c; omega
        · refine hY _ ar' env l' hfr hkp (hA 51 (by decide)) (hA 54 (by decide)) (by rw [eaf]; unfold EnvM; rw [h50]; exact he) h38 q2 (by omega) ?_
          rw [es, hsc, if_neg]
          rintro (y | y)
          · exact hov y
          · cases y
      | some p =>
        have q1 : r.toInt = (sl p.1 : Int) := q1
        refine qv_if (fun _ => q_bit ?_) (fun c => ?_)
        · refine hNo _ ar' l' hfr hkp h50 (hA 51 (by decide)) (hA 54 (by decide)) h38 q2 (by omega) ?_
          rw [es, hsc]; exact if_pos (Or.inr rfl)
        · rw [i32.2.1, q1, show (0 : Int32).toInt = 0 by decide] at c; omega
  · -- a sign
    have k1 : G.kd ≠ 1 := fun y => z ((ek 1 (by omega)).mpr y)
    have hag := hgo.2.2.1
    have p0 : ((5 : Int32) * gv).toInt = ((5 * g + 0 : Nat) : Int) := by rw [i_mul (show (5 : Int32).toInt = 5 by decide) hgv (by omega)]; omega
    have p1 : ((5 : Int32) * gv + 1).toInt = ((5 * g + 1 : Nat) : Int) := by rw [i_add p0 (show (1 : Int32).toInt = 1 by decide) (by omega)]; omega
    have p2 : ((5 : Int32) * gv + 2).toInt = ((5 * g + 2 : Nat) : Int) := by rw [i_add p0 (show (2 : Int32).toInt = 2 by decide) (by omega)]; omega
    have wor : ∀ {k : Nat} {x : QA} {p : Int32}, p.toInt = ((5 * g + k : Nat) : Int) → G.ag[k]? = some x → (x.1 = 1 → G.kn (ix x.2) = true) → ∀ {QI QI' : Int32 → HS → Prop}, (QI (worA env x) (mS b fi ar) → QI' (worA env x) (mS b fi ar)) → w_X12_worth (some b.o) p (mS b fi ar) QI X → w_X12_worth (some b.o) p (mS b fi ar) QI' X' := fun {k x p} hp hx hkx {QI QI'} hh => by
      have okx := hw.2.1 x (List.mem_of_getElem? hx)
      obtain ⟨x46, x47⟩ := hag k x hx
      refine ns_worth (env := env) hb okx (by rw [ix_of hp]; exact x46) (by rw [ix_of hp]; exact x47) (fun h1 => ?_) hh
      have := okx.2 h1
      exact he _ (by have := ix_int this.1; omega) (hkx h1)
    by_cases k4 : G.kd ≤ 4
    · obtain ⟨x, y, eag, knx, kny, -, -⟩ := hw.2.2.2.1 (by omega) k4
      have e1 : solA a T.toInt (G :: Gs) env s = (if cmpB G.kd (worA env x) (worA env y) then solA a T.toInt Gs env s else s) := by
        show (if G.kd = 0 then _ else if G.kd = 1 then _ else if G.kd ≤ 4 then (if cmpB G.kd (worK env G.ag 0) (worK env G.ag 1) then _ else _) else _) = _
        rw [if_neg hk, if_neg k1, if_pos k4, eag]; rfl
      have eaf : aftK G = G.kn := by unfold aftK; rw [if_neg hk, if_neg (by omega)]
      have yes : cmpB G.kd (worA env x) (worA env y) = true → QI 1 (mS b fi ar) → QI' 1 (mS b fi ar) := fun hc => hY fi ar env s.1 FrSv_rf (fun _ _ _ => rfl) rfl rfl (by rw [eaf]; exact he) hl (Nat.le_refl _) hl2 (by rw [e1, hc]; rfl)
      have no : cmpB G.kd (worA env x) (worA env y) = false → QI 0 (mS b fi ar) → QI' 0 (mS b fi ar) := fun hc => hNo fi ar s.1 FrSv_rf (fun _ _ _ => rfl) rfl rfl rfl hl (Nat.le_refl _) hl2 (by rw [e1, hc]; rfl)
      refine q_recv (wor (x := x) p0 (by rw [eag]; rfl) (knB_1 knx) (q_recv (wor (x := y) p1 (by rw [eag]; rfl) (knB_1 kny) ?_)))
      refine n_getF hb (by decide) (nv_ald hb (by decide) (by decide) (fun _ => ?_))
      rw [gi]
      dsimp only [wJoin]
      refine qv_if (fun c => ?_) (fun c => n_getF hb (by decide) (nv_ald hb (by decide) (by decide) (fun _ => ?_)))
      · have e := (ek 2 (by omega)).mp c
        refine qv_if (fun z2 => q_bit (no ?_)) (fun z2 => q_bit (yes ?_))
        · rw [i32.2.1] at z2
          unfold cmpB; rw [if_pos e]; exact decide_eq_false (by omega)
        · rw [i32.2.1] at z2
          unfold cmpB; rw [if_pos e]; exact decide_eq_true (by omega)
      have n2 : G.kd ≠ 2 := fun y => c ((ek 2 (by omega)).mpr y)
      rw [gi]
      refine qv_if (fun c => ?_) (fun c => n_getF hb (by decide) (nv_ald hb (by decide) (by decide) (fun _ => ?_)))
      · have e := (ek 3 (by omega)).mp c
        refine qv_if (fun z2 => q_bit (yes ?_)) (fun z2 => q_bit (no ?_))
        · unfold cmpB; rw [if_neg n2, if_pos e]; exact beq_iff_eq.mpr z2
        · unfold cmpB; rw [if_neg n2, if_pos e]; exact beq_eq_false_iff_ne.mpr z2
      have n3 : G.kd ≠ 3 := fun y => c ((ek 3 (by omega)).mpr y)
      rw [gi]
      refine qv_if (fun c => ?_) (fun c => ?_)
      · refine qv_if (fun z2 => q_bit (no ?_)) (fun z2 => q_bit (yes ?_))
        · unfold cmpB; rw [if_neg n2, if_neg n3]; exact bne_eq_false_iff_eq.mpr z2
        · unfold cmpB; rw [if_neg n2, if_neg n3]; exact bne_iff_ne.mpr z2
      · exact absurd ((ek 4 (by omega)).mpr (by omega)) c
    · obtain ⟨zz, x, y, eag, z1, knz, knx, kny, -, -⟩ := hw.2.2.2.2 (by omega)
      have okz := (hw.2.1 zz (by rw [eag]; simp)).2 z1
      -- its own place is read first; what it says there doesn't count
      have any : ∀ {QI QI' : Int32 → HS → Prop}, (∀ r, QI r (mS b fi ar) → QI' r (mS b fi ar)) → w_X12_worth (some b.o) ((5 : Int32) * gv) (mS b fi ar) QI X → w_X12_worth (some b.o) ((5 : Int32) * gv) (mS b fi ar) QI' X' := fun {QI QI'} hh => by
        obtain ⟨x46, x47⟩ := hag 0 zz (by rw [eag]; rfl)
        refine ns_worth (x := zz) (env := ar 50) hb (hw.2.1 zz (by rw [eag]; simp)) (by rw [ix_of p0]; exact x46) (by rw [ix_of p0]; exact x47) (fun _ => rfl) (hh _)
      refine q_recv (any (fun r0 => q_recv (wor (x := x) p1 (by rw [eag]; rfl) (knB_1 knx) ?_)))
      refine n_getF hb (by decide) (nv_ald hb (by decide) (by decide) (fun _ => ?_))
      rw [gi]
      refine qv_if (fun c => absurd ((ek 2 (by omega)).mp c) (by omega)) (fun _ => n_getF hb (by decide) (nv_ald hb (by decide) (by decide) (fun _ => ?_)))
      rw [gi]
      refine qv_if (fun c => absurd ((ek 3 (by omega)).mp c) (by omega)) (fun _ => n_getF hb (by decide) (nv_ald hb (by decide) (by decide) (fun _ => ?_)))
      rw [gi]
      refine qv_if (fun c => absurd ((ek 4 (by omega)).mp c) (by omega)) (fun _ => ?_)
      refine q_recv (wor (x := y) p2 (by rw [eag]; rfl) (knB_1 kny) ?_)
      refine n_getF hb (by decide) (n_getF hb (by decide) (nv_ald hb (by decide) (by decide) (fun _ => n_getF hb (by decide) (nv_ald hb (by decide) (by decide) (fun _ => ?_)))))
      have e47 : ar 47 (5 * g + 0) = zz.2 := (hag 0 zz (by rw [eag]; rfl)).2
      rw [gi, ix_of p0, e47]
      dsimp only [wJoin]
      have fin : ∀ res, res = opA G.kd (worA env x) (worA env y) → (wAstI (mS b fi ar) (some (b.a 50)) zz.2 res fun x41 => wBit 1 (QI 1 x41)) → (wAstI (mS b fi ar) (some (b.a 50)) zz.2 res fun x41 => wBit 1 (QI' 1 x41)) := fun res hres => by
        refine nv_astI hb (by decide) (by decide) (fun _ => q_bit ?_)
        have nk : ∀ j, G.kn j = true → j ≠ ix zz.2 := fun j hj y => by rw [y, knz] at hj; cases hj
        refine hY fi _ (va_up env (ix zz.2) res) s.1 (FrSv_ar (j0 := 50) (by decide) (fun j hj => up2_row _ _ _ hj)) (fun j _ hkj => up2_k _ _ _ _ (nk j hkj)) (up2_row _ _ _ (by decide)) (up2_row _ _ _ (by decide)) (fun j hj hkj => ?_) hl (Nat.le_refl _) hl2 ?_
        · unfold aftK at hkj
          rw [if_neg hk, if_pos (by omega), eag] at hkj
          have hkj : va_up G.kn (ix zz.2) true j = true := hkj
          by_cases e : j = ix zz.2
          · rw [e, up2_self, va_up_self]
          · rw [va_up_ne _ _ e] at hkj
            rw [up2_k _ _ _ _ e, va_up_ne _ _ e]
            exact he j hj hkj
        · show (if G.kd = 0 then _ else if G.kd = 1 then _ else if G.kd ≤ 4 then _ else solA a T.toInt Gs (va_up env (worV G.ag) (opA G.kd (worK env G.ag 1) (worK env G.ag 2))) s) = _
          rw [if_neg hk, if_neg k1, if_neg k4, eag, hres]; rfl
      refine qv_if (fun c => fin _ ?_) (fun c => n_getF hb (by decide) (nv_ald hb (by decide) (by decide) (fun _ => ?_)))
      · unfold opA; rw [if_pos ((ek 5 (by omega)).mp c)]
      rw [gi]
      have n5 : G.kd ≠ 5 := fun y => c ((ek 5 (by omega)).mpr y)
      refine qv_if (fun c => fin _ ?_) (fun c => fin _ ?_)
      · unfold opA; rw [if_neg n5, if_pos ((ek 6 (by omega)).mp c)]
      · unfold opA; rw [if_neg n5, if_neg (fun y => c ((ek 6 (by omega)).mpr y))]
end SY1
