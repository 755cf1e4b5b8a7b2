set_option linter.unusedVariables false
set_option linter.unusedSimpArgs false
/-! the reference: question -/
section HI0
variable {a a' : AS} {T : Int} {t n : Nat} {m : Int32} {vs env : Nat → Int32} {G : QG}
/-- what solving sees of a state -/
def SeeS (a a' : AS) : Prop := a'.2 = a.2 ∧ a'.co = a.co ∧ a'.ix = a.ix
theorem see_lane (h : SeeS a a') : inLane a' t m vs n = inLane a t m vs n := by
  obtain ⟨h1, h2, h3⟩ := h
  have e : a'.fc = a.fc := by show a'.2.1.2.2.1 = a.2.1.2.2.1; rw [h1]
  unfold inLane laneA
  rw [h2, h3, e]
theorem see_hit (h : SeeS a a') : hitB a' T G env n = hitB a T G env n := by
  obtain ⟨h1, h2, h3⟩ := h
  have e : a'.fc = a.fc := by show a'.2.1.2.2.1 = a.2.1.2.2.1; rw [h1]
  have e2 : a'.fb = a.fb := by show a'.2.1.2.2.2.1 = a.2.1.2.2.2.1; rw [h1]
  have e3 : a'.fd = a.fd := by show a'.2.1.2.2.2.2.1 = a.2.1.2.2.2.2.1; rw [h1]
  unfold hitB askB thereB fitB oneB
  rw [h2, e, e2, e3]
theorem see_bind (h : SeeS a a') : bindE a' env G n = bindE a env G n := by
  have e : a'.fc = a.fc := by show a'.2.1.2.2.1 = a.2.1.2.2.1; rw [h.1]
  unfold bindE
  rw [e]
theorem see_fold (h : SeeS a a') {f : Nat → SQ → SQ} : ∀ (L : List Nat) (s : SQ), foldQ a' T G env f L s = foldQ a T G env f L s
  | [], s => rfl
  | x :: L, s => by
      rw [show foldQ a' T G env f (x :: L) s = (if mostL < s.1 then s else if inLane a' G.tb (mskG G) (worK env G.ag) x then (if mostL < s.1 + 1 then (s.1 + 1, s.2) else if hitB a' T G env x then foldQ a' T G env f L (f x (s.1 + 1, s.2)) else foldQ a' T G env f L (s.1 + 1, s.2)) else foldQ a' T G env f L s) from rfl, see_lane h, see_hit h, see_fold h L _, see_fold h L _, see_fold h L _]
      rfl
theorem see_scan (h : SeeS a a') : ∀ (L : List Nat) (l : Nat), scanQ a' T G env L l = scanQ a T G env L l
  | [], l => rfl
  | x :: L, l => by
      rw [show scanQ a' T G env (x :: L) l = (if inLane a' G.tb (mskG G) (worK env G.ag) x then (if mostL < l + 1 then (l + 1, none) else if hitB a' T G env x then (l + 1, some (x, L)) else scanQ a' T G env L (l + 1)) else scanQ a' T G env L l) from rfl, see_lane h, see_hit h, see_scan h L _, see_scan h L _]
      rfl
theorem see_sol (h : SeeS a a') : ∀ (Gs : List QG) (env : Nat → Int32) (s : SQ), solA a' T Gs env s = solA a T Gs env s
  | [], env, s => rfl
  | G :: Gs, env, s => by
      have e : a'.rw = a.rw := by show a'.2.1.2.1 = a.2.1.2.1; rw [h.1]
      have e1 : (fun x s => solA a' T Gs (bindE a' env G x) s) = fun x s => solA a T Gs (bindE a env G x) s := funext fun x => funext fun s => by rw [see_bind h, see_sol h Gs]
      unfold solA
      rw [e1, e, see_fold h, see_scan h]
      split
      · rfl
      · split
        · split
          · rfl
          · exact see_sol h Gs env _
        · split
          · split
            · exact see_sol h Gs env s
            · rfl
          · exact see_sol h Gs _ s
end HI0
section HI1
variable {b : MT} {fi : Nat → Int32} {ar : Nat → Nat → Int32} {qa : AT3} {p : Int32} {M : Nat} {X X' : String → HS → Prop} {QI QI' : Int32 → HS → Prop}
theorem nq_question (hb : MB b) (hG : RM b.o M qa.1 (mS b fi ar)) (hA : RA qa.1.1 fi ar) (hX : RX qa.1 fi ar) (hV : AV qa.1) (hq : QMc qa fi ar) (h40 : 0 ≤ (fi 2).toInt ∧ (fi 2).toInt ≤ 400)
    (hIA : ¬ timeOk qa.1 p → ∀ fi', fi' 0 = 1 → QMc qa fi' ar → QI 0 (mS b fi' ar) → QI' 0 (mS b fi' ar))
    (hUO : timeOk qa.1 p → qRd qa = none → ∀ fi' ar', fi' 0 = 2 → QMc qa fi' ar' → QI 0 (mS b fi' ar') → QI' 0 (mS b fi' ar'))
    (hAE : timeOk qa.1 p → ∀ g, qRd qa = some g → mostL < (qSol qa p g.1).1 → ∀ fi' ar', fi' 0 = 3 → QMc qa fi' ar' → QI 0 (mS b fi' ar') → QI' 0 (mS b fi' ar'))
    (hOK : timeOk qa.1 p → ∀ g, qRd qa = some g → ¬ mostL < (qSol qa p g.1).1 → ∀ r fi' ar', fi' 0 = 0 → r.toInt = ((qSol qa p g.1).2.1 : Int) → QMc (qa.1, qa.tp, (qSol qa p g.1).2.1, g.2, (qSol qa p g.1).2.2) fi' ar' → QI r (mS b fi' ar') → QI' r (mS b fi' ar')) : w_X12_question (some b.o) p (mS b fi ar) QI X → w_X12_question (some b.o) p (mS b fi ar) QI' X' := by
  obtain ⟨q1, q2, q3, q4⟩ := id hq
  obtain ⟨sl, hF, hK, hS, hH, hC, hO⟩ := id hX
  have e2 : fi 2 = qa.1.tl := hA.2.1
  have hn : (fi 2).toInt = (qa.1.tl.toInt.toNat : Int) := by rw [← e2]; omega
  have hn4 : qa.1.tl.toInt.toNat ≤ 400 := by rw [← e2]; omega
  unfold w_X12_question
  refine nv_getI hb (nv_putI hb (nv_putI hb ?_))
  dsimp only [wJoin]
  have z0 : ∀ j, j ∉ [2, 42] → va_up (va_up fi 2 0) 42 (-1) j = fi j := fun j hj => by rw [va_up_ne _ _ (fun z => hj (by rw [z]; decide)), va_up_ne _ _ (fun z => hj (by rw [z]; decide))]
  have z02 : va_up (va_up fi 2 0) 42 (-1) 2 = 0 := by rw [va_up_ne _ _ (by decide), va_up_self]
  generalize va_up (va_up fi 2 0) 42 (-1) = f0 at z0 z02 ⊢
  have hS0 : RXs qa.1 f0 := by unfold RXs; rw [z0 20 (by decide), z0 21 (by decide), z0 22 (by decide), z0 23 (by decide), z0 39 (by decide)]; exact hS
  refine n_isTi hb hS0 (fun hno => ?_) (fun hti => ?_)
  · refine nv_fN hb (by decide) (hIA hno _ (va_up_self _ _ _) ⟨q1, ?_, ?_, q4⟩)
    · rw [va_up_ne _ _ (by decide), z0 55 (by decide)]; exact q2
    · rw [va_up_ne _ _ (by decide), z0 56 (by decide)]; exact q3
  refine nv_f0 hb (q_recv ?_)
  have z1 : ∀ j, j ∉ [0, 2, 42] → va_up f0 0 0 j = fi j := fun j hj => by
    rw [va_up_ne _ _ (fun z => hj (by rw [z]; decide)), z0 j (fun z => hj (by revert z; simp only [List.mem_cons, List.not_mem_nil, or_false]; omega))]
  have z12 : va_up f0 0 0 2 = 0 := by rw [va_up_ne _ _ (by decide)]; exact z02
  generalize va_up f0 0 0 = f1 at z1 z12 ⊢
  have hT : TBm qa.1.tn qa.1.co f1 ar := ⟨by rw [z1 10 (by decide)]; exact hA.2.2.1, fun t ht => ⟨(hA.2.2.2 t ht).1, (hV.2.1.2 t ht).2.1⟩⟩
  refine nr_question (tp := qa.tp) (n := qa.1.tl.toInt.toNat) hb hT hn hn4 (fun i _ => by rw [q1]) (fun f2 ar2 Gs kf hqu hF2 hW2 h49 hn10 hgo hkf => ?_) (fun hqu f2 ar2 hF2 hW2 => ?_)
  rotate_left
  · refine qv_if (fun _ => ?_) (fun z => absurd rfl z)
    refine nv_fN hb (by decide) (hUO hti hqu _ ar2 (va_up_self _ _ _) ⟨by rw [hW2 1 (by decide)]; exact q1, ?_, ?_, ?_⟩)
    · rw [va_up_ne _ _ (by decide), hF2 55 (by decide), z1 55 (by decide)]; exact q2
    · rw [va_up_ne _ _ (by decide), hF2 56 (by decide), z1 56 (by decide)]; exact q3
    · rw [hW2 53 (by decide)]; exact q4
  have hqu : qRd qa = some (Gs, kf) := hqu
  refine qv_if (fun z => absurd z (by decide)) (fun _ => ?_)
  refine nv_f0 hb (nv_putI hb (nv_putZ hb (q_recv ?_)))
  have z3 : ∀ j, j ∉ [0, 2, 42, 40, 41, 43, 49, 38, 39] → va_up (va_up (va_up f2 0 0) 38 0) 39 1 j = fi j := fun j hj => by
    rw [va_up_ne _ _ (fun z => hj (by rw [z]; decide)), va_up_ne _ _ (fun z => hj (by rw [z]; decide)), va_up_ne _ _ (fun z => hj (by rw [z]; decide)), hF2 j (fun z => hj (by revert z; simp only [List.mem_cons, List.not_mem_nil, or_false]; omega)), z1 j (fun z => hj (by revert z; simp only [List.mem_cons, List.not_mem_nil, or_false]; omega))]
  have z30 : va_up (va_up (va_up f2 0 0) 38 0) 39 1 0 = 0 := by rw [va_up_ne _ _ (by decide), va_up_ne _ _ (by decide), va_up_self]
  have z32 : va_up (va_up (va_up f2 0 0) 38 0) 39 1 2 = 0 := by rw [va_up_ne _ _ (by decide), va_up_ne _ _ (by decide), va_up_ne _ _ (by decide), hF2 2 (by decide)]; exact z12
  have z38 : va_up (va_up (va_up f2 0 0) 38 0) 39 1 38 = 0 := by rw [va_up_ne _ _ (by decide), va_up_self]
  have z39 : va_up (va_up (va_up f2 0 0) 38 0) 39 1 39 = 1 := va_up_self _ _ _
  have z49 : va_up (va_up (va_up f2 0 0) 38 0) 39 1 49 = f2 49 := by rw [va_up_ne _ _ (by decide), va_up_ne _ _ (by decide), va_up_ne _ _ (by decide)]
  generalize va_up (va_up (va_up f2 0 0) 38 0) 39 1 = f3 at z3 z30 z32 z38 z39 z49 ⊢
  have hT3 : (if p.toInt = -1 then f3 22 else p).toInt = timeOf qa.1 p := by
    rw [z3 22 (by decide)]; exact tmOf hS p
  rw [e_timeOf hb, e_timeOf hb]
  generalize (if p.toInt = -1 then f3 22 else p) = T at hT3 ⊢
  -- the state that solving sees: the text is at its end
  have hsee : SeeS qa.1 (nx_question qa.1 p) := ⟨rfl, rfl, rfl⟩
  have hV2 : AV (nx_question qa.1 p) := av_w1 hV rfl rfl
  have hFn : RXf (nx_question qa.1 p) sl ar2 := by
    have : RXf (nx_question qa.1 p) sl ar := hF
    unfold RXf RF1 at this ⊢
    rw [hW2 18 (by decide), hW2 7 (by decide), hW2 17 (by decide), hW2 8 (by decide), hW2 11 (by decide), hW2 12 (by decide), hW2 13 (by decide), hW2 14 (by decide), hW2 15 (by decide), hW2 16 (by decide)]
    exact this
  have hAn : RA (nx_question qa.1 p).1 f3 ar2 := by
    refine ⟨by rw [hW2 3 (by decide)]; exact hA.1, z32, by rw [z3 10 (by decide)]; exact hA.2.2.1, fun t ht => ?_⟩
    rw [hW2 4 (by decide), hW2 5 (by decide)]
    exact hA.2.2.2 t ht
  have hSM : SMh (nx_question qa.1 p) sl Gs f3 ar2 := ⟨hFn, hAn, by rw [z39]; decide, by rw [z49]; exact h49, hn10, fun g G hg => (hgo g G hg).1⟩
  have hco : ∀ t : Nat, (t : Int) < qa.1.tn.toInt → 1 ≤ (qa.1.co t).toInt := fun t ht => (hV.2.1.2 t ht).2.1.1
  have hch : KnCh (nx_question qa.1 p).tn (nx_question qa.1 p).co kf Gs (fun _ => false) := quA_wf hco 10 _ kf 0 Gs hqu
  have hRs : qSol qa p Gs = solA (nx_question qa.1 p) T.toInt Gs (fun _ => 0) (0, 0, fun _ _ => 0) := by
    rw [see_sol hsee]; unfold qSol; rw [hT3]
  refine q_recv (ns_solve (R := qSol qa p Gs) hb hSM hV2 hch z38 hRs (fun r f4 ar4 hfr hso => ?_))
  have y4 : ∀ j, j ∉ [0, 2, 42, 40, 41, 43, 49, 38, 39] → f4 j = fi j := fun j hj => by
    rw [hfr.1 j (fun z => hj (by rw [z]; decide))]; exact z3 j hj
  have w4 : ∀ j, j ∉ [44, 45, 46, 47, 48, 50, 51, 52, 54] → ar4 j = ar j := fun j hj => by
    rw [hfr.2 j (fun z => hj (by revert z; simp only [List.mem_cons, List.not_mem_nil, or_false]; omega)), hW2 j (fun z => hj (by revert z; simp only [List.mem_cons, List.not_mem_nil, or_false]; omega))]
  have y0 : f4 0 = 0 := by rw [hfr.1 0 (by decide)]; exact z30
  have y49 : (f4 49).toInt = (Gs.length : Int) := by rw [hfr.1 49 (by decide), z49]; exact h49
  have a48 : ar4 48 = ar2 48 := hfr.2 48 (by decide)
  refine nv_putZ hb (nv_getI hb ?_)
  rw [va_up_ne _ _ (show 38 ≠ 39 by decide)]
  have mL : mostL = 50000 := rfl
  rcases hso with ⟨s1, s2, s3, s4⟩ | ⟨s1, l', s2, s3, s4⟩
  · -- solved
    rw [s2]
    have hc := cnt50 (n := (qSol qa p Gs).1) (by omega)
    refine qv_if (fun _ => ?_) (fun z => absurd (hc.mpr s1) z)
    refine nv_putI hb (n_getF hb (by decide) (nv_getI hb ?_))
    have e49 : (va_up (va_up f4 39 0) 55 r 49).toInt = (Gs.length : Int) := by rw [va_up_ne _ _ (by decide), va_up_ne _ _ (by decide)]; exact y49
    refine nv_ald hb (by decide) (by decide) (fun _ => nv_putI hb ?_)
    rw [ix_of e49, a48]
    have x55 : va_up (va_up (va_up f4 39 0) 55 r) 56 (ar2 48 Gs.length) 55 = r := by rw [va_up_ne _ _ (by decide), va_up_self]
    have x56 : va_up (va_up (va_up f4 39 0) 55 r) 56 (ar2 48 Gs.length) 56 = ar2 48 Gs.length := va_up_self _ _ _
    have x0 : va_up (va_up (va_up f4 39 0) 55 r) 56 (ar2 48 Gs.length) 0 = 0 := by rw [va_up_ne _ _ (by decide), va_up_ne _ _ (by decide), va_up_ne _ _ (by decide)]; exact y0
    generalize va_up (va_up (va_up f4 39 0) 55 r) 56 (ar2 48 Gs.length) = f5 at x55 x56 x0 ⊢
    refine n_loopV (b := b) (fun (v : Int32) f6 ar6 => f6 = f5 ∧ (∀ j, j ≠ 53 → ar6 j = ar4 j) ∧ ∃ m : Nat, v.toInt = (m : Int) ∧ m ≤ 800 ∧ ∀ k, k < m → ar6 53 k = ar4 54 k) ⟨rfl, fun _ _ => rfl, 0, by decide, by omega, fun k hk => absurd hk (by omega)⟩ (fun v f6 ar6 again again' ⟨e1, hA6, m, m1, m2, m3⟩ ha => ?_)
    subst e1
    refine qv_if (fun z => ?_) (fun z => ?_)
    · rw [i32.2.1, show (800 : Int32).toInt = 800 by decide] at z
      refine hOK hti (Gs, kf) hqu (by show ¬ mostL < (qSol qa p Gs).1; omega) r f6 ar6 x0 s3 ⟨?_, by rw [x55]; exact s3, by rw [x56]; exact hkf, fun i k h1 h2 h3 h4 => ?_⟩
      · rw [hA6 1 (by decide), w4 1 (by decide)]; exact q1
      · rw [m3 (8 * i + k) (by omega)]
        exact s4 i k h1 h2 h3 h4
    · rw [i32.2.1, show (800 : Int32).toInt = 800 by decide] at z
      refine n_getF hb (by decide) (n_getF hb (by decide) (nv_ald hb (by decide) (by decide) (fun _ => nv_astI hb (by decide) (by decide) (fun _ => ?_))))
      rw [ix_of m1, hA6 54 (by decide)]
      refine ha _ _ _ ⟨rfl, fun j hj => by rw [up2_row _ _ _ hj]; exact hA6 j hj, m + 1, by rw [i_add m1 (show (1 : Int32).toInt = 1 by decide) (by omega)]; omega, by omega, fun k hk => ?_⟩
      by_cases e : k = m
      · rw [e, up2_self]
      · rw [up2_k _ _ _ _ e]; exact m3 k (by omega)
  · -- too many
    rw [s2]
    have hc := cnt50 (n := l') (by omega)
    refine qv_if (fun z => absurd (hc.mp z) (by omega)) (fun _ => ?_)
    refine nv_putI hb (nv_putI hb ?_)
    refine hAE hti (Gs, kf) hqu s1 _ ar4 (va_up_self _ _ _) ⟨by rw [w4 1 (by decide)]; exact q1, ?_, ?_, ?_⟩
    · rw [va_up_ne _ _ (by decide), va_up_ne _ _ (by decide), va_up_ne _ _ (by decide), y4 55 (by decide)]; exact q2
    · rw [va_up_ne _ _ (by decide), va_up_ne _ _ (by decide), va_up_ne _ _ (by decide), y4 56 (by decide)]; exact q3
    · rw [w4 53 (by decide)]; exact q4
end HI1
section HI2
variable {mo M : Nat} {qa : AT3} {y : HS} {X : String → HS → Prop}
theorem rq_question (h : RQ3 mo M qa y) (hM : M < 300000) (p : Int32) : w_X12_question (some mo) p y (fun r u => OKq_question qa p (u.I mo 0) r ∧ RQ3 mo (M + 1) (nxq_question qa p) u) X := by
  have h1 := rc_question (X := X) h.1 hM p
  obtain ⟨hr, hq⟩ := h
  have hr0 := hr
  obtain ⟨b, fi, ar, hb, rfl, rfl, hG, hA, hX, hV⟩ := hr
  have hqm := QM_rep hb hq
  have n1 : (1 : Int32) ≠ 0 := by decide
  have n2 : (2 : Int32) ≠ 0 := by decide
  have n3 : (3 : Int32) ≠ 0 := by decide
  have stay : qCd qa p ≠ 0 → nxq_question qa p = (nx_question qa.1 p, qa.2) := fun hc => by
    unfold nxq_question
    split
    · rfl
    · exact if_neg hc
  refine nq_question (qa := qa) hb hr0 hA hX hV hqm hG.1.1 (fun hno fi' h0 hq' hz => ?_) (fun hti hno fi' ar' h0 hq' hz => ?_) (fun hti g hg hov fi' ar' h0 hq' hz => ?_) (fun hti g hg hov r fi' ar' h0 hr hq' hz => ?_) h1
  · have hc : qCd qa p = 1 := if_neg hno
    exact ⟨⟨by rw [m_I, h0]; exact hc.symm, fun y => absurd (hc.symm.trans y) n1⟩, by rw [stay (by rw [hc]; exact n1)]; exact ⟨hz.2, b, fi', ar, hb, rfl, rfl, hq'⟩⟩
  · have hc : qCd qa p = 2 := by unfold qCd; rw [if_pos hti, hno]
    exact ⟨⟨by rw [m_I, h0]; exact hc.symm, fun y => absurd (hc.symm.trans y) n2⟩, by rw [stay (by rw [hc]; exact n2)]; exact ⟨hz.2, b, fi', ar', hb, rfl, rfl, hq'⟩⟩
  · have hc : qCd qa p = 3 := by unfold qCd; rw [if_pos hti, hg]; exact if_pos hov
    exact ⟨⟨by rw [m_I, h0]; exact hc.symm, fun y => absurd (hc.symm.trans y) n3⟩, by rw [stay (by rw [hc]; exact n3)]; exact ⟨hz.2, b, fi', ar', hb, rfl, rfl, hq'⟩⟩
  · have hc : qCd qa p = 0 := by unfold qCd; rw [if_pos hti, hg]; exact if_neg hov
    have hnx : nxq_question qa p = (nx_question qa.1 p, qa.tp, (qSol qa p g.1).2.1, g.2, (qSol qa p g.1).2.2) := by unfold nxq_question; rw [hg]; exact if_pos hc
    refine ⟨⟨by rw [m_I, h0]; exact hc.symm, fun _ => ?_⟩, by rw [hnx]; exact ⟨hz.2, b, fi', ar', hb, rfl, rfl, hq'⟩⟩
    unfold qAn
    rw [hg]
    exact i_of hr
end HI2
theorem rq_init {mo : Nat} {x : HS} {X : String → HS → Prop} (h1 : mo ∈ x.LP) (h2 : x.k mo = 12) (h3 : x.I mo = fun _ => 0) (hc : 38 ≤ x.c) (hz : 56386 ≤ x.z) : w_X12_init (some mo) x (fun u => RQ3 mo 0 AQ0 u) X :=
  t_init h1 h2 h3 hc hz (fun b hb ho _ _ => ⟨⟨b, fi0, fun _ _ => 0, hb, ho, rfl, G_new, ⟨rfl, rfl, rfl, fun t ht => absurd ht (by show ¬ (t : Int) < (0 : Int32).toInt; rw [show (0 : Int32).toInt = 0 by decide]; omega)⟩, rx_0, av_0⟩, b, fi0, fun _ _ => 0, hb, ho, rfl, rfl, by decide, KnR_0, fun i k hi => absurd hi (Nat.not_lt_zero _)⟩)
