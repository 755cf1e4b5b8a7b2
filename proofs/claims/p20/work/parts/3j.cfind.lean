set_option linter.unusedVariables false
set_option linter.unusedSimpArgs false
/-! the class: find, many, remove -/
def AVT (a : AS) : Prop := AV a ∧ a.tm < 1900000000
theorem RM_avt {mo M : Nat} {a : AS} {y : HS} (h : RM mo M a y) (hM : M < 300000) : AVT a := by
  obtain ⟨b, fi, ar, hb, rfl, rfl, hG, hA, ⟨sl, hx⟩, hV⟩ := h
  refine ⟨hV, ?_⟩
  have := hG.1.2.2.2.1
  rw [hx.2.2.1.2.2.1] at this
  omega
section VJ1
variable {b : CT} {I I' : Nat → Nat → Int32} {F F' : Nat → Nat → Option Nat} {A A' : Nat → Nat → Nat → Int32} {E E' : Nat → Nat → Nat → Option Nat} {o t n n' k f c p w j ci q s h l N : Nat} {a : AS} {g : CGs} {lk d r ct fa : Nat → Nat} {x y : HS} {X X' : String → HS → Prop} {Q Q' : HS → Prop} {QI QI' : Int32 → HS → Prop} {QF QF' : Option Nat → HS → Prop} {m : Int32} {T : Int} {la : Option Nat} {vs : Nat → Int32} {ov : Bool}
theorem CXx_11 {v : Int32} (hx : CXx o a g b I F A E) : CXx o a g b (up2 I o 11 v) F A E := CXx_eq hx (sI_up sI_rf hx.2.1.1 (by decide)) sF_rf sA_rf sE_rf (fun c hc => ⟨funext fun j => if_neg (fun z => Is_ne (hx.2.1.2.2.2.2.2.2.2.1 c hc).2.1 hx.2.1.1 (by decide) z.1), rfl, rfl⟩)
theorem Lk1_adv (h : Lk1 a q t false m T la vs d fa I F A) (hI : Iq q [0, 7] I I') (hn : n ∈ a.rw t) (hf : fitB a t m vs n = true) : Lk1 a q t false m T (some n) vs d fa I' (up2 F q 5 (some (fa n))) A := by
  obtain ⟨h1, h2, h3, h4, h5, h6, h7, h8⟩ := h
  refine ⟨h1, by rw [hI.2 6 (by decide)]; exact h2, (if_neg (fun z => absurd z.2 (by decide))).trans h3, by rw [hI.2 3 (by decide)]; exact h4, by rw [hI.2 4 (by decide)]; exact h5, up2_self _ _ _ _, h7, fun n' e => ?_⟩
  cases e; exact ⟨hn, hf⟩
theorem ask_fit (h : askB a t m vs T n = true) : fitB a t m vs n = true := (Bool.and_eq_true_iff.mp h).2
theorem num_fa (hF : CF1 a b d fa I F A t n) : I (fa n) 4 = num n := num_of hF.2.2.2.1
/-- behind a look of the keeper's own: what it has looked at is put down, and the answer is a number -/
theorem qc_tail (hx : CXx o a g b I F A E) (hL : Lq g.l I I' F F' A A') {v : Option Nat} (hv : ∀ f, v = some f → ∃ t n, n ∈ a.rw t ∧ f = g.fa n) (h : ∀ I2, CXx o a g b I2 F' A' E → QI (match v with | none => -1 | some f => I f 4) (cS b I2 F' A' E) → QI' (match v with | none => -1 | some f => I f 4) (cS b I2 F' A' E)) :
    (wGetF (cS b I' F' A' E) 11 6 (some o) fun v7 => wRecv (cS b I' F' A' E) 5 v7 (w_X5_takeLookedAt v7 (cS b I' F' A' E) (fun v9 x8 => wPutI x8 11 11 (some o) v9 fun x10 => w_X11_numberOf v x10 (fun v12 x11 => QI v12 x11) X) X)) →
    (wGetF (cS b I' F' A' E) 11 6 (some o) fun v7 => wRecv (cS b I' F' A' E) 5 v7 (w_X5_takeLookedAt v7 (cS b I' F' A' E) (fun v9 x8 => wPutI x8 11 11 (some o) v9 fun x10 => w_X11_numberOf v x10 (fun v12 x11 => QI' v12 x11) X') X')) := by
  have hb := hx.1
  have hs := hx.2.1
  have hl5 := hs.2.2.2.2.2.2.1
  have hol : o ≠ g.l := Is_ne hs.1 hl5 (by decide)
  refine qc_getF hb (by decide) (fun _ => ?_)
  rw [hL.2.1 o hol, hs.2.2.2.2.2.1]
  refine qc_recv (fun _ => ?_)
  refine qc_take ?_
  refine qc_putI (fun _ => ?_)
  have hX := CXx_11 (v := I' g.l 7) (CXx_l hx (Lq_I (j := 7) (v := 0) hL))
  refine qc_numberOf (fun e => ?_) (fun f e => ?_)
  · subst e; exact h _ hX
  · subst e
    obtain ⟨t, n, hn, rfl⟩ := hv f rfl
    have hf := (hx.2.2.2.1 t n hn).1
    have e4 : up2 (up2 I' g.l 7 0) o 11 (I' g.l 7) (g.fa n) 4 = I (g.fa n) 4 := by
      refine (if_neg (fun z => absurd z.2 (by decide))).trans ((if_neg (fun z => absurd z.2 (by decide))).trans ?_)
      rw [hL.1 _ (Is_ne hf hl5 (by decide))]
    rw [e4]
    exact h _ hX
theorem ask_cd0 {t m q : Int32} (h1 : maskOk m ∧ timeOk a q) (h2 : tabOk a t) : askCd a t m q = 0 := (if_pos h1).trans (if_pos h2)
theorem ask_cd1 {t m q : Int32} (h1 : ¬ (maskOk m ∧ timeOk a q)) : askCd a t m q = 1 := if_neg h1
theorem ask_cd2 {t m q : Int32} (h1 : maskOk m ∧ timeOk a q) (h2 : ¬ tabOk a t) : askCd a t m q = 2 := (if_pos h1).trans (if_neg h2)
theorem EX_bad {cd an k : Int32} (h : cd = k) (h0 : k ≠ 0) : EX cd an k 0 := ⟨h.symm, fun z => absurd (h.symm.trans z) h0⟩
theorem EX_ok {cd an r : Int32} (h : cd = 0) (h0 : r = an) : EX cd an 0 r := ⟨h.symm, fun _ => h0⟩
theorem kc_find (hk : KC o (N + 1) a x) (hW : AVT a) (t m q : Int32) : w_X11_find (some o) t m q x (fun r u => OK_find a t m q 0 r ∧ KC o N (nx_find a t m q) u) (fun E u => (E = eIA ∧ OK_find a t m q 1 0 ∨ E = eNE ∧ OK_find a t m q 2 0) ∧ KC o N (nx_find a t m q) u) := by
  have h := kc1_find hk.1 t m q
  obtain ⟨g, b, I, F, A, E, rfl, hz, hx⟩ := hk.2
  have hV := hW.1
  have hb := hx.1
  have hs := hx.2.1
  have hl5 := hs.2.2.2.2.2.2.1
  have hol : o ≠ g.l := Is_ne hs.1 hl5 (by decide)
  revert h
  unfold w_X11_find OK_find nx_find
  refine qc_getF hb (by decide) (fun _ => ?_)
  rw [hs.2.2.2.2.2.1]
  refine qc_recv (fun _ => ?_)
  refine qc_beginLook hx hV hl5 (fun c h => ⟨Or.inl ⟨rfl, EX_bad (ask_cd1 c) (by decide)⟩, h.2, CX_wC hz hx⟩) (fun c1 c2 h => ⟨Or.inr ⟨rfl, EX_bad (ask_cd2 c1 c2) (by decide)⟩, h.2, CX_wC hz hx⟩) (fun c1 c2 I1 F1 A1 q1 q2 q3 => ?_)
  have hx1 := CXx_l hx q1
  refine qc_getF hb (by decide) (fun _ => ?_)
  rw [q1.2.1 o hol, hs.2.2.2.2.2.1]
  refine qc_recv (fun _ => ?_)
  refine qc_advance hx1 hV hl5 q2 (fun z => absurd z (by decide)) (fun I2 _ e1 e2 e3 => ?_) (fun I2 n _ e1 hn hask e2 e3 => ?_)
  · refine qc_tail hx (Lq_Iq q1 e2) (v := none) (fun f e => absurd e (by simp)) (fun I3 h3 h => ?_)
    have e1 : (a.rw (ix t)).find? (askB a (ix t) m a.vv (timeOf a q)) = none := e1
    rw [e1]
    exact ⟨EX_ok (ask_cd0 c1 c2) rfl, h.2, _, _, _, _, _, _, rfl, hz, h3⟩
  · refine qc_tail hx (Lq_F (Lq_Iq q1 e2)) (v := some (g.fa n)) (fun f e => by cases e; exact ⟨_, n, hn, rfl⟩) (fun I3 h3 h => ?_)
    have e1 : (a.rw (ix t)).find? (askB a (ix t) m a.vv (timeOf a q)) = some n := e1
    rw [e1]
    exact ⟨EX_ok (ask_cd0 c1 c2) (num_fa (hx.2.2.2.1 _ n hn)), h.2, _, _, _, _, _, _, rfl, hz, h3⟩
theorem kc_many (hk : KC o (N + 1) a x) (hW : AVT a) (t m q : Int32) : w_X11_many (some o) t m q x (fun r u => OK_many a t m q 0 r ∧ KC o N (nx_many a t m q) u) (fun E u => (E = eIA ∧ OK_many a t m q 1 0 ∨ E = eNE ∧ OK_many a t m q 2 0) ∧ KC o N (nx_many a t m q) u) := by
  have h := kc1_many hk.1 t m q
  obtain ⟨g, b, I, F, A, E, rfl, hz, hx⟩ := hk.2
  have hV := hW.1
  have hb := hx.1
  have hs := hx.2.1
  have hl5 := hs.2.2.2.2.2.2.1
  have hol : o ≠ g.l := Is_ne hs.1 hl5 (by decide)
  revert h
  unfold w_X11_many OK_many nx_many
  refine qc_getF hb (by decide) (fun _ => ?_)
  rw [hs.2.2.2.2.2.1]
  refine qc_recv (fun _ => ?_)
  refine qc_beginLook hx hV hl5 (fun c h => ⟨Or.inl ⟨rfl, EX_bad (ask_cd1 c) (by decide)⟩, h.2, CX_wC hz hx⟩) (fun c1 c2 h => ⟨Or.inr ⟨rfl, EX_bad (ask_cd2 c1 c2) (by decide)⟩, h.2, CX_wC hz hx⟩) (fun c1 c2 I1 F1 A1 q1 q2 q3 => ?_)
  have hnd := hV.1.2.2.1 (ix t)
  have hrl := row_le hV (ix t)
  have hfl := List.length_filter_le (askB a (ix t) m a.vv (timeOf a q)) (a.rw (ix t))
  refine qc_loop (fun v b' I' F' A' E' => b' = b ∧ A' = A1 ∧ E' = E ∧ Lq g.l I I' F F' A A1 ∧ ∃ (i : Nat) (la : Option Nat), v.toInt = (i : Int) ∧ Lk1 a g.l (ix t) false m (timeOf a q) la a.vv g.d g.fa I' F' A1 ∧ i + ((restA (a.rw (ix t)) la).filter (askB a (ix t) m a.vv (timeOf a q))).length = ((a.rw (ix t)).filter (askB a (ix t) m a.vv (timeOf a q))).length) ⟨rfl, rfl, rfl, q1, 0, none, by decide, q2, by show 0 + _ = _; rw [Nat.zero_add]; rfl⟩ (fun v b' I' F' A' E' again again' ⟨e1, e2, e3, L1, i, la, i1, lk, hi⟩ ha => ?_)
  subst e1; subst e2; subst e3
  dsimp only [wJoin]
  have fin : ∀ I2, Iq g.l [6, 7] I' I2 → ((a.rw (ix t)).filter (askB a (ix t) m a.vv (timeOf a q))).length = i →
      (wGetF (cS b' I2 F' A' E') 11 6 (some o) fun v10 => wRecv (cS b' I2 F' A' E') 5 v10 (w_X5_takeLookedAt v10 (cS b' I2 F' A' E') (fun v12 x11 => wPutI x11 11 11 (some o) v12 fun x13 => OK1_many a.1 t m q 0 v ∧ KC1 o N (nx1_many a.1 t m q) x13) (fun E u => (E = eIA ∧ OK1_many a.1 t m q 1 0 ∨ E = eNE ∧ OK1_many a.1 t m q 2 0) ∧ KC1 o N (nx1_many a.1 t m q) u))) →
      (wGetF (cS b' I2 F' A' E') 11 6 (some o) fun v10 => wRecv (cS b' I2 F' A' E') 5 v10 (w_X5_takeLookedAt v10 (cS b' I2 F' A' E') (fun v12 x11 => wPutI x11 11 11 (some o) v12 fun x13 => EX (askCd a t m q) (num ((a.rw (ix t)).filter (askB a (ix t) m a.vv (timeOf a q))).length) 0 v ∧ KC o N a x13) (fun E u => (E = eIA ∧ EX (askCd a t m q) (num ((a.rw (ix t)).filter (askB a (ix t) m a.vv (timeOf a q))).length) 1 0 ∨ E = eNE ∧ EX (askCd a t m q) (num ((a.rw (ix t)).filter (askB a (ix t) m a.vv (timeOf a q))).length) 2 0) ∧ KC o N a u))) := fun I2 hI2 he => by
    have hL2 := Lq_Iq L1 hI2
    refine qc_getF hb (by decide) (fun _ => ?_)
    rw [hL2.2.1 o hol, hs.2.2.2.2.2.1]
    refine qc_recv (fun _ => ?_)
    refine qc_take ?_
    refine qc_putI (fun _ h => ?_)
    refine ⟨EX_ok (ask_cd0 c1 c2) (by rw [he]; exact num_of i1), h.2, _, _, _, _, _, _, rfl, hz, CXx_11 (CXx_l hx (Lq_I (j := 7) (v := 0) hL2))⟩
  refine qv_if (fun z => ?_) (fun z => ?_)
  · simp only [i32, Int32.reduceToInt] at z
    exact fin I' Iq_rf (by omega)
  · simp only [i32, Int32.reduceToInt] at z
    refine qc_getF hb (by decide) (fun _ => ?_)
    rw [L1.2.1 o hol, hs.2.2.2.2.2.1]
    refine qc_recv (fun _ => ?_)
    refine qc_advance (CXx_l hx L1) hV hl5 lk (fun z => absurd z (by decide)) (fun I2 _ e1 e2 e3 => ?_) (fun I2 n _ e1 hn hask e2 e3 => ?_)
    · refine qv_if (fun _ => fin I2 e2 ?_) (fun z => absurd rfl z)
      rw [rest_none e1] at hi
      simpa using hi.symm
    · refine qv_if (fun z => absurd z (by simp)) (fun _ => ?_)
      refine ha _ _ _ _ _ _ ⟨rfl, rfl, rfl, Lq_F (Lq_Iq L1 e2), i + 1, some n, by rw [i_add i1 (show (1 : Int32).toInt = 1 by decide) (by omega)]; omega, Lk1_adv lk e2 hn (ask_fit hask), ?_⟩
      have e1 : (restA (a.rw (ix t)) la).find? (askB a (ix t) m a.vv (timeOf a q)) = some n := e1
      rw [rest_next hnd (fun k hk => (lk.2.2.2.2.2.2.2 k hk).1) e1, List.length_cons] at hi
      omega
theorem Lk1_go (h : Lk1 a q t ov m T la vs d fa I F A) : Lk1 (goA a n) q t ov m T la vs d fa I F A := by
  obtain ⟨g0, g1, g2, g3, -⟩ := goA_f a n
  have e1 : (goA a n).tn = a.tn := congrArg A1.tn g0
  have e2 : (goA a n).co = a.co := congrArg A1.co g0
  unfold Lk1 inT fitB at h ⊢
  rw [e1, e2, g2, g3]; exact h
theorem rem_eq (hV : AV a) (t : Nat) (m : Int32) : remT a t m = (a.rw t).filter (askB a t m a.vv a.tm) := by
  unfold remT
  refine List.filter_congr (fun n hn => ?_)
  unfold askB
  rw [there_now hV.1 hn]
theorem ask_keep {c : AS} (h1 : c.1 = a.1) (h2 : c.fc = a.fc) (h3 : c.fb = a.fb) (hd : c.fd n = a.fd n ∨ (a.fd n = -1 ∧ a.tm < c.fd n)) : askB c t m vs a.tm n = askB a t m vs a.tm n := by
  unfold askB
  rw [fit_congr h1 h2]
  congr 1
  unfold thereB
  rw [h3]
  refine decide_eq_decide.mpr ?_
  rcases hd with z | ⟨z1, z2⟩
  · rw [z]
  · rw [z1]
    constructor
    · rintro ⟨y1, y2⟩; exact ⟨y1, Or.inl (by omega)⟩
    · rintro ⟨y1, y2⟩; exact ⟨y1, Or.inr z2⟩
theorem goL_fd : ∀ (L : List Nat) (a : AS) (n : Nat), n ∈ L → a.tm < (goL a L).fd n
  | [], _, n, h => absurd h List.not_mem_nil
  | x :: L, a, n, h => by
      have g5 := (goA_f a x).2.2.2.2.2.1
      have g9 := (goA_f a x).2.2.2.2.2.2.2.2.2.1
      show a.tm < (goL (goA a x) L).fd n
      by_cases hL : n ∈ L
      · have := goL_fd L (goA a x) n hL; omega
      · have hx : n = x := (List.mem_cons.mp h).resolve_right hL
        rw [(goL_f L (goA a x)).2.2.2.2.2 n hL, g5, hx, va_up_self]; omega
theorem av_goL : ∀ (L : List Nat) {a : AS} {t : Nat}, AV a → L.Nodup → (∀ n, n ∈ L → n ∈ a.rw t ∧ a.fd n = -1) → AV (goL a L)
  | [], a, t, h, _, _ => h
  | x :: L, a, t, h, hn, hm => by
      have hx := hm x List.mem_cons_self
      have hn' := List.nodup_cons.mp hn
      obtain ⟨g0, g1, g2, g3, g4, g5, -⟩ := goA_f a x
      refine av_goL L (t := t) (av_go h hx.1 hx.2) hn'.2 (fun n hnL => ?_)
      have := hm n (List.mem_cons_of_mem _ hnL)
      rw [g2, g5, va_up_ne _ _ (fun z => hn'.1 (by rw [← z]; exact hnL))]
      exact this
end VJ1
