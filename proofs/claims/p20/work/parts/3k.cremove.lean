set_option linter.unusedVariables false
set_option linter.unusedSimpArgs false
/-! the class: remove -/
section VK1
variable {b : CT} {I I' : Nat → Nat → Int32} {F F' : Nat → Nat → Option Nat} {A A' : Nat → Nat → Nat → Int32} {E E' : Nat → Nat → Nat → Option Nat} {o t n n' k f c p w j ci q s h l N : Nat} {a : AS} {g : CGs} {lk d r ct fa : Nat → Nat} {x y : HS} {X X' : String → HS → Prop} {Q Q' : HS → Prop} {QI QI' : Int32 → HS → Prop} {QF QF' : Option Nat → HS → Prop} {m : Int32} {T : Int} {la : Option Nat} {vs : Nat → Int32} {ov : Bool}
theorem qc_tl (hx : CXx o a g b I F A E) (h : ∀ I2, CXx o a g b I2 F A E → Q (cS b I2 F A E) → Q' (cS b I2 F A E)) :
    (wGetF (cS b I F A E) 11 6 (some o) fun v9 => wRecv (cS b I F A E) 5 v9 (w_X5_takeLookedAt v9 (cS b I F A E) (fun v11 x10 => wPutI x10 11 11 (some o) v11 fun x12 => Q x12) X)) →
    (wGetF (cS b I F A E) 11 6 (some o) fun v9 => wRecv (cS b I F A E) 5 v9 (w_X5_takeLookedAt v9 (cS b I F A E) (fun v11 x10 => wPutI x10 11 11 (some o) v11 fun x12 => Q' x12) X')) := by
  have hs := hx.2.1
  refine qc_getF hx.1 (by decide) (fun _ => ?_)
  rw [hs.2.2.2.2.2.1]
  refine qc_recv (fun _ => ?_)
  refine qc_take ?_
  refine qc_putI (fun _ => ?_)
  exact h _ (CXx_11 (CXx_l hx (Lq_I (j := 7) (v := 0) Lq_rf)))
theorem qc_remFirst (hx : CXx o a g b I F A E) (hW : AVT a) (hL : Lk1 a g.l t false m a.tm none a.vv g.d g.fa I F A)
    (h : ∀ v I' F' A' E', v = numO (remT a t m).head? → CXx o (goL a ((remT a t m).take 1)) g b I' F' A' E' → QI v (cS b I' F' A' E') → QI' v (cS b I' F' A' E')) : w_X11_removeFirst (some o) (cS b I F A E) QI X → w_X11_removeFirst (some o) (cS b I F A E) QI' X' := by
  have hV := hW.1
  have hb := hx.1
  have hs := hx.2.1
  have hl5 := hs.2.2.2.2.2.2.1
  have hol : o ≠ g.l := Is_ne hs.1 hl5 (by decide)
  unfold w_X11_removeFirst
  refine qc_getF hb (by decide) (fun _ => ?_)
  rw [hs.2.2.2.2.2.1]
  refine qc_recv (fun _ => ?_)
  refine qc_advance hx hV hl5 hL (fun z => absurd z (by decide)) (fun I2 _ e1 e2 e3 => ?_) (fun I2 n _ e1 hn hask e2 e3 => ?_)
  · dsimp only [wJoin]
    refine qv_if (fun _ => ?_) (fun z => absurd rfl z)
    have e1 : (restA (a.rw t) none).find? (askB a t m a.vv a.tm) = none := e1
    have er : remT a t m = [] := by rw [rem_eq hV]; exact rest_none e1
    refine qc_numberOf (fun _ => ?_) (fun f e => absurd e (by simp))
    rw [er] at h
    exact h _ _ _ _ _ rfl (CXx_l hx (Lq_Iq Lq_rf e2))
  · dsimp only [wJoin]
    refine qv_if (fun z => absurd z (by simp)) (fun _ => ?_)
    have hx2 : CXx o a g b I2 (up2 F g.l 5 (some (g.fa n))) A E := CXx_l hx (Lq_F (Lq_Iq Lq_rf e2))
    refine qc_getF hb (by decide) (fun _ => ?_)
    rw [hx2.2.1.2.1]
    refine qc_recv (fun _ => ?_)
    have hal : a.fd n = -1 := by
      have := (Bool.and_eq_true_iff.mp hask).1
      rw [there_now hV.1 hn] at this
      exact alive_fd hV.1 hn this
    have e1 : (restA (a.rw t) none).find? (askB a t m a.vv a.tm) = some n := e1
    have er : remT a t m = n :: (restA (a.rw t) (some n)).filter (askB a t m a.vv a.tm) := by
      rw [rem_eq hV]; exact rest_next (hV.1.2.2.1 t) (fun _ z => absurd z (by simp)) e1
    refine qc_go hx2 hV hn hal (by have := hW.2; omega) (fun I3 A3 E3 hx3 _ => ?_)
    refine qc_numberOf (fun e => absurd e (by simp)) (fun f e => ?_)
    cases e
    rw [er] at h
    have hn3 : n ∈ (goA a n).rw t := by rw [(goA_f a n).2.2.1]; exact hn
    exact h _ _ _ _ _ (num_fa (hx3.2.2.2.1 t n hn3)) hx3
theorem qc_remAll (hx : CXx o a g b I F A E) (hW : AVT a) (hL : Lk1 a g.l t false m a.tm none a.vv g.d g.fa I F A)
    (h : ∀ v I' F' A' E', v = num (remT a t m).length → CXx o (goL a (remT a t m)) g b I' F' A' E' → QI v (cS b I' F' A' E') → QI' v (cS b I' F' A' E')) : w_X11_removeAll (some o) (cS b I F A E) QI X → w_X11_removeAll (some o) (cS b I F A E) QI' X' := by
  have hV := hW.1
  have hb := hx.1
  have hnd := hV.1.2.2.1 t
  have hrl := row_le hV t
  have hre := rem_eq hV t m
  have hlr : (remT a t m).length ≤ 3000 := by
    rw [hre]
    have := List.length_filter_le (askB a t m a.vv a.tm) (a.rw t)
    omega
  have hndR : (remT a t m).Nodup := by rw [hre]; exact hnd.filter _
  have hal : ∀ n, n ∈ remT a t m → n ∈ a.rw t ∧ a.fd n = -1 := fun n hn => by
    have := List.mem_filter.mp hn
    exact ⟨this.1, alive_fd hV.1 this.1 (Bool.and_eq_true_iff.mp this.2).1⟩
  unfold w_X11_removeAll
  refine qc_loop (fun v b' I' F' A' E' => b' = b ∧ ∃ (i : Nat) (la : Option Nat), v.toInt = (i : Int) ∧ i ≤ (remT a t m).length ∧ CXx o (goL a ((remT a t m).take i)) g b I' F' A' E' ∧ Lk1 (goL a ((remT a t m).take i)) g.l t false m a.tm la a.vv g.d g.fa I' F' A' ∧ (restA (a.rw t) la).filter (askB a t m a.vv a.tm) = (remT a t m).drop i) ⟨rfl, 0, none, by decide, by omega, hx, hL, by rw [hre]; rfl⟩ (fun v b' I' F' A' E' again again' ⟨e1, i, la, i1, i2, hx1, hL1, hi⟩ ha => ?_)
  subst e1
  have hs := hx1.2.1
  have hl5 := hs.2.2.2.2.2.2.1
  obtain ⟨f0, f1, f2, f3, f4, f5⟩ := goL_f ((remT a t m).take i) a
  have hV1 : AV (goL a ((remT a t m).take i)) := av_goL _ (t := t) hV (hndR.sublist (List.take_sublist _ _)) (fun n hn => hal n (List.mem_of_mem_take hn))
  have hask : ∀ n, askB (goL a ((remT a t m).take i)) t m a.vv a.tm n = askB a t m a.vv a.tm n := fun n => ask_keep f0 f2 f3 (by
    by_cases hn : n ∈ (remT a t m).take i
    · exact Or.inr ⟨(hal n (List.mem_of_mem_take hn)).2, goL_fd _ a n hn⟩
    · exact Or.inl (f5 n hn))
  have haskf : askB (goL a ((remT a t m).take i)) t m a.vv a.tm = askB a t m a.vv a.tm := funext hask
  dsimp only [wJoin]
  refine qv_if (fun z => ?_) (fun z => ?_)
  · simp only [i32, Int32.reduceToInt] at z
    have hi2 : i = (remT a t m).length := by omega
    rw [hi2, List.take_length] at hx1
    exact h _ _ _ _ _ (by rw [← hi2]; exact num_of i1) hx1
  · simp only [i32, Int32.reduceToInt] at z
    refine qc_getF hb (by decide) (fun _ => ?_)
    rw [hs.2.2.2.2.2.1]
    refine qc_recv (fun _ => ?_)
    refine qc_advance hx1 hV1 hl5 hL1 (fun z => absurd z (by decide)) (fun I2 _ e1 e2 e3 => ?_) (fun I2 n _ e1 hn hak e2 e3 => ?_)
    · refine qv_if (fun _ => ?_) (fun z => absurd rfl z)
      have e1 : (restA ((goL a ((remT a t m).take i)).rw t) la).find? (askB (goL a ((remT a t m).take i)) t m a.vv a.tm) = none := e1
      rw [f1, haskf] at e1
      rw [rest_none e1] at hi
      have hi2 : i = (remT a t m).length := by
        have := congrArg List.length hi
        rw [List.length_drop] at this
        simp only [List.length_nil] at this
        omega
      have hx2 := CXx_l hx1 (Lq_Iq Lq_rf e2)
      rw [hi2, List.take_length] at hx2
      exact h _ _ _ _ _ (by rw [← hi2]; exact num_of i1) hx2
    · refine qv_if (fun z => absurd z (by simp)) (fun _ => ?_)
      have e1 : (restA ((goL a ((remT a t m).take i)).rw t) la).find? (askB (goL a ((remT a t m).take i)) t m a.vv a.tm) = some n := e1
      rw [f1, haskf] at e1
      have hla : ∀ k, la = some k → k ∈ a.rw t := fun k hk => by have := (hL1.2.2.2.2.2.2.2 k hk).1; rw [f1] at this; exact this
      rw [rest_next hnd hla e1] at hi
      have hlt : i < (remT a t m).length := by
        have := congrArg List.length hi
        rw [List.length_drop, List.length_cons] at this
        omega
      have hget : (remT a t m)[i]? = some n := by
        rw [← List.head?_drop, ← hi]; rfl
      have htake : (remT a t m).take (i + 1) = (remT a t m).take i ++ [n] := by
        rw [List.take_add_one, hget]; rfl
      have hdrop : (remT a t m).drop (i + 1) = (restA (a.rw t) (some n)).filter (askB a t m a.vv a.tm) := by
        rw [← List.drop_drop, ← hi]; rfl
      have hnR : n ∈ remT a t m := List.mem_of_getElem? hget
      have hnd1 : n ∉ (remT a t m).take i := fun z => by
        have hn1 := hndR.sublist (List.take_sublist (i + 1) (remT a t m))
        rw [htake] at hn1
        exact (List.nodup_append.mp hn1).2.2 n z n (List.mem_singleton.mpr rfl) rfl
      have hx2 := CXx_l hx1 (Lq_F (j := 5) (v := some (g.fa n)) (Lq_Iq Lq_rf e2))
      refine qc_getF hb (by decide) (fun _ => ?_)
      rw [hx2.2.1.2.1]
      refine qc_recv (fun _ => ?_)
      refine qc_go hx2 hV1 hn (by rw [f5 n hnd1]; exact (hal n hnR).2) ?_ (fun I3 A3 E3 hx3 hsl => ?_)
      · rw [f4]
        have h1 := hW.2
        have h2 := List.length_take_le i (remT a t m)
        omega
      · refine ha _ _ _ _ _ _ ⟨rfl, i + 1, some n, by rw [i_add i1 (show (1 : Int32).toInt = 1 by decide) (by omega)]; omega, hlt, ?_, ?_, hdrop.symm⟩
        · rw [htake, goL_end]; exact hx3
        · rw [htake, goL_end]
          obtain ⟨s1, s2, s3⟩ := hsl g.l hl5
          exact Lk1_go (Lk1_eq (Lk1_adv hL1 e2 hn (ask_fit hak)) (fun j _ => by rw [s1]) (fun j _ => rfl) (fun k _ => by rw [s3]))
theorem kc_remove (hk : KC o (N + 1) a x) (hW : AVT a) (t m l : Int32) : w_X11_remove (some o) t m l x (fun r u => OK_remove a t m l 0 r ∧ KC o N (nx_remove a t m l) u) (fun E u => (E = eIA ∧ OK_remove a t m l 1 0 ∨ E = eNE ∧ OK_remove a t m l 2 0) ∧ KC o N (nx_remove a t m l) u) := by
  have h := kc1_remove hk.1 t m l
  obtain ⟨g, b, I, F, A, E, rfl, hz, hx⟩ := hk.2
  have hV := hW.1
  have hb := hx.1
  have hs := hx.2.1
  have hl5 := hs.2.2.2.2.2.2.1
  have hnow : timeOk a (-1) := Or.inl (by decide)
  have hT : timeOf a (-1) = a.tm := if_pos (by decide)
  revert h
  unfold w_X11_remove OK_remove nx_remove
  have bad : ∀ (k : Int32) (u : HS), k ≠ 0 → remCd a t m l = k → CX o a u → KC1 o N a.1 u → EX (remCd a t m l) (if l.toInt = 0 then numO (remT a (ix t) m).head? else num (remT a (ix t) m).length) k 0 ∧ KC o N (if remCd a t m l = 0 then (if l.toInt = 0 then goL a ((remT a (ix t) m).take 1) else goL a (remT a (ix t) m)) else a) u := fun k u k0 e hc h1 => by
    refine ⟨EX_bad e k0, ?_⟩
    rw [e, if_neg k0]
    exact ⟨h1, hc⟩
  refine qc_range (fun c1 c2 => ?_) (fun c h => ?_)
  · have hl : 0 ≤ l.toInt ∧ l.toInt ≤ 1 := ⟨c1, c2⟩
    refine qc_getF hb (by decide) (fun _ => ?_)
    rw [hs.2.2.2.2.2.1]
    refine qc_recv (fun _ => ?_)
    refine qc_beginLook hx hV hl5 (fun c h => ?_) (fun d1 d2 h => ?_) (fun d1 d2 I1 F1 A1 q1 q2 q3 => ?_)
    · obtain ⟨y1, y2⟩ := bad 1 _ (by decide) (if_neg (fun z => c ⟨z.1, hnow⟩)) (CX_wC hz hx) h.2
      exact ⟨Or.inl ⟨rfl, y1⟩, y2⟩
    · obtain ⟨y1, y2⟩ := bad 2 _ (by decide) ((if_pos ⟨d1.1, hl⟩).trans (if_neg d2)) (CX_wC hz hx) h.2
      exact ⟨Or.inr ⟨rfl, y1⟩, y2⟩
    · rw [hT] at q2
      have hx1 := CXx_l hx q1
      have e0 : remCd a t m l = 0 := (if_pos ⟨d1.1, hl⟩).trans (if_pos d2)
      rw [e0, if_pos rfl]
      dsimp only [wJoin]
      refine qv_if (fun z => ?_) (fun z => ?_)
      · have hl0 : l.toInt = 0 := by rw [z]; decide
        rw [if_pos hl0, if_pos hl0]
        refine qc_recv (fun _ => ?_)
        refine qc_remFirst hx1 hW q2 (fun v I2 F2 A2 E2 hv hx2 => ?_)
        refine qc_tl hx2 (fun I3 hx3 h => ?_)
        refine ⟨⟨rfl, fun _ => hv⟩, ?_, _, _, _, _, _, _, rfl, hz, hx3⟩
        rw [(goL_f _ a).1]; exact h.2
      · have hl0 : ¬ l.toInt = 0 := fun y => z (i_ext (by rw [y]; decide))
        rw [if_neg hl0, if_neg hl0]
        refine qc_recv (fun _ => ?_)
        refine qc_remAll hx1 hW q2 (fun v I2 F2 A2 E2 hv hx2 => ?_)
        refine qc_tl hx2 (fun I3 hx3 h => ?_)
        refine ⟨⟨rfl, fun _ => hv⟩, ?_, _, _, _, _, _, _, rfl, hz, hx3⟩
        rw [(goL_f _ a).1]; exact h.2
  · obtain ⟨y1, y2⟩ := bad 1 _ (by decide) (if_neg (fun z => c z.2)) (CX_wC hz hx) h.2
    exact ⟨Or.inl ⟨rfl, y1⟩, y2⟩
end VK1
