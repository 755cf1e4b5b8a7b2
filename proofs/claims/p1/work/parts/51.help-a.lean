theorem lw_u0 (f : Nat → Int64) (x : Int64) : vp_updL f (0 : Int32).toNatClampNeg x 0 = x := if_pos (by decide)

set_option maxHeartbeats 4000000 in
set_option maxRecDepth 100000 in
/-- feed of the law -/
theorem h_feed (l : Launch) (hl0 : l.stackTraces = false) (dC : Nat → ClassId) (dI : Nat → Nat → Nat) (h : Nat) (aT : Nat) (aV : Nat) (aS : Nat) (aC : Nat) (aO : Nat) (aF : Nat) (aL : Nat) (aR : Nat) (aX : Nat) (cB : ClassId) (b1 : Int32) (b2 : Int32) (b3 : Int32) (b4 : Int32) (b5 : Int32) (ao : Nat) (cL : ClassId) (fo : Nat → Int64) (sz : Nat)  : Met l yL_feed wsL_feed ({ frames := 2, cells := 0, slots := 0, locals := 47 } : Room) (va_Pc [.ref h, .int b1, .int b2, .int b3, .int b4, .int b5, .ref ao] (ct_P (dC, dI) [(h, .inr (11, [.ref aT, .ref aV, .ref aS, .ref aC, .ref aO, .ref aF, .ref aL, .ref aR, .ref aX, .int 0, .int 0, .int 0])), (aT, .inl (cB, 400, .inl (fun _ => 0))), (ao, .inl (cL, 1, .inr (.inl fo)))] [(cB, .byte), (cL, .long)] sz)) (va_Qi (fun (r : Int32) (u : (Nat → Int64)) => r = 0 ∧ u 0 = (20 : Int32).toInt64) (fun (u : (Nat → Int64)) => ct_B (dC, dI) (va_A [(h, .inr (11, [.ref aT, .ref aV, .ref aS, .ref aC, .ref aO, .ref aF, .ref aL, .ref aR, .ref aX, .int 0, .int 0, .int 0])), (aT, .inl (cB, 400, .inl (fun _ => 0))), (ao, .inl (cL, 1, .inr (.inl fo)))] sz) [(ao, .inl (cL, 1, .inr (.inl u)))] [(cL, .long)]) (va_A [(h, .inr (11, [.ref aT, .ref aV, .ref aS, .ref aC, .ref aO, .ref aF, .ref aL, .ref aR, .ref aX, .int 0, .int 0, .int 0])), (aT, .inl (cB, 400, .inl (fun _ => 0))), (ao, .inl (cL, 1, .inr (.inl fo)))] sz)) 0 0 (va_A [(h, .inr (11, [.ref aT, .ref aV, .ref aS, .ref aC, .ref aO, .ref aF, .ref aL, .ref aR, .ref aX, .int 0, .int 0, .int 0])), (aT, .inl (cB, 400, .inl (fun _ => 0))), (ao, .inl (cL, 1, .inr (.inl fo)))] sz) := by
  refine va_MetW (cc := cL_feed) (maxL := 8) (ret := (some .int)) (hh := [(0, 16, 19, 13)]) (by decide) rfl ?_
  intro p e s m args below meth c s₁ B hml hv
  obtain ⟨rfl, hsz, hP, hK, hD0, hZ⟩ := hv
  have hx := B.exec
  have hb := B.bytes
  have hr := B.returns
  have hts := atoms_spec (ws := wsL_feed) B.pre
  have hown : s.vm.findClass RL = some m.cls := findClass_of_methodNamed B.named
  have hlocks := B.notSynchronized
  have htb : c.exceptionTable.toList = tableOf [(0, 16, 19, 13)] := vx_table (x := yL_feed) B (hts _ List.mem_cons_self)
  subst hsz
  have hD := hD0.self (sz := s.heap.size)
  generalize hAe : va_A [(h, .inr (11, [.ref aT, .ref aV, .ref aS, .ref aC, .ref aO, .ref aF, .ref aL, .ref aR, .ref aX, .int 0, .int 0, .int 0])), (aT, .inl (cB, 400, .inl (fun _ => 0))), (ao, .inl (cL, 1, .inr (.inl fo)))] s.heap.size = A at hD hZ ⊢
  have hA : ∀ q : Nat, s.heap.size ≤ q → A q := fun q h => by rw [← hAe]; exact Or.inr h
  have hS : va_S A s.heap s.heap [] := va_S.rf
  have hP : va_P (dC, dI) vwCl [(h, .inr (11, [.ref aT, .ref aV, .ref aS, .ref aC, .ref aO, .ref aF, .ref aL, .ref aR, .ref aX, .int 0, .int 0, .int 0])), (aT, .inl (cB, 400, .inl (fun _ => 0))), (ao, .inl (cL, 1, .inr (.inl fo)))] s.heap := hP
  have hK : va_K (dC, dI) vwCl [(cB, .byte), (cL, .long)] s := hK
  have hD : va_D A [(h, .inr (11, [.ref aT, .ref aV, .ref aS, .ref aC, .ref aO, .ref aF, .ref aL, .ref aR, .ref aX, .int 0, .int 0, .int 0])), (aT, .inl (cB, 400, .inl (fun _ => 0))), (ao, .inl (cL, 1, .inr (.inl fo)))] := hD
  have hl := lv_entry ([.ref h, .int b1, .int b2, .int b3, .int b4, .int b5, .ref ao]) (n := 8) (Nat.le_of_ble_eq_true rfl)
  rw [lg_entry_eq]
  generalize (lg_sl ([.ref h, .int b1, .int b2, .int b3, .int b4, .int b5, .ref ao]) ++ List.replicate (8 - (lg_sl ([.ref h, .int b1, .int b2, .int b3, .int b4, .int b5, .ref ao])).length) Slot.unset).toArray = ls at hl ⊢
  have hl : lv_has ls 8 [(0, .ref h), (1, .int b1), (2, .int b2), (3, .int b3), (4, .int b4), (5, .int b5), (6, .ref ao)] := hl
  refine lv_aload hx hb dL_feed_0 (lv_at hl 6 rfl) ?_
  refine lv_iconst (v := 0) hx hb dL_feed_2 (by decide) ?_
  refine lv_aload_n hx hb dL_feed_3 rfl (lv_at hl 0 rfl) ?_
  refine lv_iload_n hx hb dL_feed_4 rfl (lv_at hl 1 rfl) ?_
  refine lv_iload_n hx hb dL_feed_5 rfl (lv_at hl 2 rfl) ?_
  refine lv_iload_n hx hb dL_feed_6 rfl (lv_at hl 3 rfl) ?_
  refine lv_iload hx hb dL_feed_7 (lv_at hl 4 rfl) ?_
  refine lv_iload hx hb dL_feed_9 (lv_at hl 5 rfl) ?_
  refine xt_i (wr := [(ao, .inl (cL, 1, .inr (.inl fo)))]) (tyr := [(cL, .long)]) (vx_runV (As := [.int b1, .int b2, .int b3, .int b4, .int b5]) (rest := [.int 0, .ref ao]) ⟨hx, hb, hml, hown, hts⟩ (c_feed l hl0 dC dI h aT aV aS aC aO aF aL aR aX cB b1 b2 b3 b4 b5 s.heap.size ) (cwV 5 hts gL_feed_X11_feed rfl rfl rfl (by decide +kernel) ⟨Nat.le_of_ble_eq_true rfl, Nat.le_of_ble_eq_true rfl⟩) (ct_preV (ci := 11) (q0 := 0) hP hD hK hS hA hZ rfl rfl [0, 1] [0] rfl (by decide) rfl) rfl rfl hl.1 rfl (lv_room (Nat.le_of_ble_eq_true rfl)) dL_feed_11 ⟨Nat.le_of_ble_eq_true rfl, Nat.le_of_ble_eq_true rfl⟩) hP hD hK hS hA [0, 1] [2] [1] rfl rfl (by decide) (by decide) rfl (fun E ce q9 H locs hbx hS hP hD hce hcv hcl => ?_) (fun r_1 u H locs w_2 hP hD hK hS => ?_)
  · skip
    exact hbx.elim
  · skip
    try dsimp only at w_2
    have hP : va_P (dC, dI) vwCl [(ao, .inl (cL, 1, .inr (.inl fo)))] H := hP
    have hD : va_D A [(ao, .inl (cL, 1, .inr (.inl fo)))] := hD
    have hK : va_K (dC, dI) vwCl [(cL, .long)] s := hK
    obtain rfl : r_1 = 20 := w_2
    refine lv_i2l (v := (20 : Int32).toInt64) hx hb dL_feed_14 rfl ?_
    refine va_last hx hb hK hP hD hS 0 0 rfl rfl (by unfold vp_in; decide) dL_feed_15 (fun H locs hP hD hS => ?_)
    have hP : va_P (dC, dI) vwCl [(ao, .inl (cL, 1, .inr (.inl (vp_updL fo (0 : Int32).toNatClampNeg ((20 : Int32).toInt64)))))] H := hP
    have hD : va_D A [(ao, .inl (cL, 1, .inr (.inl (vp_updL fo (0 : Int32).toNatClampNeg ((20 : Int32).toInt64)))))] := hD
    refine lv_goto (tgt := 23) hx hb dL_feed_16 (by decide) ?_
    refine lv_iconst (v := 0) hx hb dL_feed_23 (by decide) ?_
    have hP9 := hP.sub (ws' := [(ao, .inl (cL, 1, .inr (.inl (vp_updL fo (0 : Int32).toNatClampNeg ((20 : Int32).toInt64)))))]) [0] rfl
    have hD9 := hD.sub (ws' := [(ao, .inl (cL, 1, .inr (.inl (vp_updL fo (0 : Int32).toNatClampNeg ((20 : Int32).toInt64)))))]) [0] (by decide) rfl
    have hK9 := hK.sub (tys' := [(cL, .long)]) [0] rfl
    refine W.widen (k := 0) (n := 0) (Nat.le_of_ble_eq_true rfl) (Nat.le_of_ble_eq_true rfl) ?_
    exact (W.iret (v := 0) hx hb hr (fun t ht hW => ⟨⟨0, (vp_updL fo (0 : Int32).toNatClampNeg ((20 : Int32).toInt64)), rfl, ⟨rfl, lw_u0 _ _⟩, by rw [ht]; exact hP9, va_K.moved hW.alike hK9, hD9⟩, hS.F ht⟩) hS.2.2 dL_feed_24)

set_option maxHeartbeats 4000000 in
set_option maxRecDepth 100000 in
/-- end of the law -/
theorem h_end (l : Launch) (hl0 : l.stackTraces = false) (dC : Nat → ClassId) (dI : Nat → Nat → Nat) (h : Nat) (aT : Nat) (aV : Nat) (aS : Nat) (aC : Nat) (aO : Nat) (aF : Nat) (aL : Nat) (aR : Nat) (aX : Nat) (n : Int32) (ao : Nat) (cL : ClassId) (fo : Nat → Int64) (sz : Nat)  : Met l yL_end wsL_end ({ frames := 8, cells := 1, slots := 6, locals := 133 } : Room) (va_Pc [.ref h, .int n, .ref ao] (ct_P (dC, dI) [(h, .inr (11, [.ref aT, .ref aV, .ref aS, .ref aC, .ref aO, .ref aF, .ref aL, .ref aR, .ref aX, .int 0, .int 0, .int 0])), (ao, .inl (cL, 1, .inr (.inl fo)))] [(cL, .long)] sz)) (va_Qi (fun (r : Int32) (u : (Nat → Int64)) => (r = 1 ∧ (n < 0 ∨ ¬ n ≤ 0)) ∨ (r = 0 ∧ ¬ (n < 0 ∨ ¬ n ≤ 0) ∧ u 0 = (n : Int32).toInt64)) (fun (u : (Nat → Int64)) => ct_B (dC, dI) (va_A [(h, .inr (11, [.ref aT, .ref aV, .ref aS, .ref aC, .ref aO, .ref aF, .ref aL, .ref aR, .ref aX, .int 0, .int 0, .int 0])), (ao, .inl (cL, 1, .inr (.inl fo)))] sz) [(ao, .inl (cL, 1, .inr (.inl u)))] [(cL, .long)]) (va_A [(h, .inr (11, [.ref aT, .ref aV, .ref aS, .ref aC, .ref aO, .ref aF, .ref aL, .ref aR, .ref aX, .int 0, .int 0, .int 0])), (ao, .inl (cL, 1, .inr (.inl fo)))] sz)) 1 6 (va_A [(h, .inr (11, [.ref aT, .ref aV, .ref aS, .ref aC, .ref aO, .ref aF, .ref aL, .ref aR, .ref aX, .int 0, .int 0, .int 0])), (ao, .inl (cL, 1, .inr (.inl fo)))] sz) := by
  refine va_MetW (cc := cL_end) (maxL := 4) (ret := (some .int)) (hh := [(0, 9, 12, 19)]) (by decide) rfl ?_
  intro p e s m args below meth c s₁ B hml hv
  obtain ⟨rfl, hsz, hP, hK, hD0, hZ⟩ := hv
  have hx := B.exec
  have hb := B.bytes
  have hr := B.returns
  have hts := atoms_spec (ws := wsL_end) B.pre
  have hown : s.vm.findClass RL = some m.cls := findClass_of_methodNamed B.named
  have hlocks := B.notSynchronized
  have htb : c.exceptionTable.toList = tableOf [(0, 9, 12, 19)] := vx_table (x := yL_end) B (hts _ List.mem_cons_self)
  subst hsz
  have hD := hD0.self (sz := s.heap.size)
  generalize hAe : va_A [(h, .inr (11, [.ref aT, .ref aV, .ref aS, .ref aC, .ref aO, .ref aF, .ref aL, .ref aR, .ref aX, .int 0, .int 0, .int 0])), (ao, .inl (cL, 1, .inr (.inl fo)))] s.heap.size = A at hD hZ ⊢
  have hA : ∀ q : Nat, s.heap.size ≤ q → A q := fun q h => by rw [← hAe]; exact Or.inr h
  have hS : va_S A s.heap s.heap [] := va_S.rf
  have hP : va_P (dC, dI) vwCl [(h, .inr (11, [.ref aT, .ref aV, .ref aS, .ref aC, .ref aO, .ref aF, .ref aL, .ref aR, .ref aX, .int 0, .int 0, .int 0])), (ao, .inl (cL, 1, .inr (.inl fo)))] s.heap := hP
  have hK : va_K (dC, dI) vwCl [(cL, .long)] s := hK
  have hD : va_D A [(h, .inr (11, [.ref aT, .ref aV, .ref aS, .ref aC, .ref aO, .ref aF, .ref aL, .ref aR, .ref aX, .int 0, .int 0, .int 0])), (ao, .inl (cL, 1, .inr (.inl fo)))] := hD
  have hl := lv_entry ([.ref h, .int n, .ref ao]) (n := 4) (Nat.le_of_ble_eq_true rfl)
  rw [lg_entry_eq]
  generalize (lg_sl ([.ref h, .int n, .ref ao]) ++ List.replicate (4 - (lg_sl ([.ref h, .int n, .ref ao])).length) Slot.unset).toArray = ls at hl ⊢
  have hl : lv_has ls 4 [(0, .ref h), (1, .int n), (2, .ref ao)] := hl
  refine lv_aload_n hx hb dL_end_0 rfl (lv_at hl 2 rfl) ?_
  refine lv_iconst (v := 0) hx hb dL_end_1 (by decide) ?_
  refine lv_aload_n hx hb dL_end_2 rfl (lv_at hl 0 rfl) ?_
  refine lv_iload_n hx hb dL_end_3 rfl (lv_at hl 1 rfl) ?_
  refine xt_i (wr := [(ao, .inl (cL, 1, .inr (.inl fo)))]) (tyr := [(cL, .long)]) (vx_runV (As := [.int n]) (rest := [.int 0, .ref ao]) ⟨hx, hb, hml, hown, hts⟩ (c_end l hl0 dC dI h aT aV aS aC aO aF aL aR aX n s.heap.size ) (cwV 1 hts gL_end_X11_end rfl rfl rfl (by decide +kernel) ⟨Nat.le_of_ble_eq_true rfl, Nat.le_of_ble_eq_true rfl⟩) (ct_preV (ci := 11) (q0 := 0) hP hD hK hS hA hZ rfl rfl [0] [] rfl (by decide) rfl) rfl rfl hl.1 rfl (lv_room (Nat.le_of_ble_eq_true rfl)) dL_end_4 ⟨Nat.le_of_ble_eq_true rfl, Nat.le_of_ble_eq_true rfl⟩) hP hD hK hS hA [0] [1] [0] rfl rfl (by decide) (by decide) rfl (fun E ce q9 H locs hbx hS hP hD hce hcv hcl => ?_) (fun r_1 u H locs w_2 hP hD hK hS => ?_)
  · skip
    rcases hbx with ⟨rfl, hp⟩
    refine vx_catch (own := RL) (name := eIA) (pc := 4) hown [] ⟨0, 9, 12, 19⟩ [] htb (fun z hz => absurd hz (List.not_mem_nil)) (by decide) (by decide) (hts (.classLink RL 19 "java/lang/IllegalArgumentException") (by decide +kernel)) (va_Nw.use rfl hZ.2.2.2.1.1) hce hcv hcl ?_
    refine W.eq (g2 := F0 m 12 ls [.ref q9]) rfl ?_
    have hK := hK.sub (tys' := [(cL, .long)]) [0] rfl
    refine lv_astore_n (lv' := [(3, .ref q9), (0, .ref h), (1, .int n), (2, .ref ao)]) hx hb dL_end_12 rfl hl (by decide) rfl (fun ls hl => ?_)
    refine lv_iconst (v := 1) hx hb dL_end_13 (by decide) ?_
    have hP9 := hP.sub (ws' := [(ao, .inl (cL, 1, .inr (.inl fo)))]) [0] rfl
    have hD9 := hD.sub (ws' := [(ao, .inl (cL, 1, .inr (.inl fo)))]) [0] (by decide) rfl
    have hK9 := hK.sub (tys' := [(cL, .long)]) [0] rfl
    refine W.widen (k := 1) (n := 6) (Nat.le_of_ble_eq_true rfl) (Nat.le_of_ble_eq_true rfl) ?_
    exact (W.iret (v := 1) hx hb hr (fun t ht hW => ⟨⟨1, fo, rfl, Or.inl ⟨rfl, hp⟩, by rw [ht]; exact hP9, va_K.moved hW.alike hK9, hD9⟩, hS.F ht⟩) hS.2.2 dL_end_14)
  · skip
    try dsimp only at w_2
    have hP : va_P (dC, dI) vwCl [(ao, .inl (cL, 1, .inr (.inl fo)))] H := hP
    have hD : va_D A [(ao, .inl (cL, 1, .inr (.inl fo)))] := hD
    have hK : va_K (dC, dI) vwCl [(cL, .long)] s := hK
    refine W.widen (k := 1) (n := 6) (Nat.le_of_ble_eq_true rfl) (Nat.le_of_ble_eq_true rfl) ?_
    obtain rfl : n = r_1 := Eq.symm (w_2.1)
    refine lv_i2l (v := (n : Int32).toInt64) hx hb dL_end_7 rfl ?_
    refine va_last hx hb hK hP hD hS 0 0 rfl rfl (by unfold vp_in; decide) dL_end_8 (fun H locs hP hD hS => ?_)
    have hP : va_P (dC, dI) vwCl [(ao, .inl (cL, 1, .inr (.inl (vp_updL fo (0 : Int32).toNatClampNeg ((n : Int32).toInt64)))))] H := hP
    have hD : va_D A [(ao, .inl (cL, 1, .inr (.inl (vp_updL fo (0 : Int32).toNatClampNeg ((n : Int32).toInt64)))))] := hD
    refine lv_goto (tgt := 15) hx hb dL_end_9 (by decide) ?_
    refine lv_iconst (v := 0) hx hb dL_end_15 (by decide) ?_
    have hP9 := hP.sub (ws' := [(ao, .inl (cL, 1, .inr (.inl (vp_updL fo (0 : Int32).toNatClampNeg ((n : Int32).toInt64)))))]) [0] rfl
    have hD9 := hD.sub (ws' := [(ao, .inl (cL, 1, .inr (.inl (vp_updL fo (0 : Int32).toNatClampNeg ((n : Int32).toInt64)))))]) [0] (by decide) rfl
    have hK9 := hK.sub (tys' := [(cL, .long)]) [0] rfl
    refine W.widen (k := 1) (n := 6) (Nat.le_of_ble_eq_true rfl) (Nat.le_of_ble_eq_true rfl) ?_
    exact (W.iret (v := 0) hx hb hr (fun t ht hW => ⟨⟨0, (vp_updL fo (0 : Int32).toNatClampNeg ((n : Int32).toInt64)), rfl, Or.inr ⟨rfl, w_2.2, lw_u0 _ _⟩, by rw [ht]; exact hP9, va_K.moved hW.alike hK9, hD9⟩, hS.F ht⟩) hS.2.2 dL_end_16)

set_option maxHeartbeats 4000000 in
set_option maxRecDepth 100000 in
/-- value of the law -/
theorem h_value (l : Launch) (hl0 : l.stackTraces = false) (dC : Nat → ClassId) (dI : Nat → Nat → Nat) (h : Nat) (aT : Nat) (aV : Nat) (aS : Nat) (aC : Nat) (aO : Nat) (aF : Nat) (aL : Nat) (aR : Nat) (aX : Nat) (cV : ClassId) (k : Int32) (v : Int32) (ao : Nat) (cL : ClassId) (fo : Nat → Int64) (sz : Nat)  : Met l yL_value wsL_value ({ frames := 8, cells := 1, slots := 6, locals := 135 } : Room) (va_Pc [.ref h, .int k, .int v, .ref ao] (ct_P (dC, dI) [(h, .inr (11, [.ref aT, .ref aV, .ref aS, .ref aC, .ref aO, .ref aF, .ref aL, .ref aR, .ref aX, .int 0, .int 0, .int 0])), (aV, .inl (cV, 4, .inl (fun _ => 0))), (ao, .inl (cL, 1, .inr (.inl fo)))] [(cV, .int), (cL, .long)] sz)) (va_Qi (fun (r : Int32) (u : (Nat → Int64)) => (r = 1 ∧ (k < 0 ∨ ¬ k ≤ 3)) ∨ (r = 0 ∧ ¬ (k < 0 ∨ ¬ k ≤ 3) ∧ u 0 = (0 : Int32).toInt64)) (fun (u : (Nat → Int64)) => ct_B (dC, dI) (va_A [(h, .inr (11, [.ref aT, .ref aV, .ref aS, .ref aC, .ref aO, .ref aF, .ref aL, .ref aR, .ref aX, .int 0, .int 0, .int 0])), (aV, .inl (cV, 4, .inl (fun _ => 0))), (ao, .inl (cL, 1, .inr (.inl fo)))] sz) [(ao, .inl (cL, 1, .inr (.inl u)))] [(cL, .long)]) (va_A [(h, .inr (11, [.ref aT, .ref aV, .ref aS, .ref aC, .ref aO, .ref aF, .ref aL, .ref aR, .ref aX, .int 0, .int 0, .int 0])), (aV, .inl (cV, 4, .inl (fun _ => 0))), (ao, .inl (cL, 1, .inr (.inl fo)))] sz)) 1 6 (va_A [(h, .inr (11, [.ref aT, .ref aV, .ref aS, .ref aC, .ref aO, .ref aF, .ref aL, .ref aR, .ref aX, .int 0, .int 0, .int 0])), (aV, .inl (cV, 4, .inl (fun _ => 0))), (ao, .inl (cL, 1, .inr (.inl fo)))] sz) := by
  refine va_MetW (cc := cL_value) (maxL := 5) (ret := (some .int)) (hh := [(0, 10, 13, 19)]) (by decide) rfl ?_
  intro p e s m args below meth c s₁ B hml hv
  obtain ⟨rfl, hsz, hP, hK, hD0, hZ⟩ := hv
  have hx := B.exec
  have hb := B.bytes
  have hr := B.returns
  have hts := atoms_spec (ws := wsL_value) B.pre
  have hown : s.vm.findClass RL = some m.cls := findClass_of_methodNamed B.named
  have hlocks := B.notSynchronized
  have htb : c.exceptionTable.toList = tableOf [(0, 10, 13, 19)] := vx_table (x := yL_value) B (hts _ List.mem_cons_self)
  subst hsz
  have hD := hD0.self (sz := s.heap.size)
  generalize hAe : va_A [(h, .inr (11, [.ref aT, .ref aV, .ref aS, .ref aC, .ref aO, .ref aF, .ref aL, .ref aR, .ref aX, .int 0, .int 0, .int 0])), (aV, .inl (cV, 4, .inl (fun _ => 0))), (ao, .inl (cL, 1, .inr (.inl fo)))] s.heap.size = A at hD hZ ⊢
  have hA : ∀ q : Nat, s.heap.size ≤ q → A q := fun q h => by rw [← hAe]; exact Or.inr h
  have hS : va_S A s.heap s.heap [] := va_S.rf
  have hP : va_P (dC, dI) vwCl [(h, .inr (11, [.ref aT, .ref aV, .ref aS, .ref aC, .ref aO, .ref aF, .ref aL, .ref aR, .ref aX, .int 0, .int 0, .int 0])), (aV, .inl (cV, 4, .inl (fun _ => 0))), (ao, .inl (cL, 1, .inr (.inl fo)))] s.heap := hP
  have hK : va_K (dC, dI) vwCl [(cV, .int), (cL, .long)] s := hK
  have hD : va_D A [(h, .inr (11, [.ref aT, .ref aV, .ref aS, .ref aC, .ref aO, .ref aF, .ref aL, .ref aR, .ref aX, .int 0, .int 0, .int 0])), (aV, .inl (cV, 4, .inl (fun _ => 0))), (ao, .inl (cL, 1, .inr (.inl fo)))] := hD
  have hl := lv_entry ([.ref h, .int k, .int v, .ref ao]) (n := 5) (Nat.le_of_ble_eq_true rfl)
  rw [lg_entry_eq]
  generalize (lg_sl ([.ref h, .int k, .int v, .ref ao]) ++ List.replicate (5 - (lg_sl ([.ref h, .int k, .int v, .ref ao])).length) Slot.unset).toArray = ls at hl ⊢
  have hl : lv_has ls 5 [(0, .ref h), (1, .int k), (2, .int v), (3, .ref ao)] := hl
  refine lv_aload_n hx hb dL_value_0 rfl (lv_at hl 3 rfl) ?_
  refine lv_iconst (v := 0) hx hb dL_value_1 (by decide) ?_
  refine lv_aload_n hx hb dL_value_2 rfl (lv_at hl 0 rfl) ?_
  refine lv_iload_n hx hb dL_value_3 rfl (lv_at hl 1 rfl) ?_
  refine lv_iload_n hx hb dL_value_4 rfl (lv_at hl 2 rfl) ?_
  refine xt_i (wr := [(ao, .inl (cL, 1, .inr (.inl fo)))]) (tyr := [(cL, .long)]) (vx_runV (As := [.int k, .int v]) (rest := [.int 0, .ref ao]) ⟨hx, hb, hml, hown, hts⟩ (c_value l hl0 dC dI h aT aV aS aC aO aF aL aR aX cV k v s.heap.size ) (cwV 2 hts gL_value_X11_value rfl rfl rfl (by decide +kernel) ⟨Nat.le_of_ble_eq_true rfl, Nat.le_of_ble_eq_true rfl⟩) (ct_preV (ci := 11) (q0 := 0) hP hD hK hS hA hZ rfl rfl [0, 1] [0] rfl (by decide) rfl) rfl rfl hl.1 rfl (lv_room (Nat.le_of_ble_eq_true rfl)) dL_value_5 ⟨Nat.le_of_ble_eq_true rfl, Nat.le_of_ble_eq_true rfl⟩) hP hD hK hS hA [0, 1] [2] [1] rfl rfl (by decide) (by decide) rfl (fun E ce q9 H locs hbx hS hP hD hce hcv hcl => ?_) (fun r_1 u H locs w_2 hP hD hK hS => ?_)
  · skip
    rcases hbx with ⟨rfl, hp⟩
    refine vx_catch (own := RL) (name := eIA) (pc := 5) hown [] ⟨0, 10, 13, 19⟩ [] htb (fun z hz => absurd hz (List.not_mem_nil)) (by decide) (by decide) (hts (.classLink RL 19 "java/lang/IllegalArgumentException") (by decide +kernel)) (va_Nw.use rfl hZ.2.2.2.1.1) hce hcv hcl ?_
    refine W.eq (g2 := F0 m 13 ls [.ref q9]) rfl ?_
    have hK := hK.sub (tys' := [(cL, .long)]) [1] rfl
    refine lv_astore (lv' := [(4, .ref q9), (0, .ref h), (1, .int k), (2, .int v), (3, .ref ao)]) hx hb dL_value_13 hl (by decide) rfl (fun ls hl => ?_)
    refine lv_iconst (v := 1) hx hb dL_value_15 (by decide) ?_
    have hP9 := hP.sub (ws' := [(ao, .inl (cL, 1, .inr (.inl fo)))]) [0] rfl
    have hD9 := hD.sub (ws' := [(ao, .inl (cL, 1, .inr (.inl fo)))]) [0] (by decide) rfl
    have hK9 := hK.sub (tys' := [(cL, .long)]) [0] rfl
    refine W.widen (k := 1) (n := 6) (Nat.le_of_ble_eq_true rfl) (Nat.le_of_ble_eq_true rfl) ?_
    exact (W.iret (v := 1) hx hb hr (fun t ht hW => ⟨⟨1, fo, rfl, Or.inl ⟨rfl, hp⟩, by rw [ht]; exact hP9, va_K.moved hW.alike hK9, hD9⟩, hS.F ht⟩) hS.2.2 dL_value_16)
  · skip
    try dsimp only at w_2
    have hP : va_P (dC, dI) vwCl [(ao, .inl (cL, 1, .inr (.inl fo)))] H := hP
    have hD : va_D A [(ao, .inl (cL, 1, .inr (.inl fo)))] := hD
    have hK : va_K (dC, dI) vwCl [(cL, .long)] s := hK
    refine W.widen (k := 1) (n := 6) (Nat.le_of_ble_eq_true rfl) (Nat.le_of_ble_eq_true rfl) ?_
    obtain rfl : r_1 = 0 := w_2.1
    refine lv_i2l (v := (0 : Int32).toInt64) hx hb dL_value_8 rfl ?_
    refine va_last hx hb hK hP hD hS 0 0 rfl rfl (by unfold vp_in; decide) dL_value_9 (fun H locs hP hD hS => ?_)
    have hP : va_P (dC, dI) vwCl [(ao, .inl (cL, 1, .inr (.inl (vp_updL fo (0 : Int32).toNatClampNeg ((0 : Int32).toInt64)))))] H := hP
    have hD : va_D A [(ao, .inl (cL, 1, .inr (.inl (vp_updL fo (0 : Int32).toNatClampNeg ((0 : Int32).toInt64)))))] := hD
    refine lv_goto (tgt := 17) hx hb dL_value_10 (by decide) ?_
    refine lv_iconst (v := 0) hx hb dL_value_17 (by decide) ?_
    have hP9 := hP.sub (ws' := [(ao, .inl (cL, 1, .inr (.inl (vp_updL fo (0 : Int32).toNatClampNeg ((0 : Int32).toInt64)))))]) [0] rfl
    have hD9 := hD.sub (ws' := [(ao, .inl (cL, 1, .inr (.inl (vp_updL fo (0 : Int32).toNatClampNeg ((0 : Int32).toInt64)))))]) [0] (by decide) rfl
    have hK9 := hK.sub (tys' := [(cL, .long)]) [0] rfl
    refine W.widen (k := 1) (n := 6) (Nat.le_of_ble_eq_true rfl) (Nat.le_of_ble_eq_true rfl) ?_
    exact (W.iret (v := 0) hx hb hr (fun t ht hW => ⟨⟨0, (vp_updL fo (0 : Int32).toNatClampNeg ((0 : Int32).toInt64)), rfl, Or.inr ⟨rfl, w_2.2, lw_u0 _ _⟩, by rw [ht]; exact hP9, va_K.moved hW.alike hK9, hD9⟩, hS.F ht⟩) hS.2.2 dL_value_18)

set_option maxHeartbeats 4000000 in
set_option maxRecDepth 100000 in
/-- table of the law -/
theorem h_table (l : Launch) (hl0 : l.stackTraces = false) (dC : Nat → ClassId) (dI : Nat → Nat → Nat) (h : Nat) (aT : Nat) (aV : Nat) (aS : Nat) (aC : Nat) (aO : Nat) (aF : Nat) (aL : Nat) (aR : Nat) (aX : Nat) (sT : Nat) (sK : Nat) (sH : Nat) (cT : ClassId) (n : Int32) (ao : Nat) (cL : ClassId) (fo : Nat → Int64) (sz : Nat)  : Met l yL_table wsL_table ({ frames := 8, cells := 5, slots := 24, locals := 134 } : Room) (va_Pc [.ref h, .int n, .ref ao] (ct_P (dC, dI) [(h, .inr (11, [.ref aT, .ref aV, .ref aS, .ref aC, .ref aO, .ref aF, .ref aL, .ref aR, .ref aX, .int 0, .int 0, .int 0])), (aS, .inr (9, [.ref sT, .ref sK, .ref sH, .int 0, .int 0, .int 0, .int 0, .int 0])), (sT, .inl (cT, 12, .inr (.inr (.inr (.inr (fun _ => none)))))), (ao, .inl (cL, 1, .inr (.inl fo)))] [(cT, .object RX10), (cL, .long)] sz)) (va_Qi (fun (r : Int32) (u : (Nat → Int64)) => (r = 1 ∧ (n < 1 ∨ ¬ n ≤ 4)) ∨ (r = 0 ∧ ¬ (n < 1 ∨ ¬ n ≤ 4) ∧ u 0 = (0 : Int32).toInt64)) (fun (u : (Nat → Int64)) => ct_B (dC, dI) (va_A [(h, .inr (11, [.ref aT, .ref aV, .ref aS, .ref aC, .ref aO, .ref aF, .ref aL, .ref aR, .ref aX, .int 0, .int 0, .int 0])), (aS, .inr (9, [.ref sT, .ref sK, .ref sH, .int 0, .int 0, .int 0, .int 0, .int 0])), (sT, .inl (cT, 12, .inr (.inr (.inr (.inr (fun _ => none)))))), (ao, .inl (cL, 1, .inr (.inl fo)))] sz) [(ao, .inl (cL, 1, .inr (.inl u)))] [(cL, .long)]) (va_A [(h, .inr (11, [.ref aT, .ref aV, .ref aS, .ref aC, .ref aO, .ref aF, .ref aL, .ref aR, .ref aX, .int 0, .int 0, .int 0])), (aS, .inr (9, [.ref sT, .ref sK, .ref sH, .int 0, .int 0, .int 0, .int 0, .int 0])), (sT, .inl (cT, 12, .inr (.inr (.inr (.inr (fun _ => none)))))), (ao, .inl (cL, 1, .inr (.inl fo)))] sz)) 5 24 (va_A [(h, .inr (11, [.ref aT, .ref aV, .ref aS, .ref aC, .ref aO, .ref aF, .ref aL, .ref aR, .ref aX, .int 0, .int 0, .int 0])), (aS, .inr (9, [.ref sT, .ref sK, .ref sH, .int 0, .int 0, .int 0, .int 0, .int 0])), (sT, .inl (cT, 12, .inr (.inr (.inr (.inr (fun _ => none)))))), (ao, .inl (cL, 1, .inr (.inl fo)))] sz) := by
  refine va_MetW (cc := cL_table) (maxL := 4) (ret := (some .int)) (hh := [(0, 9, 12, 19), (0, 9, 15, 28)]) (by decide) rfl ?_
  intro p e s m args below meth c s₁ B hml hv
  obtain ⟨rfl, hsz, hP, hK, hD0, hZ⟩ := hv
  have hx := B.exec
  have hb := B.bytes
  have hr := B.returns
  have hts := atoms_spec (ws := wsL_table) B.pre
  have hown : s.vm.findClass RL = some m.cls := findClass_of_methodNamed B.named
  have hlocks := B.notSynchronized
  have htb : c.exceptionTable.toList = tableOf [(0, 9, 12, 19), (0, 9, 15, 28)] := vx_table (x := yL_table) B (hts _ List.mem_cons_self)
  subst hsz
  have hD := hD0.self (sz := s.heap.size)
  generalize hAe : va_A [(h, .inr (11, [.ref aT, .ref aV, .ref aS, .ref aC, .ref aO, .ref aF, .ref aL, .ref aR, .ref aX, .int 0, .int 0, .int 0])), (aS, .inr (9, [.ref sT, .ref sK, .ref sH, .int 0, .int 0, .int 0, .int 0, .int 0])), (sT, .inl (cT, 12, .inr (.inr (.inr (.inr (fun _ => none)))))), (ao, .inl (cL, 1, .inr (.inl fo)))] s.heap.size = A at hD hZ ⊢
  have hA : ∀ q : Nat, s.heap.size ≤ q → A q := fun q h => by rw [← hAe]; exact Or.inr h
  have hS : va_S A s.heap s.heap [] := va_S.rf
  have hP : va_P (dC, dI) vwCl [(h, .inr (11, [.ref aT, .ref aV, .ref aS, .ref aC, .ref aO, .ref aF, .ref aL, .ref aR, .ref aX, .int 0, .int 0, .int 0])), (aS, .inr (9, [.ref sT, .ref sK, .ref sH, .int 0, .int 0, .int 0, .int 0, .int 0])), (sT, .inl (cT, 12, .inr (.inr (.inr (.inr (fun _ => none)))))), (ao, .inl (cL, 1, .inr (.inl fo)))] s.heap := hP
  have hK : va_K (dC, dI) vwCl [(cT, .object RX10), (cL, .long)] s := hK
  have hD : va_D A [(h, .inr (11, [.ref aT, .ref aV, .ref aS, .ref aC, .ref aO, .ref aF, .ref aL, .ref aR, .ref aX, .int 0, .int 0, .int 0])), (aS, .inr (9, [.ref sT, .ref sK, .ref sH, .int 0, .int 0, .int 0, .int 0, .int 0])), (sT, .inl (cT, 12, .inr (.inr (.inr (.inr (fun _ => none)))))), (ao, .inl (cL, 1, .inr (.inl fo)))] := hD
  have hl := lv_entry ([.ref h, .int n, .ref ao]) (n := 4) (Nat.le_of_ble_eq_true rfl)
  rw [lg_entry_eq]
  generalize (lg_sl ([.ref h, .int n, .ref ao]) ++ List.replicate (4 - (lg_sl ([.ref h, .int n, .ref ao])).length) Slot.unset).toArray = ls at hl ⊢
  have hl : lv_has ls 4 [(0, .ref h), (1, .int n), (2, .ref ao)] := hl
  refine lv_aload_n hx hb dL_table_0 rfl (lv_at hl 2 rfl) ?_
  refine lv_iconst (v := 0) hx hb dL_table_1 (by decide) ?_
  refine lv_aload_n hx hb dL_table_2 rfl (lv_at hl 0 rfl) ?_
  refine lv_iload_n hx hb dL_table_3 rfl (lv_at hl 1 rfl) ?_
  refine xt_i (wr := [(ao, .inl (cL, 1, .inr (.inl fo)))]) (tyr := [(cL, .long)]) (vx_runV (As := [.int n]) (rest := [.int 0, .ref ao]) ⟨hx, hb, hml, hown, hts⟩ (c_table l hl0 dC dI h aT aV aS aC aO aF aL aR aX sT sK sH cT n s.heap.size ) (cwV 1 hts gL_table_X11_table rfl rfl rfl (by decide +kernel) ⟨Nat.le_of_ble_eq_true rfl, Nat.le_of_ble_eq_true rfl⟩) (ct_preV (ci := 11) (q0 := 0) hP hD hK hS hA hZ rfl rfl [0, 1, 2] [0] rfl (by decide) rfl) rfl rfl hl.1 rfl (lv_room (Nat.le_of_ble_eq_true rfl)) dL_table_4 ⟨Nat.le_of_ble_eq_true rfl, Nat.le_of_ble_eq_true rfl⟩) hP hD hK hS hA [0, 1, 2] [3] [1] rfl rfl (by decide) (by decide) rfl (fun E ce q9 H locs hbx hS hP hD hce hcv hcl => ?_) (fun r_1 u H locs w_2 hP hD hK hS => ?_)
  · skip
    rcases hbx with ⟨rfl, hp⟩
    refine vx_catch (own := RL) (name := eIA) (pc := 4) hown [] ⟨0, 9, 12, 19⟩ [⟨0, 9, 15, 28⟩] htb (fun z hz => absurd hz (List.not_mem_nil)) (by decide) (by decide) (hts (.classLink RL 19 "java/lang/IllegalArgumentException") (by decide +kernel)) (va_Nw.use rfl hZ.2.2.2.1.1) hce hcv hcl ?_
    refine W.eq (g2 := F0 m 12 ls [.ref q9]) rfl ?_
    have hK := hK.sub (tys' := [(cL, .long)]) [1] rfl
    refine lv_astore_n (lv' := [(3, .ref q9), (0, .ref h), (1, .int n), (2, .ref ao)]) hx hb dL_table_12 rfl hl (by decide) rfl (fun ls hl => ?_)
    refine lv_iconst (v := 1) hx hb dL_table_13 (by decide) ?_
    have hP9 := hP.sub (ws' := [(ao, .inl (cL, 1, .inr (.inl fo)))]) [0] rfl
    have hD9 := hD.sub (ws' := [(ao, .inl (cL, 1, .inr (.inl fo)))]) [0] (by decide) rfl
    have hK9 := hK.sub (tys' := [(cL, .long)]) [0] rfl
    refine W.widen (k := 5) (n := 24) (Nat.le_of_ble_eq_true rfl) (Nat.le_of_ble_eq_true rfl) ?_
    exact (W.iret (v := 1) hx hb hr (fun t ht hW => ⟨⟨1, fo, rfl, Or.inl ⟨rfl, hp⟩, by rw [ht]; exact hP9, va_K.moved hW.alike hK9, hD9⟩, hS.F ht⟩) hS.2.2 dL_table_14)
  · skip
    try dsimp only at w_2
    have hP : va_P (dC, dI) vwCl [(ao, .inl (cL, 1, .inr (.inl fo)))] H := hP
    have hD : va_D A [(ao, .inl (cL, 1, .inr (.inl fo)))] := hD
    have hK : va_K (dC, dI) vwCl [(cL, .long)] s := hK
    refine W.widen (k := 5) (n := 24) (Nat.le_of_ble_eq_true rfl) (Nat.le_of_ble_eq_true rfl) ?_
    obtain rfl : r_1 = 0 := w_2.1
    refine lv_i2l (v := (0 : Int32).toInt64) hx hb dL_table_7 rfl ?_
    refine va_last hx hb hK hP hD hS 0 0 rfl rfl (by unfold vp_in; decide) dL_table_8 (fun H locs hP hD hS => ?_)
    have hP : va_P (dC, dI) vwCl [(ao, .inl (cL, 1, .inr (.inl (vp_updL fo (0 : Int32).toNatClampNeg ((0 : Int32).toInt64)))))] H := hP
    have hD : va_D A [(ao, .inl (cL, 1, .inr (.inl (vp_updL fo (0 : Int32).toNatClampNeg ((0 : Int32).toInt64)))))] := hD
    refine lv_goto (tgt := 18) hx hb dL_table_9 (by decide) ?_
    refine lv_iconst (v := 0) hx hb dL_table_18 (by decide) ?_
    have hP9 := hP.sub (ws' := [(ao, .inl (cL, 1, .inr (.inl (vp_updL fo (0 : Int32).toNatClampNeg ((0 : Int32).toInt64)))))]) [0] rfl
    have hD9 := hD.sub (ws' := [(ao, .inl (cL, 1, .inr (.inl (vp_updL fo (0 : Int32).toNatClampNeg ((0 : Int32).toInt64)))))]) [0] (by decide) rfl
    have hK9 := hK.sub (tys' := [(cL, .long)]) [0] rfl
    refine W.widen (k := 5) (n := 24) (Nat.le_of_ble_eq_true rfl) (Nat.le_of_ble_eq_true rfl) ?_
    exact (W.iret (v := 0) hx hb hr (fun t ht hW => ⟨⟨0, (vp_updL fo (0 : Int32).toNatClampNeg ((0 : Int32).toInt64)), rfl, Or.inr ⟨rfl, w_2.2, lw_u0 _ _⟩, by rw [ht]; exact hP9, va_K.moved hW.alike hK9, hD9⟩, hS.F ht⟩) hS.2.2 dL_table_19)

set_option maxHeartbeats 4000000 in
set_option maxRecDepth 100000 in
/-- index of the law -/
theorem h_index (l : Launch) (hl0 : l.stackTraces = false) (dC : Nat → ClassId) (dI : Nat → Nat → Nat) (h : Nat) (aT : Nat) (aV : Nat) (aS : Nat) (aC : Nat) (aO : Nat) (aF : Nat) (aL : Nat) (aR : Nat) (aX : Nat) (sT : Nat) (sK : Nat) (sH : Nat) (t : Int32) (k : Int32) (ao : Nat) (cL : ClassId) (fo : Nat → Int64) (sz : Nat)  : Met l yL_index wsL_index ({ frames := 8, cells := 1, slots := 6, locals := 135 } : Room) (va_Pc [.ref h, .int t, .int k, .ref ao] (ct_P (dC, dI) [(h, .inr (11, [.ref aT, .ref aV, .ref aS, .ref aC, .ref aO, .ref aF, .ref aL, .ref aR, .ref aX, .int 0, .int 0, .int 0])), (aS, .inr (9, [.ref sT, .ref sK, .ref sH, .int 0, .int 0, .int 0, .int 0, .int 0])), (ao, .inl (cL, 1, .inr (.inl fo)))] [(cL, .long)] sz)) (va_Qi (fun (r : Int32) (u : (Nat → Int64)) => r = 1) (fun (u : (Nat → Int64)) => ct_B (dC, dI) (va_A [(h, .inr (11, [.ref aT, .ref aV, .ref aS, .ref aC, .ref aO, .ref aF, .ref aL, .ref aR, .ref aX, .int 0, .int 0, .int 0])), (aS, .inr (9, [.ref sT, .ref sK, .ref sH, .int 0, .int 0, .int 0, .int 0, .int 0])), (ao, .inl (cL, 1, .inr (.inl fo)))] sz) [(ao, .inl (cL, 1, .inr (.inl u)))] [(cL, .long)]) (va_A [(h, .inr (11, [.ref aT, .ref aV, .ref aS, .ref aC, .ref aO, .ref aF, .ref aL, .ref aR, .ref aX, .int 0, .int 0, .int 0])), (aS, .inr (9, [.ref sT, .ref sK, .ref sH, .int 0, .int 0, .int 0, .int 0, .int 0])), (ao, .inl (cL, 1, .inr (.inl fo)))] sz)) 1 6 (va_A [(h, .inr (11, [.ref aT, .ref aV, .ref aS, .ref aC, .ref aO, .ref aF, .ref aL, .ref aR, .ref aX, .int 0, .int 0, .int 0])), (aS, .inr (9, [.ref sT, .ref sK, .ref sH, .int 0, .int 0, .int 0, .int 0, .int 0])), (ao, .inl (cL, 1, .inr (.inl fo)))] sz) := by
  refine va_MetW (cc := cL_index) (maxL := 5) (ret := (some .int)) (hh := [(0, 10, 13, 33), (0, 10, 17, 19)]) (by decide) rfl ?_
  intro p e s m args below meth c s₁ B hml hv
  obtain ⟨rfl, hsz, hP, hK, hD0, hZ⟩ := hv
  have hx := B.exec
  have hb := B.bytes
  have hr := B.returns
  have hts := atoms_spec (ws := wsL_index) B.pre
  have hown : s.vm.findClass RL = some m.cls := findClass_of_methodNamed B.named
  have hlocks := B.notSynchronized
  have htb : c.exceptionTable.toList = tableOf [(0, 10, 13, 33), (0, 10, 17, 19)] := vx_table (x := yL_index) B (hts _ List.mem_cons_self)
  subst hsz
  have hD := hD0.self (sz := s.heap.size)
  generalize hAe : va_A [(h, .inr (11, [.ref aT, .ref aV, .ref aS, .ref aC, .ref aO, .ref aF, .ref aL, .ref aR, .ref aX, .int 0, .int 0, .int 0])), (aS, .inr (9, [.ref sT, .ref sK, .ref sH, .int 0, .int 0, .int 0, .int 0, .int 0])), (ao, .inl (cL, 1, .inr (.inl fo)))] s.heap.size = A at hD hZ ⊢
  have hA : ∀ q : Nat, s.heap.size ≤ q → A q := fun q h => by rw [← hAe]; exact Or.inr h
  have hS : va_S A s.heap s.heap [] := va_S.rf
  have hP : va_P (dC, dI) vwCl [(h, .inr (11, [.ref aT, .ref aV, .ref aS, .ref aC, .ref aO, .ref aF, .ref aL, .ref aR, .ref aX, .int 0, .int 0, .int 0])), (aS, .inr (9, [.ref sT, .ref sK, .ref sH, .int 0, .int 0, .int 0, .int 0, .int 0])), (ao, .inl (cL, 1, .inr (.inl fo)))] s.heap := hP
  have hK : va_K (dC, dI) vwCl [(cL, .long)] s := hK
  have hD : va_D A [(h, .inr (11, [.ref aT, .ref aV, .ref aS, .ref aC, .ref aO, .ref aF, .ref aL, .ref aR, .ref aX, .int 0, .int 0, .int 0])), (aS, .inr (9, [.ref sT, .ref sK, .ref sH, .int 0, .int 0, .int 0, .int 0, .int 0])), (ao, .inl (cL, 1, .inr (.inl fo)))] := hD
  have hl := lv_entry ([.ref h, .int t, .int k, .ref ao]) (n := 5) (Nat.le_of_ble_eq_true rfl)
  rw [lg_entry_eq]
  generalize (lg_sl ([.ref h, .int t, .int k, .ref ao]) ++ List.replicate (5 - (lg_sl ([.ref h, .int t, .int k, .ref ao])).length) Slot.unset).toArray = ls at hl ⊢
  have hl : lv_has ls 5 [(0, .ref h), (1, .int t), (2, .int k), (3, .ref ao)] := hl
  refine lv_aload_n hx hb dL_index_0 rfl (lv_at hl 3 rfl) ?_
  refine lv_iconst (v := 0) hx hb dL_index_1 (by decide) ?_
  refine lv_aload_n hx hb dL_index_2 rfl (lv_at hl 0 rfl) ?_
  refine lv_iload_n hx hb dL_index_3 rfl (lv_at hl 1 rfl) ?_
  refine lv_iload_n hx hb dL_index_4 rfl (lv_at hl 2 rfl) ?_
  refine xt_i (wr := [(ao, .inl (cL, 1, .inr (.inl fo)))]) (tyr := [(cL, .long)]) (vx_runV (As := [.int t, .int k]) (rest := [.int 0, .ref ao]) ⟨hx, hb, hml, hown, hts⟩ (c_index l hl0 dC dI h aT aV aS aC aO aF aL aR aX sT sK sH t k s.heap.size ) (cwV 2 hts gL_index_X11_index rfl rfl rfl (by decide +kernel) ⟨Nat.le_of_ble_eq_true rfl, Nat.le_of_ble_eq_true rfl⟩) (ct_preV (ci := 11) (q0 := 0) hP hD hK hS hA hZ rfl rfl [0, 1] [] rfl (by decide) rfl) rfl rfl hl.1 rfl (lv_room (Nat.le_of_ble_eq_true rfl)) dL_index_5 ⟨Nat.le_of_ble_eq_true rfl, Nat.le_of_ble_eq_true rfl⟩) hP hD hK hS hA [0, 1] [2] [0] rfl rfl (by decide) (by decide) rfl (fun E ce q9 H locs hbx hS hP hD hce hcv hcl => ?_) (fun r_1 u H locs w_2 hP hD hK hS => ?_)
  · skip
    obtain rfl := hbx
    refine vx_catch (own := RL) (name := eNE) (pc := 5) hown [] ⟨0, 10, 13, 33⟩ [⟨0, 10, 17, 19⟩] htb (fun z hz => absurd hz (List.not_mem_nil)) (by decide) (by decide) (hts (.classLink RL 33 "java/util/NoSuchElementException") (by decide +kernel)) (va_Nw.use rfl hZ.2.2.2.1.2.1) hce hcv hcl ?_
    refine W.eq (g2 := F0 m 13 ls [.ref q9]) rfl ?_
    have hK := hK.sub (tys' := [(cL, .long)]) [0] rfl
    refine lv_astore (lv' := [(4, .ref q9), (0, .ref h), (1, .int t), (2, .int k), (3, .ref ao)]) hx hb dL_index_13 hl (by decide) rfl (fun ls hl => ?_)
    refine lv_iconst (v := 1) hx hb dL_index_15 (by decide) ?_
    have hP9 := hP.sub (ws' := [(ao, .inl (cL, 1, .inr (.inl fo)))]) [0] rfl
    have hD9 := hD.sub (ws' := [(ao, .inl (cL, 1, .inr (.inl fo)))]) [0] (by decide) rfl
    have hK9 := hK.sub (tys' := [(cL, .long)]) [0] rfl
    refine W.widen (k := 1) (n := 6) (Nat.le_of_ble_eq_true rfl) (Nat.le_of_ble_eq_true rfl) ?_
    exact (W.iret (v := 1) hx hb hr (fun t ht hW => ⟨⟨1, fo, rfl, rfl, by rw [ht]; exact hP9, va_K.moved hW.alike hK9, hD9⟩, hS.F ht⟩) hS.2.2 dL_index_16)
  · skip
    exact w_2.elim

set_option maxHeartbeats 4000000 in
set_option maxRecDepth 100000 in
/-- key of the law -/
theorem h_key (l : Launch) (hl0 : l.stackTraces = false) (dC : Nat → ClassId) (dI : Nat → Nat → Nat) (h : Nat) (aT : Nat) (aV : Nat) (aS : Nat) (aC : Nat) (aO : Nat) (aF : Nat) (aL : Nat) (aR : Nat) (aX : Nat) (sT : Nat) (sK : Nat) (sH : Nat) (t : Int32) (k : Int32) (ao : Nat) (cL : ClassId) (fo : Nat → Int64) (sz : Nat)  : Met l yL_key wsL_key ({ frames := 8, cells := 1, slots := 6, locals := 135 } : Room) (va_Pc [.ref h, .int t, .int k, .ref ao] (ct_P (dC, dI) [(h, .inr (11, [.ref aT, .ref aV, .ref aS, .ref aC, .ref aO, .ref aF, .ref aL, .ref aR, .ref aX, .int 0, .int 0, .int 0])), (aS, .inr (9, [.ref sT, .ref sK, .ref sH, .int 0, .int 0, .int 0, .int 0, .int 0])), (ao, .inl (cL, 1, .inr (.inl fo)))] [(cL, .long)] sz)) (va_Qi (fun (r : Int32) (u : (Nat → Int64)) => r = 1) (fun (u : (Nat → Int64)) => ct_B (dC, dI) (va_A [(h, .inr (11, [.ref aT, .ref aV, .ref aS, .ref aC, .ref aO, .ref aF, .ref aL, .ref aR, .ref aX, .int 0, .int 0, .int 0])), (aS, .inr (9, [.ref sT, .ref sK, .ref sH, .int 0, .int 0, .int 0, .int 0, .int 0])), (ao, .inl (cL, 1, .inr (.inl fo)))] sz) [(ao, .inl (cL, 1, .inr (.inl u)))] [(cL, .long)]) (va_A [(h, .inr (11, [.ref aT, .ref aV, .ref aS, .ref aC, .ref aO, .ref aF, .ref aL, .ref aR, .ref aX, .int 0, .int 0, .int 0])), (aS, .inr (9, [.ref sT, .ref sK, .ref sH, .int 0, .int 0, .int 0, .int 0, .int 0])), (ao, .inl (cL, 1, .inr (.inl fo)))] sz)) 1 6 (va_A [(h, .inr (11, [.ref aT, .ref aV, .ref aS, .ref aC, .ref aO, .ref aF, .ref aL, .ref aR, .ref aX, .int 0, .int 0, .int 0])), (aS, .inr (9, [.ref sT, .ref sK, .ref sH, .int 0, .int 0, .int 0, .int 0, .int 0])), (ao, .inl (cL, 1, .inr (.inl fo)))] sz) := by
  refine va_MetW (cc := cL_key) (maxL := 5) (ret := (some .int)) (hh := [(0, 10, 13, 33), (0, 10, 17, 19), (0, 10, 21, 28), (0, 10, 25, 13)]) (by decide) rfl ?_
  intro p e s m args below meth c s₁ B hml hv
  obtain ⟨rfl, hsz, hP, hK, hD0, hZ⟩ := hv
  have hx := B.exec
  have hb := B.bytes
  have hr := B.returns
  have hts := atoms_spec (ws := wsL_key) B.pre
  have hown : s.vm.findClass RL = some m.cls := findClass_of_methodNamed B.named
  have hlocks := B.notSynchronized
  have htb : c.exceptionTable.toList = tableOf [(0, 10, 13, 33), (0, 10, 17, 19), (0, 10, 21, 28), (0, 10, 25, 13)] := vx_table (x := yL_key) B (hts _ List.mem_cons_self)
  subst hsz
  have hD := hD0.self (sz := s.heap.size)
  generalize hAe : va_A [(h, .inr (11, [.ref aT, .ref aV, .ref aS, .ref aC, .ref aO, .ref aF, .ref aL, .ref aR, .ref aX, .int 0, .int 0, .int 0])), (aS, .inr (9, [.ref sT, .ref sK, .ref sH, .int 0, .int 0, .int 0, .int 0, .int 0])), (ao, .inl (cL, 1, .inr (.inl fo)))] s.heap.size = A at hD hZ ⊢
  have hA : ∀ q : Nat, s.heap.size ≤ q → A q := fun q h => by rw [← hAe]; exact Or.inr h
  have hS : va_S A s.heap s.heap [] := va_S.rf
  have hP : va_P (dC, dI) vwCl [(h, .inr (11, [.ref aT, .ref aV, .ref aS, .ref aC, .ref aO, .ref aF, .ref aL, .ref aR, .ref aX, .int 0, .int 0, .int 0])), (aS, .inr (9, [.ref sT, .ref sK, .ref sH, .int 0, .int 0, .int 0, .int 0, .int 0])), (ao, .inl (cL, 1, .inr (.inl fo)))] s.heap := hP
  have hK : va_K (dC, dI) vwCl [(cL, .long)] s := hK
  have hD : va_D A [(h, .inr (11, [.ref aT, .ref aV, .ref aS, .ref aC, .ref aO, .ref aF, .ref aL, .ref aR, .ref aX, .int 0, .int 0, .int 0])), (aS, .inr (9, [.ref sT, .ref sK, .ref sH, .int 0, .int 0, .int 0, .int 0, .int 0])), (ao, .inl (cL, 1, .inr (.inl fo)))] := hD
  have hl := lv_entry ([.ref h, .int t, .int k, .ref ao]) (n := 5) (Nat.le_of_ble_eq_true rfl)
  rw [lg_entry_eq]
  generalize (lg_sl ([.ref h, .int t, .int k, .ref ao]) ++ List.replicate (5 - (lg_sl ([.ref h, .int t, .int k, .ref ao])).length) Slot.unset).toArray = ls at hl ⊢
  have hl : lv_has ls 5 [(0, .ref h), (1, .int t), (2, .int k), (3, .ref ao)] := hl
  refine lv_aload_n hx hb dL_key_0 rfl (lv_at hl 3 rfl) ?_
  refine lv_iconst (v := 0) hx hb dL_key_1 (by decide) ?_
  refine lv_aload_n hx hb dL_key_2 rfl (lv_at hl 0 rfl) ?_
  refine lv_iload_n hx hb dL_key_3 rfl (lv_at hl 1 rfl) ?_
  refine lv_iload_n hx hb dL_key_4 rfl (lv_at hl 2 rfl) ?_
  refine xt_i (wr := [(ao, .inl (cL, 1, .inr (.inl fo)))]) (tyr := [(cL, .long)]) (vx_runV (As := [.int t, .int k]) (rest := [.int 0, .ref ao]) ⟨hx, hb, hml, hown, hts⟩ (c_key l hl0 dC dI h aT aV aS aC aO aF aL aR aX sT sK sH t k s.heap.size ) (cwV 2 hts gL_key_X11_key rfl rfl rfl (by decide +kernel) ⟨Nat.le_of_ble_eq_true rfl, Nat.le_of_ble_eq_true rfl⟩) (ct_preV (ci := 11) (q0 := 0) hP hD hK hS hA hZ rfl rfl [0, 1] [] rfl (by decide) rfl) rfl rfl hl.1 rfl (lv_room (Nat.le_of_ble_eq_true rfl)) dL_key_5 ⟨Nat.le_of_ble_eq_true rfl, Nat.le_of_ble_eq_true rfl⟩) hP hD hK hS hA [0, 1] [2] [0] rfl rfl (by decide) (by decide) rfl (fun E ce q9 H locs hbx hS hP hD hce hcv hcl => ?_) (fun r_1 u H locs w_2 hP hD hK hS => ?_)
  · skip
    obtain rfl := hbx
    refine vx_catch (own := RL) (name := eNE) (pc := 5) hown [] ⟨0, 10, 13, 33⟩ [⟨0, 10, 17, 19⟩, ⟨0, 10, 21, 28⟩, ⟨0, 10, 25, 13⟩] htb (fun z hz => absurd hz (List.not_mem_nil)) (by decide) (by decide) (hts (.classLink RL 33 "java/util/NoSuchElementException") (by decide +kernel)) (va_Nw.use rfl hZ.2.2.2.1.2.1) hce hcv hcl ?_
    refine W.eq (g2 := F0 m 13 ls [.ref q9]) rfl ?_
    have hK := hK.sub (tys' := [(cL, .long)]) [0] rfl
    refine lv_astore (lv' := [(4, .ref q9), (0, .ref h), (1, .int t), (2, .int k), (3, .ref ao)]) hx hb dL_key_13 hl (by decide) rfl (fun ls hl => ?_)
    refine lv_iconst (v := 1) hx hb dL_key_15 (by decide) ?_
    have hP9 := hP.sub (ws' := [(ao, .inl (cL, 1, .inr (.inl fo)))]) [0] rfl
    have hD9 := hD.sub (ws' := [(ao, .inl (cL, 1, .inr (.inl fo)))]) [0] (by decide) rfl
    have hK9 := hK.sub (tys' := [(cL, .long)]) [0] rfl
    refine W.widen (k := 1) (n := 6) (Nat.le_of_ble_eq_true rfl) (Nat.le_of_ble_eq_true rfl) ?_
    exact (W.iret (v := 1) hx hb hr (fun t ht hW => ⟨⟨1, fo, rfl, rfl, by rw [ht]; exact hP9, va_K.moved hW.alike hK9, hD9⟩, hS.F ht⟩) hS.2.2 dL_key_16)
  · skip
    exact w_2.elim

set_option maxHeartbeats 4000000 in
set_option maxRecDepth 100000 in
/-- add of the law -/
theorem h_add (l : Launch) (hl0 : l.stackTraces = false) (dC : Nat → ClassId) (dI : Nat → Nat → Nat) (h : Nat) (aT : Nat) (aV : Nat) (aS : Nat) (aC : Nat) (aO : Nat) (aF : Nat) (aL : Nat) (aR : Nat) (aX : Nat) (sT : Nat) (sK : Nat) (sH : Nat) (t : Int32) (ah : Int32) (ao : Nat) (cL : ClassId) (fo : Nat → Int64) (sz : Nat)  : Met l yL_add wsL_add ({ frames := 8, cells := 2, slots := 12, locals := 136 } : Room) (va_Pc [.ref h, .int t, .int ah, .ref ao] (ct_P (dC, dI) [(h, .inr (11, [.ref aT, .ref aV, .ref aS, .ref aC, .ref aO, .ref aF, .ref aL, .ref aR, .ref aX, .int 0, .int 0, .int 0])), (aS, .inr (9, [.ref sT, .ref sK, .ref sH, .int 0, .int 0, .int 0, .int 0, .int 0])), (ao, .inl (cL, 1, .inr (.inl fo)))] [(cL, .long)] sz)) (va_Qi (fun (r : Int32) (u : (Nat → Int64)) => (r = 1 ∧ (ah < 0 ∨ ¬ ah ≤ 1)) ∨ (r = 2 ∧ ¬ (ah < 0 ∨ ¬ ah ≤ 1))) (fun (u : (Nat → Int64)) => ct_B (dC, dI) (va_A [(h, .inr (11, [.ref aT, .ref aV, .ref aS, .ref aC, .ref aO, .ref aF, .ref aL, .ref aR, .ref aX, .int 0, .int 0, .int 0])), (aS, .inr (9, [.ref sT, .ref sK, .ref sH, .int 0, .int 0, .int 0, .int 0, .int 0])), (ao, .inl (cL, 1, .inr (.inl fo)))] sz) [(ao, .inl (cL, 1, .inr (.inl u)))] [(cL, .long)]) (va_A [(h, .inr (11, [.ref aT, .ref aV, .ref aS, .ref aC, .ref aO, .ref aF, .ref aL, .ref aR, .ref aX, .int 0, .int 0, .int 0])), (aS, .inr (9, [.ref sT, .ref sK, .ref sH, .int 0, .int 0, .int 0, .int 0, .int 0])), (ao, .inl (cL, 1, .inr (.inl fo)))] sz)) 2 12 (va_A [(h, .inr (11, [.ref aT, .ref aV, .ref aS, .ref aC, .ref aO, .ref aF, .ref aL, .ref aR, .ref aX, .int 0, .int 0, .int 0])), (aS, .inr (9, [.ref sT, .ref sK, .ref sH, .int 0, .int 0, .int 0, .int 0, .int 0])), (ao, .inl (cL, 1, .inr (.inl fo)))] sz) := by
  refine va_MetW (cc := cL_add) (maxL := 5) (ret := (some .int)) (hh := [(0, 10, 13, 19), (0, 10, 17, 33), (0, 10, 21, 41), (0, 10, 25, 28)]) (by decide) rfl ?_
  intro p e s m args below meth c s₁ B hml hv
  obtain ⟨rfl, hsz, hP, hK, hD0, hZ⟩ := hv
  have hx := B.exec
  have hb := B.bytes
  have hr := B.returns
  have hts := atoms_spec (ws := wsL_add) B.pre
  have hown : s.vm.findClass RL = some m.cls := findClass_of_methodNamed B.named
  have hlocks := B.notSynchronized
  have htb : c.exceptionTable.toList = tableOf [(0, 10, 13, 19), (0, 10, 17, 33), (0, 10, 21, 41), (0, 10, 25, 28)] := vx_table (x := yL_add) B (hts _ List.mem_cons_self)
  subst hsz
  have hD := hD0.self (sz := s.heap.size)
  generalize hAe : va_A [(h, .inr (11, [.ref aT, .ref aV, .ref aS, .ref aC, .ref aO, .ref aF, .ref aL, .ref aR, .ref aX, .int 0, .int 0, .int 0])), (aS, .inr (9, [.ref sT, .ref sK, .ref sH, .int 0, .int 0, .int 0, .int 0, .int 0])), (ao, .inl (cL, 1, .inr (.inl fo)))] s.heap.size = A at hD hZ ⊢
  have hA : ∀ q : Nat, s.heap.size ≤ q → A q := fun q h => by rw [← hAe]; exact Or.inr h
  have hS : va_S A s.heap s.heap [] := va_S.rf
  have hP : va_P (dC, dI) vwCl [(h, .inr (11, [.ref aT, .ref aV, .ref aS, .ref aC, .ref aO, .ref aF, .ref aL, .ref aR, .ref aX, .int 0, .int 0, .int 0])), (aS, .inr (9, [.ref sT, .ref sK, .ref sH, .int 0, .int 0, .int 0, .int 0, .int 0])), (ao, .inl (cL, 1, .inr (.inl fo)))] s.heap := hP
  have hK : va_K (dC, dI) vwCl [(cL, .long)] s := hK
  have hD : va_D A [(h, .inr (11, [.ref aT, .ref aV, .ref aS, .ref aC, .ref aO, .ref aF, .ref aL, .ref aR, .ref aX, .int 0, .int 0, .int 0])), (aS, .inr (9, [.ref sT, .ref sK, .ref sH, .int 0, .int 0, .int 0, .int 0, .int 0])), (ao, .inl (cL, 1, .inr (.inl fo)))] := hD
  have hl := lv_entry ([.ref h, .int t, .int ah, .ref ao]) (n := 5) (Nat.le_of_ble_eq_true rfl)
  rw [lg_entry_eq]
  generalize (lg_sl ([.ref h, .int t, .int ah, .ref ao]) ++ List.replicate (5 - (lg_sl ([.ref h, .int t, .int ah, .ref ao])).length) Slot.unset).toArray = ls at hl ⊢
  have hl : lv_has ls 5 [(0, .ref h), (1, .int t), (2, .int ah), (3, .ref ao)] := hl
  refine lv_aload_n hx hb dL_add_0 rfl (lv_at hl 3 rfl) ?_
  refine lv_iconst (v := 0) hx hb dL_add_1 (by decide) ?_
  refine lv_aload_n hx hb dL_add_2 rfl (lv_at hl 0 rfl) ?_
  refine lv_iload_n hx hb dL_add_3 rfl (lv_at hl 1 rfl) ?_
  refine lv_iload_n hx hb dL_add_4 rfl (lv_at hl 2 rfl) ?_
  refine xt_i (wr := [(ao, .inl (cL, 1, .inr (.inl fo)))]) (tyr := [(cL, .long)]) (vx_runV (As := [.int t, .int ah]) (rest := [.int 0, .ref ao]) ⟨hx, hb, hml, hown, hts⟩ (c_add l hl0 dC dI h aT aV aS aC aO aF aL aR aX sT sK sH t ah s.heap.size ) (cwV 2 hts gL_add_X11_add rfl rfl rfl (by decide +kernel) ⟨Nat.le_of_ble_eq_true rfl, Nat.le_of_ble_eq_true rfl⟩) (ct_preV (ci := 11) (q0 := 0) hP hD hK hS hA hZ rfl rfl [0, 1] [] rfl (by decide) rfl) rfl rfl hl.1 rfl (lv_room (Nat.le_of_ble_eq_true rfl)) dL_add_5 ⟨Nat.le_of_ble_eq_true rfl, Nat.le_of_ble_eq_true rfl⟩) hP hD hK hS hA [0, 1] [2] [0] rfl rfl (by decide) (by decide) rfl (fun E ce q9 H locs hbx hS hP hD hce hcv hcl => ?_) (fun r_1 u H locs w_2 hP hD hK hS => ?_)
  · skip
    rcases hbx with ⟨rfl, hp⟩ | ⟨rfl, hp⟩
    · skip
      refine vx_catch (own := RL) (name := eIA) (pc := 5) hown [] ⟨0, 10, 13, 19⟩ [⟨0, 10, 17, 33⟩, ⟨0, 10, 21, 41⟩, ⟨0, 10, 25, 28⟩] htb (fun z hz => absurd hz (List.not_mem_nil)) (by decide) (by decide) (hts (.classLink RL 19 "java/lang/IllegalArgumentException") (by decide +kernel)) (va_Nw.use rfl hZ.2.2.2.1.1) hce hcv hcl ?_
      refine W.eq (g2 := F0 m 13 ls [.ref q9]) rfl ?_
      have hK := hK.sub (tys' := [(cL, .long)]) [0] rfl
      refine lv_astore (lv' := [(4, .ref q9), (0, .ref h), (1, .int t), (2, .int ah), (3, .ref ao)]) hx hb dL_add_13 hl (by decide) rfl (fun ls hl => ?_)
      refine lv_iconst (v := 1) hx hb dL_add_15 (by decide) ?_
      have hP9 := hP.sub (ws' := [(ao, .inl (cL, 1, .inr (.inl fo)))]) [0] rfl
      have hD9 := hD.sub (ws' := [(ao, .inl (cL, 1, .inr (.inl fo)))]) [0] (by decide) rfl
      have hK9 := hK.sub (tys' := [(cL, .long)]) [0] rfl
      refine W.widen (k := 2) (n := 12) (Nat.le_of_ble_eq_true rfl) (Nat.le_of_ble_eq_true rfl) ?_
      exact (W.iret (v := 1) hx hb hr (fun t ht hW => ⟨⟨1, fo, rfl, Or.inl ⟨rfl, hp⟩, by rw [ht]; exact hP9, va_K.moved hW.alike hK9, hD9⟩, hS.F ht⟩) hS.2.2 dL_add_16)
    · skip
      refine vx_catch (own := RL) (name := eNE) (pc := 5) hown [⟨0, 10, 13, 19⟩] ⟨0, 10, 17, 33⟩ [⟨0, 10, 21, 41⟩, ⟨0, 10, 25, 28⟩] htb (fun z hz => by rw [List.mem_singleton.mp hz]; exact Or.inr ⟨(by decide), eIA, hts (.classLink RL 19 "java/lang/IllegalArgumentException") (by decide +kernel), hZ.2.2.2.2.2.1.1⟩) (by decide) (by decide) (hts (.classLink RL 33 "java/util/NoSuchElementException") (by decide +kernel)) (va_Nw.use rfl hZ.2.2.2.1.2.1) hce hcv hcl ?_
      refine W.eq (g2 := F0 m 17 ls [.ref q9]) rfl ?_
      have hK := hK.sub (tys' := [(cL, .long)]) [0] rfl
      refine lv_astore (lv' := [(4, .ref q9), (0, .ref h), (1, .int t), (2, .int ah), (3, .ref ao)]) hx hb dL_add_17 hl (by decide) rfl (fun ls hl => ?_)
      refine lv_iconst (v := 2) hx hb dL_add_19 (by decide) ?_
      have hP9 := hP.sub (ws' := [(ao, .inl (cL, 1, .inr (.inl fo)))]) [0] rfl
      have hD9 := hD.sub (ws' := [(ao, .inl (cL, 1, .inr (.inl fo)))]) [0] (by decide) rfl
      have hK9 := hK.sub (tys' := [(cL, .long)]) [0] rfl
      refine W.widen (k := 2) (n := 12) (Nat.le_of_ble_eq_true rfl) (Nat.le_of_ble_eq_true rfl) ?_
      exact (W.iret (v := 2) hx hb hr (fun t ht hW => ⟨⟨2, fo, rfl, Or.inr ⟨rfl, hp⟩, by rw [ht]; exact hP9, va_K.moved hW.alike hK9, hD9⟩, hS.F ht⟩) hS.2.2 dL_add_20)
  · skip
    exact w_2.elim

set_option maxHeartbeats 4000000 in
set_option maxRecDepth 100000 in
/-- remove of the law -/
theorem h_remove (l : Launch) (hl0 : l.stackTraces = false) (dC : Nat → ClassId) (dI : Nat → Nat → Nat) (h : Nat) (aT : Nat) (aV : Nat) (aS : Nat) (aC : Nat) (aO : Nat) (aF : Nat) (aL : Nat) (aR : Nat) (aX : Nat) (sT : Nat) (sK : Nat) (sH : Nat) (t : Int32) (mask : Int32) (al : Int32) (ao : Nat) (cL : ClassId) (fo : Nat → Int64) (sz : Nat)  : Met l yL_remove wsL_remove ({ frames := 11, cells := 4, slots := 24, locals := 204 } : Room) (va_Pc [.ref h, .int t, .int mask, .int al, .ref ao] (ct_P (dC, dI) [(h, .inr (11, [.ref aT, .ref aV, .ref aS, .ref aC, .ref aO, .ref aF, .ref aL, .ref aR, .ref aX, .int 0, .int 0, .int 0])), (aS, .inr (9, [.ref sT, .ref sK, .ref sH, .int 0, .int 0, .int 0, .int 0, .int 0])), (ao, .inl (cL, 1, .inr (.inl fo)))] [(cL, .long)] sz)) (va_Qi (fun (r : Int32) (u : (Nat → Int64)) => (r = 1 ∧ ((al < 0 ∨ ¬ al ≤ 1) ∨ (mask < 0 ∨ ¬ mask ≤ 15))) ∨ (r = 2 ∧ ¬ ((al < 0 ∨ ¬ al ≤ 1) ∨ (mask < 0 ∨ ¬ mask ≤ 15)))) (fun (u : (Nat → Int64)) => ct_B (dC, dI) (va_A [(h, .inr (11, [.ref aT, .ref aV, .ref aS, .ref aC, .ref aO, .ref aF, .ref aL, .ref aR, .ref aX, .int 0, .int 0, .int 0])), (aS, .inr (9, [.ref sT, .ref sK, .ref sH, .int 0, .int 0, .int 0, .int 0, .int 0])), (ao, .inl (cL, 1, .inr (.inl fo)))] sz) [(ao, .inl (cL, 1, .inr (.inl u)))] [(cL, .long)]) (va_A [(h, .inr (11, [.ref aT, .ref aV, .ref aS, .ref aC, .ref aO, .ref aF, .ref aL, .ref aR, .ref aX, .int 0, .int 0, .int 0])), (aS, .inr (9, [.ref sT, .ref sK, .ref sH, .int 0, .int 0, .int 0, .int 0, .int 0])), (ao, .inl (cL, 1, .inr (.inl fo)))] sz)) 4 24 (va_A [(h, .inr (11, [.ref aT, .ref aV, .ref aS, .ref aC, .ref aO, .ref aF, .ref aL, .ref aR, .ref aX, .int 0, .int 0, .int 0])), (aS, .inr (9, [.ref sT, .ref sK, .ref sH, .int 0, .int 0, .int 0, .int 0, .int 0])), (ao, .inl (cL, 1, .inr (.inl fo)))] sz) := by
  refine va_MetW (cc := cL_remove) (maxL := 6) (ret := (some .int)) (hh := [(0, 12, 15, 19), (0, 12, 19, 33)]) (by decide) rfl ?_
  intro p e s m args below meth c s₁ B hml hv
  obtain ⟨rfl, hsz, hP, hK, hD0, hZ⟩ := hv
  have hx := B.exec
  have hb := B.bytes
  have hr := B.returns
  have hts := atoms_spec (ws := wsL_remove) B.pre
  have hown : s.vm.findClass RL = some m.cls := findClass_of_methodNamed B.named
  have hlocks := B.notSynchronized
  have htb : c.exceptionTable.toList = tableOf [(0, 12, 15, 19), (0, 12, 19, 33)] := vx_table (x := yL_remove) B (hts _ List.mem_cons_self)
  subst hsz
  have hD := hD0.self (sz := s.heap.size)
  generalize hAe : va_A [(h, .inr (11, [.ref aT, .ref aV, .ref aS, .ref aC, .ref aO, .ref aF, .ref aL, .ref aR, .ref aX, .int 0, .int 0, .int 0])), (aS, .inr (9, [.ref sT, .ref sK, .ref sH, .int 0, .int 0, .int 0, .int 0, .int 0])), (ao, .inl (cL, 1, .inr (.inl fo)))] s.heap.size = A at hD hZ ⊢
  have hA : ∀ q : Nat, s.heap.size ≤ q → A q := fun q h => by rw [← hAe]; exact Or.inr h
  have hS : va_S A s.heap s.heap [] := va_S.rf
  have hP : va_P (dC, dI) vwCl [(h, .inr (11, [.ref aT, .ref aV, .ref aS, .ref aC, .ref aO, .ref aF, .ref aL, .ref aR, .ref aX, .int 0, .int 0, .int 0])), (aS, .inr (9, [.ref sT, .ref sK, .ref sH, .int 0, .int 0, .int 0, .int 0, .int 0])), (ao, .inl (cL, 1, .inr (.inl fo)))] s.heap := hP
  have hK : va_K (dC, dI) vwCl [(cL, .long)] s := hK
  have hD : va_D A [(h, .inr (11, [.ref aT, .ref aV, .ref aS, .ref aC, .ref aO, .ref aF, .ref aL, .ref aR, .ref aX, .int 0, .int 0, .int 0])), (aS, .inr (9, [.ref sT, .ref sK, .ref sH, .int 0, .int 0, .int 0, .int 0, .int 0])), (ao, .inl (cL, 1, .inr (.inl fo)))] := hD
  have hl := lv_entry ([.ref h, .int t, .int mask, .int al, .ref ao]) (n := 6) (Nat.le_of_ble_eq_true rfl)
  rw [lg_entry_eq]
  generalize (lg_sl ([.ref h, .int t, .int mask, .int al, .ref ao]) ++ List.replicate (6 - (lg_sl ([.ref h, .int t, .int mask, .int al, .ref ao])).length) Slot.unset).toArray = ls at hl ⊢
  have hl : lv_has ls 6 [(0, .ref h), (1, .int t), (2, .int mask), (3, .int al), (4, .ref ao)] := hl
  refine lv_aload hx hb dL_remove_0 (lv_at hl 4 rfl) ?_
  refine lv_iconst (v := 0) hx hb dL_remove_2 (by decide) ?_
  refine lv_aload_n hx hb dL_remove_3 rfl (lv_at hl 0 rfl) ?_
  refine lv_iload_n hx hb dL_remove_4 rfl (lv_at hl 1 rfl) ?_
  refine lv_iload_n hx hb dL_remove_5 rfl (lv_at hl 2 rfl) ?_
  refine lv_iload_n hx hb dL_remove_6 rfl (lv_at hl 3 rfl) ?_
  refine xt_i (wr := [(ao, .inl (cL, 1, .inr (.inl fo)))]) (tyr := [(cL, .long)]) (vx_runV (As := [.int t, .int mask, .int al]) (rest := [.int 0, .ref ao]) ⟨hx, hb, hml, hown, hts⟩ (c_remove l hl0 dC dI h aT aV aS aC aO aF aL aR aX sT sK sH t mask al s.heap.size ) (cwV 3 hts gL_remove_X11_remove rfl rfl rfl (by decide +kernel) ⟨Nat.le_of_ble_eq_true rfl, Nat.le_of_ble_eq_true rfl⟩) (ct_preV (ci := 11) (q0 := 0) hP hD hK hS hA hZ rfl rfl [0, 1] [] rfl (by decide) rfl) rfl rfl hl.1 rfl (lv_room (Nat.le_of_ble_eq_true rfl)) dL_remove_7 ⟨Nat.le_of_ble_eq_true rfl, Nat.le_of_ble_eq_true rfl⟩) hP hD hK hS hA [0, 1] [2] [0] rfl rfl (by decide) (by decide) rfl (fun E ce q9 H locs hbx hS hP hD hce hcv hcl => ?_) (fun r_1 u H locs w_2 hP hD hK hS => ?_)
  · skip
    rcases hbx with ⟨rfl, hp⟩ | ⟨rfl, hp⟩
    · skip
      refine vx_catch (own := RL) (name := eIA) (pc := 7) hown [] ⟨0, 12, 15, 19⟩ [⟨0, 12, 19, 33⟩] htb (fun z hz => absurd hz (List.not_mem_nil)) (by decide) (by decide) (hts (.classLink RL 19 "java/lang/IllegalArgumentException") (by decide +kernel)) (va_Nw.use rfl hZ.2.2.2.1.1) hce hcv hcl ?_
      refine W.eq (g2 := F0 m 15 ls [.ref q9]) rfl ?_
      have hK := hK.sub (tys' := [(cL, .long)]) [0] rfl
      refine lv_astore (lv' := [(5, .ref q9), (0, .ref h), (1, .int t), (2, .int mask), (3, .int al), (4, .ref ao)]) hx hb dL_remove_15 hl (by decide) rfl (fun ls hl => ?_)
      refine lv_iconst (v := 1) hx hb dL_remove_17 (by decide) ?_
      have hP9 := hP.sub (ws' := [(ao, .inl (cL, 1, .inr (.inl fo)))]) [0] rfl
      have hD9 := hD.sub (ws' := [(ao, .inl (cL, 1, .inr (.inl fo)))]) [0] (by decide) rfl
      have hK9 := hK.sub (tys' := [(cL, .long)]) [0] rfl
      refine W.widen (k := 4) (n := 24) (Nat.le_of_ble_eq_true rfl) (Nat.le_of_ble_eq_true rfl) ?_
      exact (W.iret (v := 1) hx hb hr (fun t ht hW => ⟨⟨1, fo, rfl, Or.inl ⟨rfl, hp⟩, by rw [ht]; exact hP9, va_K.moved hW.alike hK9, hD9⟩, hS.F ht⟩) hS.2.2 dL_remove_18)
    · skip
      refine vx_catch (own := RL) (name := eNE) (pc := 7) hown [⟨0, 12, 15, 19⟩] ⟨0, 12, 19, 33⟩ [] htb (fun z hz => by rw [List.mem_singleton.mp hz]; exact Or.inr ⟨(by decide), eIA, hts (.classLink RL 19 "java/lang/IllegalArgumentException") (by decide +kernel), hZ.2.2.2.2.2.1.1⟩) (by decide) (by decide) (hts (.classLink RL 33 "java/util/NoSuchElementException") (by decide +kernel)) (va_Nw.use rfl hZ.2.2.2.1.2.1) hce hcv hcl ?_
      refine W.eq (g2 := F0 m 19 ls [.ref q9]) rfl ?_
      have hK := hK.sub (tys' := [(cL, .long)]) [0] rfl
      refine lv_astore (lv' := [(5, .ref q9), (0, .ref h), (1, .int t), (2, .int mask), (3, .int al), (4, .ref ao)]) hx hb dL_remove_19 hl (by decide) rfl (fun ls hl => ?_)
      refine lv_iconst (v := 2) hx hb dL_remove_21 (by decide) ?_
      have hP9 := hP.sub (ws' := [(ao, .inl (cL, 1, .inr (.inl fo)))]) [0] rfl
      have hD9 := hD.sub (ws' := [(ao, .inl (cL, 1, .inr (.inl fo)))]) [0] (by decide) rfl
      have hK9 := hK.sub (tys' := [(cL, .long)]) [0] rfl
      refine W.widen (k := 4) (n := 24) (Nat.le_of_ble_eq_true rfl) (Nat.le_of_ble_eq_true rfl) ?_
      exact (W.iret (v := 2) hx hb hr (fun t ht hW => ⟨⟨2, fo, rfl, Or.inr ⟨rfl, hp⟩, by rw [ht]; exact hP9, va_K.moved hW.alike hK9, hD9⟩, hS.F ht⟩) hS.2.2 dL_remove_22)
  · skip
    exact w_2.elim

set_option maxHeartbeats 4000000 in
set_option maxRecDepth 100000 in
/-- find of the law -/
theorem h_find (l : Launch) (hl0 : l.stackTraces = false) (dC : Nat → ClassId) (dI : Nat → Nat → Nat) (h : Nat) (aT : Nat) (aV : Nat) (aS : Nat) (aC : Nat) (aO : Nat) (aF : Nat) (aL : Nat) (aR : Nat) (aX : Nat) (sT : Nat) (sK : Nat) (sH : Nat) (t : Int32) (mask : Int32) (tm : Int32) (ao : Nat) (cL : ClassId) (fo : Nat → Int64) (sz : Nat)  : Met l yL_find wsL_find ({ frames := 11, cells := 3, slots := 18, locals := 204 } : Room) (va_Pc [.ref h, .int t, .int mask, .int tm, .ref ao] (ct_P (dC, dI) [(h, .inr (11, [.ref aT, .ref aV, .ref aS, .ref aC, .ref aO, .ref aF, .ref aL, .ref aR, .ref aX, .int 0, .int 0, .int 0])), (aS, .inr (9, [.ref sT, .ref sK, .ref sH, .int 0, .int 0, .int 0, .int 0, .int 0])), (ao, .inl (cL, 1, .inr (.inl fo)))] [(cL, .long)] sz)) (va_Qi (fun (r : Int32) (u : (Nat → Int64)) => (r = 1 ∧ sp_bl mask tm) ∨ (r = 2 ∧ ¬ sp_bl mask tm)) (fun (u : (Nat → Int64)) => ct_B (dC, dI) (va_A [(h, .inr (11, [.ref aT, .ref aV, .ref aS, .ref aC, .ref aO, .ref aF, .ref aL, .ref aR, .ref aX, .int 0, .int 0, .int 0])), (aS, .inr (9, [.ref sT, .ref sK, .ref sH, .int 0, .int 0, .int 0, .int 0, .int 0])), (ao, .inl (cL, 1, .inr (.inl fo)))] sz) [(ao, .inl (cL, 1, .inr (.inl u)))] [(cL, .long)]) (va_A [(h, .inr (11, [.ref aT, .ref aV, .ref aS, .ref aC, .ref aO, .ref aF, .ref aL, .ref aR, .ref aX, .int 0, .int 0, .int 0])), (aS, .inr (9, [.ref sT, .ref sK, .ref sH, .int 0, .int 0, .int 0, .int 0, .int 0])), (ao, .inl (cL, 1, .inr (.inl fo)))] sz)) 3 18 (va_A [(h, .inr (11, [.ref aT, .ref aV, .ref aS, .ref aC, .ref aO, .ref aF, .ref aL, .ref aR, .ref aX, .int 0, .int 0, .int 0])), (aS, .inr (9, [.ref sT, .ref sK, .ref sH, .int 0, .int 0, .int 0, .int 0, .int 0])), (ao, .inl (cL, 1, .inr (.inl fo)))] sz) := by
  refine va_MetW (cc := cL_find) (maxL := 6) (ret := (some .int)) (hh := [(0, 12, 15, 19), (0, 12, 19, 33)]) (by decide) rfl ?_
  intro p e s m args below meth c s₁ B hml hv
  obtain ⟨rfl, hsz, hP, hK, hD0, hZ⟩ := hv
  have hx := B.exec
  have hb := B.bytes
  have hr := B.returns
  have hts := atoms_spec (ws := wsL_find) B.pre
  have hown : s.vm.findClass RL = some m.cls := findClass_of_methodNamed B.named
  have hlocks := B.notSynchronized
  have htb : c.exceptionTable.toList = tableOf [(0, 12, 15, 19), (0, 12, 19, 33)] := vx_table (x := yL_find) B (hts _ List.mem_cons_self)
  subst hsz
  have hD := hD0.self (sz := s.heap.size)
  generalize hAe : va_A [(h, .inr (11, [.ref aT, .ref aV, .ref aS, .ref aC, .ref aO, .ref aF, .ref aL, .ref aR, .ref aX, .int 0, .int 0, .int 0])), (aS, .inr (9, [.ref sT, .ref sK, .ref sH, .int 0, .int 0, .int 0, .int 0, .int 0])), (ao, .inl (cL, 1, .inr (.inl fo)))] s.heap.size = A at hD hZ ⊢
  have hA : ∀ q : Nat, s.heap.size ≤ q → A q := fun q h => by rw [← hAe]; exact Or.inr h
  have hS : va_S A s.heap s.heap [] := va_S.rf
  have hP : va_P (dC, dI) vwCl [(h, .inr (11, [.ref aT, .ref aV, .ref aS, .ref aC, .ref aO, .ref aF, .ref aL, .ref aR, .ref aX, .int 0, .int 0, .int 0])), (aS, .inr (9, [.ref sT, .ref sK, .ref sH, .int 0, .int 0, .int 0, .int 0, .int 0])), (ao, .inl (cL, 1, .inr (.inl fo)))] s.heap := hP
  have hK : va_K (dC, dI) vwCl [(cL, .long)] s := hK
  have hD : va_D A [(h, .inr (11, [.ref aT, .ref aV, .ref aS, .ref aC, .ref aO, .ref aF, .ref aL, .ref aR, .ref aX, .int 0, .int 0, .int 0])), (aS, .inr (9, [.ref sT, .ref sK, .ref sH, .int 0, .int 0, .int 0, .int 0, .int 0])), (ao, .inl (cL, 1, .inr (.inl fo)))] := hD
  have hl := lv_entry ([.ref h, .int t, .int mask, .int tm, .ref ao]) (n := 6) (Nat.le_of_ble_eq_true rfl)
  rw [lg_entry_eq]
  generalize (lg_sl ([.ref h, .int t, .int mask, .int tm, .ref ao]) ++ List.replicate (6 - (lg_sl ([.ref h, .int t, .int mask, .int tm, .ref ao])).length) Slot.unset).toArray = ls at hl ⊢
  have hl : lv_has ls 6 [(0, .ref h), (1, .int t), (2, .int mask), (3, .int tm), (4, .ref ao)] := hl
  refine lv_aload hx hb dL_find_0 (lv_at hl 4 rfl) ?_
  refine lv_iconst (v := 0) hx hb dL_find_2 (by decide) ?_
  refine lv_aload_n hx hb dL_find_3 rfl (lv_at hl 0 rfl) ?_
  refine lv_iload_n hx hb dL_find_4 rfl (lv_at hl 1 rfl) ?_
  refine lv_iload_n hx hb dL_find_5 rfl (lv_at hl 2 rfl) ?_
  refine lv_iload_n hx hb dL_find_6 rfl (lv_at hl 3 rfl) ?_
  refine xt_i (wr := [(ao, .inl (cL, 1, .inr (.inl fo)))]) (tyr := [(cL, .long)]) (vx_runV (As := [.int t, .int mask, .int tm]) (rest := [.int 0, .ref ao]) ⟨hx, hb, hml, hown, hts⟩ (c_find l hl0 dC dI h aT aV aS aC aO aF aL aR aX sT sK sH t mask tm s.heap.size ) (cwV 3 hts gL_find_X11_find rfl rfl rfl (by decide +kernel) ⟨Nat.le_of_ble_eq_true rfl, Nat.le_of_ble_eq_true rfl⟩) (ct_preV (ci := 11) (q0 := 0) hP hD hK hS hA hZ rfl rfl [0, 1] [] rfl (by decide) rfl) rfl rfl hl.1 rfl (lv_room (Nat.le_of_ble_eq_true rfl)) dL_find_7 ⟨Nat.le_of_ble_eq_true rfl, Nat.le_of_ble_eq_true rfl⟩) hP hD hK hS hA [0, 1] [2] [0] rfl rfl (by decide) (by decide) rfl (fun E ce q9 H locs hbx hS hP hD hce hcv hcl => ?_) (fun r_1 u H locs w_2 hP hD hK hS => ?_)
  · skip
    rcases hbx with ⟨rfl, hp⟩ | ⟨rfl, hp⟩
    · skip
      refine vx_catch (own := RL) (name := eIA) (pc := 7) hown [] ⟨0, 12, 15, 19⟩ [⟨0, 12, 19, 33⟩] htb (fun z hz => absurd hz (List.not_mem_nil)) (by decide) (by decide) (hts (.classLink RL 19 "java/lang/IllegalArgumentException") (by decide +kernel)) (va_Nw.use rfl hZ.2.2.2.1.1) hce hcv hcl ?_
      refine W.eq (g2 := F0 m 15 ls [.ref q9]) rfl ?_
      have hK := hK.sub (tys' := [(cL, .long)]) [0] rfl
      refine lv_astore (lv' := [(5, .ref q9), (0, .ref h), (1, .int t), (2, .int mask), (3, .int tm), (4, .ref ao)]) hx hb dL_find_15 hl (by decide) rfl (fun ls hl => ?_)
      refine lv_iconst (v := 1) hx hb dL_find_17 (by decide) ?_
      have hP9 := hP.sub (ws' := [(ao, .inl (cL, 1, .inr (.inl fo)))]) [0] rfl
      have hD9 := hD.sub (ws' := [(ao, .inl (cL, 1, .inr (.inl fo)))]) [0] (by decide) rfl
      have hK9 := hK.sub (tys' := [(cL, .long)]) [0] rfl
      refine W.widen (k := 3) (n := 18) (Nat.le_of_ble_eq_true rfl) (Nat.le_of_ble_eq_true rfl) ?_
      exact (W.iret (v := 1) hx hb hr (fun t ht hW => ⟨⟨1, fo, rfl, Or.inl ⟨rfl, hp⟩, by rw [ht]; exact hP9, va_K.moved hW.alike hK9, hD9⟩, hS.F ht⟩) hS.2.2 dL_find_18)
    · skip
      refine vx_catch (own := RL) (name := eNE) (pc := 7) hown [⟨0, 12, 15, 19⟩] ⟨0, 12, 19, 33⟩ [] htb (fun z hz => by rw [List.mem_singleton.mp hz]; exact Or.inr ⟨(by decide), eIA, hts (.classLink RL 19 "java/lang/IllegalArgumentException") (by decide +kernel), hZ.2.2.2.2.2.1.1⟩) (by decide) (by decide) (hts (.classLink RL 33 "java/util/NoSuchElementException") (by decide +kernel)) (va_Nw.use rfl hZ.2.2.2.1.2.1) hce hcv hcl ?_
      refine W.eq (g2 := F0 m 19 ls [.ref q9]) rfl ?_
      have hK := hK.sub (tys' := [(cL, .long)]) [0] rfl
      refine lv_astore (lv' := [(5, .ref q9), (0, .ref h), (1, .int t), (2, .int mask), (3, .int tm), (4, .ref ao)]) hx hb dL_find_19 hl (by decide) rfl (fun ls hl => ?_)
      refine lv_iconst (v := 2) hx hb dL_find_21 (by decide) ?_
      have hP9 := hP.sub (ws' := [(ao, .inl (cL, 1, .inr (.inl fo)))]) [0] rfl
      have hD9 := hD.sub (ws' := [(ao, .inl (cL, 1, .inr (.inl fo)))]) [0] (by decide) rfl
      have hK9 := hK.sub (tys' := [(cL, .long)]) [0] rfl
      refine W.widen (k := 3) (n := 18) (Nat.le_of_ble_eq_true rfl) (Nat.le_of_ble_eq_true rfl) ?_
      exact (W.iret (v := 2) hx hb hr (fun t ht hW => ⟨⟨2, fo, rfl, Or.inr ⟨rfl, hp⟩, by rw [ht]; exact hP9, va_K.moved hW.alike hK9, hD9⟩, hS.F ht⟩) hS.2.2 dL_find_22)
  · skip
    exact w_2.elim

set_option maxHeartbeats 4000000 in
set_option maxRecDepth 100000 in
/-- many of the law -/
theorem h_many (l : Launch) (hl0 : l.stackTraces = false) (dC : Nat → ClassId) (dI : Nat → Nat → Nat) (h : Nat) (aT : Nat) (aV : Nat) (aS : Nat) (aC : Nat) (aO : Nat) (aF : Nat) (aL : Nat) (aR : Nat) (aX : Nat) (sT : Nat) (sK : Nat) (sH : Nat) (t : Int32) (mask : Int32) (tm : Int32) (ao : Nat) (cL : ClassId) (fo : Nat → Int64) (sz : Nat)  : Met l yL_many wsL_many ({ frames := 11, cells := 3, slots := 18, locals := 204 } : Room) (va_Pc [.ref h, .int t, .int mask, .int tm, .ref ao] (ct_P (dC, dI) [(h, .inr (11, [.ref aT, .ref aV, .ref aS, .ref aC, .ref aO, .ref aF, .ref aL, .ref aR, .ref aX, .int 0, .int 0, .int 0])), (aS, .inr (9, [.ref sT, .ref sK, .ref sH, .int 0, .int 0, .int 0, .int 0, .int 0])), (ao, .inl (cL, 1, .inr (.inl fo)))] [(cL, .long)] sz)) (va_Qi (fun (r : Int32) (u : (Nat → Int64)) => (r = 1 ∧ sp_bl mask tm) ∨ (r = 2 ∧ ¬ sp_bl mask tm)) (fun (u : (Nat → Int64)) => ct_B (dC, dI) (va_A [(h, .inr (11, [.ref aT, .ref aV, .ref aS, .ref aC, .ref aO, .ref aF, .ref aL, .ref aR, .ref aX, .int 0, .int 0, .int 0])), (aS, .inr (9, [.ref sT, .ref sK, .ref sH, .int 0, .int 0, .int 0, .int 0, .int 0])), (ao, .inl (cL, 1, .inr (.inl fo)))] sz) [(ao, .inl (cL, 1, .inr (.inl u)))] [(cL, .long)]) (va_A [(h, .inr (11, [.ref aT, .ref aV, .ref aS, .ref aC, .ref aO, .ref aF, .ref aL, .ref aR, .ref aX, .int 0, .int 0, .int 0])), (aS, .inr (9, [.ref sT, .ref sK, .ref sH, .int 0, .int 0, .int 0, .int 0, .int 0])), (ao, .inl (cL, 1, .inr (.inl fo)))] sz)) 3 18 (va_A [(h, .inr (11, [.ref aT, .ref aV, .ref aS, .ref aC, .ref aO, .ref aF, .ref aL, .ref aR, .ref aX, .int 0, .int 0, .int 0])), (aS, .inr (9, [.ref sT, .ref sK, .ref sH, .int 0, .int 0, .int 0, .int 0, .int 0])), (ao, .inl (cL, 1, .inr (.inl fo)))] sz) := by
  refine va_MetW (cc := cL_many) (maxL := 6) (ret := (some .int)) (hh := [(0, 12, 15, 19), (0, 12, 19, 33)]) (by decide) rfl ?_
  intro p e s m args below meth c s₁ B hml hv
  obtain ⟨rfl, hsz, hP, hK, hD0, hZ⟩ := hv
  have hx := B.exec
  have hb := B.bytes
  have hr := B.returns
  have hts := atoms_spec (ws := wsL_many) B.pre
  have hown : s.vm.findClass RL = some m.cls := findClass_of_methodNamed B.named
  have hlocks := B.notSynchronized
  have htb : c.exceptionTable.toList = tableOf [(0, 12, 15, 19), (0, 12, 19, 33)] := vx_table (x := yL_many) B (hts _ List.mem_cons_self)
  subst hsz
  have hD := hD0.self (sz := s.heap.size)
  generalize hAe : va_A [(h, .inr (11, [.ref aT, .ref aV, .ref aS, .ref aC, .ref aO, .ref aF, .ref aL, .ref aR, .ref aX, .int 0, .int 0, .int 0])), (aS, .inr (9, [.ref sT, .ref sK, .ref sH, .int 0, .int 0, .int 0, .int 0, .int 0])), (ao, .inl (cL, 1, .inr (.inl fo)))] s.heap.size = A at hD hZ ⊢
  have hA : ∀ q : Nat, s.heap.size ≤ q → A q := fun q h => by rw [← hAe]; exact Or.inr h
  have hS : va_S A s.heap s.heap [] := va_S.rf
  have hP : va_P (dC, dI) vwCl [(h, .inr (11, [.ref aT, .ref aV, .ref aS, .ref aC, .ref aO, .ref aF, .ref aL, .ref aR, .ref aX, .int 0, .int 0, .int 0])), (aS, .inr (9, [.ref sT, .ref sK, .ref sH, .int 0, .int 0, .int 0, .int 0, .int 0])), (ao, .inl (cL, 1, .inr (.inl fo)))] s.heap := hP
  have hK : va_K (dC, dI) vwCl [(cL, .long)] s := hK
  have hD : va_D A [(h, .inr (11, [.ref aT, .ref aV, .ref aS, .ref aC, .ref aO, .ref aF, .ref aL, .ref aR, .ref aX, .int 0, .int 0, .int 0])), (aS, .inr (9, [.ref sT, .ref sK, .ref sH, .int 0, .int 0, .int 0, .int 0, .int 0])), (ao, .inl (cL, 1, .inr (.inl fo)))] := hD
  have hl := lv_entry ([.ref h, .int t, .int mask, .int tm, .ref ao]) (n := 6) (Nat.le_of_ble_eq_true rfl)
  rw [lg_entry_eq]
  generalize (lg_sl ([.ref h, .int t, .int mask, .int tm, .ref ao]) ++ List.replicate (6 - (lg_sl ([.ref h, .int t, .int mask, .int tm, .ref ao])).length) Slot.unset).toArray = ls at hl ⊢
  have hl : lv_has ls 6 [(0, .ref h), (1, .int t), (2, .int mask), (3, .int tm), (4, .ref ao)] := hl
  refine lv_aload hx hb dL_many_0 (lv_at hl 4 rfl) ?_
  refine lv_iconst (v := 0) hx hb dL_many_2 (by decide) ?_
  refine lv_aload_n hx hb dL_many_3 rfl (lv_at hl 0 rfl) ?_
  refine lv_iload_n hx hb dL_many_4 rfl (lv_at hl 1 rfl) ?_
  refine lv_iload_n hx hb dL_many_5 rfl (lv_at hl 2 rfl) ?_
  refine lv_iload_n hx hb dL_many_6 rfl (lv_at hl 3 rfl) ?_
  refine xt_i (wr := [(ao, .inl (cL, 1, .inr (.inl fo)))]) (tyr := [(cL, .long)]) (vx_runV (As := [.int t, .int mask, .int tm]) (rest := [.int 0, .ref ao]) ⟨hx, hb, hml, hown, hts⟩ (c_many l hl0 dC dI h aT aV aS aC aO aF aL aR aX sT sK sH t mask tm s.heap.size ) (cwV 3 hts gL_many_X11_many rfl rfl rfl (by decide +kernel) ⟨Nat.le_of_ble_eq_true rfl, Nat.le_of_ble_eq_true rfl⟩) (ct_preV (ci := 11) (q0 := 0) hP hD hK hS hA hZ rfl rfl [0, 1] [] rfl (by decide) rfl) rfl rfl hl.1 rfl (lv_room (Nat.le_of_ble_eq_true rfl)) dL_many_7 ⟨Nat.le_of_ble_eq_true rfl, Nat.le_of_ble_eq_true rfl⟩) hP hD hK hS hA [0, 1] [2] [0] rfl rfl (by decide) (by decide) rfl (fun E ce q9 H locs hbx hS hP hD hce hcv hcl => ?_) (fun r_1 u H locs w_2 hP hD hK hS => ?_)
  · skip
    rcases hbx with ⟨rfl, hp⟩ | ⟨rfl, hp⟩
    · skip
      refine vx_catch (own := RL) (name := eIA) (pc := 7) hown [] ⟨0, 12, 15, 19⟩ [⟨0, 12, 19, 33⟩] htb (fun z hz => absurd hz (List.not_mem_nil)) (by decide) (by decide) (hts (.classLink RL 19 "java/lang/IllegalArgumentException") (by decide +kernel)) (va_Nw.use rfl hZ.2.2.2.1.1) hce hcv hcl ?_
      refine W.eq (g2 := F0 m 15 ls [.ref q9]) rfl ?_
      have hK := hK.sub (tys' := [(cL, .long)]) [0] rfl
      refine lv_astore (lv' := [(5, .ref q9), (0, .ref h), (1, .int t), (2, .int mask), (3, .int tm), (4, .ref ao)]) hx hb dL_many_15 hl (by decide) rfl (fun ls hl => ?_)
      refine lv_iconst (v := 1) hx hb dL_many_17 (by decide) ?_
      have hP9 := hP.sub (ws' := [(ao, .inl (cL, 1, .inr (.inl fo)))]) [0] rfl
      have hD9 := hD.sub (ws' := [(ao, .inl (cL, 1, .inr (.inl fo)))]) [0] (by decide) rfl
      have hK9 := hK.sub (tys' := [(cL, .long)]) [0] rfl
      refine W.widen (k := 3) (n := 18) (Nat.le_of_ble_eq_true rfl) (Nat.le_of_ble_eq_true rfl) ?_
      exact (W.iret (v := 1) hx hb hr (fun t ht hW => ⟨⟨1, fo, rfl, Or.inl ⟨rfl, hp⟩, by rw [ht]; exact hP9, va_K.moved hW.alike hK9, hD9⟩, hS.F ht⟩) hS.2.2 dL_many_18)
    · skip
      refine vx_catch (own := RL) (name := eNE) (pc := 7) hown [⟨0, 12, 15, 19⟩] ⟨0, 12, 19, 33⟩ [] htb (fun z hz => by rw [List.mem_singleton.mp hz]; exact Or.inr ⟨(by decide), eIA, hts (.classLink RL 19 "java/lang/IllegalArgumentException") (by decide +kernel), hZ.2.2.2.2.2.1.1⟩) (by decide) (by decide) (hts (.classLink RL 33 "java/util/NoSuchElementException") (by decide +kernel)) (va_Nw.use rfl hZ.2.2.2.1.2.1) hce hcv hcl ?_
      refine W.eq (g2 := F0 m 19 ls [.ref q9]) rfl ?_
      have hK := hK.sub (tys' := [(cL, .long)]) [0] rfl
      refine lv_astore (lv' := [(5, .ref q9), (0, .ref h), (1, .int t), (2, .int mask), (3, .int tm), (4, .ref ao)]) hx hb dL_many_19 hl (by decide) rfl (fun ls hl => ?_)
      refine lv_iconst (v := 2) hx hb dL_many_21 (by decide) ?_
      have hP9 := hP.sub (ws' := [(ao, .inl (cL, 1, .inr (.inl fo)))]) [0] rfl
      have hD9 := hD.sub (ws' := [(ao, .inl (cL, 1, .inr (.inl fo)))]) [0] (by decide) rfl
      have hK9 := hK.sub (tys' := [(cL, .long)]) [0] rfl
      refine W.widen (k := 3) (n := 18) (Nat.le_of_ble_eq_true rfl) (Nat.le_of_ble_eq_true rfl) ?_
      exact (W.iret (v := 2) hx hb hr (fun t ht hW => ⟨⟨2, fo, rfl, Or.inr ⟨rfl, hp⟩, by rw [ht]; exact hP9, va_K.moved hW.alike hK9, hD9⟩, hS.F ht⟩) hS.2.2 dL_many_22)
  · skip
    exact w_2.elim

set_option maxHeartbeats 4000000 in
set_option maxRecDepth 100000 in
/-- open of the law -/
theorem h_open (l : Launch) (hl0 : l.stackTraces = false) (dC : Nat → ClassId) (dI : Nat → Nat → Nat) (h : Nat) (aT : Nat) (aV : Nat) (aS : Nat) (aC : Nat) (aO : Nat) (aF : Nat) (aL : Nat) (aR : Nat) (aX : Nat) (sT : Nat) (sK : Nat) (sH : Nat) (t : Int32) (mask : Int32) (tm : Int32) (ao : Nat) (cL : ClassId) (fo : Nat → Int64) (sz : Nat)  : Met l yL_open wsL_open ({ frames := 10, cells := 3, slots := 18, locals := 180 } : Room) (va_Pc [.ref h, .int t, .int mask, .int tm, .ref ao] (ct_P (dC, dI) [(h, .inr (11, [.ref aT, .ref aV, .ref aS, .ref aC, .ref aO, .ref aF, .ref aL, .ref aR, .ref aX, .int 0, .int 0, .int 0])), (aS, .inr (9, [.ref sT, .ref sK, .ref sH, .int 0, .int 0, .int 0, .int 0, .int 0])), (ao, .inl (cL, 1, .inr (.inl fo)))] [(cL, .long)] sz)) (va_Qi (fun (r : Int32) (u : (Nat → Int64)) => (r = 1 ∧ sp_bl mask tm) ∨ (r = 2 ∧ ¬ sp_bl mask tm)) (fun (u : (Nat → Int64)) => ct_B (dC, dI) (va_A [(h, .inr (11, [.ref aT, .ref aV, .ref aS, .ref aC, .ref aO, .ref aF, .ref aL, .ref aR, .ref aX, .int 0, .int 0, .int 0])), (aS, .inr (9, [.ref sT, .ref sK, .ref sH, .int 0, .int 0, .int 0, .int 0, .int 0])), (ao, .inl (cL, 1, .inr (.inl fo)))] sz) [(ao, .inl (cL, 1, .inr (.inl u)))] [(cL, .long)]) (va_A [(h, .inr (11, [.ref aT, .ref aV, .ref aS, .ref aC, .ref aO, .ref aF, .ref aL, .ref aR, .ref aX, .int 0, .int 0, .int 0])), (aS, .inr (9, [.ref sT, .ref sK, .ref sH, .int 0, .int 0, .int 0, .int 0, .int 0])), (ao, .inl (cL, 1, .inr (.inl fo)))] sz)) 3 18 (va_A [(h, .inr (11, [.ref aT, .ref aV, .ref aS, .ref aC, .ref aO, .ref aF, .ref aL, .ref aR, .ref aX, .int 0, .int 0, .int 0])), (aS, .inr (9, [.ref sT, .ref sK, .ref sH, .int 0, .int 0, .int 0, .int 0, .int 0])), (ao, .inl (cL, 1, .inr (.inl fo)))] sz) := by
  refine va_MetW (cc := cL_open) (maxL := 6) (ret := (some .int)) (hh := [(0, 12, 15, 19), (0, 12, 19, 33), (0, 12, 23, 28)]) (by decide) rfl ?_
  intro p e s m args below meth c s₁ B hml hv
  obtain ⟨rfl, hsz, hP, hK, hD0, hZ⟩ := hv
  have hx := B.exec
  have hb := B.bytes
  have hr := B.returns
  have hts := atoms_spec (ws := wsL_open) B.pre
  have hown : s.vm.findClass RL = some m.cls := findClass_of_methodNamed B.named
  have hlocks := B.notSynchronized
  have htb : c.exceptionTable.toList = tableOf [(0, 12, 15, 19), (0, 12, 19, 33), (0, 12, 23, 28)] := vx_table (x := yL_open) B (hts _ List.mem_cons_self)
  subst hsz
  have hD := hD0.self (sz := s.heap.size)
  generalize hAe : va_A [(h, .inr (11, [.ref aT, .ref aV, .ref aS, .ref aC, .ref aO, .ref aF, .ref aL, .ref aR, .ref aX, .int 0, .int 0, .int 0])), (aS, .inr (9, [.ref sT, .ref sK, .ref sH, .int 0, .int 0, .int 0, .int 0, .int 0])), (ao, .inl (cL, 1, .inr (.inl fo)))] s.heap.size = A at hD hZ ⊢
  have hA : ∀ q : Nat, s.heap.size ≤ q → A q := fun q h => by rw [← hAe]; exact Or.inr h
  have hS : va_S A s.heap s.heap [] := va_S.rf
  have hP : va_P (dC, dI) vwCl [(h, .inr (11, [.ref aT, .ref aV, .ref aS, .ref aC, .ref aO, .ref aF, .ref aL, .ref aR, .ref aX, .int 0, .int 0, .int 0])), (aS, .inr (9, [.ref sT, .ref sK, .ref sH, .int 0, .int 0, .int 0, .int 0, .int 0])), (ao, .inl (cL, 1, .inr (.inl fo)))] s.heap := hP
  have hK : va_K (dC, dI) vwCl [(cL, .long)] s := hK
  have hD : va_D A [(h, .inr (11, [.ref aT, .ref aV, .ref aS, .ref aC, .ref aO, .ref aF, .ref aL, .ref aR, .ref aX, .int 0, .int 0, .int 0])), (aS, .inr (9, [.ref sT, .ref sK, .ref sH, .int 0, .int 0, .int 0, .int 0, .int 0])), (ao, .inl (cL, 1, .inr (.inl fo)))] := hD
  have hl := lv_entry ([.ref h, .int t, .int mask, .int tm, .ref ao]) (n := 6) (Nat.le_of_ble_eq_true rfl)
  rw [lg_entry_eq]
  generalize (lg_sl ([.ref h, .int t, .int mask, .int tm, .ref ao]) ++ List.replicate (6 - (lg_sl ([.ref h, .int t, .int mask, .int tm, .ref ao])).length) Slot.unset).toArray = ls at hl ⊢
  have hl : lv_has ls 6 [(0, .ref h), (1, .int t), (2, .int mask), (3, .int tm), (4, .ref ao)] := hl
  refine lv_aload hx hb dL_open_0 (lv_at hl 4 rfl) ?_
  refine lv_iconst (v := 0) hx hb dL_open_2 (by decide) ?_
  refine lv_aload_n hx hb dL_open_3 rfl (lv_at hl 0 rfl) ?_
  refine lv_iload_n hx hb dL_open_4 rfl (lv_at hl 1 rfl) ?_
  refine lv_iload_n hx hb dL_open_5 rfl (lv_at hl 2 rfl) ?_
  refine lv_iload_n hx hb dL_open_6 rfl (lv_at hl 3 rfl) ?_
  refine xt_i (wr := [(ao, .inl (cL, 1, .inr (.inl fo)))]) (tyr := [(cL, .long)]) (vx_runV (As := [.int t, .int mask, .int tm]) (rest := [.int 0, .ref ao]) ⟨hx, hb, hml, hown, hts⟩ (c_open l hl0 dC dI h aT aV aS aC aO aF aL aR aX sT sK sH t mask tm s.heap.size ) (cwV 3 hts gL_open_X11_open rfl rfl rfl (by decide +kernel) ⟨Nat.le_of_ble_eq_true rfl, Nat.le_of_ble_eq_true rfl⟩) (ct_preV (ci := 11) (q0 := 0) hP hD hK hS hA hZ rfl rfl [0, 1] [] rfl (by decide) rfl) rfl rfl hl.1 rfl (lv_room (Nat.le_of_ble_eq_true rfl)) dL_open_7 ⟨Nat.le_of_ble_eq_true rfl, Nat.le_of_ble_eq_true rfl⟩) hP hD hK hS hA [0, 1] [2] [0] rfl rfl (by decide) (by decide) rfl (fun E ce q9 H locs hbx hS hP hD hce hcv hcl => ?_) (fun r_1 u H locs w_2 hP hD hK hS => ?_)
  · skip
    rcases hbx with ⟨rfl, hp⟩ | ⟨rfl, hp⟩
    · skip
      refine vx_catch (own := RL) (name := eIA) (pc := 7) hown [] ⟨0, 12, 15, 19⟩ [⟨0, 12, 19, 33⟩, ⟨0, 12, 23, 28⟩] htb (fun z hz => absurd hz (List.not_mem_nil)) (by decide) (by decide) (hts (.classLink RL 19 "java/lang/IllegalArgumentException") (by decide +kernel)) (va_Nw.use rfl hZ.2.2.2.1.1) hce hcv hcl ?_
      refine W.eq (g2 := F0 m 15 ls [.ref q9]) rfl ?_
      have hK := hK.sub (tys' := [(cL, .long)]) [0] rfl
      refine lv_astore (lv' := [(5, .ref q9), (0, .ref h), (1, .int t), (2, .int mask), (3, .int tm), (4, .ref ao)]) hx hb dL_open_15 hl (by decide) rfl (fun ls hl => ?_)
      refine lv_iconst (v := 1) hx hb dL_open_17 (by decide) ?_
      have hP9 := hP.sub (ws' := [(ao, .inl (cL, 1, .inr (.inl fo)))]) [0] rfl
      have hD9 := hD.sub (ws' := [(ao, .inl (cL, 1, .inr (.inl fo)))]) [0] (by decide) rfl
      have hK9 := hK.sub (tys' := [(cL, .long)]) [0] rfl
      refine W.widen (k := 3) (n := 18) (Nat.le_of_ble_eq_true rfl) (Nat.le_of_ble_eq_true rfl) ?_
      exact (W.iret (v := 1) hx hb hr (fun t ht hW => ⟨⟨1, fo, rfl, Or.inl ⟨rfl, hp⟩, by rw [ht]; exact hP9, va_K.moved hW.alike hK9, hD9⟩, hS.F ht⟩) hS.2.2 dL_open_18)
    · skip
      refine vx_catch (own := RL) (name := eNE) (pc := 7) hown [⟨0, 12, 15, 19⟩] ⟨0, 12, 19, 33⟩ [⟨0, 12, 23, 28⟩] htb (fun z hz => by rw [List.mem_singleton.mp hz]; exact Or.inr ⟨(by decide), eIA, hts (.classLink RL 19 "java/lang/IllegalArgumentException") (by decide +kernel), hZ.2.2.2.2.2.1.1⟩) (by decide) (by decide) (hts (.classLink RL 33 "java/util/NoSuchElementException") (by decide +kernel)) (va_Nw.use rfl hZ.2.2.2.1.2.1) hce hcv hcl ?_
      refine W.eq (g2 := F0 m 19 ls [.ref q9]) rfl ?_
      have hK := hK.sub (tys' := [(cL, .long)]) [0] rfl
      refine lv_astore (lv' := [(5, .ref q9), (0, .ref h), (1, .int t), (2, .int mask), (3, .int tm), (4, .ref ao)]) hx hb dL_open_19 hl (by decide) rfl (fun ls hl => ?_)
      refine lv_iconst (v := 2) hx hb dL_open_21 (by decide) ?_
      have hP9 := hP.sub (ws' := [(ao, .inl (cL, 1, .inr (.inl fo)))]) [0] rfl
      have hD9 := hD.sub (ws' := [(ao, .inl (cL, 1, .inr (.inl fo)))]) [0] (by decide) rfl
      have hK9 := hK.sub (tys' := [(cL, .long)]) [0] rfl
      refine W.widen (k := 3) (n := 18) (Nat.le_of_ble_eq_true rfl) (Nat.le_of_ble_eq_true rfl) ?_
      exact (W.iret (v := 2) hx hb hr (fun t ht hW => ⟨⟨2, fo, rfl, Or.inr ⟨rfl, hp⟩, by rw [ht]; exact hP9, va_K.moved hW.alike hK9, hD9⟩, hS.F ht⟩) hS.2.2 dL_open_22)
  · skip
    exact w_2.elim

set_option maxHeartbeats 4000000 in
set_option maxRecDepth 100000 in
/-- next of the law -/
theorem h_next (l : Launch) (hl0 : l.stackTraces = false) (dC : Nat → ClassId) (dI : Nat → Nat → Nat) (h : Nat) (aT : Nat) (aV : Nat) (aS : Nat) (aC : Nat) (aO : Nat) (aF : Nat) (aL : Nat) (aR : Nat) (aX : Nat) (cO : ClassId) (cu : Int32) (ao : Nat) (cL : ClassId) (fo : Nat → Int64) (sz : Nat)  : Met l yL_next wsL_next ({ frames := 9, cells := 2, slots := 12, locals := 155 } : Room) (va_Pc [.ref h, .int cu, .ref ao] (ct_P (dC, dI) [(h, .inr (11, [.ref aT, .ref aV, .ref aS, .ref aC, .ref aO, .ref aF, .ref aL, .ref aR, .ref aX, .int 0, .int 0, .int 0])), (aO, .inl (cO, 10, .inl (fun _ => 0))), (ao, .inl (cL, 1, .inr (.inl fo)))] [(cO, .boolean), (cL, .long)] sz)) (va_Qi (fun (r : Int32) (u : (Nat → Int64)) => (r = 1 ∧ (cu < 0 ∨ ¬ cu ≤ 9)) ∨ (r = 2 ∧ ¬ (cu < 0 ∨ ¬ cu ≤ 9))) (fun (u : (Nat → Int64)) => ct_B (dC, dI) (va_A [(h, .inr (11, [.ref aT, .ref aV, .ref aS, .ref aC, .ref aO, .ref aF, .ref aL, .ref aR, .ref aX, .int 0, .int 0, .int 0])), (aO, .inl (cO, 10, .inl (fun _ => 0))), (ao, .inl (cL, 1, .inr (.inl fo)))] sz) [(ao, .inl (cL, 1, .inr (.inl u)))] [(cL, .long)]) (va_A [(h, .inr (11, [.ref aT, .ref aV, .ref aS, .ref aC, .ref aO, .ref aF, .ref aL, .ref aR, .ref aX, .int 0, .int 0, .int 0])), (aO, .inl (cO, 10, .inl (fun _ => 0))), (ao, .inl (cL, 1, .inr (.inl fo)))] sz)) 2 12 (va_A [(h, .inr (11, [.ref aT, .ref aV, .ref aS, .ref aC, .ref aO, .ref aF, .ref aL, .ref aR, .ref aX, .int 0, .int 0, .int 0])), (aO, .inl (cO, 10, .inl (fun _ => 0))), (ao, .inl (cL, 1, .inr (.inl fo)))] sz) := by
  refine va_MetW (cc := cL_next) (maxL := 4) (ret := (some .int)) (hh := [(0, 9, 12, 19), (0, 9, 15, 33)]) (by decide) rfl ?_
  intro p e s m args below meth c s₁ B hml hv
  obtain ⟨rfl, hsz, hP, hK, hD0, hZ⟩ := hv
  have hx := B.exec
  have hb := B.bytes
  have hr := B.returns
  have hts := atoms_spec (ws := wsL_next) B.pre
  have hown : s.vm.findClass RL = some m.cls := findClass_of_methodNamed B.named
  have hlocks := B.notSynchronized
  have htb : c.exceptionTable.toList = tableOf [(0, 9, 12, 19), (0, 9, 15, 33)] := vx_table (x := yL_next) B (hts _ List.mem_cons_self)
  subst hsz
  have hD := hD0.self (sz := s.heap.size)
  generalize hAe : va_A [(h, .inr (11, [.ref aT, .ref aV, .ref aS, .ref aC, .ref aO, .ref aF, .ref aL, .ref aR, .ref aX, .int 0, .int 0, .int 0])), (aO, .inl (cO, 10, .inl (fun _ => 0))), (ao, .inl (cL, 1, .inr (.inl fo)))] s.heap.size = A at hD hZ ⊢
  have hA : ∀ q : Nat, s.heap.size ≤ q → A q := fun q h => by rw [← hAe]; exact Or.inr h
  have hS : va_S A s.heap s.heap [] := va_S.rf
  have hP : va_P (dC, dI) vwCl [(h, .inr (11, [.ref aT, .ref aV, .ref aS, .ref aC, .ref aO, .ref aF, .ref aL, .ref aR, .ref aX, .int 0, .int 0, .int 0])), (aO, .inl (cO, 10, .inl (fun _ => 0))), (ao, .inl (cL, 1, .inr (.inl fo)))] s.heap := hP
  have hK : va_K (dC, dI) vwCl [(cO, .boolean), (cL, .long)] s := hK
  have hD : va_D A [(h, .inr (11, [.ref aT, .ref aV, .ref aS, .ref aC, .ref aO, .ref aF, .ref aL, .ref aR, .ref aX, .int 0, .int 0, .int 0])), (aO, .inl (cO, 10, .inl (fun _ => 0))), (ao, .inl (cL, 1, .inr (.inl fo)))] := hD
  have hl := lv_entry ([.ref h, .int cu, .ref ao]) (n := 4) (Nat.le_of_ble_eq_true rfl)
  rw [lg_entry_eq]
  generalize (lg_sl ([.ref h, .int cu, .ref ao]) ++ List.replicate (4 - (lg_sl ([.ref h, .int cu, .ref ao])).length) Slot.unset).toArray = ls at hl ⊢
  have hl : lv_has ls 4 [(0, .ref h), (1, .int cu), (2, .ref ao)] := hl
  refine lv_aload_n hx hb dL_next_0 rfl (lv_at hl 2 rfl) ?_
  refine lv_iconst (v := 0) hx hb dL_next_1 (by decide) ?_
  refine lv_aload_n hx hb dL_next_2 rfl (lv_at hl 0 rfl) ?_
  refine lv_iload_n hx hb dL_next_3 rfl (lv_at hl 1 rfl) ?_
  refine xt_i (wr := [(ao, .inl (cL, 1, .inr (.inl fo)))]) (tyr := [(cL, .long)]) (vx_runV (As := [.int cu]) (rest := [.int 0, .ref ao]) ⟨hx, hb, hml, hown, hts⟩ (c_next l hl0 dC dI h aT aV aS aC aO aF aL aR aX cO cu s.heap.size ) (cwV 1 hts gL_next_X11_next rfl rfl rfl (by decide +kernel) ⟨Nat.le_of_ble_eq_true rfl, Nat.le_of_ble_eq_true rfl⟩) (ct_preV (ci := 11) (q0 := 0) hP hD hK hS hA hZ rfl rfl [0, 1] [0] rfl (by decide) rfl) rfl rfl hl.1 rfl (lv_room (Nat.le_of_ble_eq_true rfl)) dL_next_4 ⟨Nat.le_of_ble_eq_true rfl, Nat.le_of_ble_eq_true rfl⟩) hP hD hK hS hA [0, 1] [2] [1] rfl rfl (by decide) (by decide) rfl (fun E ce q9 H locs hbx hS hP hD hce hcv hcl => ?_) (fun r_1 u H locs w_2 hP hD hK hS => ?_)
  · skip
    rcases hbx with ⟨rfl, hp⟩ | ⟨rfl, hp⟩
    · skip
      refine vx_catch (own := RL) (name := eIA) (pc := 4) hown [] ⟨0, 9, 12, 19⟩ [⟨0, 9, 15, 33⟩] htb (fun z hz => absurd hz (List.not_mem_nil)) (by decide) (by decide) (hts (.classLink RL 19 "java/lang/IllegalArgumentException") (by decide +kernel)) (va_Nw.use rfl hZ.2.2.2.1.1) hce hcv hcl ?_
      refine W.eq (g2 := F0 m 12 ls [.ref q9]) rfl ?_
      have hK := hK.sub (tys' := [(cL, .long)]) [1] rfl
      refine lv_astore_n (lv' := [(3, .ref q9), (0, .ref h), (1, .int cu), (2, .ref ao)]) hx hb dL_next_12 rfl hl (by decide) rfl (fun ls hl => ?_)
      refine lv_iconst (v := 1) hx hb dL_next_13 (by decide) ?_
      have hP9 := hP.sub (ws' := [(ao, .inl (cL, 1, .inr (.inl fo)))]) [0] rfl
      have hD9 := hD.sub (ws' := [(ao, .inl (cL, 1, .inr (.inl fo)))]) [0] (by decide) rfl
      have hK9 := hK.sub (tys' := [(cL, .long)]) [0] rfl
      refine W.widen (k := 2) (n := 12) (Nat.le_of_ble_eq_true rfl) (Nat.le_of_ble_eq_true rfl) ?_
      exact (W.iret (v := 1) hx hb hr (fun t ht hW => ⟨⟨1, fo, rfl, Or.inl ⟨rfl, hp⟩, by rw [ht]; exact hP9, va_K.moved hW.alike hK9, hD9⟩, hS.F ht⟩) hS.2.2 dL_next_14)
    · skip
      refine vx_catch (own := RL) (name := eNE) (pc := 4) hown [⟨0, 9, 12, 19⟩] ⟨0, 9, 15, 33⟩ [] htb (fun z hz => by rw [List.mem_singleton.mp hz]; exact Or.inr ⟨(by decide), eIA, hts (.classLink RL 19 "java/lang/IllegalArgumentException") (by decide +kernel), hZ.2.2.2.2.2.1.1⟩) (by decide) (by decide) (hts (.classLink RL 33 "java/util/NoSuchElementException") (by decide +kernel)) (va_Nw.use rfl hZ.2.2.2.1.2.1) hce hcv hcl ?_
      refine W.eq (g2 := F0 m 15 ls [.ref q9]) rfl ?_
      have hK := hK.sub (tys' := [(cL, .long)]) [1] rfl
      refine lv_astore_n (lv' := [(3, .ref q9), (0, .ref h), (1, .int cu), (2, .ref ao)]) hx hb dL_next_15 rfl hl (by decide) rfl (fun ls hl => ?_)
      refine lv_iconst (v := 2) hx hb dL_next_16 (by decide) ?_
      have hP9 := hP.sub (ws' := [(ao, .inl (cL, 1, .inr (.inl fo)))]) [0] rfl
      have hD9 := hD.sub (ws' := [(ao, .inl (cL, 1, .inr (.inl fo)))]) [0] (by decide) rfl
      have hK9 := hK.sub (tys' := [(cL, .long)]) [0] rfl
      refine W.widen (k := 2) (n := 12) (Nat.le_of_ble_eq_true rfl) (Nat.le_of_ble_eq_true rfl) ?_
      exact (W.iret (v := 2) hx hb hr (fun t ht hW => ⟨⟨2, fo, rfl, Or.inr ⟨rfl, hp⟩, by rw [ht]; exact hP9, va_K.moved hW.alike hK9, hD9⟩, hS.F ht⟩) hS.2.2 dL_next_17)
  · skip
    exact w_2.elim

set_option maxHeartbeats 4000000 in
set_option maxRecDepth 100000 in
/-- close of the law -/
theorem h_close (l : Launch) (hl0 : l.stackTraces = false) (dC : Nat → ClassId) (dI : Nat → Nat → Nat) (h : Nat) (aT : Nat) (aV : Nat) (aS : Nat) (aC : Nat) (aO : Nat) (aF : Nat) (aL : Nat) (aR : Nat) (aX : Nat) (cO : ClassId) (cu : Int32) (ao : Nat) (cL : ClassId) (fo : Nat → Int64) (sz : Nat)  : Met l yL_close wsL_close ({ frames := 9, cells := 2, slots := 12, locals := 154 } : Room) (va_Pc [.ref h, .int cu, .ref ao] (ct_P (dC, dI) [(h, .inr (11, [.ref aT, .ref aV, .ref aS, .ref aC, .ref aO, .ref aF, .ref aL, .ref aR, .ref aX, .int 0, .int 0, .int 0])), (aO, .inl (cO, 10, .inl (fun _ => 0))), (ao, .inl (cL, 1, .inr (.inl fo)))] [(cO, .boolean), (cL, .long)] sz)) (va_Qi (fun (r : Int32) (u : (Nat → Int64)) => (r = 1 ∧ (cu < 0 ∨ ¬ cu ≤ 9)) ∨ (r = 2 ∧ ¬ (cu < 0 ∨ ¬ cu ≤ 9))) (fun (u : (Nat → Int64)) => ct_B (dC, dI) (va_A [(h, .inr (11, [.ref aT, .ref aV, .ref aS, .ref aC, .ref aO, .ref aF, .ref aL, .ref aR, .ref aX, .int 0, .int 0, .int 0])), (aO, .inl (cO, 10, .inl (fun _ => 0))), (ao, .inl (cL, 1, .inr (.inl fo)))] sz) [(ao, .inl (cL, 1, .inr (.inl u)))] [(cL, .long)]) (va_A [(h, .inr (11, [.ref aT, .ref aV, .ref aS, .ref aC, .ref aO, .ref aF, .ref aL, .ref aR, .ref aX, .int 0, .int 0, .int 0])), (aO, .inl (cO, 10, .inl (fun _ => 0))), (ao, .inl (cL, 1, .inr (.inl fo)))] sz)) 2 12 (va_A [(h, .inr (11, [.ref aT, .ref aV, .ref aS, .ref aC, .ref aO, .ref aF, .ref aL, .ref aR, .ref aX, .int 0, .int 0, .int 0])), (aO, .inl (cO, 10, .inl (fun _ => 0))), (ao, .inl (cL, 1, .inr (.inl fo)))] sz) := by
  refine va_MetW (cc := cL_close) (maxL := 4) (ret := (some .int)) (hh := [(0, 9, 12, 19), (0, 9, 15, 33)]) (by decide) rfl ?_
  intro p e s m args below meth c s₁ B hml hv
  obtain ⟨rfl, hsz, hP, hK, hD0, hZ⟩ := hv
  have hx := B.exec
  have hb := B.bytes
  have hr := B.returns
  have hts := atoms_spec (ws := wsL_close) B.pre
  have hown : s.vm.findClass RL = some m.cls := findClass_of_methodNamed B.named
  have hlocks := B.notSynchronized
  have htb : c.exceptionTable.toList = tableOf [(0, 9, 12, 19), (0, 9, 15, 33)] := vx_table (x := yL_close) B (hts _ List.mem_cons_self)
  subst hsz
  have hD := hD0.self (sz := s.heap.size)
  generalize hAe : va_A [(h, .inr (11, [.ref aT, .ref aV, .ref aS, .ref aC, .ref aO, .ref aF, .ref aL, .ref aR, .ref aX, .int 0, .int 0, .int 0])), (aO, .inl (cO, 10, .inl (fun _ => 0))), (ao, .inl (cL, 1, .inr (.inl fo)))] s.heap.size = A at hD hZ ⊢
  have hA : ∀ q : Nat, s.heap.size ≤ q → A q := fun q h => by rw [← hAe]; exact Or.inr h
  have hS : va_S A s.heap s.heap [] := va_S.rf
  have hP : va_P (dC, dI) vwCl [(h, .inr (11, [.ref aT, .ref aV, .ref aS, .ref aC, .ref aO, .ref aF, .ref aL, .ref aR, .ref aX, .int 0, .int 0, .int 0])), (aO, .inl (cO, 10, .inl (fun _ => 0))), (ao, .inl (cL, 1, .inr (.inl fo)))] s.heap := hP
  have hK : va_K (dC, dI) vwCl [(cO, .boolean), (cL, .long)] s := hK
  have hD : va_D A [(h, .inr (11, [.ref aT, .ref aV, .ref aS, .ref aC, .ref aO, .ref aF, .ref aL, .ref aR, .ref aX, .int 0, .int 0, .int 0])), (aO, .inl (cO, 10, .inl (fun _ => 0))), (ao, .inl (cL, 1, .inr (.inl fo)))] := hD
  have hl := lv_entry ([.ref h, .int cu, .ref ao]) (n := 4) (Nat.le_of_ble_eq_true rfl)
  rw [lg_entry_eq]
  generalize (lg_sl ([.ref h, .int cu, .ref ao]) ++ List.replicate (4 - (lg_sl ([.ref h, .int cu, .ref ao])).length) Slot.unset).toArray = ls at hl ⊢
  have hl : lv_has ls 4 [(0, .ref h), (1, .int cu), (2, .ref ao)] := hl
  refine lv_aload_n hx hb dL_close_0 rfl (lv_at hl 2 rfl) ?_
  refine lv_iconst (v := 0) hx hb dL_close_1 (by decide) ?_
  refine lv_aload_n hx hb dL_close_2 rfl (lv_at hl 0 rfl) ?_
  refine lv_iload_n hx hb dL_close_3 rfl (lv_at hl 1 rfl) ?_
  refine xt_i (wr := [(ao, .inl (cL, 1, .inr (.inl fo)))]) (tyr := [(cL, .long)]) (vx_runV (As := [.int cu]) (rest := [.int 0, .ref ao]) ⟨hx, hb, hml, hown, hts⟩ (c_close l hl0 dC dI h aT aV aS aC aO aF aL aR aX cO cu s.heap.size ) (cwV 1 hts gL_close_X11_close rfl rfl rfl (by decide +kernel) ⟨Nat.le_of_ble_eq_true rfl, Nat.le_of_ble_eq_true rfl⟩) (ct_preV (ci := 11) (q0 := 0) hP hD hK hS hA hZ rfl rfl [0, 1] [0] rfl (by decide) rfl) rfl rfl hl.1 rfl (lv_room (Nat.le_of_ble_eq_true rfl)) dL_close_4 ⟨Nat.le_of_ble_eq_true rfl, Nat.le_of_ble_eq_true rfl⟩) hP hD hK hS hA [0, 1] [2] [1] rfl rfl (by decide) (by decide) rfl (fun E ce q9 H locs hbx hS hP hD hce hcv hcl => ?_) (fun r_1 u H locs w_2 hP hD hK hS => ?_)
  · skip
    rcases hbx with ⟨rfl, hp⟩ | ⟨rfl, hp⟩
    · skip
      refine vx_catch (own := RL) (name := eIA) (pc := 4) hown [] ⟨0, 9, 12, 19⟩ [⟨0, 9, 15, 33⟩] htb (fun z hz => absurd hz (List.not_mem_nil)) (by decide) (by decide) (hts (.classLink RL 19 "java/lang/IllegalArgumentException") (by decide +kernel)) (va_Nw.use rfl hZ.2.2.2.1.1) hce hcv hcl ?_
      refine W.eq (g2 := F0 m 12 ls [.ref q9]) rfl ?_
      have hK := hK.sub (tys' := [(cL, .long)]) [1] rfl
      refine lv_astore_n (lv' := [(3, .ref q9), (0, .ref h), (1, .int cu), (2, .ref ao)]) hx hb dL_close_12 rfl hl (by decide) rfl (fun ls hl => ?_)
      refine lv_iconst (v := 1) hx hb dL_close_13 (by decide) ?_
      have hP9 := hP.sub (ws' := [(ao, .inl (cL, 1, .inr (.inl fo)))]) [0] rfl
      have hD9 := hD.sub (ws' := [(ao, .inl (cL, 1, .inr (.inl fo)))]) [0] (by decide) rfl
      have hK9 := hK.sub (tys' := [(cL, .long)]) [0] rfl
      refine W.widen (k := 2) (n := 12) (Nat.le_of_ble_eq_true rfl) (Nat.le_of_ble_eq_true rfl) ?_
      exact (W.iret (v := 1) hx hb hr (fun t ht hW => ⟨⟨1, fo, rfl, Or.inl ⟨rfl, hp⟩, by rw [ht]; exact hP9, va_K.moved hW.alike hK9, hD9⟩, hS.F ht⟩) hS.2.2 dL_close_14)
    · skip
      refine vx_catch (own := RL) (name := eNE) (pc := 4) hown [⟨0, 9, 12, 19⟩] ⟨0, 9, 15, 33⟩ [] htb (fun z hz => by rw [List.mem_singleton.mp hz]; exact Or.inr ⟨(by decide), eIA, hts (.classLink RL 19 "java/lang/IllegalArgumentException") (by decide +kernel), hZ.2.2.2.2.2.1.1⟩) (by decide) (by decide) (hts (.classLink RL 33 "java/util/NoSuchElementException") (by decide +kernel)) (va_Nw.use rfl hZ.2.2.2.1.2.1) hce hcv hcl ?_
      refine W.eq (g2 := F0 m 15 ls [.ref q9]) rfl ?_
      have hK := hK.sub (tys' := [(cL, .long)]) [1] rfl
      refine lv_astore_n (lv' := [(3, .ref q9), (0, .ref h), (1, .int cu), (2, .ref ao)]) hx hb dL_close_15 rfl hl (by decide) rfl (fun ls hl => ?_)
      refine lv_iconst (v := 2) hx hb dL_close_16 (by decide) ?_
      have hP9 := hP.sub (ws' := [(ao, .inl (cL, 1, .inr (.inl fo)))]) [0] rfl
      have hD9 := hD.sub (ws' := [(ao, .inl (cL, 1, .inr (.inl fo)))]) [0] (by decide) rfl
      have hK9 := hK.sub (tys' := [(cL, .long)]) [0] rfl
      refine W.widen (k := 2) (n := 12) (Nat.le_of_ble_eq_true rfl) (Nat.le_of_ble_eq_true rfl) ?_
      exact (W.iret (v := 2) hx hb hr (fun t ht hW => ⟨⟨2, fo, rfl, Or.inr ⟨rfl, hp⟩, by rw [ht]; exact hP9, va_K.moved hW.alike hK9, hD9⟩, hS.F ht⟩) hS.2.2 dL_close_17)
  · skip
    exact w_2.elim

set_option maxHeartbeats 4000000 in
set_option maxRecDepth 100000 in
/-- fact of the law -/
theorem h_fact (l : Launch) (hl0 : l.stackTraces = false) (dC : Nat → ClassId) (dI : Nat → Nat → Nat) (h : Nat) (aT : Nat) (aV : Nat) (aS : Nat) (aC : Nat) (aO : Nat) (aF : Nat) (aL : Nat) (aR : Nat) (aX : Nat) (sT : Nat) (sK : Nat) (sH : Nat) (n : Int32) (wh : Int32) (ao : Nat) (cL : ClassId) (fo : Nat → Int64) (sz : Nat)  : Met l yL_fact wsL_fact ({ frames := 8, cells := 2, slots := 12, locals := 135 } : Room) (va_Pc [.ref h, .int n, .int wh, .ref ao] (ct_P (dC, dI) [(h, .inr (11, [.ref aT, .ref aV, .ref aS, .ref aC, .ref aO, .ref aF, .ref aL, .ref aR, .ref aX, .int 0, .int 0, .int 0])), (aS, .inr (9, [.ref sT, .ref sK, .ref sH, .int 0, .int 0, .int 0, .int 0, .int 0])), (ao, .inl (cL, 1, .inr (.inl fo)))] [(cL, .long)] sz)) (va_Qi (fun (r : Int32) (u : (Nat → Int64)) => (r = 1 ∧ (wh < 0 ∨ ¬ wh ≤ 7)) ∨ (r = 2 ∧ ¬ (wh < 0 ∨ ¬ wh ≤ 7))) (fun (u : (Nat → Int64)) => ct_B (dC, dI) (va_A [(h, .inr (11, [.ref aT, .ref aV, .ref aS, .ref aC, .ref aO, .ref aF, .ref aL, .ref aR, .ref aX, .int 0, .int 0, .int 0])), (aS, .inr (9, [.ref sT, .ref sK, .ref sH, .int 0, .int 0, .int 0, .int 0, .int 0])), (ao, .inl (cL, 1, .inr (.inl fo)))] sz) [(ao, .inl (cL, 1, .inr (.inl u)))] [(cL, .long)]) (va_A [(h, .inr (11, [.ref aT, .ref aV, .ref aS, .ref aC, .ref aO, .ref aF, .ref aL, .ref aR, .ref aX, .int 0, .int 0, .int 0])), (aS, .inr (9, [.ref sT, .ref sK, .ref sH, .int 0, .int 0, .int 0, .int 0, .int 0])), (ao, .inl (cL, 1, .inr (.inl fo)))] sz)) 2 12 (va_A [(h, .inr (11, [.ref aT, .ref aV, .ref aS, .ref aC, .ref aO, .ref aF, .ref aL, .ref aR, .ref aX, .int 0, .int 0, .int 0])), (aS, .inr (9, [.ref sT, .ref sK, .ref sH, .int 0, .int 0, .int 0, .int 0, .int 0])), (ao, .inl (cL, 1, .inr (.inl fo)))] sz) := by
  refine va_MetW (cc := cL_fact) (maxL := 5) (ret := (some .int)) (hh := [(0, 10, 13, 19), (0, 10, 17, 33)]) (by decide) rfl ?_
  intro p e s m args below meth c s₁ B hml hv
  obtain ⟨rfl, hsz, hP, hK, hD0, hZ⟩ := hv
  have hx := B.exec
  have hb := B.bytes
  have hr := B.returns
  have hts := atoms_spec (ws := wsL_fact) B.pre
  have hown : s.vm.findClass RL = some m.cls := findClass_of_methodNamed B.named
  have hlocks := B.notSynchronized
  have htb : c.exceptionTable.toList = tableOf [(0, 10, 13, 19), (0, 10, 17, 33)] := vx_table (x := yL_fact) B (hts _ List.mem_cons_self)
  subst hsz
  have hD := hD0.self (sz := s.heap.size)
  generalize hAe : va_A [(h, .inr (11, [.ref aT, .ref aV, .ref aS, .ref aC, .ref aO, .ref aF, .ref aL, .ref aR, .ref aX, .int 0, .int 0, .int 0])), (aS, .inr (9, [.ref sT, .ref sK, .ref sH, .int 0, .int 0, .int 0, .int 0, .int 0])), (ao, .inl (cL, 1, .inr (.inl fo)))] s.heap.size = A at hD hZ ⊢
  have hA : ∀ q : Nat, s.heap.size ≤ q → A q := fun q h => by rw [← hAe]; exact Or.inr h
  have hS : va_S A s.heap s.heap [] := va_S.rf
  have hP : va_P (dC, dI) vwCl [(h, .inr (11, [.ref aT, .ref aV, .ref aS, .ref aC, .ref aO, .ref aF, .ref aL, .ref aR, .ref aX, .int 0, .int 0, .int 0])), (aS, .inr (9, [.ref sT, .ref sK, .ref sH, .int 0, .int 0, .int 0, .int 0, .int 0])), (ao, .inl (cL, 1, .inr (.inl fo)))] s.heap := hP
  have hK : va_K (dC, dI) vwCl [(cL, .long)] s := hK
  have hD : va_D A [(h, .inr (11, [.ref aT, .ref aV, .ref aS, .ref aC, .ref aO, .ref aF, .ref aL, .ref aR, .ref aX, .int 0, .int 0, .int 0])), (aS, .inr (9, [.ref sT, .ref sK, .ref sH, .int 0, .int 0, .int 0, .int 0, .int 0])), (ao, .inl (cL, 1, .inr (.inl fo)))] := hD
  have hl := lv_entry ([.ref h, .int n, .int wh, .ref ao]) (n := 5) (Nat.le_of_ble_eq_true rfl)
  rw [lg_entry_eq]
  generalize (lg_sl ([.ref h, .int n, .int wh, .ref ao]) ++ List.replicate (5 - (lg_sl ([.ref h, .int n, .int wh, .ref ao])).length) Slot.unset).toArray = ls at hl ⊢
  have hl : lv_has ls 5 [(0, .ref h), (1, .int n), (2, .int wh), (3, .ref ao)] := hl
  refine lv_aload_n hx hb dL_fact_0 rfl (lv_at hl 3 rfl) ?_
  refine lv_iconst (v := 0) hx hb dL_fact_1 (by decide) ?_
  refine lv_aload_n hx hb dL_fact_2 rfl (lv_at hl 0 rfl) ?_
  refine lv_iload_n hx hb dL_fact_3 rfl (lv_at hl 1 rfl) ?_
  refine lv_iload_n hx hb dL_fact_4 rfl (lv_at hl 2 rfl) ?_
  refine xt_i (wr := [(ao, .inl (cL, 1, .inr (.inl fo)))]) (tyr := [(cL, .long)]) (vx_runV (As := [.int n, .int wh]) (rest := [.int 0, .ref ao]) ⟨hx, hb, hml, hown, hts⟩ (c_fact l hl0 dC dI h aT aV aS aC aO aF aL aR aX sT sK sH n wh s.heap.size ) (cwV 2 hts gL_fact_X11_fact rfl rfl rfl (by decide +kernel) ⟨Nat.le_of_ble_eq_true rfl, Nat.le_of_ble_eq_true rfl⟩) (ct_preV (ci := 11) (q0 := 0) hP hD hK hS hA hZ rfl rfl [0, 1] [] rfl (by decide) rfl) rfl rfl hl.1 rfl (lv_room (Nat.le_of_ble_eq_true rfl)) dL_fact_5 ⟨Nat.le_of_ble_eq_true rfl, Nat.le_of_ble_eq_true rfl⟩) hP hD hK hS hA [0, 1] [2] [0] rfl rfl (by decide) (by decide) rfl (fun E ce q9 H locs hbx hS hP hD hce hcv hcl => ?_) (fun r_1 u H locs w_2 hP hD hK hS => ?_)
  · skip
    rcases hbx with ⟨rfl, hp⟩ | ⟨rfl, hp⟩
    · skip
      refine vx_catch (own := RL) (name := eIA) (pc := 5) hown [] ⟨0, 10, 13, 19⟩ [⟨0, 10, 17, 33⟩] htb (fun z hz => absurd hz (List.not_mem_nil)) (by decide) (by decide) (hts (.classLink RL 19 "java/lang/IllegalArgumentException") (by decide +kernel)) (va_Nw.use rfl hZ.2.2.2.1.1) hce hcv hcl ?_
      refine W.eq (g2 := F0 m 13 ls [.ref q9]) rfl ?_
      have hK := hK.sub (tys' := [(cL, .long)]) [0] rfl
      refine lv_astore (lv' := [(4, .ref q9), (0, .ref h), (1, .int n), (2, .int wh), (3, .ref ao)]) hx hb dL_fact_13 hl (by decide) rfl (fun ls hl => ?_)
      refine lv_iconst (v := 1) hx hb dL_fact_15 (by decide) ?_
      have hP9 := hP.sub (ws' := [(ao, .inl (cL, 1, .inr (.inl fo)))]) [0] rfl
      have hD9 := hD.sub (ws' := [(ao, .inl (cL, 1, .inr (.inl fo)))]) [0] (by decide) rfl
      have hK9 := hK.sub (tys' := [(cL, .long)]) [0] rfl
      refine W.widen (k := 2) (n := 12) (Nat.le_of_ble_eq_true rfl) (Nat.le_of_ble_eq_true rfl) ?_
      exact (W.iret (v := 1) hx hb hr (fun t ht hW => ⟨⟨1, fo, rfl, Or.inl ⟨rfl, hp⟩, by rw [ht]; exact hP9, va_K.moved hW.alike hK9, hD9⟩, hS.F ht⟩) hS.2.2 dL_fact_16)
    · skip
      refine vx_catch (own := RL) (name := eNE) (pc := 5) hown [⟨0, 10, 13, 19⟩] ⟨0, 10, 17, 33⟩ [] htb (fun z hz => by rw [List.mem_singleton.mp hz]; exact Or.inr ⟨(by decide), eIA, hts (.classLink RL 19 "java/lang/IllegalArgumentException") (by decide +kernel), hZ.2.2.2.2.2.1.1⟩) (by decide) (by decide) (hts (.classLink RL 33 "java/util/NoSuchElementException") (by decide +kernel)) (va_Nw.use rfl hZ.2.2.2.1.2.1) hce hcv hcl ?_
      refine W.eq (g2 := F0 m 17 ls [.ref q9]) rfl ?_
      have hK := hK.sub (tys' := [(cL, .long)]) [0] rfl
      refine lv_astore (lv' := [(4, .ref q9), (0, .ref h), (1, .int n), (2, .int wh), (3, .ref ao)]) hx hb dL_fact_17 hl (by decide) rfl (fun ls hl => ?_)
      refine lv_iconst (v := 2) hx hb dL_fact_19 (by decide) ?_
      have hP9 := hP.sub (ws' := [(ao, .inl (cL, 1, .inr (.inl fo)))]) [0] rfl
      have hD9 := hD.sub (ws' := [(ao, .inl (cL, 1, .inr (.inl fo)))]) [0] (by decide) rfl
      have hK9 := hK.sub (tys' := [(cL, .long)]) [0] rfl
      refine W.widen (k := 2) (n := 12) (Nat.le_of_ble_eq_true rfl) (Nat.le_of_ble_eq_true rfl) ?_
      exact (W.iret (v := 2) hx hb hr (fun t ht hW => ⟨⟨2, fo, rfl, Or.inr ⟨rfl, hp⟩, by rw [ht]; exact hP9, va_K.moved hW.alike hK9, hD9⟩, hS.F ht⟩) hS.2.2 dL_fact_20)
  · skip
    exact w_2.elim

set_option maxHeartbeats 4000000 in
set_option maxRecDepth 100000 in
/-- mark of the law -/
theorem h_mark (l : Launch) (hl0 : l.stackTraces = false) (dC : Nat → ClassId) (dI : Nat → Nat → Nat) (h : Nat) (aT : Nat) (aV : Nat) (aS : Nat) (aC : Nat) (aO : Nat) (aF : Nat) (aL : Nat) (aR : Nat) (aX : Nat) (sT : Nat) (sK : Nat) (sH : Nat) (hF : Nat) (hW : Nat) (hM : Nat) (cM : ClassId) (ao : Nat) (cL : ClassId) (fo : Nat → Int64) (sz : Nat)  : Met l yL_mark wsL_mark ({ frames := 2, cells := 0, slots := 0, locals := 40 } : Room) (va_Pc [.ref h, .ref ao] (ct_P (dC, dI) [(h, .inr (11, [.ref aT, .ref aV, .ref aS, .ref aC, .ref aO, .ref aF, .ref aL, .ref aR, .ref aX, .int 0, .int 0, .int 0])), (aS, .inr (9, [.ref sT, .ref sK, .ref sH, .int 0, .int 0, .int 0, .int 0, .int 0])), (sH, .inr (3, [.ref hF, .ref hW, .ref hM, .int 0, .int 0])), (hM, .inl (cM, 8, .inl (fun _ => 0))), (ao, .inl (cL, 1, .inr (.inl fo)))] [(cM, .int), (cL, .long)] sz)) (va_Qi (fun (r : Int32) (u : (Nat → Int64)) => r = 0 ∧ u 0 = (1 : Int32).toInt64) (fun (u : (Nat → Int64)) => ct_B (dC, dI) (va_A [(h, .inr (11, [.ref aT, .ref aV, .ref aS, .ref aC, .ref aO, .ref aF, .ref aL, .ref aR, .ref aX, .int 0, .int 0, .int 0])), (aS, .inr (9, [.ref sT, .ref sK, .ref sH, .int 0, .int 0, .int 0, .int 0, .int 0])), (sH, .inr (3, [.ref hF, .ref hW, .ref hM, .int 0, .int 0])), (hM, .inl (cM, 8, .inl (fun _ => 0))), (ao, .inl (cL, 1, .inr (.inl fo)))] sz) [(ao, .inl (cL, 1, .inr (.inl u)))] [(cL, .long)]) (va_A [(h, .inr (11, [.ref aT, .ref aV, .ref aS, .ref aC, .ref aO, .ref aF, .ref aL, .ref aR, .ref aX, .int 0, .int 0, .int 0])), (aS, .inr (9, [.ref sT, .ref sK, .ref sH, .int 0, .int 0, .int 0, .int 0, .int 0])), (sH, .inr (3, [.ref hF, .ref hW, .ref hM, .int 0, .int 0])), (hM, .inl (cM, 8, .inl (fun _ => 0))), (ao, .inl (cL, 1, .inr (.inl fo)))] sz)) 0 0 (va_A [(h, .inr (11, [.ref aT, .ref aV, .ref aS, .ref aC, .ref aO, .ref aF, .ref aL, .ref aR, .ref aX, .int 0, .int 0, .int 0])), (aS, .inr (9, [.ref sT, .ref sK, .ref sH, .int 0, .int 0, .int 0, .int 0, .int 0])), (sH, .inr (3, [.ref hF, .ref hW, .ref hM, .int 0, .int 0])), (hM, .inl (cM, 8, .inl (fun _ => 0))), (ao, .inl (cL, 1, .inr (.inl fo)))] sz) := by
  refine va_MetW (cc := cL_mark) (maxL := 3) (ret := (some .int)) (hh := [(0, 8, 11, 28)]) (by decide) rfl ?_
  intro p e s m args below meth c s₁ B hml hv
  obtain ⟨rfl, hsz, hP, hK, hD0, hZ⟩ := hv
  have hx := B.exec
  have hb := B.bytes
  have hr := B.returns
  have hts := atoms_spec (ws := wsL_mark) B.pre
  have hown : s.vm.findClass RL = some m.cls := findClass_of_methodNamed B.named
  have hlocks := B.notSynchronized
  have htb : c.exceptionTable.toList = tableOf [(0, 8, 11, 28)] := vx_table (x := yL_mark) B (hts _ List.mem_cons_self)
  subst hsz
  have hD := hD0.self (sz := s.heap.size)
  generalize hAe : va_A [(h, .inr (11, [.ref aT, .ref aV, .ref aS, .ref aC, .ref aO, .ref aF, .ref aL, .ref aR, .ref aX, .int 0, .int 0, .int 0])), (aS, .inr (9, [.ref sT, .ref sK, .ref sH, .int 0, .int 0, .int 0, .int 0, .int 0])), (sH, .inr (3, [.ref hF, .ref hW, .ref hM, .int 0, .int 0])), (hM, .inl (cM, 8, .inl (fun _ => 0))), (ao, .inl (cL, 1, .inr (.inl fo)))] s.heap.size = A at hD hZ ⊢
  have hA : ∀ q : Nat, s.heap.size ≤ q → A q := fun q h => by rw [← hAe]; exact Or.inr h
  have hS : va_S A s.heap s.heap [] := va_S.rf
  have hP : va_P (dC, dI) vwCl [(h, .inr (11, [.ref aT, .ref aV, .ref aS, .ref aC, .ref aO, .ref aF, .ref aL, .ref aR, .ref aX, .int 0, .int 0, .int 0])), (aS, .inr (9, [.ref sT, .ref sK, .ref sH, .int 0, .int 0, .int 0, .int 0, .int 0])), (sH, .inr (3, [.ref hF, .ref hW, .ref hM, .int 0, .int 0])), (hM, .inl (cM, 8, .inl (fun _ => 0))), (ao, .inl (cL, 1, .inr (.inl fo)))] s.heap := hP
  have hK : va_K (dC, dI) vwCl [(cM, .int), (cL, .long)] s := hK
  have hD : va_D A [(h, .inr (11, [.ref aT, .ref aV, .ref aS, .ref aC, .ref aO, .ref aF, .ref aL, .ref aR, .ref aX, .int 0, .int 0, .int 0])), (aS, .inr (9, [.ref sT, .ref sK, .ref sH, .int 0, .int 0, .int 0, .int 0, .int 0])), (sH, .inr (3, [.ref hF, .ref hW, .ref hM, .int 0, .int 0])), (hM, .inl (cM, 8, .inl (fun _ => 0))), (ao, .inl (cL, 1, .inr (.inl fo)))] := hD
  have hl := lv_entry ([.ref h, .ref ao]) (n := 3) (Nat.le_of_ble_eq_true rfl)
  rw [lg_entry_eq]
  generalize (lg_sl ([.ref h, .ref ao]) ++ List.replicate (3 - (lg_sl ([.ref h, .ref ao])).length) Slot.unset).toArray = ls at hl ⊢
  have hl : lv_has ls 3 [(0, .ref h), (1, .ref ao)] := hl
  refine lv_aload_n hx hb dL_mark_0 rfl (lv_at hl 1 rfl) ?_
  refine lv_iconst (v := 0) hx hb dL_mark_1 (by decide) ?_
  refine lv_aload_n hx hb dL_mark_2 rfl (lv_at hl 0 rfl) ?_
  refine xt_i (wr := [(ao, .inl (cL, 1, .inr (.inl fo)))]) (tyr := [(cL, .long)]) (vx_runV (As := []) (rest := [.int 0, .ref ao]) ⟨hx, hb, hml, hown, hts⟩ (c_mark l hl0 dC dI h aT aV aS aC aO aF aL aR aX sT sK sH hF hW hM cM s.heap.size ) (cwV 0 hts gL_mark_X11_mark rfl rfl rfl (by decide +kernel) ⟨Nat.le_of_ble_eq_true rfl, Nat.le_of_ble_eq_true rfl⟩) (ct_preV (ci := 11) (q0 := 0) hP hD hK hS hA hZ rfl rfl [0, 1, 2, 3] [0] rfl (by decide) rfl) rfl rfl hl.1 rfl (lv_room (Nat.le_of_ble_eq_true rfl)) dL_mark_3 ⟨Nat.le_of_ble_eq_true rfl, Nat.le_of_ble_eq_true rfl⟩) hP hD hK hS hA [0, 1, 2, 3] [4] [1] rfl rfl (by decide) (by decide) rfl (fun E ce q9 H locs hbx hS hP hD hce hcv hcl => ?_) (fun r_1 u H locs w_2 hP hD hK hS => ?_)
  · skip
    exact hbx.elim
  · skip
    try dsimp only at w_2
    have hP : va_P (dC, dI) vwCl [(ao, .inl (cL, 1, .inr (.inl fo)))] H := hP
    have hD : va_D A [(ao, .inl (cL, 1, .inr (.inl fo)))] := hD
    have hK : va_K (dC, dI) vwCl [(cL, .long)] s := hK
    obtain rfl : r_1 = 1 := w_2
    refine lv_i2l (v := (1 : Int32).toInt64) hx hb dL_mark_6 rfl ?_
    refine va_last hx hb hK hP hD hS 0 0 rfl rfl (by unfold vp_in; decide) dL_mark_7 (fun H locs hP hD hS => ?_)
    have hP : va_P (dC, dI) vwCl [(ao, .inl (cL, 1, .inr (.inl (vp_updL fo (0 : Int32).toNatClampNeg ((1 : Int32).toInt64)))))] H := hP
    have hD : va_D A [(ao, .inl (cL, 1, .inr (.inl (vp_updL fo (0 : Int32).toNatClampNeg ((1 : Int32).toInt64)))))] := hD
    refine lv_goto (tgt := 14) hx hb dL_mark_8 (by decide) ?_
    refine lv_iconst (v := 0) hx hb dL_mark_14 (by decide) ?_
    have hP9 := hP.sub (ws' := [(ao, .inl (cL, 1, .inr (.inl (vp_updL fo (0 : Int32).toNatClampNeg ((1 : Int32).toInt64)))))]) [0] rfl
    have hD9 := hD.sub (ws' := [(ao, .inl (cL, 1, .inr (.inl (vp_updL fo (0 : Int32).toNatClampNeg ((1 : Int32).toInt64)))))]) [0] (by decide) rfl
    have hK9 := hK.sub (tys' := [(cL, .long)]) [0] rfl
    refine W.widen (k := 0) (n := 0) (Nat.le_of_ble_eq_true rfl) (Nat.le_of_ble_eq_true rfl) ?_
    exact (W.iret (v := 0) hx hb hr (fun t ht hW => ⟨⟨0, (vp_updL fo (0 : Int32).toNatClampNeg ((1 : Int32).toInt64)), rfl, ⟨rfl, lw_u0 _ _⟩, by rw [ht]; exact hP9, va_K.moved hW.alike hK9, hD9⟩, hS.F ht⟩) hS.2.2 dL_mark_15)

set_option maxHeartbeats 4000000 in
set_option maxRecDepth 100000 in
/-- back of the law -/
theorem h_back (l : Launch) (hl0 : l.stackTraces = false) (dC : Nat → ClassId) (dI : Nat → Nat → Nat) (h : Nat) (aT : Nat) (aV : Nat) (aS : Nat) (aC : Nat) (aO : Nat) (aF : Nat) (aL : Nat) (aR : Nat) (aX : Nat) (sT : Nat) (sK : Nat) (sH : Nat) (hF : Nat) (hW : Nat) (hM : Nat) (b : Int32) (ao : Nat) (cL : ClassId) (fo : Nat → Int64) (sz : Nat)  : Met l yL_back wsL_back ({ frames := 7, cells := 1, slots := 6, locals := 113 } : Room) (va_Pc [.ref h, .int b, .ref ao] (ct_P (dC, dI) [(h, .inr (11, [.ref aT, .ref aV, .ref aS, .ref aC, .ref aO, .ref aF, .ref aL, .ref aR, .ref aX, .int 0, .int 0, .int 0])), (aS, .inr (9, [.ref sT, .ref sK, .ref sH, .int 0, .int 0, .int 0, .int 0, .int 0])), (sH, .inr (3, [.ref hF, .ref hW, .ref hM, .int 0, .int 0])), (ao, .inl (cL, 1, .inr (.inl fo)))] [(cL, .long)] sz)) (va_Qi (fun (r : Int32) (u : (Nat → Int64)) => r = 1) (fun (u : (Nat → Int64)) => ct_B (dC, dI) (va_A [(h, .inr (11, [.ref aT, .ref aV, .ref aS, .ref aC, .ref aO, .ref aF, .ref aL, .ref aR, .ref aX, .int 0, .int 0, .int 0])), (aS, .inr (9, [.ref sT, .ref sK, .ref sH, .int 0, .int 0, .int 0, .int 0, .int 0])), (sH, .inr (3, [.ref hF, .ref hW, .ref hM, .int 0, .int 0])), (ao, .inl (cL, 1, .inr (.inl fo)))] sz) [(ao, .inl (cL, 1, .inr (.inl u)))] [(cL, .long)]) (va_A [(h, .inr (11, [.ref aT, .ref aV, .ref aS, .ref aC, .ref aO, .ref aF, .ref aL, .ref aR, .ref aX, .int 0, .int 0, .int 0])), (aS, .inr (9, [.ref sT, .ref sK, .ref sH, .int 0, .int 0, .int 0, .int 0, .int 0])), (sH, .inr (3, [.ref hF, .ref hW, .ref hM, .int 0, .int 0])), (ao, .inl (cL, 1, .inr (.inl fo)))] sz)) 1 6 (va_A [(h, .inr (11, [.ref aT, .ref aV, .ref aS, .ref aC, .ref aO, .ref aF, .ref aL, .ref aR, .ref aX, .int 0, .int 0, .int 0])), (aS, .inr (9, [.ref sT, .ref sK, .ref sH, .int 0, .int 0, .int 0, .int 0, .int 0])), (sH, .inr (3, [.ref hF, .ref hW, .ref hM, .int 0, .int 0])), (ao, .inl (cL, 1, .inr (.inl fo)))] sz) := by
  refine va_MetW (cc := cL_back) (maxL := 4) (ret := (some .int)) (hh := [(0, 9, 12, 28)]) (by decide) rfl ?_
  intro p e s m args below meth c s₁ B hml hv
  obtain ⟨rfl, hsz, hP, hK, hD0, hZ⟩ := hv
  have hx := B.exec
  have hb := B.bytes
  have hr := B.returns
  have hts := atoms_spec (ws := wsL_back) B.pre
  have hown : s.vm.findClass RL = some m.cls := findClass_of_methodNamed B.named
  have hlocks := B.notSynchronized
  have htb : c.exceptionTable.toList = tableOf [(0, 9, 12, 28)] := vx_table (x := yL_back) B (hts _ List.mem_cons_self)
  subst hsz
  have hD := hD0.self (sz := s.heap.size)
  generalize hAe : va_A [(h, .inr (11, [.ref aT, .ref aV, .ref aS, .ref aC, .ref aO, .ref aF, .ref aL, .ref aR, .ref aX, .int 0, .int 0, .int 0])), (aS, .inr (9, [.ref sT, .ref sK, .ref sH, .int 0, .int 0, .int 0, .int 0, .int 0])), (sH, .inr (3, [.ref hF, .ref hW, .ref hM, .int 0, .int 0])), (ao, .inl (cL, 1, .inr (.inl fo)))] s.heap.size = A at hD hZ ⊢
  have hA : ∀ q : Nat, s.heap.size ≤ q → A q := fun q h => by rw [← hAe]; exact Or.inr h
  have hS : va_S A s.heap s.heap [] := va_S.rf
  have hP : va_P (dC, dI) vwCl [(h, .inr (11, [.ref aT, .ref aV, .ref aS, .ref aC, .ref aO, .ref aF, .ref aL, .ref aR, .ref aX, .int 0, .int 0, .int 0])), (aS, .inr (9, [.ref sT, .ref sK, .ref sH, .int 0, .int 0, .int 0, .int 0, .int 0])), (sH, .inr (3, [.ref hF, .ref hW, .ref hM, .int 0, .int 0])), (ao, .inl (cL, 1, .inr (.inl fo)))] s.heap := hP
  have hK : va_K (dC, dI) vwCl [(cL, .long)] s := hK
  have hD : va_D A [(h, .inr (11, [.ref aT, .ref aV, .ref aS, .ref aC, .ref aO, .ref aF, .ref aL, .ref aR, .ref aX, .int 0, .int 0, .int 0])), (aS, .inr (9, [.ref sT, .ref sK, .ref sH, .int 0, .int 0, .int 0, .int 0, .int 0])), (sH, .inr (3, [.ref hF, .ref hW, .ref hM, .int 0, .int 0])), (ao, .inl (cL, 1, .inr (.inl fo)))] := hD
  have hl := lv_entry ([.ref h, .int b, .ref ao]) (n := 4) (Nat.le_of_ble_eq_true rfl)
  rw [lg_entry_eq]
  generalize (lg_sl ([.ref h, .int b, .ref ao]) ++ List.replicate (4 - (lg_sl ([.ref h, .int b, .ref ao])).length) Slot.unset).toArray = ls at hl ⊢
  have hl : lv_has ls 4 [(0, .ref h), (1, .int b), (2, .ref ao)] := hl
  refine lv_aload_n hx hb dL_back_0 rfl (lv_at hl 2 rfl) ?_
  refine lv_iconst (v := 0) hx hb dL_back_1 (by decide) ?_
  refine lv_aload_n hx hb dL_back_2 rfl (lv_at hl 0 rfl) ?_
  refine lv_iload_n hx hb dL_back_3 rfl (lv_at hl 1 rfl) ?_
  refine xt_i (wr := [(ao, .inl (cL, 1, .inr (.inl fo)))]) (tyr := [(cL, .long)]) (vx_runV (As := [.int b]) (rest := [.int 0, .ref ao]) ⟨hx, hb, hml, hown, hts⟩ (c_back l hl0 dC dI h aT aV aS aC aO aF aL aR aX sT sK sH hF hW hM b s.heap.size ) (cwV 1 hts gL_back_X11_back rfl rfl rfl (by decide +kernel) ⟨Nat.le_of_ble_eq_true rfl, Nat.le_of_ble_eq_true rfl⟩) (ct_preV (ci := 11) (q0 := 0) hP hD hK hS hA hZ rfl rfl [0, 1, 2] [] rfl (by decide) rfl) rfl rfl hl.1 rfl (lv_room (Nat.le_of_ble_eq_true rfl)) dL_back_4 ⟨Nat.le_of_ble_eq_true rfl, Nat.le_of_ble_eq_true rfl⟩) hP hD hK hS hA [0, 1, 2] [3] [0] rfl rfl (by decide) (by decide) rfl (fun E ce q9 H locs hbx hS hP hD hce hcv hcl => ?_) (fun r_1 u H locs w_2 hP hD hK hS => ?_)
  · skip
    obtain rfl := hbx
    refine vx_catch (own := RL) (name := eIS) (pc := 4) hown [] ⟨0, 9, 12, 28⟩ [] htb (fun z hz => absurd hz (List.not_mem_nil)) (by decide) (by decide) (hts (.classLink RL 28 "java/lang/IllegalStateException") (by decide +kernel)) (va_Nw.use rfl hZ.2.2.2.1.2.2.1) hce hcv hcl ?_
    refine W.eq (g2 := F0 m 12 ls [.ref q9]) rfl ?_
    have hK := hK.sub (tys' := [(cL, .long)]) [0] rfl
    refine lv_astore_n (lv' := [(3, .ref q9), (0, .ref h), (1, .int b), (2, .ref ao)]) hx hb dL_back_12 rfl hl (by decide) rfl (fun ls hl => ?_)
    refine lv_iconst (v := 1) hx hb dL_back_13 (by decide) ?_
    have hP9 := hP.sub (ws' := [(ao, .inl (cL, 1, .inr (.inl fo)))]) [0] rfl
    have hD9 := hD.sub (ws' := [(ao, .inl (cL, 1, .inr (.inl fo)))]) [0] (by decide) rfl
    have hK9 := hK.sub (tys' := [(cL, .long)]) [0] rfl
    refine W.widen (k := 1) (n := 6) (Nat.le_of_ble_eq_true rfl) (Nat.le_of_ble_eq_true rfl) ?_
    exact (W.iret (v := 1) hx hb hr (fun t ht hW => ⟨⟨1, fo, rfl, rfl, by rw [ht]; exact hP9, va_K.moved hW.alike hK9, hD9⟩, hS.F ht⟩) hS.2.2 dL_back_14)
  · skip
    exact w_2.elim

set_option maxHeartbeats 4000000 in
set_option maxRecDepth 100000 in
/-- purge of the law -/
theorem h_purge (l : Launch) (hl0 : l.stackTraces = false) (dC : Nat → ClassId) (dI : Nat → Nat → Nat) (h : Nat) (aT : Nat) (aV : Nat) (aS : Nat) (aC : Nat) (aO : Nat) (aF : Nat) (aL : Nat) (aR : Nat) (aX : Nat) (sT : Nat) (sK : Nat) (sH : Nat) (hF : Nat) (hW : Nat) (hM : Nat) (cO : ClassId) (tm : Int32) (ao : Nat) (cL : ClassId) (fo : Nat → Int64) (sz : Nat)  : Met l yL_purge wsL_purge ({ frames := 9, cells := 1, slots := 6, locals := 154 } : Room) (va_Pc [.ref h, .int tm, .ref ao] (ct_P (dC, dI) [(h, .inr (11, [.ref aT, .ref aV, .ref aS, .ref aC, .ref aO, .ref aF, .ref aL, .ref aR, .ref aX, .int 0, .int 0, .int 0])), (aO, .inl (cO, 10, .inl (fun _ => 0))), (aS, .inr (9, [.ref sT, .ref sK, .ref sH, .int 0, .int 0, .int 0, .int 0, .int 0])), (sH, .inr (3, [.ref hF, .ref hW, .ref hM, .int 0, .int 0])), (ao, .inl (cL, 1, .inr (.inl fo)))] [(cO, .boolean), (cL, .long)] sz)) (va_Qi (fun (r : Int32) (u : (Nat → Int64)) => (r = 1 ∧ sp_bt tm) ∨ (r = 0 ∧ ¬ sp_bt tm ∧ u 0 = (0 : Int32).toInt64)) (fun (u : (Nat → Int64)) => ct_B (dC, dI) (va_A [(h, .inr (11, [.ref aT, .ref aV, .ref aS, .ref aC, .ref aO, .ref aF, .ref aL, .ref aR, .ref aX, .int 0, .int 0, .int 0])), (aO, .inl (cO, 10, .inl (fun _ => 0))), (aS, .inr (9, [.ref sT, .ref sK, .ref sH, .int 0, .int 0, .int 0, .int 0, .int 0])), (sH, .inr (3, [.ref hF, .ref hW, .ref hM, .int 0, .int 0])), (ao, .inl (cL, 1, .inr (.inl fo)))] sz) [(ao, .inl (cL, 1, .inr (.inl u)))] [(cL, .long)]) (va_A [(h, .inr (11, [.ref aT, .ref aV, .ref aS, .ref aC, .ref aO, .ref aF, .ref aL, .ref aR, .ref aX, .int 0, .int 0, .int 0])), (aO, .inl (cO, 10, .inl (fun _ => 0))), (aS, .inr (9, [.ref sT, .ref sK, .ref sH, .int 0, .int 0, .int 0, .int 0, .int 0])), (sH, .inr (3, [.ref hF, .ref hW, .ref hM, .int 0, .int 0])), (ao, .inl (cL, 1, .inr (.inl fo)))] sz)) 1 6 (va_A [(h, .inr (11, [.ref aT, .ref aV, .ref aS, .ref aC, .ref aO, .ref aF, .ref aL, .ref aR, .ref aX, .int 0, .int 0, .int 0])), (aO, .inl (cO, 10, .inl (fun _ => 0))), (aS, .inr (9, [.ref sT, .ref sK, .ref sH, .int 0, .int 0, .int 0, .int 0, .int 0])), (sH, .inr (3, [.ref hF, .ref hW, .ref hM, .int 0, .int 0])), (ao, .inl (cL, 1, .inr (.inl fo)))] sz) := by
  refine va_MetW (cc := cL_purge) (maxL := 4) (ret := (some .int)) (hh := [(0, 9, 12, 19), (0, 9, 15, 28)]) (by decide) rfl ?_
  intro p e s m args below meth c s₁ B hml hv
  obtain ⟨rfl, hsz, hP, hK, hD0, hZ⟩ := hv
  have hx := B.exec
  have hb := B.bytes
  have hr := B.returns
  have hts := atoms_spec (ws := wsL_purge) B.pre
  have hown : s.vm.findClass RL = some m.cls := findClass_of_methodNamed B.named
  have hlocks := B.notSynchronized
  have htb : c.exceptionTable.toList = tableOf [(0, 9, 12, 19), (0, 9, 15, 28)] := vx_table (x := yL_purge) B (hts _ List.mem_cons_self)
  subst hsz
  have hD := hD0.self (sz := s.heap.size)
  generalize hAe : va_A [(h, .inr (11, [.ref aT, .ref aV, .ref aS, .ref aC, .ref aO, .ref aF, .ref aL, .ref aR, .ref aX, .int 0, .int 0, .int 0])), (aO, .inl (cO, 10, .inl (fun _ => 0))), (aS, .inr (9, [.ref sT, .ref sK, .ref sH, .int 0, .int 0, .int 0, .int 0, .int 0])), (sH, .inr (3, [.ref hF, .ref hW, .ref hM, .int 0, .int 0])), (ao, .inl (cL, 1, .inr (.inl fo)))] s.heap.size = A at hD hZ ⊢
  have hA : ∀ q : Nat, s.heap.size ≤ q → A q := fun q h => by rw [← hAe]; exact Or.inr h
  have hS : va_S A s.heap s.heap [] := va_S.rf
  have hP : va_P (dC, dI) vwCl [(h, .inr (11, [.ref aT, .ref aV, .ref aS, .ref aC, .ref aO, .ref aF, .ref aL, .ref aR, .ref aX, .int 0, .int 0, .int 0])), (aO, .inl (cO, 10, .inl (fun _ => 0))), (aS, .inr (9, [.ref sT, .ref sK, .ref sH, .int 0, .int 0, .int 0, .int 0, .int 0])), (sH, .inr (3, [.ref hF, .ref hW, .ref hM, .int 0, .int 0])), (ao, .inl (cL, 1, .inr (.inl fo)))] s.heap := hP
  have hK : va_K (dC, dI) vwCl [(cO, .boolean), (cL, .long)] s := hK
  have hD : va_D A [(h, .inr (11, [.ref aT, .ref aV, .ref aS, .ref aC, .ref aO, .ref aF, .ref aL, .ref aR, .ref aX, .int 0, .int 0, .int 0])), (aO, .inl (cO, 10, .inl (fun _ => 0))), (aS, .inr (9, [.ref sT, .ref sK, .ref sH, .int 0, .int 0, .int 0, .int 0, .int 0])), (sH, .inr (3, [.ref hF, .ref hW, .ref hM, .int 0, .int 0])), (ao, .inl (cL, 1, .inr (.inl fo)))] := hD
  have hl := lv_entry ([.ref h, .int tm, .ref ao]) (n := 4) (Nat.le_of_ble_eq_true rfl)
  rw [lg_entry_eq]
  generalize (lg_sl ([.ref h, .int tm, .ref ao]) ++ List.replicate (4 - (lg_sl ([.ref h, .int tm, .ref ao])).length) Slot.unset).toArray = ls at hl ⊢
  have hl : lv_has ls 4 [(0, .ref h), (1, .int tm), (2, .ref ao)] := hl
  refine lv_aload_n hx hb dL_purge_0 rfl (lv_at hl 2 rfl) ?_
  refine lv_iconst (v := 0) hx hb dL_purge_1 (by decide) ?_
  refine lv_aload_n hx hb dL_purge_2 rfl (lv_at hl 0 rfl) ?_
  refine lv_iload_n hx hb dL_purge_3 rfl (lv_at hl 1 rfl) ?_
  refine xt_i (wr := [(ao, .inl (cL, 1, .inr (.inl fo)))]) (tyr := [(cL, .long)]) (vx_runV (As := [.int tm]) (rest := [.int 0, .ref ao]) ⟨hx, hb, hml, hown, hts⟩ (c_purge l hl0 dC dI h aT aV aS aC aO aF aL aR aX sT sK sH hF hW hM cO tm s.heap.size ) (cwV 1 hts gL_purge_X11_purge rfl rfl rfl (by decide +kernel) ⟨Nat.le_of_ble_eq_true rfl, Nat.le_of_ble_eq_true rfl⟩) (ct_preV (ci := 11) (q0 := 0) hP hD hK hS hA hZ rfl rfl [0, 1, 2, 3] [0] rfl (by decide) rfl) rfl rfl hl.1 rfl (lv_room (Nat.le_of_ble_eq_true rfl)) dL_purge_4 ⟨Nat.le_of_ble_eq_true rfl, Nat.le_of_ble_eq_true rfl⟩) hP hD hK hS hA [0, 1, 2, 3] [4] [1] rfl rfl (by decide) (by decide) rfl (fun E ce q9 H locs hbx hS hP hD hce hcv hcl => ?_) (fun r_1 u H locs w_2 hP hD hK hS => ?_)
  · skip
    rcases hbx with ⟨rfl, hp⟩
    refine vx_catch (own := RL) (name := eIA) (pc := 4) hown [] ⟨0, 9, 12, 19⟩ [⟨0, 9, 15, 28⟩] htb (fun z hz => absurd hz (List.not_mem_nil)) (by decide) (by decide) (hts (.classLink RL 19 "java/lang/IllegalArgumentException") (by decide +kernel)) (va_Nw.use rfl hZ.2.2.2.1.1) hce hcv hcl ?_
    refine W.eq (g2 := F0 m 12 ls [.ref q9]) rfl ?_
    have hK := hK.sub (tys' := [(cL, .long)]) [1] rfl
    refine lv_astore_n (lv' := [(3, .ref q9), (0, .ref h), (1, .int tm), (2, .ref ao)]) hx hb dL_purge_12 rfl hl (by decide) rfl (fun ls hl => ?_)
    refine lv_iconst (v := 1) hx hb dL_purge_13 (by decide) ?_
    have hP9 := hP.sub (ws' := [(ao, .inl (cL, 1, .inr (.inl fo)))]) [0] rfl
    have hD9 := hD.sub (ws' := [(ao, .inl (cL, 1, .inr (.inl fo)))]) [0] (by decide) rfl
    have hK9 := hK.sub (tys' := [(cL, .long)]) [0] rfl
    refine W.widen (k := 1) (n := 6) (Nat.le_of_ble_eq_true rfl) (Nat.le_of_ble_eq_true rfl) ?_
    exact (W.iret (v := 1) hx hb hr (fun t ht hW => ⟨⟨1, fo, rfl, Or.inl ⟨rfl, hp⟩, by rw [ht]; exact hP9, va_K.moved hW.alike hK9, hD9⟩, hS.F ht⟩) hS.2.2 dL_purge_14)
  · skip
    try dsimp only at w_2
    have hP : va_P (dC, dI) vwCl [(ao, .inl (cL, 1, .inr (.inl fo)))] H := hP
    have hD : va_D A [(ao, .inl (cL, 1, .inr (.inl fo)))] := hD
    have hK : va_K (dC, dI) vwCl [(cL, .long)] s := hK
    refine W.widen (k := 1) (n := 6) (Nat.le_of_ble_eq_true rfl) (Nat.le_of_ble_eq_true rfl) ?_
    obtain rfl : r_1 = 0 := w_2.1
    refine lv_i2l (v := (0 : Int32).toInt64) hx hb dL_purge_7 rfl ?_
    refine va_last hx hb hK hP hD hS 0 0 rfl rfl (by unfold vp_in; decide) dL_purge_8 (fun H locs hP hD hS => ?_)
    have hP : va_P (dC, dI) vwCl [(ao, .inl (cL, 1, .inr (.inl (vp_updL fo (0 : Int32).toNatClampNeg ((0 : Int32).toInt64)))))] H := hP
    have hD : va_D A [(ao, .inl (cL, 1, .inr (.inl (vp_updL fo (0 : Int32).toNatClampNeg ((0 : Int32).toInt64)))))] := hD
    refine lv_goto (tgt := 18) hx hb dL_purge_9 (by decide) ?_
    refine lv_iconst (v := 0) hx hb dL_purge_18 (by decide) ?_
    have hP9 := hP.sub (ws' := [(ao, .inl (cL, 1, .inr (.inl (vp_updL fo (0 : Int32).toNatClampNeg ((0 : Int32).toInt64)))))]) [0] rfl
    have hD9 := hD.sub (ws' := [(ao, .inl (cL, 1, .inr (.inl (vp_updL fo (0 : Int32).toNatClampNeg ((0 : Int32).toInt64)))))]) [0] (by decide) rfl
    have hK9 := hK.sub (tys' := [(cL, .long)]) [0] rfl
    refine W.widen (k := 1) (n := 6) (Nat.le_of_ble_eq_true rfl) (Nat.le_of_ble_eq_true rfl) ?_
    exact (W.iret (v := 0) hx hb hr (fun t ht hW => ⟨⟨0, (vp_updL fo (0 : Int32).toNatClampNeg ((0 : Int32).toInt64)), rfl, Or.inr ⟨rfl, w_2.2, lw_u0 _ _⟩, by rw [ht]; exact hP9, va_K.moved hW.alike hK9, hD9⟩, hS.F ht⟩) hS.2.2 dL_purge_19)

set_option maxHeartbeats 4000000 in
set_option maxRecDepth 100000 in
/-- changes of the law -/
theorem h_changes (l : Launch) (hl0 : l.stackTraces = false) (dC : Nat → ClassId) (dI : Nat → Nat → Nat) (h : Nat) (aT : Nat) (aV : Nat) (aS : Nat) (aC : Nat) (aO : Nat) (aF : Nat) (aL : Nat) (aR : Nat) (aX : Nat) (sT : Nat) (sK : Nat) (sH : Nat) (t : Int32) (ta : Int32) (tb : Int32) (ao : Nat) (cL : ClassId) (fo : Nat → Int64) (sz : Nat)  : Met l yL_changes wsL_changes ({ frames := 9, cells := 3, slots := 18, locals := 160 } : Room) (va_Pc [.ref h, .int t, .int ta, .int tb, .ref ao] (ct_P (dC, dI) [(h, .inr (11, [.ref aT, .ref aV, .ref aS, .ref aC, .ref aO, .ref aF, .ref aL, .ref aR, .ref aX, .int 0, .int 0, .int 0])), (aS, .inr (9, [.ref sT, .ref sK, .ref sH, .int 0, .int 0, .int 0, .int 0, .int 0])), (ao, .inl (cL, 1, .inr (.inl fo)))] [(cL, .long)] sz)) (va_Qi (fun (r : Int32) (u : (Nat → Int64)) => (r = 1 ∧ (sp_bt ta ∨ sp_bt tb)) ∨ (r = 2 ∧ ¬ (sp_bt ta ∨ sp_bt tb))) (fun (u : (Nat → Int64)) => ct_B (dC, dI) (va_A [(h, .inr (11, [.ref aT, .ref aV, .ref aS, .ref aC, .ref aO, .ref aF, .ref aL, .ref aR, .ref aX, .int 0, .int 0, .int 0])), (aS, .inr (9, [.ref sT, .ref sK, .ref sH, .int 0, .int 0, .int 0, .int 0, .int 0])), (ao, .inl (cL, 1, .inr (.inl fo)))] sz) [(ao, .inl (cL, 1, .inr (.inl u)))] [(cL, .long)]) (va_A [(h, .inr (11, [.ref aT, .ref aV, .ref aS, .ref aC, .ref aO, .ref aF, .ref aL, .ref aR, .ref aX, .int 0, .int 0, .int 0])), (aS, .inr (9, [.ref sT, .ref sK, .ref sH, .int 0, .int 0, .int 0, .int 0, .int 0])), (ao, .inl (cL, 1, .inr (.inl fo)))] sz)) 3 18 (va_A [(h, .inr (11, [.ref aT, .ref aV, .ref aS, .ref aC, .ref aO, .ref aF, .ref aL, .ref aR, .ref aX, .int 0, .int 0, .int 0])), (aS, .inr (9, [.ref sT, .ref sK, .ref sH, .int 0, .int 0, .int 0, .int 0, .int 0])), (ao, .inl (cL, 1, .inr (.inl fo)))] sz) := by
  refine va_MetW (cc := cL_changes) (maxL := 6) (ret := (some .int)) (hh := [(0, 12, 15, 19), (0, 12, 19, 33)]) (by decide) rfl ?_
  intro p e s m args below meth c s₁ B hml hv
  obtain ⟨rfl, hsz, hP, hK, hD0, hZ⟩ := hv
  have hx := B.exec
  have hb := B.bytes
  have hr := B.returns
  have hts := atoms_spec (ws := wsL_changes) B.pre
  have hown : s.vm.findClass RL = some m.cls := findClass_of_methodNamed B.named
  have hlocks := B.notSynchronized
  have htb : c.exceptionTable.toList = tableOf [(0, 12, 15, 19), (0, 12, 19, 33)] := vx_table (x := yL_changes) B (hts _ List.mem_cons_self)
  subst hsz
  have hD := hD0.self (sz := s.heap.size)
  generalize hAe : va_A [(h, .inr (11, [.ref aT, .ref aV, .ref aS, .ref aC, .ref aO, .ref aF, .ref aL, .ref aR, .ref aX, .int 0, .int 0, .int 0])), (aS, .inr (9, [.ref sT, .ref sK, .ref sH, .int 0, .int 0, .int 0, .int 0, .int 0])), (ao, .inl (cL, 1, .inr (.inl fo)))] s.heap.size = A at hD hZ ⊢
  have hA : ∀ q : Nat, s.heap.size ≤ q → A q := fun q h => by rw [← hAe]; exact Or.inr h
  have hS : va_S A s.heap s.heap [] := va_S.rf
  have hP : va_P (dC, dI) vwCl [(h, .inr (11, [.ref aT, .ref aV, .ref aS, .ref aC, .ref aO, .ref aF, .ref aL, .ref aR, .ref aX, .int 0, .int 0, .int 0])), (aS, .inr (9, [.ref sT, .ref sK, .ref sH, .int 0, .int 0, .int 0, .int 0, .int 0])), (ao, .inl (cL, 1, .inr (.inl fo)))] s.heap := hP
  have hK : va_K (dC, dI) vwCl [(cL, .long)] s := hK
  have hD : va_D A [(h, .inr (11, [.ref aT, .ref aV, .ref aS, .ref aC, .ref aO, .ref aF, .ref aL, .ref aR, .ref aX, .int 0, .int 0, .int 0])), (aS, .inr (9, [.ref sT, .ref sK, .ref sH, .int 0, .int 0, .int 0, .int 0, .int 0])), (ao, .inl (cL, 1, .inr (.inl fo)))] := hD
  have hl := lv_entry ([.ref h, .int t, .int ta, .int tb, .ref ao]) (n := 6) (Nat.le_of_ble_eq_true rfl)
  rw [lg_entry_eq]
  generalize (lg_sl ([.ref h, .int t, .int ta, .int tb, .ref ao]) ++ List.replicate (6 - (lg_sl ([.ref h, .int t, .int ta, .int tb, .ref ao])).length) Slot.unset).toArray = ls at hl ⊢
  have hl : lv_has ls 6 [(0, .ref h), (1, .int t), (2, .int ta), (3, .int tb), (4, .ref ao)] := hl
  refine lv_aload hx hb dL_changes_0 (lv_at hl 4 rfl) ?_
  refine lv_iconst (v := 0) hx hb dL_changes_2 (by decide) ?_
  refine lv_aload_n hx hb dL_changes_3 rfl (lv_at hl 0 rfl) ?_
  refine lv_iload_n hx hb dL_changes_4 rfl (lv_at hl 1 rfl) ?_
  refine lv_iload_n hx hb dL_changes_5 rfl (lv_at hl 2 rfl) ?_
  refine lv_iload_n hx hb dL_changes_6 rfl (lv_at hl 3 rfl) ?_
  refine xt_i (wr := [(ao, .inl (cL, 1, .inr (.inl fo)))]) (tyr := [(cL, .long)]) (vx_runV (As := [.int t, .int ta, .int tb]) (rest := [.int 0, .ref ao]) ⟨hx, hb, hml, hown, hts⟩ (c_changes l hl0 dC dI h aT aV aS aC aO aF aL aR aX sT sK sH t ta tb s.heap.size ) (cwV 3 hts gL_changes_X11_changes rfl rfl rfl (by decide +kernel) ⟨Nat.le_of_ble_eq_true rfl, Nat.le_of_ble_eq_true rfl⟩) (ct_preV (ci := 11) (q0 := 0) hP hD hK hS hA hZ rfl rfl [0, 1] [] rfl (by decide) rfl) rfl rfl hl.1 rfl (lv_room (Nat.le_of_ble_eq_true rfl)) dL_changes_7 ⟨Nat.le_of_ble_eq_true rfl, Nat.le_of_ble_eq_true rfl⟩) hP hD hK hS hA [0, 1] [2] [0] rfl rfl (by decide) (by decide) rfl (fun E ce q9 H locs hbx hS hP hD hce hcv hcl => ?_) (fun r_1 u H locs w_2 hP hD hK hS => ?_)
  · skip
    rcases hbx with ⟨rfl, hp⟩ | ⟨rfl, hp⟩
    · skip
      refine vx_catch (own := RL) (name := eIA) (pc := 7) hown [] ⟨0, 12, 15, 19⟩ [⟨0, 12, 19, 33⟩] htb (fun z hz => absurd hz (List.not_mem_nil)) (by decide) (by decide) (hts (.classLink RL 19 "java/lang/IllegalArgumentException") (by decide +kernel)) (va_Nw.use rfl hZ.2.2.2.1.1) hce hcv hcl ?_
      refine W.eq (g2 := F0 m 15 ls [.ref q9]) rfl ?_
      have hK := hK.sub (tys' := [(cL, .long)]) [0] rfl
      refine lv_astore (lv' := [(5, .ref q9), (0, .ref h), (1, .int t), (2, .int ta), (3, .int tb), (4, .ref ao)]) hx hb dL_changes_15 hl (by decide) rfl (fun ls hl => ?_)
      refine lv_iconst (v := 1) hx hb dL_changes_17 (by decide) ?_
      have hP9 := hP.sub (ws' := [(ao, .inl (cL, 1, .inr (.inl fo)))]) [0] rfl
      have hD9 := hD.sub (ws' := [(ao, .inl (cL, 1, .inr (.inl fo)))]) [0] (by decide) rfl
      have hK9 := hK.sub (tys' := [(cL, .long)]) [0] rfl
      refine W.widen (k := 3) (n := 18) (Nat.le_of_ble_eq_true rfl) (Nat.le_of_ble_eq_true rfl) ?_
      exact (W.iret (v := 1) hx hb hr (fun t ht hW => ⟨⟨1, fo, rfl, Or.inl ⟨rfl, hp⟩, by rw [ht]; exact hP9, va_K.moved hW.alike hK9, hD9⟩, hS.F ht⟩) hS.2.2 dL_changes_18)
    · skip
      refine vx_catch (own := RL) (name := eNE) (pc := 7) hown [⟨0, 12, 15, 19⟩] ⟨0, 12, 19, 33⟩ [] htb (fun z hz => by rw [List.mem_singleton.mp hz]; exact Or.inr ⟨(by decide), eIA, hts (.classLink RL 19 "java/lang/IllegalArgumentException") (by decide +kernel), hZ.2.2.2.2.2.1.1⟩) (by decide) (by decide) (hts (.classLink RL 33 "java/util/NoSuchElementException") (by decide +kernel)) (va_Nw.use rfl hZ.2.2.2.1.2.1) hce hcv hcl ?_
      refine W.eq (g2 := F0 m 19 ls [.ref q9]) rfl ?_
      have hK := hK.sub (tys' := [(cL, .long)]) [0] rfl
      refine lv_astore (lv' := [(5, .ref q9), (0, .ref h), (1, .int t), (2, .int ta), (3, .int tb), (4, .ref ao)]) hx hb dL_changes_19 hl (by decide) rfl (fun ls hl => ?_)
      refine lv_iconst (v := 2) hx hb dL_changes_21 (by decide) ?_
      have hP9 := hP.sub (ws' := [(ao, .inl (cL, 1, .inr (.inl fo)))]) [0] rfl
      have hD9 := hD.sub (ws' := [(ao, .inl (cL, 1, .inr (.inl fo)))]) [0] (by decide) rfl
      have hK9 := hK.sub (tys' := [(cL, .long)]) [0] rfl
      refine W.widen (k := 3) (n := 18) (Nat.le_of_ble_eq_true rfl) (Nat.le_of_ble_eq_true rfl) ?_
      exact (W.iret (v := 2) hx hb hr (fun t ht hW => ⟨⟨2, fo, rfl, Or.inr ⟨rfl, hp⟩, by rw [ht]; exact hP9, va_K.moved hW.alike hK9, hD9⟩, hS.F ht⟩) hS.2.2 dL_changes_22)
  · skip
    exact w_2.elim

set_option maxHeartbeats 4000000 in
set_option maxRecDepth 100000 in
/-- found of the law -/
theorem h_found (l : Launch) (hl0 : l.stackTraces = false) (dC : Nat → ClassId) (dI : Nat → Nat → Nat) (h : Nat) (aT : Nat) (aV : Nat) (aS : Nat) (aC : Nat) (aO : Nat) (aF : Nat) (aL : Nat) (aR : Nat) (aX : Nat) (ix : Int32) (ao : Nat) (cL : ClassId) (fo : Nat → Int64) (sz : Nat)  : Met l yL_found wsL_found ({ frames := 7, cells := 1, slots := 6, locals := 111 } : Room) (va_Pc [.ref h, .int ix, .ref ao] (ct_P (dC, dI) [(h, .inr (11, [.ref aT, .ref aV, .ref aS, .ref aC, .ref aO, .ref aF, .ref aL, .ref aR, .ref aX, .int 0, .int 0, .int 0])), (ao, .inl (cL, 1, .inr (.inl fo)))] [(cL, .long)] sz)) (va_Qi (fun (r : Int32) (u : (Nat → Int64)) => r = 1) (fun (u : (Nat → Int64)) => ct_B (dC, dI) (va_A [(h, .inr (11, [.ref aT, .ref aV, .ref aS, .ref aC, .ref aO, .ref aF, .ref aL, .ref aR, .ref aX, .int 0, .int 0, .int 0])), (ao, .inl (cL, 1, .inr (.inl fo)))] sz) [(ao, .inl (cL, 1, .inr (.inl u)))] [(cL, .long)]) (va_A [(h, .inr (11, [.ref aT, .ref aV, .ref aS, .ref aC, .ref aO, .ref aF, .ref aL, .ref aR, .ref aX, .int 0, .int 0, .int 0])), (ao, .inl (cL, 1, .inr (.inl fo)))] sz)) 1 6 (va_A [(h, .inr (11, [.ref aT, .ref aV, .ref aS, .ref aC, .ref aO, .ref aF, .ref aL, .ref aR, .ref aX, .int 0, .int 0, .int 0])), (ao, .inl (cL, 1, .inr (.inl fo)))] sz) := by
  refine va_MetW (cc := cL_found) (maxL := 4) (ret := (some .int)) (hh := [(0, 9, 12, 13)]) (by decide) rfl ?_
  intro p e s m args below meth c s₁ B hml hv
  obtain ⟨rfl, hsz, hP, hK, hD0, hZ⟩ := hv
  have hx := B.exec
  have hb := B.bytes
  have hr := B.returns
  have hts := atoms_spec (ws := wsL_found) B.pre
  have hown : s.vm.findClass RL = some m.cls := findClass_of_methodNamed B.named
  have hlocks := B.notSynchronized
  have htb : c.exceptionTable.toList = tableOf [(0, 9, 12, 13)] := vx_table (x := yL_found) B (hts _ List.mem_cons_self)
  subst hsz
  have hD := hD0.self (sz := s.heap.size)
  generalize hAe : va_A [(h, .inr (11, [.ref aT, .ref aV, .ref aS, .ref aC, .ref aO, .ref aF, .ref aL, .ref aR, .ref aX, .int 0, .int 0, .int 0])), (ao, .inl (cL, 1, .inr (.inl fo)))] s.heap.size = A at hD hZ ⊢
  have hA : ∀ q : Nat, s.heap.size ≤ q → A q := fun q h => by rw [← hAe]; exact Or.inr h
  have hS : va_S A s.heap s.heap [] := va_S.rf
  have hP : va_P (dC, dI) vwCl [(h, .inr (11, [.ref aT, .ref aV, .ref aS, .ref aC, .ref aO, .ref aF, .ref aL, .ref aR, .ref aX, .int 0, .int 0, .int 0])), (ao, .inl (cL, 1, .inr (.inl fo)))] s.heap := hP
  have hK : va_K (dC, dI) vwCl [(cL, .long)] s := hK
  have hD : va_D A [(h, .inr (11, [.ref aT, .ref aV, .ref aS, .ref aC, .ref aO, .ref aF, .ref aL, .ref aR, .ref aX, .int 0, .int 0, .int 0])), (ao, .inl (cL, 1, .inr (.inl fo)))] := hD
  have hl := lv_entry ([.ref h, .int ix, .ref ao]) (n := 4) (Nat.le_of_ble_eq_true rfl)
  rw [lg_entry_eq]
  generalize (lg_sl ([.ref h, .int ix, .ref ao]) ++ List.replicate (4 - (lg_sl ([.ref h, .int ix, .ref ao])).length) Slot.unset).toArray = ls at hl ⊢
  have hl : lv_has ls 4 [(0, .ref h), (1, .int ix), (2, .ref ao)] := hl
  refine lv_aload_n hx hb dL_found_0 rfl (lv_at hl 2 rfl) ?_
  refine lv_iconst (v := 0) hx hb dL_found_1 (by decide) ?_
  refine lv_aload_n hx hb dL_found_2 rfl (lv_at hl 0 rfl) ?_
  refine lv_iload_n hx hb dL_found_3 rfl (lv_at hl 1 rfl) ?_
  refine xt_i (wr := [(ao, .inl (cL, 1, .inr (.inl fo)))]) (tyr := [(cL, .long)]) (vx_runV (As := [.int ix]) (rest := [.int 0, .ref ao]) ⟨hx, hb, hml, hown, hts⟩ (c_found l hl0 dC dI h aT aV aS aC aO aF aL aR aX ix s.heap.size ) (cwV 1 hts gL_found_X11_found rfl rfl rfl (by decide +kernel) ⟨Nat.le_of_ble_eq_true rfl, Nat.le_of_ble_eq_true rfl⟩) (ct_preV (ci := 11) (q0 := 0) hP hD hK hS hA hZ rfl rfl [0] [] rfl (by decide) rfl) rfl rfl hl.1 rfl (lv_room (Nat.le_of_ble_eq_true rfl)) dL_found_4 ⟨Nat.le_of_ble_eq_true rfl, Nat.le_of_ble_eq_true rfl⟩) hP hD hK hS hA [0] [1] [0] rfl rfl (by decide) (by decide) rfl (fun E ce q9 H locs hbx hS hP hD hce hcv hcl => ?_) (fun r_1 u H locs w_2 hP hD hK hS => ?_)
  · skip
    obtain rfl := hbx
    refine vx_catch (own := RL) (name := eIB) (pc := 4) hown [] ⟨0, 9, 12, 13⟩ [] htb (fun z hz => absurd hz (List.not_mem_nil)) (by decide) (by decide) (hts (.classLink RL 13 "java/lang/IndexOutOfBoundsException") (by decide +kernel)) (va_Nw.use rfl hZ.2.2.2.1.2.2.2.1) hce hcv hcl ?_
    refine W.eq (g2 := F0 m 12 ls [.ref q9]) rfl ?_
    have hK := hK.sub (tys' := [(cL, .long)]) [0] rfl
    refine lv_astore_n (lv' := [(3, .ref q9), (0, .ref h), (1, .int ix), (2, .ref ao)]) hx hb dL_found_12 rfl hl (by decide) rfl (fun ls hl => ?_)
    refine lv_iconst (v := 1) hx hb dL_found_13 (by decide) ?_
    have hP9 := hP.sub (ws' := [(ao, .inl (cL, 1, .inr (.inl fo)))]) [0] rfl
    have hD9 := hD.sub (ws' := [(ao, .inl (cL, 1, .inr (.inl fo)))]) [0] (by decide) rfl
    have hK9 := hK.sub (tys' := [(cL, .long)]) [0] rfl
    refine W.widen (k := 1) (n := 6) (Nat.le_of_ble_eq_true rfl) (Nat.le_of_ble_eq_true rfl) ?_
    exact (W.iret (v := 1) hx hb hr (fun t ht hW => ⟨⟨1, fo, rfl, rfl, by rw [ht]; exact hP9, va_K.moved hW.alike hK9, hD9⟩, hS.F ht⟩) hS.2.2 dL_found_14)
  · skip
    exact w_2.elim

set_option maxHeartbeats 4000000 in
set_option maxRecDepth 100000 in
/-- question of the law -/
theorem h_question (l : Launch) (hl0 : l.stackTraces = false) (dC : Nat → ClassId) (dI : Nat → Nat → Nat) (h : Nat) (aT : Nat) (aV : Nat) (aS : Nat) (aC : Nat) (aO : Nat) (aF : Nat) (aL : Nat) (aR : Nat) (aX : Nat) (sT : Nat) (sK : Nat) (sH : Nat) (rG : Nat) (g0 : Nat) (gK : Nat) (gA : Nat) (cK : ClassId) (cG : ClassId) (cR : ClassId) (gf : Nat → Option Nat) (tm : Int32) (ao : Nat) (cL : ClassId) (fo : Nat → Int64) (sz : Nat) (hg : gf 0 = some g0) : Met l yL_question wsL_question ({ frames := 12, cells := 2, slots := 12, locals := 229 } : Room) (va_Pc [.ref h, .int tm, .ref ao] (ct_P (dC, dI) [(h, .inr (11, [.ref aT, .ref aV, .ref aS, .ref aC, .ref aO, .ref aF, .ref aL, .ref aR, .ref aX, .int 0, .int 0, .int 0])), (aS, .inr (9, [.ref sT, .ref sK, .ref sH, .int 0, .int 0, .int 0, .int 0, .int 0])), (aR, .inr (6, [.ref rG, .int 0, .int 0, .int (-1), .null, .int 0, .int 0, .null])), (rG, .inl (cR, 10, .inr (.inr (.inr (.inr gf))))), (g0, .inr (2, [.ref gK, .ref gA, .int 0, .null, .int 0, .int 0])), (gK, .inl (cK, 4, .inl (fun _ => 0))), (gA, .inl (cG, 4, .inl (fun _ => 0))), (ao, .inl (cL, 1, .inr (.inl fo)))] [(cR, .object RX2), (cK, .int), (cG, .int), (cL, .long)] sz)) (va_Qi (fun (r : Int32) (u : (Nat → Int64)) => (r = 1 ∧ sp_bt tm) ∨ (r = 2 ∧ ¬ sp_bt tm)) (fun (u : (Nat → Int64)) => ct_B (dC, dI) (va_A [(h, .inr (11, [.ref aT, .ref aV, .ref aS, .ref aC, .ref aO, .ref aF, .ref aL, .ref aR, .ref aX, .int 0, .int 0, .int 0])), (aS, .inr (9, [.ref sT, .ref sK, .ref sH, .int 0, .int 0, .int 0, .int 0, .int 0])), (aR, .inr (6, [.ref rG, .int 0, .int 0, .int (-1), .null, .int 0, .int 0, .null])), (rG, .inl (cR, 10, .inr (.inr (.inr (.inr gf))))), (g0, .inr (2, [.ref gK, .ref gA, .int 0, .null, .int 0, .int 0])), (gK, .inl (cK, 4, .inl (fun _ => 0))), (gA, .inl (cG, 4, .inl (fun _ => 0))), (ao, .inl (cL, 1, .inr (.inl fo)))] sz) [(ao, .inl (cL, 1, .inr (.inl u)))] [(cL, .long)]) (va_A [(h, .inr (11, [.ref aT, .ref aV, .ref aS, .ref aC, .ref aO, .ref aF, .ref aL, .ref aR, .ref aX, .int 0, .int 0, .int 0])), (aS, .inr (9, [.ref sT, .ref sK, .ref sH, .int 0, .int 0, .int 0, .int 0, .int 0])), (aR, .inr (6, [.ref rG, .int 0, .int 0, .int (-1), .null, .int 0, .int 0, .null])), (rG, .inl (cR, 10, .inr (.inr (.inr (.inr gf))))), (g0, .inr (2, [.ref gK, .ref gA, .int 0, .null, .int 0, .int 0])), (gK, .inl (cK, 4, .inl (fun _ => 0))), (gA, .inl (cG, 4, .inl (fun _ => 0))), (ao, .inl (cL, 1, .inr (.inl fo)))] sz)) 2 12 (va_A [(h, .inr (11, [.ref aT, .ref aV, .ref aS, .ref aC, .ref aO, .ref aF, .ref aL, .ref aR, .ref aX, .int 0, .int 0, .int 0])), (aS, .inr (9, [.ref sT, .ref sK, .ref sH, .int 0, .int 0, .int 0, .int 0, .int 0])), (aR, .inr (6, [.ref rG, .int 0, .int 0, .int (-1), .null, .int 0, .int 0, .null])), (rG, .inl (cR, 10, .inr (.inr (.inr (.inr gf))))), (g0, .inr (2, [.ref gK, .ref gA, .int 0, .null, .int 0, .int 0])), (gK, .inl (cK, 4, .inl (fun _ => 0))), (gA, .inl (cG, 4, .inl (fun _ => 0))), (ao, .inl (cL, 1, .inr (.inl fo)))] sz) := by
  refine va_MetW (cc := cL_question) (maxL := 4) (ret := (some .int)) (hh := [(0, 9, 12, 19), (0, 9, 15, 41), (0, 9, 18, 85)]) (by decide) rfl ?_
  intro p e s m args below meth c s₁ B hml hv
  obtain ⟨rfl, hsz, hP, hK, hD0, hZ⟩ := hv
  have hx := B.exec
  have hb := B.bytes
  have hr := B.returns
  have hts := atoms_spec (ws := wsL_question) B.pre
  have hown : s.vm.findClass RL = some m.cls := findClass_of_methodNamed B.named
  have hlocks := B.notSynchronized
  have htb : c.exceptionTable.toList = tableOf [(0, 9, 12, 19), (0, 9, 15, 41), (0, 9, 18, 85)] := vx_table (x := yL_question) B (hts _ List.mem_cons_self)
  subst hsz
  have hD := hD0.self (sz := s.heap.size)
  generalize hAe : va_A [(h, .inr (11, [.ref aT, .ref aV, .ref aS, .ref aC, .ref aO, .ref aF, .ref aL, .ref aR, .ref aX, .int 0, .int 0, .int 0])), (aS, .inr (9, [.ref sT, .ref sK, .ref sH, .int 0, .int 0, .int 0, .int 0, .int 0])), (aR, .inr (6, [.ref rG, .int 0, .int 0, .int (-1), .null, .int 0, .int 0, .null])), (rG, .inl (cR, 10, .inr (.inr (.inr (.inr gf))))), (g0, .inr (2, [.ref gK, .ref gA, .int 0, .null, .int 0, .int 0])), (gK, .inl (cK, 4, .inl (fun _ => 0))), (gA, .inl (cG, 4, .inl (fun _ => 0))), (ao, .inl (cL, 1, .inr (.inl fo)))] s.heap.size = A at hD hZ ⊢
  have hA : ∀ q : Nat, s.heap.size ≤ q → A q := fun q h => by rw [← hAe]; exact Or.inr h
  have hS : va_S A s.heap s.heap [] := va_S.rf
  have hP : va_P (dC, dI) vwCl [(h, .inr (11, [.ref aT, .ref aV, .ref aS, .ref aC, .ref aO, .ref aF, .ref aL, .ref aR, .ref aX, .int 0, .int 0, .int 0])), (aS, .inr (9, [.ref sT, .ref sK, .ref sH, .int 0, .int 0, .int 0, .int 0, .int 0])), (aR, .inr (6, [.ref rG, .int 0, .int 0, .int (-1), .null, .int 0, .int 0, .null])), (rG, .inl (cR, 10, .inr (.inr (.inr (.inr gf))))), (g0, .inr (2, [.ref gK, .ref gA, .int 0, .null, .int 0, .int 0])), (gK, .inl (cK, 4, .inl (fun _ => 0))), (gA, .inl (cG, 4, .inl (fun _ => 0))), (ao, .inl (cL, 1, .inr (.inl fo)))] s.heap := hP
  have hK : va_K (dC, dI) vwCl [(cR, .object RX2), (cK, .int), (cG, .int), (cL, .long)] s := hK
  have hD : va_D A [(h, .inr (11, [.ref aT, .ref aV, .ref aS, .ref aC, .ref aO, .ref aF, .ref aL, .ref aR, .ref aX, .int 0, .int 0, .int 0])), (aS, .inr (9, [.ref sT, .ref sK, .ref sH, .int 0, .int 0, .int 0, .int 0, .int 0])), (aR, .inr (6, [.ref rG, .int 0, .int 0, .int (-1), .null, .int 0, .int 0, .null])), (rG, .inl (cR, 10, .inr (.inr (.inr (.inr gf))))), (g0, .inr (2, [.ref gK, .ref gA, .int 0, .null, .int 0, .int 0])), (gK, .inl (cK, 4, .inl (fun _ => 0))), (gA, .inl (cG, 4, .inl (fun _ => 0))), (ao, .inl (cL, 1, .inr (.inl fo)))] := hD
  have hl := lv_entry ([.ref h, .int tm, .ref ao]) (n := 4) (Nat.le_of_ble_eq_true rfl)
  rw [lg_entry_eq]
  generalize (lg_sl ([.ref h, .int tm, .ref ao]) ++ List.replicate (4 - (lg_sl ([.ref h, .int tm, .ref ao])).length) Slot.unset).toArray = ls at hl ⊢
  have hl : lv_has ls 4 [(0, .ref h), (1, .int tm), (2, .ref ao)] := hl
  refine lv_aload_n hx hb dL_question_0 rfl (lv_at hl 2 rfl) ?_
  refine lv_iconst (v := 0) hx hb dL_question_1 (by decide) ?_
  refine lv_aload_n hx hb dL_question_2 rfl (lv_at hl 0 rfl) ?_
  refine lv_iload_n hx hb dL_question_3 rfl (lv_at hl 1 rfl) ?_
  refine xt_i (wr := [(ao, .inl (cL, 1, .inr (.inl fo)))]) (tyr := [(cL, .long)]) (vx_runV (As := [.int tm]) (rest := [.int 0, .ref ao]) ⟨hx, hb, hml, hown, hts⟩ (c_question l hl0 dC dI h aT aV aS aC aO aF aL aR aX sT sK sH rG g0 gK gA cK cG cR gf tm s.heap.size hg) (cwV 1 hts gL_question_X11_question rfl rfl rfl (by decide +kernel) ⟨Nat.le_of_ble_eq_true rfl, Nat.le_of_ble_eq_true rfl⟩) (ct_preV (ci := 11) (q0 := 0) hP hD hK hS hA hZ rfl rfl [0, 1, 2, 3, 4, 5, 6] [0, 1, 2] rfl (by decide) rfl) rfl rfl hl.1 rfl (lv_room (Nat.le_of_ble_eq_true rfl)) dL_question_4 ⟨Nat.le_of_ble_eq_true rfl, Nat.le_of_ble_eq_true rfl⟩) hP hD hK hS hA [0, 1, 2, 3, 4, 5, 6] [7] [3] rfl rfl (by decide) (by decide) rfl (fun E ce q9 H locs hbx hS hP hD hce hcv hcl => ?_) (fun r_1 u H locs w_2 hP hD hK hS => ?_)
  · skip
    rcases hbx with ⟨rfl, hp⟩ | ⟨rfl, hp⟩
    · skip
      refine vx_catch (own := RL) (name := eIA) (pc := 4) hown [] ⟨0, 9, 12, 19⟩ [⟨0, 9, 15, 41⟩, ⟨0, 9, 18, 85⟩] htb (fun z hz => absurd hz (List.not_mem_nil)) (by decide) (by decide) (hts (.classLink RL 19 "java/lang/IllegalArgumentException") (by decide +kernel)) (va_Nw.use rfl hZ.2.2.2.1.1) hce hcv hcl ?_
      refine W.eq (g2 := F0 m 12 ls [.ref q9]) rfl ?_
      have hK := hK.sub (tys' := [(cL, .long)]) [3] rfl
      refine lv_astore_n (lv' := [(3, .ref q9), (0, .ref h), (1, .int tm), (2, .ref ao)]) hx hb dL_question_12 rfl hl (by decide) rfl (fun ls hl => ?_)
      refine lv_iconst (v := 1) hx hb dL_question_13 (by decide) ?_
      have hP9 := hP.sub (ws' := [(ao, .inl (cL, 1, .inr (.inl fo)))]) [0] rfl
      have hD9 := hD.sub (ws' := [(ao, .inl (cL, 1, .inr (.inl fo)))]) [0] (by decide) rfl
      have hK9 := hK.sub (tys' := [(cL, .long)]) [0] rfl
      refine W.widen (k := 2) (n := 12) (Nat.le_of_ble_eq_true rfl) (Nat.le_of_ble_eq_true rfl) ?_
      exact (W.iret (v := 1) hx hb hr (fun t ht hW => ⟨⟨1, fo, rfl, Or.inl ⟨rfl, hp⟩, by rw [ht]; exact hP9, va_K.moved hW.alike hK9, hD9⟩, hS.F ht⟩) hS.2.2 dL_question_14)
    · skip
      refine vx_catch (own := RL) (name := eUO) (pc := 4) hown [⟨0, 9, 12, 19⟩] ⟨0, 9, 15, 41⟩ [⟨0, 9, 18, 85⟩] htb (fun z hz => by rw [List.mem_singleton.mp hz]; exact Or.inr ⟨(by decide), eIA, hts (.classLink RL 19 "java/lang/IllegalArgumentException") (by decide +kernel), hZ.2.2.2.2.2.1.2.1⟩) (by decide) (by decide) (hts (.classLink RL 41 "java/lang/UnsupportedOperationException") (by decide +kernel)) (va_Nw.use rfl hZ.2.2.2.1.2.2.2.2) hce hcv hcl ?_
      refine W.eq (g2 := F0 m 15 ls [.ref q9]) rfl ?_
      have hK := hK.sub (tys' := [(cL, .long)]) [3] rfl
      refine lv_astore_n (lv' := [(3, .ref q9), (0, .ref h), (1, .int tm), (2, .ref ao)]) hx hb dL_question_15 rfl hl (by decide) rfl (fun ls hl => ?_)
      refine lv_iconst (v := 2) hx hb dL_question_16 (by decide) ?_
      have hP9 := hP.sub (ws' := [(ao, .inl (cL, 1, .inr (.inl fo)))]) [0] rfl
      have hD9 := hD.sub (ws' := [(ao, .inl (cL, 1, .inr (.inl fo)))]) [0] (by decide) rfl
      have hK9 := hK.sub (tys' := [(cL, .long)]) [0] rfl
      refine W.widen (k := 2) (n := 12) (Nat.le_of_ble_eq_true rfl) (Nat.le_of_ble_eq_true rfl) ?_
      exact (W.iret (v := 2) hx hb hr (fun t ht hW => ⟨⟨2, fo, rfl, Or.inr ⟨rfl, hp⟩, by rw [ht]; exact hP9, va_K.moved hW.alike hK9, hD9⟩, hS.F ht⟩) hS.2.2 dL_question_17)
  · skip
    exact w_2.elim

set_option maxHeartbeats 4000000 in
set_option maxRecDepth 100000 in
/-- solution of the law -/
theorem h_solution (l : Launch) (hl0 : l.stackTraces = false) (dC : Nat → ClassId) (dI : Nat → Nat → Nat) (h : Nat) (aT : Nat) (aV : Nat) (aS : Nat) (aC : Nat) (aO : Nat) (aF : Nat) (aL : Nat) (aR : Nat) (aX : Nat) (xL : Nat) (xS : Nat) (xK : Nat) (xV : Nat) (xW : Nat) (lK : Nat) (ix : Int32) (k : Int32) (ao : Nat) (cL : ClassId) (fo : Nat → Int64) (sz : Nat)  : Met l yL_solution wsL_solution ({ frames := 8, cells := 2, slots := 12, locals := 135 } : Room) (va_Pc [.ref h, .int ix, .int k, .ref ao] (ct_P (dC, dI) [(h, .inr (11, [.ref aT, .ref aV, .ref aS, .ref aC, .ref aO, .ref aF, .ref aL, .ref aR, .ref aX, .int 0, .int 0, .int 0])), (aX, .inr (8, [.ref xL, .int 0, .ref xS, .ref xK, .ref xV, .ref xW, .null, .int 0])), (xL, .inr (7, [.ref lK, .int 0, .int 0])), (ao, .inl (cL, 1, .inr (.inl fo)))] [(cL, .long)] sz)) (va_Qi (fun (r : Int32) (u : (Nat → Int64)) => (r = 1 ∧ (k < 0 ∨ ¬ k ≤ 7)) ∨ (r = 2 ∧ ¬ (k < 0 ∨ ¬ k ≤ 7))) (fun (u : (Nat → Int64)) => ct_B (dC, dI) (va_A [(h, .inr (11, [.ref aT, .ref aV, .ref aS, .ref aC, .ref aO, .ref aF, .ref aL, .ref aR, .ref aX, .int 0, .int 0, .int 0])), (aX, .inr (8, [.ref xL, .int 0, .ref xS, .ref xK, .ref xV, .ref xW, .null, .int 0])), (xL, .inr (7, [.ref lK, .int 0, .int 0])), (ao, .inl (cL, 1, .inr (.inl fo)))] sz) [(ao, .inl (cL, 1, .inr (.inl u)))] [(cL, .long)]) (va_A [(h, .inr (11, [.ref aT, .ref aV, .ref aS, .ref aC, .ref aO, .ref aF, .ref aL, .ref aR, .ref aX, .int 0, .int 0, .int 0])), (aX, .inr (8, [.ref xL, .int 0, .ref xS, .ref xK, .ref xV, .ref xW, .null, .int 0])), (xL, .inr (7, [.ref lK, .int 0, .int 0])), (ao, .inl (cL, 1, .inr (.inl fo)))] sz)) 2 12 (va_A [(h, .inr (11, [.ref aT, .ref aV, .ref aS, .ref aC, .ref aO, .ref aF, .ref aL, .ref aR, .ref aX, .int 0, .int 0, .int 0])), (aX, .inr (8, [.ref xL, .int 0, .ref xS, .ref xK, .ref xV, .ref xW, .null, .int 0])), (xL, .inr (7, [.ref lK, .int 0, .int 0])), (ao, .inl (cL, 1, .inr (.inl fo)))] sz) := by
  refine va_MetW (cc := cL_solution) (maxL := 5) (ret := (some .int)) (hh := [(0, 10, 13, 19), (0, 10, 17, 13)]) (by decide) rfl ?_
  intro p e s m args below meth c s₁ B hml hv
  obtain ⟨rfl, hsz, hP, hK, hD0, hZ⟩ := hv
  have hx := B.exec
  have hb := B.bytes
  have hr := B.returns
  have hts := atoms_spec (ws := wsL_solution) B.pre
  have hown : s.vm.findClass RL = some m.cls := findClass_of_methodNamed B.named
  have hlocks := B.notSynchronized
  have htb : c.exceptionTable.toList = tableOf [(0, 10, 13, 19), (0, 10, 17, 13)] := vx_table (x := yL_solution) B (hts _ List.mem_cons_self)
  subst hsz
  have hD := hD0.self (sz := s.heap.size)
  generalize hAe : va_A [(h, .inr (11, [.ref aT, .ref aV, .ref aS, .ref aC, .ref aO, .ref aF, .ref aL, .ref aR, .ref aX, .int 0, .int 0, .int 0])), (aX, .inr (8, [.ref xL, .int 0, .ref xS, .ref xK, .ref xV, .ref xW, .null, .int 0])), (xL, .inr (7, [.ref lK, .int 0, .int 0])), (ao, .inl (cL, 1, .inr (.inl fo)))] s.heap.size = A at hD hZ ⊢
  have hA : ∀ q : Nat, s.heap.size ≤ q → A q := fun q h => by rw [← hAe]; exact Or.inr h
  have hS : va_S A s.heap s.heap [] := va_S.rf
  have hP : va_P (dC, dI) vwCl [(h, .inr (11, [.ref aT, .ref aV, .ref aS, .ref aC, .ref aO, .ref aF, .ref aL, .ref aR, .ref aX, .int 0, .int 0, .int 0])), (aX, .inr (8, [.ref xL, .int 0, .ref xS, .ref xK, .ref xV, .ref xW, .null, .int 0])), (xL, .inr (7, [.ref lK, .int 0, .int 0])), (ao, .inl (cL, 1, .inr (.inl fo)))] s.heap := hP
  have hK : va_K (dC, dI) vwCl [(cL, .long)] s := hK
  have hD : va_D A [(h, .inr (11, [.ref aT, .ref aV, .ref aS, .ref aC, .ref aO, .ref aF, .ref aL, .ref aR, .ref aX, .int 0, .int 0, .int 0])), (aX, .inr (8, [.ref xL, .int 0, .ref xS, .ref xK, .ref xV, .ref xW, .null, .int 0])), (xL, .inr (7, [.ref lK, .int 0, .int 0])), (ao, .inl (cL, 1, .inr (.inl fo)))] := hD
  have hl := lv_entry ([.ref h, .int ix, .int k, .ref ao]) (n := 5) (Nat.le_of_ble_eq_true rfl)
  rw [lg_entry_eq]
  generalize (lg_sl ([.ref h, .int ix, .int k, .ref ao]) ++ List.replicate (5 - (lg_sl ([.ref h, .int ix, .int k, .ref ao])).length) Slot.unset).toArray = ls at hl ⊢
  have hl : lv_has ls 5 [(0, .ref h), (1, .int ix), (2, .int k), (3, .ref ao)] := hl
  refine lv_aload_n hx hb dL_solution_0 rfl (lv_at hl 3 rfl) ?_
  refine lv_iconst (v := 0) hx hb dL_solution_1 (by decide) ?_
  refine lv_aload_n hx hb dL_solution_2 rfl (lv_at hl 0 rfl) ?_
  refine lv_iload_n hx hb dL_solution_3 rfl (lv_at hl 1 rfl) ?_
  refine lv_iload_n hx hb dL_solution_4 rfl (lv_at hl 2 rfl) ?_
  refine xt_i (wr := [(ao, .inl (cL, 1, .inr (.inl fo)))]) (tyr := [(cL, .long)]) (vx_runV (As := [.int ix, .int k]) (rest := [.int 0, .ref ao]) ⟨hx, hb, hml, hown, hts⟩ (c_solution l hl0 dC dI h aT aV aS aC aO aF aL aR aX xL xS xK xV xW lK ix k s.heap.size ) (cwV 2 hts gL_solution_X11_solution rfl rfl rfl (by decide +kernel) ⟨Nat.le_of_ble_eq_true rfl, Nat.le_of_ble_eq_true rfl⟩) (ct_preV (ci := 11) (q0 := 0) hP hD hK hS hA hZ rfl rfl [0, 1, 2] [] rfl (by decide) rfl) rfl rfl hl.1 rfl (lv_room (Nat.le_of_ble_eq_true rfl)) dL_solution_5 ⟨Nat.le_of_ble_eq_true rfl, Nat.le_of_ble_eq_true rfl⟩) hP hD hK hS hA [0, 1, 2] [3] [0] rfl rfl (by decide) (by decide) rfl (fun E ce q9 H locs hbx hS hP hD hce hcv hcl => ?_) (fun r_1 u H locs w_2 hP hD hK hS => ?_)
  · skip
    rcases hbx with ⟨rfl, hp⟩ | ⟨rfl, hp⟩
    · skip
      refine vx_catch (own := RL) (name := eIA) (pc := 5) hown [] ⟨0, 10, 13, 19⟩ [⟨0, 10, 17, 13⟩] htb (fun z hz => absurd hz (List.not_mem_nil)) (by decide) (by decide) (hts (.classLink RL 19 "java/lang/IllegalArgumentException") (by decide +kernel)) (va_Nw.use rfl hZ.2.2.2.1.1) hce hcv hcl ?_
      refine W.eq (g2 := F0 m 13 ls [.ref q9]) rfl ?_
      have hK := hK.sub (tys' := [(cL, .long)]) [0] rfl
      refine lv_astore (lv' := [(4, .ref q9), (0, .ref h), (1, .int ix), (2, .int k), (3, .ref ao)]) hx hb dL_solution_13 hl (by decide) rfl (fun ls hl => ?_)
      refine lv_iconst (v := 1) hx hb dL_solution_15 (by decide) ?_
      have hP9 := hP.sub (ws' := [(ao, .inl (cL, 1, .inr (.inl fo)))]) [0] rfl
      have hD9 := hD.sub (ws' := [(ao, .inl (cL, 1, .inr (.inl fo)))]) [0] (by decide) rfl
      have hK9 := hK.sub (tys' := [(cL, .long)]) [0] rfl
      refine W.widen (k := 2) (n := 12) (Nat.le_of_ble_eq_true rfl) (Nat.le_of_ble_eq_true rfl) ?_
      exact (W.iret (v := 1) hx hb hr (fun t ht hW => ⟨⟨1, fo, rfl, Or.inl ⟨rfl, hp⟩, by rw [ht]; exact hP9, va_K.moved hW.alike hK9, hD9⟩, hS.F ht⟩) hS.2.2 dL_solution_16)
    · skip
      refine vx_catch (own := RL) (name := eIB) (pc := 5) hown [⟨0, 10, 13, 19⟩] ⟨0, 10, 17, 13⟩ [] htb (fun z hz => by rw [List.mem_singleton.mp hz]; exact Or.inr ⟨(by decide), eIA, hts (.classLink RL 19 "java/lang/IllegalArgumentException") (by decide +kernel), hZ.2.2.2.2.2.1.2.2⟩) (by decide) (by decide) (hts (.classLink RL 13 "java/lang/IndexOutOfBoundsException") (by decide +kernel)) (va_Nw.use rfl hZ.2.2.2.1.2.2.2.1) hce hcv hcl ?_
      refine W.eq (g2 := F0 m 17 ls [.ref q9]) rfl ?_
      have hK := hK.sub (tys' := [(cL, .long)]) [0] rfl
      refine lv_astore (lv' := [(4, .ref q9), (0, .ref h), (1, .int ix), (2, .int k), (3, .ref ao)]) hx hb dL_solution_17 hl (by decide) rfl (fun ls hl => ?_)
      refine lv_iconst (v := 2) hx hb dL_solution_19 (by decide) ?_
      have hP9 := hP.sub (ws' := [(ao, .inl (cL, 1, .inr (.inl fo)))]) [0] rfl
      have hD9 := hD.sub (ws' := [(ao, .inl (cL, 1, .inr (.inl fo)))]) [0] (by decide) rfl
      have hK9 := hK.sub (tys' := [(cL, .long)]) [0] rfl
      refine W.widen (k := 2) (n := 12) (Nat.le_of_ble_eq_true rfl) (Nat.le_of_ble_eq_true rfl) ?_
      exact (W.iret (v := 2) hx hb hr (fun t ht hW => ⟨⟨2, fo, rfl, Or.inr ⟨rfl, hp⟩, by rw [ht]; exact hP9, va_K.moved hW.alike hK9, hD9⟩, hS.F ht⟩) hS.2.2 dL_solution_20)
  · skip
    exact w_2.elim

set_option maxHeartbeats 4000000 in
set_option maxRecDepth 100000 in
/-- count of the law -/
theorem h_count (l : Launch) (hl0 : l.stackTraces = false) (dC : Nat → ClassId) (dI : Nat → Nat → Nat) (h : Nat) (aT : Nat) (aV : Nat) (aS : Nat) (aC : Nat) (aO : Nat) (aF : Nat) (aL : Nat) (aR : Nat) (aX : Nat) (sT : Nat) (sK : Nat) (sH : Nat) (hF : Nat) (hW : Nat) (hM : Nat) (rG : Nat) (xL : Nat) (xS : Nat) (xK : Nat) (xV : Nat) (xW : Nat) (lK : Nat) (cO : ClassId) (wh : Int32) (ao : Nat) (cL : ClassId) (fo : Nat → Int64) (sz : Nat)  : Met l yL_count wsL_count ({ frames := 8, cells := 1, slots := 6, locals := 133 } : Room) (va_Pc [.ref h, .int wh, .ref ao] (ct_P (dC, dI) [(h, .inr (11, [.ref aT, .ref aV, .ref aS, .ref aC, .ref aO, .ref aF, .ref aL, .ref aR, .ref aX, .int 0, .int 0, .int 0])), (aO, .inl (cO, 10, .inl (fun _ => 0))), (aS, .inr (9, [.ref sT, .ref sK, .ref sH, .int 0, .int 0, .int 0, .int 0, .int 0])), (sH, .inr (3, [.ref hF, .ref hW, .ref hM, .int 0, .int 0])), (aR, .inr (6, [.ref rG, .int 0, .int 0, .int (-1), .null, .int 0, .int 0, .null])), (aX, .inr (8, [.ref xL, .int 0, .ref xS, .ref xK, .ref xV, .ref xW, .null, .int 0])), (xL, .inr (7, [.ref lK, .int 0, .int 0])), (ao, .inl (cL, 1, .inr (.inl fo)))] [(cO, .boolean), (cL, .long)] sz)) (va_Qi (fun (r : Int32) (u : (Nat → Int64)) => (r = 1 ∧ (wh < 0 ∨ ¬ wh ≤ 21)) ∨ (r = 0 ∧ ¬ (wh < 0 ∨ ¬ wh ≤ 21) ∧ u 0 = (sp_cnt wh : Int32).toInt64)) (fun (u : (Nat → Int64)) => ct_B (dC, dI) (va_A [(h, .inr (11, [.ref aT, .ref aV, .ref aS, .ref aC, .ref aO, .ref aF, .ref aL, .ref aR, .ref aX, .int 0, .int 0, .int 0])), (aO, .inl (cO, 10, .inl (fun _ => 0))), (aS, .inr (9, [.ref sT, .ref sK, .ref sH, .int 0, .int 0, .int 0, .int 0, .int 0])), (sH, .inr (3, [.ref hF, .ref hW, .ref hM, .int 0, .int 0])), (aR, .inr (6, [.ref rG, .int 0, .int 0, .int (-1), .null, .int 0, .int 0, .null])), (aX, .inr (8, [.ref xL, .int 0, .ref xS, .ref xK, .ref xV, .ref xW, .null, .int 0])), (xL, .inr (7, [.ref lK, .int 0, .int 0])), (ao, .inl (cL, 1, .inr (.inl fo)))] sz) [(ao, .inl (cL, 1, .inr (.inl u)))] [(cL, .long)]) (va_A [(h, .inr (11, [.ref aT, .ref aV, .ref aS, .ref aC, .ref aO, .ref aF, .ref aL, .ref aR, .ref aX, .int 0, .int 0, .int 0])), (aO, .inl (cO, 10, .inl (fun _ => 0))), (aS, .inr (9, [.ref sT, .ref sK, .ref sH, .int 0, .int 0, .int 0, .int 0, .int 0])), (sH, .inr (3, [.ref hF, .ref hW, .ref hM, .int 0, .int 0])), (aR, .inr (6, [.ref rG, .int 0, .int 0, .int (-1), .null, .int 0, .int 0, .null])), (aX, .inr (8, [.ref xL, .int 0, .ref xS, .ref xK, .ref xV, .ref xW, .null, .int 0])), (xL, .inr (7, [.ref lK, .int 0, .int 0])), (ao, .inl (cL, 1, .inr (.inl fo)))] sz)) 1 6 (va_A [(h, .inr (11, [.ref aT, .ref aV, .ref aS, .ref aC, .ref aO, .ref aF, .ref aL, .ref aR, .ref aX, .int 0, .int 0, .int 0])), (aO, .inl (cO, 10, .inl (fun _ => 0))), (aS, .inr (9, [.ref sT, .ref sK, .ref sH, .int 0, .int 0, .int 0, .int 0, .int 0])), (sH, .inr (3, [.ref hF, .ref hW, .ref hM, .int 0, .int 0])), (aR, .inr (6, [.ref rG, .int 0, .int 0, .int (-1), .null, .int 0, .int 0, .null])), (aX, .inr (8, [.ref xL, .int 0, .ref xS, .ref xK, .ref xV, .ref xW, .null, .int 0])), (xL, .inr (7, [.ref lK, .int 0, .int 0])), (ao, .inl (cL, 1, .inr (.inl fo)))] sz) := by
  refine va_MetW (cc := cL_count) (maxL := 4) (ret := (some .int)) (hh := [(0, 9, 12, 19)]) (by decide) rfl ?_
  intro p e s m args below meth c s₁ B hml hv
  obtain ⟨rfl, hsz, hP, hK, hD0, hZ⟩ := hv
  have hx := B.exec
  have hb := B.bytes
  have hr := B.returns
  have hts := atoms_spec (ws := wsL_count) B.pre
  have hown : s.vm.findClass RL = some m.cls := findClass_of_methodNamed B.named
  have hlocks := B.notSynchronized
  have htb : c.exceptionTable.toList = tableOf [(0, 9, 12, 19)] := vx_table (x := yL_count) B (hts _ List.mem_cons_self)
  subst hsz
  have hD := hD0.self (sz := s.heap.size)
  generalize hAe : va_A [(h, .inr (11, [.ref aT, .ref aV, .ref aS, .ref aC, .ref aO, .ref aF, .ref aL, .ref aR, .ref aX, .int 0, .int 0, .int 0])), (aO, .inl (cO, 10, .inl (fun _ => 0))), (aS, .inr (9, [.ref sT, .ref sK, .ref sH, .int 0, .int 0, .int 0, .int 0, .int 0])), (sH, .inr (3, [.ref hF, .ref hW, .ref hM, .int 0, .int 0])), (aR, .inr (6, [.ref rG, .int 0, .int 0, .int (-1), .null, .int 0, .int 0, .null])), (aX, .inr (8, [.ref xL, .int 0, .ref xS, .ref xK, .ref xV, .ref xW, .null, .int 0])), (xL, .inr (7, [.ref lK, .int 0, .int 0])), (ao, .inl (cL, 1, .inr (.inl fo)))] s.heap.size = A at hD hZ ⊢
  have hA : ∀ q : Nat, s.heap.size ≤ q → A q := fun q h => by rw [← hAe]; exact Or.inr h
  have hS : va_S A s.heap s.heap [] := va_S.rf
  have hP : va_P (dC, dI) vwCl [(h, .inr (11, [.ref aT, .ref aV, .ref aS, .ref aC, .ref aO, .ref aF, .ref aL, .ref aR, .ref aX, .int 0, .int 0, .int 0])), (aO, .inl (cO, 10, .inl (fun _ => 0))), (aS, .inr (9, [.ref sT, .ref sK, .ref sH, .int 0, .int 0, .int 0, .int 0, .int 0])), (sH, .inr (3, [.ref hF, .ref hW, .ref hM, .int 0, .int 0])), (aR, .inr (6, [.ref rG, .int 0, .int 0, .int (-1), .null, .int 0, .int 0, .null])), (aX, .inr (8, [.ref xL, .int 0, .ref xS, .ref xK, .ref xV, .ref xW, .null, .int 0])), (xL, .inr (7, [.ref lK, .int 0, .int 0])), (ao, .inl (cL, 1, .inr (.inl fo)))] s.heap := hP
  have hK : va_K (dC, dI) vwCl [(cO, .boolean), (cL, .long)] s := hK
  have hD : va_D A [(h, .inr (11, [.ref aT, .ref aV, .ref aS, .ref aC, .ref aO, .ref aF, .ref aL, .ref aR, .ref aX, .int 0, .int 0, .int 0])), (aO, .inl (cO, 10, .inl (fun _ => 0))), (aS, .inr (9, [.ref sT, .ref sK, .ref sH, .int 0, .int 0, .int 0, .int 0, .int 0])), (sH, .inr (3, [.ref hF, .ref hW, .ref hM, .int 0, .int 0])), (aR, .inr (6, [.ref rG, .int 0, .int 0, .int (-1), .null, .int 0, .int 0, .null])), (aX, .inr (8, [.ref xL, .int 0, .ref xS, .ref xK, .ref xV, .ref xW, .null, .int 0])), (xL, .inr (7, [.ref lK, .int 0, .int 0])), (ao, .inl (cL, 1, .inr (.inl fo)))] := hD
  have hl := lv_entry ([.ref h, .int wh, .ref ao]) (n := 4) (Nat.le_of_ble_eq_true rfl)
  rw [lg_entry_eq]
  generalize (lg_sl ([.ref h, .int wh, .ref ao]) ++ List.replicate (4 - (lg_sl ([.ref h, .int wh, .ref ao])).length) Slot.unset).toArray = ls at hl ⊢
  have hl : lv_has ls 4 [(0, .ref h), (1, .int wh), (2, .ref ao)] := hl
  refine lv_aload_n hx hb dL_count_0 rfl (lv_at hl 2 rfl) ?_
  refine lv_iconst (v := 0) hx hb dL_count_1 (by decide) ?_
  refine lv_aload_n hx hb dL_count_2 rfl (lv_at hl 0 rfl) ?_
  refine lv_iload_n hx hb dL_count_3 rfl (lv_at hl 1 rfl) ?_
  refine xt_i (wr := [(ao, .inl (cL, 1, .inr (.inl fo)))]) (tyr := [(cL, .long)]) (vx_runV (As := [.int wh]) (rest := [.int 0, .ref ao]) ⟨hx, hb, hml, hown, hts⟩ (c_count l hl0 dC dI h aT aV aS aC aO aF aL aR aX sT sK sH hF hW hM rG xL xS xK xV xW lK cO wh s.heap.size ) (cwV 1 hts gL_count_X11_count rfl rfl rfl (by decide +kernel) ⟨Nat.le_of_ble_eq_true rfl, Nat.le_of_ble_eq_true rfl⟩) (ct_preV (ci := 11) (q0 := 0) hP hD hK hS hA hZ rfl rfl [0, 1, 2, 3, 4, 5, 6] [0] rfl (by decide) rfl) rfl rfl hl.1 rfl (lv_room (Nat.le_of_ble_eq_true rfl)) dL_count_4 ⟨Nat.le_of_ble_eq_true rfl, Nat.le_of_ble_eq_true rfl⟩) hP hD hK hS hA [0, 1, 2, 3, 4, 5, 6] [7] [1] rfl rfl (by decide) (by decide) rfl (fun E ce q9 H locs hbx hS hP hD hce hcv hcl => ?_) (fun r_1 u H locs w_2 hP hD hK hS => ?_)
  · skip
    rcases hbx with ⟨rfl, hp⟩
    refine vx_catch (own := RL) (name := eIA) (pc := 4) hown [] ⟨0, 9, 12, 19⟩ [] htb (fun z hz => absurd hz (List.not_mem_nil)) (by decide) (by decide) (hts (.classLink RL 19 "java/lang/IllegalArgumentException") (by decide +kernel)) (va_Nw.use rfl hZ.2.2.2.1.1) hce hcv hcl ?_
    refine W.eq (g2 := F0 m 12 ls [.ref q9]) rfl ?_
    have hK := hK.sub (tys' := [(cL, .long)]) [1] rfl
    refine lv_astore_n (lv' := [(3, .ref q9), (0, .ref h), (1, .int wh), (2, .ref ao)]) hx hb dL_count_12 rfl hl (by decide) rfl (fun ls hl => ?_)
    refine lv_iconst (v := 1) hx hb dL_count_13 (by decide) ?_
    have hP9 := hP.sub (ws' := [(ao, .inl (cL, 1, .inr (.inl fo)))]) [0] rfl
    have hD9 := hD.sub (ws' := [(ao, .inl (cL, 1, .inr (.inl fo)))]) [0] (by decide) rfl
    have hK9 := hK.sub (tys' := [(cL, .long)]) [0] rfl
    refine W.widen (k := 1) (n := 6) (Nat.le_of_ble_eq_true rfl) (Nat.le_of_ble_eq_true rfl) ?_
    exact (W.iret (v := 1) hx hb hr (fun t ht hW => ⟨⟨1, fo, rfl, Or.inl ⟨rfl, hp⟩, by rw [ht]; exact hP9, va_K.moved hW.alike hK9, hD9⟩, hS.F ht⟩) hS.2.2 dL_count_14)
  · skip
    try dsimp only at w_2
    have hP : va_P (dC, dI) vwCl [(ao, .inl (cL, 1, .inr (.inl fo)))] H := hP
    have hD : va_D A [(ao, .inl (cL, 1, .inr (.inl fo)))] := hD
    have hK : va_K (dC, dI) vwCl [(cL, .long)] s := hK
    refine W.widen (k := 1) (n := 6) (Nat.le_of_ble_eq_true rfl) (Nat.le_of_ble_eq_true rfl) ?_
    refine lv_i2l (v := (r_1 : Int32).toInt64) hx hb dL_count_7 rfl ?_
    refine va_last hx hb hK hP hD hS 0 0 rfl rfl (by unfold vp_in; decide) dL_count_8 (fun H locs hP hD hS => ?_)
    have hP : va_P (dC, dI) vwCl [(ao, .inl (cL, 1, .inr (.inl (vp_updL fo (0 : Int32).toNatClampNeg ((r_1 : Int32).toInt64)))))] H := hP
    have hD : va_D A [(ao, .inl (cL, 1, .inr (.inl (vp_updL fo (0 : Int32).toNatClampNeg ((r_1 : Int32).toInt64)))))] := hD
    refine lv_goto (tgt := 15) hx hb dL_count_9 (by decide) ?_
    refine lv_iconst (v := 0) hx hb dL_count_15 (by decide) ?_
    have hP9 := hP.sub (ws' := [(ao, .inl (cL, 1, .inr (.inl (vp_updL fo (0 : Int32).toNatClampNeg ((r_1 : Int32).toInt64)))))]) [0] rfl
    have hD9 := hD.sub (ws' := [(ao, .inl (cL, 1, .inr (.inl (vp_updL fo (0 : Int32).toNatClampNeg ((r_1 : Int32).toInt64)))))]) [0] (by decide) rfl
    have hK9 := hK.sub (tys' := [(cL, .long)]) [0] rfl
    refine W.widen (k := 1) (n := 6) (Nat.le_of_ble_eq_true rfl) (Nat.le_of_ble_eq_true rfl) ?_
    exact (W.iret (v := 0) hx hb hr (fun t ht hW => ⟨⟨0, (vp_updL fo (0 : Int32).toNatClampNeg ((r_1 : Int32).toInt64)), rfl, Or.inr ⟨rfl, w_2.2, (lw_u0 _ _).trans (by rw [w_2.1])⟩, by rw [ht]; exact hP9, va_K.moved hW.alike hK9, hD9⟩, hS.F ht⟩) hS.2.2 dL_count_16)
