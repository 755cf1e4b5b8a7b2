set_option maxHeartbeats 4000000 in
set_option maxRecDepth 100000 in
/-- bitCount(0) -/
theorem c_bitCount (l : Launch) (hl0 : l.stackTraces = false) (dC : Nat → ClassId) (dI : Nat → Nat → Nat)  (sz : Nat)  : Met l yJ6_bitCount_0f7a4 wsJ6_bitCount_0f7a4 ({ frames := 0, cells := 0, slots := 0, locals := 0 } : Room) (va_Pc [.int 0] (ct_P (dC, dI) [] [] sz)) (va_Qi (fun (r : Int32) (u : Unit) => r = 0) (fun (u : Unit) => ct_B (dC, dI) (va_A [] sz) [] []) (va_A [] sz)) 0 0 (va_A [] sz) := by
  refine Met.ofW (cc := cJ6_bitCount_0f7a4) (maxL := 1) (ret := (some .int)) (by decide) rfl ?_
  intro p e s m args below meth c s₁ B hml hv
  obtain ⟨rfl, hsz, hP, hK, hD0, hZ⟩ := hv
  have hx := B.exec
  have hb := B.bytes
  have hr := B.returns
  have hts := atoms_spec (ws := wsJ6_bitCount_0f7a4) B.pre
  have hown : s.vm.findClass RJ6 = some m.cls := findClass_of_methodNamed B.named
  have hlocks := B.notSynchronized
  subst hsz
  have hD := hD0.self (sz := s.heap.size)
  generalize hAe : va_A [] s.heap.size = A at hD hZ ⊢
  have hA : ∀ q : Nat, s.heap.size ≤ q → A q := fun q h => by rw [← hAe]; exact Or.inr h
  have hS : va_S A s.heap s.heap [] := va_S.rf
  have hP : va_P (dC, dI) vwCl [] s.heap := hP
  have hK : va_K (dC, dI) vwCl [] s := hK
  have hD : va_D A [] := hD
  have hl := lv_entry ([.int 0]) (n := 1) (Nat.le_of_ble_eq_true rfl)
  rw [lg_entry_eq]
  generalize (lg_sl ([.int 0]) ++ List.replicate (1 - (lg_sl ([.int 0])).length) Slot.unset).toArray = ls at hl ⊢
  have hl : lv_has ls 1 [(0, .int 0)] := hl
  refine lv_iload_n hx hb dJ6_bitCount_0f7a4_0 rfl (lv_at hl 0 rfl) ?_
  refine lv_iload_n hx hb dJ6_bitCount_0f7a4_1 rfl (lv_at hl 0 rfl) ?_
  refine lv_iconst (v := 1) hx hb dJ6_bitCount_0f7a4_2 (by decide) ?_
  refine lv_iushr (v := 0) hx hb dJ6_bitCount_0f7a4_3 (by decide) ?_
  refine lv_ldcw (v := 1431655765) hx hb hown (hts (.constant RJ6 265 1431655765) (by decide +kernel)) dJ6_bitCount_0f7a4_4 ?_
  refine lv_iand hx hb dJ6_bitCount_0f7a4_7 ?_
  refine lv_topi (fun z_1 ez_1 => ?_)
  obtain rfl : z_1 = 0 := ez_1.trans (by decide)
  refine lv_isub hx hb dJ6_bitCount_0f7a4_8 ?_
  refine lv_topi (fun z_2 ez_2 => ?_)
  obtain rfl : z_2 = 0 := ez_2.trans (by decide)
  refine lv_istore_n (lv' := [(0, .int 0)]) hx hb dJ6_bitCount_0f7a4_9 rfl hl (by decide) rfl (fun ls hl => ?_)
  refine lv_iload_n hx hb dJ6_bitCount_0f7a4_10 rfl (lv_at hl 0 rfl) ?_
  refine lv_ldcw (v := 858993459) hx hb hown (hts (.constant RJ6 266 858993459) (by decide +kernel)) dJ6_bitCount_0f7a4_11 ?_
  refine lv_iand hx hb dJ6_bitCount_0f7a4_14 ?_
  refine lv_topi (fun z_3 ez_3 => ?_)
  obtain rfl : z_3 = 0 := ez_3.trans (by decide)
  refine lv_iload_n hx hb dJ6_bitCount_0f7a4_15 rfl (lv_at hl 0 rfl) ?_
  refine lv_iconst (v := 2) hx hb dJ6_bitCount_0f7a4_16 (by decide) ?_
  refine lv_iushr (v := 0) hx hb dJ6_bitCount_0f7a4_17 (by decide) ?_
  refine lv_ldcw (v := 858993459) hx hb hown (hts (.constant RJ6 266 858993459) (by decide +kernel)) dJ6_bitCount_0f7a4_18 ?_
  refine lv_iand hx hb dJ6_bitCount_0f7a4_21 ?_
  refine lv_topi (fun z_4 ez_4 => ?_)
  obtain rfl : z_4 = 0 := ez_4.trans (by decide)
  refine lv_iadd hx hb dJ6_bitCount_0f7a4_22 ?_
  refine lv_topi (fun z_5 ez_5 => ?_)
  obtain rfl : z_5 = 0 := ez_5.trans (by decide)
  refine lv_istore_n (lv' := [(0, .int 0)]) hx hb dJ6_bitCount_0f7a4_23 rfl hl (by decide) rfl (fun ls hl => ?_)
  refine lv_iload_n hx hb dJ6_bitCount_0f7a4_24 rfl (lv_at hl 0 rfl) ?_
  refine lv_iload_n hx hb dJ6_bitCount_0f7a4_25 rfl (lv_at hl 0 rfl) ?_
  refine lv_iconst (v := 4) hx hb dJ6_bitCount_0f7a4_26 (by decide) ?_
  refine lv_iushr (v := 0) hx hb dJ6_bitCount_0f7a4_27 (by decide) ?_
  refine lv_iadd hx hb dJ6_bitCount_0f7a4_28 ?_
  refine lv_topi (fun z_6 ez_6 => ?_)
  obtain rfl : z_6 = 0 := ez_6.trans (by decide)
  refine lv_ldcw (v := 252645135) hx hb hown (hts (.constant RJ6 267 252645135) (by decide +kernel)) dJ6_bitCount_0f7a4_29 ?_
  refine lv_iand hx hb dJ6_bitCount_0f7a4_32 ?_
  refine lv_topi (fun z_7 ez_7 => ?_)
  obtain rfl : z_7 = 0 := ez_7.trans (by decide)
  refine lv_istore_n (lv' := [(0, .int 0)]) hx hb dJ6_bitCount_0f7a4_33 rfl hl (by decide) rfl (fun ls hl => ?_)
  refine lv_iload_n hx hb dJ6_bitCount_0f7a4_34 rfl (lv_at hl 0 rfl) ?_
  refine lv_iload_n hx hb dJ6_bitCount_0f7a4_35 rfl (lv_at hl 0 rfl) ?_
  refine lv_bipush (v := 8) hx hb dJ6_bitCount_0f7a4_36 (by decide) ?_
  refine lv_iushr (v := 0) hx hb dJ6_bitCount_0f7a4_38 (by decide) ?_
  refine lv_iadd hx hb dJ6_bitCount_0f7a4_39 ?_
  refine lv_topi (fun z_8 ez_8 => ?_)
  obtain rfl : z_8 = 0 := ez_8.trans (by decide)
  refine lv_istore_n (lv' := [(0, .int 0)]) hx hb dJ6_bitCount_0f7a4_40 rfl hl (by decide) rfl (fun ls hl => ?_)
  refine lv_iload_n hx hb dJ6_bitCount_0f7a4_41 rfl (lv_at hl 0 rfl) ?_
  refine lv_iload_n hx hb dJ6_bitCount_0f7a4_42 rfl (lv_at hl 0 rfl) ?_
  refine lv_bipush (v := 16) hx hb dJ6_bitCount_0f7a4_43 (by decide) ?_
  refine lv_iushr (v := 0) hx hb dJ6_bitCount_0f7a4_45 (by decide) ?_
  refine lv_iadd hx hb dJ6_bitCount_0f7a4_46 ?_
  refine lv_topi (fun z_9 ez_9 => ?_)
  obtain rfl : z_9 = 0 := ez_9.trans (by decide)
  refine lv_istore_n (lv' := [(0, .int 0)]) hx hb dJ6_bitCount_0f7a4_47 rfl hl (by decide) rfl (fun ls hl => ?_)
  refine lv_iload_n hx hb dJ6_bitCount_0f7a4_48 rfl (lv_at hl 0 rfl) ?_
  refine lv_bipush (v := 63) hx hb dJ6_bitCount_0f7a4_49 (by decide) ?_
  refine lv_iand hx hb dJ6_bitCount_0f7a4_51 ?_
  refine lv_topi (fun z_10 ez_10 => ?_)
  obtain rfl : z_10 = 0 := ez_10.trans (by decide)
  have hP9 := hP.sub (ws' := []) [] rfl
  have hD9 := hD.sub (ws' := []) [] (by decide) rfl
  have hK9 := hK.sub (tys' := []) [] rfl
  refine W.widen (k := 0) (n := 0) (Nat.le_of_ble_eq_true rfl) (Nat.le_of_ble_eq_true rfl) ?_
  exact (W.iret (v := 0) hx hb hr (fun t ht hW => ⟨⟨0, (), rfl, rfl, by rw [ht]; exact hP9, va_K.moved hW.alike hK9, hD9⟩, hS.F ht⟩) hS.2.2 dJ6_bitCount_0f7a4_52)

set_option maxHeartbeats 4000000 in
set_option maxRecDepth 100000 in
/-- factsThereNow: no such table -/
theorem c_factsThereNow (l : Launch) (hl0 : l.stackTraces = false) (dC : Nat → ClassId) (dI : Nat → Nat → Nat) (h : Nat) (aT : Nat) (aV : Nat) (aS : Nat) (aC : Nat) (aO : Nat) (aF : Nat) (aL : Nat) (aR : Nat) (aX : Nat) (sT : Nat) (sK : Nat) (sH : Nat) (t : Int32) (sz : Nat)  : Met l yX11_factsThereNow wsX11_factsThereNow ({ frames := 1, cells := 0, slots := 0, locals := 21 } : Room) (va_Pc [.ref h, .int t] (ct_P (dC, dI) [(h, .inr (11, [.ref aT, .ref aV, .ref aS, .ref aC, .ref aO, .ref aF, .ref aL, .ref aR, .ref aX, .int 0, .int 0, .int 0])), (aS, .inr (9, [.ref sT, .ref sK, .ref sH, .int 0, .int 0, .int 0, .int 0, .int 0]))] [] sz)) (va_Qi (fun (r : Int32) (u : Unit) => r = (-1)) (fun (u : Unit) => ct_B (dC, dI) (va_A [(h, .inr (11, [.ref aT, .ref aV, .ref aS, .ref aC, .ref aO, .ref aF, .ref aL, .ref aR, .ref aX, .int 0, .int 0, .int 0])), (aS, .inr (9, [.ref sT, .ref sK, .ref sH, .int 0, .int 0, .int 0, .int 0, .int 0]))] sz) [(h, .inr (11, [.ref aT, .ref aV, .ref aS, .ref aC, .ref aO, .ref aF, .ref aL, .ref aR, .ref aX, .int 0, .int 0, .int 0])), (aS, .inr (9, [.ref sT, .ref sK, .ref sH, .int 0, .int 0, .int 0, .int 0, .int 0]))] []) (va_A [(h, .inr (11, [.ref aT, .ref aV, .ref aS, .ref aC, .ref aO, .ref aF, .ref aL, .ref aR, .ref aX, .int 0, .int 0, .int 0])), (aS, .inr (9, [.ref sT, .ref sK, .ref sH, .int 0, .int 0, .int 0, .int 0, .int 0]))] sz)) 0 0 (va_A [(h, .inr (11, [.ref aT, .ref aV, .ref aS, .ref aC, .ref aO, .ref aF, .ref aL, .ref aR, .ref aX, .int 0, .int 0, .int 0])), (aS, .inr (9, [.ref sT, .ref sK, .ref sH, .int 0, .int 0, .int 0, .int 0, .int 0]))] sz) := by
  refine Met.ofW (cc := cX11_factsThereNow) (maxL := 3) (ret := (some .int)) (by decide) rfl ?_
  intro p e s m args below meth c s₁ B hml hv
  obtain ⟨rfl, hsz, hP, hK, hD0, hZ⟩ := hv
  have hx := B.exec
  have hb := B.bytes
  have hr := B.returns
  have hts := atoms_spec (ws := wsX11_factsThereNow) B.pre
  have hown : s.vm.findClass RX11 = some m.cls := findClass_of_methodNamed B.named
  have hlocks := B.notSynchronized
  have in11 : ∀ w ∈ u_ws RX11 TX11 12, w ∈ wsX11_factsThereNow := fun w h => (List.mem_cons_of_mem _ (List.mem_append_left _ (List.mem_append_left _ (List.mem_append_left _ (List.mem_append_left _ (List.mem_append_right _ h))))))
  subst hsz
  have hD := hD0.self (sz := s.heap.size)
  generalize hAe : va_A [(h, .inr (11, [.ref aT, .ref aV, .ref aS, .ref aC, .ref aO, .ref aF, .ref aL, .ref aR, .ref aX, .int 0, .int 0, .int 0])), (aS, .inr (9, [.ref sT, .ref sK, .ref sH, .int 0, .int 0, .int 0, .int 0, .int 0]))] s.heap.size = A at hD hZ ⊢
  have hA : ∀ q : Nat, s.heap.size ≤ q → A q := fun q h => by rw [← hAe]; exact Or.inr h
  have hS : va_S A s.heap s.heap [] := va_S.rf
  have hP : va_P (dC, dI) vwCl [(h, .inr (11, [.ref aT, .ref aV, .ref aS, .ref aC, .ref aO, .ref aF, .ref aL, .ref aR, .ref aX, .int 0, .int 0, .int 0])), (aS, .inr (9, [.ref sT, .ref sK, .ref sH, .int 0, .int 0, .int 0, .int 0, .int 0]))] s.heap := hP
  have hK : va_K (dC, dI) vwCl [] s := hK
  have hD : va_D A [(h, .inr (11, [.ref aT, .ref aV, .ref aS, .ref aC, .ref aO, .ref aF, .ref aL, .ref aR, .ref aX, .int 0, .int 0, .int 0])), (aS, .inr (9, [.ref sT, .ref sK, .ref sH, .int 0, .int 0, .int 0, .int 0, .int 0]))] := hD
  have hl := lv_entry ([.ref h, .int t]) (n := 3) (Nat.le_of_ble_eq_true rfl)
  rw [lg_entry_eq]
  generalize (lg_sl ([.ref h, .int t]) ++ List.replicate (3 - (lg_sl ([.ref h, .int t])).length) Slot.unset).toArray = ls at hl ⊢
  have hl : lv_has ls 3 [(0, .ref h), (1, .int t)] := hl
  refine lv_aload_n hx hb dX11_factsThereNow_0 rfl (lv_at hl 0 rfl) ?_
  refine va_get (D := (dC, dI)) (ci := 11) (v := .ref aS) (C := RX11) (T := TX11) (N := 12) hx hb hts in11 hown hK hP 0 rfl rfl 2 (by decide) (hts (.fieldLink RX11 20 "FactKeeper" "store" "LFactKeeper$Store;") (by decide +kernel)) (fun _ h9 => h9) rfl dX11_factsThereNow_1 ?_
  refine lv_iload_n hx hb dX11_factsThereNow_4 rfl (lv_at hl 1 rfl) ?_
  refine ct_q (wr := [(h, .inr (11, [.ref aT, .ref aV, .ref aS, .ref aC, .ref aO, .ref aF, .ref aL, .ref aR, .ref aX, .int 0, .int 0, .int 0]))]) (tyr := []) (va_runV (As := [.int t]) (rest := []) ⟨hx, hb, hml, hown, hts⟩ (c_tableAt l hl0 dC dI aS sT sK sH t s.heap.size ) (cwV 1 hts gX11_factsThereNow_X9_tableAt rfl rfl rfl (by decide +kernel) ⟨Nat.le_of_ble_eq_true rfl, Nat.le_of_ble_eq_true rfl⟩) (ct_preV (ci := 9) (q0 := 1) hP hD hK hS hA hZ rfl rfl [1] [] rfl (by decide) rfl) rfl rfl hl.1 rfl (lv_room (Nat.le_of_ble_eq_true rfl)) dX11_factsThereNow_5 ⟨Nat.le_of_ble_eq_true rfl, Nat.le_of_ble_eq_true rfl⟩) hP hD hK hS hA [1] [0] [] rfl rfl (by decide) (by decide) rfl (fun r_1 u H locs w_2 hP hD hK hS => ?_)
  try dsimp only at w_2
  have hP : va_P (dC, dI) vwCl [(h, .inr (11, [.ref aT, .ref aV, .ref aS, .ref aC, .ref aO, .ref aF, .ref aL, .ref aR, .ref aX, .int 0, .int 0, .int 0])), (aS, .inr (9, [.ref sT, .ref sK, .ref sH, .int 0, .int 0, .int 0, .int 0, .int 0]))] H := hP
  have hD : va_D A [(h, .inr (11, [.ref aT, .ref aV, .ref aS, .ref aC, .ref aO, .ref aF, .ref aL, .ref aR, .ref aX, .int 0, .int 0, .int 0])), (aS, .inr (9, [.ref sT, .ref sK, .ref sH, .int 0, .int 0, .int 0, .int 0, .int 0]))] := hD
  have hK : va_K (dC, dI) vwCl [] s := hK
  obtain rfl : r_1 = none := w_2
  refine W.eq (g2 := F0 m 8 ls [.null]) rfl ?_
  refine lv_astore_nN (lv' := [(2, .null), (0, .ref h), (1, .int t)]) hx hb dX11_factsThereNow_8 rfl hl (by decide) rfl (fun ls hl => ?_)
  refine lv_aload_nN hx hb dX11_factsThereNow_9 rfl (lv_at hl 0 rfl) ?_
  refine lv_ifnonnullN hx hb dX11_factsThereNow_10 ?_
  refine lv_iconst (v := (-1)) hx hb dX11_factsThereNow_13 (by decide) ?_
  refine lv_goto (tgt := 21) hx hb dX11_factsThereNow_14 (by decide) ?_
  have hP9 := hP.sub (ws' := [(h, .inr (11, [.ref aT, .ref aV, .ref aS, .ref aC, .ref aO, .ref aF, .ref aL, .ref aR, .ref aX, .int 0, .int 0, .int 0])), (aS, .inr (9, [.ref sT, .ref sK, .ref sH, .int 0, .int 0, .int 0, .int 0, .int 0]))]) [0, 1] rfl
  have hD9 := hD.sub (ws' := [(h, .inr (11, [.ref aT, .ref aV, .ref aS, .ref aC, .ref aO, .ref aF, .ref aL, .ref aR, .ref aX, .int 0, .int 0, .int 0])), (aS, .inr (9, [.ref sT, .ref sK, .ref sH, .int 0, .int 0, .int 0, .int 0, .int 0]))]) [0, 1] (by decide) rfl
  have hK9 := hK.sub (tys' := []) [] rfl
  refine W.widen (k := 0) (n := 0) (Nat.le_of_ble_eq_true rfl) (Nat.le_of_ble_eq_true rfl) ?_
  exact (W.iret (v := (-1)) hx hb hr (fun t ht hW => ⟨⟨(-1), (), rfl, rfl, by rw [ht]; exact hP9, va_K.moved hW.alike hK9, hD9⟩, hS.F ht⟩) hS.2.2 dX11_factsThereNow_21)

set_option maxHeartbeats 4000000 in
set_option maxRecDepth 100000 in
/-- count -/
theorem c_count (l : Launch) (hl0 : l.stackTraces = false) (dC : Nat → ClassId) (dI : Nat → Nat → Nat) (h : Nat) (aT : Nat) (aV : Nat) (aS : Nat) (aC : Nat) (aO : Nat) (aF : Nat) (aL : Nat) (aR : Nat) (aX : Nat) (sT : Nat) (sK : Nat) (sH : Nat) (hF : Nat) (hW : Nat) (hM : Nat) (rG : Nat) (xL : Nat) (xS : Nat) (xK : Nat) (xV : Nat) (xW : Nat) (lK : Nat) (cO : ClassId) (wh : Int32) (sz : Nat)  : vx_Met l yX11_count wsX11_count ({ frames := 7, cells := 1, slots := 6, locals := 112 } : Room) (va_Pc [.ref h, .int wh] (ct_P (dC, dI) [(h, .inr (11, [.ref aT, .ref aV, .ref aS, .ref aC, .ref aO, .ref aF, .ref aL, .ref aR, .ref aX, .int 0, .int 0, .int 0])), (aO, .inl (cO, 10, .inl (fun _ => 0))), (aS, .inr (9, [.ref sT, .ref sK, .ref sH, .int 0, .int 0, .int 0, .int 0, .int 0])), (sH, .inr (3, [.ref hF, .ref hW, .ref hM, .int 0, .int 0])), (aR, .inr (6, [.ref rG, .int 0, .int 0, .int (-1), .null, .int 0, .int 0, .null])), (aX, .inr (8, [.ref xL, .int 0, .ref xS, .ref xK, .ref xV, .ref xW, .null, .int 0])), (xL, .inr (7, [.ref lK, .int 0, .int 0]))] [(cO, .boolean)] sz)) (va_Qi (fun (r : Int32) (u : Unit) => r = sp_cnt wh ∧ ¬ (wh < 0 ∨ ¬ wh ≤ 21)) (fun (u : Unit) => ct_B (dC, dI) (va_A [(h, .inr (11, [.ref aT, .ref aV, .ref aS, .ref aC, .ref aO, .ref aF, .ref aL, .ref aR, .ref aX, .int 0, .int 0, .int 0])), (aO, .inl (cO, 10, .inl (fun _ => 0))), (aS, .inr (9, [.ref sT, .ref sK, .ref sH, .int 0, .int 0, .int 0, .int 0, .int 0])), (sH, .inr (3, [.ref hF, .ref hW, .ref hM, .int 0, .int 0])), (aR, .inr (6, [.ref rG, .int 0, .int 0, .int (-1), .null, .int 0, .int 0, .null])), (aX, .inr (8, [.ref xL, .int 0, .ref xS, .ref xK, .ref xV, .ref xW, .null, .int 0])), (xL, .inr (7, [.ref lK, .int 0, .int 0]))] sz) [] []) (va_A [(h, .inr (11, [.ref aT, .ref aV, .ref aS, .ref aC, .ref aO, .ref aF, .ref aL, .ref aR, .ref aX, .int 0, .int 0, .int 0])), (aO, .inl (cO, 10, .inl (fun _ => 0))), (aS, .inr (9, [.ref sT, .ref sK, .ref sH, .int 0, .int 0, .int 0, .int 0, .int 0])), (sH, .inr (3, [.ref hF, .ref hW, .ref hM, .int 0, .int 0])), (aR, .inr (6, [.ref rG, .int 0, .int 0, .int (-1), .null, .int 0, .int 0, .null])), (aX, .inr (8, [.ref xL, .int 0, .ref xS, .ref xK, .ref xV, .ref xW, .null, .int 0])), (xL, .inr (7, [.ref lK, .int 0, .int 0]))] sz)) (tx_X (fun E => E = eIA ∧ (wh < 0 ∨ ¬ wh ≤ 21)) (va_A [(h, .inr (11, [.ref aT, .ref aV, .ref aS, .ref aC, .ref aO, .ref aF, .ref aL, .ref aR, .ref aX, .int 0, .int 0, .int 0])), (aO, .inl (cO, 10, .inl (fun _ => 0))), (aS, .inr (9, [.ref sT, .ref sK, .ref sH, .int 0, .int 0, .int 0, .int 0, .int 0])), (sH, .inr (3, [.ref hF, .ref hW, .ref hM, .int 0, .int 0])), (aR, .inr (6, [.ref rG, .int 0, .int 0, .int (-1), .null, .int 0, .int 0, .null])), (aX, .inr (8, [.ref xL, .int 0, .ref xS, .ref xK, .ref xV, .ref xW, .null, .int 0])), (xL, .inr (7, [.ref lK, .int 0, .int 0]))] sz)) 1 6 (va_A [(h, .inr (11, [.ref aT, .ref aV, .ref aS, .ref aC, .ref aO, .ref aF, .ref aL, .ref aR, .ref aX, .int 0, .int 0, .int 0])), (aO, .inl (cO, 10, .inl (fun _ => 0))), (aS, .inr (9, [.ref sT, .ref sK, .ref sH, .int 0, .int 0, .int 0, .int 0, .int 0])), (sH, .inr (3, [.ref hF, .ref hW, .ref hM, .int 0, .int 0])), (aR, .inr (6, [.ref rG, .int 0, .int 0, .int (-1), .null, .int 0, .int 0, .null])), (aX, .inr (8, [.ref xL, .int 0, .ref xS, .ref xK, .ref xV, .ref xW, .null, .int 0])), (xL, .inr (7, [.ref lK, .int 0, .int 0]))] sz) := by
  refine vx_ofW (cc := cX11_count) (maxL := 2) (ret := (some .int)) (by decide) rfl ?_
  intro p e s m args below meth c s₁ B hml htab hv
  obtain ⟨rfl, hsz, hP, hK, hD0, hZ⟩ := hv
  have hx := B.exec
  have hb := B.bytes
  have hr := B.returns
  have hts := atoms_spec (ws := wsX11_count) B.pre
  have hown : s.vm.findClass RX11 = some m.cls := findClass_of_methodNamed B.named
  have hlocks := B.notSynchronized
  have in3 : ∀ w ∈ u_ws RX3 TX3 5, w ∈ wsX11_count := fun w h => (List.mem_cons_of_mem _ (List.mem_append_left _ (List.mem_append_left _ (List.mem_append_left _ (List.mem_append_left _ (List.mem_append_left _ (List.mem_append_left _ (List.mem_append_right _ h))))))))
  have in6 : ∀ w ∈ u_ws RX6 TX6 8, w ∈ wsX11_count := fun w h => (List.mem_cons_of_mem _ (List.mem_append_left _ (List.mem_append_left _ (List.mem_append_left _ (List.mem_append_left _ (List.mem_append_left _ (List.mem_append_left _ (List.mem_append_left _ (List.mem_append_right _ h)))))))))
  have in7 : ∀ w ∈ u_ws RX7 TX7 3, w ∈ wsX11_count := fun w h => (List.mem_cons_of_mem _ (List.mem_append_left _ (List.mem_append_left _ (List.mem_append_left _ (List.mem_append_left _ (List.mem_append_right _ h))))))
  have in8 : ∀ w ∈ u_ws RX8 TX8 8, w ∈ wsX11_count := fun w h => (List.mem_cons_of_mem _ (List.mem_append_left _ (List.mem_append_left _ (List.mem_append_left _ (List.mem_append_left _ (List.mem_append_left _ (List.mem_append_right _ h)))))))
  have in9 : ∀ w ∈ u_ws RX9 TX9 8, w ∈ wsX11_count := fun w h => (List.mem_cons_of_mem _ (List.mem_append_left _ (List.mem_append_left _ (List.mem_append_left _ (List.mem_append_left _ (List.mem_append_left _ (List.mem_append_left _ (List.mem_append_left _ (List.mem_append_left _ (List.mem_append_right _ h))))))))))
  have in11 : ∀ w ∈ u_ws RX11 TX11 12, w ∈ wsX11_count := fun w h => (List.mem_cons_of_mem _ (List.mem_append_left _ (List.mem_append_left _ (List.mem_append_left _ (List.mem_append_left _ (List.mem_append_left _ (List.mem_append_left _ (List.mem_append_left _ (List.mem_append_left _ (List.mem_append_left _ (List.mem_append_right _ h)))))))))))
  subst hsz
  have hD := hD0.self (sz := s.heap.size)
  generalize hAe : va_A [(h, .inr (11, [.ref aT, .ref aV, .ref aS, .ref aC, .ref aO, .ref aF, .ref aL, .ref aR, .ref aX, .int 0, .int 0, .int 0])), (aO, .inl (cO, 10, .inl (fun _ => 0))), (aS, .inr (9, [.ref sT, .ref sK, .ref sH, .int 0, .int 0, .int 0, .int 0, .int 0])), (sH, .inr (3, [.ref hF, .ref hW, .ref hM, .int 0, .int 0])), (aR, .inr (6, [.ref rG, .int 0, .int 0, .int (-1), .null, .int 0, .int 0, .null])), (aX, .inr (8, [.ref xL, .int 0, .ref xS, .ref xK, .ref xV, .ref xW, .null, .int 0])), (xL, .inr (7, [.ref lK, .int 0, .int 0]))] s.heap.size = A at hD hZ ⊢
  have hA : ∀ q : Nat, s.heap.size ≤ q → A q := fun q h => by rw [← hAe]; exact Or.inr h
  have hS : va_S A s.heap s.heap [] := va_S.rf
  have hP : va_P (dC, dI) vwCl [(h, .inr (11, [.ref aT, .ref aV, .ref aS, .ref aC, .ref aO, .ref aF, .ref aL, .ref aR, .ref aX, .int 0, .int 0, .int 0])), (aO, .inl (cO, 10, .inl (fun _ => 0))), (aS, .inr (9, [.ref sT, .ref sK, .ref sH, .int 0, .int 0, .int 0, .int 0, .int 0])), (sH, .inr (3, [.ref hF, .ref hW, .ref hM, .int 0, .int 0])), (aR, .inr (6, [.ref rG, .int 0, .int 0, .int (-1), .null, .int 0, .int 0, .null])), (aX, .inr (8, [.ref xL, .int 0, .ref xS, .ref xK, .ref xV, .ref xW, .null, .int 0])), (xL, .inr (7, [.ref lK, .int 0, .int 0]))] s.heap := hP
  have hK : va_K (dC, dI) vwCl [(cO, .boolean)] s := hK
  have hD : va_D A [(h, .inr (11, [.ref aT, .ref aV, .ref aS, .ref aC, .ref aO, .ref aF, .ref aL, .ref aR, .ref aX, .int 0, .int 0, .int 0])), (aO, .inl (cO, 10, .inl (fun _ => 0))), (aS, .inr (9, [.ref sT, .ref sK, .ref sH, .int 0, .int 0, .int 0, .int 0, .int 0])), (sH, .inr (3, [.ref hF, .ref hW, .ref hM, .int 0, .int 0])), (aR, .inr (6, [.ref rG, .int 0, .int 0, .int (-1), .null, .int 0, .int 0, .null])), (aX, .inr (8, [.ref xL, .int 0, .ref xS, .ref xK, .ref xV, .ref xW, .null, .int 0])), (xL, .inr (7, [.ref lK, .int 0, .int 0]))] := hD
  have hl := lv_entry ([.ref h, .int wh]) (n := 2) (Nat.le_of_ble_eq_true rfl)
  rw [lg_entry_eq]
  generalize (lg_sl ([.ref h, .int wh]) ++ List.replicate (2 - (lg_sl ([.ref h, .int wh])).length) Slot.unset).toArray = ls at hl ⊢
  have hl : lv_has ls 2 [(0, .ref h), (1, .int wh)] := hl
  refine lv_iload_n hx hb dX11_count_0 rfl (lv_at hl 1 rfl) ?_
  refine lv_iconst (v := 0) hx hb dX11_count_1 (by decide) ?_
  refine lv_bipush (v := 21) hx hb dX11_count_2 (by decide) ?_
  refine xt_v (wr := [(h, .inr (11, [.ref aT, .ref aV, .ref aS, .ref aC, .ref aO, .ref aF, .ref aL, .ref aR, .ref aX, .int 0, .int 0, .int 0])), (aO, .inl (cO, 10, .inl (fun _ => 0))), (aS, .inr (9, [.ref sT, .ref sK, .ref sH, .int 0, .int 0, .int 0, .int 0, .int 0])), (sH, .inr (3, [.ref hF, .ref hW, .ref hM, .int 0, .int 0])), (aR, .inr (6, [.ref rG, .int 0, .int 0, .int (-1), .null, .int 0, .int 0, .null])), (aX, .inr (8, [.ref xL, .int 0, .ref xS, .ref xK, .ref xV, .ref xW, .null, .int 0])), (xL, .inr (7, [.ref lK, .int 0, .int 0]))]) (tyr := [(cO, .boolean)]) (vx_runS (As := [.int wh, .int 0, .int 21]) (rest := []) ⟨hx, hb, hml, hown, hts⟩ (c_requireRange l hl0 dC dI wh 0 21 s.heap.size ) (va_cwS 3 hts gX11_count_X11_requireRange rfl rfl rfl (by decide +kernel) ⟨Nat.le_of_ble_eq_true rfl, Nat.le_of_ble_eq_true rfl⟩) (ct_pre hP hD hK hS hA hZ [] [] rfl (by decide) rfl) rfl rfl hl.1 rfl (lv_room (Nat.le_of_ble_eq_true rfl)) dX11_count_4 ⟨Nat.le_of_ble_eq_true rfl, Nat.le_of_ble_eq_true rfl⟩) hP hD hK hS hA [] [0, 1, 2, 3, 4, 5, 6] [0] rfl rfl (by decide) (by decide) rfl (fun E ce q9 H locs hbx hS hP hD hce hcv hcl => ?_) (fun u H locs w_2 hP hD hK hS => ?_)
  · skip
    exact vx_out (fun x h => (htab x h).elim) hlocks hce hcv hcl (fun t ht _ => tx_xo hbx hS ht) hS.2.2 (Nat.le_of_ble_eq_true rfl) (Nat.le_of_ble_eq_true rfl)
  · skip
    try dsimp only at w_2
    have hP : va_P (dC, dI) vwCl [(h, .inr (11, [.ref aT, .ref aV, .ref aS, .ref aC, .ref aO, .ref aF, .ref aL, .ref aR, .ref aX, .int 0, .int 0, .int 0])), (aO, .inl (cO, 10, .inl (fun _ => 0))), (aS, .inr (9, [.ref sT, .ref sK, .ref sH, .int 0, .int 0, .int 0, .int 0, .int 0])), (sH, .inr (3, [.ref hF, .ref hW, .ref hM, .int 0, .int 0])), (aR, .inr (6, [.ref rG, .int 0, .int 0, .int (-1), .null, .int 0, .int 0, .null])), (aX, .inr (8, [.ref xL, .int 0, .ref xS, .ref xK, .ref xV, .ref xW, .null, .int 0])), (xL, .inr (7, [.ref lK, .int 0, .int 0]))] H := hP
    have hD : va_D A [(h, .inr (11, [.ref aT, .ref aV, .ref aS, .ref aC, .ref aO, .ref aF, .ref aL, .ref aR, .ref aX, .int 0, .int 0, .int 0])), (aO, .inl (cO, 10, .inl (fun _ => 0))), (aS, .inr (9, [.ref sT, .ref sK, .ref sH, .int 0, .int 0, .int 0, .int 0, .int 0])), (sH, .inr (3, [.ref hF, .ref hW, .ref hM, .int 0, .int 0])), (aR, .inr (6, [.ref rG, .int 0, .int 0, .int (-1), .null, .int 0, .int 0, .null])), (aX, .inr (8, [.ref xL, .int 0, .ref xS, .ref xK, .ref xV, .ref xW, .null, .int 0])), (xL, .inr (7, [.ref lK, .int 0, .int 0]))] := hD
    have hK : va_K (dC, dI) vwCl [(cO, .boolean)] s := hK
    refine W.widen (k := 1) (n := 6) (Nat.le_of_ble_eq_true rfl) (Nat.le_of_ble_eq_true rfl) ?_
    obtain ⟨hk1, hk2⟩ := w_2
    refine lv_iload_n hx hb dX11_count_7 rfl (lv_at hl 1 rfl) ?_
    rcases sp_c10 wh with rfl | rfl | rfl | rfl | rfl | rfl | rfl | rfl | rfl | rfl | hsw
    · skip
      refine lv_tableIn (off := 56) (tgt := 64) hx hb dX11_count_8 (by decide) (by decide) (by decide) (by decide) ?_
      refine lv_aload_n hx hb dX11_count_64 rfl (lv_at hl 0 rfl) ?_
      refine va_get (D := (dC, dI)) (ci := 11) (v := .int 0) (C := RX11) (T := TX11) (N := 12) hx hb hts in11 hown hK hP 0 rfl rfl 9 (by decide) (hts (.fieldLink RX11 56 "FactKeeper" "tapeLength" "I") (by decide +kernel)) (fun _ h9 => h9) rfl dX11_count_65 ?_
      have hP9 := hP.sub (ws' := []) [] rfl
      have hD9 := hD.sub (ws' := []) [] (by decide) rfl
      have hK9 := hK.sub (tys' := []) [] rfl
      refine W.widen (k := 1) (n := 6) (Nat.le_of_ble_eq_true rfl) (Nat.le_of_ble_eq_true rfl) ?_
      exact vx_ret (W.iret (v := 0) hx hb hr (fun t ht hW => ⟨⟨0, (), rfl, ⟨by decide, fun h => h.elim hk1 (fun q => q hk2)⟩, by rw [ht]; exact hP9, va_K.moved hW.alike hK9, hD9⟩, hS.F ht⟩) hS.2.2 dX11_count_68)
    · skip
      refine lv_tableIn (off := 61) (tgt := 69) hx hb dX11_count_8 (by decide) (by decide) (by decide) (by decide) ?_
      refine lv_aload_n hx hb dX11_count_69 rfl (lv_at hl 0 rfl) ?_
      refine va_get (D := (dC, dI)) (ci := 11) (v := .ref aS) (C := RX11) (T := TX11) (N := 12) hx hb hts in11 hown hK hP 0 rfl rfl 2 (by decide) (hts (.fieldLink RX11 20 "FactKeeper" "store" "LFactKeeper$Store;") (by decide +kernel)) (fun _ h9 => h9) rfl dX11_count_70 ?_
      refine va_get (D := (dC, dI)) (ci := 9) (v := .int 0) (C := RX9) (T := TX9) (N := 8) hx hb hts in9 hown hK hP 2 rfl rfl 3 (by decide) (hts (.fieldLink RX11 300 "FactKeeper$Store" "tableCount" "I") (by decide +kernel)) (fun _ h9 => h9) rfl dX11_count_73 ?_
      have hP9 := hP.sub (ws' := []) [] rfl
      have hD9 := hD.sub (ws' := []) [] (by decide) rfl
      have hK9 := hK.sub (tys' := []) [] rfl
      refine W.widen (k := 1) (n := 6) (Nat.le_of_ble_eq_true rfl) (Nat.le_of_ble_eq_true rfl) ?_
      exact vx_ret (W.iret (v := 0) hx hb hr (fun t ht hW => ⟨⟨0, (), rfl, ⟨by decide, fun h => h.elim hk1 (fun q => q hk2)⟩, by rw [ht]; exact hP9, va_K.moved hW.alike hK9, hD9⟩, hS.F ht⟩) hS.2.2 dX11_count_76)
    · skip
      refine lv_tableIn (off := 69) (tgt := 77) hx hb dX11_count_8 (by decide) (by decide) (by decide) (by decide) ?_
      refine lv_aload_n hx hb dX11_count_77 rfl (lv_at hl 0 rfl) ?_
      refine va_get (D := (dC, dI)) (ci := 11) (v := .ref aS) (C := RX11) (T := TX11) (N := 12) hx hb hts in11 hown hK hP 0 rfl rfl 2 (by decide) (hts (.fieldLink RX11 20 "FactKeeper" "store" "LFactKeeper$Store;") (by decide +kernel)) (fun _ h9 => h9) rfl dX11_count_78 ?_
      refine va_get (D := (dC, dI)) (ci := 9) (v := .int 0) (C := RX9) (T := TX9) (N := 8) hx hb hts in9 hown hK hP 2 rfl rfl 6 (by decide) (hts (.fieldLink RX11 303 "FactKeeper$Store" "time" "I") (by decide +kernel)) (fun _ h9 => h9) rfl dX11_count_81 ?_
      have hP9 := hP.sub (ws' := []) [] rfl
      have hD9 := hD.sub (ws' := []) [] (by decide) rfl
      have hK9 := hK.sub (tys' := []) [] rfl
      refine W.widen (k := 1) (n := 6) (Nat.le_of_ble_eq_true rfl) (Nat.le_of_ble_eq_true rfl) ?_
      exact vx_ret (W.iret (v := 0) hx hb hr (fun t ht hW => ⟨⟨0, (), rfl, ⟨by decide, fun h => h.elim hk1 (fun q => q hk2)⟩, by rw [ht]; exact hP9, va_K.moved hW.alike hK9, hD9⟩, hS.F ht⟩) hS.2.2 dX11_count_84)
    · skip
      refine lv_tableIn (off := 77) (tgt := 85) hx hb dX11_count_8 (by decide) (by decide) (by decide) (by decide) ?_
      refine lv_aload_n hx hb dX11_count_85 rfl (lv_at hl 0 rfl) ?_
      refine va_get (D := (dC, dI)) (ci := 11) (v := .ref aS) (C := RX11) (T := TX11) (N := 12) hx hb hts in11 hown hK hP 0 rfl rfl 2 (by decide) (hts (.fieldLink RX11 20 "FactKeeper" "store" "LFactKeeper$Store;") (by decide +kernel)) (fun _ h9 => h9) rfl dX11_count_86 ?_
      refine va_get (D := (dC, dI)) (ci := 9) (v := .int 0) (C := RX9) (T := TX9) (N := 8) hx hb hts in9 hown hK hP 2 rfl rfl 4 (by decide) (hts (.fieldLink RX11 306 "FactKeeper$Store" "keptCount" "I") (by decide +kernel)) (fun _ h9 => h9) rfl dX11_count_89 ?_
      have hP9 := hP.sub (ws' := []) [] rfl
      have hD9 := hD.sub (ws' := []) [] (by decide) rfl
      have hK9 := hK.sub (tys' := []) [] rfl
      refine W.widen (k := 1) (n := 6) (Nat.le_of_ble_eq_true rfl) (Nat.le_of_ble_eq_true rfl) ?_
      exact vx_ret (W.iret (v := 0) hx hb hr (fun t ht hW => ⟨⟨0, (), rfl, ⟨by decide, fun h => h.elim hk1 (fun q => q hk2)⟩, by rw [ht]; exact hP9, va_K.moved hW.alike hK9, hD9⟩, hS.F ht⟩) hS.2.2 dX11_count_92)
    · skip
      refine lv_tableIn (off := 85) (tgt := 93) hx hb dX11_count_8 (by decide) (by decide) (by decide) (by decide) ?_
      refine lv_aload_n hx hb dX11_count_93 rfl (lv_at hl 0 rfl) ?_
      refine va_get (D := (dC, dI)) (ci := 11) (v := .ref aS) (C := RX11) (T := TX11) (N := 12) hx hb hts in11 hown hK hP 0 rfl rfl 2 (by decide) (hts (.fieldLink RX11 20 "FactKeeper" "store" "LFactKeeper$Store;") (by decide +kernel)) (fun _ h9 => h9) rfl dX11_count_94 ?_
      refine va_get (D := (dC, dI)) (ci := 9) (v := .int 0) (C := RX9) (T := TX9) (N := 8) hx hb hts in9 hown hK hP 2 rfl rfl 7 (by decide) (hts (.fieldLink RX11 308 "FactKeeper$Store" "horizon" "I") (by decide +kernel)) (fun _ h9 => h9) rfl dX11_count_97 ?_
      have hP9 := hP.sub (ws' := []) [] rfl
      have hD9 := hD.sub (ws' := []) [] (by decide) rfl
      have hK9 := hK.sub (tys' := []) [] rfl
      refine W.widen (k := 1) (n := 6) (Nat.le_of_ble_eq_true rfl) (Nat.le_of_ble_eq_true rfl) ?_
      exact vx_ret (W.iret (v := 0) hx hb hr (fun t ht hW => ⟨⟨0, (), rfl, ⟨by decide, fun h => h.elim hk1 (fun q => q hk2)⟩, by rw [ht]; exact hP9, va_K.moved hW.alike hK9, hD9⟩, hS.F ht⟩) hS.2.2 dX11_count_100)
    · skip
      refine lv_tableIn (off := 93) (tgt := 101) hx hb dX11_count_8 (by decide) (by decide) (by decide) (by decide) ?_
      refine lv_aload_n hx hb dX11_count_101 rfl (lv_at hl 0 rfl) ?_
      refine va_get (D := (dC, dI)) (ci := 11) (v := .int 0) (C := RX11) (T := TX11) (N := 12) hx hb hts in11 hown hK hP 0 rfl rfl 11 (by decide) (hts (.fieldLink RX11 151 "FactKeeper" "lookedAt" "I") (by decide +kernel)) (fun _ h9 => h9) rfl dX11_count_102 ?_
      have hP9 := hP.sub (ws' := []) [] rfl
      have hD9 := hD.sub (ws' := []) [] (by decide) rfl
      have hK9 := hK.sub (tys' := []) [] rfl
      refine W.widen (k := 1) (n := 6) (Nat.le_of_ble_eq_true rfl) (Nat.le_of_ble_eq_true rfl) ?_
      exact vx_ret (W.iret (v := 0) hx hb hr (fun t ht hW => ⟨⟨0, (), rfl, ⟨by decide, fun h => h.elim hk1 (fun q => q hk2)⟩, by rw [ht]; exact hP9, va_K.moved hW.alike hK9, hD9⟩, hS.F ht⟩) hS.2.2 dX11_count_105)
    · skip
      refine lv_tableIn (off := 98) (tgt := 106) hx hb dX11_count_8 (by decide) (by decide) (by decide) (by decide) ?_
      refine lv_aload_n hx hb dX11_count_106 rfl (lv_at hl 0 rfl) ?_
      refine va_get (D := (dC, dI)) (ci := 11) (v := .ref aR) (C := RX11) (T := TX11) (N := 12) hx hb hts in11 hown hK hP 0 rfl rfl 7 (by decide) (hts (.fieldLink RX11 45 "FactKeeper" "reader" "LFactKeeper$Reader;") (by decide +kernel)) (fun _ h9 => h9) rfl dX11_count_107 ?_
      refine va_get (D := (dC, dI)) (ci := 6) (v := .int (-1)) (C := RX6) (T := TX6) (N := 8) hx hb hts in6 hown hK hP 4 rfl rfl 3 (by decide) (hts (.fieldLink RX11 269 "FactKeeper$Reader" "place" "I") (by decide +kernel)) (fun _ h9 => h9) rfl dX11_count_110 ?_
      have hP9 := hP.sub (ws' := []) [] rfl
      have hD9 := hD.sub (ws' := []) [] (by decide) rfl
      have hK9 := hK.sub (tys' := []) [] rfl
      refine W.widen (k := 1) (n := 6) (Nat.le_of_ble_eq_true rfl) (Nat.le_of_ble_eq_true rfl) ?_
      exact vx_ret (W.iret (v := (-1)) hx hb hr (fun t ht hW => ⟨⟨(-1), (), rfl, ⟨by decide, fun h => h.elim hk1 (fun q => q hk2)⟩, by rw [ht]; exact hP9, va_K.moved hW.alike hK9, hD9⟩, hS.F ht⟩) hS.2.2 dX11_count_113)
    · skip
      refine lv_tableIn (off := 106) (tgt := 114) hx hb dX11_count_8 (by decide) (by decide) (by decide) (by decide) ?_
      refine lv_aload_n hx hb dX11_count_114 rfl (lv_at hl 0 rfl) ?_
      refine ct_i (wr := [(aS, .inr (9, [.ref sT, .ref sK, .ref sH, .int 0, .int 0, .int 0, .int 0, .int 0])), (sH, .inr (3, [.ref hF, .ref hW, .ref hM, .int 0, .int 0])), (aR, .inr (6, [.ref rG, .int 0, .int 0, .int (-1), .null, .int 0, .int 0, .null])), (aX, .inr (8, [.ref xL, .int 0, .ref xS, .ref xK, .ref xV, .ref xW, .null, .int 0])), (xL, .inr (7, [.ref lK, .int 0, .int 0]))]) (tyr := []) (va_runV (As := []) (rest := []) ⟨hx, hb, hml, hown, hts⟩ (c_openCursors l hl0 dC dI h aT aV aS aC aO aF aL aR aX cO H.size ) (cwV 0 hts gX11_count_X11_openCursors rfl rfl rfl (by decide +kernel) ⟨Nat.le_of_ble_eq_true rfl, Nat.le_of_ble_eq_true rfl⟩) (ct_preV (ci := 11) (q0 := 0) hP hD hK hS hA hZ rfl rfl [0, 1] [0] rfl (by decide) rfl) rfl rfl hl.1 rfl (lv_room (Nat.le_of_ble_eq_true rfl)) dX11_count_115 ⟨Nat.le_of_ble_eq_true rfl, Nat.le_of_ble_eq_true rfl⟩) hP hD hK hS hA [0, 1] [2, 3, 4, 5, 6] [] rfl rfl (by decide) (by decide) rfl (fun r_3 u H locs w_4 hP hD hK hS => ?_)
      try dsimp only at w_4
      have hP : va_P (dC, dI) vwCl [(aS, .inr (9, [.ref sT, .ref sK, .ref sH, .int 0, .int 0, .int 0, .int 0, .int 0])), (sH, .inr (3, [.ref hF, .ref hW, .ref hM, .int 0, .int 0])), (aR, .inr (6, [.ref rG, .int 0, .int 0, .int (-1), .null, .int 0, .int 0, .null])), (aX, .inr (8, [.ref xL, .int 0, .ref xS, .ref xK, .ref xV, .ref xW, .null, .int 0])), (xL, .inr (7, [.ref lK, .int 0, .int 0])), (h, .inr (11, [.ref aT, .ref aV, .ref aS, .ref aC, .ref aO, .ref aF, .ref aL, .ref aR, .ref aX, .int 0, .int 0, .int 0])), (aO, .inl (cO, 10, .inl (fun _ => 0)))] H := hP
      have hD : va_D A [(aS, .inr (9, [.ref sT, .ref sK, .ref sH, .int 0, .int 0, .int 0, .int 0, .int 0])), (sH, .inr (3, [.ref hF, .ref hW, .ref hM, .int 0, .int 0])), (aR, .inr (6, [.ref rG, .int 0, .int 0, .int (-1), .null, .int 0, .int 0, .null])), (aX, .inr (8, [.ref xL, .int 0, .ref xS, .ref xK, .ref xV, .ref xW, .null, .int 0])), (xL, .inr (7, [.ref lK, .int 0, .int 0])), (h, .inr (11, [.ref aT, .ref aV, .ref aS, .ref aC, .ref aO, .ref aF, .ref aL, .ref aR, .ref aX, .int 0, .int 0, .int 0])), (aO, .inl (cO, 10, .inl (fun _ => 0)))] := hD
      have hK : va_K (dC, dI) vwCl [(cO, .boolean)] s := hK
      obtain rfl : r_3 = 0 := w_4
      have hP9 := hP.sub (ws' := []) [] rfl
      have hD9 := hD.sub (ws' := []) [] (by decide) rfl
      have hK9 := hK.sub (tys' := []) [] rfl
      refine W.widen (k := 1) (n := 6) (Nat.le_of_ble_eq_true rfl) (Nat.le_of_ble_eq_true rfl) ?_
      exact vx_ret (W.iret (v := 0) hx hb hr (fun t ht hW => ⟨⟨0, (), rfl, ⟨by decide, fun h => h.elim hk1 (fun q => q hk2)⟩, by rw [ht]; exact hP9, va_K.moved hW.alike hK9, hD9⟩, hS.F ht⟩) hS.2.2 dX11_count_118)
    · skip
      refine lv_tableIn (off := 111) (tgt := 119) hx hb dX11_count_8 (by decide) (by decide) (by decide) (by decide) ?_
      refine lv_aload_n hx hb dX11_count_119 rfl (lv_at hl 0 rfl) ?_
      refine va_get (D := (dC, dI)) (ci := 11) (v := .ref aS) (C := RX11) (T := TX11) (N := 12) hx hb hts in11 hown hK hP 0 rfl rfl 2 (by decide) (hts (.fieldLink RX11 20 "FactKeeper" "store" "LFactKeeper$Store;") (by decide +kernel)) (fun _ h9 => h9) rfl dX11_count_120 ?_
      refine va_get (D := (dC, dI)) (ci := 9) (v := .ref sH) (C := RX9) (T := TX9) (N := 8) hx hb hts in9 hown hK hP 2 rfl rfl 2 (by decide) (hts (.fieldLink RX11 207 "FactKeeper$Store" "history" "LFactKeeper$History;") (by decide +kernel)) (fun _ h9 => h9) rfl dX11_count_123 ?_
      refine va_get (D := (dC, dI)) (ci := 3) (v := .int 0) (C := RX3) (T := TX3) (N := 5) hx hb hts in3 hown hK hP 3 rfl rfl 4 (by decide) (hts (.fieldLink RX11 219 "FactKeeper$History" "markCount" "I") (by decide +kernel)) (fun _ h9 => h9) rfl dX11_count_126 ?_
      have hP9 := hP.sub (ws' := []) [] rfl
      have hD9 := hD.sub (ws' := []) [] (by decide) rfl
      have hK9 := hK.sub (tys' := []) [] rfl
      refine W.widen (k := 1) (n := 6) (Nat.le_of_ble_eq_true rfl) (Nat.le_of_ble_eq_true rfl) ?_
      exact vx_ret (W.iret (v := 0) hx hb hr (fun t ht hW => ⟨⟨0, (), rfl, ⟨by decide, fun h => h.elim hk1 (fun q => q hk2)⟩, by rw [ht]; exact hP9, va_K.moved hW.alike hK9, hD9⟩, hS.F ht⟩) hS.2.2 dX11_count_129)
    · skip
      refine lv_tableIn (off := 122) (tgt := 130) hx hb dX11_count_8 (by decide) (by decide) (by decide) (by decide) ?_
      refine lv_aload_n hx hb dX11_count_130 rfl (lv_at hl 0 rfl) ?_
      refine va_get (D := (dC, dI)) (ci := 11) (v := .ref aX) (C := RX11) (T := TX11) (N := 12) hx hb hts in11 hown hK hP 0 rfl rfl 8 (by decide) (hts (.fieldLink RX11 52 "FactKeeper" "solver" "LFactKeeper$Solver;") (by decide +kernel)) (fun _ h9 => h9) rfl dX11_count_131 ?_
      refine va_get (D := (dC, dI)) (ci := 8) (v := .ref xL) (C := RX8) (T := TX8) (N := 8) hx hb hts in8 hown hK hP 5 rfl rfl 0 (by decide) (hts (.fieldLink RX11 281 "FactKeeper$Solver" "latest" "LFactKeeper$Solutions;") (by decide +kernel)) (fun _ h9 => h9) rfl dX11_count_134 ?_
      refine va_get (D := (dC, dI)) (ci := 7) (v := .int 0) (C := RX7) (T := TX7) (N := 3) hx hb hts in7 hown hK hP 6 rfl rfl 1 (by decide) (hts (.fieldLink RX11 290 "FactKeeper$Solutions" "known" "I") (by decide +kernel)) (fun _ h9 => h9) rfl dX11_count_137 ?_
      refine ct_i (wr := [(h, .inr (11, [.ref aT, .ref aV, .ref aS, .ref aC, .ref aO, .ref aF, .ref aL, .ref aR, .ref aX, .int 0, .int 0, .int 0])), (aO, .inl (cO, 10, .inl (fun _ => 0))), (aS, .inr (9, [.ref sT, .ref sK, .ref sH, .int 0, .int 0, .int 0, .int 0, .int 0])), (sH, .inr (3, [.ref hF, .ref hW, .ref hM, .int 0, .int 0])), (aR, .inr (6, [.ref rG, .int 0, .int 0, .int (-1), .null, .int 0, .int 0, .null])), (aX, .inr (8, [.ref xL, .int 0, .ref xS, .ref xK, .ref xV, .ref xW, .null, .int 0])), (xL, .inr (7, [.ref lK, .int 0, .int 0]))]) (tyr := [(cO, .boolean)]) (va_runS (As := [.int 0]) (rest := []) ⟨hx, hb, hml, hown, hts⟩ (c_bitCount l hl0 dC dI  H.size ) (va_cwS 1 hts gX11_count_J6_bitCount_0f7a4 rfl rfl rfl (by decide +kernel) ⟨Nat.le_of_ble_eq_true rfl, Nat.le_of_ble_eq_true rfl⟩) (ct_pre hP hD hK hS hA hZ [] [] rfl (by decide) rfl) rfl rfl hl.1 rfl (lv_room (Nat.le_of_ble_eq_true rfl)) dX11_count_140 ⟨Nat.le_of_ble_eq_true rfl, Nat.le_of_ble_eq_true rfl⟩) hP hD hK hS hA [] [0, 1, 2, 3, 4, 5, 6] [0] rfl rfl (by decide) (by decide) rfl (fun r_5 u H locs w_6 hP hD hK hS => ?_)
      try dsimp only at w_6
      have hP : va_P (dC, dI) vwCl [(h, .inr (11, [.ref aT, .ref aV, .ref aS, .ref aC, .ref aO, .ref aF, .ref aL, .ref aR, .ref aX, .int 0, .int 0, .int 0])), (aO, .inl (cO, 10, .inl (fun _ => 0))), (aS, .inr (9, [.ref sT, .ref sK, .ref sH, .int 0, .int 0, .int 0, .int 0, .int 0])), (sH, .inr (3, [.ref hF, .ref hW, .ref hM, .int 0, .int 0])), (aR, .inr (6, [.ref rG, .int 0, .int 0, .int (-1), .null, .int 0, .int 0, .null])), (aX, .inr (8, [.ref xL, .int 0, .ref xS, .ref xK, .ref xV, .ref xW, .null, .int 0])), (xL, .inr (7, [.ref lK, .int 0, .int 0]))] H := hP
      have hD : va_D A [(h, .inr (11, [.ref aT, .ref aV, .ref aS, .ref aC, .ref aO, .ref aF, .ref aL, .ref aR, .ref aX, .int 0, .int 0, .int 0])), (aO, .inl (cO, 10, .inl (fun _ => 0))), (aS, .inr (9, [.ref sT, .ref sK, .ref sH, .int 0, .int 0, .int 0, .int 0, .int 0])), (sH, .inr (3, [.ref hF, .ref hW, .ref hM, .int 0, .int 0])), (aR, .inr (6, [.ref rG, .int 0, .int 0, .int (-1), .null, .int 0, .int 0, .null])), (aX, .inr (8, [.ref xL, .int 0, .ref xS, .ref xK, .ref xV, .ref xW, .null, .int 0])), (xL, .inr (7, [.ref lK, .int 0, .int 0]))] := hD
      have hK : va_K (dC, dI) vwCl [(cO, .boolean)] s := hK
      obtain rfl : r_5 = 0 := w_6
      have hP9 := hP.sub (ws' := []) [] rfl
      have hD9 := hD.sub (ws' := []) [] (by decide) rfl
      have hK9 := hK.sub (tys' := []) [] rfl
      refine W.widen (k := 1) (n := 6) (Nat.le_of_ble_eq_true rfl) (Nat.le_of_ble_eq_true rfl) ?_
      exact vx_ret (W.iret (v := 0) hx hb hr (fun t ht hW => ⟨⟨0, (), rfl, ⟨by decide, fun h => h.elim hk1 (fun q => q hk2)⟩, by rw [ht]; exact hP9, va_K.moved hW.alike hK9, hD9⟩, hS.F ht⟩) hS.2.2 dX11_count_143)
    · skip
      refine lv_tableOut (tgt := 144) hx hb dX11_count_8 hsw (by decide) ?_
      refine lv_aload_n hx hb dX11_count_144 rfl (lv_at hl 0 rfl) ?_
      refine lv_iload_n hx hb dX11_count_145 rfl (lv_at hl 1 rfl) ?_
      refine lv_bipush (v := 10) hx hb dX11_count_146 (by decide) ?_
      refine lv_isub hx hb dX11_count_148 ?_
      refine lv_topi (fun z_7 ez_7 => ?_)
      refine ct_i (wr := [(aO, .inl (cO, 10, .inl (fun _ => 0))), (sH, .inr (3, [.ref hF, .ref hW, .ref hM, .int 0, .int 0])), (aR, .inr (6, [.ref rG, .int 0, .int 0, .int (-1), .null, .int 0, .int 0, .null])), (aX, .inr (8, [.ref xL, .int 0, .ref xS, .ref xK, .ref xV, .ref xW, .null, .int 0])), (xL, .inr (7, [.ref lK, .int 0, .int 0]))]) (tyr := [(cO, .boolean)]) (va_runV (As := [.int z_7]) (rest := []) ⟨hx, hb, hml, hown, hts⟩ (c_factsThereNow l hl0 dC dI h aT aV aS aC aO aF aL aR aX sT sK sH z_7 H.size ) (cwV 1 hts gX11_count_X11_factsThereNow rfl rfl rfl (by decide +kernel) ⟨Nat.le_of_ble_eq_true rfl, Nat.le_of_ble_eq_true rfl⟩) (ct_preV (ci := 11) (q0 := 0) hP hD hK hS hA hZ rfl rfl [0, 2] [] rfl (by decide) rfl) rfl rfl hl.1 rfl (lv_room (Nat.le_of_ble_eq_true rfl)) dX11_count_149 ⟨Nat.le_of_ble_eq_true rfl, Nat.le_of_ble_eq_true rfl⟩) hP hD hK hS hA [0, 2] [1, 3, 4, 5, 6] [0] rfl rfl (by decide) (by decide) rfl (fun r_8 u H locs w_9 hP hD hK hS => ?_)
      try dsimp only at w_9
      have hP : va_P (dC, dI) vwCl [(aO, .inl (cO, 10, .inl (fun _ => 0))), (sH, .inr (3, [.ref hF, .ref hW, .ref hM, .int 0, .int 0])), (aR, .inr (6, [.ref rG, .int 0, .int 0, .int (-1), .null, .int 0, .int 0, .null])), (aX, .inr (8, [.ref xL, .int 0, .ref xS, .ref xK, .ref xV, .ref xW, .null, .int 0])), (xL, .inr (7, [.ref lK, .int 0, .int 0])), (h, .inr (11, [.ref aT, .ref aV, .ref aS, .ref aC, .ref aO, .ref aF, .ref aL, .ref aR, .ref aX, .int 0, .int 0, .int 0])), (aS, .inr (9, [.ref sT, .ref sK, .ref sH, .int 0, .int 0, .int 0, .int 0, .int 0]))] H := hP
      have hD : va_D A [(aO, .inl (cO, 10, .inl (fun _ => 0))), (sH, .inr (3, [.ref hF, .ref hW, .ref hM, .int 0, .int 0])), (aR, .inr (6, [.ref rG, .int 0, .int 0, .int (-1), .null, .int 0, .int 0, .null])), (aX, .inr (8, [.ref xL, .int 0, .ref xS, .ref xK, .ref xV, .ref xW, .null, .int 0])), (xL, .inr (7, [.ref lK, .int 0, .int 0])), (h, .inr (11, [.ref aT, .ref aV, .ref aS, .ref aC, .ref aO, .ref aF, .ref aL, .ref aR, .ref aX, .int 0, .int 0, .int 0])), (aS, .inr (9, [.ref sT, .ref sK, .ref sH, .int 0, .int 0, .int 0, .int 0, .int 0]))] := hD
      have hK : va_K (dC, dI) vwCl [(cO, .boolean)] s := hK
      obtain rfl : r_8 = (-1) := w_9
      have hP9 := hP.sub (ws' := []) [] rfl
      have hD9 := hD.sub (ws' := []) [] (by decide) rfl
      have hK9 := hK.sub (tys' := []) [] rfl
      refine W.widen (k := 1) (n := 6) (Nat.le_of_ble_eq_true rfl) (Nat.le_of_ble_eq_true rfl) ?_
      exact vx_ret (W.iret (v := (-1)) hx hb hr (fun t ht hW => ⟨⟨(-1), (), rfl, ⟨sp_cnt_hi hk1 hsw, fun h => h.elim hk1 (fun q => q hk2)⟩, by rw [ht]; exact hP9, va_K.moved hW.alike hK9, hD9⟩, hS.F ht⟩) hS.2.2 dX11_count_152)

set_option maxHeartbeats 4000000 in
set_option maxRecDepth 100000 in
/-- putBytes at 0 -/
theorem c_putBytes0 (l : Launch) (hl0 : l.stackTraces = false) (dC : Nat → ClassId) (dI : Nat → Nat → Nat) (h : Nat) (aT : Nat) (aV : Nat) (aS : Nat) (aC : Nat) (aO : Nat) (aF : Nat) (aL : Nat) (aR : Nat) (aX : Nat) (cB : ClassId) (f : Nat → Int32) (fo : Int32) (sz : Nat)  : Met l yX11_putBytes wsX11_putBytes ({ frames := 0, cells := 0, slots := 0, locals := 0 } : Room) (va_Pc [.ref h, .int fo] (ct_P (dC, dI) [(h, .inr (11, [.ref aT, .ref aV, .ref aS, .ref aC, .ref aO, .ref aF, .ref aL, .ref aR, .ref aX, .int 0, .int 0, .int 0])), (aT, .inl (cB, 400, .inl f))] [(cB, .byte)] sz)) (va_Qv (fun (u : (Nat → Int32)) => True) (fun (u : (Nat → Int32)) => ct_B (dC, dI) (va_A [(h, .inr (11, [.ref aT, .ref aV, .ref aS, .ref aC, .ref aO, .ref aF, .ref aL, .ref aR, .ref aX, .int 0, .int 0, .int 0])), (aT, .inl (cB, 400, .inl f))] sz) [(h, .inr (11, [.ref aT, .ref aV, .ref aS, .ref aC, .ref aO, .ref aF, .ref aL, .ref aR, .ref aX, .int 4, .int 0, .int 0])), (aT, .inl (cB, 400, .inl u))] [(cB, .byte)]) (va_A [(h, .inr (11, [.ref aT, .ref aV, .ref aS, .ref aC, .ref aO, .ref aF, .ref aL, .ref aR, .ref aX, .int 0, .int 0, .int 0])), (aT, .inl (cB, 400, .inl f))] sz)) 0 0 (va_A [(h, .inr (11, [.ref aT, .ref aV, .ref aS, .ref aC, .ref aO, .ref aF, .ref aL, .ref aR, .ref aX, .int 0, .int 0, .int 0])), (aT, .inl (cB, 400, .inl f))] sz) := by
  refine Met.ofW (cc := cX11_putBytes) (maxL := 3) (ret := none) (by decide) rfl ?_
  intro p e s m args below meth c s₁ B hml hv
  obtain ⟨rfl, hsz, hP, hK, hD0, hZ⟩ := hv
  have hx := B.exec
  have hb := B.bytes
  have hr := B.returns
  have hts := atoms_spec (ws := wsX11_putBytes) B.pre
  have hown : s.vm.findClass RX11 = some m.cls := findClass_of_methodNamed B.named
  have hlocks := B.notSynchronized
  have in11 : ∀ w ∈ u_ws RX11 TX11 12, w ∈ wsX11_putBytes := fun w h => (List.mem_cons_of_mem _ (List.mem_append_right _ h))
  subst hsz
  have hD := hD0.self (sz := s.heap.size)
  generalize hAe : va_A [(h, .inr (11, [.ref aT, .ref aV, .ref aS, .ref aC, .ref aO, .ref aF, .ref aL, .ref aR, .ref aX, .int 0, .int 0, .int 0])), (aT, .inl (cB, 400, .inl f))] s.heap.size = A at hD hZ ⊢
  have hA : ∀ q : Nat, s.heap.size ≤ q → A q := fun q h => by rw [← hAe]; exact Or.inr h
  have hS : va_S A s.heap s.heap [] := va_S.rf
  have hP : va_P (dC, dI) vwCl [(h, .inr (11, [.ref aT, .ref aV, .ref aS, .ref aC, .ref aO, .ref aF, .ref aL, .ref aR, .ref aX, .int 0, .int 0, .int 0])), (aT, .inl (cB, 400, .inl f))] s.heap := hP
  have hK : va_K (dC, dI) vwCl [(cB, .byte)] s := hK
  have hD : va_D A [(h, .inr (11, [.ref aT, .ref aV, .ref aS, .ref aC, .ref aO, .ref aF, .ref aL, .ref aR, .ref aX, .int 0, .int 0, .int 0])), (aT, .inl (cB, 400, .inl f))] := hD
  have hl := lv_entry ([.ref h, .int fo]) (n := 3) (Nat.le_of_ble_eq_true rfl)
  rw [lg_entry_eq]
  generalize (lg_sl ([.ref h, .int fo]) ++ List.replicate (3 - (lg_sl ([.ref h, .int fo])).length) Slot.unset).toArray = ls at hl ⊢
  have hl : lv_has ls 3 [(0, .ref h), (1, .int fo)] := hl
  refine lv_bipush (v := 24) hx hb dX11_putBytes_0 (by decide) ?_
  refine lv_istore_n (lv' := [(2, .int 24), (0, .ref h), (1, .int fo)]) hx hb dX11_putBytes_2 rfl hl (by decide) rfl (fun ls hl => ?_)
  refine lv_iload_n hx hb dX11_putBytes_3 rfl (lv_at hl 0 rfl) ?_
  refine lv_if_lt (tgt := 46) hx hb dX11_putBytes_4 (by decide) (fun c_1 => absurd c_1 (by decide)) (fun _ => ?_)
  refine lv_aload_n hx hb dX11_putBytes_7 rfl (lv_at hl 1 rfl) ?_
  refine va_get (D := (dC, dI)) (ci := 11) (v := .int 0) (C := RX11) (T := TX11) (N := 12) hx hb hts in11 hown hK hP 0 rfl rfl 9 (by decide) (hts (.fieldLink RX11 56 "FactKeeper" "tapeLength" "I") (by decide +kernel)) (fun _ h9 => h9) rfl dX11_putBytes_8 ?_
  refine lv_sipush (v := 400) hx hb dX11_putBytes_11 (by decide) ?_
  refine lv_icmp_ge (tgt := 46) hx hb dX11_putBytes_14 (by decide) (fun c_2 => absurd c_2 (by decide)) (fun _ => ?_)
  refine lv_aload_n hx hb dX11_putBytes_17 rfl (lv_at hl 1 rfl) ?_
  refine va_get (D := (dC, dI)) (ci := 11) (v := .ref aT) (C := RX11) (T := TX11) (N := 12) hx hb hts in11 hown hK hP 0 rfl rfl 0 (by decide) (hts (.fieldLink RX11 9 "FactKeeper" "tape" "[B") (by decide +kernel)) (fun _ h9 => h9) rfl dX11_putBytes_18 ?_
  refine lv_aload_n hx hb dX11_putBytes_21 rfl (lv_at hl 1 rfl) ?_
  refine va_get (D := (dC, dI)) (ci := 11) (v := .int 0) (C := RX11) (T := TX11) (N := 12) hx hb hts in11 hown hK hP 0 rfl rfl 9 (by decide) (hts (.fieldLink RX11 56 "FactKeeper" "tapeLength" "I") (by decide +kernel)) (fun _ h9 => h9) rfl dX11_putBytes_22 ?_
  refine lv_iload_n hx hb dX11_putBytes_25 rfl (lv_at hl 2 rfl) ?_
  refine lv_iload_n hx hb dX11_putBytes_26 rfl (lv_at hl 0 rfl) ?_
  refine lv_ishr hx hb dX11_putBytes_27 ?_
  refine lv_topi (fun z_3 ez_3 => ?_)
  obtain ⟨z_4, ez_4⟩ : ∃ y : Int32, y = (z_3 : Int32).toInt8.toInt32 := ⟨_, rfl⟩
  refine lv_i2b (v := z_4) hx hb dX11_putBytes_28 ez_4.symm ?_
  refine va_bast hx hb hK hP hD hS 1 0 rfl rfl (by unfold vp_in; decide) dX11_putBytes_29 (fun H locs hP hD hS => ?_)
  have hP : va_P (dC, dI) vwCl [(h, .inr (11, [.ref aT, .ref aV, .ref aS, .ref aC, .ref aO, .ref aF, .ref aL, .ref aR, .ref aX, .int 0, .int 0, .int 0])), (aT, .inl (cB, 400, .inl (upd f (0 : Int32).toNatClampNeg (vp_nar .byte z_4))))] H := hP
  have hD : va_D A [(h, .inr (11, [.ref aT, .ref aV, .ref aS, .ref aC, .ref aO, .ref aF, .ref aL, .ref aR, .ref aX, .int 0, .int 0, .int 0])), (aT, .inl (cB, 400, .inl (upd f (0 : Int32).toNatClampNeg (vp_nar .byte z_4))))] := hD
  obtain ⟨g_5, eg_5⟩ : ∃ g : Nat → Int32, g = (upd f (0 : Int32).toNatClampNeg (vp_nar .byte z_4)) := ⟨_, rfl⟩
  rw [← eg_5] at hP hD
  have hP : va_P (dC, dI) vwCl [(h, .inr (11, [.ref aT, .ref aV, .ref aS, .ref aC, .ref aO, .ref aF, .ref aL, .ref aR, .ref aX, .int 0, .int 0, .int 0])), (aT, .inl (cB, 400, .inl g_5))] H := hP
  have hD : va_D A [(h, .inr (11, [.ref aT, .ref aV, .ref aS, .ref aC, .ref aO, .ref aF, .ref aL, .ref aR, .ref aX, .int 0, .int 0, .int 0])), (aT, .inl (cB, 400, .inl g_5))] := hD
  refine lv_aload_n hx hb dX11_putBytes_30 rfl (lv_at hl 1 rfl) ?_
  refine lv_dup hx hb dX11_putBytes_31 rfl ?_
  refine va_get (D := (dC, dI)) (ci := 11) (v := .int 0) (C := RX11) (T := TX11) (N := 12) hx hb hts in11 hown hK hP 0 rfl rfl 9 (by decide) (hts (.fieldLink RX11 56 "FactKeeper" "tapeLength" "I") (by decide +kernel)) (fun _ h9 => h9) rfl dX11_putBytes_32 ?_
  refine lv_iconst (v := 1) hx hb dX11_putBytes_35 (by decide) ?_
  refine lv_iadd hx hb dX11_putBytes_36 ?_
  refine lv_topi (fun z_6 ez_6 => ?_)
  obtain rfl : z_6 = 1 := ez_6.trans (by decide)
  refine va_put (D := (dC, dI)) (ci := 11) (v := .int 1) (ty := .int) (C := RX11) (T := TX11) (N := 12) hx hb hts in11 tyX11 tyX11_ok nmX11 hown hK hP hD hS 0 rfl rfl 9 (by decide) (hts (.fieldLink RX11 56 "FactKeeper" "tapeLength" "I") (by decide +kernel)) (fun _ h9 => h9) rfl (by decide +kernel) rfl rfl (Nat.le_of_ble_eq_true rfl) dX11_putBytes_37 (fun H locs hP hD hS => ?_)
  have hP : va_P (dC, dI) vwCl [(h, .inr (11, [.ref aT, .ref aV, .ref aS, .ref aC, .ref aO, .ref aF, .ref aL, .ref aR, .ref aX, .int 1, .int 0, .int 0])), (aT, .inl (cB, 400, .inl g_5))] H := hP
  have hD : va_D A [(h, .inr (11, [.ref aT, .ref aV, .ref aS, .ref aC, .ref aO, .ref aF, .ref aL, .ref aR, .ref aX, .int 1, .int 0, .int 0])), (aT, .inl (cB, 400, .inl g_5))] := hD
  refine lv_iinc (v := 16) (lv' := [(2, .int 16), (0, .ref h), (1, .int fo)]) hx hb dX11_putBytes_40 hl (k := 0) rfl (by decide) (by decide) rfl (fun ls hl => ?_)
  refine lv_goto (tgt := 3) hx hb dX11_putBytes_43 (by decide) ?_
  refine lv_iload_n hx hb dX11_putBytes_3 rfl (lv_at hl 0 rfl) ?_
  refine lv_if_lt (tgt := 46) hx hb dX11_putBytes_4 (by decide) (fun c_7 => absurd c_7 (by decide)) (fun _ => ?_)
  refine lv_aload_n hx hb dX11_putBytes_7 rfl (lv_at hl 1 rfl) ?_
  refine va_get (D := (dC, dI)) (ci := 11) (v := .int 1) (C := RX11) (T := TX11) (N := 12) hx hb hts in11 hown hK hP 0 rfl rfl 9 (by decide) (hts (.fieldLink RX11 56 "FactKeeper" "tapeLength" "I") (by decide +kernel)) (fun _ h9 => h9) rfl dX11_putBytes_8 ?_
  refine lv_sipush (v := 400) hx hb dX11_putBytes_11 (by decide) ?_
  refine lv_icmp_ge (tgt := 46) hx hb dX11_putBytes_14 (by decide) (fun c_8 => absurd c_8 (by decide)) (fun _ => ?_)
  refine lv_aload_n hx hb dX11_putBytes_17 rfl (lv_at hl 1 rfl) ?_
  refine va_get (D := (dC, dI)) (ci := 11) (v := .ref aT) (C := RX11) (T := TX11) (N := 12) hx hb hts in11 hown hK hP 0 rfl rfl 0 (by decide) (hts (.fieldLink RX11 9 "FactKeeper" "tape" "[B") (by decide +kernel)) (fun _ h9 => h9) rfl dX11_putBytes_18 ?_
  refine lv_aload_n hx hb dX11_putBytes_21 rfl (lv_at hl 1 rfl) ?_
  refine va_get (D := (dC, dI)) (ci := 11) (v := .int 1) (C := RX11) (T := TX11) (N := 12) hx hb hts in11 hown hK hP 0 rfl rfl 9 (by decide) (hts (.fieldLink RX11 56 "FactKeeper" "tapeLength" "I") (by decide +kernel)) (fun _ h9 => h9) rfl dX11_putBytes_22 ?_
  refine lv_iload_n hx hb dX11_putBytes_25 rfl (lv_at hl 2 rfl) ?_
  refine lv_iload_n hx hb dX11_putBytes_26 rfl (lv_at hl 0 rfl) ?_
  refine lv_ishr hx hb dX11_putBytes_27 ?_
  refine lv_topi (fun z_9 ez_9 => ?_)
  obtain ⟨z_10, ez_10⟩ : ∃ y : Int32, y = (z_9 : Int32).toInt8.toInt32 := ⟨_, rfl⟩
  refine lv_i2b (v := z_10) hx hb dX11_putBytes_28 ez_10.symm ?_
  refine va_bast hx hb hK hP hD hS 1 0 rfl rfl (by unfold vp_in; decide) dX11_putBytes_29 (fun H locs hP hD hS => ?_)
  have hP : va_P (dC, dI) vwCl [(h, .inr (11, [.ref aT, .ref aV, .ref aS, .ref aC, .ref aO, .ref aF, .ref aL, .ref aR, .ref aX, .int 1, .int 0, .int 0])), (aT, .inl (cB, 400, .inl (upd g_5 (1 : Int32).toNatClampNeg (vp_nar .byte z_10))))] H := hP
  have hD : va_D A [(h, .inr (11, [.ref aT, .ref aV, .ref aS, .ref aC, .ref aO, .ref aF, .ref aL, .ref aR, .ref aX, .int 1, .int 0, .int 0])), (aT, .inl (cB, 400, .inl (upd g_5 (1 : Int32).toNatClampNeg (vp_nar .byte z_10))))] := hD
  obtain ⟨g_11, eg_11⟩ : ∃ g : Nat → Int32, g = (upd g_5 (1 : Int32).toNatClampNeg (vp_nar .byte z_10)) := ⟨_, rfl⟩
  rw [← eg_11] at hP hD
  have hP : va_P (dC, dI) vwCl [(h, .inr (11, [.ref aT, .ref aV, .ref aS, .ref aC, .ref aO, .ref aF, .ref aL, .ref aR, .ref aX, .int 1, .int 0, .int 0])), (aT, .inl (cB, 400, .inl g_11))] H := hP
  have hD : va_D A [(h, .inr (11, [.ref aT, .ref aV, .ref aS, .ref aC, .ref aO, .ref aF, .ref aL, .ref aR, .ref aX, .int 1, .int 0, .int 0])), (aT, .inl (cB, 400, .inl g_11))] := hD
  refine lv_aload_n hx hb dX11_putBytes_30 rfl (lv_at hl 1 rfl) ?_
  refine lv_dup hx hb dX11_putBytes_31 rfl ?_
  refine va_get (D := (dC, dI)) (ci := 11) (v := .int 1) (C := RX11) (T := TX11) (N := 12) hx hb hts in11 hown hK hP 0 rfl rfl 9 (by decide) (hts (.fieldLink RX11 56 "FactKeeper" "tapeLength" "I") (by decide +kernel)) (fun _ h9 => h9) rfl dX11_putBytes_32 ?_
  refine lv_iconst (v := 1) hx hb dX11_putBytes_35 (by decide) ?_
  refine lv_iadd hx hb dX11_putBytes_36 ?_
  refine lv_topi (fun z_12 ez_12 => ?_)
  obtain rfl : z_12 = 2 := ez_12.trans (by decide)
  refine va_put (D := (dC, dI)) (ci := 11) (v := .int 2) (ty := .int) (C := RX11) (T := TX11) (N := 12) hx hb hts in11 tyX11 tyX11_ok nmX11 hown hK hP hD hS 0 rfl rfl 9 (by decide) (hts (.fieldLink RX11 56 "FactKeeper" "tapeLength" "I") (by decide +kernel)) (fun _ h9 => h9) rfl (by decide +kernel) rfl rfl (Nat.le_of_ble_eq_true rfl) dX11_putBytes_37 (fun H locs hP hD hS => ?_)
  have hP : va_P (dC, dI) vwCl [(h, .inr (11, [.ref aT, .ref aV, .ref aS, .ref aC, .ref aO, .ref aF, .ref aL, .ref aR, .ref aX, .int 2, .int 0, .int 0])), (aT, .inl (cB, 400, .inl g_11))] H := hP
  have hD : va_D A [(h, .inr (11, [.ref aT, .ref aV, .ref aS, .ref aC, .ref aO, .ref aF, .ref aL, .ref aR, .ref aX, .int 2, .int 0, .int 0])), (aT, .inl (cB, 400, .inl g_11))] := hD
  refine lv_iinc (v := 8) (lv' := [(2, .int 8), (0, .ref h), (1, .int fo)]) hx hb dX11_putBytes_40 hl (k := 0) rfl (by decide) (by decide) rfl (fun ls hl => ?_)
  refine lv_goto (tgt := 3) hx hb dX11_putBytes_43 (by decide) ?_
  refine lv_iload_n hx hb dX11_putBytes_3 rfl (lv_at hl 0 rfl) ?_
  refine lv_if_lt (tgt := 46) hx hb dX11_putBytes_4 (by decide) (fun c_13 => absurd c_13 (by decide)) (fun _ => ?_)
  refine lv_aload_n hx hb dX11_putBytes_7 rfl (lv_at hl 1 rfl) ?_
  refine va_get (D := (dC, dI)) (ci := 11) (v := .int 2) (C := RX11) (T := TX11) (N := 12) hx hb hts in11 hown hK hP 0 rfl rfl 9 (by decide) (hts (.fieldLink RX11 56 "FactKeeper" "tapeLength" "I") (by decide +kernel)) (fun _ h9 => h9) rfl dX11_putBytes_8 ?_
  refine lv_sipush (v := 400) hx hb dX11_putBytes_11 (by decide) ?_
  refine lv_icmp_ge (tgt := 46) hx hb dX11_putBytes_14 (by decide) (fun c_14 => absurd c_14 (by decide)) (fun _ => ?_)
  refine lv_aload_n hx hb dX11_putBytes_17 rfl (lv_at hl 1 rfl) ?_
  refine va_get (D := (dC, dI)) (ci := 11) (v := .ref aT) (C := RX11) (T := TX11) (N := 12) hx hb hts in11 hown hK hP 0 rfl rfl 0 (by decide) (hts (.fieldLink RX11 9 "FactKeeper" "tape" "[B") (by decide +kernel)) (fun _ h9 => h9) rfl dX11_putBytes_18 ?_
  refine lv_aload_n hx hb dX11_putBytes_21 rfl (lv_at hl 1 rfl) ?_
  refine va_get (D := (dC, dI)) (ci := 11) (v := .int 2) (C := RX11) (T := TX11) (N := 12) hx hb hts in11 hown hK hP 0 rfl rfl 9 (by decide) (hts (.fieldLink RX11 56 "FactKeeper" "tapeLength" "I") (by decide +kernel)) (fun _ h9 => h9) rfl dX11_putBytes_22 ?_
  refine lv_iload_n hx hb dX11_putBytes_25 rfl (lv_at hl 2 rfl) ?_
  refine lv_iload_n hx hb dX11_putBytes_26 rfl (lv_at hl 0 rfl) ?_
  refine lv_ishr hx hb dX11_putBytes_27 ?_
  refine lv_topi (fun z_15 ez_15 => ?_)
  obtain ⟨z_16, ez_16⟩ : ∃ y : Int32, y = (z_15 : Int32).toInt8.toInt32 := ⟨_, rfl⟩
  refine lv_i2b (v := z_16) hx hb dX11_putBytes_28 ez_16.symm ?_
  refine va_bast hx hb hK hP hD hS 1 0 rfl rfl (by unfold vp_in; decide) dX11_putBytes_29 (fun H locs hP hD hS => ?_)
  have hP : va_P (dC, dI) vwCl [(h, .inr (11, [.ref aT, .ref aV, .ref aS, .ref aC, .ref aO, .ref aF, .ref aL, .ref aR, .ref aX, .int 2, .int 0, .int 0])), (aT, .inl (cB, 400, .inl (upd g_11 (2 : Int32).toNatClampNeg (vp_nar .byte z_16))))] H := hP
  have hD : va_D A [(h, .inr (11, [.ref aT, .ref aV, .ref aS, .ref aC, .ref aO, .ref aF, .ref aL, .ref aR, .ref aX, .int 2, .int 0, .int 0])), (aT, .inl (cB, 400, .inl (upd g_11 (2 : Int32).toNatClampNeg (vp_nar .byte z_16))))] := hD
  obtain ⟨g_17, eg_17⟩ : ∃ g : Nat → Int32, g = (upd g_11 (2 : Int32).toNatClampNeg (vp_nar .byte z_16)) := ⟨_, rfl⟩
  rw [← eg_17] at hP hD
  have hP : va_P (dC, dI) vwCl [(h, .inr (11, [.ref aT, .ref aV, .ref aS, .ref aC, .ref aO, .ref aF, .ref aL, .ref aR, .ref aX, .int 2, .int 0, .int 0])), (aT, .inl (cB, 400, .inl g_17))] H := hP
  have hD : va_D A [(h, .inr (11, [.ref aT, .ref aV, .ref aS, .ref aC, .ref aO, .ref aF, .ref aL, .ref aR, .ref aX, .int 2, .int 0, .int 0])), (aT, .inl (cB, 400, .inl g_17))] := hD
  refine lv_aload_n hx hb dX11_putBytes_30 rfl (lv_at hl 1 rfl) ?_
  refine lv_dup hx hb dX11_putBytes_31 rfl ?_
  refine va_get (D := (dC, dI)) (ci := 11) (v := .int 2) (C := RX11) (T := TX11) (N := 12) hx hb hts in11 hown hK hP 0 rfl rfl 9 (by decide) (hts (.fieldLink RX11 56 "FactKeeper" "tapeLength" "I") (by decide +kernel)) (fun _ h9 => h9) rfl dX11_putBytes_32 ?_
  refine lv_iconst (v := 1) hx hb dX11_putBytes_35 (by decide) ?_
  refine lv_iadd hx hb dX11_putBytes_36 ?_
  refine lv_topi (fun z_18 ez_18 => ?_)
  obtain rfl : z_18 = 3 := ez_18.trans (by decide)
  refine va_put (D := (dC, dI)) (ci := 11) (v := .int 3) (ty := .int) (C := RX11) (T := TX11) (N := 12) hx hb hts in11 tyX11 tyX11_ok nmX11 hown hK hP hD hS 0 rfl rfl 9 (by decide) (hts (.fieldLink RX11 56 "FactKeeper" "tapeLength" "I") (by decide +kernel)) (fun _ h9 => h9) rfl (by decide +kernel) rfl rfl (Nat.le_of_ble_eq_true rfl) dX11_putBytes_37 (fun H locs hP hD hS => ?_)
  have hP : va_P (dC, dI) vwCl [(h, .inr (11, [.ref aT, .ref aV, .ref aS, .ref aC, .ref aO, .ref aF, .ref aL, .ref aR, .ref aX, .int 3, .int 0, .int 0])), (aT, .inl (cB, 400, .inl g_17))] H := hP
  have hD : va_D A [(h, .inr (11, [.ref aT, .ref aV, .ref aS, .ref aC, .ref aO, .ref aF, .ref aL, .ref aR, .ref aX, .int 3, .int 0, .int 0])), (aT, .inl (cB, 400, .inl g_17))] := hD
  refine lv_iinc (v := 0) (lv' := [(2, .int 0), (0, .ref h), (1, .int fo)]) hx hb dX11_putBytes_40 hl (k := 0) rfl (by decide) (by decide) rfl (fun ls hl => ?_)
  refine lv_goto (tgt := 3) hx hb dX11_putBytes_43 (by decide) ?_
  refine lv_iload_n hx hb dX11_putBytes_3 rfl (lv_at hl 0 rfl) ?_
  refine lv_if_lt (tgt := 46) hx hb dX11_putBytes_4 (by decide) (fun c_19 => absurd c_19 (by decide)) (fun _ => ?_)
  refine lv_aload_n hx hb dX11_putBytes_7 rfl (lv_at hl 1 rfl) ?_
  refine va_get (D := (dC, dI)) (ci := 11) (v := .int 3) (C := RX11) (T := TX11) (N := 12) hx hb hts in11 hown hK hP 0 rfl rfl 9 (by decide) (hts (.fieldLink RX11 56 "FactKeeper" "tapeLength" "I") (by decide +kernel)) (fun _ h9 => h9) rfl dX11_putBytes_8 ?_
  refine lv_sipush (v := 400) hx hb dX11_putBytes_11 (by decide) ?_
  refine lv_icmp_ge (tgt := 46) hx hb dX11_putBytes_14 (by decide) (fun c_20 => absurd c_20 (by decide)) (fun _ => ?_)
  refine lv_aload_n hx hb dX11_putBytes_17 rfl (lv_at hl 1 rfl) ?_
  refine va_get (D := (dC, dI)) (ci := 11) (v := .ref aT) (C := RX11) (T := TX11) (N := 12) hx hb hts in11 hown hK hP 0 rfl rfl 0 (by decide) (hts (.fieldLink RX11 9 "FactKeeper" "tape" "[B") (by decide +kernel)) (fun _ h9 => h9) rfl dX11_putBytes_18 ?_
  refine lv_aload_n hx hb dX11_putBytes_21 rfl (lv_at hl 1 rfl) ?_
  refine va_get (D := (dC, dI)) (ci := 11) (v := .int 3) (C := RX11) (T := TX11) (N := 12) hx hb hts in11 hown hK hP 0 rfl rfl 9 (by decide) (hts (.fieldLink RX11 56 "FactKeeper" "tapeLength" "I") (by decide +kernel)) (fun _ h9 => h9) rfl dX11_putBytes_22 ?_
  refine lv_iload_n hx hb dX11_putBytes_25 rfl (lv_at hl 2 rfl) ?_
  refine lv_iload_n hx hb dX11_putBytes_26 rfl (lv_at hl 0 rfl) ?_
  refine lv_ishr hx hb dX11_putBytes_27 ?_
  refine lv_topi (fun z_21 ez_21 => ?_)
  obtain ⟨z_22, ez_22⟩ : ∃ y : Int32, y = (z_21 : Int32).toInt8.toInt32 := ⟨_, rfl⟩
  refine lv_i2b (v := z_22) hx hb dX11_putBytes_28 ez_22.symm ?_
  refine va_bast hx hb hK hP hD hS 1 0 rfl rfl (by unfold vp_in; decide) dX11_putBytes_29 (fun H locs hP hD hS => ?_)
  have hP : va_P (dC, dI) vwCl [(h, .inr (11, [.ref aT, .ref aV, .ref aS, .ref aC, .ref aO, .ref aF, .ref aL, .ref aR, .ref aX, .int 3, .int 0, .int 0])), (aT, .inl (cB, 400, .inl (upd g_17 (3 : Int32).toNatClampNeg (vp_nar .byte z_22))))] H := hP
  have hD : va_D A [(h, .inr (11, [.ref aT, .ref aV, .ref aS, .ref aC, .ref aO, .ref aF, .ref aL, .ref aR, .ref aX, .int 3, .int 0, .int 0])), (aT, .inl (cB, 400, .inl (upd g_17 (3 : Int32).toNatClampNeg (vp_nar .byte z_22))))] := hD
  obtain ⟨g_23, eg_23⟩ : ∃ g : Nat → Int32, g = (upd g_17 (3 : Int32).toNatClampNeg (vp_nar .byte z_22)) := ⟨_, rfl⟩
  rw [← eg_23] at hP hD
  have hP : va_P (dC, dI) vwCl [(h, .inr (11, [.ref aT, .ref aV, .ref aS, .ref aC, .ref aO, .ref aF, .ref aL, .ref aR, .ref aX, .int 3, .int 0, .int 0])), (aT, .inl (cB, 400, .inl g_23))] H := hP
  have hD : va_D A [(h, .inr (11, [.ref aT, .ref aV, .ref aS, .ref aC, .ref aO, .ref aF, .ref aL, .ref aR, .ref aX, .int 3, .int 0, .int 0])), (aT, .inl (cB, 400, .inl g_23))] := hD
  refine lv_aload_n hx hb dX11_putBytes_30 rfl (lv_at hl 1 rfl) ?_
  refine lv_dup hx hb dX11_putBytes_31 rfl ?_
  refine va_get (D := (dC, dI)) (ci := 11) (v := .int 3) (C := RX11) (T := TX11) (N := 12) hx hb hts in11 hown hK hP 0 rfl rfl 9 (by decide) (hts (.fieldLink RX11 56 "FactKeeper" "tapeLength" "I") (by decide +kernel)) (fun _ h9 => h9) rfl dX11_putBytes_32 ?_
  refine lv_iconst (v := 1) hx hb dX11_putBytes_35 (by decide) ?_
  refine lv_iadd hx hb dX11_putBytes_36 ?_
  refine lv_topi (fun z_24 ez_24 => ?_)
  obtain rfl : z_24 = 4 := ez_24.trans (by decide)
  refine va_put (D := (dC, dI)) (ci := 11) (v := .int 4) (ty := .int) (C := RX11) (T := TX11) (N := 12) hx hb hts in11 tyX11 tyX11_ok nmX11 hown hK hP hD hS 0 rfl rfl 9 (by decide) (hts (.fieldLink RX11 56 "FactKeeper" "tapeLength" "I") (by decide +kernel)) (fun _ h9 => h9) rfl (by decide +kernel) rfl rfl (Nat.le_of_ble_eq_true rfl) dX11_putBytes_37 (fun H locs hP hD hS => ?_)
  have hP : va_P (dC, dI) vwCl [(h, .inr (11, [.ref aT, .ref aV, .ref aS, .ref aC, .ref aO, .ref aF, .ref aL, .ref aR, .ref aX, .int 4, .int 0, .int 0])), (aT, .inl (cB, 400, .inl g_23))] H := hP
  have hD : va_D A [(h, .inr (11, [.ref aT, .ref aV, .ref aS, .ref aC, .ref aO, .ref aF, .ref aL, .ref aR, .ref aX, .int 4, .int 0, .int 0])), (aT, .inl (cB, 400, .inl g_23))] := hD
  refine lv_iinc (v := (-8)) (lv' := [(2, .int (-8)), (0, .ref h), (1, .int fo)]) hx hb dX11_putBytes_40 hl (k := 0) rfl (by decide) (by decide) rfl (fun ls hl => ?_)
  refine lv_goto (tgt := 3) hx hb dX11_putBytes_43 (by decide) ?_
  refine lv_iload_n hx hb dX11_putBytes_3 rfl (lv_at hl 0 rfl) ?_
  refine lv_if_lt (tgt := 46) hx hb dX11_putBytes_4 (by decide) (fun _ => ?_) (fun c_25 => absurd c_25 (by decide))
  have hP9 := hP.sub (ws' := [(h, .inr (11, [.ref aT, .ref aV, .ref aS, .ref aC, .ref aO, .ref aF, .ref aL, .ref aR, .ref aX, .int 4, .int 0, .int 0])), (aT, .inl (cB, 400, .inl g_23))]) [0, 1] rfl
  have hD9 := hD.sub (ws' := [(h, .inr (11, [.ref aT, .ref aV, .ref aS, .ref aC, .ref aO, .ref aF, .ref aL, .ref aR, .ref aX, .int 4, .int 0, .int 0])), (aT, .inl (cB, 400, .inl g_23))]) [0, 1] (by decide) rfl
  have hK9 := hK.sub (tys' := [(cB, .byte)]) [0] rfl
  refine W.widen (k := 0) (n := 0) (Nat.le_of_ble_eq_true rfl) (Nat.le_of_ble_eq_true rfl) ?_
  exact (W.vret hx hb hr (fun t ht hW => ⟨⟨g_23, rfl, trivial, by rw [ht]; exact hP9, va_K.moved hW.alike hK9, hD9⟩, hS.F ht⟩) hS.2.2 dX11_putBytes_46)

set_option maxHeartbeats 4000000 in
set_option maxRecDepth 100000 in
/-- putBytes at 4 -/
theorem c_putBytes4 (l : Launch) (hl0 : l.stackTraces = false) (dC : Nat → ClassId) (dI : Nat → Nat → Nat) (h : Nat) (aT : Nat) (aV : Nat) (aS : Nat) (aC : Nat) (aO : Nat) (aF : Nat) (aL : Nat) (aR : Nat) (aX : Nat) (cB : ClassId) (f : Nat → Int32) (fo : Int32) (sz : Nat)  : Met l yX11_putBytes wsX11_putBytes ({ frames := 0, cells := 0, slots := 0, locals := 0 } : Room) (va_Pc [.ref h, .int fo] (ct_P (dC, dI) [(h, .inr (11, [.ref aT, .ref aV, .ref aS, .ref aC, .ref aO, .ref aF, .ref aL, .ref aR, .ref aX, .int 4, .int 0, .int 0])), (aT, .inl (cB, 400, .inl f))] [(cB, .byte)] sz)) (va_Qv (fun (u : (Nat → Int32)) => True) (fun (u : (Nat → Int32)) => ct_B (dC, dI) (va_A [(h, .inr (11, [.ref aT, .ref aV, .ref aS, .ref aC, .ref aO, .ref aF, .ref aL, .ref aR, .ref aX, .int 4, .int 0, .int 0])), (aT, .inl (cB, 400, .inl f))] sz) [(h, .inr (11, [.ref aT, .ref aV, .ref aS, .ref aC, .ref aO, .ref aF, .ref aL, .ref aR, .ref aX, .int 8, .int 0, .int 0])), (aT, .inl (cB, 400, .inl u))] [(cB, .byte)]) (va_A [(h, .inr (11, [.ref aT, .ref aV, .ref aS, .ref aC, .ref aO, .ref aF, .ref aL, .ref aR, .ref aX, .int 4, .int 0, .int 0])), (aT, .inl (cB, 400, .inl f))] sz)) 0 0 (va_A [(h, .inr (11, [.ref aT, .ref aV, .ref aS, .ref aC, .ref aO, .ref aF, .ref aL, .ref aR, .ref aX, .int 4, .int 0, .int 0])), (aT, .inl (cB, 400, .inl f))] sz) := by
  refine Met.ofW (cc := cX11_putBytes) (maxL := 3) (ret := none) (by decide) rfl ?_
  intro p e s m args below meth c s₁ B hml hv
  obtain ⟨rfl, hsz, hP, hK, hD0, hZ⟩ := hv
  have hx := B.exec
  have hb := B.bytes
  have hr := B.returns
  have hts := atoms_spec (ws := wsX11_putBytes) B.pre
  have hown : s.vm.findClass RX11 = some m.cls := findClass_of_methodNamed B.named
  have hlocks := B.notSynchronized
  have in11 : ∀ w ∈ u_ws RX11 TX11 12, w ∈ wsX11_putBytes := fun w h => (List.mem_cons_of_mem _ (List.mem_append_right _ h))
  subst hsz
  have hD := hD0.self (sz := s.heap.size)
  generalize hAe : va_A [(h, .inr (11, [.ref aT, .ref aV, .ref aS, .ref aC, .ref aO, .ref aF, .ref aL, .ref aR, .ref aX, .int 4, .int 0, .int 0])), (aT, .inl (cB, 400, .inl f))] s.heap.size = A at hD hZ ⊢
  have hA : ∀ q : Nat, s.heap.size ≤ q → A q := fun q h => by rw [← hAe]; exact Or.inr h
  have hS : va_S A s.heap s.heap [] := va_S.rf
  have hP : va_P (dC, dI) vwCl [(h, .inr (11, [.ref aT, .ref aV, .ref aS, .ref aC, .ref aO, .ref aF, .ref aL, .ref aR, .ref aX, .int 4, .int 0, .int 0])), (aT, .inl (cB, 400, .inl f))] s.heap := hP
  have hK : va_K (dC, dI) vwCl [(cB, .byte)] s := hK
  have hD : va_D A [(h, .inr (11, [.ref aT, .ref aV, .ref aS, .ref aC, .ref aO, .ref aF, .ref aL, .ref aR, .ref aX, .int 4, .int 0, .int 0])), (aT, .inl (cB, 400, .inl f))] := hD
  have hl := lv_entry ([.ref h, .int fo]) (n := 3) (Nat.le_of_ble_eq_true rfl)
  rw [lg_entry_eq]
  generalize (lg_sl ([.ref h, .int fo]) ++ List.replicate (3 - (lg_sl ([.ref h, .int fo])).length) Slot.unset).toArray = ls at hl ⊢
  have hl : lv_has ls 3 [(0, .ref h), (1, .int fo)] := hl
  refine lv_bipush (v := 24) hx hb dX11_putBytes_0 (by decide) ?_
  refine lv_istore_n (lv' := [(2, .int 24), (0, .ref h), (1, .int fo)]) hx hb dX11_putBytes_2 rfl hl (by decide) rfl (fun ls hl => ?_)
  refine lv_iload_n hx hb dX11_putBytes_3 rfl (lv_at hl 0 rfl) ?_
  refine lv_if_lt (tgt := 46) hx hb dX11_putBytes_4 (by decide) (fun c_1 => absurd c_1 (by decide)) (fun _ => ?_)
  refine lv_aload_n hx hb dX11_putBytes_7 rfl (lv_at hl 1 rfl) ?_
  refine va_get (D := (dC, dI)) (ci := 11) (v := .int 4) (C := RX11) (T := TX11) (N := 12) hx hb hts in11 hown hK hP 0 rfl rfl 9 (by decide) (hts (.fieldLink RX11 56 "FactKeeper" "tapeLength" "I") (by decide +kernel)) (fun _ h9 => h9) rfl dX11_putBytes_8 ?_
  refine lv_sipush (v := 400) hx hb dX11_putBytes_11 (by decide) ?_
  refine lv_icmp_ge (tgt := 46) hx hb dX11_putBytes_14 (by decide) (fun c_2 => absurd c_2 (by decide)) (fun _ => ?_)
  refine lv_aload_n hx hb dX11_putBytes_17 rfl (lv_at hl 1 rfl) ?_
  refine va_get (D := (dC, dI)) (ci := 11) (v := .ref aT) (C := RX11) (T := TX11) (N := 12) hx hb hts in11 hown hK hP 0 rfl rfl 0 (by decide) (hts (.fieldLink RX11 9 "FactKeeper" "tape" "[B") (by decide +kernel)) (fun _ h9 => h9) rfl dX11_putBytes_18 ?_
  refine lv_aload_n hx hb dX11_putBytes_21 rfl (lv_at hl 1 rfl) ?_
  refine va_get (D := (dC, dI)) (ci := 11) (v := .int 4) (C := RX11) (T := TX11) (N := 12) hx hb hts in11 hown hK hP 0 rfl rfl 9 (by decide) (hts (.fieldLink RX11 56 "FactKeeper" "tapeLength" "I") (by decide +kernel)) (fun _ h9 => h9) rfl dX11_putBytes_22 ?_
  refine lv_iload_n hx hb dX11_putBytes_25 rfl (lv_at hl 2 rfl) ?_
  refine lv_iload_n hx hb dX11_putBytes_26 rfl (lv_at hl 0 rfl) ?_
  refine lv_ishr hx hb dX11_putBytes_27 ?_
  refine lv_topi (fun z_3 ez_3 => ?_)
  obtain ⟨z_4, ez_4⟩ : ∃ y : Int32, y = (z_3 : Int32).toInt8.toInt32 := ⟨_, rfl⟩
  refine lv_i2b (v := z_4) hx hb dX11_putBytes_28 ez_4.symm ?_
  refine va_bast hx hb hK hP hD hS 1 0 rfl rfl (by unfold vp_in; decide) dX11_putBytes_29 (fun H locs hP hD hS => ?_)
  have hP : va_P (dC, dI) vwCl [(h, .inr (11, [.ref aT, .ref aV, .ref aS, .ref aC, .ref aO, .ref aF, .ref aL, .ref aR, .ref aX, .int 4, .int 0, .int 0])), (aT, .inl (cB, 400, .inl (upd f (4 : Int32).toNatClampNeg (vp_nar .byte z_4))))] H := hP
  have hD : va_D A [(h, .inr (11, [.ref aT, .ref aV, .ref aS, .ref aC, .ref aO, .ref aF, .ref aL, .ref aR, .ref aX, .int 4, .int 0, .int 0])), (aT, .inl (cB, 400, .inl (upd f (4 : Int32).toNatClampNeg (vp_nar .byte z_4))))] := hD
  obtain ⟨g_5, eg_5⟩ : ∃ g : Nat → Int32, g = (upd f (4 : Int32).toNatClampNeg (vp_nar .byte z_4)) := ⟨_, rfl⟩
  rw [← eg_5] at hP hD
  have hP : va_P (dC, dI) vwCl [(h, .inr (11, [.ref aT, .ref aV, .ref aS, .ref aC, .ref aO, .ref aF, .ref aL, .ref aR, .ref aX, .int 4, .int 0, .int 0])), (aT, .inl (cB, 400, .inl g_5))] H := hP
  have hD : va_D A [(h, .inr (11, [.ref aT, .ref aV, .ref aS, .ref aC, .ref aO, .ref aF, .ref aL, .ref aR, .ref aX, .int 4, .int 0, .int 0])), (aT, .inl (cB, 400, .inl g_5))] := hD
  refine lv_aload_n hx hb dX11_putBytes_30 rfl (lv_at hl 1 rfl) ?_
  refine lv_dup hx hb dX11_putBytes_31 rfl ?_
  refine va_get (D := (dC, dI)) (ci := 11) (v := .int 4) (C := RX11) (T := TX11) (N := 12) hx hb hts in11 hown hK hP 0 rfl rfl 9 (by decide) (hts (.fieldLink RX11 56 "FactKeeper" "tapeLength" "I") (by decide +kernel)) (fun _ h9 => h9) rfl dX11_putBytes_32 ?_
  refine lv_iconst (v := 1) hx hb dX11_putBytes_35 (by decide) ?_
  refine lv_iadd hx hb dX11_putBytes_36 ?_
  refine lv_topi (fun z_6 ez_6 => ?_)
  obtain rfl : z_6 = 5 := ez_6.trans (by decide)
  refine va_put (D := (dC, dI)) (ci := 11) (v := .int 5) (ty := .int) (C := RX11) (T := TX11) (N := 12) hx hb hts in11 tyX11 tyX11_ok nmX11 hown hK hP hD hS 0 rfl rfl 9 (by decide) (hts (.fieldLink RX11 56 "FactKeeper" "tapeLength" "I") (by decide +kernel)) (fun _ h9 => h9) rfl (by decide +kernel) rfl rfl (Nat.le_of_ble_eq_true rfl) dX11_putBytes_37 (fun H locs hP hD hS => ?_)
  have hP : va_P (dC, dI) vwCl [(h, .inr (11, [.ref aT, .ref aV, .ref aS, .ref aC, .ref aO, .ref aF, .ref aL, .ref aR, .ref aX, .int 5, .int 0, .int 0])), (aT, .inl (cB, 400, .inl g_5))] H := hP
  have hD : va_D A [(h, .inr (11, [.ref aT, .ref aV, .ref aS, .ref aC, .ref aO, .ref aF, .ref aL, .ref aR, .ref aX, .int 5, .int 0, .int 0])), (aT, .inl (cB, 400, .inl g_5))] := hD
  refine lv_iinc (v := 16) (lv' := [(2, .int 16), (0, .ref h), (1, .int fo)]) hx hb dX11_putBytes_40 hl (k := 0) rfl (by decide) (by decide) rfl (fun ls hl => ?_)
  refine lv_goto (tgt := 3) hx hb dX11_putBytes_43 (by decide) ?_
  refine lv_iload_n hx hb dX11_putBytes_3 rfl (lv_at hl 0 rfl) ?_
  refine lv_if_lt (tgt := 46) hx hb dX11_putBytes_4 (by decide) (fun c_7 => absurd c_7 (by decide)) (fun _ => ?_)
  refine lv_aload_n hx hb dX11_putBytes_7 rfl (lv_at hl 1 rfl) ?_
  refine va_get (D := (dC, dI)) (ci := 11) (v := .int 5) (C := RX11) (T := TX11) (N := 12) hx hb hts in11 hown hK hP 0 rfl rfl 9 (by decide) (hts (.fieldLink RX11 56 "FactKeeper" "tapeLength" "I") (by decide +kernel)) (fun _ h9 => h9) rfl dX11_putBytes_8 ?_
  refine lv_sipush (v := 400) hx hb dX11_putBytes_11 (by decide) ?_
  refine lv_icmp_ge (tgt := 46) hx hb dX11_putBytes_14 (by decide) (fun c_8 => absurd c_8 (by decide)) (fun _ => ?_)
  refine lv_aload_n hx hb dX11_putBytes_17 rfl (lv_at hl 1 rfl) ?_
  refine va_get (D := (dC, dI)) (ci := 11) (v := .ref aT) (C := RX11) (T := TX11) (N := 12) hx hb hts in11 hown hK hP 0 rfl rfl 0 (by decide) (hts (.fieldLink RX11 9 "FactKeeper" "tape" "[B") (by decide +kernel)) (fun _ h9 => h9) rfl dX11_putBytes_18 ?_
  refine lv_aload_n hx hb dX11_putBytes_21 rfl (lv_at hl 1 rfl) ?_
  refine va_get (D := (dC, dI)) (ci := 11) (v := .int 5) (C := RX11) (T := TX11) (N := 12) hx hb hts in11 hown hK hP 0 rfl rfl 9 (by decide) (hts (.fieldLink RX11 56 "FactKeeper" "tapeLength" "I") (by decide +kernel)) (fun _ h9 => h9) rfl dX11_putBytes_22 ?_
  refine lv_iload_n hx hb dX11_putBytes_25 rfl (lv_at hl 2 rfl) ?_
  refine lv_iload_n hx hb dX11_putBytes_26 rfl (lv_at hl 0 rfl) ?_
  refine lv_ishr hx hb dX11_putBytes_27 ?_
  refine lv_topi (fun z_9 ez_9 => ?_)
  obtain ⟨z_10, ez_10⟩ : ∃ y : Int32, y = (z_9 : Int32).toInt8.toInt32 := ⟨_, rfl⟩
  refine lv_i2b (v := z_10) hx hb dX11_putBytes_28 ez_10.symm ?_
  refine va_bast hx hb hK hP hD hS 1 0 rfl rfl (by unfold vp_in; decide) dX11_putBytes_29 (fun H locs hP hD hS => ?_)
  have hP : va_P (dC, dI) vwCl [(h, .inr (11, [.ref aT, .ref aV, .ref aS, .ref aC, .ref aO, .ref aF, .ref aL, .ref aR, .ref aX, .int 5, .int 0, .int 0])), (aT, .inl (cB, 400, .inl (upd g_5 (5 : Int32).toNatClampNeg (vp_nar .byte z_10))))] H := hP
  have hD : va_D A [(h, .inr (11, [.ref aT, .ref aV, .ref aS, .ref aC, .ref aO, .ref aF, .ref aL, .ref aR, .ref aX, .int 5, .int 0, .int 0])), (aT, .inl (cB, 400, .inl (upd g_5 (5 : Int32).toNatClampNeg (vp_nar .byte z_10))))] := hD
  obtain ⟨g_11, eg_11⟩ : ∃ g : Nat → Int32, g = (upd g_5 (5 : Int32).toNatClampNeg (vp_nar .byte z_10)) := ⟨_, rfl⟩
  rw [← eg_11] at hP hD
  have hP : va_P (dC, dI) vwCl [(h, .inr (11, [.ref aT, .ref aV, .ref aS, .ref aC, .ref aO, .ref aF, .ref aL, .ref aR, .ref aX, .int 5, .int 0, .int 0])), (aT, .inl (cB, 400, .inl g_11))] H := hP
  have hD : va_D A [(h, .inr (11, [.ref aT, .ref aV, .ref aS, .ref aC, .ref aO, .ref aF, .ref aL, .ref aR, .ref aX, .int 5, .int 0, .int 0])), (aT, .inl (cB, 400, .inl g_11))] := hD
  refine lv_aload_n hx hb dX11_putBytes_30 rfl (lv_at hl 1 rfl) ?_
  refine lv_dup hx hb dX11_putBytes_31 rfl ?_
  refine va_get (D := (dC, dI)) (ci := 11) (v := .int 5) (C := RX11) (T := TX11) (N := 12) hx hb hts in11 hown hK hP 0 rfl rfl 9 (by decide) (hts (.fieldLink RX11 56 "FactKeeper" "tapeLength" "I") (by decide +kernel)) (fun _ h9 => h9) rfl dX11_putBytes_32 ?_
  refine lv_iconst (v := 1) hx hb dX11_putBytes_35 (by decide) ?_
  refine lv_iadd hx hb dX11_putBytes_36 ?_
  refine lv_topi (fun z_12 ez_12 => ?_)
  obtain rfl : z_12 = 6 := ez_12.trans (by decide)
  refine va_put (D := (dC, dI)) (ci := 11) (v := .int 6) (ty := .int) (C := RX11) (T := TX11) (N := 12) hx hb hts in11 tyX11 tyX11_ok nmX11 hown hK hP hD hS 0 rfl rfl 9 (by decide) (hts (.fieldLink RX11 56 "FactKeeper" "tapeLength" "I") (by decide +kernel)) (fun _ h9 => h9) rfl (by decide +kernel) rfl rfl (Nat.le_of_ble_eq_true rfl) dX11_putBytes_37 (fun H locs hP hD hS => ?_)
  have hP : va_P (dC, dI) vwCl [(h, .inr (11, [.ref aT, .ref aV, .ref aS, .ref aC, .ref aO, .ref aF, .ref aL, .ref aR, .ref aX, .int 6, .int 0, .int 0])), (aT, .inl (cB, 400, .inl g_11))] H := hP
  have hD : va_D A [(h, .inr (11, [.ref aT, .ref aV, .ref aS, .ref aC, .ref aO, .ref aF, .ref aL, .ref aR, .ref aX, .int 6, .int 0, .int 0])), (aT, .inl (cB, 400, .inl g_11))] := hD
  refine lv_iinc (v := 8) (lv' := [(2, .int 8), (0, .ref h), (1, .int fo)]) hx hb dX11_putBytes_40 hl (k := 0) rfl (by decide) (by decide) rfl (fun ls hl => ?_)
  refine lv_goto (tgt := 3) hx hb dX11_putBytes_43 (by decide) ?_
  refine lv_iload_n hx hb dX11_putBytes_3 rfl (lv_at hl 0 rfl) ?_
  refine lv_if_lt (tgt := 46) hx hb dX11_putBytes_4 (by decide) (fun c_13 => absurd c_13 (by decide)) (fun _ => ?_)
  refine lv_aload_n hx hb dX11_putBytes_7 rfl (lv_at hl 1 rfl) ?_
  refine va_get (D := (dC, dI)) (ci := 11) (v := .int 6) (C := RX11) (T := TX11) (N := 12) hx hb hts in11 hown hK hP 0 rfl rfl 9 (by decide) (hts (.fieldLink RX11 56 "FactKeeper" "tapeLength" "I") (by decide +kernel)) (fun _ h9 => h9) rfl dX11_putBytes_8 ?_
  refine lv_sipush (v := 400) hx hb dX11_putBytes_11 (by decide) ?_
  refine lv_icmp_ge (tgt := 46) hx hb dX11_putBytes_14 (by decide) (fun c_14 => absurd c_14 (by decide)) (fun _ => ?_)
  refine lv_aload_n hx hb dX11_putBytes_17 rfl (lv_at hl 1 rfl) ?_
  refine va_get (D := (dC, dI)) (ci := 11) (v := .ref aT) (C := RX11) (T := TX11) (N := 12) hx hb hts in11 hown hK hP 0 rfl rfl 0 (by decide) (hts (.fieldLink RX11 9 "FactKeeper" "tape" "[B") (by decide +kernel)) (fun _ h9 => h9) rfl dX11_putBytes_18 ?_
  refine lv_aload_n hx hb dX11_putBytes_21 rfl (lv_at hl 1 rfl) ?_
  refine va_get (D := (dC, dI)) (ci := 11) (v := .int 6) (C := RX11) (T := TX11) (N := 12) hx hb hts in11 hown hK hP 0 rfl rfl 9 (by decide) (hts (.fieldLink RX11 56 "FactKeeper" "tapeLength" "I") (by decide +kernel)) (fun _ h9 => h9) rfl dX11_putBytes_22 ?_
  refine lv_iload_n hx hb dX11_putBytes_25 rfl (lv_at hl 2 rfl) ?_
  refine lv_iload_n hx hb dX11_putBytes_26 rfl (lv_at hl 0 rfl) ?_
  refine lv_ishr hx hb dX11_putBytes_27 ?_
  refine lv_topi (fun z_15 ez_15 => ?_)
  obtain ⟨z_16, ez_16⟩ : ∃ y : Int32, y = (z_15 : Int32).toInt8.toInt32 := ⟨_, rfl⟩
  refine lv_i2b (v := z_16) hx hb dX11_putBytes_28 ez_16.symm ?_
  refine va_bast hx hb hK hP hD hS 1 0 rfl rfl (by unfold vp_in; decide) dX11_putBytes_29 (fun H locs hP hD hS => ?_)
  have hP : va_P (dC, dI) vwCl [(h, .inr (11, [.ref aT, .ref aV, .ref aS, .ref aC, .ref aO, .ref aF, .ref aL, .ref aR, .ref aX, .int 6, .int 0, .int 0])), (aT, .inl (cB, 400, .inl (upd g_11 (6 : Int32).toNatClampNeg (vp_nar .byte z_16))))] H := hP
  have hD : va_D A [(h, .inr (11, [.ref aT, .ref aV, .ref aS, .ref aC, .ref aO, .ref aF, .ref aL, .ref aR, .ref aX, .int 6, .int 0, .int 0])), (aT, .inl (cB, 400, .inl (upd g_11 (6 : Int32).toNatClampNeg (vp_nar .byte z_16))))] := hD
  obtain ⟨g_17, eg_17⟩ : ∃ g : Nat → Int32, g = (upd g_11 (6 : Int32).toNatClampNeg (vp_nar .byte z_16)) := ⟨_, rfl⟩
  rw [← eg_17] at hP hD
  have hP : va_P (dC, dI) vwCl [(h, .inr (11, [.ref aT, .ref aV, .ref aS, .ref aC, .ref aO, .ref aF, .ref aL, .ref aR, .ref aX, .int 6, .int 0, .int 0])), (aT, .inl (cB, 400, .inl g_17))] H := hP
  have hD : va_D A [(h, .inr (11, [.ref aT, .ref aV, .ref aS, .ref aC, .ref aO, .ref aF, .ref aL, .ref aR, .ref aX, .int 6, .int 0, .int 0])), (aT, .inl (cB, 400, .inl g_17))] := hD
  refine lv_aload_n hx hb dX11_putBytes_30 rfl (lv_at hl 1 rfl) ?_
  refine lv_dup hx hb dX11_putBytes_31 rfl ?_
  refine va_get (D := (dC, dI)) (ci := 11) (v := .int 6) (C := RX11) (T := TX11) (N := 12) hx hb hts in11 hown hK hP 0 rfl rfl 9 (by decide) (hts (.fieldLink RX11 56 "FactKeeper" "tapeLength" "I") (by decide +kernel)) (fun _ h9 => h9) rfl dX11_putBytes_32 ?_
  refine lv_iconst (v := 1) hx hb dX11_putBytes_35 (by decide) ?_
  refine lv_iadd hx hb dX11_putBytes_36 ?_
  refine lv_topi (fun z_18 ez_18 => ?_)
  obtain rfl : z_18 = 7 := ez_18.trans (by decide)
  refine va_put (D := (dC, dI)) (ci := 11) (v := .int 7) (ty := .int) (C := RX11) (T := TX11) (N := 12) hx hb hts in11 tyX11 tyX11_ok nmX11 hown hK hP hD hS 0 rfl rfl 9 (by decide) (hts (.fieldLink RX11 56 "FactKeeper" "tapeLength" "I") (by decide +kernel)) (fun _ h9 => h9) rfl (by decide +kernel) rfl rfl (Nat.le_of_ble_eq_true rfl) dX11_putBytes_37 (fun H locs hP hD hS => ?_)
  have hP : va_P (dC, dI) vwCl [(h, .inr (11, [.ref aT, .ref aV, .ref aS, .ref aC, .ref aO, .ref aF, .ref aL, .ref aR, .ref aX, .int 7, .int 0, .int 0])), (aT, .inl (cB, 400, .inl g_17))] H := hP
  have hD : va_D A [(h, .inr (11, [.ref aT, .ref aV, .ref aS, .ref aC, .ref aO, .ref aF, .ref aL, .ref aR, .ref aX, .int 7, .int 0, .int 0])), (aT, .inl (cB, 400, .inl g_17))] := hD
  refine lv_iinc (v := 0) (lv' := [(2, .int 0), (0, .ref h), (1, .int fo)]) hx hb dX11_putBytes_40 hl (k := 0) rfl (by decide) (by decide) rfl (fun ls hl => ?_)
  refine lv_goto (tgt := 3) hx hb dX11_putBytes_43 (by decide) ?_
  refine lv_iload_n hx hb dX11_putBytes_3 rfl (lv_at hl 0 rfl) ?_
  refine lv_if_lt (tgt := 46) hx hb dX11_putBytes_4 (by decide) (fun c_19 => absurd c_19 (by decide)) (fun _ => ?_)
  refine lv_aload_n hx hb dX11_putBytes_7 rfl (lv_at hl 1 rfl) ?_
  refine va_get (D := (dC, dI)) (ci := 11) (v := .int 7) (C := RX11) (T := TX11) (N := 12) hx hb hts in11 hown hK hP 0 rfl rfl 9 (by decide) (hts (.fieldLink RX11 56 "FactKeeper" "tapeLength" "I") (by decide +kernel)) (fun _ h9 => h9) rfl dX11_putBytes_8 ?_
  refine lv_sipush (v := 400) hx hb dX11_putBytes_11 (by decide) ?_
  refine lv_icmp_ge (tgt := 46) hx hb dX11_putBytes_14 (by decide) (fun c_20 => absurd c_20 (by decide)) (fun _ => ?_)
  refine lv_aload_n hx hb dX11_putBytes_17 rfl (lv_at hl 1 rfl) ?_
  refine va_get (D := (dC, dI)) (ci := 11) (v := .ref aT) (C := RX11) (T := TX11) (N := 12) hx hb hts in11 hown hK hP 0 rfl rfl 0 (by decide) (hts (.fieldLink RX11 9 "FactKeeper" "tape" "[B") (by decide +kernel)) (fun _ h9 => h9) rfl dX11_putBytes_18 ?_
  refine lv_aload_n hx hb dX11_putBytes_21 rfl (lv_at hl 1 rfl) ?_
  refine va_get (D := (dC, dI)) (ci := 11) (v := .int 7) (C := RX11) (T := TX11) (N := 12) hx hb hts in11 hown hK hP 0 rfl rfl 9 (by decide) (hts (.fieldLink RX11 56 "FactKeeper" "tapeLength" "I") (by decide +kernel)) (fun _ h9 => h9) rfl dX11_putBytes_22 ?_
  refine lv_iload_n hx hb dX11_putBytes_25 rfl (lv_at hl 2 rfl) ?_
  refine lv_iload_n hx hb dX11_putBytes_26 rfl (lv_at hl 0 rfl) ?_
  refine lv_ishr hx hb dX11_putBytes_27 ?_
  refine lv_topi (fun z_21 ez_21 => ?_)
  obtain ⟨z_22, ez_22⟩ : ∃ y : Int32, y = (z_21 : Int32).toInt8.toInt32 := ⟨_, rfl⟩
  refine lv_i2b (v := z_22) hx hb dX11_putBytes_28 ez_22.symm ?_
  refine va_bast hx hb hK hP hD hS 1 0 rfl rfl (by unfold vp_in; decide) dX11_putBytes_29 (fun H locs hP hD hS => ?_)
  have hP : va_P (dC, dI) vwCl [(h, .inr (11, [.ref aT, .ref aV, .ref aS, .ref aC, .ref aO, .ref aF, .ref aL, .ref aR, .ref aX, .int 7, .int 0, .int 0])), (aT, .inl (cB, 400, .inl (upd g_17 (7 : Int32).toNatClampNeg (vp_nar .byte z_22))))] H := hP
  have hD : va_D A [(h, .inr (11, [.ref aT, .ref aV, .ref aS, .ref aC, .ref aO, .ref aF, .ref aL, .ref aR, .ref aX, .int 7, .int 0, .int 0])), (aT, .inl (cB, 400, .inl (upd g_17 (7 : Int32).toNatClampNeg (vp_nar .byte z_22))))] := hD
  obtain ⟨g_23, eg_23⟩ : ∃ g : Nat → Int32, g = (upd g_17 (7 : Int32).toNatClampNeg (vp_nar .byte z_22)) := ⟨_, rfl⟩
  rw [← eg_23] at hP hD
  have hP : va_P (dC, dI) vwCl [(h, .inr (11, [.ref aT, .ref aV, .ref aS, .ref aC, .ref aO, .ref aF, .ref aL, .ref aR, .ref aX, .int 7, .int 0, .int 0])), (aT, .inl (cB, 400, .inl g_23))] H := hP
  have hD : va_D A [(h, .inr (11, [.ref aT, .ref aV, .ref aS, .ref aC, .ref aO, .ref aF, .ref aL, .ref aR, .ref aX, .int 7, .int 0, .int 0])), (aT, .inl (cB, 400, .inl g_23))] := hD
  refine lv_aload_n hx hb dX11_putBytes_30 rfl (lv_at hl 1 rfl) ?_
  refine lv_dup hx hb dX11_putBytes_31 rfl ?_
  refine va_get (D := (dC, dI)) (ci := 11) (v := .int 7) (C := RX11) (T := TX11) (N := 12) hx hb hts in11 hown hK hP 0 rfl rfl 9 (by decide) (hts (.fieldLink RX11 56 "FactKeeper" "tapeLength" "I") (by decide +kernel)) (fun _ h9 => h9) rfl dX11_putBytes_32 ?_
  refine lv_iconst (v := 1) hx hb dX11_putBytes_35 (by decide) ?_
  refine lv_iadd hx hb dX11_putBytes_36 ?_
  refine lv_topi (fun z_24 ez_24 => ?_)
  obtain rfl : z_24 = 8 := ez_24.trans (by decide)
  refine va_put (D := (dC, dI)) (ci := 11) (v := .int 8) (ty := .int) (C := RX11) (T := TX11) (N := 12) hx hb hts in11 tyX11 tyX11_ok nmX11 hown hK hP hD hS 0 rfl rfl 9 (by decide) (hts (.fieldLink RX11 56 "FactKeeper" "tapeLength" "I") (by decide +kernel)) (fun _ h9 => h9) rfl (by decide +kernel) rfl rfl (Nat.le_of_ble_eq_true rfl) dX11_putBytes_37 (fun H locs hP hD hS => ?_)
  have hP : va_P (dC, dI) vwCl [(h, .inr (11, [.ref aT, .ref aV, .ref aS, .ref aC, .ref aO, .ref aF, .ref aL, .ref aR, .ref aX, .int 8, .int 0, .int 0])), (aT, .inl (cB, 400, .inl g_23))] H := hP
  have hD : va_D A [(h, .inr (11, [.ref aT, .ref aV, .ref aS, .ref aC, .ref aO, .ref aF, .ref aL, .ref aR, .ref aX, .int 8, .int 0, .int 0])), (aT, .inl (cB, 400, .inl g_23))] := hD
  refine lv_iinc (v := (-8)) (lv' := [(2, .int (-8)), (0, .ref h), (1, .int fo)]) hx hb dX11_putBytes_40 hl (k := 0) rfl (by decide) (by decide) rfl (fun ls hl => ?_)
  refine lv_goto (tgt := 3) hx hb dX11_putBytes_43 (by decide) ?_
  refine lv_iload_n hx hb dX11_putBytes_3 rfl (lv_at hl 0 rfl) ?_
  refine lv_if_lt (tgt := 46) hx hb dX11_putBytes_4 (by decide) (fun _ => ?_) (fun c_25 => absurd c_25 (by decide))
  have hP9 := hP.sub (ws' := [(h, .inr (11, [.ref aT, .ref aV, .ref aS, .ref aC, .ref aO, .ref aF, .ref aL, .ref aR, .ref aX, .int 8, .int 0, .int 0])), (aT, .inl (cB, 400, .inl g_23))]) [0, 1] rfl
  have hD9 := hD.sub (ws' := [(h, .inr (11, [.ref aT, .ref aV, .ref aS, .ref aC, .ref aO, .ref aF, .ref aL, .ref aR, .ref aX, .int 8, .int 0, .int 0])), (aT, .inl (cB, 400, .inl g_23))]) [0, 1] (by decide) rfl
  have hK9 := hK.sub (tys' := [(cB, .byte)]) [0] rfl
  refine W.widen (k := 0) (n := 0) (Nat.le_of_ble_eq_true rfl) (Nat.le_of_ble_eq_true rfl) ?_
  exact (W.vret hx hb hr (fun t ht hW => ⟨⟨g_23, rfl, trivial, by rw [ht]; exact hP9, va_K.moved hW.alike hK9, hD9⟩, hS.F ht⟩) hS.2.2 dX11_putBytes_46)

set_option maxHeartbeats 4000000 in
set_option maxRecDepth 100000 in
/-- putBytes at 8 -/
theorem c_putBytes8 (l : Launch) (hl0 : l.stackTraces = false) (dC : Nat → ClassId) (dI : Nat → Nat → Nat) (h : Nat) (aT : Nat) (aV : Nat) (aS : Nat) (aC : Nat) (aO : Nat) (aF : Nat) (aL : Nat) (aR : Nat) (aX : Nat) (cB : ClassId) (f : Nat → Int32) (fo : Int32) (sz : Nat)  : Met l yX11_putBytes wsX11_putBytes ({ frames := 0, cells := 0, slots := 0, locals := 0 } : Room) (va_Pc [.ref h, .int fo] (ct_P (dC, dI) [(h, .inr (11, [.ref aT, .ref aV, .ref aS, .ref aC, .ref aO, .ref aF, .ref aL, .ref aR, .ref aX, .int 8, .int 0, .int 0])), (aT, .inl (cB, 400, .inl f))] [(cB, .byte)] sz)) (va_Qv (fun (u : (Nat → Int32)) => True) (fun (u : (Nat → Int32)) => ct_B (dC, dI) (va_A [(h, .inr (11, [.ref aT, .ref aV, .ref aS, .ref aC, .ref aO, .ref aF, .ref aL, .ref aR, .ref aX, .int 8, .int 0, .int 0])), (aT, .inl (cB, 400, .inl f))] sz) [(h, .inr (11, [.ref aT, .ref aV, .ref aS, .ref aC, .ref aO, .ref aF, .ref aL, .ref aR, .ref aX, .int 12, .int 0, .int 0])), (aT, .inl (cB, 400, .inl u))] [(cB, .byte)]) (va_A [(h, .inr (11, [.ref aT, .ref aV, .ref aS, .ref aC, .ref aO, .ref aF, .ref aL, .ref aR, .ref aX, .int 8, .int 0, .int 0])), (aT, .inl (cB, 400, .inl f))] sz)) 0 0 (va_A [(h, .inr (11, [.ref aT, .ref aV, .ref aS, .ref aC, .ref aO, .ref aF, .ref aL, .ref aR, .ref aX, .int 8, .int 0, .int 0])), (aT, .inl (cB, 400, .inl f))] sz) := by
  refine Met.ofW (cc := cX11_putBytes) (maxL := 3) (ret := none) (by decide) rfl ?_
  intro p e s m args below meth c s₁ B hml hv
  obtain ⟨rfl, hsz, hP, hK, hD0, hZ⟩ := hv
  have hx := B.exec
  have hb := B.bytes
  have hr := B.returns
  have hts := atoms_spec (ws := wsX11_putBytes) B.pre
  have hown : s.vm.findClass RX11 = some m.cls := findClass_of_methodNamed B.named
  have hlocks := B.notSynchronized
  have in11 : ∀ w ∈ u_ws RX11 TX11 12, w ∈ wsX11_putBytes := fun w h => (List.mem_cons_of_mem _ (List.mem_append_right _ h))
  subst hsz
  have hD := hD0.self (sz := s.heap.size)
  generalize hAe : va_A [(h, .inr (11, [.ref aT, .ref aV, .ref aS, .ref aC, .ref aO, .ref aF, .ref aL, .ref aR, .ref aX, .int 8, .int 0, .int 0])), (aT, .inl (cB, 400, .inl f))] s.heap.size = A at hD hZ ⊢
  have hA : ∀ q : Nat, s.heap.size ≤ q → A q := fun q h => by rw [← hAe]; exact Or.inr h
  have hS : va_S A s.heap s.heap [] := va_S.rf
  have hP : va_P (dC, dI) vwCl [(h, .inr (11, [.ref aT, .ref aV, .ref aS, .ref aC, .ref aO, .ref aF, .ref aL, .ref aR, .ref aX, .int 8, .int 0, .int 0])), (aT, .inl (cB, 400, .inl f))] s.heap := hP
  have hK : va_K (dC, dI) vwCl [(cB, .byte)] s := hK
  have hD : va_D A [(h, .inr (11, [.ref aT, .ref aV, .ref aS, .ref aC, .ref aO, .ref aF, .ref aL, .ref aR, .ref aX, .int 8, .int 0, .int 0])), (aT, .inl (cB, 400, .inl f))] := hD
  have hl := lv_entry ([.ref h, .int fo]) (n := 3) (Nat.le_of_ble_eq_true rfl)
  rw [lg_entry_eq]
  generalize (lg_sl ([.ref h, .int fo]) ++ List.replicate (3 - (lg_sl ([.ref h, .int fo])).length) Slot.unset).toArray = ls at hl ⊢
  have hl : lv_has ls 3 [(0, .ref h), (1, .int fo)] := hl
  refine lv_bipush (v := 24) hx hb dX11_putBytes_0 (by decide) ?_
  refine lv_istore_n (lv' := [(2, .int 24), (0, .ref h), (1, .int fo)]) hx hb dX11_putBytes_2 rfl hl (by decide) rfl (fun ls hl => ?_)
  refine lv_iload_n hx hb dX11_putBytes_3 rfl (lv_at hl 0 rfl) ?_
  refine lv_if_lt (tgt := 46) hx hb dX11_putBytes_4 (by decide) (fun c_1 => absurd c_1 (by decide)) (fun _ => ?_)
  refine lv_aload_n hx hb dX11_putBytes_7 rfl (lv_at hl 1 rfl) ?_
  refine va_get (D := (dC, dI)) (ci := 11) (v := .int 8) (C := RX11) (T := TX11) (N := 12) hx hb hts in11 hown hK hP 0 rfl rfl 9 (by decide) (hts (.fieldLink RX11 56 "FactKeeper" "tapeLength" "I") (by decide +kernel)) (fun _ h9 => h9) rfl dX11_putBytes_8 ?_
  refine lv_sipush (v := 400) hx hb dX11_putBytes_11 (by decide) ?_
  refine lv_icmp_ge (tgt := 46) hx hb dX11_putBytes_14 (by decide) (fun c_2 => absurd c_2 (by decide)) (fun _ => ?_)
  refine lv_aload_n hx hb dX11_putBytes_17 rfl (lv_at hl 1 rfl) ?_
  refine va_get (D := (dC, dI)) (ci := 11) (v := .ref aT) (C := RX11) (T := TX11) (N := 12) hx hb hts in11 hown hK hP 0 rfl rfl 0 (by decide) (hts (.fieldLink RX11 9 "FactKeeper" "tape" "[B") (by decide +kernel)) (fun _ h9 => h9) rfl dX11_putBytes_18 ?_
  refine lv_aload_n hx hb dX11_putBytes_21 rfl (lv_at hl 1 rfl) ?_
  refine va_get (D := (dC, dI)) (ci := 11) (v := .int 8) (C := RX11) (T := TX11) (N := 12) hx hb hts in11 hown hK hP 0 rfl rfl 9 (by decide) (hts (.fieldLink RX11 56 "FactKeeper" "tapeLength" "I") (by decide +kernel)) (fun _ h9 => h9) rfl dX11_putBytes_22 ?_
  refine lv_iload_n hx hb dX11_putBytes_25 rfl (lv_at hl 2 rfl) ?_
  refine lv_iload_n hx hb dX11_putBytes_26 rfl (lv_at hl 0 rfl) ?_
  refine lv_ishr hx hb dX11_putBytes_27 ?_
  refine lv_topi (fun z_3 ez_3 => ?_)
  obtain ⟨z_4, ez_4⟩ : ∃ y : Int32, y = (z_3 : Int32).toInt8.toInt32 := ⟨_, rfl⟩
  refine lv_i2b (v := z_4) hx hb dX11_putBytes_28 ez_4.symm ?_
  refine va_bast hx hb hK hP hD hS 1 0 rfl rfl (by unfold vp_in; decide) dX11_putBytes_29 (fun H locs hP hD hS => ?_)
  have hP : va_P (dC, dI) vwCl [(h, .inr (11, [.ref aT, .ref aV, .ref aS, .ref aC, .ref aO, .ref aF, .ref aL, .ref aR, .ref aX, .int 8, .int 0, .int 0])), (aT, .inl (cB, 400, .inl (upd f (8 : Int32).toNatClampNeg (vp_nar .byte z_4))))] H := hP
  have hD : va_D A [(h, .inr (11, [.ref aT, .ref aV, .ref aS, .ref aC, .ref aO, .ref aF, .ref aL, .ref aR, .ref aX, .int 8, .int 0, .int 0])), (aT, .inl (cB, 400, .inl (upd f (8 : Int32).toNatClampNeg (vp_nar .byte z_4))))] := hD
  obtain ⟨g_5, eg_5⟩ : ∃ g : Nat → Int32, g = (upd f (8 : Int32).toNatClampNeg (vp_nar .byte z_4)) := ⟨_, rfl⟩
  rw [← eg_5] at hP hD
  have hP : va_P (dC, dI) vwCl [(h, .inr (11, [.ref aT, .ref aV, .ref aS, .ref aC, .ref aO, .ref aF, .ref aL, .ref aR, .ref aX, .int 8, .int 0, .int 0])), (aT, .inl (cB, 400, .inl g_5))] H := hP
  have hD : va_D A [(h, .inr (11, [.ref aT, .ref aV, .ref aS, .ref aC, .ref aO, .ref aF, .ref aL, .ref aR, .ref aX, .int 8, .int 0, .int 0])), (aT, .inl (cB, 400, .inl g_5))] := hD
  refine lv_aload_n hx hb dX11_putBytes_30 rfl (lv_at hl 1 rfl) ?_
  refine lv_dup hx hb dX11_putBytes_31 rfl ?_
  refine va_get (D := (dC, dI)) (ci := 11) (v := .int 8) (C := RX11) (T := TX11) (N := 12) hx hb hts in11 hown hK hP 0 rfl rfl 9 (by decide) (hts (.fieldLink RX11 56 "FactKeeper" "tapeLength" "I") (by decide +kernel)) (fun _ h9 => h9) rfl dX11_putBytes_32 ?_
  refine lv_iconst (v := 1) hx hb dX11_putBytes_35 (by decide) ?_
  refine lv_iadd hx hb dX11_putBytes_36 ?_
  refine lv_topi (fun z_6 ez_6 => ?_)
  obtain rfl : z_6 = 9 := ez_6.trans (by decide)
  refine va_put (D := (dC, dI)) (ci := 11) (v := .int 9) (ty := .int) (C := RX11) (T := TX11) (N := 12) hx hb hts in11 tyX11 tyX11_ok nmX11 hown hK hP hD hS 0 rfl rfl 9 (by decide) (hts (.fieldLink RX11 56 "FactKeeper" "tapeLength" "I") (by decide +kernel)) (fun _ h9 => h9) rfl (by decide +kernel) rfl rfl (Nat.le_of_ble_eq_true rfl) dX11_putBytes_37 (fun H locs hP hD hS => ?_)
  have hP : va_P (dC, dI) vwCl [(h, .inr (11, [.ref aT, .ref aV, .ref aS, .ref aC, .ref aO, .ref aF, .ref aL, .ref aR, .ref aX, .int 9, .int 0, .int 0])), (aT, .inl (cB, 400, .inl g_5))] H := hP
  have hD : va_D A [(h, .inr (11, [.ref aT, .ref aV, .ref aS, .ref aC, .ref aO, .ref aF, .ref aL, .ref aR, .ref aX, .int 9, .int 0, .int 0])), (aT, .inl (cB, 400, .inl g_5))] := hD
  refine lv_iinc (v := 16) (lv' := [(2, .int 16), (0, .ref h), (1, .int fo)]) hx hb dX11_putBytes_40 hl (k := 0) rfl (by decide) (by decide) rfl (fun ls hl => ?_)
  refine lv_goto (tgt := 3) hx hb dX11_putBytes_43 (by decide) ?_
  refine lv_iload_n hx hb dX11_putBytes_3 rfl (lv_at hl 0 rfl) ?_
  refine lv_if_lt (tgt := 46) hx hb dX11_putBytes_4 (by decide) (fun c_7 => absurd c_7 (by decide)) (fun _ => ?_)
  refine lv_aload_n hx hb dX11_putBytes_7 rfl (lv_at hl 1 rfl) ?_
  refine va_get (D := (dC, dI)) (ci := 11) (v := .int 9) (C := RX11) (T := TX11) (N := 12) hx hb hts in11 hown hK hP 0 rfl rfl 9 (by decide) (hts (.fieldLink RX11 56 "FactKeeper" "tapeLength" "I") (by decide +kernel)) (fun _ h9 => h9) rfl dX11_putBytes_8 ?_
  refine lv_sipush (v := 400) hx hb dX11_putBytes_11 (by decide) ?_
  refine lv_icmp_ge (tgt := 46) hx hb dX11_putBytes_14 (by decide) (fun c_8 => absurd c_8 (by decide)) (fun _ => ?_)
  refine lv_aload_n hx hb dX11_putBytes_17 rfl (lv_at hl 1 rfl) ?_
  refine va_get (D := (dC, dI)) (ci := 11) (v := .ref aT) (C := RX11) (T := TX11) (N := 12) hx hb hts in11 hown hK hP 0 rfl rfl 0 (by decide) (hts (.fieldLink RX11 9 "FactKeeper" "tape" "[B") (by decide +kernel)) (fun _ h9 => h9) rfl dX11_putBytes_18 ?_
  refine lv_aload_n hx hb dX11_putBytes_21 rfl (lv_at hl 1 rfl) ?_
  refine va_get (D := (dC, dI)) (ci := 11) (v := .int 9) (C := RX11) (T := TX11) (N := 12) hx hb hts in11 hown hK hP 0 rfl rfl 9 (by decide) (hts (.fieldLink RX11 56 "FactKeeper" "tapeLength" "I") (by decide +kernel)) (fun _ h9 => h9) rfl dX11_putBytes_22 ?_
  refine lv_iload_n hx hb dX11_putBytes_25 rfl (lv_at hl 2 rfl) ?_
  refine lv_iload_n hx hb dX11_putBytes_26 rfl (lv_at hl 0 rfl) ?_
  refine lv_ishr hx hb dX11_putBytes_27 ?_
  refine lv_topi (fun z_9 ez_9 => ?_)
  obtain ⟨z_10, ez_10⟩ : ∃ y : Int32, y = (z_9 : Int32).toInt8.toInt32 := ⟨_, rfl⟩
  refine lv_i2b (v := z_10) hx hb dX11_putBytes_28 ez_10.symm ?_
  refine va_bast hx hb hK hP hD hS 1 0 rfl rfl (by unfold vp_in; decide) dX11_putBytes_29 (fun H locs hP hD hS => ?_)
  have hP : va_P (dC, dI) vwCl [(h, .inr (11, [.ref aT, .ref aV, .ref aS, .ref aC, .ref aO, .ref aF, .ref aL, .ref aR, .ref aX, .int 9, .int 0, .int 0])), (aT, .inl (cB, 400, .inl (upd g_5 (9 : Int32).toNatClampNeg (vp_nar .byte z_10))))] H := hP
  have hD : va_D A [(h, .inr (11, [.ref aT, .ref aV, .ref aS, .ref aC, .ref aO, .ref aF, .ref aL, .ref aR, .ref aX, .int 9, .int 0, .int 0])), (aT, .inl (cB, 400, .inl (upd g_5 (9 : Int32).toNatClampNeg (vp_nar .byte z_10))))] := hD
  obtain ⟨g_11, eg_11⟩ : ∃ g : Nat → Int32, g = (upd g_5 (9 : Int32).toNatClampNeg (vp_nar .byte z_10)) := ⟨_, rfl⟩
  rw [← eg_11] at hP hD
  have hP : va_P (dC, dI) vwCl [(h, .inr (11, [.ref aT, .ref aV, .ref aS, .ref aC, .ref aO, .ref aF, .ref aL, .ref aR, .ref aX, .int 9, .int 0, .int 0])), (aT, .inl (cB, 400, .inl g_11))] H := hP
  have hD : va_D A [(h, .inr (11, [.ref aT, .ref aV, .ref aS, .ref aC, .ref aO, .ref aF, .ref aL, .ref aR, .ref aX, .int 9, .int 0, .int 0])), (aT, .inl (cB, 400, .inl g_11))] := hD
  refine lv_aload_n hx hb dX11_putBytes_30 rfl (lv_at hl 1 rfl) ?_
  refine lv_dup hx hb dX11_putBytes_31 rfl ?_
  refine va_get (D := (dC, dI)) (ci := 11) (v := .int 9) (C := RX11) (T := TX11) (N := 12) hx hb hts in11 hown hK hP 0 rfl rfl 9 (by decide) (hts (.fieldLink RX11 56 "FactKeeper" "tapeLength" "I") (by decide +kernel)) (fun _ h9 => h9) rfl dX11_putBytes_32 ?_
  refine lv_iconst (v := 1) hx hb dX11_putBytes_35 (by decide) ?_
  refine lv_iadd hx hb dX11_putBytes_36 ?_
  refine lv_topi (fun z_12 ez_12 => ?_)
  obtain rfl : z_12 = 10 := ez_12.trans (by decide)
  refine va_put (D := (dC, dI)) (ci := 11) (v := .int 10) (ty := .int) (C := RX11) (T := TX11) (N := 12) hx hb hts in11 tyX11 tyX11_ok nmX11 hown hK hP hD hS 0 rfl rfl 9 (by decide) (hts (.fieldLink RX11 56 "FactKeeper" "tapeLength" "I") (by decide +kernel)) (fun _ h9 => h9) rfl (by decide +kernel) rfl rfl (Nat.le_of_ble_eq_true rfl) dX11_putBytes_37 (fun H locs hP hD hS => ?_)
  have hP : va_P (dC, dI) vwCl [(h, .inr (11, [.ref aT, .ref aV, .ref aS, .ref aC, .ref aO, .ref aF, .ref aL, .ref aR, .ref aX, .int 10, .int 0, .int 0])), (aT, .inl (cB, 400, .inl g_11))] H := hP
  have hD : va_D A [(h, .inr (11, [.ref aT, .ref aV, .ref aS, .ref aC, .ref aO, .ref aF, .ref aL, .ref aR, .ref aX, .int 10, .int 0, .int 0])), (aT, .inl (cB, 400, .inl g_11))] := hD
  refine lv_iinc (v := 8) (lv' := [(2, .int 8), (0, .ref h), (1, .int fo)]) hx hb dX11_putBytes_40 hl (k := 0) rfl (by decide) (by decide) rfl (fun ls hl => ?_)
  refine lv_goto (tgt := 3) hx hb dX11_putBytes_43 (by decide) ?_
  refine lv_iload_n hx hb dX11_putBytes_3 rfl (lv_at hl 0 rfl) ?_
  refine lv_if_lt (tgt := 46) hx hb dX11_putBytes_4 (by decide) (fun c_13 => absurd c_13 (by decide)) (fun _ => ?_)
  refine lv_aload_n hx hb dX11_putBytes_7 rfl (lv_at hl 1 rfl) ?_
  refine va_get (D := (dC, dI)) (ci := 11) (v := .int 10) (C := RX11) (T := TX11) (N := 12) hx hb hts in11 hown hK hP 0 rfl rfl 9 (by decide) (hts (.fieldLink RX11 56 "FactKeeper" "tapeLength" "I") (by decide +kernel)) (fun _ h9 => h9) rfl dX11_putBytes_8 ?_
  refine lv_sipush (v := 400) hx hb dX11_putBytes_11 (by decide) ?_
  refine lv_icmp_ge (tgt := 46) hx hb dX11_putBytes_14 (by decide) (fun c_14 => absurd c_14 (by decide)) (fun _ => ?_)
  refine lv_aload_n hx hb dX11_putBytes_17 rfl (lv_at hl 1 rfl) ?_
  refine va_get (D := (dC, dI)) (ci := 11) (v := .ref aT) (C := RX11) (T := TX11) (N := 12) hx hb hts in11 hown hK hP 0 rfl rfl 0 (by decide) (hts (.fieldLink RX11 9 "FactKeeper" "tape" "[B") (by decide +kernel)) (fun _ h9 => h9) rfl dX11_putBytes_18 ?_
  refine lv_aload_n hx hb dX11_putBytes_21 rfl (lv_at hl 1 rfl) ?_
  refine va_get (D := (dC, dI)) (ci := 11) (v := .int 10) (C := RX11) (T := TX11) (N := 12) hx hb hts in11 hown hK hP 0 rfl rfl 9 (by decide) (hts (.fieldLink RX11 56 "FactKeeper" "tapeLength" "I") (by decide +kernel)) (fun _ h9 => h9) rfl dX11_putBytes_22 ?_
  refine lv_iload_n hx hb dX11_putBytes_25 rfl (lv_at hl 2 rfl) ?_
  refine lv_iload_n hx hb dX11_putBytes_26 rfl (lv_at hl 0 rfl) ?_
  refine lv_ishr hx hb dX11_putBytes_27 ?_
  refine lv_topi (fun z_15 ez_15 => ?_)
  obtain ⟨z_16, ez_16⟩ : ∃ y : Int32, y = (z_15 : Int32).toInt8.toInt32 := ⟨_, rfl⟩
  refine lv_i2b (v := z_16) hx hb dX11_putBytes_28 ez_16.symm ?_
  refine va_bast hx hb hK hP hD hS 1 0 rfl rfl (by unfold vp_in; decide) dX11_putBytes_29 (fun H locs hP hD hS => ?_)
  have hP : va_P (dC, dI) vwCl [(h, .inr (11, [.ref aT, .ref aV, .ref aS, .ref aC, .ref aO, .ref aF, .ref aL, .ref aR, .ref aX, .int 10, .int 0, .int 0])), (aT, .inl (cB, 400, .inl (upd g_11 (10 : Int32).toNatClampNeg (vp_nar .byte z_16))))] H := hP
  have hD : va_D A [(h, .inr (11, [.ref aT, .ref aV, .ref aS, .ref aC, .ref aO, .ref aF, .ref aL, .ref aR, .ref aX, .int 10, .int 0, .int 0])), (aT, .inl (cB, 400, .inl (upd g_11 (10 : Int32).toNatClampNeg (vp_nar .byte z_16))))] := hD
  obtain ⟨g_17, eg_17⟩ : ∃ g : Nat → Int32, g = (upd g_11 (10 : Int32).toNatClampNeg (vp_nar .byte z_16)) := ⟨_, rfl⟩
  rw [← eg_17] at hP hD
  have hP : va_P (dC, dI) vwCl [(h, .inr (11, [.ref aT, .ref aV, .ref aS, .ref aC, .ref aO, .ref aF, .ref aL, .ref aR, .ref aX, .int 10, .int 0, .int 0])), (aT, .inl (cB, 400, .inl g_17))] H := hP
  have hD : va_D A [(h, .inr (11, [.ref aT, .ref aV, .ref aS, .ref aC, .ref aO, .ref aF, .ref aL, .ref aR, .ref aX, .int 10, .int 0, .int 0])), (aT, .inl (cB, 400, .inl g_17))] := hD
  refine lv_aload_n hx hb dX11_putBytes_30 rfl (lv_at hl 1 rfl) ?_
  refine lv_dup hx hb dX11_putBytes_31 rfl ?_
  refine va_get (D := (dC, dI)) (ci := 11) (v := .int 10) (C := RX11) (T := TX11) (N := 12) hx hb hts in11 hown hK hP 0 rfl rfl 9 (by decide) (hts (.fieldLink RX11 56 "FactKeeper" "tapeLength" "I") (by decide +kernel)) (fun _ h9 => h9) rfl dX11_putBytes_32 ?_
  refine lv_iconst (v := 1) hx hb dX11_putBytes_35 (by decide) ?_
  refine lv_iadd hx hb dX11_putBytes_36 ?_
  refine lv_topi (fun z_18 ez_18 => ?_)
  obtain rfl : z_18 = 11 := ez_18.trans (by decide)
  refine va_put (D := (dC, dI)) (ci := 11) (v := .int 11) (ty := .int) (C := RX11) (T := TX11) (N := 12) hx hb hts in11 tyX11 tyX11_ok nmX11 hown hK hP hD hS 0 rfl rfl 9 (by decide) (hts (.fieldLink RX11 56 "FactKeeper" "tapeLength" "I") (by decide +kernel)) (fun _ h9 => h9) rfl (by decide +kernel) rfl rfl (Nat.le_of_ble_eq_true rfl) dX11_putBytes_37 (fun H locs hP hD hS => ?_)
  have hP : va_P (dC, dI) vwCl [(h, .inr (11, [.ref aT, .ref aV, .ref aS, .ref aC, .ref aO, .ref aF, .ref aL, .ref aR, .ref aX, .int 11, .int 0, .int 0])), (aT, .inl (cB, 400, .inl g_17))] H := hP
  have hD : va_D A [(h, .inr (11, [.ref aT, .ref aV, .ref aS, .ref aC, .ref aO, .ref aF, .ref aL, .ref aR, .ref aX, .int 11, .int 0, .int 0])), (aT, .inl (cB, 400, .inl g_17))] := hD
  refine lv_iinc (v := 0) (lv' := [(2, .int 0), (0, .ref h), (1, .int fo)]) hx hb dX11_putBytes_40 hl (k := 0) rfl (by decide) (by decide) rfl (fun ls hl => ?_)
  refine lv_goto (tgt := 3) hx hb dX11_putBytes_43 (by decide) ?_
  refine lv_iload_n hx hb dX11_putBytes_3 rfl (lv_at hl 0 rfl) ?_
  refine lv_if_lt (tgt := 46) hx hb dX11_putBytes_4 (by decide) (fun c_19 => absurd c_19 (by decide)) (fun _ => ?_)
  refine lv_aload_n hx hb dX11_putBytes_7 rfl (lv_at hl 1 rfl) ?_
  refine va_get (D := (dC, dI)) (ci := 11) (v := .int 11) (C := RX11) (T := TX11) (N := 12) hx hb hts in11 hown hK hP 0 rfl rfl 9 (by decide) (hts (.fieldLink RX11 56 "FactKeeper" "tapeLength" "I") (by decide +kernel)) (fun _ h9 => h9) rfl dX11_putBytes_8 ?_
  refine lv_sipush (v := 400) hx hb dX11_putBytes_11 (by decide) ?_
  refine lv_icmp_ge (tgt := 46) hx hb dX11_putBytes_14 (by decide) (fun c_20 => absurd c_20 (by decide)) (fun _ => ?_)
  refine lv_aload_n hx hb dX11_putBytes_17 rfl (lv_at hl 1 rfl) ?_
  refine va_get (D := (dC, dI)) (ci := 11) (v := .ref aT) (C := RX11) (T := TX11) (N := 12) hx hb hts in11 hown hK hP 0 rfl rfl 0 (by decide) (hts (.fieldLink RX11 9 "FactKeeper" "tape" "[B") (by decide +kernel)) (fun _ h9 => h9) rfl dX11_putBytes_18 ?_
  refine lv_aload_n hx hb dX11_putBytes_21 rfl (lv_at hl 1 rfl) ?_
  refine va_get (D := (dC, dI)) (ci := 11) (v := .int 11) (C := RX11) (T := TX11) (N := 12) hx hb hts in11 hown hK hP 0 rfl rfl 9 (by decide) (hts (.fieldLink RX11 56 "FactKeeper" "tapeLength" "I") (by decide +kernel)) (fun _ h9 => h9) rfl dX11_putBytes_22 ?_
  refine lv_iload_n hx hb dX11_putBytes_25 rfl (lv_at hl 2 rfl) ?_
  refine lv_iload_n hx hb dX11_putBytes_26 rfl (lv_at hl 0 rfl) ?_
  refine lv_ishr hx hb dX11_putBytes_27 ?_
  refine lv_topi (fun z_21 ez_21 => ?_)
  obtain ⟨z_22, ez_22⟩ : ∃ y : Int32, y = (z_21 : Int32).toInt8.toInt32 := ⟨_, rfl⟩
  refine lv_i2b (v := z_22) hx hb dX11_putBytes_28 ez_22.symm ?_
  refine va_bast hx hb hK hP hD hS 1 0 rfl rfl (by unfold vp_in; decide) dX11_putBytes_29 (fun H locs hP hD hS => ?_)
  have hP : va_P (dC, dI) vwCl [(h, .inr (11, [.ref aT, .ref aV, .ref aS, .ref aC, .ref aO, .ref aF, .ref aL, .ref aR, .ref aX, .int 11, .int 0, .int 0])), (aT, .inl (cB, 400, .inl (upd g_17 (11 : Int32).toNatClampNeg (vp_nar .byte z_22))))] H := hP
  have hD : va_D A [(h, .inr (11, [.ref aT, .ref aV, .ref aS, .ref aC, .ref aO, .ref aF, .ref aL, .ref aR, .ref aX, .int 11, .int 0, .int 0])), (aT, .inl (cB, 400, .inl (upd g_17 (11 : Int32).toNatClampNeg (vp_nar .byte z_22))))] := hD
  obtain ⟨g_23, eg_23⟩ : ∃ g : Nat → Int32, g = (upd g_17 (11 : Int32).toNatClampNeg (vp_nar .byte z_22)) := ⟨_, rfl⟩
  rw [← eg_23] at hP hD
  have hP : va_P (dC, dI) vwCl [(h, .inr (11, [.ref aT, .ref aV, .ref aS, .ref aC, .ref aO, .ref aF, .ref aL, .ref aR, .ref aX, .int 11, .int 0, .int 0])), (aT, .inl (cB, 400, .inl g_23))] H := hP
  have hD : va_D A [(h, .inr (11, [.ref aT, .ref aV, .ref aS, .ref aC, .ref aO, .ref aF, .ref aL, .ref aR, .ref aX, .int 11, .int 0, .int 0])), (aT, .inl (cB, 400, .inl g_23))] := hD
  refine lv_aload_n hx hb dX11_putBytes_30 rfl (lv_at hl 1 rfl) ?_
  refine lv_dup hx hb dX11_putBytes_31 rfl ?_
  refine va_get (D := (dC, dI)) (ci := 11) (v := .int 11) (C := RX11) (T := TX11) (N := 12) hx hb hts in11 hown hK hP 0 rfl rfl 9 (by decide) (hts (.fieldLink RX11 56 "FactKeeper" "tapeLength" "I") (by decide +kernel)) (fun _ h9 => h9) rfl dX11_putBytes_32 ?_
  refine lv_iconst (v := 1) hx hb dX11_putBytes_35 (by decide) ?_
  refine lv_iadd hx hb dX11_putBytes_36 ?_
  refine lv_topi (fun z_24 ez_24 => ?_)
  obtain rfl : z_24 = 12 := ez_24.trans (by decide)
  refine va_put (D := (dC, dI)) (ci := 11) (v := .int 12) (ty := .int) (C := RX11) (T := TX11) (N := 12) hx hb hts in11 tyX11 tyX11_ok nmX11 hown hK hP hD hS 0 rfl rfl 9 (by decide) (hts (.fieldLink RX11 56 "FactKeeper" "tapeLength" "I") (by decide +kernel)) (fun _ h9 => h9) rfl (by decide +kernel) rfl rfl (Nat.le_of_ble_eq_true rfl) dX11_putBytes_37 (fun H locs hP hD hS => ?_)
  have hP : va_P (dC, dI) vwCl [(h, .inr (11, [.ref aT, .ref aV, .ref aS, .ref aC, .ref aO, .ref aF, .ref aL, .ref aR, .ref aX, .int 12, .int 0, .int 0])), (aT, .inl (cB, 400, .inl g_23))] H := hP
  have hD : va_D A [(h, .inr (11, [.ref aT, .ref aV, .ref aS, .ref aC, .ref aO, .ref aF, .ref aL, .ref aR, .ref aX, .int 12, .int 0, .int 0])), (aT, .inl (cB, 400, .inl g_23))] := hD
  refine lv_iinc (v := (-8)) (lv' := [(2, .int (-8)), (0, .ref h), (1, .int fo)]) hx hb dX11_putBytes_40 hl (k := 0) rfl (by decide) (by decide) rfl (fun ls hl => ?_)
  refine lv_goto (tgt := 3) hx hb dX11_putBytes_43 (by decide) ?_
  refine lv_iload_n hx hb dX11_putBytes_3 rfl (lv_at hl 0 rfl) ?_
  refine lv_if_lt (tgt := 46) hx hb dX11_putBytes_4 (by decide) (fun _ => ?_) (fun c_25 => absurd c_25 (by decide))
  have hP9 := hP.sub (ws' := [(h, .inr (11, [.ref aT, .ref aV, .ref aS, .ref aC, .ref aO, .ref aF, .ref aL, .ref aR, .ref aX, .int 12, .int 0, .int 0])), (aT, .inl (cB, 400, .inl g_23))]) [0, 1] rfl
  have hD9 := hD.sub (ws' := [(h, .inr (11, [.ref aT, .ref aV, .ref aS, .ref aC, .ref aO, .ref aF, .ref aL, .ref aR, .ref aX, .int 12, .int 0, .int 0])), (aT, .inl (cB, 400, .inl g_23))]) [0, 1] (by decide) rfl
  have hK9 := hK.sub (tys' := [(cB, .byte)]) [0] rfl
  refine W.widen (k := 0) (n := 0) (Nat.le_of_ble_eq_true rfl) (Nat.le_of_ble_eq_true rfl) ?_
  exact (W.vret hx hb hr (fun t ht hW => ⟨⟨g_23, rfl, trivial, by rw [ht]; exact hP9, va_K.moved hW.alike hK9, hD9⟩, hS.F ht⟩) hS.2.2 dX11_putBytes_46)

set_option maxHeartbeats 4000000 in
set_option maxRecDepth 100000 in
/-- putBytes at 12 -/
theorem c_putBytes12 (l : Launch) (hl0 : l.stackTraces = false) (dC : Nat → ClassId) (dI : Nat → Nat → Nat) (h : Nat) (aT : Nat) (aV : Nat) (aS : Nat) (aC : Nat) (aO : Nat) (aF : Nat) (aL : Nat) (aR : Nat) (aX : Nat) (cB : ClassId) (f : Nat → Int32) (fo : Int32) (sz : Nat)  : Met l yX11_putBytes wsX11_putBytes ({ frames := 0, cells := 0, slots := 0, locals := 0 } : Room) (va_Pc [.ref h, .int fo] (ct_P (dC, dI) [(h, .inr (11, [.ref aT, .ref aV, .ref aS, .ref aC, .ref aO, .ref aF, .ref aL, .ref aR, .ref aX, .int 12, .int 0, .int 0])), (aT, .inl (cB, 400, .inl f))] [(cB, .byte)] sz)) (va_Qv (fun (u : (Nat → Int32)) => True) (fun (u : (Nat → Int32)) => ct_B (dC, dI) (va_A [(h, .inr (11, [.ref aT, .ref aV, .ref aS, .ref aC, .ref aO, .ref aF, .ref aL, .ref aR, .ref aX, .int 12, .int 0, .int 0])), (aT, .inl (cB, 400, .inl f))] sz) [(h, .inr (11, [.ref aT, .ref aV, .ref aS, .ref aC, .ref aO, .ref aF, .ref aL, .ref aR, .ref aX, .int 16, .int 0, .int 0])), (aT, .inl (cB, 400, .inl u))] [(cB, .byte)]) (va_A [(h, .inr (11, [.ref aT, .ref aV, .ref aS, .ref aC, .ref aO, .ref aF, .ref aL, .ref aR, .ref aX, .int 12, .int 0, .int 0])), (aT, .inl (cB, 400, .inl f))] sz)) 0 0 (va_A [(h, .inr (11, [.ref aT, .ref aV, .ref aS, .ref aC, .ref aO, .ref aF, .ref aL, .ref aR, .ref aX, .int 12, .int 0, .int 0])), (aT, .inl (cB, 400, .inl f))] sz) := by
  refine Met.ofW (cc := cX11_putBytes) (maxL := 3) (ret := none) (by decide) rfl ?_
  intro p e s m args below meth c s₁ B hml hv
  obtain ⟨rfl, hsz, hP, hK, hD0, hZ⟩ := hv
  have hx := B.exec
  have hb := B.bytes
  have hr := B.returns
  have hts := atoms_spec (ws := wsX11_putBytes) B.pre
  have hown : s.vm.findClass RX11 = some m.cls := findClass_of_methodNamed B.named
  have hlocks := B.notSynchronized
  have in11 : ∀ w ∈ u_ws RX11 TX11 12, w ∈ wsX11_putBytes := fun w h => (List.mem_cons_of_mem _ (List.mem_append_right _ h))
  subst hsz
  have hD := hD0.self (sz := s.heap.size)
  generalize hAe : va_A [(h, .inr (11, [.ref aT, .ref aV, .ref aS, .ref aC, .ref aO, .ref aF, .ref aL, .ref aR, .ref aX, .int 12, .int 0, .int 0])), (aT, .inl (cB, 400, .inl f))] s.heap.size = A at hD hZ ⊢
  have hA : ∀ q : Nat, s.heap.size ≤ q → A q := fun q h => by rw [← hAe]; exact Or.inr h
  have hS : va_S A s.heap s.heap [] := va_S.rf
  have hP : va_P (dC, dI) vwCl [(h, .inr (11, [.ref aT, .ref aV, .ref aS, .ref aC, .ref aO, .ref aF, .ref aL, .ref aR, .ref aX, .int 12, .int 0, .int 0])), (aT, .inl (cB, 400, .inl f))] s.heap := hP
  have hK : va_K (dC, dI) vwCl [(cB, .byte)] s := hK
  have hD : va_D A [(h, .inr (11, [.ref aT, .ref aV, .ref aS, .ref aC, .ref aO, .ref aF, .ref aL, .ref aR, .ref aX, .int 12, .int 0, .int 0])), (aT, .inl (cB, 400, .inl f))] := hD
  have hl := lv_entry ([.ref h, .int fo]) (n := 3) (Nat.le_of_ble_eq_true rfl)
  rw [lg_entry_eq]
  generalize (lg_sl ([.ref h, .int fo]) ++ List.replicate (3 - (lg_sl ([.ref h, .int fo])).length) Slot.unset).toArray = ls at hl ⊢
  have hl : lv_has ls 3 [(0, .ref h), (1, .int fo)] := hl
  refine lv_bipush (v := 24) hx hb dX11_putBytes_0 (by decide) ?_
  refine lv_istore_n (lv' := [(2, .int 24), (0, .ref h), (1, .int fo)]) hx hb dX11_putBytes_2 rfl hl (by decide) rfl (fun ls hl => ?_)
  refine lv_iload_n hx hb dX11_putBytes_3 rfl (lv_at hl 0 rfl) ?_
  refine lv_if_lt (tgt := 46) hx hb dX11_putBytes_4 (by decide) (fun c_1 => absurd c_1 (by decide)) (fun _ => ?_)
  refine lv_aload_n hx hb dX11_putBytes_7 rfl (lv_at hl 1 rfl) ?_
  refine va_get (D := (dC, dI)) (ci := 11) (v := .int 12) (C := RX11) (T := TX11) (N := 12) hx hb hts in11 hown hK hP 0 rfl rfl 9 (by decide) (hts (.fieldLink RX11 56 "FactKeeper" "tapeLength" "I") (by decide +kernel)) (fun _ h9 => h9) rfl dX11_putBytes_8 ?_
  refine lv_sipush (v := 400) hx hb dX11_putBytes_11 (by decide) ?_
  refine lv_icmp_ge (tgt := 46) hx hb dX11_putBytes_14 (by decide) (fun c_2 => absurd c_2 (by decide)) (fun _ => ?_)
  refine lv_aload_n hx hb dX11_putBytes_17 rfl (lv_at hl 1 rfl) ?_
  refine va_get (D := (dC, dI)) (ci := 11) (v := .ref aT) (C := RX11) (T := TX11) (N := 12) hx hb hts in11 hown hK hP 0 rfl rfl 0 (by decide) (hts (.fieldLink RX11 9 "FactKeeper" "tape" "[B") (by decide +kernel)) (fun _ h9 => h9) rfl dX11_putBytes_18 ?_
  refine lv_aload_n hx hb dX11_putBytes_21 rfl (lv_at hl 1 rfl) ?_
  refine va_get (D := (dC, dI)) (ci := 11) (v := .int 12) (C := RX11) (T := TX11) (N := 12) hx hb hts in11 hown hK hP 0 rfl rfl 9 (by decide) (hts (.fieldLink RX11 56 "FactKeeper" "tapeLength" "I") (by decide +kernel)) (fun _ h9 => h9) rfl dX11_putBytes_22 ?_
  refine lv_iload_n hx hb dX11_putBytes_25 rfl (lv_at hl 2 rfl) ?_
  refine lv_iload_n hx hb dX11_putBytes_26 rfl (lv_at hl 0 rfl) ?_
  refine lv_ishr hx hb dX11_putBytes_27 ?_
  refine lv_topi (fun z_3 ez_3 => ?_)
  obtain ⟨z_4, ez_4⟩ : ∃ y : Int32, y = (z_3 : Int32).toInt8.toInt32 := ⟨_, rfl⟩
  refine lv_i2b (v := z_4) hx hb dX11_putBytes_28 ez_4.symm ?_
  refine va_bast hx hb hK hP hD hS 1 0 rfl rfl (by unfold vp_in; decide) dX11_putBytes_29 (fun H locs hP hD hS => ?_)
  have hP : va_P (dC, dI) vwCl [(h, .inr (11, [.ref aT, .ref aV, .ref aS, .ref aC, .ref aO, .ref aF, .ref aL, .ref aR, .ref aX, .int 12, .int 0, .int 0])), (aT, .inl (cB, 400, .inl (upd f (12 : Int32).toNatClampNeg (vp_nar .byte z_4))))] H := hP
  have hD : va_D A [(h, .inr (11, [.ref aT, .ref aV, .ref aS, .ref aC, .ref aO, .ref aF, .ref aL, .ref aR, .ref aX, .int 12, .int 0, .int 0])), (aT, .inl (cB, 400, .inl (upd f (12 : Int32).toNatClampNeg (vp_nar .byte z_4))))] := hD
  obtain ⟨g_5, eg_5⟩ : ∃ g : Nat → Int32, g = (upd f (12 : Int32).toNatClampNeg (vp_nar .byte z_4)) := ⟨_, rfl⟩
  rw [← eg_5] at hP hD
  have hP : va_P (dC, dI) vwCl [(h, .inr (11, [.ref aT, .ref aV, .ref aS, .ref aC, .ref aO, .ref aF, .ref aL, .ref aR, .ref aX, .int 12, .int 0, .int 0])), (aT, .inl (cB, 400, .inl g_5))] H := hP
  have hD : va_D A [(h, .inr (11, [.ref aT, .ref aV, .ref aS, .ref aC, .ref aO, .ref aF, .ref aL, .ref aR, .ref aX, .int 12, .int 0, .int 0])), (aT, .inl (cB, 400, .inl g_5))] := hD
  refine lv_aload_n hx hb dX11_putBytes_30 rfl (lv_at hl 1 rfl) ?_
  refine lv_dup hx hb dX11_putBytes_31 rfl ?_
  refine va_get (D := (dC, dI)) (ci := 11) (v := .int 12) (C := RX11) (T := TX11) (N := 12) hx hb hts in11 hown hK hP 0 rfl rfl 9 (by decide) (hts (.fieldLink RX11 56 "FactKeeper" "tapeLength" "I") (by decide +kernel)) (fun _ h9 => h9) rfl dX11_putBytes_32 ?_
  refine lv_iconst (v := 1) hx hb dX11_putBytes_35 (by decide) ?_
  refine lv_iadd hx hb dX11_putBytes_36 ?_
  refine lv_topi (fun z_6 ez_6 => ?_)
  obtain rfl : z_6 = 13 := ez_6.trans (by decide)
  refine va_put (D := (dC, dI)) (ci := 11) (v := .int 13) (ty := .int) (C := RX11) (T := TX11) (N := 12) hx hb hts in11 tyX11 tyX11_ok nmX11 hown hK hP hD hS 0 rfl rfl 9 (by decide) (hts (.fieldLink RX11 56 "FactKeeper" "tapeLength" "I") (by decide +kernel)) (fun _ h9 => h9) rfl (by decide +kernel) rfl rfl (Nat.le_of_ble_eq_true rfl) dX11_putBytes_37 (fun H locs hP hD hS => ?_)
  have hP : va_P (dC, dI) vwCl [(h, .inr (11, [.ref aT, .ref aV, .ref aS, .ref aC, .ref aO, .ref aF, .ref aL, .ref aR, .ref aX, .int 13, .int 0, .int 0])), (aT, .inl (cB, 400, .inl g_5))] H := hP
  have hD : va_D A [(h, .inr (11, [.ref aT, .ref aV, .ref aS, .ref aC, .ref aO, .ref aF, .ref aL, .ref aR, .ref aX, .int 13, .int 0, .int 0])), (aT, .inl (cB, 400, .inl g_5))] := hD
  refine lv_iinc (v := 16) (lv' := [(2, .int 16), (0, .ref h), (1, .int fo)]) hx hb dX11_putBytes_40 hl (k := 0) rfl (by decide) (by decide) rfl (fun ls hl => ?_)
  refine lv_goto (tgt := 3) hx hb dX11_putBytes_43 (by decide) ?_
  refine lv_iload_n hx hb dX11_putBytes_3 rfl (lv_at hl 0 rfl) ?_
  refine lv_if_lt (tgt := 46) hx hb dX11_putBytes_4 (by decide) (fun c_7 => absurd c_7 (by decide)) (fun _ => ?_)
  refine lv_aload_n hx hb dX11_putBytes_7 rfl (lv_at hl 1 rfl) ?_
  refine va_get (D := (dC, dI)) (ci := 11) (v := .int 13) (C := RX11) (T := TX11) (N := 12) hx hb hts in11 hown hK hP 0 rfl rfl 9 (by decide) (hts (.fieldLink RX11 56 "FactKeeper" "tapeLength" "I") (by decide +kernel)) (fun _ h9 => h9) rfl dX11_putBytes_8 ?_
  refine lv_sipush (v := 400) hx hb dX11_putBytes_11 (by decide) ?_
  refine lv_icmp_ge (tgt := 46) hx hb dX11_putBytes_14 (by decide) (fun c_8 => absurd c_8 (by decide)) (fun _ => ?_)
  refine lv_aload_n hx hb dX11_putBytes_17 rfl (lv_at hl 1 rfl) ?_
  refine va_get (D := (dC, dI)) (ci := 11) (v := .ref aT) (C := RX11) (T := TX11) (N := 12) hx hb hts in11 hown hK hP 0 rfl rfl 0 (by decide) (hts (.fieldLink RX11 9 "FactKeeper" "tape" "[B") (by decide +kernel)) (fun _ h9 => h9) rfl dX11_putBytes_18 ?_
  refine lv_aload_n hx hb dX11_putBytes_21 rfl (lv_at hl 1 rfl) ?_
  refine va_get (D := (dC, dI)) (ci := 11) (v := .int 13) (C := RX11) (T := TX11) (N := 12) hx hb hts in11 hown hK hP 0 rfl rfl 9 (by decide) (hts (.fieldLink RX11 56 "FactKeeper" "tapeLength" "I") (by decide +kernel)) (fun _ h9 => h9) rfl dX11_putBytes_22 ?_
  refine lv_iload_n hx hb dX11_putBytes_25 rfl (lv_at hl 2 rfl) ?_
  refine lv_iload_n hx hb dX11_putBytes_26 rfl (lv_at hl 0 rfl) ?_
  refine lv_ishr hx hb dX11_putBytes_27 ?_
  refine lv_topi (fun z_9 ez_9 => ?_)
  obtain ⟨z_10, ez_10⟩ : ∃ y : Int32, y = (z_9 : Int32).toInt8.toInt32 := ⟨_, rfl⟩
  refine lv_i2b (v := z_10) hx hb dX11_putBytes_28 ez_10.symm ?_
  refine va_bast hx hb hK hP hD hS 1 0 rfl rfl (by unfold vp_in; decide) dX11_putBytes_29 (fun H locs hP hD hS => ?_)
  have hP : va_P (dC, dI) vwCl [(h, .inr (11, [.ref aT, .ref aV, .ref aS, .ref aC, .ref aO, .ref aF, .ref aL, .ref aR, .ref aX, .int 13, .int 0, .int 0])), (aT, .inl (cB, 400, .inl (upd g_5 (13 : Int32).toNatClampNeg (vp_nar .byte z_10))))] H := hP
  have hD : va_D A [(h, .inr (11, [.ref aT, .ref aV, .ref aS, .ref aC, .ref aO, .ref aF, .ref aL, .ref aR, .ref aX, .int 13, .int 0, .int 0])), (aT, .inl (cB, 400, .inl (upd g_5 (13 : Int32).toNatClampNeg (vp_nar .byte z_10))))] := hD
  obtain ⟨g_11, eg_11⟩ : ∃ g : Nat → Int32, g = (upd g_5 (13 : Int32).toNatClampNeg (vp_nar .byte z_10)) := ⟨_, rfl⟩
  rw [← eg_11] at hP hD
  have hP : va_P (dC, dI) vwCl [(h, .inr (11, [.ref aT, .ref aV, .ref aS, .ref aC, .ref aO, .ref aF, .ref aL, .ref aR, .ref aX, .int 13, .int 0, .int 0])), (aT, .inl (cB, 400, .inl g_11))] H := hP
  have hD : va_D A [(h, .inr (11, [.ref aT, .ref aV, .ref aS, .ref aC, .ref aO, .ref aF, .ref aL, .ref aR, .ref aX, .int 13, .int 0, .int 0])), (aT, .inl (cB, 400, .inl g_11))] := hD
  refine lv_aload_n hx hb dX11_putBytes_30 rfl (lv_at hl 1 rfl) ?_
  refine lv_dup hx hb dX11_putBytes_31 rfl ?_
  refine va_get (D := (dC, dI)) (ci := 11) (v := .int 13) (C := RX11) (T := TX11) (N := 12) hx hb hts in11 hown hK hP 0 rfl rfl 9 (by decide) (hts (.fieldLink RX11 56 "FactKeeper" "tapeLength" "I") (by decide +kernel)) (fun _ h9 => h9) rfl dX11_putBytes_32 ?_
  refine lv_iconst (v := 1) hx hb dX11_putBytes_35 (by decide) ?_
  refine lv_iadd hx hb dX11_putBytes_36 ?_
  refine lv_topi (fun z_12 ez_12 => ?_)
  obtain rfl : z_12 = 14 := ez_12.trans (by decide)
  refine va_put (D := (dC, dI)) (ci := 11) (v := .int 14) (ty := .int) (C := RX11) (T := TX11) (N := 12) hx hb hts in11 tyX11 tyX11_ok nmX11 hown hK hP hD hS 0 rfl rfl 9 (by decide) (hts (.fieldLink RX11 56 "FactKeeper" "tapeLength" "I") (by decide +kernel)) (fun _ h9 => h9) rfl (by decide +kernel) rfl rfl (Nat.le_of_ble_eq_true rfl) dX11_putBytes_37 (fun H locs hP hD hS => ?_)
  have hP : va_P (dC, dI) vwCl [(h, .inr (11, [.ref aT, .ref aV, .ref aS, .ref aC, .ref aO, .ref aF, .ref aL, .ref aR, .ref aX, .int 14, .int 0, .int 0])), (aT, .inl (cB, 400, .inl g_11))] H := hP
  have hD : va_D A [(h, .inr (11, [.ref aT, .ref aV, .ref aS, .ref aC, .ref aO, .ref aF, .ref aL, .ref aR, .ref aX, .int 14, .int 0, .int 0])), (aT, .inl (cB, 400, .inl g_11))] := hD
  refine lv_iinc (v := 8) (lv' := [(2, .int 8), (0, .ref h), (1, .int fo)]) hx hb dX11_putBytes_40 hl (k := 0) rfl (by decide) (by decide) rfl (fun ls hl => ?_)
  refine lv_goto (tgt := 3) hx hb dX11_putBytes_43 (by decide) ?_
  refine lv_iload_n hx hb dX11_putBytes_3 rfl (lv_at hl 0 rfl) ?_
  refine lv_if_lt (tgt := 46) hx hb dX11_putBytes_4 (by decide) (fun c_13 => absurd c_13 (by decide)) (fun _ => ?_)
  refine lv_aload_n hx hb dX11_putBytes_7 rfl (lv_at hl 1 rfl) ?_
  refine va_get (D := (dC, dI)) (ci := 11) (v := .int 14) (C := RX11) (T := TX11) (N := 12) hx hb hts in11 hown hK hP 0 rfl rfl 9 (by decide) (hts (.fieldLink RX11 56 "FactKeeper" "tapeLength" "I") (by decide +kernel)) (fun _ h9 => h9) rfl dX11_putBytes_8 ?_
  refine lv_sipush (v := 400) hx hb dX11_putBytes_11 (by decide) ?_
  refine lv_icmp_ge (tgt := 46) hx hb dX11_putBytes_14 (by decide) (fun c_14 => absurd c_14 (by decide)) (fun _ => ?_)
  refine lv_aload_n hx hb dX11_putBytes_17 rfl (lv_at hl 1 rfl) ?_
  refine va_get (D := (dC, dI)) (ci := 11) (v := .ref aT) (C := RX11) (T := TX11) (N := 12) hx hb hts in11 hown hK hP 0 rfl rfl 0 (by decide) (hts (.fieldLink RX11 9 "FactKeeper" "tape" "[B") (by decide +kernel)) (fun _ h9 => h9) rfl dX11_putBytes_18 ?_
  refine lv_aload_n hx hb dX11_putBytes_21 rfl (lv_at hl 1 rfl) ?_
  refine va_get (D := (dC, dI)) (ci := 11) (v := .int 14) (C := RX11) (T := TX11) (N := 12) hx hb hts in11 hown hK hP 0 rfl rfl 9 (by decide) (hts (.fieldLink RX11 56 "FactKeeper" "tapeLength" "I") (by decide +kernel)) (fun _ h9 => h9) rfl dX11_putBytes_22 ?_
  refine lv_iload_n hx hb dX11_putBytes_25 rfl (lv_at hl 2 rfl) ?_
  refine lv_iload_n hx hb dX11_putBytes_26 rfl (lv_at hl 0 rfl) ?_
  refine lv_ishr hx hb dX11_putBytes_27 ?_
  refine lv_topi (fun z_15 ez_15 => ?_)
  obtain ⟨z_16, ez_16⟩ : ∃ y : Int32, y = (z_15 : Int32).toInt8.toInt32 := ⟨_, rfl⟩
  refine lv_i2b (v := z_16) hx hb dX11_putBytes_28 ez_16.symm ?_
  refine va_bast hx hb hK hP hD hS 1 0 rfl rfl (by unfold vp_in; decide) dX11_putBytes_29 (fun H locs hP hD hS => ?_)
  have hP : va_P (dC, dI) vwCl [(h, .inr (11, [.ref aT, .ref aV, .ref aS, .ref aC, .ref aO, .ref aF, .ref aL, .ref aR, .ref aX, .int 14, .int 0, .int 0])), (aT, .inl (cB, 400, .inl (upd g_11 (14 : Int32).toNatClampNeg (vp_nar .byte z_16))))] H := hP
  have hD : va_D A [(h, .inr (11, [.ref aT, .ref aV, .ref aS, .ref aC, .ref aO, .ref aF, .ref aL, .ref aR, .ref aX, .int 14, .int 0, .int 0])), (aT, .inl (cB, 400, .inl (upd g_11 (14 : Int32).toNatClampNeg (vp_nar .byte z_16))))] := hD
  obtain ⟨g_17, eg_17⟩ : ∃ g : Nat → Int32, g = (upd g_11 (14 : Int32).toNatClampNeg (vp_nar .byte z_16)) := ⟨_, rfl⟩
  rw [← eg_17] at hP hD
  have hP : va_P (dC, dI) vwCl [(h, .inr (11, [.ref aT, .ref aV, .ref aS, .ref aC, .ref aO, .ref aF, .ref aL, .ref aR, .ref aX, .int 14, .int 0, .int 0])), (aT, .inl (cB, 400, .inl g_17))] H := hP
  have hD : va_D A [(h, .inr (11, [.ref aT, .ref aV, .ref aS, .ref aC, .ref aO, .ref aF, .ref aL, .ref aR, .ref aX, .int 14, .int 0, .int 0])), (aT, .inl (cB, 400, .inl g_17))] := hD
  refine lv_aload_n hx hb dX11_putBytes_30 rfl (lv_at hl 1 rfl) ?_
  refine lv_dup hx hb dX11_putBytes_31 rfl ?_
  refine va_get (D := (dC, dI)) (ci := 11) (v := .int 14) (C := RX11) (T := TX11) (N := 12) hx hb hts in11 hown hK hP 0 rfl rfl 9 (by decide) (hts (.fieldLink RX11 56 "FactKeeper" "tapeLength" "I") (by decide +kernel)) (fun _ h9 => h9) rfl dX11_putBytes_32 ?_
  refine lv_iconst (v := 1) hx hb dX11_putBytes_35 (by decide) ?_
  refine lv_iadd hx hb dX11_putBytes_36 ?_
  refine lv_topi (fun z_18 ez_18 => ?_)
  obtain rfl : z_18 = 15 := ez_18.trans (by decide)
  refine va_put (D := (dC, dI)) (ci := 11) (v := .int 15) (ty := .int) (C := RX11) (T := TX11) (N := 12) hx hb hts in11 tyX11 tyX11_ok nmX11 hown hK hP hD hS 0 rfl rfl 9 (by decide) (hts (.fieldLink RX11 56 "FactKeeper" "tapeLength" "I") (by decide +kernel)) (fun _ h9 => h9) rfl (by decide +kernel) rfl rfl (Nat.le_of_ble_eq_true rfl) dX11_putBytes_37 (fun H locs hP hD hS => ?_)
  have hP : va_P (dC, dI) vwCl [(h, .inr (11, [.ref aT, .ref aV, .ref aS, .ref aC, .ref aO, .ref aF, .ref aL, .ref aR, .ref aX, .int 15, .int 0, .int 0])), (aT, .inl (cB, 400, .inl g_17))] H := hP
  have hD : va_D A [(h, .inr (11, [.ref aT, .ref aV, .ref aS, .ref aC, .ref aO, .ref aF, .ref aL, .ref aR, .ref aX, .int 15, .int 0, .int 0])), (aT, .inl (cB, 400, .inl g_17))] := hD
  refine lv_iinc (v := 0) (lv' := [(2, .int 0), (0, .ref h), (1, .int fo)]) hx hb dX11_putBytes_40 hl (k := 0) rfl (by decide) (by decide) rfl (fun ls hl => ?_)
  refine lv_goto (tgt := 3) hx hb dX11_putBytes_43 (by decide) ?_
  refine lv_iload_n hx hb dX11_putBytes_3 rfl (lv_at hl 0 rfl) ?_
  refine lv_if_lt (tgt := 46) hx hb dX11_putBytes_4 (by decide) (fun c_19 => absurd c_19 (by decide)) (fun _ => ?_)
  refine lv_aload_n hx hb dX11_putBytes_7 rfl (lv_at hl 1 rfl) ?_
  refine va_get (D := (dC, dI)) (ci := 11) (v := .int 15) (C := RX11) (T := TX11) (N := 12) hx hb hts in11 hown hK hP 0 rfl rfl 9 (by decide) (hts (.fieldLink RX11 56 "FactKeeper" "tapeLength" "I") (by decide +kernel)) (fun _ h9 => h9) rfl dX11_putBytes_8 ?_
  refine lv_sipush (v := 400) hx hb dX11_putBytes_11 (by decide) ?_
  refine lv_icmp_ge (tgt := 46) hx hb dX11_putBytes_14 (by decide) (fun c_20 => absurd c_20 (by decide)) (fun _ => ?_)
  refine lv_aload_n hx hb dX11_putBytes_17 rfl (lv_at hl 1 rfl) ?_
  refine va_get (D := (dC, dI)) (ci := 11) (v := .ref aT) (C := RX11) (T := TX11) (N := 12) hx hb hts in11 hown hK hP 0 rfl rfl 0 (by decide) (hts (.fieldLink RX11 9 "FactKeeper" "tape" "[B") (by decide +kernel)) (fun _ h9 => h9) rfl dX11_putBytes_18 ?_
  refine lv_aload_n hx hb dX11_putBytes_21 rfl (lv_at hl 1 rfl) ?_
  refine va_get (D := (dC, dI)) (ci := 11) (v := .int 15) (C := RX11) (T := TX11) (N := 12) hx hb hts in11 hown hK hP 0 rfl rfl 9 (by decide) (hts (.fieldLink RX11 56 "FactKeeper" "tapeLength" "I") (by decide +kernel)) (fun _ h9 => h9) rfl dX11_putBytes_22 ?_
  refine lv_iload_n hx hb dX11_putBytes_25 rfl (lv_at hl 2 rfl) ?_
  refine lv_iload_n hx hb dX11_putBytes_26 rfl (lv_at hl 0 rfl) ?_
  refine lv_ishr hx hb dX11_putBytes_27 ?_
  refine lv_topi (fun z_21 ez_21 => ?_)
  obtain ⟨z_22, ez_22⟩ : ∃ y : Int32, y = (z_21 : Int32).toInt8.toInt32 := ⟨_, rfl⟩
  refine lv_i2b (v := z_22) hx hb dX11_putBytes_28 ez_22.symm ?_
  refine va_bast hx hb hK hP hD hS 1 0 rfl rfl (by unfold vp_in; decide) dX11_putBytes_29 (fun H locs hP hD hS => ?_)
  have hP : va_P (dC, dI) vwCl [(h, .inr (11, [.ref aT, .ref aV, .ref aS, .ref aC, .ref aO, .ref aF, .ref aL, .ref aR, .ref aX, .int 15, .int 0, .int 0])), (aT, .inl (cB, 400, .inl (upd g_17 (15 : Int32).toNatClampNeg (vp_nar .byte z_22))))] H := hP
  have hD : va_D A [(h, .inr (11, [.ref aT, .ref aV, .ref aS, .ref aC, .ref aO, .ref aF, .ref aL, .ref aR, .ref aX, .int 15, .int 0, .int 0])), (aT, .inl (cB, 400, .inl (upd g_17 (15 : Int32).toNatClampNeg (vp_nar .byte z_22))))] := hD
  obtain ⟨g_23, eg_23⟩ : ∃ g : Nat → Int32, g = (upd g_17 (15 : Int32).toNatClampNeg (vp_nar .byte z_22)) := ⟨_, rfl⟩
  rw [← eg_23] at hP hD
  have hP : va_P (dC, dI) vwCl [(h, .inr (11, [.ref aT, .ref aV, .ref aS, .ref aC, .ref aO, .ref aF, .ref aL, .ref aR, .ref aX, .int 15, .int 0, .int 0])), (aT, .inl (cB, 400, .inl g_23))] H := hP
  have hD : va_D A [(h, .inr (11, [.ref aT, .ref aV, .ref aS, .ref aC, .ref aO, .ref aF, .ref aL, .ref aR, .ref aX, .int 15, .int 0, .int 0])), (aT, .inl (cB, 400, .inl g_23))] := hD
  refine lv_aload_n hx hb dX11_putBytes_30 rfl (lv_at hl 1 rfl) ?_
  refine lv_dup hx hb dX11_putBytes_31 rfl ?_
  refine va_get (D := (dC, dI)) (ci := 11) (v := .int 15) (C := RX11) (T := TX11) (N := 12) hx hb hts in11 hown hK hP 0 rfl rfl 9 (by decide) (hts (.fieldLink RX11 56 "FactKeeper" "tapeLength" "I") (by decide +kernel)) (fun _ h9 => h9) rfl dX11_putBytes_32 ?_
  refine lv_iconst (v := 1) hx hb dX11_putBytes_35 (by decide) ?_
  refine lv_iadd hx hb dX11_putBytes_36 ?_
  refine lv_topi (fun z_24 ez_24 => ?_)
  obtain rfl : z_24 = 16 := ez_24.trans (by decide)
  refine va_put (D := (dC, dI)) (ci := 11) (v := .int 16) (ty := .int) (C := RX11) (T := TX11) (N := 12) hx hb hts in11 tyX11 tyX11_ok nmX11 hown hK hP hD hS 0 rfl rfl 9 (by decide) (hts (.fieldLink RX11 56 "FactKeeper" "tapeLength" "I") (by decide +kernel)) (fun _ h9 => h9) rfl (by decide +kernel) rfl rfl (Nat.le_of_ble_eq_true rfl) dX11_putBytes_37 (fun H locs hP hD hS => ?_)
  have hP : va_P (dC, dI) vwCl [(h, .inr (11, [.ref aT, .ref aV, .ref aS, .ref aC, .ref aO, .ref aF, .ref aL, .ref aR, .ref aX, .int 16, .int 0, .int 0])), (aT, .inl (cB, 400, .inl g_23))] H := hP
  have hD : va_D A [(h, .inr (11, [.ref aT, .ref aV, .ref aS, .ref aC, .ref aO, .ref aF, .ref aL, .ref aR, .ref aX, .int 16, .int 0, .int 0])), (aT, .inl (cB, 400, .inl g_23))] := hD
  refine lv_iinc (v := (-8)) (lv' := [(2, .int (-8)), (0, .ref h), (1, .int fo)]) hx hb dX11_putBytes_40 hl (k := 0) rfl (by decide) (by decide) rfl (fun ls hl => ?_)
  refine lv_goto (tgt := 3) hx hb dX11_putBytes_43 (by decide) ?_
  refine lv_iload_n hx hb dX11_putBytes_3 rfl (lv_at hl 0 rfl) ?_
  refine lv_if_lt (tgt := 46) hx hb dX11_putBytes_4 (by decide) (fun _ => ?_) (fun c_25 => absurd c_25 (by decide))
  have hP9 := hP.sub (ws' := [(h, .inr (11, [.ref aT, .ref aV, .ref aS, .ref aC, .ref aO, .ref aF, .ref aL, .ref aR, .ref aX, .int 16, .int 0, .int 0])), (aT, .inl (cB, 400, .inl g_23))]) [0, 1] rfl
  have hD9 := hD.sub (ws' := [(h, .inr (11, [.ref aT, .ref aV, .ref aS, .ref aC, .ref aO, .ref aF, .ref aL, .ref aR, .ref aX, .int 16, .int 0, .int 0])), (aT, .inl (cB, 400, .inl g_23))]) [0, 1] (by decide) rfl
  have hK9 := hK.sub (tys' := [(cB, .byte)]) [0] rfl
  refine W.widen (k := 0) (n := 0) (Nat.le_of_ble_eq_true rfl) (Nat.le_of_ble_eq_true rfl) ?_
  exact (W.vret hx hb hr (fun t ht hW => ⟨⟨g_23, rfl, trivial, by rw [ht]; exact hP9, va_K.moved hW.alike hK9, hD9⟩, hS.F ht⟩) hS.2.2 dX11_putBytes_46)

set_option maxHeartbeats 4000000 in
set_option maxRecDepth 100000 in
/-- putBytes at 16 -/
theorem c_putBytes16 (l : Launch) (hl0 : l.stackTraces = false) (dC : Nat → ClassId) (dI : Nat → Nat → Nat) (h : Nat) (aT : Nat) (aV : Nat) (aS : Nat) (aC : Nat) (aO : Nat) (aF : Nat) (aL : Nat) (aR : Nat) (aX : Nat) (cB : ClassId) (f : Nat → Int32) (fo : Int32) (sz : Nat)  : Met l yX11_putBytes wsX11_putBytes ({ frames := 0, cells := 0, slots := 0, locals := 0 } : Room) (va_Pc [.ref h, .int fo] (ct_P (dC, dI) [(h, .inr (11, [.ref aT, .ref aV, .ref aS, .ref aC, .ref aO, .ref aF, .ref aL, .ref aR, .ref aX, .int 16, .int 0, .int 0])), (aT, .inl (cB, 400, .inl f))] [(cB, .byte)] sz)) (va_Qv (fun (u : (Nat → Int32)) => True) (fun (u : (Nat → Int32)) => ct_B (dC, dI) (va_A [(h, .inr (11, [.ref aT, .ref aV, .ref aS, .ref aC, .ref aO, .ref aF, .ref aL, .ref aR, .ref aX, .int 16, .int 0, .int 0])), (aT, .inl (cB, 400, .inl f))] sz) [(h, .inr (11, [.ref aT, .ref aV, .ref aS, .ref aC, .ref aO, .ref aF, .ref aL, .ref aR, .ref aX, .int 20, .int 0, .int 0])), (aT, .inl (cB, 400, .inl u))] [(cB, .byte)]) (va_A [(h, .inr (11, [.ref aT, .ref aV, .ref aS, .ref aC, .ref aO, .ref aF, .ref aL, .ref aR, .ref aX, .int 16, .int 0, .int 0])), (aT, .inl (cB, 400, .inl f))] sz)) 0 0 (va_A [(h, .inr (11, [.ref aT, .ref aV, .ref aS, .ref aC, .ref aO, .ref aF, .ref aL, .ref aR, .ref aX, .int 16, .int 0, .int 0])), (aT, .inl (cB, 400, .inl f))] sz) := by
  refine Met.ofW (cc := cX11_putBytes) (maxL := 3) (ret := none) (by decide) rfl ?_
  intro p e s m args below meth c s₁ B hml hv
  obtain ⟨rfl, hsz, hP, hK, hD0, hZ⟩ := hv
  have hx := B.exec
  have hb := B.bytes
  have hr := B.returns
  have hts := atoms_spec (ws := wsX11_putBytes) B.pre
  have hown : s.vm.findClass RX11 = some m.cls := findClass_of_methodNamed B.named
  have hlocks := B.notSynchronized
  have in11 : ∀ w ∈ u_ws RX11 TX11 12, w ∈ wsX11_putBytes := fun w h => (List.mem_cons_of_mem _ (List.mem_append_right _ h))
  subst hsz
  have hD := hD0.self (sz := s.heap.size)
  generalize hAe : va_A [(h, .inr (11, [.ref aT, .ref aV, .ref aS, .ref aC, .ref aO, .ref aF, .ref aL, .ref aR, .ref aX, .int 16, .int 0, .int 0])), (aT, .inl (cB, 400, .inl f))] s.heap.size = A at hD hZ ⊢
  have hA : ∀ q : Nat, s.heap.size ≤ q → A q := fun q h => by rw [← hAe]; exact Or.inr h
  have hS : va_S A s.heap s.heap [] := va_S.rf
  have hP : va_P (dC, dI) vwCl [(h, .inr (11, [.ref aT, .ref aV, .ref aS, .ref aC, .ref aO, .ref aF, .ref aL, .ref aR, .ref aX, .int 16, .int 0, .int 0])), (aT, .inl (cB, 400, .inl f))] s.heap := hP
  have hK : va_K (dC, dI) vwCl [(cB, .byte)] s := hK
  have hD : va_D A [(h, .inr (11, [.ref aT, .ref aV, .ref aS, .ref aC, .ref aO, .ref aF, .ref aL, .ref aR, .ref aX, .int 16, .int 0, .int 0])), (aT, .inl (cB, 400, .inl f))] := hD
  have hl := lv_entry ([.ref h, .int fo]) (n := 3) (Nat.le_of_ble_eq_true rfl)
  rw [lg_entry_eq]
  generalize (lg_sl ([.ref h, .int fo]) ++ List.replicate (3 - (lg_sl ([.ref h, .int fo])).length) Slot.unset).toArray = ls at hl ⊢
  have hl : lv_has ls 3 [(0, .ref h), (1, .int fo)] := hl
  refine lv_bipush (v := 24) hx hb dX11_putBytes_0 (by decide) ?_
  refine lv_istore_n (lv' := [(2, .int 24), (0, .ref h), (1, .int fo)]) hx hb dX11_putBytes_2 rfl hl (by decide) rfl (fun ls hl => ?_)
  refine lv_iload_n hx hb dX11_putBytes_3 rfl (lv_at hl 0 rfl) ?_
  refine lv_if_lt (tgt := 46) hx hb dX11_putBytes_4 (by decide) (fun c_1 => absurd c_1 (by decide)) (fun _ => ?_)
  refine lv_aload_n hx hb dX11_putBytes_7 rfl (lv_at hl 1 rfl) ?_
  refine va_get (D := (dC, dI)) (ci := 11) (v := .int 16) (C := RX11) (T := TX11) (N := 12) hx hb hts in11 hown hK hP 0 rfl rfl 9 (by decide) (hts (.fieldLink RX11 56 "FactKeeper" "tapeLength" "I") (by decide +kernel)) (fun _ h9 => h9) rfl dX11_putBytes_8 ?_
  refine lv_sipush (v := 400) hx hb dX11_putBytes_11 (by decide) ?_
  refine lv_icmp_ge (tgt := 46) hx hb dX11_putBytes_14 (by decide) (fun c_2 => absurd c_2 (by decide)) (fun _ => ?_)
  refine lv_aload_n hx hb dX11_putBytes_17 rfl (lv_at hl 1 rfl) ?_
  refine va_get (D := (dC, dI)) (ci := 11) (v := .ref aT) (C := RX11) (T := TX11) (N := 12) hx hb hts in11 hown hK hP 0 rfl rfl 0 (by decide) (hts (.fieldLink RX11 9 "FactKeeper" "tape" "[B") (by decide +kernel)) (fun _ h9 => h9) rfl dX11_putBytes_18 ?_
  refine lv_aload_n hx hb dX11_putBytes_21 rfl (lv_at hl 1 rfl) ?_
  refine va_get (D := (dC, dI)) (ci := 11) (v := .int 16) (C := RX11) (T := TX11) (N := 12) hx hb hts in11 hown hK hP 0 rfl rfl 9 (by decide) (hts (.fieldLink RX11 56 "FactKeeper" "tapeLength" "I") (by decide +kernel)) (fun _ h9 => h9) rfl dX11_putBytes_22 ?_
  refine lv_iload_n hx hb dX11_putBytes_25 rfl (lv_at hl 2 rfl) ?_
  refine lv_iload_n hx hb dX11_putBytes_26 rfl (lv_at hl 0 rfl) ?_
  refine lv_ishr hx hb dX11_putBytes_27 ?_
  refine lv_topi (fun z_3 ez_3 => ?_)
  obtain ⟨z_4, ez_4⟩ : ∃ y : Int32, y = (z_3 : Int32).toInt8.toInt32 := ⟨_, rfl⟩
  refine lv_i2b (v := z_4) hx hb dX11_putBytes_28 ez_4.symm ?_
  refine va_bast hx hb hK hP hD hS 1 0 rfl rfl (by unfold vp_in; decide) dX11_putBytes_29 (fun H locs hP hD hS => ?_)
  have hP : va_P (dC, dI) vwCl [(h, .inr (11, [.ref aT, .ref aV, .ref aS, .ref aC, .ref aO, .ref aF, .ref aL, .ref aR, .ref aX, .int 16, .int 0, .int 0])), (aT, .inl (cB, 400, .inl (upd f (16 : Int32).toNatClampNeg (vp_nar .byte z_4))))] H := hP
  have hD : va_D A [(h, .inr (11, [.ref aT, .ref aV, .ref aS, .ref aC, .ref aO, .ref aF, .ref aL, .ref aR, .ref aX, .int 16, .int 0, .int 0])), (aT, .inl (cB, 400, .inl (upd f (16 : Int32).toNatClampNeg (vp_nar .byte z_4))))] := hD
  obtain ⟨g_5, eg_5⟩ : ∃ g : Nat → Int32, g = (upd f (16 : Int32).toNatClampNeg (vp_nar .byte z_4)) := ⟨_, rfl⟩
  rw [← eg_5] at hP hD
  have hP : va_P (dC, dI) vwCl [(h, .inr (11, [.ref aT, .ref aV, .ref aS, .ref aC, .ref aO, .ref aF, .ref aL, .ref aR, .ref aX, .int 16, .int 0, .int 0])), (aT, .inl (cB, 400, .inl g_5))] H := hP
  have hD : va_D A [(h, .inr (11, [.ref aT, .ref aV, .ref aS, .ref aC, .ref aO, .ref aF, .ref aL, .ref aR, .ref aX, .int 16, .int 0, .int 0])), (aT, .inl (cB, 400, .inl g_5))] := hD
  refine lv_aload_n hx hb dX11_putBytes_30 rfl (lv_at hl 1 rfl) ?_
  refine lv_dup hx hb dX11_putBytes_31 rfl ?_
  refine va_get (D := (dC, dI)) (ci := 11) (v := .int 16) (C := RX11) (T := TX11) (N := 12) hx hb hts in11 hown hK hP 0 rfl rfl 9 (by decide) (hts (.fieldLink RX11 56 "FactKeeper" "tapeLength" "I") (by decide +kernel)) (fun _ h9 => h9) rfl dX11_putBytes_32 ?_
  refine lv_iconst (v := 1) hx hb dX11_putBytes_35 (by decide) ?_
  refine lv_iadd hx hb dX11_putBytes_36 ?_
  refine lv_topi (fun z_6 ez_6 => ?_)
  obtain rfl : z_6 = 17 := ez_6.trans (by decide)
  refine va_put (D := (dC, dI)) (ci := 11) (v := .int 17) (ty := .int) (C := RX11) (T := TX11) (N := 12) hx hb hts in11 tyX11 tyX11_ok nmX11 hown hK hP hD hS 0 rfl rfl 9 (by decide) (hts (.fieldLink RX11 56 "FactKeeper" "tapeLength" "I") (by decide +kernel)) (fun _ h9 => h9) rfl (by decide +kernel) rfl rfl (Nat.le_of_ble_eq_true rfl) dX11_putBytes_37 (fun H locs hP hD hS => ?_)
  have hP : va_P (dC, dI) vwCl [(h, .inr (11, [.ref aT, .ref aV, .ref aS, .ref aC, .ref aO, .ref aF, .ref aL, .ref aR, .ref aX, .int 17, .int 0, .int 0])), (aT, .inl (cB, 400, .inl g_5))] H := hP
  have hD : va_D A [(h, .inr (11, [.ref aT, .ref aV, .ref aS, .ref aC, .ref aO, .ref aF, .ref aL, .ref aR, .ref aX, .int 17, .int 0, .int 0])), (aT, .inl (cB, 400, .inl g_5))] := hD
  refine lv_iinc (v := 16) (lv' := [(2, .int 16), (0, .ref h), (1, .int fo)]) hx hb dX11_putBytes_40 hl (k := 0) rfl (by decide) (by decide) rfl (fun ls hl => ?_)
  refine lv_goto (tgt := 3) hx hb dX11_putBytes_43 (by decide) ?_
  refine lv_iload_n hx hb dX11_putBytes_3 rfl (lv_at hl 0 rfl) ?_
  refine lv_if_lt (tgt := 46) hx hb dX11_putBytes_4 (by decide) (fun c_7 => absurd c_7 (by decide)) (fun _ => ?_)
  refine lv_aload_n hx hb dX11_putBytes_7 rfl (lv_at hl 1 rfl) ?_
  refine va_get (D := (dC, dI)) (ci := 11) (v := .int 17) (C := RX11) (T := TX11) (N := 12) hx hb hts in11 hown hK hP 0 rfl rfl 9 (by decide) (hts (.fieldLink RX11 56 "FactKeeper" "tapeLength" "I") (by decide +kernel)) (fun _ h9 => h9) rfl dX11_putBytes_8 ?_
  refine lv_sipush (v := 400) hx hb dX11_putBytes_11 (by decide) ?_
  refine lv_icmp_ge (tgt := 46) hx hb dX11_putBytes_14 (by decide) (fun c_8 => absurd c_8 (by decide)) (fun _ => ?_)
  refine lv_aload_n hx hb dX11_putBytes_17 rfl (lv_at hl 1 rfl) ?_
  refine va_get (D := (dC, dI)) (ci := 11) (v := .ref aT) (C := RX11) (T := TX11) (N := 12) hx hb hts in11 hown hK hP 0 rfl rfl 0 (by decide) (hts (.fieldLink RX11 9 "FactKeeper" "tape" "[B") (by decide +kernel)) (fun _ h9 => h9) rfl dX11_putBytes_18 ?_
  refine lv_aload_n hx hb dX11_putBytes_21 rfl (lv_at hl 1 rfl) ?_
  refine va_get (D := (dC, dI)) (ci := 11) (v := .int 17) (C := RX11) (T := TX11) (N := 12) hx hb hts in11 hown hK hP 0 rfl rfl 9 (by decide) (hts (.fieldLink RX11 56 "FactKeeper" "tapeLength" "I") (by decide +kernel)) (fun _ h9 => h9) rfl dX11_putBytes_22 ?_
  refine lv_iload_n hx hb dX11_putBytes_25 rfl (lv_at hl 2 rfl) ?_
  refine lv_iload_n hx hb dX11_putBytes_26 rfl (lv_at hl 0 rfl) ?_
  refine lv_ishr hx hb dX11_putBytes_27 ?_
  refine lv_topi (fun z_9 ez_9 => ?_)
  obtain ⟨z_10, ez_10⟩ : ∃ y : Int32, y = (z_9 : Int32).toInt8.toInt32 := ⟨_, rfl⟩
  refine lv_i2b (v := z_10) hx hb dX11_putBytes_28 ez_10.symm ?_
  refine va_bast hx hb hK hP hD hS 1 0 rfl rfl (by unfold vp_in; decide) dX11_putBytes_29 (fun H locs hP hD hS => ?_)
  have hP : va_P (dC, dI) vwCl [(h, .inr (11, [.ref aT, .ref aV, .ref aS, .ref aC, .ref aO, .ref aF, .ref aL, .ref aR, .ref aX, .int 17, .int 0, .int 0])), (aT, .inl (cB, 400, .inl (upd g_5 (17 : Int32).toNatClampNeg (vp_nar .byte z_10))))] H := hP
  have hD : va_D A [(h, .inr (11, [.ref aT, .ref aV, .ref aS, .ref aC, .ref aO, .ref aF, .ref aL, .ref aR, .ref aX, .int 17, .int 0, .int 0])), (aT, .inl (cB, 400, .inl (upd g_5 (17 : Int32).toNatClampNeg (vp_nar .byte z_10))))] := hD
  obtain ⟨g_11, eg_11⟩ : ∃ g : Nat → Int32, g = (upd g_5 (17 : Int32).toNatClampNeg (vp_nar .byte z_10)) := ⟨_, rfl⟩
  rw [← eg_11] at hP hD
  have hP : va_P (dC, dI) vwCl [(h, .inr (11, [.ref aT, .ref aV, .ref aS, .ref aC, .ref aO, .ref aF, .ref aL, .ref aR, .ref aX, .int 17, .int 0, .int 0])), (aT, .inl (cB, 400, .inl g_11))] H := hP
  have hD : va_D A [(h, .inr (11, [.ref aT, .ref aV, .ref aS, .ref aC, .ref aO, .ref aF, .ref aL, .ref aR, .ref aX, .int 17, .int 0, .int 0])), (aT, .inl (cB, 400, .inl g_11))] := hD
  refine lv_aload_n hx hb dX11_putBytes_30 rfl (lv_at hl 1 rfl) ?_
  refine lv_dup hx hb dX11_putBytes_31 rfl ?_
  refine va_get (D := (dC, dI)) (ci := 11) (v := .int 17) (C := RX11) (T := TX11) (N := 12) hx hb hts in11 hown hK hP 0 rfl rfl 9 (by decide) (hts (.fieldLink RX11 56 "FactKeeper" "tapeLength" "I") (by decide +kernel)) (fun _ h9 => h9) rfl dX11_putBytes_32 ?_
  refine lv_iconst (v := 1) hx hb dX11_putBytes_35 (by decide) ?_
  refine lv_iadd hx hb dX11_putBytes_36 ?_
  refine lv_topi (fun z_12 ez_12 => ?_)
  obtain rfl : z_12 = 18 := ez_12.trans (by decide)
  refine va_put (D := (dC, dI)) (ci := 11) (v := .int 18) (ty := .int) (C := RX11) (T := TX11) (N := 12) hx hb hts in11 tyX11 tyX11_ok nmX11 hown hK hP hD hS 0 rfl rfl 9 (by decide) (hts (.fieldLink RX11 56 "FactKeeper" "tapeLength" "I") (by decide +kernel)) (fun _ h9 => h9) rfl (by decide +kernel) rfl rfl (Nat.le_of_ble_eq_true rfl) dX11_putBytes_37 (fun H locs hP hD hS => ?_)
  have hP : va_P (dC, dI) vwCl [(h, .inr (11, [.ref aT, .ref aV, .ref aS, .ref aC, .ref aO, .ref aF, .ref aL, .ref aR, .ref aX, .int 18, .int 0, .int 0])), (aT, .inl (cB, 400, .inl g_11))] H := hP
  have hD : va_D A [(h, .inr (11, [.ref aT, .ref aV, .ref aS, .ref aC, .ref aO, .ref aF, .ref aL, .ref aR, .ref aX, .int 18, .int 0, .int 0])), (aT, .inl (cB, 400, .inl g_11))] := hD
  refine lv_iinc (v := 8) (lv' := [(2, .int 8), (0, .ref h), (1, .int fo)]) hx hb dX11_putBytes_40 hl (k := 0) rfl (by decide) (by decide) rfl (fun ls hl => ?_)
  refine lv_goto (tgt := 3) hx hb dX11_putBytes_43 (by decide) ?_
  refine lv_iload_n hx hb dX11_putBytes_3 rfl (lv_at hl 0 rfl) ?_
  refine lv_if_lt (tgt := 46) hx hb dX11_putBytes_4 (by decide) (fun c_13 => absurd c_13 (by decide)) (fun _ => ?_)
  refine lv_aload_n hx hb dX11_putBytes_7 rfl (lv_at hl 1 rfl) ?_
  refine va_get (D := (dC, dI)) (ci := 11) (v := .int 18) (C := RX11) (T := TX11) (N := 12) hx hb hts in11 hown hK hP 0 rfl rfl 9 (by decide) (hts (.fieldLink RX11 56 "FactKeeper" "tapeLength" "I") (by decide +kernel)) (fun _ h9 => h9) rfl dX11_putBytes_8 ?_
  refine lv_sipush (v := 400) hx hb dX11_putBytes_11 (by decide) ?_
  refine lv_icmp_ge (tgt := 46) hx hb dX11_putBytes_14 (by decide) (fun c_14 => absurd c_14 (by decide)) (fun _ => ?_)
  refine lv_aload_n hx hb dX11_putBytes_17 rfl (lv_at hl 1 rfl) ?_
  refine va_get (D := (dC, dI)) (ci := 11) (v := .ref aT) (C := RX11) (T := TX11) (N := 12) hx hb hts in11 hown hK hP 0 rfl rfl 0 (by decide) (hts (.fieldLink RX11 9 "FactKeeper" "tape" "[B") (by decide +kernel)) (fun _ h9 => h9) rfl dX11_putBytes_18 ?_
  refine lv_aload_n hx hb dX11_putBytes_21 rfl (lv_at hl 1 rfl) ?_
  refine va_get (D := (dC, dI)) (ci := 11) (v := .int 18) (C := RX11) (T := TX11) (N := 12) hx hb hts in11 hown hK hP 0 rfl rfl 9 (by decide) (hts (.fieldLink RX11 56 "FactKeeper" "tapeLength" "I") (by decide +kernel)) (fun _ h9 => h9) rfl dX11_putBytes_22 ?_
  refine lv_iload_n hx hb dX11_putBytes_25 rfl (lv_at hl 2 rfl) ?_
  refine lv_iload_n hx hb dX11_putBytes_26 rfl (lv_at hl 0 rfl) ?_
  refine lv_ishr hx hb dX11_putBytes_27 ?_
  refine lv_topi (fun z_15 ez_15 => ?_)
  obtain ⟨z_16, ez_16⟩ : ∃ y : Int32, y = (z_15 : Int32).toInt8.toInt32 := ⟨_, rfl⟩
  refine lv_i2b (v := z_16) hx hb dX11_putBytes_28 ez_16.symm ?_
  refine va_bast hx hb hK hP hD hS 1 0 rfl rfl (by unfold vp_in; decide) dX11_putBytes_29 (fun H locs hP hD hS => ?_)
  have hP : va_P (dC, dI) vwCl [(h, .inr (11, [.ref aT, .ref aV, .ref aS, .ref aC, .ref aO, .ref aF, .ref aL, .ref aR, .ref aX, .int 18, .int 0, .int 0])), (aT, .inl (cB, 400, .inl (upd g_11 (18 : Int32).toNatClampNeg (vp_nar .byte z_16))))] H := hP
  have hD : va_D A [(h, .inr (11, [.ref aT, .ref aV, .ref aS, .ref aC, .ref aO, .ref aF, .ref aL, .ref aR, .ref aX, .int 18, .int 0, .int 0])), (aT, .inl (cB, 400, .inl (upd g_11 (18 : Int32).toNatClampNeg (vp_nar .byte z_16))))] := hD
  obtain ⟨g_17, eg_17⟩ : ∃ g : Nat → Int32, g = (upd g_11 (18 : Int32).toNatClampNeg (vp_nar .byte z_16)) := ⟨_, rfl⟩
  rw [← eg_17] at hP hD
  have hP : va_P (dC, dI) vwCl [(h, .inr (11, [.ref aT, .ref aV, .ref aS, .ref aC, .ref aO, .ref aF, .ref aL, .ref aR, .ref aX, .int 18, .int 0, .int 0])), (aT, .inl (cB, 400, .inl g_17))] H := hP
  have hD : va_D A [(h, .inr (11, [.ref aT, .ref aV, .ref aS, .ref aC, .ref aO, .ref aF, .ref aL, .ref aR, .ref aX, .int 18, .int 0, .int 0])), (aT, .inl (cB, 400, .inl g_17))] := hD
  refine lv_aload_n hx hb dX11_putBytes_30 rfl (lv_at hl 1 rfl) ?_
  refine lv_dup hx hb dX11_putBytes_31 rfl ?_
  refine va_get (D := (dC, dI)) (ci := 11) (v := .int 18) (C := RX11) (T := TX11) (N := 12) hx hb hts in11 hown hK hP 0 rfl rfl 9 (by decide) (hts (.fieldLink RX11 56 "FactKeeper" "tapeLength" "I") (by decide +kernel)) (fun _ h9 => h9) rfl dX11_putBytes_32 ?_
  refine lv_iconst (v := 1) hx hb dX11_putBytes_35 (by decide) ?_
  refine lv_iadd hx hb dX11_putBytes_36 ?_
  refine lv_topi (fun z_18 ez_18 => ?_)
  obtain rfl : z_18 = 19 := ez_18.trans (by decide)
  refine va_put (D := (dC, dI)) (ci := 11) (v := .int 19) (ty := .int) (C := RX11) (T := TX11) (N := 12) hx hb hts in11 tyX11 tyX11_ok nmX11 hown hK hP hD hS 0 rfl rfl 9 (by decide) (hts (.fieldLink RX11 56 "FactKeeper" "tapeLength" "I") (by decide +kernel)) (fun _ h9 => h9) rfl (by decide +kernel) rfl rfl (Nat.le_of_ble_eq_true rfl) dX11_putBytes_37 (fun H locs hP hD hS => ?_)
  have hP : va_P (dC, dI) vwCl [(h, .inr (11, [.ref aT, .ref aV, .ref aS, .ref aC, .ref aO, .ref aF, .ref aL, .ref aR, .ref aX, .int 19, .int 0, .int 0])), (aT, .inl (cB, 400, .inl g_17))] H := hP
  have hD : va_D A [(h, .inr (11, [.ref aT, .ref aV, .ref aS, .ref aC, .ref aO, .ref aF, .ref aL, .ref aR, .ref aX, .int 19, .int 0, .int 0])), (aT, .inl (cB, 400, .inl g_17))] := hD
  refine lv_iinc (v := 0) (lv' := [(2, .int 0), (0, .ref h), (1, .int fo)]) hx hb dX11_putBytes_40 hl (k := 0) rfl (by decide) (by decide) rfl (fun ls hl => ?_)
  refine lv_goto (tgt := 3) hx hb dX11_putBytes_43 (by decide) ?_
  refine lv_iload_n hx hb dX11_putBytes_3 rfl (lv_at hl 0 rfl) ?_
  refine lv_if_lt (tgt := 46) hx hb dX11_putBytes_4 (by decide) (fun c_19 => absurd c_19 (by decide)) (fun _ => ?_)
  refine lv_aload_n hx hb dX11_putBytes_7 rfl (lv_at hl 1 rfl) ?_
  refine va_get (D := (dC, dI)) (ci := 11) (v := .int 19) (C := RX11) (T := TX11) (N := 12) hx hb hts in11 hown hK hP 0 rfl rfl 9 (by decide) (hts (.fieldLink RX11 56 "FactKeeper" "tapeLength" "I") (by decide +kernel)) (fun _ h9 => h9) rfl dX11_putBytes_8 ?_
  refine lv_sipush (v := 400) hx hb dX11_putBytes_11 (by decide) ?_
  refine lv_icmp_ge (tgt := 46) hx hb dX11_putBytes_14 (by decide) (fun c_20 => absurd c_20 (by decide)) (fun _ => ?_)
  refine lv_aload_n hx hb dX11_putBytes_17 rfl (lv_at hl 1 rfl) ?_
  refine va_get (D := (dC, dI)) (ci := 11) (v := .ref aT) (C := RX11) (T := TX11) (N := 12) hx hb hts in11 hown hK hP 0 rfl rfl 0 (by decide) (hts (.fieldLink RX11 9 "FactKeeper" "tape" "[B") (by decide +kernel)) (fun _ h9 => h9) rfl dX11_putBytes_18 ?_
  refine lv_aload_n hx hb dX11_putBytes_21 rfl (lv_at hl 1 rfl) ?_
  refine va_get (D := (dC, dI)) (ci := 11) (v := .int 19) (C := RX11) (T := TX11) (N := 12) hx hb hts in11 hown hK hP 0 rfl rfl 9 (by decide) (hts (.fieldLink RX11 56 "FactKeeper" "tapeLength" "I") (by decide +kernel)) (fun _ h9 => h9) rfl dX11_putBytes_22 ?_
  refine lv_iload_n hx hb dX11_putBytes_25 rfl (lv_at hl 2 rfl) ?_
  refine lv_iload_n hx hb dX11_putBytes_26 rfl (lv_at hl 0 rfl) ?_
  refine lv_ishr hx hb dX11_putBytes_27 ?_
  refine lv_topi (fun z_21 ez_21 => ?_)
  obtain ⟨z_22, ez_22⟩ : ∃ y : Int32, y = (z_21 : Int32).toInt8.toInt32 := ⟨_, rfl⟩
  refine lv_i2b (v := z_22) hx hb dX11_putBytes_28 ez_22.symm ?_
  refine va_bast hx hb hK hP hD hS 1 0 rfl rfl (by unfold vp_in; decide) dX11_putBytes_29 (fun H locs hP hD hS => ?_)
  have hP : va_P (dC, dI) vwCl [(h, .inr (11, [.ref aT, .ref aV, .ref aS, .ref aC, .ref aO, .ref aF, .ref aL, .ref aR, .ref aX, .int 19, .int 0, .int 0])), (aT, .inl (cB, 400, .inl (upd g_17 (19 : Int32).toNatClampNeg (vp_nar .byte z_22))))] H := hP
  have hD : va_D A [(h, .inr (11, [.ref aT, .ref aV, .ref aS, .ref aC, .ref aO, .ref aF, .ref aL, .ref aR, .ref aX, .int 19, .int 0, .int 0])), (aT, .inl (cB, 400, .inl (upd g_17 (19 : Int32).toNatClampNeg (vp_nar .byte z_22))))] := hD
  obtain ⟨g_23, eg_23⟩ : ∃ g : Nat → Int32, g = (upd g_17 (19 : Int32).toNatClampNeg (vp_nar .byte z_22)) := ⟨_, rfl⟩
  rw [← eg_23] at hP hD
  have hP : va_P (dC, dI) vwCl [(h, .inr (11, [.ref aT, .ref aV, .ref aS, .ref aC, .ref aO, .ref aF, .ref aL, .ref aR, .ref aX, .int 19, .int 0, .int 0])), (aT, .inl (cB, 400, .inl g_23))] H := hP
  have hD : va_D A [(h, .inr (11, [.ref aT, .ref aV, .ref aS, .ref aC, .ref aO, .ref aF, .ref aL, .ref aR, .ref aX, .int 19, .int 0, .int 0])), (aT, .inl (cB, 400, .inl g_23))] := hD
  refine lv_aload_n hx hb dX11_putBytes_30 rfl (lv_at hl 1 rfl) ?_
  refine lv_dup hx hb dX11_putBytes_31 rfl ?_
  refine va_get (D := (dC, dI)) (ci := 11) (v := .int 19) (C := RX11) (T := TX11) (N := 12) hx hb hts in11 hown hK hP 0 rfl rfl 9 (by decide) (hts (.fieldLink RX11 56 "FactKeeper" "tapeLength" "I") (by decide +kernel)) (fun _ h9 => h9) rfl dX11_putBytes_32 ?_
  refine lv_iconst (v := 1) hx hb dX11_putBytes_35 (by decide) ?_
  refine lv_iadd hx hb dX11_putBytes_36 ?_
  refine lv_topi (fun z_24 ez_24 => ?_)
  obtain rfl : z_24 = 20 := ez_24.trans (by decide)
  refine va_put (D := (dC, dI)) (ci := 11) (v := .int 20) (ty := .int) (C := RX11) (T := TX11) (N := 12) hx hb hts in11 tyX11 tyX11_ok nmX11 hown hK hP hD hS 0 rfl rfl 9 (by decide) (hts (.fieldLink RX11 56 "FactKeeper" "tapeLength" "I") (by decide +kernel)) (fun _ h9 => h9) rfl (by decide +kernel) rfl rfl (Nat.le_of_ble_eq_true rfl) dX11_putBytes_37 (fun H locs hP hD hS => ?_)
  have hP : va_P (dC, dI) vwCl [(h, .inr (11, [.ref aT, .ref aV, .ref aS, .ref aC, .ref aO, .ref aF, .ref aL, .ref aR, .ref aX, .int 20, .int 0, .int 0])), (aT, .inl (cB, 400, .inl g_23))] H := hP
  have hD : va_D A [(h, .inr (11, [.ref aT, .ref aV, .ref aS, .ref aC, .ref aO, .ref aF, .ref aL, .ref aR, .ref aX, .int 20, .int 0, .int 0])), (aT, .inl (cB, 400, .inl g_23))] := hD
  refine lv_iinc (v := (-8)) (lv' := [(2, .int (-8)), (0, .ref h), (1, .int fo)]) hx hb dX11_putBytes_40 hl (k := 0) rfl (by decide) (by decide) rfl (fun ls hl => ?_)
  refine lv_goto (tgt := 3) hx hb dX11_putBytes_43 (by decide) ?_
  refine lv_iload_n hx hb dX11_putBytes_3 rfl (lv_at hl 0 rfl) ?_
  refine lv_if_lt (tgt := 46) hx hb dX11_putBytes_4 (by decide) (fun _ => ?_) (fun c_25 => absurd c_25 (by decide))
  have hP9 := hP.sub (ws' := [(h, .inr (11, [.ref aT, .ref aV, .ref aS, .ref aC, .ref aO, .ref aF, .ref aL, .ref aR, .ref aX, .int 20, .int 0, .int 0])), (aT, .inl (cB, 400, .inl g_23))]) [0, 1] rfl
  have hD9 := hD.sub (ws' := [(h, .inr (11, [.ref aT, .ref aV, .ref aS, .ref aC, .ref aO, .ref aF, .ref aL, .ref aR, .ref aX, .int 20, .int 0, .int 0])), (aT, .inl (cB, 400, .inl g_23))]) [0, 1] (by decide) rfl
  have hK9 := hK.sub (tys' := [(cB, .byte)]) [0] rfl
  refine W.widen (k := 0) (n := 0) (Nat.le_of_ble_eq_true rfl) (Nat.le_of_ble_eq_true rfl) ?_
  exact (W.vret hx hb hr (fun t ht hW => ⟨⟨g_23, rfl, trivial, by rw [ht]; exact hP9, va_K.moved hW.alike hK9, hD9⟩, hS.F ht⟩) hS.2.2 dX11_putBytes_46)

set_option maxHeartbeats 4000000 in
set_option maxRecDepth 100000 in
/-- feed -/
theorem c_feed (l : Launch) (hl0 : l.stackTraces = false) (dC : Nat → ClassId) (dI : Nat → Nat → Nat) (h : Nat) (aT : Nat) (aV : Nat) (aS : Nat) (aC : Nat) (aO : Nat) (aF : Nat) (aL : Nat) (aR : Nat) (aX : Nat) (cB : ClassId) (b1 : Int32) (b2 : Int32) (b3 : Int32) (b4 : Int32) (b5 : Int32) (sz : Nat)  : vx_Met l yX11_feed wsX11_feed ({ frames := 1, cells := 0, slots := 0, locals := 22 } : Room) (va_Pc [.ref h, .int b1, .int b2, .int b3, .int b4, .int b5] (ct_P (dC, dI) [(h, .inr (11, [.ref aT, .ref aV, .ref aS, .ref aC, .ref aO, .ref aF, .ref aL, .ref aR, .ref aX, .int 0, .int 0, .int 0])), (aT, .inl (cB, 400, .inl (fun _ => 0)))] [(cB, .byte)] sz)) (va_Qi (fun (r : Int32) (u : Unit) => r = 20) (fun (u : Unit) => ct_B (dC, dI) (va_A [(h, .inr (11, [.ref aT, .ref aV, .ref aS, .ref aC, .ref aO, .ref aF, .ref aL, .ref aR, .ref aX, .int 0, .int 0, .int 0])), (aT, .inl (cB, 400, .inl (fun _ => 0)))] sz) [] []) (va_A [(h, .inr (11, [.ref aT, .ref aV, .ref aS, .ref aC, .ref aO, .ref aF, .ref aL, .ref aR, .ref aX, .int 0, .int 0, .int 0])), (aT, .inl (cB, 400, .inl (fun _ => 0)))] sz)) (tx_X (fun E => False) (va_A [(h, .inr (11, [.ref aT, .ref aV, .ref aS, .ref aC, .ref aO, .ref aF, .ref aL, .ref aR, .ref aX, .int 0, .int 0, .int 0])), (aT, .inl (cB, 400, .inl (fun _ => 0)))] sz)) 0 0 (va_A [(h, .inr (11, [.ref aT, .ref aV, .ref aS, .ref aC, .ref aO, .ref aF, .ref aL, .ref aR, .ref aX, .int 0, .int 0, .int 0])), (aT, .inl (cB, 400, .inl (fun _ => 0)))] sz) := by
  refine vx_ofW (cc := cX11_feed) (maxL := 6) (ret := (some .int)) (by decide) rfl ?_
  intro p e s m args below meth c s₁ B hml htab hv
  obtain ⟨rfl, hsz, hP, hK, hD0, hZ⟩ := hv
  have hx := B.exec
  have hb := B.bytes
  have hr := B.returns
  have hts := atoms_spec (ws := wsX11_feed) B.pre
  have hown : s.vm.findClass RX11 = some m.cls := findClass_of_methodNamed B.named
  have hlocks := B.notSynchronized
  have in11 : ∀ w ∈ u_ws RX11 TX11 12, w ∈ wsX11_feed := fun w h => (List.mem_cons_of_mem _ (List.mem_append_left _ (List.mem_append_right _ h)))
  subst hsz
  have hD := hD0.self (sz := s.heap.size)
  generalize hAe : va_A [(h, .inr (11, [.ref aT, .ref aV, .ref aS, .ref aC, .ref aO, .ref aF, .ref aL, .ref aR, .ref aX, .int 0, .int 0, .int 0])), (aT, .inl (cB, 400, .inl (fun _ => 0)))] s.heap.size = A at hD hZ ⊢
  have hA : ∀ q : Nat, s.heap.size ≤ q → A q := fun q h => by rw [← hAe]; exact Or.inr h
  have hS : va_S A s.heap s.heap [] := va_S.rf
  have hP : va_P (dC, dI) vwCl [(h, .inr (11, [.ref aT, .ref aV, .ref aS, .ref aC, .ref aO, .ref aF, .ref aL, .ref aR, .ref aX, .int 0, .int 0, .int 0])), (aT, .inl (cB, 400, .inl (fun _ => 0)))] s.heap := hP
  have hK : va_K (dC, dI) vwCl [(cB, .byte)] s := hK
  have hD : va_D A [(h, .inr (11, [.ref aT, .ref aV, .ref aS, .ref aC, .ref aO, .ref aF, .ref aL, .ref aR, .ref aX, .int 0, .int 0, .int 0])), (aT, .inl (cB, 400, .inl (fun _ => 0)))] := hD
  have hl := lv_entry ([.ref h, .int b1, .int b2, .int b3, .int b4, .int b5]) (n := 6) (Nat.le_of_ble_eq_true rfl)
  rw [lg_entry_eq]
  generalize (lg_sl ([.ref h, .int b1, .int b2, .int b3, .int b4, .int b5]) ++ List.replicate (6 - (lg_sl ([.ref h, .int b1, .int b2, .int b3, .int b4, .int b5])).length) Slot.unset).toArray = ls at hl ⊢
  have hl : lv_has ls 6 [(0, .ref h), (1, .int b1), (2, .int b2), (3, .int b3), (4, .int b4), (5, .int b5)] := hl
  refine lv_aload_n hx hb dX11_feed_0 rfl (lv_at hl 0 rfl) ?_
  refine va_get (D := (dC, dI)) (ci := 11) (v := .int 0) (C := RX11) (T := TX11) (N := 12) hx hb hts in11 hown hK hP 0 rfl rfl 9 (by decide) (hts (.fieldLink RX11 56 "FactKeeper" "tapeLength" "I") (by decide +kernel)) (fun _ h9 => h9) rfl dX11_feed_1 ?_
  refine lv_sipush (v := 380) hx hb dX11_feed_4 (by decide) ?_
  refine lv_icmp_le (tgt := 20) hx hb dX11_feed_7 (by decide) (fun _ => ?_) (fun c_1 => absurd c_1 (by decide))
  refine lv_aload_n hx hb dX11_feed_20 rfl (lv_at hl 0 rfl) ?_
  refine lv_iload_n hx hb dX11_feed_21 rfl (lv_at hl 1 rfl) ?_
  refine ct_v (wr := []) (tyr := []) (va_runV (As := [.int b1]) (rest := []) ⟨hx, hb, hml, hown, hts⟩ (c_putBytes0 l hl0 dC dI h aT aV aS aC aO aF aL aR aX cB (fun _ => 0) b1 s.heap.size ) (cwV 1 hts gX11_feed_X11_putBytes rfl rfl rfl (by decide +kernel) ⟨Nat.le_of_ble_eq_true rfl, Nat.le_of_ble_eq_true rfl⟩) (ct_preV (ci := 11) (q0 := 0) hP hD hK hS hA hZ rfl rfl [0, 1] [0] rfl (by decide) rfl) rfl rfl hl.1 rfl (lv_room (Nat.le_of_ble_eq_true rfl)) dX11_feed_22 ⟨Nat.le_of_ble_eq_true rfl, Nat.le_of_ble_eq_true rfl⟩) hP hD hK hS hA [0, 1] [] [] rfl rfl (by decide) (by decide) rfl (fun u H locs w_4 hP hD hK hS => ?_)
  obtain ⟨o_2, rfl⟩ : ∃ z, z = u := ⟨_, rfl⟩
  try dsimp only at w_4
  have hP : va_P (dC, dI) vwCl [(h, .inr (11, [.ref aT, .ref aV, .ref aS, .ref aC, .ref aO, .ref aF, .ref aL, .ref aR, .ref aX, .int 4, .int 0, .int 0])), (aT, .inl (cB, 400, .inl o_2))] H := hP
  have hD : va_D A [(h, .inr (11, [.ref aT, .ref aV, .ref aS, .ref aC, .ref aO, .ref aF, .ref aL, .ref aR, .ref aX, .int 4, .int 0, .int 0])), (aT, .inl (cB, 400, .inl o_2))] := hD
  have hK : va_K (dC, dI) vwCl [(cB, .byte)] s := hK
  refine lv_aload_n hx hb dX11_feed_25 rfl (lv_at hl 0 rfl) ?_
  refine lv_iload_n hx hb dX11_feed_26 rfl (lv_at hl 2 rfl) ?_
  refine ct_v (wr := []) (tyr := []) (va_runV (As := [.int b2]) (rest := []) ⟨hx, hb, hml, hown, hts⟩ (c_putBytes4 l hl0 dC dI h aT aV aS aC aO aF aL aR aX cB o_2 b2 H.size ) (cwV 1 hts gX11_feed_X11_putBytes rfl rfl rfl (by decide +kernel) ⟨Nat.le_of_ble_eq_true rfl, Nat.le_of_ble_eq_true rfl⟩) (ct_preV (ci := 11) (q0 := 0) hP hD hK hS hA hZ rfl rfl [0, 1] [0] rfl (by decide) rfl) rfl rfl hl.1 rfl (lv_room (Nat.le_of_ble_eq_true rfl)) dX11_feed_27 ⟨Nat.le_of_ble_eq_true rfl, Nat.le_of_ble_eq_true rfl⟩) hP hD hK hS hA [0, 1] [] [] rfl rfl (by decide) (by decide) rfl (fun u H locs w_7 hP hD hK hS => ?_)
  obtain ⟨o_5, rfl⟩ : ∃ z, z = u := ⟨_, rfl⟩
  try dsimp only at w_7
  have hP : va_P (dC, dI) vwCl [(h, .inr (11, [.ref aT, .ref aV, .ref aS, .ref aC, .ref aO, .ref aF, .ref aL, .ref aR, .ref aX, .int 8, .int 0, .int 0])), (aT, .inl (cB, 400, .inl o_5))] H := hP
  have hD : va_D A [(h, .inr (11, [.ref aT, .ref aV, .ref aS, .ref aC, .ref aO, .ref aF, .ref aL, .ref aR, .ref aX, .int 8, .int 0, .int 0])), (aT, .inl (cB, 400, .inl o_5))] := hD
  have hK : va_K (dC, dI) vwCl [(cB, .byte)] s := hK
  refine lv_aload_n hx hb dX11_feed_30 rfl (lv_at hl 0 rfl) ?_
  refine lv_iload_n hx hb dX11_feed_31 rfl (lv_at hl 3 rfl) ?_
  refine ct_v (wr := []) (tyr := []) (va_runV (As := [.int b3]) (rest := []) ⟨hx, hb, hml, hown, hts⟩ (c_putBytes8 l hl0 dC dI h aT aV aS aC aO aF aL aR aX cB o_5 b3 H.size ) (cwV 1 hts gX11_feed_X11_putBytes rfl rfl rfl (by decide +kernel) ⟨Nat.le_of_ble_eq_true rfl, Nat.le_of_ble_eq_true rfl⟩) (ct_preV (ci := 11) (q0 := 0) hP hD hK hS hA hZ rfl rfl [0, 1] [0] rfl (by decide) rfl) rfl rfl hl.1 rfl (lv_room (Nat.le_of_ble_eq_true rfl)) dX11_feed_32 ⟨Nat.le_of_ble_eq_true rfl, Nat.le_of_ble_eq_true rfl⟩) hP hD hK hS hA [0, 1] [] [] rfl rfl (by decide) (by decide) rfl (fun u H locs w_10 hP hD hK hS => ?_)
  obtain ⟨o_8, rfl⟩ : ∃ z, z = u := ⟨_, rfl⟩
  try dsimp only at w_10
  have hP : va_P (dC, dI) vwCl [(h, .inr (11, [.ref aT, .ref aV, .ref aS, .ref aC, .ref aO, .ref aF, .ref aL, .ref aR, .ref aX, .int 12, .int 0, .int 0])), (aT, .inl (cB, 400, .inl o_8))] H := hP
  have hD : va_D A [(h, .inr (11, [.ref aT, .ref aV, .ref aS, .ref aC, .ref aO, .ref aF, .ref aL, .ref aR, .ref aX, .int 12, .int 0, .int 0])), (aT, .inl (cB, 400, .inl o_8))] := hD
  have hK : va_K (dC, dI) vwCl [(cB, .byte)] s := hK
  refine lv_aload_n hx hb dX11_feed_35 rfl (lv_at hl 0 rfl) ?_
  refine lv_iload hx hb dX11_feed_36 (lv_at hl 4 rfl) ?_
  refine ct_v (wr := []) (tyr := []) (va_runV (As := [.int b4]) (rest := []) ⟨hx, hb, hml, hown, hts⟩ (c_putBytes12 l hl0 dC dI h aT aV aS aC aO aF aL aR aX cB o_8 b4 H.size ) (cwV 1 hts gX11_feed_X11_putBytes rfl rfl rfl (by decide +kernel) ⟨Nat.le_of_ble_eq_true rfl, Nat.le_of_ble_eq_true rfl⟩) (ct_preV (ci := 11) (q0 := 0) hP hD hK hS hA hZ rfl rfl [0, 1] [0] rfl (by decide) rfl) rfl rfl hl.1 rfl (lv_room (Nat.le_of_ble_eq_true rfl)) dX11_feed_38 ⟨Nat.le_of_ble_eq_true rfl, Nat.le_of_ble_eq_true rfl⟩) hP hD hK hS hA [0, 1] [] [] rfl rfl (by decide) (by decide) rfl (fun u H locs w_13 hP hD hK hS => ?_)
  obtain ⟨o_11, rfl⟩ : ∃ z, z = u := ⟨_, rfl⟩
  try dsimp only at w_13
  have hP : va_P (dC, dI) vwCl [(h, .inr (11, [.ref aT, .ref aV, .ref aS, .ref aC, .ref aO, .ref aF, .ref aL, .ref aR, .ref aX, .int 16, .int 0, .int 0])), (aT, .inl (cB, 400, .inl o_11))] H := hP
  have hD : va_D A [(h, .inr (11, [.ref aT, .ref aV, .ref aS, .ref aC, .ref aO, .ref aF, .ref aL, .ref aR, .ref aX, .int 16, .int 0, .int 0])), (aT, .inl (cB, 400, .inl o_11))] := hD
  have hK : va_K (dC, dI) vwCl [(cB, .byte)] s := hK
  refine lv_aload_n hx hb dX11_feed_41 rfl (lv_at hl 0 rfl) ?_
  refine lv_iload hx hb dX11_feed_42 (lv_at hl 5 rfl) ?_
  refine ct_v (wr := []) (tyr := []) (va_runV (As := [.int b5]) (rest := []) ⟨hx, hb, hml, hown, hts⟩ (c_putBytes16 l hl0 dC dI h aT aV aS aC aO aF aL aR aX cB o_11 b5 H.size ) (cwV 1 hts gX11_feed_X11_putBytes rfl rfl rfl (by decide +kernel) ⟨Nat.le_of_ble_eq_true rfl, Nat.le_of_ble_eq_true rfl⟩) (ct_preV (ci := 11) (q0 := 0) hP hD hK hS hA hZ rfl rfl [0, 1] [0] rfl (by decide) rfl) rfl rfl hl.1 rfl (lv_room (Nat.le_of_ble_eq_true rfl)) dX11_feed_44 ⟨Nat.le_of_ble_eq_true rfl, Nat.le_of_ble_eq_true rfl⟩) hP hD hK hS hA [0, 1] [] [] rfl rfl (by decide) (by decide) rfl (fun u H locs w_16 hP hD hK hS => ?_)
  obtain ⟨o_14, rfl⟩ : ∃ z, z = u := ⟨_, rfl⟩
  try dsimp only at w_16
  have hP : va_P (dC, dI) vwCl [(h, .inr (11, [.ref aT, .ref aV, .ref aS, .ref aC, .ref aO, .ref aF, .ref aL, .ref aR, .ref aX, .int 20, .int 0, .int 0])), (aT, .inl (cB, 400, .inl o_14))] H := hP
  have hD : va_D A [(h, .inr (11, [.ref aT, .ref aV, .ref aS, .ref aC, .ref aO, .ref aF, .ref aL, .ref aR, .ref aX, .int 20, .int 0, .int 0])), (aT, .inl (cB, 400, .inl o_14))] := hD
  have hK : va_K (dC, dI) vwCl [(cB, .byte)] s := hK
  refine lv_aload_n hx hb dX11_feed_47 rfl (lv_at hl 0 rfl) ?_
  refine va_get (D := (dC, dI)) (ci := 11) (v := .int 20) (C := RX11) (T := TX11) (N := 12) hx hb hts in11 hown hK hP 0 rfl rfl 9 (by decide) (hts (.fieldLink RX11 56 "FactKeeper" "tapeLength" "I") (by decide +kernel)) (fun _ h9 => h9) rfl dX11_feed_48 ?_
  have hP9 := hP.sub (ws' := []) [] rfl
  have hD9 := hD.sub (ws' := []) [] (by decide) rfl
  have hK9 := hK.sub (tys' := []) [] rfl
  refine W.widen (k := 0) (n := 0) (Nat.le_of_ble_eq_true rfl) (Nat.le_of_ble_eq_true rfl) ?_
  exact vx_ret (W.iret (v := 20) hx hb hr (fun t ht hW => ⟨⟨20, (), rfl, rfl, by rw [ht]; exact hP9, va_K.moved hW.alike hK9, hD9⟩, hS.F ht⟩) hS.2.2 dX11_feed_51)
