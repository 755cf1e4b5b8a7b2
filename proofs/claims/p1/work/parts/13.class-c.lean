set_option maxHeartbeats 4000000 in
set_option maxRecDepth 100000 in
/-- makeMark -/
theorem c_makeMark (l : Launch) (hl0 : l.stackTraces = false) (dC : Nat → ClassId) (dI : Nat → Nat → Nat) (sH : Nat) (hF : Nat) (hW : Nat) (hM : Nat) (cM : ClassId) (sz : Nat)  : Met l yX3_makeMark wsX3_makeMark ({ frames := 0, cells := 0, slots := 0, locals := 0 } : Room) (va_Pc [.ref sH] (ct_P (dC, dI) [(sH, .inr (3, [.ref hF, .ref hW, .ref hM, .int 0, .int 0])), (hM, .inl (cM, 8, .inl (fun _ => 0)))] [(cM, .int)] sz)) (va_Qi (fun (r : Int32) (u : Unit) => r = 1) (fun (u : Unit) => ct_B (dC, dI) (va_A [(sH, .inr (3, [.ref hF, .ref hW, .ref hM, .int 0, .int 0])), (hM, .inl (cM, 8, .inl (fun _ => 0)))] sz) [(sH, .inr (3, [.ref hF, .ref hW, .ref hM, .int 0, .int 1]))] []) (va_A [(sH, .inr (3, [.ref hF, .ref hW, .ref hM, .int 0, .int 0])), (hM, .inl (cM, 8, .inl (fun _ => 0)))] sz)) 0 0 (va_A [(sH, .inr (3, [.ref hF, .ref hW, .ref hM, .int 0, .int 0])), (hM, .inl (cM, 8, .inl (fun _ => 0)))] sz) := by
  refine Met.ofW (cc := cX3_makeMark) (maxL := 1) (ret := (some .boolean)) (by decide) rfl ?_
  intro p e s m args below meth c s₁ B hml hv
  obtain ⟨rfl, hsz, hP, hK, hD0, hZ⟩ := hv
  have hx := B.exec
  have hb := B.bytes
  have hr := B.returns
  have hts := atoms_spec (ws := wsX3_makeMark) B.pre
  have hown : s.vm.findClass RX3 = some m.cls := findClass_of_methodNamed B.named
  have hlocks := B.notSynchronized
  have in3 : ∀ w ∈ u_ws RX3 TX3 5, w ∈ wsX3_makeMark := fun w h => (List.mem_cons_of_mem _ (List.mem_append_right _ h))
  subst hsz
  have hD := hD0.self (sz := s.heap.size)
  generalize hAe : va_A [(sH, .inr (3, [.ref hF, .ref hW, .ref hM, .int 0, .int 0])), (hM, .inl (cM, 8, .inl (fun _ => 0)))] s.heap.size = A at hD hZ ⊢
  have hA : ∀ q : Nat, s.heap.size ≤ q → A q := fun q h => by rw [← hAe]; exact Or.inr h
  have hS : va_S A s.heap s.heap [] := va_S.rf
  have hP : va_P (dC, dI) vwCl [(sH, .inr (3, [.ref hF, .ref hW, .ref hM, .int 0, .int 0])), (hM, .inl (cM, 8, .inl (fun _ => 0)))] s.heap := hP
  have hK : va_K (dC, dI) vwCl [(cM, .int)] s := hK
  have hD : va_D A [(sH, .inr (3, [.ref hF, .ref hW, .ref hM, .int 0, .int 0])), (hM, .inl (cM, 8, .inl (fun _ => 0)))] := hD
  have hl := lv_entry ([.ref sH]) (n := 1) (Nat.le_of_ble_eq_true rfl)
  rw [lg_entry_eq]
  generalize (lg_sl ([.ref sH]) ++ List.replicate (1 - (lg_sl ([.ref sH])).length) Slot.unset).toArray = ls at hl ⊢
  have hl : lv_has ls 1 [(0, .ref sH)] := hl
  refine lv_aload_n hx hb dX3_makeMark_0 rfl (lv_at hl 0 rfl) ?_
  refine va_get (D := (dC, dI)) (ci := 3) (v := .int 0) (C := RX3) (T := TX3) (N := 5) hx hb hts in3 hown hK hP 0 rfl rfl 4 (by decide) (hts (.fieldLink RX3 25 "FactKeeper$History" "markCount" "I") (by decide +kernel)) (fun _ h9 => h9) rfl dX3_makeMark_1 ?_
  refine lv_bipush (v := 8) hx hb dX3_makeMark_4 (by decide) ?_
  refine lv_icmp_lt (tgt := 11) hx hb dX3_makeMark_6 (by decide) (fun _ => ?_) (fun c_1 => absurd c_1 (by decide))
  refine lv_aload_n hx hb dX3_makeMark_11 rfl (lv_at hl 0 rfl) ?_
  refine va_get (D := (dC, dI)) (ci := 3) (v := .ref hM) (C := RX3) (T := TX3) (N := 5) hx hb hts in3 hown hK hP 0 rfl rfl 2 (by decide) (hts (.fieldLink RX3 21 "FactKeeper$History" "marks" "[I") (by decide +kernel)) (fun _ h9 => h9) rfl dX3_makeMark_12 ?_
  refine lv_aload_n hx hb dX3_makeMark_15 rfl (lv_at hl 0 rfl) ?_
  refine va_get (D := (dC, dI)) (ci := 3) (v := .int 0) (C := RX3) (T := TX3) (N := 5) hx hb hts in3 hown hK hP 0 rfl rfl 4 (by decide) (hts (.fieldLink RX3 25 "FactKeeper$History" "markCount" "I") (by decide +kernel)) (fun _ h9 => h9) rfl dX3_makeMark_16 ?_
  refine lv_aload_n hx hb dX3_makeMark_19 rfl (lv_at hl 0 rfl) ?_
  refine va_get (D := (dC, dI)) (ci := 3) (v := .int 0) (C := RX3) (T := TX3) (N := 5) hx hb hts in3 hown hK hP 0 rfl rfl 3 (by decide) (hts (.fieldLink RX3 29 "FactKeeper$History" "size" "I") (by decide +kernel)) (fun _ h9 => h9) rfl dX3_makeMark_20 ?_
  refine va_iast hx hb hK hP hD hS 1 0 rfl rfl (by unfold vp_in; decide) dX3_makeMark_23 (fun H locs hP hD hS => ?_)
  have hP : va_P (dC, dI) vwCl [(sH, .inr (3, [.ref hF, .ref hW, .ref hM, .int 0, .int 0])), (hM, .inl (cM, 8, .inl (upd (fun _ => 0) (0 : Int32).toNatClampNeg 0)))] H := hP
  have hD : va_D A [(sH, .inr (3, [.ref hF, .ref hW, .ref hM, .int 0, .int 0])), (hM, .inl (cM, 8, .inl (upd (fun _ => 0) (0 : Int32).toNatClampNeg 0)))] := hD
  refine lv_aload_n hx hb dX3_makeMark_24 rfl (lv_at hl 0 rfl) ?_
  refine lv_dup hx hb dX3_makeMark_25 rfl ?_
  refine va_get (D := (dC, dI)) (ci := 3) (v := .int 0) (C := RX3) (T := TX3) (N := 5) hx hb hts in3 hown hK hP 0 rfl rfl 4 (by decide) (hts (.fieldLink RX3 25 "FactKeeper$History" "markCount" "I") (by decide +kernel)) (fun _ h9 => h9) rfl dX3_makeMark_26 ?_
  refine lv_iconst (v := 1) hx hb dX3_makeMark_29 (by decide) ?_
  refine lv_iadd hx hb dX3_makeMark_30 ?_
  refine lv_topi (fun z_2 ez_2 => ?_)
  obtain rfl : z_2 = 1 := ez_2.trans (by decide)
  refine va_put (D := (dC, dI)) (ci := 3) (v := .int 1) (ty := .int) (C := RX3) (T := TX3) (N := 5) hx hb hts in3 tyX3 tyX3_ok nmX3 hown hK hP hD hS 0 rfl rfl 4 (by decide) (hts (.fieldLink RX3 25 "FactKeeper$History" "markCount" "I") (by decide +kernel)) (fun _ h9 => h9) rfl (by decide +kernel) rfl rfl (Nat.le_of_ble_eq_true rfl) dX3_makeMark_31 (fun H locs hP hD hS => ?_)
  have hP : va_P (dC, dI) vwCl [(sH, .inr (3, [.ref hF, .ref hW, .ref hM, .int 0, .int 1])), (hM, .inl (cM, 8, .inl (upd (fun _ => 0) (0 : Int32).toNatClampNeg 0)))] H := hP
  have hD : va_D A [(sH, .inr (3, [.ref hF, .ref hW, .ref hM, .int 0, .int 1])), (hM, .inl (cM, 8, .inl (upd (fun _ => 0) (0 : Int32).toNatClampNeg 0)))] := hD
  refine lv_iconst (v := 1) hx hb dX3_makeMark_34 (by decide) ?_
  have hP9 := hP.sub (ws' := [(sH, .inr (3, [.ref hF, .ref hW, .ref hM, .int 0, .int 1]))]) [0] rfl
  have hD9 := hD.sub (ws' := [(sH, .inr (3, [.ref hF, .ref hW, .ref hM, .int 0, .int 1]))]) [0] (by decide) rfl
  have hK9 := hK.sub (tys' := []) [] rfl
  refine W.widen (k := 0) (n := 0) (Nat.le_of_ble_eq_true rfl) (Nat.le_of_ble_eq_true rfl) ?_
  exact (W.zret (v := 1) hx hb hr (by decide) (fun t ht hW => ⟨⟨1, (), rfl, rfl, by rw [ht]; exact hP9, va_K.moved hW.alike hK9, hD9⟩, hS.F ht⟩) hS.2.2 dX3_makeMark_35)

set_option maxHeartbeats 4000000 in
set_option maxRecDepth 100000 in
/-- mark -/
theorem c_mark (l : Launch) (hl0 : l.stackTraces = false) (dC : Nat → ClassId) (dI : Nat → Nat → Nat) (h : Nat) (aT : Nat) (aV : Nat) (aS : Nat) (aC : Nat) (aO : Nat) (aF : Nat) (aL : Nat) (aR : Nat) (aX : Nat) (sT : Nat) (sK : Nat) (sH : Nat) (hF : Nat) (hW : Nat) (hM : Nat) (cM : ClassId) (sz : Nat)  : vx_Met l yX11_mark wsX11_mark ({ frames := 1, cells := 0, slots := 0, locals := 20 } : Room) (va_Pc [.ref h] (ct_P (dC, dI) [(h, .inr (11, [.ref aT, .ref aV, .ref aS, .ref aC, .ref aO, .ref aF, .ref aL, .ref aR, .ref aX, .int 0, .int 0, .int 0])), (aS, .inr (9, [.ref sT, .ref sK, .ref sH, .int 0, .int 0, .int 0, .int 0, .int 0])), (sH, .inr (3, [.ref hF, .ref hW, .ref hM, .int 0, .int 0])), (hM, .inl (cM, 8, .inl (fun _ => 0)))] [(cM, .int)] sz)) (va_Qi (fun (r : Int32) (u : Unit) => r = 1) (fun (u : Unit) => ct_B (dC, dI) (va_A [(h, .inr (11, [.ref aT, .ref aV, .ref aS, .ref aC, .ref aO, .ref aF, .ref aL, .ref aR, .ref aX, .int 0, .int 0, .int 0])), (aS, .inr (9, [.ref sT, .ref sK, .ref sH, .int 0, .int 0, .int 0, .int 0, .int 0])), (sH, .inr (3, [.ref hF, .ref hW, .ref hM, .int 0, .int 0])), (hM, .inl (cM, 8, .inl (fun _ => 0)))] sz) [] []) (va_A [(h, .inr (11, [.ref aT, .ref aV, .ref aS, .ref aC, .ref aO, .ref aF, .ref aL, .ref aR, .ref aX, .int 0, .int 0, .int 0])), (aS, .inr (9, [.ref sT, .ref sK, .ref sH, .int 0, .int 0, .int 0, .int 0, .int 0])), (sH, .inr (3, [.ref hF, .ref hW, .ref hM, .int 0, .int 0])), (hM, .inl (cM, 8, .inl (fun _ => 0)))] sz)) (tx_X (fun E => False) (va_A [(h, .inr (11, [.ref aT, .ref aV, .ref aS, .ref aC, .ref aO, .ref aF, .ref aL, .ref aR, .ref aX, .int 0, .int 0, .int 0])), (aS, .inr (9, [.ref sT, .ref sK, .ref sH, .int 0, .int 0, .int 0, .int 0, .int 0])), (sH, .inr (3, [.ref hF, .ref hW, .ref hM, .int 0, .int 0])), (hM, .inl (cM, 8, .inl (fun _ => 0)))] sz)) 0 0 (va_A [(h, .inr (11, [.ref aT, .ref aV, .ref aS, .ref aC, .ref aO, .ref aF, .ref aL, .ref aR, .ref aX, .int 0, .int 0, .int 0])), (aS, .inr (9, [.ref sT, .ref sK, .ref sH, .int 0, .int 0, .int 0, .int 0, .int 0])), (sH, .inr (3, [.ref hF, .ref hW, .ref hM, .int 0, .int 0])), (hM, .inl (cM, 8, .inl (fun _ => 0)))] sz) := by
  refine vx_ofW (cc := cX11_mark) (maxL := 1) (ret := (some .int)) (by decide) rfl ?_
  intro p e s m args below meth c s₁ B hml htab hv
  obtain ⟨rfl, hsz, hP, hK, hD0, hZ⟩ := hv
  have hx := B.exec
  have hb := B.bytes
  have hr := B.returns
  have hts := atoms_spec (ws := wsX11_mark) B.pre
  have hown : s.vm.findClass RX11 = some m.cls := findClass_of_methodNamed B.named
  have hlocks := B.notSynchronized
  have in3 : ∀ w ∈ u_ws RX3 TX3 5, w ∈ wsX11_mark := fun w h => (List.mem_cons_of_mem _ (List.mem_append_left _ (List.mem_append_right _ h)))
  have in9 : ∀ w ∈ u_ws RX9 TX9 8, w ∈ wsX11_mark := fun w h => (List.mem_cons_of_mem _ (List.mem_append_left _ (List.mem_append_left _ (List.mem_append_right _ h))))
  have in11 : ∀ w ∈ u_ws RX11 TX11 12, w ∈ wsX11_mark := fun w h => (List.mem_cons_of_mem _ (List.mem_append_left _ (List.mem_append_left _ (List.mem_append_left _ (List.mem_append_right _ h)))))
  subst hsz
  have hD := hD0.self (sz := s.heap.size)
  generalize hAe : va_A [(h, .inr (11, [.ref aT, .ref aV, .ref aS, .ref aC, .ref aO, .ref aF, .ref aL, .ref aR, .ref aX, .int 0, .int 0, .int 0])), (aS, .inr (9, [.ref sT, .ref sK, .ref sH, .int 0, .int 0, .int 0, .int 0, .int 0])), (sH, .inr (3, [.ref hF, .ref hW, .ref hM, .int 0, .int 0])), (hM, .inl (cM, 8, .inl (fun _ => 0)))] s.heap.size = A at hD hZ ⊢
  have hA : ∀ q : Nat, s.heap.size ≤ q → A q := fun q h => by rw [← hAe]; exact Or.inr h
  have hS : va_S A s.heap s.heap [] := va_S.rf
  have hP : va_P (dC, dI) vwCl [(h, .inr (11, [.ref aT, .ref aV, .ref aS, .ref aC, .ref aO, .ref aF, .ref aL, .ref aR, .ref aX, .int 0, .int 0, .int 0])), (aS, .inr (9, [.ref sT, .ref sK, .ref sH, .int 0, .int 0, .int 0, .int 0, .int 0])), (sH, .inr (3, [.ref hF, .ref hW, .ref hM, .int 0, .int 0])), (hM, .inl (cM, 8, .inl (fun _ => 0)))] s.heap := hP
  have hK : va_K (dC, dI) vwCl [(cM, .int)] s := hK
  have hD : va_D A [(h, .inr (11, [.ref aT, .ref aV, .ref aS, .ref aC, .ref aO, .ref aF, .ref aL, .ref aR, .ref aX, .int 0, .int 0, .int 0])), (aS, .inr (9, [.ref sT, .ref sK, .ref sH, .int 0, .int 0, .int 0, .int 0, .int 0])), (sH, .inr (3, [.ref hF, .ref hW, .ref hM, .int 0, .int 0])), (hM, .inl (cM, 8, .inl (fun _ => 0)))] := hD
  have hl := lv_entry ([.ref h]) (n := 1) (Nat.le_of_ble_eq_true rfl)
  rw [lg_entry_eq]
  generalize (lg_sl ([.ref h]) ++ List.replicate (1 - (lg_sl ([.ref h])).length) Slot.unset).toArray = ls at hl ⊢
  have hl : lv_has ls 1 [(0, .ref h)] := hl
  refine lv_aload_n hx hb dX11_mark_0 rfl (lv_at hl 0 rfl) ?_
  refine va_get (D := (dC, dI)) (ci := 11) (v := .ref aS) (C := RX11) (T := TX11) (N := 12) hx hb hts in11 hown hK hP 0 rfl rfl 2 (by decide) (hts (.fieldLink RX11 20 "FactKeeper" "store" "LFactKeeper$Store;") (by decide +kernel)) (fun _ h9 => h9) rfl dX11_mark_1 ?_
  refine va_get (D := (dC, dI)) (ci := 9) (v := .ref sH) (C := RX9) (T := TX9) (N := 8) hx hb hts in9 hown hK hP 1 rfl rfl 2 (by decide) (hts (.fieldLink RX11 207 "FactKeeper$Store" "history" "LFactKeeper$History;") (by decide +kernel)) (fun _ h9 => h9) rfl dX11_mark_4 ?_
  refine ct_i (wr := [(h, .inr (11, [.ref aT, .ref aV, .ref aS, .ref aC, .ref aO, .ref aF, .ref aL, .ref aR, .ref aX, .int 0, .int 0, .int 0])), (aS, .inr (9, [.ref sT, .ref sK, .ref sH, .int 0, .int 0, .int 0, .int 0, .int 0]))]) (tyr := []) (va_runV (As := []) (rest := []) ⟨hx, hb, hml, hown, hts⟩ (c_makeMark l hl0 dC dI sH hF hW hM cM s.heap.size ) (cwV 0 hts gX11_mark_X3_makeMark rfl rfl rfl (by decide +kernel) ⟨Nat.le_of_ble_eq_true rfl, Nat.le_of_ble_eq_true rfl⟩) (ct_preV (ci := 3) (q0 := 2) hP hD hK hS hA hZ rfl rfl [2, 3] [0] rfl (by decide) rfl) rfl rfl hl.1 rfl (lv_room (Nat.le_of_ble_eq_true rfl)) dX11_mark_7 ⟨Nat.le_of_ble_eq_true rfl, Nat.le_of_ble_eq_true rfl⟩) hP hD hK hS hA [2, 3] [0, 1] [] rfl rfl (by decide) (by decide) rfl (fun r_1 u H locs w_2 hP hD hK hS => ?_)
  try dsimp only at w_2
  have hP : va_P (dC, dI) vwCl [(h, .inr (11, [.ref aT, .ref aV, .ref aS, .ref aC, .ref aO, .ref aF, .ref aL, .ref aR, .ref aX, .int 0, .int 0, .int 0])), (aS, .inr (9, [.ref sT, .ref sK, .ref sH, .int 0, .int 0, .int 0, .int 0, .int 0])), (sH, .inr (3, [.ref hF, .ref hW, .ref hM, .int 0, .int 1]))] H := hP
  have hD : va_D A [(h, .inr (11, [.ref aT, .ref aV, .ref aS, .ref aC, .ref aO, .ref aF, .ref aL, .ref aR, .ref aX, .int 0, .int 0, .int 0])), (aS, .inr (9, [.ref sT, .ref sK, .ref sH, .int 0, .int 0, .int 0, .int 0, .int 0])), (sH, .inr (3, [.ref hF, .ref hW, .ref hM, .int 0, .int 1]))] := hD
  have hK : va_K (dC, dI) vwCl [] s := hK
  obtain rfl : r_1 = 1 := w_2
  refine lv_if_ne (tgt := 23) hx hb dX11_mark_10 (by decide) (fun _ => ?_) (fun c_3 => absurd c_3 (by decide))
  refine lv_aload_n hx hb dX11_mark_23 rfl (lv_at hl 0 rfl) ?_
  refine va_get (D := (dC, dI)) (ci := 11) (v := .ref aS) (C := RX11) (T := TX11) (N := 12) hx hb hts in11 hown hK hP 0 rfl rfl 2 (by decide) (hts (.fieldLink RX11 20 "FactKeeper" "store" "LFactKeeper$Store;") (by decide +kernel)) (fun _ h9 => h9) rfl dX11_mark_24 ?_
  refine va_get (D := (dC, dI)) (ci := 9) (v := .ref sH) (C := RX9) (T := TX9) (N := 8) hx hb hts in9 hown hK hP 1 rfl rfl 2 (by decide) (hts (.fieldLink RX11 207 "FactKeeper$Store" "history" "LFactKeeper$History;") (by decide +kernel)) (fun _ h9 => h9) rfl dX11_mark_27 ?_
  refine va_get (D := (dC, dI)) (ci := 3) (v := .int 1) (C := RX3) (T := TX3) (N := 5) hx hb hts in3 hown hK hP 2 rfl rfl 4 (by decide) (hts (.fieldLink RX11 219 "FactKeeper$History" "markCount" "I") (by decide +kernel)) (fun _ h9 => h9) rfl dX11_mark_30 ?_
  have hP9 := hP.sub (ws' := []) [] rfl
  have hD9 := hD.sub (ws' := []) [] (by decide) rfl
  have hK9 := hK.sub (tys' := []) [] rfl
  refine W.widen (k := 0) (n := 0) (Nat.le_of_ble_eq_true rfl) (Nat.le_of_ble_eq_true rfl) ?_
  exact vx_ret (W.iret (v := 1) hx hb hr (fun t ht hW => ⟨⟨1, (), rfl, rfl, by rw [ht]; exact hP9, va_K.moved hW.alike hK9, hD9⟩, hS.F ht⟩) hS.2.2 dX11_mark_33)

set_option maxHeartbeats 4000000 in
set_option maxRecDepth 100000 in
/-- back throws -/
theorem c_back (l : Launch) (hl0 : l.stackTraces = false) (dC : Nat → ClassId) (dI : Nat → Nat → Nat) (h : Nat) (aT : Nat) (aV : Nat) (aS : Nat) (aC : Nat) (aO : Nat) (aF : Nat) (aL : Nat) (aR : Nat) (aX : Nat) (sT : Nat) (sK : Nat) (sH : Nat) (hF : Nat) (hW : Nat) (hM : Nat) (b : Int32) (sz : Nat)  : vx_Met l yX11_back wsX11_back ({ frames := 6, cells := 1, slots := 6, locals := 90 } : Room) (va_Pc [.ref h, .int b] (ct_P (dC, dI) [(h, .inr (11, [.ref aT, .ref aV, .ref aS, .ref aC, .ref aO, .ref aF, .ref aL, .ref aR, .ref aX, .int 0, .int 0, .int 0])), (aS, .inr (9, [.ref sT, .ref sK, .ref sH, .int 0, .int 0, .int 0, .int 0, .int 0])), (sH, .inr (3, [.ref hF, .ref hW, .ref hM, .int 0, .int 0]))] [] sz)) (va_Qi (fun (r : Int32) (u : Unit) => False) (fun (u : Unit) => ct_B (dC, dI) (va_A [(h, .inr (11, [.ref aT, .ref aV, .ref aS, .ref aC, .ref aO, .ref aF, .ref aL, .ref aR, .ref aX, .int 0, .int 0, .int 0])), (aS, .inr (9, [.ref sT, .ref sK, .ref sH, .int 0, .int 0, .int 0, .int 0, .int 0])), (sH, .inr (3, [.ref hF, .ref hW, .ref hM, .int 0, .int 0]))] sz) [] []) (va_A [(h, .inr (11, [.ref aT, .ref aV, .ref aS, .ref aC, .ref aO, .ref aF, .ref aL, .ref aR, .ref aX, .int 0, .int 0, .int 0])), (aS, .inr (9, [.ref sT, .ref sK, .ref sH, .int 0, .int 0, .int 0, .int 0, .int 0])), (sH, .inr (3, [.ref hF, .ref hW, .ref hM, .int 0, .int 0]))] sz)) (tx_X (fun E => E = eIS) (va_A [(h, .inr (11, [.ref aT, .ref aV, .ref aS, .ref aC, .ref aO, .ref aF, .ref aL, .ref aR, .ref aX, .int 0, .int 0, .int 0])), (aS, .inr (9, [.ref sT, .ref sK, .ref sH, .int 0, .int 0, .int 0, .int 0, .int 0])), (sH, .inr (3, [.ref hF, .ref hW, .ref hM, .int 0, .int 0]))] sz)) 1 6 (va_A [(h, .inr (11, [.ref aT, .ref aV, .ref aS, .ref aC, .ref aO, .ref aF, .ref aL, .ref aR, .ref aX, .int 0, .int 0, .int 0])), (aS, .inr (9, [.ref sT, .ref sK, .ref sH, .int 0, .int 0, .int 0, .int 0, .int 0])), (sH, .inr (3, [.ref hF, .ref hW, .ref hM, .int 0, .int 0]))] sz) := by
  refine vx_ofW (cc := cX11_back) (maxL := 4) (ret := (some .int)) (by decide) rfl ?_
  intro p e s m args below meth c s₁ B hml htab hv
  obtain ⟨rfl, hsz, hP, hK, hD0, hZ⟩ := hv
  have hx := B.exec
  have hb := B.bytes
  have hr := B.returns
  have hts := atoms_spec (ws := wsX11_back) B.pre
  have hown : s.vm.findClass RX11 = some m.cls := findClass_of_methodNamed B.named
  have hlocks := B.notSynchronized
  have in3 : ∀ w ∈ u_ws RX3 TX3 5, w ∈ wsX11_back := fun w h => (List.mem_cons_of_mem _ (List.mem_append_left _ (List.mem_append_left _ (List.mem_append_left _ (List.mem_append_left _ (List.mem_append_left _ (List.mem_append_right _ h)))))))
  have in9 : ∀ w ∈ u_ws RX9 TX9 8, w ∈ wsX11_back := fun w h => (List.mem_cons_of_mem _ (List.mem_append_left _ (List.mem_append_left _ (List.mem_append_left _ (List.mem_append_left _ (List.mem_append_left _ (List.mem_append_left _ (List.mem_append_right _ h))))))))
  have in11 : ∀ w ∈ u_ws RX11 TX11 12, w ∈ wsX11_back := fun w h => (List.mem_cons_of_mem _ (List.mem_append_left _ (List.mem_append_left _ (List.mem_append_left _ (List.mem_append_left _ (List.mem_append_left _ (List.mem_append_left _ (List.mem_append_left _ (List.mem_append_right _ h)))))))))
  subst hsz
  have hD := hD0.self (sz := s.heap.size)
  generalize hAe : va_A [(h, .inr (11, [.ref aT, .ref aV, .ref aS, .ref aC, .ref aO, .ref aF, .ref aL, .ref aR, .ref aX, .int 0, .int 0, .int 0])), (aS, .inr (9, [.ref sT, .ref sK, .ref sH, .int 0, .int 0, .int 0, .int 0, .int 0])), (sH, .inr (3, [.ref hF, .ref hW, .ref hM, .int 0, .int 0]))] s.heap.size = A at hD hZ ⊢
  have hA : ∀ q : Nat, s.heap.size ≤ q → A q := fun q h => by rw [← hAe]; exact Or.inr h
  have hS : va_S A s.heap s.heap [] := va_S.rf
  have hP : va_P (dC, dI) vwCl [(h, .inr (11, [.ref aT, .ref aV, .ref aS, .ref aC, .ref aO, .ref aF, .ref aL, .ref aR, .ref aX, .int 0, .int 0, .int 0])), (aS, .inr (9, [.ref sT, .ref sK, .ref sH, .int 0, .int 0, .int 0, .int 0, .int 0])), (sH, .inr (3, [.ref hF, .ref hW, .ref hM, .int 0, .int 0]))] s.heap := hP
  have hK : va_K (dC, dI) vwCl [] s := hK
  have hD : va_D A [(h, .inr (11, [.ref aT, .ref aV, .ref aS, .ref aC, .ref aO, .ref aF, .ref aL, .ref aR, .ref aX, .int 0, .int 0, .int 0])), (aS, .inr (9, [.ref sT, .ref sK, .ref sH, .int 0, .int 0, .int 0, .int 0, .int 0])), (sH, .inr (3, [.ref hF, .ref hW, .ref hM, .int 0, .int 0]))] := hD
  have hl := lv_entry ([.ref h, .int b]) (n := 4) (Nat.le_of_ble_eq_true rfl)
  rw [lg_entry_eq]
  generalize (lg_sl ([.ref h, .int b]) ++ List.replicate (4 - (lg_sl ([.ref h, .int b])).length) Slot.unset).toArray = ls at hl ⊢
  have hl : lv_has ls 4 [(0, .ref h), (1, .int b)] := hl
  refine lv_aload_n hx hb dX11_back_0 rfl (lv_at hl 0 rfl) ?_
  refine va_get (D := (dC, dI)) (ci := 11) (v := .ref aS) (C := RX11) (T := TX11) (N := 12) hx hb hts in11 hown hK hP 0 rfl rfl 2 (by decide) (hts (.fieldLink RX11 20 "FactKeeper" "store" "LFactKeeper$Store;") (by decide +kernel)) (fun _ h9 => h9) rfl dX11_back_1 ?_
  refine va_get (D := (dC, dI)) (ci := 9) (v := .ref sH) (C := RX9) (T := TX9) (N := 8) hx hb hts in9 hown hK hP 1 rfl rfl 2 (by decide) (hts (.fieldLink RX11 207 "FactKeeper$Store" "history" "LFactKeeper$History;") (by decide +kernel)) (fun _ h9 => h9) rfl dX11_back_4 ?_
  refine va_get (D := (dC, dI)) (ci := 3) (v := .int 0) (C := RX3) (T := TX3) (N := 5) hx hb hts in3 hown hK hP 2 rfl rfl 4 (by decide) (hts (.fieldLink RX11 219 "FactKeeper$History" "markCount" "I") (by decide +kernel)) (fun _ h9 => h9) rfl dX11_back_7 ?_
  refine lv_if_ne (tgt := 23) hx hb dX11_back_10 (by decide) (fun c_1 => absurd c_1 (by decide)) (fun _ => ?_)
  obtain ⟨sa, hsa⟩ := hZ.2.2.2.2.2.2.1.2.2.2.2.1
  exact vx_throwS (cls := eIS) (names := eSup) (A := A) hx hb hl0 hown (by decide +kernel) (by decide +kernel) (hts (.classLink RX11 79 "java/lang/IllegalStateException") (by decide +kernel)) (hts (.initialized "java/lang/IllegalStateException") (by decide +kernel)) hsa (tx_at hts (fun w h => (List.mem_cons_of_mem _ (List.mem_append_right _ h))) (by decide +kernel) hZ.2.2.2.1.2.2.1 hZ.2.2.2.2.2.2.2) (by decide +kernel) hZ.1 hZ.2.1 hS (hl.1.trans hml.symm) dX11_back_13 dX11_back_16 dX11_back_17 dX11_back_19 dX11_back_22 (fun x h => (htab x h).elim) (Nat.le_of_ble_eq_true rfl) (Nat.le_of_ble_eq_true rfl) (Nat.le_of_ble_eq_true rfl) (Nat.le_of_ble_eq_true rfl) hlocks (fun t _ h1 h2 => tx_x rfl hS h1 h2) hS.2.2 (Nat.le_of_ble_eq_true rfl) (Nat.le_of_ble_eq_true rfl)

set_option maxHeartbeats 4000000 in
set_option maxRecDepth 100000 in
/-- openCursors -/
theorem c_openCursors (l : Launch) (hl0 : l.stackTraces = false) (dC : Nat → ClassId) (dI : Nat → Nat → Nat) (h : Nat) (aT : Nat) (aV : Nat) (aS : Nat) (aC : Nat) (aO : Nat) (aF : Nat) (aL : Nat) (aR : Nat) (aX : Nat) (cO : ClassId) (sz : Nat)  : Met l yX11_openCursors wsX11_openCursors ({ frames := 0, cells := 0, slots := 0, locals := 0 } : Room) (va_Pc [.ref h] (ct_P (dC, dI) [(h, .inr (11, [.ref aT, .ref aV, .ref aS, .ref aC, .ref aO, .ref aF, .ref aL, .ref aR, .ref aX, .int 0, .int 0, .int 0])), (aO, .inl (cO, 10, .inl (fun _ => 0)))] [(cO, .boolean)] sz)) (va_Qi (fun (r : Int32) (u : Unit) => r = 0) (fun (u : Unit) => ct_B (dC, dI) (va_A [(h, .inr (11, [.ref aT, .ref aV, .ref aS, .ref aC, .ref aO, .ref aF, .ref aL, .ref aR, .ref aX, .int 0, .int 0, .int 0])), (aO, .inl (cO, 10, .inl (fun _ => 0)))] sz) [(h, .inr (11, [.ref aT, .ref aV, .ref aS, .ref aC, .ref aO, .ref aF, .ref aL, .ref aR, .ref aX, .int 0, .int 0, .int 0])), (aO, .inl (cO, 10, .inl (fun _ => 0)))] [(cO, .boolean)]) (va_A [(h, .inr (11, [.ref aT, .ref aV, .ref aS, .ref aC, .ref aO, .ref aF, .ref aL, .ref aR, .ref aX, .int 0, .int 0, .int 0])), (aO, .inl (cO, 10, .inl (fun _ => 0)))] sz)) 0 0 (va_A [(h, .inr (11, [.ref aT, .ref aV, .ref aS, .ref aC, .ref aO, .ref aF, .ref aL, .ref aR, .ref aX, .int 0, .int 0, .int 0])), (aO, .inl (cO, 10, .inl (fun _ => 0)))] sz) := by
  refine Met.ofW (cc := cX11_openCursors) (maxL := 3) (ret := (some .int)) (by decide) rfl ?_
  intro p e s m args below meth c s₁ B hml hv
  obtain ⟨rfl, hsz, hP, hK, hD0, hZ⟩ := hv
  have hx := B.exec
  have hb := B.bytes
  have hr := B.returns
  have hts := atoms_spec (ws := wsX11_openCursors) B.pre
  have hown : s.vm.findClass RX11 = some m.cls := findClass_of_methodNamed B.named
  have hlocks := B.notSynchronized
  have in11 : ∀ w ∈ u_ws RX11 TX11 12, w ∈ wsX11_openCursors := fun w h => (List.mem_cons_of_mem _ (List.mem_append_right _ h))
  subst hsz
  have hD := hD0.self (sz := s.heap.size)
  generalize hAe : va_A [(h, .inr (11, [.ref aT, .ref aV, .ref aS, .ref aC, .ref aO, .ref aF, .ref aL, .ref aR, .ref aX, .int 0, .int 0, .int 0])), (aO, .inl (cO, 10, .inl (fun _ => 0)))] s.heap.size = A at hD hZ ⊢
  have hA : ∀ q : Nat, s.heap.size ≤ q → A q := fun q h => by rw [← hAe]; exact Or.inr h
  have hS : va_S A s.heap s.heap [] := va_S.rf
  have hP : va_P (dC, dI) vwCl [(h, .inr (11, [.ref aT, .ref aV, .ref aS, .ref aC, .ref aO, .ref aF, .ref aL, .ref aR, .ref aX, .int 0, .int 0, .int 0])), (aO, .inl (cO, 10, .inl (fun _ => 0)))] s.heap := hP
  have hK : va_K (dC, dI) vwCl [(cO, .boolean)] s := hK
  have hD : va_D A [(h, .inr (11, [.ref aT, .ref aV, .ref aS, .ref aC, .ref aO, .ref aF, .ref aL, .ref aR, .ref aX, .int 0, .int 0, .int 0])), (aO, .inl (cO, 10, .inl (fun _ => 0)))] := hD
  have hl := lv_entry ([.ref h]) (n := 3) (Nat.le_of_ble_eq_true rfl)
  rw [lg_entry_eq]
  generalize (lg_sl ([.ref h]) ++ List.replicate (3 - (lg_sl ([.ref h])).length) Slot.unset).toArray = ls at hl ⊢
  have hl : lv_has ls 3 [(0, .ref h)] := hl
  refine lv_iconst (v := 0) hx hb dX11_openCursors_0 (by decide) ?_
  refine lv_istore_n (lv' := [(1, .int 0), (0, .ref h)]) hx hb dX11_openCursors_1 rfl hl (by decide) rfl (fun ls hl => ?_)
  refine lv_iconst (v := 0) hx hb dX11_openCursors_2 (by decide) ?_
  refine lv_istore_n (lv' := [(2, .int 0), (1, .int 0), (0, .ref h)]) hx hb dX11_openCursors_3 rfl hl (by decide) rfl (fun ls hl => ?_)
  refine lv_iload_n hx hb dX11_openCursors_4 rfl (lv_at hl 0 rfl) ?_
  refine lv_bipush (v := 10) hx hb dX11_openCursors_5 (by decide) ?_
  refine lv_icmp_ge (tgt := 28) hx hb dX11_openCursors_7 (by decide) (fun c_1 => absurd c_1 (by decide)) (fun _ => ?_)
  refine lv_aload_n hx hb dX11_openCursors_10 rfl (lv_at hl 2 rfl) ?_
  refine va_get (D := (dC, dI)) (ci := 11) (v := .ref aO) (C := RX11) (T := TX11) (N := 12) hx hb hts in11 hown hK hP 0 rfl rfl 4 (by decide) (hts (.fieldLink RX11 30 "FactKeeper" "isOpen" "[Z") (by decide +kernel)) (fun _ h9 => h9) rfl dX11_openCursors_11 ?_
  refine lv_iload_n hx hb dX11_openCursors_14 rfl (lv_at hl 0 rfl) ?_
  refine va_zald hx hb hK hP 1 0 rfl rfl (by unfold vp_in; decide) dX11_openCursors_15 ?_
  refine lv_topi (fun z_2 ez_2 => ?_)
  obtain rfl : z_2 = 0 := ez_2
  refine lv_if_eq (tgt := 22) hx hb dX11_openCursors_16 (by decide) (fun _ => ?_) (fun c_3 => absurd c_3 (by decide))
  refine lv_iinc (v := 1) (lv' := [(2, .int 1), (1, .int 0), (0, .ref h)]) hx hb dX11_openCursors_22 hl (k := 0) rfl (by decide) (by decide) rfl (fun ls hl => ?_)
  refine lv_goto (tgt := 4) hx hb dX11_openCursors_25 (by decide) ?_
  refine lv_iload_n hx hb dX11_openCursors_4 rfl (lv_at hl 0 rfl) ?_
  refine lv_bipush (v := 10) hx hb dX11_openCursors_5 (by decide) ?_
  refine lv_icmp_ge (tgt := 28) hx hb dX11_openCursors_7 (by decide) (fun c_4 => absurd c_4 (by decide)) (fun _ => ?_)
  refine lv_aload_n hx hb dX11_openCursors_10 rfl (lv_at hl 2 rfl) ?_
  refine va_get (D := (dC, dI)) (ci := 11) (v := .ref aO) (C := RX11) (T := TX11) (N := 12) hx hb hts in11 hown hK hP 0 rfl rfl 4 (by decide) (hts (.fieldLink RX11 30 "FactKeeper" "isOpen" "[Z") (by decide +kernel)) (fun _ h9 => h9) rfl dX11_openCursors_11 ?_
  refine lv_iload_n hx hb dX11_openCursors_14 rfl (lv_at hl 0 rfl) ?_
  refine va_zald hx hb hK hP 1 0 rfl rfl (by unfold vp_in; decide) dX11_openCursors_15 ?_
  refine lv_topi (fun z_5 ez_5 => ?_)
  obtain rfl : z_5 = 0 := ez_5
  refine lv_if_eq (tgt := 22) hx hb dX11_openCursors_16 (by decide) (fun _ => ?_) (fun c_6 => absurd c_6 (by decide))
  refine lv_iinc (v := 2) (lv' := [(2, .int 2), (1, .int 0), (0, .ref h)]) hx hb dX11_openCursors_22 hl (k := 0) rfl (by decide) (by decide) rfl (fun ls hl => ?_)
  refine lv_goto (tgt := 4) hx hb dX11_openCursors_25 (by decide) ?_
  refine lv_iload_n hx hb dX11_openCursors_4 rfl (lv_at hl 0 rfl) ?_
  refine lv_bipush (v := 10) hx hb dX11_openCursors_5 (by decide) ?_
  refine lv_icmp_ge (tgt := 28) hx hb dX11_openCursors_7 (by decide) (fun c_7 => absurd c_7 (by decide)) (fun _ => ?_)
  refine lv_aload_n hx hb dX11_openCursors_10 rfl (lv_at hl 2 rfl) ?_
  refine va_get (D := (dC, dI)) (ci := 11) (v := .ref aO) (C := RX11) (T := TX11) (N := 12) hx hb hts in11 hown hK hP 0 rfl rfl 4 (by decide) (hts (.fieldLink RX11 30 "FactKeeper" "isOpen" "[Z") (by decide +kernel)) (fun _ h9 => h9) rfl dX11_openCursors_11 ?_
  refine lv_iload_n hx hb dX11_openCursors_14 rfl (lv_at hl 0 rfl) ?_
  refine va_zald hx hb hK hP 1 0 rfl rfl (by unfold vp_in; decide) dX11_openCursors_15 ?_
  refine lv_topi (fun z_8 ez_8 => ?_)
  obtain rfl : z_8 = 0 := ez_8
  refine lv_if_eq (tgt := 22) hx hb dX11_openCursors_16 (by decide) (fun _ => ?_) (fun c_9 => absurd c_9 (by decide))
  refine lv_iinc (v := 3) (lv' := [(2, .int 3), (1, .int 0), (0, .ref h)]) hx hb dX11_openCursors_22 hl (k := 0) rfl (by decide) (by decide) rfl (fun ls hl => ?_)
  refine lv_goto (tgt := 4) hx hb dX11_openCursors_25 (by decide) ?_
  refine lv_iload_n hx hb dX11_openCursors_4 rfl (lv_at hl 0 rfl) ?_
  refine lv_bipush (v := 10) hx hb dX11_openCursors_5 (by decide) ?_
  refine lv_icmp_ge (tgt := 28) hx hb dX11_openCursors_7 (by decide) (fun c_10 => absurd c_10 (by decide)) (fun _ => ?_)
  refine lv_aload_n hx hb dX11_openCursors_10 rfl (lv_at hl 2 rfl) ?_
  refine va_get (D := (dC, dI)) (ci := 11) (v := .ref aO) (C := RX11) (T := TX11) (N := 12) hx hb hts in11 hown hK hP 0 rfl rfl 4 (by decide) (hts (.fieldLink RX11 30 "FactKeeper" "isOpen" "[Z") (by decide +kernel)) (fun _ h9 => h9) rfl dX11_openCursors_11 ?_
  refine lv_iload_n hx hb dX11_openCursors_14 rfl (lv_at hl 0 rfl) ?_
  refine va_zald hx hb hK hP 1 0 rfl rfl (by unfold vp_in; decide) dX11_openCursors_15 ?_
  refine lv_topi (fun z_11 ez_11 => ?_)
  obtain rfl : z_11 = 0 := ez_11
  refine lv_if_eq (tgt := 22) hx hb dX11_openCursors_16 (by decide) (fun _ => ?_) (fun c_12 => absurd c_12 (by decide))
  refine lv_iinc (v := 4) (lv' := [(2, .int 4), (1, .int 0), (0, .ref h)]) hx hb dX11_openCursors_22 hl (k := 0) rfl (by decide) (by decide) rfl (fun ls hl => ?_)
  refine lv_goto (tgt := 4) hx hb dX11_openCursors_25 (by decide) ?_
  refine lv_iload_n hx hb dX11_openCursors_4 rfl (lv_at hl 0 rfl) ?_
  refine lv_bipush (v := 10) hx hb dX11_openCursors_5 (by decide) ?_
  refine lv_icmp_ge (tgt := 28) hx hb dX11_openCursors_7 (by decide) (fun c_13 => absurd c_13 (by decide)) (fun _ => ?_)
  refine lv_aload_n hx hb dX11_openCursors_10 rfl (lv_at hl 2 rfl) ?_
  refine va_get (D := (dC, dI)) (ci := 11) (v := .ref aO) (C := RX11) (T := TX11) (N := 12) hx hb hts in11 hown hK hP 0 rfl rfl 4 (by decide) (hts (.fieldLink RX11 30 "FactKeeper" "isOpen" "[Z") (by decide +kernel)) (fun _ h9 => h9) rfl dX11_openCursors_11 ?_
  refine lv_iload_n hx hb dX11_openCursors_14 rfl (lv_at hl 0 rfl) ?_
  refine va_zald hx hb hK hP 1 0 rfl rfl (by unfold vp_in; decide) dX11_openCursors_15 ?_
  refine lv_topi (fun z_14 ez_14 => ?_)
  obtain rfl : z_14 = 0 := ez_14
  refine lv_if_eq (tgt := 22) hx hb dX11_openCursors_16 (by decide) (fun _ => ?_) (fun c_15 => absurd c_15 (by decide))
  refine lv_iinc (v := 5) (lv' := [(2, .int 5), (1, .int 0), (0, .ref h)]) hx hb dX11_openCursors_22 hl (k := 0) rfl (by decide) (by decide) rfl (fun ls hl => ?_)
  refine lv_goto (tgt := 4) hx hb dX11_openCursors_25 (by decide) ?_
  refine lv_iload_n hx hb dX11_openCursors_4 rfl (lv_at hl 0 rfl) ?_
  refine lv_bipush (v := 10) hx hb dX11_openCursors_5 (by decide) ?_
  refine lv_icmp_ge (tgt := 28) hx hb dX11_openCursors_7 (by decide) (fun c_16 => absurd c_16 (by decide)) (fun _ => ?_)
  refine lv_aload_n hx hb dX11_openCursors_10 rfl (lv_at hl 2 rfl) ?_
  refine va_get (D := (dC, dI)) (ci := 11) (v := .ref aO) (C := RX11) (T := TX11) (N := 12) hx hb hts in11 hown hK hP 0 rfl rfl 4 (by decide) (hts (.fieldLink RX11 30 "FactKeeper" "isOpen" "[Z") (by decide +kernel)) (fun _ h9 => h9) rfl dX11_openCursors_11 ?_
  refine lv_iload_n hx hb dX11_openCursors_14 rfl (lv_at hl 0 rfl) ?_
  refine va_zald hx hb hK hP 1 0 rfl rfl (by unfold vp_in; decide) dX11_openCursors_15 ?_
  refine lv_topi (fun z_17 ez_17 => ?_)
  obtain rfl : z_17 = 0 := ez_17
  refine lv_if_eq (tgt := 22) hx hb dX11_openCursors_16 (by decide) (fun _ => ?_) (fun c_18 => absurd c_18 (by decide))
  refine lv_iinc (v := 6) (lv' := [(2, .int 6), (1, .int 0), (0, .ref h)]) hx hb dX11_openCursors_22 hl (k := 0) rfl (by decide) (by decide) rfl (fun ls hl => ?_)
  refine lv_goto (tgt := 4) hx hb dX11_openCursors_25 (by decide) ?_
  refine lv_iload_n hx hb dX11_openCursors_4 rfl (lv_at hl 0 rfl) ?_
  refine lv_bipush (v := 10) hx hb dX11_openCursors_5 (by decide) ?_
  refine lv_icmp_ge (tgt := 28) hx hb dX11_openCursors_7 (by decide) (fun c_19 => absurd c_19 (by decide)) (fun _ => ?_)
  refine lv_aload_n hx hb dX11_openCursors_10 rfl (lv_at hl 2 rfl) ?_
  refine va_get (D := (dC, dI)) (ci := 11) (v := .ref aO) (C := RX11) (T := TX11) (N := 12) hx hb hts in11 hown hK hP 0 rfl rfl 4 (by decide) (hts (.fieldLink RX11 30 "FactKeeper" "isOpen" "[Z") (by decide +kernel)) (fun _ h9 => h9) rfl dX11_openCursors_11 ?_
  refine lv_iload_n hx hb dX11_openCursors_14 rfl (lv_at hl 0 rfl) ?_
  refine va_zald hx hb hK hP 1 0 rfl rfl (by unfold vp_in; decide) dX11_openCursors_15 ?_
  refine lv_topi (fun z_20 ez_20 => ?_)
  obtain rfl : z_20 = 0 := ez_20
  refine lv_if_eq (tgt := 22) hx hb dX11_openCursors_16 (by decide) (fun _ => ?_) (fun c_21 => absurd c_21 (by decide))
  refine lv_iinc (v := 7) (lv' := [(2, .int 7), (1, .int 0), (0, .ref h)]) hx hb dX11_openCursors_22 hl (k := 0) rfl (by decide) (by decide) rfl (fun ls hl => ?_)
  refine lv_goto (tgt := 4) hx hb dX11_openCursors_25 (by decide) ?_
  refine lv_iload_n hx hb dX11_openCursors_4 rfl (lv_at hl 0 rfl) ?_
  refine lv_bipush (v := 10) hx hb dX11_openCursors_5 (by decide) ?_
  refine lv_icmp_ge (tgt := 28) hx hb dX11_openCursors_7 (by decide) (fun c_22 => absurd c_22 (by decide)) (fun _ => ?_)
  refine lv_aload_n hx hb dX11_openCursors_10 rfl (lv_at hl 2 rfl) ?_
  refine va_get (D := (dC, dI)) (ci := 11) (v := .ref aO) (C := RX11) (T := TX11) (N := 12) hx hb hts in11 hown hK hP 0 rfl rfl 4 (by decide) (hts (.fieldLink RX11 30 "FactKeeper" "isOpen" "[Z") (by decide +kernel)) (fun _ h9 => h9) rfl dX11_openCursors_11 ?_
  refine lv_iload_n hx hb dX11_openCursors_14 rfl (lv_at hl 0 rfl) ?_
  refine va_zald hx hb hK hP 1 0 rfl rfl (by unfold vp_in; decide) dX11_openCursors_15 ?_
  refine lv_topi (fun z_23 ez_23 => ?_)
  obtain rfl : z_23 = 0 := ez_23
  refine lv_if_eq (tgt := 22) hx hb dX11_openCursors_16 (by decide) (fun _ => ?_) (fun c_24 => absurd c_24 (by decide))
  refine lv_iinc (v := 8) (lv' := [(2, .int 8), (1, .int 0), (0, .ref h)]) hx hb dX11_openCursors_22 hl (k := 0) rfl (by decide) (by decide) rfl (fun ls hl => ?_)
  refine lv_goto (tgt := 4) hx hb dX11_openCursors_25 (by decide) ?_
  refine lv_iload_n hx hb dX11_openCursors_4 rfl (lv_at hl 0 rfl) ?_
  refine lv_bipush (v := 10) hx hb dX11_openCursors_5 (by decide) ?_
  refine lv_icmp_ge (tgt := 28) hx hb dX11_openCursors_7 (by decide) (fun c_25 => absurd c_25 (by decide)) (fun _ => ?_)
  refine lv_aload_n hx hb dX11_openCursors_10 rfl (lv_at hl 2 rfl) ?_
  refine va_get (D := (dC, dI)) (ci := 11) (v := .ref aO) (C := RX11) (T := TX11) (N := 12) hx hb hts in11 hown hK hP 0 rfl rfl 4 (by decide) (hts (.fieldLink RX11 30 "FactKeeper" "isOpen" "[Z") (by decide +kernel)) (fun _ h9 => h9) rfl dX11_openCursors_11 ?_
  refine lv_iload_n hx hb dX11_openCursors_14 rfl (lv_at hl 0 rfl) ?_
  refine va_zald hx hb hK hP 1 0 rfl rfl (by unfold vp_in; decide) dX11_openCursors_15 ?_
  refine lv_topi (fun z_26 ez_26 => ?_)
  obtain rfl : z_26 = 0 := ez_26
  refine lv_if_eq (tgt := 22) hx hb dX11_openCursors_16 (by decide) (fun _ => ?_) (fun c_27 => absurd c_27 (by decide))
  refine lv_iinc (v := 9) (lv' := [(2, .int 9), (1, .int 0), (0, .ref h)]) hx hb dX11_openCursors_22 hl (k := 0) rfl (by decide) (by decide) rfl (fun ls hl => ?_)
  refine lv_goto (tgt := 4) hx hb dX11_openCursors_25 (by decide) ?_
  refine lv_iload_n hx hb dX11_openCursors_4 rfl (lv_at hl 0 rfl) ?_
  refine lv_bipush (v := 10) hx hb dX11_openCursors_5 (by decide) ?_
  refine lv_icmp_ge (tgt := 28) hx hb dX11_openCursors_7 (by decide) (fun c_28 => absurd c_28 (by decide)) (fun _ => ?_)
  refine lv_aload_n hx hb dX11_openCursors_10 rfl (lv_at hl 2 rfl) ?_
  refine va_get (D := (dC, dI)) (ci := 11) (v := .ref aO) (C := RX11) (T := TX11) (N := 12) hx hb hts in11 hown hK hP 0 rfl rfl 4 (by decide) (hts (.fieldLink RX11 30 "FactKeeper" "isOpen" "[Z") (by decide +kernel)) (fun _ h9 => h9) rfl dX11_openCursors_11 ?_
  refine lv_iload_n hx hb dX11_openCursors_14 rfl (lv_at hl 0 rfl) ?_
  refine va_zald hx hb hK hP 1 0 rfl rfl (by unfold vp_in; decide) dX11_openCursors_15 ?_
  refine lv_topi (fun z_29 ez_29 => ?_)
  obtain rfl : z_29 = 0 := ez_29
  refine lv_if_eq (tgt := 22) hx hb dX11_openCursors_16 (by decide) (fun _ => ?_) (fun c_30 => absurd c_30 (by decide))
  refine lv_iinc (v := 10) (lv' := [(2, .int 10), (1, .int 0), (0, .ref h)]) hx hb dX11_openCursors_22 hl (k := 0) rfl (by decide) (by decide) rfl (fun ls hl => ?_)
  refine lv_goto (tgt := 4) hx hb dX11_openCursors_25 (by decide) ?_
  refine lv_iload_n hx hb dX11_openCursors_4 rfl (lv_at hl 0 rfl) ?_
  refine lv_bipush (v := 10) hx hb dX11_openCursors_5 (by decide) ?_
  refine lv_icmp_ge (tgt := 28) hx hb dX11_openCursors_7 (by decide) (fun _ => ?_) (fun c_31 => absurd c_31 (by decide))
  refine lv_iload_n hx hb dX11_openCursors_28 rfl (lv_at hl 1 rfl) ?_
  have hP9 := hP.sub (ws' := [(h, .inr (11, [.ref aT, .ref aV, .ref aS, .ref aC, .ref aO, .ref aF, .ref aL, .ref aR, .ref aX, .int 0, .int 0, .int 0])), (aO, .inl (cO, 10, .inl (fun _ => 0)))]) [0, 1] rfl
  have hD9 := hD.sub (ws' := [(h, .inr (11, [.ref aT, .ref aV, .ref aS, .ref aC, .ref aO, .ref aF, .ref aL, .ref aR, .ref aX, .int 0, .int 0, .int 0])), (aO, .inl (cO, 10, .inl (fun _ => 0)))]) [0, 1] (by decide) rfl
  have hK9 := hK.sub (tys' := [(cO, .boolean)]) [0] rfl
  refine W.widen (k := 0) (n := 0) (Nat.le_of_ble_eq_true rfl) (Nat.le_of_ble_eq_true rfl) ?_
  exact (W.iret (v := 0) hx hb hr (fun t ht hW => ⟨⟨0, (), rfl, rfl, by rw [ht]; exact hP9, va_K.moved hW.alike hK9, hD9⟩, hS.F ht⟩) hS.2.2 dX11_openCursors_29)

set_option maxHeartbeats 4000000 in
set_option maxRecDepth 100000 in
/-- timeOf -/
theorem c_timeOf (l : Launch) (hl0 : l.stackTraces = false) (dC : Nat → ClassId) (dI : Nat → Nat → Nat) (aS : Nat) (sT : Nat) (sK : Nat) (sH : Nat) (tm : Int32) (sz : Nat) (hb0 : ¬ sp_bt tm) : Met l yX9_timeOf wsX9_timeOf ({ frames := 0, cells := 0, slots := 0, locals := 0 } : Room) (va_Pc [.ref aS, .int tm] (ct_P (dC, dI) [(aS, .inr (9, [.ref sT, .ref sK, .ref sH, .int 0, .int 0, .int 0, .int 0, .int 0]))] [] sz)) (va_Qi (fun (r : Int32) (u : Unit) => r = 0) (fun (u : Unit) => ct_B (dC, dI) (va_A [(aS, .inr (9, [.ref sT, .ref sK, .ref sH, .int 0, .int 0, .int 0, .int 0, .int 0]))] sz) [(aS, .inr (9, [.ref sT, .ref sK, .ref sH, .int 0, .int 0, .int 0, .int 0, .int 0]))] []) (va_A [(aS, .inr (9, [.ref sT, .ref sK, .ref sH, .int 0, .int 0, .int 0, .int 0, .int 0]))] sz)) 0 0 (va_A [(aS, .inr (9, [.ref sT, .ref sK, .ref sH, .int 0, .int 0, .int 0, .int 0, .int 0]))] sz) := by
  refine Met.ofW (cc := cX9_timeOf) (maxL := 2) (ret := (some .int)) (by decide) rfl ?_
  intro p e s m args below meth c s₁ B hml hv
  obtain ⟨rfl, hsz, hP, hK, hD0, hZ⟩ := hv
  have hx := B.exec
  have hb := B.bytes
  have hr := B.returns
  have hts := atoms_spec (ws := wsX9_timeOf) B.pre
  have hown : s.vm.findClass RX9 = some m.cls := findClass_of_methodNamed B.named
  have hlocks := B.notSynchronized
  have in9 : ∀ w ∈ u_ws RX9 TX9 8, w ∈ wsX9_timeOf := fun w h => (List.mem_cons_of_mem _ (List.mem_append_right _ h))
  subst hsz
  have hD := hD0.self (sz := s.heap.size)
  generalize hAe : va_A [(aS, .inr (9, [.ref sT, .ref sK, .ref sH, .int 0, .int 0, .int 0, .int 0, .int 0]))] s.heap.size = A at hD hZ ⊢
  have hA : ∀ q : Nat, s.heap.size ≤ q → A q := fun q h => by rw [← hAe]; exact Or.inr h
  have hS : va_S A s.heap s.heap [] := va_S.rf
  have hP : va_P (dC, dI) vwCl [(aS, .inr (9, [.ref sT, .ref sK, .ref sH, .int 0, .int 0, .int 0, .int 0, .int 0]))] s.heap := hP
  have hK : va_K (dC, dI) vwCl [] s := hK
  have hD : va_D A [(aS, .inr (9, [.ref sT, .ref sK, .ref sH, .int 0, .int 0, .int 0, .int 0, .int 0]))] := hD
  have hl := lv_entry ([.ref aS, .int tm]) (n := 2) (Nat.le_of_ble_eq_true rfl)
  rw [lg_entry_eq]
  generalize (lg_sl ([.ref aS, .int tm]) ++ List.replicate (2 - (lg_sl ([.ref aS, .int tm])).length) Slot.unset).toArray = ls at hl ⊢
  have hl : lv_has ls 2 [(0, .ref aS), (1, .int tm)] := hl
  refine lv_iload_n hx hb dX9_timeOf_0 rfl (lv_at hl 1 rfl) ?_
  refine lv_iconst (v := (-1)) hx hb dX9_timeOf_1 (by decide) ?_
  refine lv_icmp_ne (tgt := 12) hx hb dX9_timeOf_2 (by decide) (fun c_1 => ?_) (fun c_1 => ?_)
  · skip
    refine lv_iload_n hx hb dX9_timeOf_12 rfl (lv_at hl 1 rfl) ?_
    have hP9 := hP.sub (ws' := [(aS, .inr (9, [.ref sT, .ref sK, .ref sH, .int 0, .int 0, .int 0, .int 0, .int 0]))]) [0] rfl
    have hD9 := hD.sub (ws' := [(aS, .inr (9, [.ref sT, .ref sK, .ref sH, .int 0, .int 0, .int 0, .int 0, .int 0]))]) [0] (by decide) rfl
    have hK9 := hK.sub (tys' := []) [] rfl
    refine W.widen (k := 0) (n := 0) (Nat.le_of_ble_eq_true rfl) (Nat.le_of_ble_eq_true rfl) ?_
    exact (W.iret (v := tm) hx hb hr (fun t ht hW => ⟨⟨tm, (), rfl, sp_bt0 hb0 c_1, by rw [ht]; exact hP9, va_K.moved hW.alike hK9, hD9⟩, hS.F ht⟩) hS.2.2 dX9_timeOf_13)
  · skip
    refine lv_aload_n hx hb dX9_timeOf_5 rfl (lv_at hl 0 rfl) ?_
    refine va_get (D := (dC, dI)) (ci := 9) (v := .int 0) (C := RX9) (T := TX9) (N := 8) hx hb hts in9 hown hK hP 0 rfl rfl 6 (by decide) (hts (.fieldLink RX9 37 "FactKeeper$Store" "time" "I") (by decide +kernel)) (fun _ h9 => h9) rfl dX9_timeOf_6 ?_
    refine lv_goto (tgt := 13) hx hb dX9_timeOf_9 (by decide) ?_
    have hP9 := hP.sub (ws' := [(aS, .inr (9, [.ref sT, .ref sK, .ref sH, .int 0, .int 0, .int 0, .int 0, .int 0]))]) [0] rfl
    have hD9 := hD.sub (ws' := [(aS, .inr (9, [.ref sT, .ref sK, .ref sH, .int 0, .int 0, .int 0, .int 0, .int 0]))]) [0] (by decide) rfl
    have hK9 := hK.sub (tys' := []) [] rfl
    refine W.widen (k := 0) (n := 0) (Nat.le_of_ble_eq_true rfl) (Nat.le_of_ble_eq_true rfl) ?_
    exact (W.iret (v := 0) hx hb hr (fun t ht hW => ⟨⟨0, (), rfl, rfl, by rw [ht]; exact hP9, va_K.moved hW.alike hK9, hD9⟩, hS.F ht⟩) hS.2.2 dX9_timeOf_13)

set_option maxHeartbeats 4000000 in
set_option maxRecDepth 100000 in
/-- forgetDead -/
theorem c_forgetDead (l : Launch) (hl0 : l.stackTraces = false) (dC : Nat → ClassId) (dI : Nat → Nat → Nat) (aS : Nat) (sT : Nat) (sK : Nat) (sH : Nat) (sz : Nat)  : Met l yX9_forgetDead wsX9_forgetDead ({ frames := 1, cells := 0, slots := 0, locals := 24 } : Room) (va_Pc [.ref aS, .int 0] (ct_P (dC, dI) [(aS, .inr (9, [.ref sT, .ref sK, .ref sH, .int 0, .int 0, .int 0, .int 0, .int 0]))] [] sz)) (va_Qi (fun (r : Int32) (u : Unit) => r = 0) (fun (u : Unit) => ct_B (dC, dI) (va_A [(aS, .inr (9, [.ref sT, .ref sK, .ref sH, .int 0, .int 0, .int 0, .int 0, .int 0]))] sz) [(aS, .inr (9, [.ref sT, .ref sK, .ref sH, .int 0, .int 0, .int 0, .int 0, .int 0]))] []) (va_A [(aS, .inr (9, [.ref sT, .ref sK, .ref sH, .int 0, .int 0, .int 0, .int 0, .int 0]))] sz)) 0 0 (va_A [(aS, .inr (9, [.ref sT, .ref sK, .ref sH, .int 0, .int 0, .int 0, .int 0, .int 0]))] sz) := by
  refine Met.ofW (cc := cX9_forgetDead) (maxL := 5) (ret := (some .int)) (by decide) rfl ?_
  intro p e s m args below meth c s₁ B hml hv
  obtain ⟨rfl, hsz, hP, hK, hD0, hZ⟩ := hv
  have hx := B.exec
  have hb := B.bytes
  have hr := B.returns
  have hts := atoms_spec (ws := wsX9_forgetDead) B.pre
  have hown : s.vm.findClass RX9 = some m.cls := findClass_of_methodNamed B.named
  have hlocks := B.notSynchronized
  have in9 : ∀ w ∈ u_ws RX9 TX9 8, w ∈ wsX9_forgetDead := fun w h => (List.mem_cons_of_mem _ (List.mem_append_left _ (List.mem_append_left _ (List.mem_append_left _ (List.mem_append_left _ (List.mem_append_right _ h))))))
  subst hsz
  have hD := hD0.self (sz := s.heap.size)
  generalize hAe : va_A [(aS, .inr (9, [.ref sT, .ref sK, .ref sH, .int 0, .int 0, .int 0, .int 0, .int 0]))] s.heap.size = A at hD hZ ⊢
  have hA : ∀ q : Nat, s.heap.size ≤ q → A q := fun q h => by rw [← hAe]; exact Or.inr h
  have hS : va_S A s.heap s.heap [] := va_S.rf
  have hP : va_P (dC, dI) vwCl [(aS, .inr (9, [.ref sT, .ref sK, .ref sH, .int 0, .int 0, .int 0, .int 0, .int 0]))] s.heap := hP
  have hK : va_K (dC, dI) vwCl [] s := hK
  have hD : va_D A [(aS, .inr (9, [.ref sT, .ref sK, .ref sH, .int 0, .int 0, .int 0, .int 0, .int 0]))] := hD
  have hl := lv_entry ([.ref aS, .int 0]) (n := 5) (Nat.le_of_ble_eq_true rfl)
  rw [lg_entry_eq]
  generalize (lg_sl ([.ref aS, .int 0]) ++ List.replicate (5 - (lg_sl ([.ref aS, .int 0])).length) Slot.unset).toArray = ls at hl ⊢
  have hl : lv_has ls 5 [(0, .ref aS), (1, .int 0)] := hl
  refine lv_aload_n hx hb dX9_forgetDead_0 rfl (lv_at hl 0 rfl) ?_
  refine lv_aload_n hx hb dX9_forgetDead_1 rfl (lv_at hl 0 rfl) ?_
  refine va_get (D := (dC, dI)) (ci := 9) (v := .int 0) (C := RX9) (T := TX9) (N := 8) hx hb hts in9 hown hK hP 0 rfl rfl 7 (by decide) (hts (.fieldLink RX9 103 "FactKeeper$Store" "horizon" "I") (by decide +kernel)) (fun _ h9 => h9) rfl dX9_forgetDead_2 ?_
  refine lv_iload_n hx hb dX9_forgetDead_5 rfl (lv_at hl 1 rfl) ?_
  refine va_mmax hx hb (by rw [hml]; exact hl.1.symm) hown (hts (.methodLink RX9 106 Lib.Math.max.name) (by decide +kernel)) (hts (.static Lib.Math.max.name) (by decide +kernel)) (hts (.initialized "java/lang/Math") (by decide +kernel)) (hts (.code Lib.Math.max.name Lib.Math.max.code 2 (some .int)) (by decide +kernel)) (Nat.le_of_ble_eq_true rfl) (Nat.le_of_ble_eq_true rfl) (Nat.le_of_ble_eq_true rfl) (Nat.le_of_ble_eq_true rfl) dX9_forgetDead_6 ?_
  refine lv_topi (fun z_1 ez_1 => ?_)
  obtain rfl : z_1 = 0 := ez_1.trans (by decide)
  refine va_put (D := (dC, dI)) (ci := 9) (v := .int 0) (ty := .int) (C := RX9) (T := TX9) (N := 8) hx hb hts in9 tyX9 tyX9_ok nmX9 hown hK hP hD hS 0 rfl rfl 7 (by decide) (hts (.fieldLink RX9 103 "FactKeeper$Store" "horizon" "I") (by decide +kernel)) (fun _ h9 => h9) rfl (by decide +kernel) rfl rfl (Nat.le_of_ble_eq_true rfl) dX9_forgetDead_9 (fun H locs hP hD hS => ?_)
  have hP : va_P (dC, dI) vwCl [(aS, .inr (9, [.ref sT, .ref sK, .ref sH, .int 0, .int 0, .int 0, .int 0, .int 0]))] H := hP
  have hD : va_D A [(aS, .inr (9, [.ref sT, .ref sK, .ref sH, .int 0, .int 0, .int 0, .int 0, .int 0]))] := hD
  refine lv_iconst (v := 0) hx hb dX9_forgetDead_12 (by decide) ?_
  refine lv_istore_n (lv' := [(2, .int 0), (0, .ref aS), (1, .int 0)]) hx hb dX9_forgetDead_13 rfl hl (by decide) rfl (fun ls hl => ?_)
  refine lv_iload_n hx hb dX9_forgetDead_14 rfl (lv_at hl 0 rfl) ?_
  refine lv_aload_n hx hb dX9_forgetDead_15 rfl (lv_at hl 1 rfl) ?_
  refine va_get (D := (dC, dI)) (ci := 9) (v := .int 0) (C := RX9) (T := TX9) (N := 8) hx hb hts in9 hown hK hP 0 rfl rfl 3 (by decide) (hts (.fieldLink RX9 30 "FactKeeper$Store" "tableCount" "I") (by decide +kernel)) (fun _ h9 => h9) rfl dX9_forgetDead_16 ?_
  refine lv_icmp_ge (tgt := 41) hx hb dX9_forgetDead_19 (by decide) (fun _ => ?_) (fun c_2 => absurd c_2 (by decide))
  refine lv_aload_n hx hb dX9_forgetDead_41 rfl (lv_at hl 1 rfl) ?_
  refine va_get (D := (dC, dI)) (ci := 9) (v := .int 0) (C := RX9) (T := TX9) (N := 8) hx hb hts in9 hown hK hP 0 rfl rfl 4 (by decide) (hts (.fieldLink RX9 40 "FactKeeper$Store" "keptCount" "I") (by decide +kernel)) (fun _ h9 => h9) rfl dX9_forgetDead_42 ?_
  refine lv_istore_n (lv' := [(2, .int 0), (0, .ref aS), (1, .int 0)]) hx hb dX9_forgetDead_45 rfl hl (by decide) rfl (fun ls hl => ?_)
  refine lv_aload_n hx hb dX9_forgetDead_46 rfl (lv_at hl 1 rfl) ?_
  refine lv_iconst (v := 0) hx hb dX9_forgetDead_47 (by decide) ?_
  refine va_put (D := (dC, dI)) (ci := 9) (v := .int 0) (ty := .int) (C := RX9) (T := TX9) (N := 8) hx hb hts in9 tyX9 tyX9_ok nmX9 hown hK hP hD hS 0 rfl rfl 4 (by decide) (hts (.fieldLink RX9 40 "FactKeeper$Store" "keptCount" "I") (by decide +kernel)) (fun _ h9 => h9) rfl (by decide +kernel) rfl rfl (Nat.le_of_ble_eq_true rfl) dX9_forgetDead_48 (fun H locs hP hD hS => ?_)
  have hP : va_P (dC, dI) vwCl [(aS, .inr (9, [.ref sT, .ref sK, .ref sH, .int 0, .int 0, .int 0, .int 0, .int 0]))] H := hP
  have hD : va_D A [(aS, .inr (9, [.ref sT, .ref sK, .ref sH, .int 0, .int 0, .int 0, .int 0, .int 0]))] := hD
  refine lv_iconst (v := 0) hx hb dX9_forgetDead_51 (by decide) ?_
  refine lv_istore_n (lv' := [(3, .int 0), (2, .int 0), (0, .ref aS), (1, .int 0)]) hx hb dX9_forgetDead_52 rfl hl (by decide) rfl (fun ls hl => ?_)
  refine lv_iload_n hx hb dX9_forgetDead_53 rfl (lv_at hl 0 rfl) ?_
  refine lv_iload_n hx hb dX9_forgetDead_54 rfl (lv_at hl 1 rfl) ?_
  refine lv_icmp_ge (tgt := 128) hx hb dX9_forgetDead_55 (by decide) (fun _ => ?_) (fun c_3 => absurd c_3 (by decide))
  refine lv_iload_n hx hb dX9_forgetDead_128 rfl (lv_at hl 1 rfl) ?_
  refine lv_aload_n hx hb dX9_forgetDead_129 rfl (lv_at hl 2 rfl) ?_
  refine va_get (D := (dC, dI)) (ci := 9) (v := .int 0) (C := RX9) (T := TX9) (N := 8) hx hb hts in9 hown hK hP 0 rfl rfl 4 (by decide) (hts (.fieldLink RX9 40 "FactKeeper$Store" "keptCount" "I") (by decide +kernel)) (fun _ h9 => h9) rfl dX9_forgetDead_130 ?_
  refine lv_isub hx hb dX9_forgetDead_133 ?_
  refine lv_topi (fun z_4 ez_4 => ?_)
  obtain rfl : z_4 = 0 := ez_4.trans (by decide)
  have hP9 := hP.sub (ws' := [(aS, .inr (9, [.ref sT, .ref sK, .ref sH, .int 0, .int 0, .int 0, .int 0, .int 0]))]) [0] rfl
  have hD9 := hD.sub (ws' := [(aS, .inr (9, [.ref sT, .ref sK, .ref sH, .int 0, .int 0, .int 0, .int 0, .int 0]))]) [0] (by decide) rfl
  have hK9 := hK.sub (tys' := []) [] rfl
  refine W.widen (k := 0) (n := 0) (Nat.le_of_ble_eq_true rfl) (Nat.le_of_ble_eq_true rfl) ?_
  exact (W.iret (v := 0) hx hb hr (fun t ht hW => ⟨⟨0, (), rfl, rfl, by rw [ht]; exact hP9, va_K.moved hW.alike hK9, hD9⟩, hS.F ht⟩) hS.2.2 dX9_forgetDead_134)

set_option maxHeartbeats 4000000 in
set_option maxRecDepth 100000 in
/-- purge -/
theorem c_purge (l : Launch) (hl0 : l.stackTraces = false) (dC : Nat → ClassId) (dI : Nat → Nat → Nat) (h : Nat) (aT : Nat) (aV : Nat) (aS : Nat) (aC : Nat) (aO : Nat) (aF : Nat) (aL : Nat) (aR : Nat) (aX : Nat) (sT : Nat) (sK : Nat) (sH : Nat) (hF : Nat) (hW : Nat) (hM : Nat) (cO : ClassId) (tm : Int32) (sz : Nat)  : vx_Met l yX11_purge wsX11_purge ({ frames := 8, cells := 1, slots := 6, locals := 133 } : Room) (va_Pc [.ref h, .int tm] (ct_P (dC, dI) [(h, .inr (11, [.ref aT, .ref aV, .ref aS, .ref aC, .ref aO, .ref aF, .ref aL, .ref aR, .ref aX, .int 0, .int 0, .int 0])), (aO, .inl (cO, 10, .inl (fun _ => 0))), (aS, .inr (9, [.ref sT, .ref sK, .ref sH, .int 0, .int 0, .int 0, .int 0, .int 0])), (sH, .inr (3, [.ref hF, .ref hW, .ref hM, .int 0, .int 0]))] [(cO, .boolean)] sz)) (va_Qi (fun (r : Int32) (u : Unit) => r = 0 ∧ ¬ sp_bt tm) (fun (u : Unit) => ct_B (dC, dI) (va_A [(h, .inr (11, [.ref aT, .ref aV, .ref aS, .ref aC, .ref aO, .ref aF, .ref aL, .ref aR, .ref aX, .int 0, .int 0, .int 0])), (aO, .inl (cO, 10, .inl (fun _ => 0))), (aS, .inr (9, [.ref sT, .ref sK, .ref sH, .int 0, .int 0, .int 0, .int 0, .int 0])), (sH, .inr (3, [.ref hF, .ref hW, .ref hM, .int 0, .int 0]))] sz) [] []) (va_A [(h, .inr (11, [.ref aT, .ref aV, .ref aS, .ref aC, .ref aO, .ref aF, .ref aL, .ref aR, .ref aX, .int 0, .int 0, .int 0])), (aO, .inl (cO, 10, .inl (fun _ => 0))), (aS, .inr (9, [.ref sT, .ref sK, .ref sH, .int 0, .int 0, .int 0, .int 0, .int 0])), (sH, .inr (3, [.ref hF, .ref hW, .ref hM, .int 0, .int 0]))] sz)) (tx_X (fun E => E = eIA ∧ sp_bt tm) (va_A [(h, .inr (11, [.ref aT, .ref aV, .ref aS, .ref aC, .ref aO, .ref aF, .ref aL, .ref aR, .ref aX, .int 0, .int 0, .int 0])), (aO, .inl (cO, 10, .inl (fun _ => 0))), (aS, .inr (9, [.ref sT, .ref sK, .ref sH, .int 0, .int 0, .int 0, .int 0, .int 0])), (sH, .inr (3, [.ref hF, .ref hW, .ref hM, .int 0, .int 0]))] sz)) 1 6 (va_A [(h, .inr (11, [.ref aT, .ref aV, .ref aS, .ref aC, .ref aO, .ref aF, .ref aL, .ref aR, .ref aX, .int 0, .int 0, .int 0])), (aO, .inl (cO, 10, .inl (fun _ => 0))), (aS, .inr (9, [.ref sT, .ref sK, .ref sH, .int 0, .int 0, .int 0, .int 0, .int 0])), (sH, .inr (3, [.ref hF, .ref hW, .ref hM, .int 0, .int 0]))] sz) := by
  refine vx_ofW (cc := cX11_purge) (maxL := 2) (ret := (some .int)) (by decide) rfl ?_
  intro p e s m args below meth c s₁ B hml htab hv
  obtain ⟨rfl, hsz, hP, hK, hD0, hZ⟩ := hv
  have hx := B.exec
  have hb := B.bytes
  have hr := B.returns
  have hts := atoms_spec (ws := wsX11_purge) B.pre
  have hown : s.vm.findClass RX11 = some m.cls := findClass_of_methodNamed B.named
  have hlocks := B.notSynchronized
  have in3 : ∀ w ∈ u_ws RX3 TX3 5, w ∈ wsX11_purge := fun w h => (List.mem_cons_of_mem _ (List.mem_append_left _ (List.mem_append_left _ (List.mem_append_left _ (List.mem_append_left _ (List.mem_append_left _ (List.mem_append_left _ (List.mem_append_right _ h))))))))
  have in9 : ∀ w ∈ u_ws RX9 TX9 8, w ∈ wsX11_purge := fun w h => (List.mem_cons_of_mem _ (List.mem_append_left _ (List.mem_append_left _ (List.mem_append_left _ (List.mem_append_left _ (List.mem_append_left _ (List.mem_append_left _ (List.mem_append_left _ (List.mem_append_right _ h)))))))))
  have in11 : ∀ w ∈ u_ws RX11 TX11 12, w ∈ wsX11_purge := fun w h => (List.mem_cons_of_mem _ (List.mem_append_left _ (List.mem_append_left _ (List.mem_append_left _ (List.mem_append_left _ (List.mem_append_left _ (List.mem_append_left _ (List.mem_append_left _ (List.mem_append_left _ (List.mem_append_right _ h))))))))))
  subst hsz
  have hD := hD0.self (sz := s.heap.size)
  generalize hAe : va_A [(h, .inr (11, [.ref aT, .ref aV, .ref aS, .ref aC, .ref aO, .ref aF, .ref aL, .ref aR, .ref aX, .int 0, .int 0, .int 0])), (aO, .inl (cO, 10, .inl (fun _ => 0))), (aS, .inr (9, [.ref sT, .ref sK, .ref sH, .int 0, .int 0, .int 0, .int 0, .int 0])), (sH, .inr (3, [.ref hF, .ref hW, .ref hM, .int 0, .int 0]))] s.heap.size = A at hD hZ ⊢
  have hA : ∀ q : Nat, s.heap.size ≤ q → A q := fun q h => by rw [← hAe]; exact Or.inr h
  have hS : va_S A s.heap s.heap [] := va_S.rf
  have hP : va_P (dC, dI) vwCl [(h, .inr (11, [.ref aT, .ref aV, .ref aS, .ref aC, .ref aO, .ref aF, .ref aL, .ref aR, .ref aX, .int 0, .int 0, .int 0])), (aO, .inl (cO, 10, .inl (fun _ => 0))), (aS, .inr (9, [.ref sT, .ref sK, .ref sH, .int 0, .int 0, .int 0, .int 0, .int 0])), (sH, .inr (3, [.ref hF, .ref hW, .ref hM, .int 0, .int 0]))] s.heap := hP
  have hK : va_K (dC, dI) vwCl [(cO, .boolean)] s := hK
  have hD : va_D A [(h, .inr (11, [.ref aT, .ref aV, .ref aS, .ref aC, .ref aO, .ref aF, .ref aL, .ref aR, .ref aX, .int 0, .int 0, .int 0])), (aO, .inl (cO, 10, .inl (fun _ => 0))), (aS, .inr (9, [.ref sT, .ref sK, .ref sH, .int 0, .int 0, .int 0, .int 0, .int 0])), (sH, .inr (3, [.ref hF, .ref hW, .ref hM, .int 0, .int 0]))] := hD
  have hl := lv_entry ([.ref h, .int tm]) (n := 2) (Nat.le_of_ble_eq_true rfl)
  rw [lg_entry_eq]
  generalize (lg_sl ([.ref h, .int tm]) ++ List.replicate (2 - (lg_sl ([.ref h, .int tm])).length) Slot.unset).toArray = ls at hl ⊢
  have hl : lv_has ls 2 [(0, .ref h), (1, .int tm)] := hl
  refine lv_aload_n hx hb dX11_purge_0 rfl (lv_at hl 0 rfl) ?_
  refine lv_iload_n hx hb dX11_purge_1 rfl (lv_at hl 1 rfl) ?_
  refine xt_v (wr := [(aO, .inl (cO, 10, .inl (fun _ => 0))), (sH, .inr (3, [.ref hF, .ref hW, .ref hM, .int 0, .int 0]))]) (tyr := [(cO, .boolean)]) (vx_runV (As := [.int tm]) (rest := []) ⟨hx, hb, hml, hown, hts⟩ (c_requireTime l hl0 dC dI h aT aV aS aC aO aF aL aR aX sT sK sH tm s.heap.size ) (cwV 1 hts gX11_purge_X11_requireTime rfl rfl rfl (by decide +kernel) ⟨Nat.le_of_ble_eq_true rfl, Nat.le_of_ble_eq_true rfl⟩) (ct_preV (ci := 11) (q0 := 0) hP hD hK hS hA hZ rfl rfl [0, 2] [] rfl (by decide) rfl) rfl rfl hl.1 rfl (lv_room (Nat.le_of_ble_eq_true rfl)) dX11_purge_2 ⟨Nat.le_of_ble_eq_true rfl, Nat.le_of_ble_eq_true rfl⟩) hP hD hK hS hA [0, 2] [1, 3] [0] rfl rfl (by decide) (by decide) rfl (fun E ce q9 H locs hbx hS hP hD hce hcv hcl => ?_) (fun u H locs w_2 hP hD hK hS => ?_)
  · skip
    exact vx_out (fun x h => (htab x h).elim) hlocks hce hcv hcl (fun t ht _ => tx_xo hbx hS ht) hS.2.2 (Nat.le_of_ble_eq_true rfl) (Nat.le_of_ble_eq_true rfl)
  · skip
    try dsimp only at w_2
    have hP : va_P (dC, dI) vwCl [(aO, .inl (cO, 10, .inl (fun _ => 0))), (sH, .inr (3, [.ref hF, .ref hW, .ref hM, .int 0, .int 0])), (h, .inr (11, [.ref aT, .ref aV, .ref aS, .ref aC, .ref aO, .ref aF, .ref aL, .ref aR, .ref aX, .int 0, .int 0, .int 0])), (aS, .inr (9, [.ref sT, .ref sK, .ref sH, .int 0, .int 0, .int 0, .int 0, .int 0]))] H := hP
    have hD : va_D A [(aO, .inl (cO, 10, .inl (fun _ => 0))), (sH, .inr (3, [.ref hF, .ref hW, .ref hM, .int 0, .int 0])), (h, .inr (11, [.ref aT, .ref aV, .ref aS, .ref aC, .ref aO, .ref aF, .ref aL, .ref aR, .ref aX, .int 0, .int 0, .int 0])), (aS, .inr (9, [.ref sT, .ref sK, .ref sH, .int 0, .int 0, .int 0, .int 0, .int 0]))] := hD
    have hK : va_K (dC, dI) vwCl [(cO, .boolean)] s := hK
    refine W.widen (k := 1) (n := 6) (Nat.le_of_ble_eq_true rfl) (Nat.le_of_ble_eq_true rfl) ?_
    have hb0 := w_2
    refine lv_aload_n hx hb dX11_purge_5 rfl (lv_at hl 0 rfl) ?_
    refine ct_i (wr := [(sH, .inr (3, [.ref hF, .ref hW, .ref hM, .int 0, .int 0])), (aS, .inr (9, [.ref sT, .ref sK, .ref sH, .int 0, .int 0, .int 0, .int 0, .int 0]))]) (tyr := []) (va_runV (As := []) (rest := []) ⟨hx, hb, hml, hown, hts⟩ (c_openCursors l hl0 dC dI h aT aV aS aC aO aF aL aR aX cO H.size ) (cwV 0 hts gX11_purge_X11_openCursors rfl rfl rfl (by decide +kernel) ⟨Nat.le_of_ble_eq_true rfl, Nat.le_of_ble_eq_true rfl⟩) (ct_preV (ci := 11) (q0 := 2) hP hD hK hS hA hZ rfl rfl [2, 0] [0] rfl (by decide) rfl) rfl rfl hl.1 rfl (lv_room (Nat.le_of_ble_eq_true rfl)) dX11_purge_6 ⟨Nat.le_of_ble_eq_true rfl, Nat.le_of_ble_eq_true rfl⟩) hP hD hK hS hA [2, 0] [1, 3] [] rfl rfl (by decide) (by decide) rfl (fun r_3 u H locs w_4 hP hD hK hS => ?_)
    try dsimp only at w_4
    have hP : va_P (dC, dI) vwCl [(sH, .inr (3, [.ref hF, .ref hW, .ref hM, .int 0, .int 0])), (aS, .inr (9, [.ref sT, .ref sK, .ref sH, .int 0, .int 0, .int 0, .int 0, .int 0])), (h, .inr (11, [.ref aT, .ref aV, .ref aS, .ref aC, .ref aO, .ref aF, .ref aL, .ref aR, .ref aX, .int 0, .int 0, .int 0])), (aO, .inl (cO, 10, .inl (fun _ => 0)))] H := hP
    have hD : va_D A [(sH, .inr (3, [.ref hF, .ref hW, .ref hM, .int 0, .int 0])), (aS, .inr (9, [.ref sT, .ref sK, .ref sH, .int 0, .int 0, .int 0, .int 0, .int 0])), (h, .inr (11, [.ref aT, .ref aV, .ref aS, .ref aC, .ref aO, .ref aF, .ref aL, .ref aR, .ref aX, .int 0, .int 0, .int 0])), (aO, .inl (cO, 10, .inl (fun _ => 0)))] := hD
    have hK : va_K (dC, dI) vwCl [(cO, .boolean)] s := hK
    obtain rfl : r_3 = 0 := w_4
    refine lv_if_gt (tgt := 25) hx hb dX11_purge_9 (by decide) (fun c_5 => absurd c_5 (by decide)) (fun _ => ?_)
    refine lv_aload_n hx hb dX11_purge_12 rfl (lv_at hl 0 rfl) ?_
    refine va_get (D := (dC, dI)) (ci := 11) (v := .ref aS) (C := RX11) (T := TX11) (N := 12) hx hb hts in11 hown hK hP 2 rfl rfl 2 (by decide) (hts (.fieldLink RX11 20 "FactKeeper" "store" "LFactKeeper$Store;") (by decide +kernel)) (fun _ h9 => h9) rfl dX11_purge_13 ?_
    refine va_get (D := (dC, dI)) (ci := 9) (v := .ref sH) (C := RX9) (T := TX9) (N := 8) hx hb hts in9 hown hK hP 1 rfl rfl 2 (by decide) (hts (.fieldLink RX11 207 "FactKeeper$Store" "history" "LFactKeeper$History;") (by decide +kernel)) (fun _ h9 => h9) rfl dX11_purge_16 ?_
    refine va_get (D := (dC, dI)) (ci := 3) (v := .int 0) (C := RX3) (T := TX3) (N := 5) hx hb hts in3 hown hK hP 0 rfl rfl 4 (by decide) (hts (.fieldLink RX11 219 "FactKeeper$History" "markCount" "I") (by decide +kernel)) (fun _ h9 => h9) rfl dX11_purge_19 ?_
    refine lv_if_le (tgt := 35) hx hb dX11_purge_22 (by decide) (fun _ => ?_) (fun c_6 => absurd c_6 (by decide))
    refine lv_aload_n hx hb dX11_purge_35 rfl (lv_at hl 0 rfl) ?_
    refine va_get (D := (dC, dI)) (ci := 11) (v := .ref aS) (C := RX11) (T := TX11) (N := 12) hx hb hts in11 hown hK hP 2 rfl rfl 2 (by decide) (hts (.fieldLink RX11 20 "FactKeeper" "store" "LFactKeeper$Store;") (by decide +kernel)) (fun _ h9 => h9) rfl dX11_purge_36 ?_
    refine lv_aload_n hx hb dX11_purge_39 rfl (lv_at hl 0 rfl) ?_
    refine va_get (D := (dC, dI)) (ci := 11) (v := .ref aS) (C := RX11) (T := TX11) (N := 12) hx hb hts in11 hown hK hP 2 rfl rfl 2 (by decide) (hts (.fieldLink RX11 20 "FactKeeper" "store" "LFactKeeper$Store;") (by decide +kernel)) (fun _ h9 => h9) rfl dX11_purge_40 ?_
    refine lv_iload_n hx hb dX11_purge_43 rfl (lv_at hl 1 rfl) ?_
    refine ct_i (wr := [(sH, .inr (3, [.ref hF, .ref hW, .ref hM, .int 0, .int 0])), (h, .inr (11, [.ref aT, .ref aV, .ref aS, .ref aC, .ref aO, .ref aF, .ref aL, .ref aR, .ref aX, .int 0, .int 0, .int 0])), (aO, .inl (cO, 10, .inl (fun _ => 0)))]) (tyr := [(cO, .boolean)]) (va_runV (As := [.int tm]) (rest := [.ref aS]) ⟨hx, hb, hml, hown, hts⟩ (c_timeOf l hl0 dC dI aS sT sK sH tm H.size (hb0)) (cwV 1 hts gX11_purge_X9_timeOf rfl rfl rfl (by decide +kernel) ⟨Nat.le_of_ble_eq_true rfl, Nat.le_of_ble_eq_true rfl⟩) (ct_preV (ci := 9) (q0 := 1) hP hD hK hS hA hZ rfl rfl [1] [] rfl (by decide) rfl) rfl rfl hl.1 rfl (lv_room (Nat.le_of_ble_eq_true rfl)) dX11_purge_44 ⟨Nat.le_of_ble_eq_true rfl, Nat.le_of_ble_eq_true rfl⟩) hP hD hK hS hA [1] [0, 2, 3] [0] rfl rfl (by decide) (by decide) rfl (fun r_7 u H locs w_8 hP hD hK hS => ?_)
    try dsimp only at w_8
    have hP : va_P (dC, dI) vwCl [(sH, .inr (3, [.ref hF, .ref hW, .ref hM, .int 0, .int 0])), (h, .inr (11, [.ref aT, .ref aV, .ref aS, .ref aC, .ref aO, .ref aF, .ref aL, .ref aR, .ref aX, .int 0, .int 0, .int 0])), (aO, .inl (cO, 10, .inl (fun _ => 0))), (aS, .inr (9, [.ref sT, .ref sK, .ref sH, .int 0, .int 0, .int 0, .int 0, .int 0]))] H := hP
    have hD : va_D A [(sH, .inr (3, [.ref hF, .ref hW, .ref hM, .int 0, .int 0])), (h, .inr (11, [.ref aT, .ref aV, .ref aS, .ref aC, .ref aO, .ref aF, .ref aL, .ref aR, .ref aX, .int 0, .int 0, .int 0])), (aO, .inl (cO, 10, .inl (fun _ => 0))), (aS, .inr (9, [.ref sT, .ref sK, .ref sH, .int 0, .int 0, .int 0, .int 0, .int 0]))] := hD
    have hK : va_K (dC, dI) vwCl [(cO, .boolean)] s := hK
    obtain rfl : r_7 = 0 := w_8
    refine ct_i (wr := [(sH, .inr (3, [.ref hF, .ref hW, .ref hM, .int 0, .int 0])), (h, .inr (11, [.ref aT, .ref aV, .ref aS, .ref aC, .ref aO, .ref aF, .ref aL, .ref aR, .ref aX, .int 0, .int 0, .int 0])), (aO, .inl (cO, 10, .inl (fun _ => 0)))]) (tyr := [(cO, .boolean)]) (va_runV (As := [.int 0]) (rest := []) ⟨hx, hb, hml, hown, hts⟩ (c_forgetDead l hl0 dC dI aS sT sK sH H.size ) (cwV 1 hts gX11_purge_X9_forgetDead rfl rfl rfl (by decide +kernel) ⟨Nat.le_of_ble_eq_true rfl, Nat.le_of_ble_eq_true rfl⟩) (ct_preV (ci := 9) (q0 := 3) hP hD hK hS hA hZ rfl rfl [3] [] rfl (by decide) rfl) rfl rfl hl.1 rfl (lv_room (Nat.le_of_ble_eq_true rfl)) dX11_purge_47 ⟨Nat.le_of_ble_eq_true rfl, Nat.le_of_ble_eq_true rfl⟩) hP hD hK hS hA [3] [0, 1, 2] [0] rfl rfl (by decide) (by decide) rfl (fun r_9 u H locs w_10 hP hD hK hS => ?_)
    try dsimp only at w_10
    have hP : va_P (dC, dI) vwCl [(sH, .inr (3, [.ref hF, .ref hW, .ref hM, .int 0, .int 0])), (h, .inr (11, [.ref aT, .ref aV, .ref aS, .ref aC, .ref aO, .ref aF, .ref aL, .ref aR, .ref aX, .int 0, .int 0, .int 0])), (aO, .inl (cO, 10, .inl (fun _ => 0))), (aS, .inr (9, [.ref sT, .ref sK, .ref sH, .int 0, .int 0, .int 0, .int 0, .int 0]))] H := hP
    have hD : va_D A [(sH, .inr (3, [.ref hF, .ref hW, .ref hM, .int 0, .int 0])), (h, .inr (11, [.ref aT, .ref aV, .ref aS, .ref aC, .ref aO, .ref aF, .ref aL, .ref aR, .ref aX, .int 0, .int 0, .int 0])), (aO, .inl (cO, 10, .inl (fun _ => 0))), (aS, .inr (9, [.ref sT, .ref sK, .ref sH, .int 0, .int 0, .int 0, .int 0, .int 0]))] := hD
    have hK : va_K (dC, dI) vwCl [(cO, .boolean)] s := hK
    obtain rfl : r_9 = 0 := w_10
    have hP9 := hP.sub (ws' := []) [] rfl
    have hD9 := hD.sub (ws' := []) [] (by decide) rfl
    have hK9 := hK.sub (tys' := []) [] rfl
    refine W.widen (k := 1) (n := 6) (Nat.le_of_ble_eq_true rfl) (Nat.le_of_ble_eq_true rfl) ?_
    exact vx_ret (W.iret (v := 0) hx hb hr (fun t ht hW => ⟨⟨0, (), rfl, ⟨rfl, hb0⟩, by rw [ht]; exact hP9, va_K.moved hW.alike hK9, hD9⟩, hS.F ht⟩) hS.2.2 dX11_purge_50)

set_option maxHeartbeats 4000000 in
set_option maxRecDepth 100000 in
/-- changes throws -/
theorem c_changes (l : Launch) (hl0 : l.stackTraces = false) (dC : Nat → ClassId) (dI : Nat → Nat → Nat) (h : Nat) (aT : Nat) (aV : Nat) (aS : Nat) (aC : Nat) (aO : Nat) (aF : Nat) (aL : Nat) (aR : Nat) (aX : Nat) (sT : Nat) (sK : Nat) (sH : Nat) (t : Int32) (ta : Int32) (tb : Int32) (sz : Nat)  : vx_Met l yX11_changes wsX11_changes ({ frames := 8, cells := 3, slots := 18, locals := 133 } : Room) (va_Pc [.ref h, .int t, .int ta, .int tb] (ct_P (dC, dI) [(h, .inr (11, [.ref aT, .ref aV, .ref aS, .ref aC, .ref aO, .ref aF, .ref aL, .ref aR, .ref aX, .int 0, .int 0, .int 0])), (aS, .inr (9, [.ref sT, .ref sK, .ref sH, .int 0, .int 0, .int 0, .int 0, .int 0]))] [] sz)) (va_Qi (fun (r : Int32) (u : Unit) => False) (fun (u : Unit) => ct_B (dC, dI) (va_A [(h, .inr (11, [.ref aT, .ref aV, .ref aS, .ref aC, .ref aO, .ref aF, .ref aL, .ref aR, .ref aX, .int 0, .int 0, .int 0])), (aS, .inr (9, [.ref sT, .ref sK, .ref sH, .int 0, .int 0, .int 0, .int 0, .int 0]))] sz) [] []) (va_A [(h, .inr (11, [.ref aT, .ref aV, .ref aS, .ref aC, .ref aO, .ref aF, .ref aL, .ref aR, .ref aX, .int 0, .int 0, .int 0])), (aS, .inr (9, [.ref sT, .ref sK, .ref sH, .int 0, .int 0, .int 0, .int 0, .int 0]))] sz)) (tx_X (fun E => (E = eIA ∧ (sp_bt ta ∨ sp_bt tb)) ∨ (E = eNE ∧ ¬ (sp_bt ta ∨ sp_bt tb))) (va_A [(h, .inr (11, [.ref aT, .ref aV, .ref aS, .ref aC, .ref aO, .ref aF, .ref aL, .ref aR, .ref aX, .int 0, .int 0, .int 0])), (aS, .inr (9, [.ref sT, .ref sK, .ref sH, .int 0, .int 0, .int 0, .int 0, .int 0]))] sz)) 3 18 (va_A [(h, .inr (11, [.ref aT, .ref aV, .ref aS, .ref aC, .ref aO, .ref aF, .ref aL, .ref aR, .ref aX, .int 0, .int 0, .int 0])), (aS, .inr (9, [.ref sT, .ref sK, .ref sH, .int 0, .int 0, .int 0, .int 0, .int 0]))] sz) := by
  refine vx_ofW (cc := cX11_changes) (maxL := 8) (ret := (some .int)) (by decide) rfl ?_
  intro p e s m args below meth c s₁ B hml htab hv
  obtain ⟨rfl, hsz, hP, hK, hD0, hZ⟩ := hv
  have hx := B.exec
  have hb := B.bytes
  have hr := B.returns
  have hts := atoms_spec (ws := wsX11_changes) B.pre
  have hown : s.vm.findClass RX11 = some m.cls := findClass_of_methodNamed B.named
  have hlocks := B.notSynchronized
  subst hsz
  have hD := hD0.self (sz := s.heap.size)
  generalize hAe : va_A [(h, .inr (11, [.ref aT, .ref aV, .ref aS, .ref aC, .ref aO, .ref aF, .ref aL, .ref aR, .ref aX, .int 0, .int 0, .int 0])), (aS, .inr (9, [.ref sT, .ref sK, .ref sH, .int 0, .int 0, .int 0, .int 0, .int 0]))] s.heap.size = A at hD hZ ⊢
  have hA : ∀ q : Nat, s.heap.size ≤ q → A q := fun q h => by rw [← hAe]; exact Or.inr h
  have hS : va_S A s.heap s.heap [] := va_S.rf
  have hP : va_P (dC, dI) vwCl [(h, .inr (11, [.ref aT, .ref aV, .ref aS, .ref aC, .ref aO, .ref aF, .ref aL, .ref aR, .ref aX, .int 0, .int 0, .int 0])), (aS, .inr (9, [.ref sT, .ref sK, .ref sH, .int 0, .int 0, .int 0, .int 0, .int 0]))] s.heap := hP
  have hK : va_K (dC, dI) vwCl [] s := hK
  have hD : va_D A [(h, .inr (11, [.ref aT, .ref aV, .ref aS, .ref aC, .ref aO, .ref aF, .ref aL, .ref aR, .ref aX, .int 0, .int 0, .int 0])), (aS, .inr (9, [.ref sT, .ref sK, .ref sH, .int 0, .int 0, .int 0, .int 0, .int 0]))] := hD
  have hl := lv_entry ([.ref h, .int t, .int ta, .int tb]) (n := 8) (Nat.le_of_ble_eq_true rfl)
  rw [lg_entry_eq]
  generalize (lg_sl ([.ref h, .int t, .int ta, .int tb]) ++ List.replicate (8 - (lg_sl ([.ref h, .int t, .int ta, .int tb])).length) Slot.unset).toArray = ls at hl ⊢
  have hl : lv_has ls 8 [(0, .ref h), (1, .int t), (2, .int ta), (3, .int tb)] := hl
  refine lv_aload_n hx hb dX11_changes_0 rfl (lv_at hl 0 rfl) ?_
  refine lv_iload_n hx hb dX11_changes_1 rfl (lv_at hl 2 rfl) ?_
  refine xt_v (wr := []) (tyr := []) (vx_runV (As := [.int ta]) (rest := []) ⟨hx, hb, hml, hown, hts⟩ (c_requireTime l hl0 dC dI h aT aV aS aC aO aF aL aR aX sT sK sH ta s.heap.size ) (cwV 1 hts gX11_changes_X11_requireTime rfl rfl rfl (by decide +kernel) ⟨Nat.le_of_ble_eq_true rfl, Nat.le_of_ble_eq_true rfl⟩) (ct_preV (ci := 11) (q0 := 0) hP hD hK hS hA hZ rfl rfl [0, 1] [] rfl (by decide) rfl) rfl rfl hl.1 rfl (lv_room (Nat.le_of_ble_eq_true rfl)) dX11_changes_2 ⟨Nat.le_of_ble_eq_true rfl, Nat.le_of_ble_eq_true rfl⟩) hP hD hK hS hA [0, 1] [] [] rfl rfl (by decide) (by decide) rfl (fun E ce q9 H locs hbx hS hP hD hce hcv hcl => ?_) (fun u H locs w_2 hP hD hK hS => ?_)
  · skip
    exact vx_out (fun x h => (htab x h).elim) hlocks hce hcv hcl (fun t ht _ => tx_xo (Or.inl ⟨hbx.1, Or.inl hbx.2⟩) hS ht) hS.2.2 (Nat.le_of_ble_eq_true rfl) (Nat.le_of_ble_eq_true rfl)
  · skip
    try dsimp only at w_2
    have hP : va_P (dC, dI) vwCl [(h, .inr (11, [.ref aT, .ref aV, .ref aS, .ref aC, .ref aO, .ref aF, .ref aL, .ref aR, .ref aX, .int 0, .int 0, .int 0])), (aS, .inr (9, [.ref sT, .ref sK, .ref sH, .int 0, .int 0, .int 0, .int 0, .int 0]))] H := hP
    have hD : va_D A [(h, .inr (11, [.ref aT, .ref aV, .ref aS, .ref aC, .ref aO, .ref aF, .ref aL, .ref aR, .ref aX, .int 0, .int 0, .int 0])), (aS, .inr (9, [.ref sT, .ref sK, .ref sH, .int 0, .int 0, .int 0, .int 0, .int 0]))] := hD
    have hK : va_K (dC, dI) vwCl [] s := hK
    refine W.widen (k := 1) (n := 6) (Nat.le_of_ble_eq_true rfl) (Nat.le_of_ble_eq_true rfl) ?_
    refine lv_aload_n hx hb dX11_changes_5 rfl (lv_at hl 0 rfl) ?_
    refine lv_iload_n hx hb dX11_changes_6 rfl (lv_at hl 3 rfl) ?_
    refine xt_v (wr := []) (tyr := []) (vx_runV (As := [.int tb]) (rest := []) ⟨hx, hb, hml, hown, hts⟩ (c_requireTime l hl0 dC dI h aT aV aS aC aO aF aL aR aX sT sK sH tb H.size ) (cwV 1 hts gX11_changes_X11_requireTime rfl rfl rfl (by decide +kernel) ⟨Nat.le_of_ble_eq_true rfl, Nat.le_of_ble_eq_true rfl⟩) (ct_preV (ci := 11) (q0 := 0) hP hD hK hS hA hZ rfl rfl [0, 1] [] rfl (by decide) rfl) rfl rfl hl.1 rfl (lv_room (Nat.le_of_ble_eq_true rfl)) dX11_changes_7 ⟨Nat.le_of_ble_eq_true rfl, Nat.le_of_ble_eq_true rfl⟩) hP hD hK hS hA [0, 1] [] [] rfl rfl (by decide) (by decide) rfl (fun E ce q9 H locs hbx hS hP hD hce hcv hcl => ?_) (fun u H locs w_4 hP hD hK hS => ?_)
    · skip
      exact vx_out (fun x h => (htab x h).elim) hlocks hce hcv hcl (fun t ht _ => tx_xo (Or.inl ⟨hbx.1, Or.inr hbx.2⟩) hS ht) hS.2.2 (Nat.le_of_ble_eq_true rfl) (Nat.le_of_ble_eq_true rfl)
    · skip
      try dsimp only at w_4
      have hP : va_P (dC, dI) vwCl [(h, .inr (11, [.ref aT, .ref aV, .ref aS, .ref aC, .ref aO, .ref aF, .ref aL, .ref aR, .ref aX, .int 0, .int 0, .int 0])), (aS, .inr (9, [.ref sT, .ref sK, .ref sH, .int 0, .int 0, .int 0, .int 0, .int 0]))] H := hP
      have hD : va_D A [(h, .inr (11, [.ref aT, .ref aV, .ref aS, .ref aC, .ref aO, .ref aF, .ref aL, .ref aR, .ref aX, .int 0, .int 0, .int 0])), (aS, .inr (9, [.ref sT, .ref sK, .ref sH, .int 0, .int 0, .int 0, .int 0, .int 0]))] := hD
      have hK : va_K (dC, dI) vwCl [] s := hK
      refine W.widen (k := 2) (n := 12) (Nat.le_of_ble_eq_true rfl) (Nat.le_of_ble_eq_true rfl) ?_
      refine lv_aload_n hx hb dX11_changes_10 rfl (lv_at hl 0 rfl) ?_
      refine lv_iload_n hx hb dX11_changes_11 rfl (lv_at hl 1 rfl) ?_
      refine xt_q (wr := []) (tyr := []) (vx_runV (As := [.int t]) (rest := []) ⟨hx, hb, hml, hown, hts⟩ (c_tableOf l hl0 dC dI h aT aV aS aC aO aF aL aR aX sT sK sH t H.size ) (cwV 1 hts gX11_changes_X11_tableOf rfl rfl rfl (by decide +kernel) ⟨Nat.le_of_ble_eq_true rfl, Nat.le_of_ble_eq_true rfl⟩) (ct_preV (ci := 11) (q0 := 0) hP hD hK hS hA hZ rfl rfl [0, 1] [] rfl (by decide) rfl) rfl rfl hl.1 rfl (lv_room (Nat.le_of_ble_eq_true rfl)) dX11_changes_12 ⟨Nat.le_of_ble_eq_true rfl, Nat.le_of_ble_eq_true rfl⟩) hP hD hK hS hA [0, 1] [] [] rfl rfl (by decide) (by decide) rfl (fun E ce q9 H locs hbx hS hP hD hce hcv hcl => ?_) (fun r_5 u H locs w_6 hP hD hK hS => ?_)
      · skip
        exact vx_out (fun x h => (htab x h).elim) hlocks hce hcv hcl (fun t ht _ => tx_xo (Or.inr ⟨hbx, fun h => h.elim w_2 w_4⟩) hS ht) hS.2.2 (Nat.le_of_ble_eq_true rfl) (Nat.le_of_ble_eq_true rfl)
      · skip
        exact w_6.elim

set_option maxHeartbeats 4000000 in
set_option maxRecDepth 100000 in
/-- found throws -/
theorem c_found (l : Launch) (hl0 : l.stackTraces = false) (dC : Nat → ClassId) (dI : Nat → Nat → Nat) (h : Nat) (aT : Nat) (aV : Nat) (aS : Nat) (aC : Nat) (aO : Nat) (aF : Nat) (aL : Nat) (aR : Nat) (aX : Nat) (ix : Int32) (sz : Nat)  : vx_Met l yX11_found wsX11_found ({ frames := 6, cells := 1, slots := 6, locals := 90 } : Room) (va_Pc [.ref h, .int ix] (ct_P (dC, dI) [(h, .inr (11, [.ref aT, .ref aV, .ref aS, .ref aC, .ref aO, .ref aF, .ref aL, .ref aR, .ref aX, .int 0, .int 0, .int 0]))] [] sz)) (va_Qi (fun (r : Int32) (u : Unit) => False) (fun (u : Unit) => ct_B (dC, dI) (va_A [(h, .inr (11, [.ref aT, .ref aV, .ref aS, .ref aC, .ref aO, .ref aF, .ref aL, .ref aR, .ref aX, .int 0, .int 0, .int 0]))] sz) [] []) (va_A [(h, .inr (11, [.ref aT, .ref aV, .ref aS, .ref aC, .ref aO, .ref aF, .ref aL, .ref aR, .ref aX, .int 0, .int 0, .int 0]))] sz)) (tx_X (fun E => E = eIB) (va_A [(h, .inr (11, [.ref aT, .ref aV, .ref aS, .ref aC, .ref aO, .ref aF, .ref aL, .ref aR, .ref aX, .int 0, .int 0, .int 0]))] sz)) 1 6 (va_A [(h, .inr (11, [.ref aT, .ref aV, .ref aS, .ref aC, .ref aO, .ref aF, .ref aL, .ref aR, .ref aX, .int 0, .int 0, .int 0]))] sz) := by
  refine vx_ofW (cc := cX11_found) (maxL := 2) (ret := (some .int)) (by decide) rfl ?_
  intro p e s m args below meth c s₁ B hml htab hv
  obtain ⟨rfl, hsz, hP, hK, hD0, hZ⟩ := hv
  have hx := B.exec
  have hb := B.bytes
  have hr := B.returns
  have hts := atoms_spec (ws := wsX11_found) B.pre
  have hown : s.vm.findClass RX11 = some m.cls := findClass_of_methodNamed B.named
  have hlocks := B.notSynchronized
  have in11 : ∀ w ∈ u_ws RX11 TX11 12, w ∈ wsX11_found := fun w h => (List.mem_cons_of_mem _ (List.mem_append_left _ (List.mem_append_right _ h)))
  subst hsz
  have hD := hD0.self (sz := s.heap.size)
  generalize hAe : va_A [(h, .inr (11, [.ref aT, .ref aV, .ref aS, .ref aC, .ref aO, .ref aF, .ref aL, .ref aR, .ref aX, .int 0, .int 0, .int 0]))] s.heap.size = A at hD hZ ⊢
  have hA : ∀ q : Nat, s.heap.size ≤ q → A q := fun q h => by rw [← hAe]; exact Or.inr h
  have hS : va_S A s.heap s.heap [] := va_S.rf
  have hP : va_P (dC, dI) vwCl [(h, .inr (11, [.ref aT, .ref aV, .ref aS, .ref aC, .ref aO, .ref aF, .ref aL, .ref aR, .ref aX, .int 0, .int 0, .int 0]))] s.heap := hP
  have hK : va_K (dC, dI) vwCl [] s := hK
  have hD : va_D A [(h, .inr (11, [.ref aT, .ref aV, .ref aS, .ref aC, .ref aO, .ref aF, .ref aL, .ref aR, .ref aX, .int 0, .int 0, .int 0]))] := hD
  have hl := lv_entry ([.ref h, .int ix]) (n := 2) (Nat.le_of_ble_eq_true rfl)
  rw [lg_entry_eq]
  generalize (lg_sl ([.ref h, .int ix]) ++ List.replicate (2 - (lg_sl ([.ref h, .int ix])).length) Slot.unset).toArray = ls at hl ⊢
  have hl : lv_has ls 2 [(0, .ref h), (1, .int ix)] := hl
  refine lv_iload_n hx hb dX11_found_0 rfl (lv_at hl 1 rfl) ?_
  refine lv_if_lt (tgt := 12) hx hb dX11_found_1 (by decide) (fun c_1 => ?_) (fun c_1 => ?_)
  · skip
    obtain ⟨sa, hsa⟩ := hZ.2.2.2.2.2.2.1.2.2.2.2.2.1
    exact vx_throwSW (cls := eIB) (names := eSup) (A := A) hx hb hl0 hown (by decide +kernel) (by decide +kernel) (hts (.classLink RX11 60 "java/lang/IndexOutOfBoundsException") (by decide +kernel)) (hts (.initialized "java/lang/IndexOutOfBoundsException") (by decide +kernel)) hsa (tx_at hts (fun w h => (List.mem_cons_of_mem _ (List.mem_append_right _ h))) (by decide +kernel) hZ.2.2.2.1.2.2.2.1 hZ.2.2.2.2.2.2.2) (by decide +kernel) hZ.1 hZ.2.1 hS (hl.1.trans hml.symm) dX11_found_12 dX11_found_15 dX11_found_16 dX11_found_19 dX11_found_22 (fun x h => (htab x h).elim) (Nat.le_of_ble_eq_true rfl) (Nat.le_of_ble_eq_true rfl) (Nat.le_of_ble_eq_true rfl) (Nat.le_of_ble_eq_true rfl) hlocks (fun t _ h1 h2 => tx_x rfl hS h1 h2) hS.2.2 (Nat.le_of_ble_eq_true rfl) (Nat.le_of_ble_eq_true rfl)
  · skip
    refine lv_iload_n hx hb dX11_found_4 rfl (lv_at hl 1 rfl) ?_
    refine lv_aload_n hx hb dX11_found_5 rfl (lv_at hl 0 rfl) ?_
    refine va_get (D := (dC, dI)) (ci := 11) (v := .int 0) (C := RX11) (T := TX11) (N := 12) hx hb hts in11 hown hK hP 0 rfl rfl 10 (by decide) (hts (.fieldLink RX11 250 "FactKeeper" "foundCount" "I") (by decide +kernel)) (fun _ h9 => h9) rfl dX11_found_6 ?_
    refine lv_icmp_lt (tgt := 23) hx hb dX11_found_9 (by decide) (fun c_2 => absurd c_2 c_1) (fun c_2 => ?_)
    obtain ⟨sa, hsa⟩ := hZ.2.2.2.2.2.2.1.2.2.2.2.2.1
    exact vx_throwSW (cls := eIB) (names := eSup) (A := A) hx hb hl0 hown (by decide +kernel) (by decide +kernel) (hts (.classLink RX11 60 "java/lang/IndexOutOfBoundsException") (by decide +kernel)) (hts (.initialized "java/lang/IndexOutOfBoundsException") (by decide +kernel)) hsa (tx_at hts (fun w h => (List.mem_cons_of_mem _ (List.mem_append_right _ h))) (by decide +kernel) hZ.2.2.2.1.2.2.2.1 hZ.2.2.2.2.2.2.2) (by decide +kernel) hZ.1 hZ.2.1 hS (hl.1.trans hml.symm) dX11_found_12 dX11_found_15 dX11_found_16 dX11_found_19 dX11_found_22 (fun x h => (htab x h).elim) (Nat.le_of_ble_eq_true rfl) (Nat.le_of_ble_eq_true rfl) (Nat.le_of_ble_eq_true rfl) (Nat.le_of_ble_eq_true rfl) hlocks (fun t _ h1 h2 => tx_x rfl hS h1 h2) hS.2.2 (Nat.le_of_ble_eq_true rfl) (Nat.le_of_ble_eq_true rfl)

set_option maxHeartbeats 4000000 in
set_option maxRecDepth 100000 in
/-- here: behind the end -/
theorem c_here (l : Launch) (hl0 : l.stackTraces = false) (dC : Nat → ClassId) (dI : Nat → Nat → Nat) (aR : Nat) (rG : Nat) (pl : Int32) (tx : Nat) (so : Nat) (sz : Nat)  : Met l yX6_here wsX6_here ({ frames := 0, cells := 0, slots := 0, locals := 0 } : Room) (va_Pc [.ref aR] (ct_P (dC, dI) [(aR, .inr (6, [.ref rG, .int 0, .int 0, .int pl, .ref tx, .int 0, .int 0, .ref so]))] [] sz)) (va_Qi (fun (r : Int32) (u : Unit) => r = (-1)) (fun (u : Unit) => ct_B (dC, dI) (va_A [(aR, .inr (6, [.ref rG, .int 0, .int 0, .int pl, .ref tx, .int 0, .int 0, .ref so]))] sz) [(aR, .inr (6, [.ref rG, .int 0, .int 0, .int pl, .ref tx, .int 0, .int 0, .ref so]))] []) (va_A [(aR, .inr (6, [.ref rG, .int 0, .int 0, .int pl, .ref tx, .int 0, .int 0, .ref so]))] sz)) 0 0 (va_A [(aR, .inr (6, [.ref rG, .int 0, .int 0, .int pl, .ref tx, .int 0, .int 0, .ref so]))] sz) := by
  refine Met.ofW (cc := cX6_here) (maxL := 1) (ret := (some .int)) (by decide) rfl ?_
  intro p e s m args below meth c s₁ B hml hv
  obtain ⟨rfl, hsz, hP, hK, hD0, hZ⟩ := hv
  have hx := B.exec
  have hb := B.bytes
  have hr := B.returns
  have hts := atoms_spec (ws := wsX6_here) B.pre
  have hown : s.vm.findClass RX6 = some m.cls := findClass_of_methodNamed B.named
  have hlocks := B.notSynchronized
  have in6 : ∀ w ∈ u_ws RX6 TX6 8, w ∈ wsX6_here := fun w h => (List.mem_cons_of_mem _ (List.mem_append_right _ h))
  subst hsz
  have hD := hD0.self (sz := s.heap.size)
  generalize hAe : va_A [(aR, .inr (6, [.ref rG, .int 0, .int 0, .int pl, .ref tx, .int 0, .int 0, .ref so]))] s.heap.size = A at hD hZ ⊢
  have hA : ∀ q : Nat, s.heap.size ≤ q → A q := fun q h => by rw [← hAe]; exact Or.inr h
  have hS : va_S A s.heap s.heap [] := va_S.rf
  have hP : va_P (dC, dI) vwCl [(aR, .inr (6, [.ref rG, .int 0, .int 0, .int pl, .ref tx, .int 0, .int 0, .ref so]))] s.heap := hP
  have hK : va_K (dC, dI) vwCl [] s := hK
  have hD : va_D A [(aR, .inr (6, [.ref rG, .int 0, .int 0, .int pl, .ref tx, .int 0, .int 0, .ref so]))] := hD
  have hl := lv_entry ([.ref aR]) (n := 1) (Nat.le_of_ble_eq_true rfl)
  rw [lg_entry_eq]
  generalize (lg_sl ([.ref aR]) ++ List.replicate (1 - (lg_sl ([.ref aR])).length) Slot.unset).toArray = ls at hl ⊢
  have hl : lv_has ls 1 [(0, .ref aR)] := hl
  refine lv_aload_n hx hb dX6_here_0 rfl (lv_at hl 0 rfl) ?_
  refine va_get (D := (dC, dI)) (ci := 6) (v := .int 0) (C := RX6) (T := TX6) (N := 8) hx hb hts in6 hown hK hP 0 rfl rfl 6 (by decide) (hts (.fieldLink RX6 33 "FactKeeper$Reader" "at" "I") (by decide +kernel)) (fun _ h9 => h9) rfl dX6_here_1 ?_
  refine lv_if_lt (tgt := 30) hx hb dX6_here_4 (by decide) (fun c_1 => absurd c_1 (by decide)) (fun _ => ?_)
  refine lv_aload_n hx hb dX6_here_7 rfl (lv_at hl 0 rfl) ?_
  refine va_get (D := (dC, dI)) (ci := 6) (v := .int 0) (C := RX6) (T := TX6) (N := 8) hx hb hts in6 hown hK hP 0 rfl rfl 6 (by decide) (hts (.fieldLink RX6 33 "FactKeeper$Reader" "at" "I") (by decide +kernel)) (fun _ h9 => h9) rfl dX6_here_8 ?_
  refine lv_aload_n hx hb dX6_here_11 rfl (lv_at hl 0 rfl) ?_
  refine va_get (D := (dC, dI)) (ci := 6) (v := .int 0) (C := RX6) (T := TX6) (N := 8) hx hb hts in6 hown hK hP 0 rfl rfl 5 (by decide) (hts (.fieldLink RX6 26 "FactKeeper$Reader" "length" "I") (by decide +kernel)) (fun _ h9 => h9) rfl dX6_here_12 ?_
  refine lv_icmp_ge (tgt := 30) hx hb dX6_here_15 (by decide) (fun _ => ?_) (fun c_2 => absurd c_2 (by decide))
  refine lv_iconst (v := (-1)) hx hb dX6_here_30 (by decide) ?_
  refine lv_goto (tgt := 47) hx hb dX6_here_31 (by decide) ?_
  have hP9 := hP.sub (ws' := [(aR, .inr (6, [.ref rG, .int 0, .int 0, .int pl, .ref tx, .int 0, .int 0, .ref so]))]) [0] rfl
  have hD9 := hD.sub (ws' := [(aR, .inr (6, [.ref rG, .int 0, .int 0, .int pl, .ref tx, .int 0, .int 0, .ref so]))]) [0] (by decide) rfl
  have hK9 := hK.sub (tys' := []) [] rfl
  refine W.widen (k := 0) (n := 0) (Nat.le_of_ble_eq_true rfl) (Nat.le_of_ble_eq_true rfl) ?_
  exact (W.iret (v := (-1)) hx hb hr (fun t ht hW => ⟨⟨(-1), (), rfl, rfl, by rw [ht]; exact hP9, va_K.moved hW.alike hK9, hD9⟩, hS.F ht⟩) hS.2.2 dX6_here_47)

set_option maxHeartbeats 4000000 in
set_option maxRecDepth 100000 in
/-- skipBlanks -/
theorem c_skipBlanks (l : Launch) (hl0 : l.stackTraces = false) (dC : Nat → ClassId) (dI : Nat → Nat → Nat) (aR : Nat) (rG : Nat) (pl : Int32) (tx : Nat) (so : Nat) (sz : Nat)  : Met l yX6_skipBlanks wsX6_skipBlanks ({ frames := 0, cells := 0, slots := 0, locals := 0 } : Room) (va_Pc [.ref aR] (ct_P (dC, dI) [(aR, .inr (6, [.ref rG, .int 0, .int 0, .int pl, .ref tx, .int 0, .int 0, .ref so]))] [] sz)) (va_Qv (fun (u : Unit) => True) (fun (u : Unit) => ct_B (dC, dI) (va_A [(aR, .inr (6, [.ref rG, .int 0, .int 0, .int pl, .ref tx, .int 0, .int 0, .ref so]))] sz) [(aR, .inr (6, [.ref rG, .int 0, .int 0, .int pl, .ref tx, .int 0, .int 0, .ref so]))] []) (va_A [(aR, .inr (6, [.ref rG, .int 0, .int 0, .int pl, .ref tx, .int 0, .int 0, .ref so]))] sz)) 0 0 (va_A [(aR, .inr (6, [.ref rG, .int 0, .int 0, .int pl, .ref tx, .int 0, .int 0, .ref so]))] sz) := by
  refine Met.ofW (cc := cX6_skipBlanks) (maxL := 1) (ret := none) (by decide) rfl ?_
  intro p e s m args below meth c s₁ B hml hv
  obtain ⟨rfl, hsz, hP, hK, hD0, hZ⟩ := hv
  have hx := B.exec
  have hb := B.bytes
  have hr := B.returns
  have hts := atoms_spec (ws := wsX6_skipBlanks) B.pre
  have hown : s.vm.findClass RX6 = some m.cls := findClass_of_methodNamed B.named
  have hlocks := B.notSynchronized
  have in6 : ∀ w ∈ u_ws RX6 TX6 8, w ∈ wsX6_skipBlanks := fun w h => (List.mem_cons_of_mem _ (List.mem_append_right _ h))
  subst hsz
  have hD := hD0.self (sz := s.heap.size)
  generalize hAe : va_A [(aR, .inr (6, [.ref rG, .int 0, .int 0, .int pl, .ref tx, .int 0, .int 0, .ref so]))] s.heap.size = A at hD hZ ⊢
  have hA : ∀ q : Nat, s.heap.size ≤ q → A q := fun q h => by rw [← hAe]; exact Or.inr h
  have hS : va_S A s.heap s.heap [] := va_S.rf
  have hP : va_P (dC, dI) vwCl [(aR, .inr (6, [.ref rG, .int 0, .int 0, .int pl, .ref tx, .int 0, .int 0, .ref so]))] s.heap := hP
  have hK : va_K (dC, dI) vwCl [] s := hK
  have hD : va_D A [(aR, .inr (6, [.ref rG, .int 0, .int 0, .int pl, .ref tx, .int 0, .int 0, .ref so]))] := hD
  have hl := lv_entry ([.ref aR]) (n := 1) (Nat.le_of_ble_eq_true rfl)
  rw [lg_entry_eq]
  generalize (lg_sl ([.ref aR]) ++ List.replicate (1 - (lg_sl ([.ref aR])).length) Slot.unset).toArray = ls at hl ⊢
  have hl : lv_has ls 1 [(0, .ref aR)] := hl
  refine lv_aload_n hx hb dX6_skipBlanks_0 rfl (lv_at hl 0 rfl) ?_
  refine va_get (D := (dC, dI)) (ci := 6) (v := .int 0) (C := RX6) (T := TX6) (N := 8) hx hb hts in6 hown hK hP 0 rfl rfl 6 (by decide) (hts (.fieldLink RX6 33 "FactKeeper$Reader" "at" "I") (by decide +kernel)) (fun _ h9 => h9) rfl dX6_skipBlanks_1 ?_
  refine lv_aload_n hx hb dX6_skipBlanks_4 rfl (lv_at hl 0 rfl) ?_
  refine va_get (D := (dC, dI)) (ci := 6) (v := .int 0) (C := RX6) (T := TX6) (N := 8) hx hb hts in6 hown hK hP 0 rfl rfl 5 (by decide) (hts (.fieldLink RX6 26 "FactKeeper$Reader" "length" "I") (by decide +kernel)) (fun _ h9 => h9) rfl dX6_skipBlanks_5 ?_
  refine lv_icmp_ge (tgt := 33) hx hb dX6_skipBlanks_8 (by decide) (fun _ => ?_) (fun c_1 => absurd c_1 (by decide))
  have hP9 := hP.sub (ws' := [(aR, .inr (6, [.ref rG, .int 0, .int 0, .int pl, .ref tx, .int 0, .int 0, .ref so]))]) [0] rfl
  have hD9 := hD.sub (ws' := [(aR, .inr (6, [.ref rG, .int 0, .int 0, .int pl, .ref tx, .int 0, .int 0, .ref so]))]) [0] (by decide) rfl
  have hK9 := hK.sub (tys' := []) [] rfl
  refine W.widen (k := 0) (n := 0) (Nat.le_of_ble_eq_true rfl) (Nat.le_of_ble_eq_true rfl) ?_
  exact (W.vret hx hb hr (fun t ht hW => ⟨⟨(), rfl, trivial, by rw [ht]; exact hP9, va_K.moved hW.alike hK9, hD9⟩, hS.F ht⟩) hS.2.2 dX6_skipBlanks_33)

set_option maxHeartbeats 4000000 in
set_option maxRecDepth 100000 in
/-- readDigits: none -/
theorem c_readDigits (l : Launch) (hl0 : l.stackTraces = false) (dC : Nat → ClassId) (dI : Nat → Nat → Nat) (aR : Nat) (rG : Nat) (pl : Int32) (tx : Nat) (so : Nat) (sz : Nat)  : Met l yX6_readDigits wsX6_readDigits ({ frames := 0, cells := 0, slots := 0, locals := 0 } : Room) (va_Pc [.ref aR] (ct_P (dC, dI) [(aR, .inr (6, [.ref rG, .int 0, .int 0, .int pl, .ref tx, .int 0, .int 0, .ref so]))] [] sz)) (va_Qi (fun (r : Int32) (u : Unit) => r = 0) (fun (u : Unit) => ct_B (dC, dI) (va_A [(aR, .inr (6, [.ref rG, .int 0, .int 0, .int pl, .ref tx, .int 0, .int 0, .ref so]))] sz) [(aR, .inr (6, [.ref rG, .int 0, .int 0, .int pl, .ref tx, .int 0, .int 0, .ref so]))] []) (va_A [(aR, .inr (6, [.ref rG, .int 0, .int 0, .int pl, .ref tx, .int 0, .int 0, .ref so]))] sz)) 0 0 (va_A [(aR, .inr (6, [.ref rG, .int 0, .int 0, .int pl, .ref tx, .int 0, .int 0, .ref so]))] sz) := by
  refine Met.ofW (cc := cX6_readDigits) (maxL := 2) (ret := (some .int)) (by decide) rfl ?_
  intro p e s m args below meth c s₁ B hml hv
  obtain ⟨rfl, hsz, hP, hK, hD0, hZ⟩ := hv
  have hx := B.exec
  have hb := B.bytes
  have hr := B.returns
  have hts := atoms_spec (ws := wsX6_readDigits) B.pre
  have hown : s.vm.findClass RX6 = some m.cls := findClass_of_methodNamed B.named
  have hlocks := B.notSynchronized
  have in6 : ∀ w ∈ u_ws RX6 TX6 8, w ∈ wsX6_readDigits := fun w h => (List.mem_cons_of_mem _ (List.mem_append_right _ h))
  subst hsz
  have hD := hD0.self (sz := s.heap.size)
  generalize hAe : va_A [(aR, .inr (6, [.ref rG, .int 0, .int 0, .int pl, .ref tx, .int 0, .int 0, .ref so]))] s.heap.size = A at hD hZ ⊢
  have hA : ∀ q : Nat, s.heap.size ≤ q → A q := fun q h => by rw [← hAe]; exact Or.inr h
  have hS : va_S A s.heap s.heap [] := va_S.rf
  have hP : va_P (dC, dI) vwCl [(aR, .inr (6, [.ref rG, .int 0, .int 0, .int pl, .ref tx, .int 0, .int 0, .ref so]))] s.heap := hP
  have hK : va_K (dC, dI) vwCl [] s := hK
  have hD : va_D A [(aR, .inr (6, [.ref rG, .int 0, .int 0, .int pl, .ref tx, .int 0, .int 0, .ref so]))] := hD
  have hl := lv_entry ([.ref aR]) (n := 2) (Nat.le_of_ble_eq_true rfl)
  rw [lg_entry_eq]
  generalize (lg_sl ([.ref aR]) ++ List.replicate (2 - (lg_sl ([.ref aR])).length) Slot.unset).toArray = ls at hl ⊢
  have hl : lv_has ls 2 [(0, .ref aR)] := hl
  refine lv_iconst (v := 0) hx hb dX6_readDigits_0 (by decide) ?_
  refine lv_istore_n (lv' := [(1, .int 0), (0, .ref aR)]) hx hb dX6_readDigits_1 rfl hl (by decide) rfl (fun ls hl => ?_)
  refine lv_aload_n hx hb dX6_readDigits_2 rfl (lv_at hl 1 rfl) ?_
  refine va_get (D := (dC, dI)) (ci := 6) (v := .int 0) (C := RX6) (T := TX6) (N := 8) hx hb hts in6 hown hK hP 0 rfl rfl 6 (by decide) (hts (.fieldLink RX6 33 "FactKeeper$Reader" "at" "I") (by decide +kernel)) (fun _ h9 => h9) rfl dX6_readDigits_3 ?_
  refine lv_aload_n hx hb dX6_readDigits_6 rfl (lv_at hl 1 rfl) ?_
  refine va_get (D := (dC, dI)) (ci := 6) (v := .int 0) (C := RX6) (T := TX6) (N := 8) hx hb hts in6 hown hK hP 0 rfl rfl 5 (by decide) (hts (.fieldLink RX6 26 "FactKeeper$Reader" "length" "I") (by decide +kernel)) (fun _ h9 => h9) rfl dX6_readDigits_7 ?_
  refine lv_icmp_ge (tgt := 72) hx hb dX6_readDigits_10 (by decide) (fun _ => ?_) (fun c_1 => absurd c_1 (by decide))
  refine lv_iload_n hx hb dX6_readDigits_72 rfl (lv_at hl 0 rfl) ?_
  have hP9 := hP.sub (ws' := [(aR, .inr (6, [.ref rG, .int 0, .int 0, .int pl, .ref tx, .int 0, .int 0, .ref so]))]) [0] rfl
  have hD9 := hD.sub (ws' := [(aR, .inr (6, [.ref rG, .int 0, .int 0, .int pl, .ref tx, .int 0, .int 0, .ref so]))]) [0] (by decide) rfl
  have hK9 := hK.sub (tys' := []) [] rfl
  refine W.widen (k := 0) (n := 0) (Nat.le_of_ble_eq_true rfl) (Nat.le_of_ble_eq_true rfl) ?_
  exact (W.iret (v := 0) hx hb hr (fun t ht hW => ⟨⟨0, (), rfl, rfl, by rw [ht]; exact hP9, va_K.moved hW.alike hK9, hD9⟩, hS.F ht⟩) hS.2.2 dX6_readDigits_73)

set_option maxHeartbeats 4000000 in
set_option maxRecDepth 100000 in
/-- refuse throws -/
theorem c_refuse (l : Launch) (hl0 : l.stackTraces = false) (dC : Nat → ClassId) (dI : Nat → Nat → Nat) (aR : Nat) (rG : Nat) (pl : Int32) (tx : Nat) (so : Nat) (wh : Int32) (sz : Nat)  : vx_Met l yX6_refuse wsX6_refuse ({ frames := 6, cells := 1, slots := 6, locals := 90 } : Room) (va_Pc [.ref aR, .int wh] (ct_P (dC, dI) [(aR, .inr (6, [.ref rG, .int 0, .int 0, .int pl, .ref tx, .int 0, .int 0, .ref so]))] [] sz)) (va_Qv (fun (u : Unit) => False) (fun (u : Unit) => ct_B (dC, dI) (va_A [(aR, .inr (6, [.ref rG, .int 0, .int 0, .int pl, .ref tx, .int 0, .int 0, .ref so]))] sz) [(aR, .inr (6, [.ref rG, .int 0, .int 0, .int pl, .ref tx, .int 0, .int 0, .ref so]))] []) (va_A [(aR, .inr (6, [.ref rG, .int 0, .int 0, .int pl, .ref tx, .int 0, .int 0, .ref so]))] sz)) (tx_X (fun E => E = eUO) (va_A [(aR, .inr (6, [.ref rG, .int 0, .int 0, .int pl, .ref tx, .int 0, .int 0, .ref so]))] sz)) 1 6 (va_A [(aR, .inr (6, [.ref rG, .int 0, .int 0, .int pl, .ref tx, .int 0, .int 0, .ref so]))] sz) := by
  refine vx_ofW (cc := cX6_refuse) (maxL := 2) (ret := none) (by decide) rfl ?_
  intro p e s m args below meth c s₁ B hml htab hv
  obtain ⟨rfl, hsz, hP, hK, hD0, hZ⟩ := hv
  have hx := B.exec
  have hb := B.bytes
  have hr := B.returns
  have hts := atoms_spec (ws := wsX6_refuse) B.pre
  have hown : s.vm.findClass RX6 = some m.cls := findClass_of_methodNamed B.named
  have hlocks := B.notSynchronized
  have in6 : ∀ w ∈ u_ws RX6 TX6 8, w ∈ wsX6_refuse := fun w h => (List.mem_cons_of_mem _ (List.mem_append_left _ (List.mem_append_right _ h)))
  subst hsz
  have hD := hD0.self (sz := s.heap.size)
  generalize hAe : va_A [(aR, .inr (6, [.ref rG, .int 0, .int 0, .int pl, .ref tx, .int 0, .int 0, .ref so]))] s.heap.size = A at hD hZ ⊢
  have hA : ∀ q : Nat, s.heap.size ≤ q → A q := fun q h => by rw [← hAe]; exact Or.inr h
  have hS : va_S A s.heap s.heap [] := va_S.rf
  have hP : va_P (dC, dI) vwCl [(aR, .inr (6, [.ref rG, .int 0, .int 0, .int pl, .ref tx, .int 0, .int 0, .ref so]))] s.heap := hP
  have hK : va_K (dC, dI) vwCl [] s := hK
  have hD : va_D A [(aR, .inr (6, [.ref rG, .int 0, .int 0, .int pl, .ref tx, .int 0, .int 0, .ref so]))] := hD
  have hl := lv_entry ([.ref aR, .int wh]) (n := 2) (Nat.le_of_ble_eq_true rfl)
  rw [lg_entry_eq]
  generalize (lg_sl ([.ref aR, .int wh]) ++ List.replicate (2 - (lg_sl ([.ref aR, .int wh])).length) Slot.unset).toArray = ls at hl ⊢
  have hl : lv_has ls 2 [(0, .ref aR), (1, .int wh)] := hl
  refine lv_aload_n hx hb dX6_refuse_0 rfl (lv_at hl 0 rfl) ?_
  refine lv_iload_n hx hb dX6_refuse_1 rfl (lv_at hl 1 rfl) ?_
  refine va_put (D := (dC, dI)) (ci := 6) (v := .int wh) (ty := .int) (C := RX6) (T := TX6) (N := 8) hx hb hts in6 tyX6 tyX6_ok nmX6 hown hK hP hD hS 0 rfl rfl 3 (by decide) (hts (.fieldLink RX6 17 "FactKeeper$Reader" "place" "I") (by decide +kernel)) (fun _ h9 => h9) rfl (by decide +kernel) rfl rfl (Nat.le_of_ble_eq_true rfl) dX6_refuse_2 (fun H locs hP hD hS => ?_)
  have hP : va_P (dC, dI) vwCl [(aR, .inr (6, [.ref rG, .int 0, .int 0, .int wh, .ref tx, .int 0, .int 0, .ref so]))] H := hP
  have hD : va_D A [(aR, .inr (6, [.ref rG, .int 0, .int 0, .int wh, .ref tx, .int 0, .int 0, .ref so]))] := hD
  obtain ⟨sa, hsa⟩ := hZ.2.2.2.2.2.2.1.2.2.2.2.2.2
  exact vx_throwS (cls := eUO) (names := eSup) (A := A) hx hb hl0 hown (by decide +kernel) (by decide +kernel) (hts (.classLink RX6 131 "java/lang/UnsupportedOperationException") (by decide +kernel)) (hts (.initialized "java/lang/UnsupportedOperationException") (by decide +kernel)) hsa (tx_at hts (fun w h => (List.mem_cons_of_mem _ (List.mem_append_right _ h))) (by decide +kernel) hZ.2.2.2.1.2.2.2.2 hZ.2.2.2.2.2.2.2) (by decide +kernel) hZ.1 hZ.2.1 hS (hl.1.trans hml.symm) dX6_refuse_5 dX6_refuse_8 dX6_refuse_9 dX6_refuse_11 dX6_refuse_14 (fun x h => (htab x h).elim) (Nat.le_of_ble_eq_true rfl) (Nat.le_of_ble_eq_true rfl) (Nat.le_of_ble_eq_true rfl) (Nat.le_of_ble_eq_true rfl) hlocks (fun t _ h1 h2 => tx_x rfl hS h1 h2) hS.2.2 (Nat.le_of_ble_eq_true rfl) (Nat.le_of_ble_eq_true rfl)

set_option maxHeartbeats 4000000 in
set_option maxRecDepth 100000 in
/-- readNumber throws -/
theorem c_readNumber (l : Launch) (hl0 : l.stackTraces = false) (dC : Nat → ClassId) (dI : Nat → Nat → Nat) (aR : Nat) (rG : Nat) (pl : Int32) (tx : Nat) (so : Nat) (sz : Nat)  : vx_Met l yX6_readNumber wsX6_readNumber ({ frames := 7, cells := 1, slots := 6, locals := 111 } : Room) (va_Pc [.ref aR] (ct_P (dC, dI) [(aR, .inr (6, [.ref rG, .int 0, .int 0, .int pl, .ref tx, .int 0, .int 0, .ref so]))] [] sz)) (va_Qi (fun (r : Int32) (u : Unit) => False) (fun (u : Unit) => ct_B (dC, dI) (va_A [(aR, .inr (6, [.ref rG, .int 0, .int 0, .int pl, .ref tx, .int 0, .int 0, .ref so]))] sz) [(aR, .inr (6, [.ref rG, .int 0, .int 0, .int pl, .ref tx, .int 0, .int 0, .ref so]))] []) (va_A [(aR, .inr (6, [.ref rG, .int 0, .int 0, .int pl, .ref tx, .int 0, .int 0, .ref so]))] sz)) (tx_X (fun E => E = eUO) (va_A [(aR, .inr (6, [.ref rG, .int 0, .int 0, .int pl, .ref tx, .int 0, .int 0, .ref so]))] sz)) 1 6 (va_A [(aR, .inr (6, [.ref rG, .int 0, .int 0, .int pl, .ref tx, .int 0, .int 0, .ref so]))] sz) := by
  refine vx_ofW (cc := cX6_readNumber) (maxL := 5) (ret := (some .int)) (by decide) rfl ?_
  intro p e s m args below meth c s₁ B hml htab hv
  obtain ⟨rfl, hsz, hP, hK, hD0, hZ⟩ := hv
  have hx := B.exec
  have hb := B.bytes
  have hr := B.returns
  have hts := atoms_spec (ws := wsX6_readNumber) B.pre
  have hown : s.vm.findClass RX6 = some m.cls := findClass_of_methodNamed B.named
  have hlocks := B.notSynchronized
  have in6 : ∀ w ∈ u_ws RX6 TX6 8, w ∈ wsX6_readNumber := fun w h => (List.mem_cons_of_mem _ (List.mem_append_left _ (List.mem_append_right _ h)))
  subst hsz
  have hD := hD0.self (sz := s.heap.size)
  generalize hAe : va_A [(aR, .inr (6, [.ref rG, .int 0, .int 0, .int pl, .ref tx, .int 0, .int 0, .ref so]))] s.heap.size = A at hD hZ ⊢
  have hA : ∀ q : Nat, s.heap.size ≤ q → A q := fun q h => by rw [← hAe]; exact Or.inr h
  have hS : va_S A s.heap s.heap [] := va_S.rf
  have hP : va_P (dC, dI) vwCl [(aR, .inr (6, [.ref rG, .int 0, .int 0, .int pl, .ref tx, .int 0, .int 0, .ref so]))] s.heap := hP
  have hK : va_K (dC, dI) vwCl [] s := hK
  have hD : va_D A [(aR, .inr (6, [.ref rG, .int 0, .int 0, .int pl, .ref tx, .int 0, .int 0, .ref so]))] := hD
  have hl := lv_entry ([.ref aR]) (n := 5) (Nat.le_of_ble_eq_true rfl)
  rw [lg_entry_eq]
  generalize (lg_sl ([.ref aR]) ++ List.replicate (5 - (lg_sl ([.ref aR])).length) Slot.unset).toArray = ls at hl ⊢
  have hl : lv_has ls 5 [(0, .ref aR)] := hl
  refine lv_aload_n hx hb dX6_readNumber_0 rfl (lv_at hl 0 rfl) ?_
  refine va_get (D := (dC, dI)) (ci := 6) (v := .int 0) (C := RX6) (T := TX6) (N := 8) hx hb hts in6 hown hK hP 0 rfl rfl 6 (by decide) (hts (.fieldLink RX6 33 "FactKeeper$Reader" "at" "I") (by decide +kernel)) (fun _ h9 => h9) rfl dX6_readNumber_1 ?_
  refine lv_istore_n (lv' := [(1, .int 0), (0, .ref aR)]) hx hb dX6_readNumber_4 rfl hl (by decide) rfl (fun ls hl => ?_)
  refine lv_aload_n hx hb dX6_readNumber_5 rfl (lv_at hl 1 rfl) ?_
  refine ct_i (wr := []) (tyr := []) (va_runV (As := []) (rest := []) ⟨hx, hb, hml, hown, hts⟩ (c_here l hl0 dC dI aR rG pl tx so s.heap.size ) (cwV 0 hts gX6_readNumber_X6_here rfl rfl rfl (by decide +kernel) ⟨Nat.le_of_ble_eq_true rfl, Nat.le_of_ble_eq_true rfl⟩) (ct_preV (ci := 6) (q0 := 0) hP hD hK hS hA hZ rfl rfl [0] [] rfl (by decide) rfl) rfl rfl hl.1 rfl (lv_room (Nat.le_of_ble_eq_true rfl)) dX6_readNumber_6 ⟨Nat.le_of_ble_eq_true rfl, Nat.le_of_ble_eq_true rfl⟩) hP hD hK hS hA [0] [] [] rfl rfl (by decide) (by decide) rfl (fun r_1 u H locs w_2 hP hD hK hS => ?_)
  try dsimp only at w_2
  have hP : va_P (dC, dI) vwCl [(aR, .inr (6, [.ref rG, .int 0, .int 0, .int pl, .ref tx, .int 0, .int 0, .ref so]))] H := hP
  have hD : va_D A [(aR, .inr (6, [.ref rG, .int 0, .int 0, .int pl, .ref tx, .int 0, .int 0, .ref so]))] := hD
  have hK : va_K (dC, dI) vwCl [] s := hK
  obtain rfl : r_1 = (-1) := w_2
  refine lv_bipush (v := 45) hx hb dX6_readNumber_9 (by decide) ?_
  refine lv_icmp_ne (tgt := 18) hx hb dX6_readNumber_11 (by decide) (fun _ => ?_) (fun c_3 => absurd c_3 (by decide))
  refine lv_iconst (v := 0) hx hb dX6_readNumber_18 (by decide) ?_
  refine lv_istore_n (lv' := [(2, .int 0), (1, .int 0), (0, .ref aR)]) hx hb dX6_readNumber_19 rfl hl (by decide) rfl (fun ls hl => ?_)
  refine lv_iload_n hx hb dX6_readNumber_20 rfl (lv_at hl 0 rfl) ?_
  refine lv_if_eq (tgt := 34) hx hb dX6_readNumber_21 (by decide) (fun _ => ?_) (fun c_4 => absurd c_4 (by decide))
  refine lv_aload_n hx hb dX6_readNumber_34 rfl (lv_at hl 2 rfl) ?_
  refine va_get (D := (dC, dI)) (ci := 6) (v := .int 0) (C := RX6) (T := TX6) (N := 8) hx hb hts in6 hown hK hP 0 rfl rfl 6 (by decide) (hts (.fieldLink RX6 33 "FactKeeper$Reader" "at" "I") (by decide +kernel)) (fun _ h9 => h9) rfl dX6_readNumber_35 ?_
  refine lv_istore_n (lv' := [(3, .int 0), (2, .int 0), (1, .int 0), (0, .ref aR)]) hx hb dX6_readNumber_38 rfl hl (by decide) rfl (fun ls hl => ?_)
  refine lv_aload_n hx hb dX6_readNumber_39 rfl (lv_at hl 3 rfl) ?_
  refine ct_i (wr := []) (tyr := []) (va_runV (As := []) (rest := []) ⟨hx, hb, hml, hown, hts⟩ (c_readDigits l hl0 dC dI aR rG pl tx so H.size ) (cwV 0 hts gX6_readNumber_X6_readDigits rfl rfl rfl (by decide +kernel) ⟨Nat.le_of_ble_eq_true rfl, Nat.le_of_ble_eq_true rfl⟩) (ct_preV (ci := 6) (q0 := 0) hP hD hK hS hA hZ rfl rfl [0] [] rfl (by decide) rfl) rfl rfl hl.1 rfl (lv_room (Nat.le_of_ble_eq_true rfl)) dX6_readNumber_40 ⟨Nat.le_of_ble_eq_true rfl, Nat.le_of_ble_eq_true rfl⟩) hP hD hK hS hA [0] [] [] rfl rfl (by decide) (by decide) rfl (fun r_5 u H locs w_6 hP hD hK hS => ?_)
  try dsimp only at w_6
  have hP : va_P (dC, dI) vwCl [(aR, .inr (6, [.ref rG, .int 0, .int 0, .int pl, .ref tx, .int 0, .int 0, .ref so]))] H := hP
  have hD : va_D A [(aR, .inr (6, [.ref rG, .int 0, .int 0, .int pl, .ref tx, .int 0, .int 0, .ref so]))] := hD
  have hK : va_K (dC, dI) vwCl [] s := hK
  obtain rfl : r_5 = 0 := w_6
  refine lv_istore (lv' := [(4, .int 0), (3, .int 0), (2, .int 0), (1, .int 0), (0, .ref aR)]) hx hb dX6_readNumber_43 hl (by decide) rfl (fun ls hl => ?_)
  refine lv_aload_n hx hb dX6_readNumber_45 rfl (lv_at hl 4 rfl) ?_
  refine va_get (D := (dC, dI)) (ci := 6) (v := .int 0) (C := RX6) (T := TX6) (N := 8) hx hb hts in6 hown hK hP 0 rfl rfl 6 (by decide) (hts (.fieldLink RX6 33 "FactKeeper$Reader" "at" "I") (by decide +kernel)) (fun _ h9 => h9) rfl dX6_readNumber_46 ?_
  refine lv_iload_n hx hb dX6_readNumber_49 rfl (lv_at hl 1 rfl) ?_
  refine lv_icmp_eq (tgt := 64) hx hb dX6_readNumber_50 (by decide) (fun _ => ?_) (fun c_7 => absurd c_7 (by decide))
  refine lv_aload_n hx hb dX6_readNumber_64 rfl (lv_at hl 4 rfl) ?_
  refine lv_iload_n hx hb dX6_readNumber_65 rfl (lv_at hl 3 rfl) ?_
  refine xt_v (wr := []) (tyr := []) (vx_runV (As := [.int 0]) (rest := []) ⟨hx, hb, hml, hown, hts⟩ (c_refuse l hl0 dC dI aR rG pl tx so 0 H.size ) (cwV 1 hts gX6_readNumber_X6_refuse rfl rfl rfl (by decide +kernel) ⟨Nat.le_of_ble_eq_true rfl, Nat.le_of_ble_eq_true rfl⟩) (ct_preV (ci := 6) (q0 := 0) hP hD hK hS hA hZ rfl rfl [0] [] rfl (by decide) rfl) rfl rfl hl.1 rfl (lv_room (Nat.le_of_ble_eq_true rfl)) dX6_readNumber_66 ⟨Nat.le_of_ble_eq_true rfl, Nat.le_of_ble_eq_true rfl⟩) hP hD hK hS hA [0] [] [] rfl rfl (by decide) (by decide) rfl (fun E ce q9 H locs hbx hS hP hD hce hcv hcl => ?_) (fun u H locs w_9 hP hD hK hS => ?_)
  · skip
    exact vx_out (fun x h => (htab x h).elim) hlocks hce hcv hcl (fun t ht _ => tx_xo hbx hS ht) hS.2.2 (Nat.le_of_ble_eq_true rfl) (Nat.le_of_ble_eq_true rfl)
  · skip
    exact w_9.elim

set_option maxHeartbeats 4000000 in
set_option maxRecDepth 100000 in
/-- readArg throws -/
theorem c_readArg (l : Launch) (hl0 : l.stackTraces = false) (dC : Nat → ClassId) (dI : Nat → Nat → Nat) (aR : Nat) (rG : Nat) (pl : Int32) (tx : Nat) (so : Nat) (g0 : Nat) (gK : Nat) (gA : Nat) (cK : ClassId) (cG : ClassId) (sz : Nat)  : vx_Met l yX6_readArg wsX6_readArg ({ frames := 8, cells := 1, slots := 6, locals := 135 } : Room) (va_Pc [.ref aR, .ref g0, .int 0, .int 0] (ct_P (dC, dI) [(aR, .inr (6, [.ref rG, .int 0, .int 0, .int pl, .ref tx, .int 0, .int 0, .ref so])), (g0, .inr (2, [.ref gK, .ref gA, .int 0, .null, .int 0, .int 0])), (gK, .inl (cK, 4, .inl (fun _ => 0))), (gA, .inl (cG, 4, .inl (fun _ => 0)))] [(cK, .int), (cG, .int)] sz)) (va_Qv (fun (u : Unit) => False) (fun (u : Unit) => ct_B (dC, dI) (va_A [(aR, .inr (6, [.ref rG, .int 0, .int 0, .int pl, .ref tx, .int 0, .int 0, .ref so])), (g0, .inr (2, [.ref gK, .ref gA, .int 0, .null, .int 0, .int 0])), (gK, .inl (cK, 4, .inl (fun _ => 0))), (gA, .inl (cG, 4, .inl (fun _ => 0)))] sz) [(aR, .inr (6, [.ref rG, .int 0, .int 0, .int pl, .ref tx, .int 0, .int 0, .ref so])), (g0, .inr (2, [.ref gK, .ref gA, .int 0, .null, .int 0, .int 0])), (gK, .inl (cK, 4, .inl (fun _ => 0))), (gA, .inl (cG, 4, .inl (fun _ => 0)))] [(cK, .int), (cG, .int)]) (va_A [(aR, .inr (6, [.ref rG, .int 0, .int 0, .int pl, .ref tx, .int 0, .int 0, .ref so])), (g0, .inr (2, [.ref gK, .ref gA, .int 0, .null, .int 0, .int 0])), (gK, .inl (cK, 4, .inl (fun _ => 0))), (gA, .inl (cG, 4, .inl (fun _ => 0)))] sz)) (tx_X (fun E => E = eUO) (va_A [(aR, .inr (6, [.ref rG, .int 0, .int 0, .int pl, .ref tx, .int 0, .int 0, .ref so])), (g0, .inr (2, [.ref gK, .ref gA, .int 0, .null, .int 0, .int 0])), (gK, .inl (cK, 4, .inl (fun _ => 0))), (gA, .inl (cG, 4, .inl (fun _ => 0)))] sz)) 1 6 (va_A [(aR, .inr (6, [.ref rG, .int 0, .int 0, .int pl, .ref tx, .int 0, .int 0, .ref so])), (g0, .inr (2, [.ref gK, .ref gA, .int 0, .null, .int 0, .int 0])), (gK, .inl (cK, 4, .inl (fun _ => 0))), (gA, .inl (cG, 4, .inl (fun _ => 0)))] sz) := by
  refine vx_ofW (cc := cX6_readArg) (maxL := 5) (ret := none) (by decide) rfl ?_
  intro p e s m args below meth c s₁ B hml htab hv
  obtain ⟨rfl, hsz, hP, hK, hD0, hZ⟩ := hv
  have hx := B.exec
  have hb := B.bytes
  have hr := B.returns
  have hts := atoms_spec (ws := wsX6_readArg) B.pre
  have hown : s.vm.findClass RX6 = some m.cls := findClass_of_methodNamed B.named
  have hlocks := B.notSynchronized
  have in2 : ∀ w ∈ u_ws RX2 TX2 6, w ∈ wsX6_readArg := fun w h => (List.mem_cons_of_mem _ (List.mem_append_left _ (List.mem_append_left _ (List.mem_append_right _ h))))
  subst hsz
  have hD := hD0.self (sz := s.heap.size)
  generalize hAe : va_A [(aR, .inr (6, [.ref rG, .int 0, .int 0, .int pl, .ref tx, .int 0, .int 0, .ref so])), (g0, .inr (2, [.ref gK, .ref gA, .int 0, .null, .int 0, .int 0])), (gK, .inl (cK, 4, .inl (fun _ => 0))), (gA, .inl (cG, 4, .inl (fun _ => 0)))] s.heap.size = A at hD hZ ⊢
  have hA : ∀ q : Nat, s.heap.size ≤ q → A q := fun q h => by rw [← hAe]; exact Or.inr h
  have hS : va_S A s.heap s.heap [] := va_S.rf
  have hP : va_P (dC, dI) vwCl [(aR, .inr (6, [.ref rG, .int 0, .int 0, .int pl, .ref tx, .int 0, .int 0, .ref so])), (g0, .inr (2, [.ref gK, .ref gA, .int 0, .null, .int 0, .int 0])), (gK, .inl (cK, 4, .inl (fun _ => 0))), (gA, .inl (cG, 4, .inl (fun _ => 0)))] s.heap := hP
  have hK : va_K (dC, dI) vwCl [(cK, .int), (cG, .int)] s := hK
  have hD : va_D A [(aR, .inr (6, [.ref rG, .int 0, .int 0, .int pl, .ref tx, .int 0, .int 0, .ref so])), (g0, .inr (2, [.ref gK, .ref gA, .int 0, .null, .int 0, .int 0])), (gK, .inl (cK, 4, .inl (fun _ => 0))), (gA, .inl (cG, 4, .inl (fun _ => 0)))] := hD
  have hl := lv_entry ([.ref aR, .ref g0, .int 0, .int 0]) (n := 5) (Nat.le_of_ble_eq_true rfl)
  rw [lg_entry_eq]
  generalize (lg_sl ([.ref aR, .ref g0, .int 0, .int 0]) ++ List.replicate (5 - (lg_sl ([.ref aR, .ref g0, .int 0, .int 0])).length) Slot.unset).toArray = ls at hl ⊢
  have hl : lv_has ls 5 [(0, .ref aR), (1, .ref g0), (2, .int 0), (3, .int 0)] := hl
  refine lv_aload_n hx hb dX6_readArg_0 rfl (lv_at hl 0 rfl) ?_
  refine ct_i (wr := [(g0, .inr (2, [.ref gK, .ref gA, .int 0, .null, .int 0, .int 0])), (gK, .inl (cK, 4, .inl (fun _ => 0))), (gA, .inl (cG, 4, .inl (fun _ => 0)))]) (tyr := [(cK, .int), (cG, .int)]) (va_runV (As := []) (rest := []) ⟨hx, hb, hml, hown, hts⟩ (c_here l hl0 dC dI aR rG pl tx so s.heap.size ) (cwV 0 hts gX6_readArg_X6_here rfl rfl rfl (by decide +kernel) ⟨Nat.le_of_ble_eq_true rfl, Nat.le_of_ble_eq_true rfl⟩) (ct_preV (ci := 6) (q0 := 0) hP hD hK hS hA hZ rfl rfl [0] [] rfl (by decide) rfl) rfl rfl hl.1 rfl (lv_room (Nat.le_of_ble_eq_true rfl)) dX6_readArg_1 ⟨Nat.le_of_ble_eq_true rfl, Nat.le_of_ble_eq_true rfl⟩) hP hD hK hS hA [0] [1, 2, 3] [0, 1] rfl rfl (by decide) (by decide) rfl (fun r_1 u H locs w_2 hP hD hK hS => ?_)
  try dsimp only at w_2
  have hP : va_P (dC, dI) vwCl [(g0, .inr (2, [.ref gK, .ref gA, .int 0, .null, .int 0, .int 0])), (gK, .inl (cK, 4, .inl (fun _ => 0))), (gA, .inl (cG, 4, .inl (fun _ => 0))), (aR, .inr (6, [.ref rG, .int 0, .int 0, .int pl, .ref tx, .int 0, .int 0, .ref so]))] H := hP
  have hD : va_D A [(g0, .inr (2, [.ref gK, .ref gA, .int 0, .null, .int 0, .int 0])), (gK, .inl (cK, 4, .inl (fun _ => 0))), (gA, .inl (cG, 4, .inl (fun _ => 0))), (aR, .inr (6, [.ref rG, .int 0, .int 0, .int pl, .ref tx, .int 0, .int 0, .ref so]))] := hD
  have hK : va_K (dC, dI) vwCl [(cK, .int), (cG, .int)] s := hK
  obtain rfl : r_1 = (-1) := w_2
  refine lv_istore (lv' := [(4, .int (-1)), (0, .ref aR), (1, .ref g0), (2, .int 0), (3, .int 0)]) hx hb dX6_readArg_4 hl (by decide) rfl (fun ls hl => ?_)
  refine lv_iload hx hb dX6_readArg_6 (lv_at hl 0 rfl) ?_
  refine lv_bipush (v := 65) hx hb dX6_readArg_8 (by decide) ?_
  refine lv_icmp_lt (tgt := 51) hx hb dX6_readArg_10 (by decide) (fun _ => ?_) (fun c_3 => absurd c_3 (by decide))
  refine lv_iload hx hb dX6_readArg_51 (lv_at hl 0 rfl) ?_
  refine lv_bipush (v := 95) hx hb dX6_readArg_53 (by decide) ?_
  refine lv_icmp_ne (tgt := 82) hx hb dX6_readArg_55 (by decide) (fun _ => ?_) (fun c_4 => absurd c_4 (by decide))
  refine lv_aload_n hx hb dX6_readArg_82 rfl (lv_at hl 2 rfl) ?_
  refine va_get (D := (dC, dI)) (ci := 2) (v := .ref gK) (C := RX2) (T := TX2) (N := 6) hx hb hts in2 hown hK hP 0 rfl rfl 0 (by decide) (hts (.fieldLink RX6 102 "FactKeeper$Goal" "kinds" "[I") (by decide +kernel)) (fun _ h9 => h9) rfl dX6_readArg_83 ?_
  refine lv_iload_n hx hb dX6_readArg_86 rfl (lv_at hl 3 rfl) ?_
  refine lv_iconst (v := 0) hx hb dX6_readArg_87 (by decide) ?_
  refine va_iast hx hb hK hP hD hS 1 0 rfl rfl (by unfold vp_in; decide) dX6_readArg_88 (fun H locs hP hD hS => ?_)
  have hP : va_P (dC, dI) vwCl [(g0, .inr (2, [.ref gK, .ref gA, .int 0, .null, .int 0, .int 0])), (gK, .inl (cK, 4, .inl (upd (fun _ => 0) (0 : Int32).toNatClampNeg 0))), (gA, .inl (cG, 4, .inl (fun _ => 0))), (aR, .inr (6, [.ref rG, .int 0, .int 0, .int pl, .ref tx, .int 0, .int 0, .ref so]))] H := hP
  have hD : va_D A [(g0, .inr (2, [.ref gK, .ref gA, .int 0, .null, .int 0, .int 0])), (gK, .inl (cK, 4, .inl (upd (fun _ => 0) (0 : Int32).toNatClampNeg 0))), (gA, .inl (cG, 4, .inl (fun _ => 0))), (aR, .inr (6, [.ref rG, .int 0, .int 0, .int pl, .ref tx, .int 0, .int 0, .ref so]))] := hD
  refine lv_aload_n hx hb dX6_readArg_89 rfl (lv_at hl 2 rfl) ?_
  refine va_get (D := (dC, dI)) (ci := 2) (v := .ref gA) (C := RX2) (T := TX2) (N := 6) hx hb hts in2 hown hK hP 0 rfl rfl 1 (by decide) (hts (.fieldLink RX6 106 "FactKeeper$Goal" "args" "[I") (by decide +kernel)) (fun _ h9 => h9) rfl dX6_readArg_90 ?_
  refine lv_iload_n hx hb dX6_readArg_93 rfl (lv_at hl 3 rfl) ?_
  refine lv_aload_n hx hb dX6_readArg_94 rfl (lv_at hl 1 rfl) ?_
  refine xt_i (wr := [(g0, .inr (2, [.ref gK, .ref gA, .int 0, .null, .int 0, .int 0])), (gK, .inl (cK, 4, .inl (upd (fun _ => 0) (0 : Int32).toNatClampNeg 0))), (gA, .inl (cG, 4, .inl (fun _ => 0)))]) (tyr := [(cK, .int), (cG, .int)]) (vx_runV (As := []) (rest := [.int 0, .ref gA]) ⟨hx, hb, hml, hown, hts⟩ (c_readNumber l hl0 dC dI aR rG pl tx so H.size ) (cwV 0 hts gX6_readArg_X6_readNumber rfl rfl rfl (by decide +kernel) ⟨Nat.le_of_ble_eq_true rfl, Nat.le_of_ble_eq_true rfl⟩) (ct_preV (ci := 6) (q0 := 3) hP hD hK hS hA hZ rfl rfl [3] [] rfl (by decide) rfl) rfl rfl hl.1 rfl (lv_room (Nat.le_of_ble_eq_true rfl)) dX6_readArg_95 ⟨Nat.le_of_ble_eq_true rfl, Nat.le_of_ble_eq_true rfl⟩) hP hD hK hS hA [3] [0, 1, 2] [0, 1] rfl rfl (by decide) (by decide) rfl (fun E ce q9 H locs hbx hS hP hD hce hcv hcl => ?_) (fun r_5 u H locs w_6 hP hD hK hS => ?_)
  · skip
    exact vx_out (fun x h => (htab x h).elim) hlocks hce hcv hcl (fun t ht _ => tx_xo hbx hS ht) hS.2.2 (Nat.le_of_ble_eq_true rfl) (Nat.le_of_ble_eq_true rfl)
  · skip
    exact w_6.elim

set_option maxHeartbeats 4000000 in
set_option maxRecDepth 100000 in
/-- readSignGoal throws -/
theorem c_readSignGoal (l : Launch) (hl0 : l.stackTraces = false) (dC : Nat → ClassId) (dI : Nat → Nat → Nat) (aR : Nat) (rG : Nat) (pl : Int32) (tx : Nat) (so : Nat) (g0 : Nat) (gK : Nat) (gA : Nat) (cK : ClassId) (cG : ClassId) (sz : Nat)  : vx_Met l yX6_readSignGoal wsX6_readSignGoal ({ frames := 9, cells := 1, slots := 6, locals := 159 } : Room) (va_Pc [.ref aR, .ref g0] (ct_P (dC, dI) [(aR, .inr (6, [.ref rG, .int 0, .int 0, .int pl, .ref tx, .int 0, .int 0, .ref so])), (g0, .inr (2, [.ref gK, .ref gA, .int 0, .null, .int 0, .int 0])), (gK, .inl (cK, 4, .inl (fun _ => 0))), (gA, .inl (cG, 4, .inl (fun _ => 0)))] [(cK, .int), (cG, .int)] sz)) (va_Qv (fun (u : Unit) => False) (fun (u : Unit) => ct_B (dC, dI) (va_A [(aR, .inr (6, [.ref rG, .int 0, .int 0, .int pl, .ref tx, .int 0, .int 0, .ref so])), (g0, .inr (2, [.ref gK, .ref gA, .int 0, .null, .int 0, .int 0])), (gK, .inl (cK, 4, .inl (fun _ => 0))), (gA, .inl (cG, 4, .inl (fun _ => 0)))] sz) [(aR, .inr (6, [.ref rG, .int 0, .int 0, .int pl, .ref tx, .int 0, .int 0, .ref so])), (g0, .inr (2, [.ref gK, .ref gA, .int 0, .null, .int 0, .int 0])), (gK, .inl (cK, 4, .inl (fun _ => 0))), (gA, .inl (cG, 4, .inl (fun _ => 0)))] [(cK, .int), (cG, .int)]) (va_A [(aR, .inr (6, [.ref rG, .int 0, .int 0, .int pl, .ref tx, .int 0, .int 0, .ref so])), (g0, .inr (2, [.ref gK, .ref gA, .int 0, .null, .int 0, .int 0])), (gK, .inl (cK, 4, .inl (fun _ => 0))), (gA, .inl (cG, 4, .inl (fun _ => 0)))] sz)) (tx_X (fun E => E = eUO) (va_A [(aR, .inr (6, [.ref rG, .int 0, .int 0, .int pl, .ref tx, .int 0, .int 0, .ref so])), (g0, .inr (2, [.ref gK, .ref gA, .int 0, .null, .int 0, .int 0])), (gK, .inl (cK, 4, .inl (fun _ => 0))), (gA, .inl (cG, 4, .inl (fun _ => 0)))] sz)) 1 6 (va_A [(aR, .inr (6, [.ref rG, .int 0, .int 0, .int pl, .ref tx, .int 0, .int 0, .ref so])), (g0, .inr (2, [.ref gK, .ref gA, .int 0, .null, .int 0, .int 0])), (gK, .inl (cK, 4, .inl (fun _ => 0))), (gA, .inl (cG, 4, .inl (fun _ => 0)))] sz) := by
  refine vx_ofW (cc := cX6_readSignGoal) (maxL := 4) (ret := none) (by decide) rfl ?_
  intro p e s m args below meth c s₁ B hml htab hv
  obtain ⟨rfl, hsz, hP, hK, hD0, hZ⟩ := hv
  have hx := B.exec
  have hb := B.bytes
  have hr := B.returns
  have hts := atoms_spec (ws := wsX6_readSignGoal) B.pre
  have hown : s.vm.findClass RX6 = some m.cls := findClass_of_methodNamed B.named
  have hlocks := B.notSynchronized
  have in6 : ∀ w ∈ u_ws RX6 TX6 8, w ∈ wsX6_readSignGoal := fun w h => (List.mem_cons_of_mem _ (List.mem_append_left _ (List.mem_append_left _ (List.mem_append_right _ h))))
  subst hsz
  have hD := hD0.self (sz := s.heap.size)
  generalize hAe : va_A [(aR, .inr (6, [.ref rG, .int 0, .int 0, .int pl, .ref tx, .int 0, .int 0, .ref so])), (g0, .inr (2, [.ref gK, .ref gA, .int 0, .null, .int 0, .int 0])), (gK, .inl (cK, 4, .inl (fun _ => 0))), (gA, .inl (cG, 4, .inl (fun _ => 0)))] s.heap.size = A at hD hZ ⊢
  have hA : ∀ q : Nat, s.heap.size ≤ q → A q := fun q h => by rw [← hAe]; exact Or.inr h
  have hS : va_S A s.heap s.heap [] := va_S.rf
  have hP : va_P (dC, dI) vwCl [(aR, .inr (6, [.ref rG, .int 0, .int 0, .int pl, .ref tx, .int 0, .int 0, .ref so])), (g0, .inr (2, [.ref gK, .ref gA, .int 0, .null, .int 0, .int 0])), (gK, .inl (cK, 4, .inl (fun _ => 0))), (gA, .inl (cG, 4, .inl (fun _ => 0)))] s.heap := hP
  have hK : va_K (dC, dI) vwCl [(cK, .int), (cG, .int)] s := hK
  have hD : va_D A [(aR, .inr (6, [.ref rG, .int 0, .int 0, .int pl, .ref tx, .int 0, .int 0, .ref so])), (g0, .inr (2, [.ref gK, .ref gA, .int 0, .null, .int 0, .int 0])), (gK, .inl (cK, 4, .inl (fun _ => 0))), (gA, .inl (cG, 4, .inl (fun _ => 0)))] := hD
  have hl := lv_entry ([.ref aR, .ref g0]) (n := 4) (Nat.le_of_ble_eq_true rfl)
  rw [lg_entry_eq]
  generalize (lg_sl ([.ref aR, .ref g0]) ++ List.replicate (4 - (lg_sl ([.ref aR, .ref g0])).length) Slot.unset).toArray = ls at hl ⊢
  have hl : lv_has ls 4 [(0, .ref aR), (1, .ref g0)] := hl
  refine lv_aload_n hx hb dX6_readSignGoal_0 rfl (lv_at hl 0 rfl) ?_
  refine va_get (D := (dC, dI)) (ci := 6) (v := .int 0) (C := RX6) (T := TX6) (N := 8) hx hb hts in6 hown hK hP 0 rfl rfl 6 (by decide) (hts (.fieldLink RX6 33 "FactKeeper$Reader" "at" "I") (by decide +kernel)) (fun _ h9 => h9) rfl dX6_readSignGoal_1 ?_
  refine lv_istore_n (lv' := [(2, .int 0), (0, .ref aR), (1, .ref g0)]) hx hb dX6_readSignGoal_4 rfl hl (by decide) rfl (fun ls hl => ?_)
  refine lv_iconst (v := 0) hx hb dX6_readSignGoal_5 (by decide) ?_
  refine lv_istore_n (lv' := [(3, .int 0), (2, .int 0), (0, .ref aR), (1, .ref g0)]) hx hb dX6_readSignGoal_6 rfl hl (by decide) rfl (fun ls hl => ?_)
  refine lv_aload_n hx hb dX6_readSignGoal_7 rfl (lv_at hl 2 rfl) ?_
  refine lv_aload_n hx hb dX6_readSignGoal_8 rfl (lv_at hl 3 rfl) ?_
  refine lv_iconst (v := 0) hx hb dX6_readSignGoal_9 (by decide) ?_
  refine lv_iconst (v := 0) hx hb dX6_readSignGoal_10 (by decide) ?_
  refine xt_v (wr := []) (tyr := []) (vx_runV (As := [.ref g0, .int 0, .int 0]) (rest := []) ⟨hx, hb, hml, hown, hts⟩ (c_readArg l hl0 dC dI aR rG pl tx so g0 gK gA cK cG s.heap.size ) (cwV 3 hts gX6_readSignGoal_X6_readArg rfl rfl rfl (by decide +kernel) ⟨Nat.le_of_ble_eq_true rfl, Nat.le_of_ble_eq_true rfl⟩) (ct_preV (ci := 6) (q0 := 0) hP hD hK hS hA hZ rfl rfl [0, 1, 2, 3] [0, 1] rfl (by decide) rfl) rfl rfl hl.1 rfl (lv_room (Nat.le_of_ble_eq_true rfl)) dX6_readSignGoal_11 ⟨Nat.le_of_ble_eq_true rfl, Nat.le_of_ble_eq_true rfl⟩) hP hD hK hS hA [0, 1, 2, 3] [] [] rfl rfl (by decide) (by decide) rfl (fun E ce q9 H locs hbx hS hP hD hce hcv hcl => ?_) (fun u H locs w_2 hP hD hK hS => ?_)
  · skip
    exact vx_out (fun x h => (htab x h).elim) hlocks hce hcv hcl (fun t ht _ => tx_xo hbx hS ht) hS.2.2 (Nat.le_of_ble_eq_true rfl) (Nat.le_of_ble_eq_true rfl)
  · skip
    exact w_2.elim

set_option maxHeartbeats 4000000 in
set_option maxRecDepth 100000 in
/-- readQuestion throws -/
theorem c_readQuestion (l : Launch) (hl0 : l.stackTraces = false) (dC : Nat → ClassId) (dI : Nat → Nat → Nat) (aR : Nat) (rG : Nat) (g0 : Nat) (gK : Nat) (gA : Nat) (cK : ClassId) (cG : ClassId) (cR : ClassId) (gf : Nat → Option Nat) (tx : Nat) (so : Nat) (sz : Nat) (hg : gf 0 = some g0) : vx_Met l yX6_readQuestion wsX6_readQuestion ({ frames := 10, cells := 1, slots := 6, locals := 182 } : Room) (va_Pc [.ref aR, .ref tx, .int 0, .ref so] (ct_P (dC, dI) [(aR, .inr (6, [.ref rG, .int 0, .int 0, .int (-1), .null, .int 0, .int 0, .null])), (rG, .inl (cR, 10, .inr (.inr (.inr (.inr gf))))), (g0, .inr (2, [.ref gK, .ref gA, .int 0, .null, .int 0, .int 0])), (gK, .inl (cK, 4, .inl (fun _ => 0))), (gA, .inl (cG, 4, .inl (fun _ => 0)))] [(cR, .object RX2), (cK, .int), (cG, .int)] sz)) (va_Qv (fun (u : Unit) => False) (fun (u : Unit) => ct_B (dC, dI) (va_A [(aR, .inr (6, [.ref rG, .int 0, .int 0, .int (-1), .null, .int 0, .int 0, .null])), (rG, .inl (cR, 10, .inr (.inr (.inr (.inr gf))))), (g0, .inr (2, [.ref gK, .ref gA, .int 0, .null, .int 0, .int 0])), (gK, .inl (cK, 4, .inl (fun _ => 0))), (gA, .inl (cG, 4, .inl (fun _ => 0)))] sz) [(aR, .inr (6, [.ref rG, .int 0, .int 0, .int (-1), .null, .int 0, .int 0, .null])), (rG, .inl (cR, 10, .inr (.inr (.inr (.inr gf))))), (g0, .inr (2, [.ref gK, .ref gA, .int 0, .null, .int 0, .int 0])), (gK, .inl (cK, 4, .inl (fun _ => 0))), (gA, .inl (cG, 4, .inl (fun _ => 0)))] [(cR, .object RX2), (cK, .int), (cG, .int)]) (va_A [(aR, .inr (6, [.ref rG, .int 0, .int 0, .int (-1), .null, .int 0, .int 0, .null])), (rG, .inl (cR, 10, .inr (.inr (.inr (.inr gf))))), (g0, .inr (2, [.ref gK, .ref gA, .int 0, .null, .int 0, .int 0])), (gK, .inl (cK, 4, .inl (fun _ => 0))), (gA, .inl (cG, 4, .inl (fun _ => 0)))] sz)) (tx_X (fun E => E = eUO) (va_A [(aR, .inr (6, [.ref rG, .int 0, .int 0, .int (-1), .null, .int 0, .int 0, .null])), (rG, .inl (cR, 10, .inr (.inr (.inr (.inr gf))))), (g0, .inr (2, [.ref gK, .ref gA, .int 0, .null, .int 0, .int 0])), (gK, .inl (cK, 4, .inl (fun _ => 0))), (gA, .inl (cG, 4, .inl (fun _ => 0)))] sz)) 1 6 (va_A [(aR, .inr (6, [.ref rG, .int 0, .int 0, .int (-1), .null, .int 0, .int 0, .null])), (rG, .inl (cR, 10, .inr (.inr (.inr (.inr gf))))), (g0, .inr (2, [.ref gK, .ref gA, .int 0, .null, .int 0, .int 0])), (gK, .inl (cK, 4, .inl (fun _ => 0))), (gA, .inl (cG, 4, .inl (fun _ => 0)))] sz) := by
  refine vx_ofW (cc := cX6_readQuestion) (maxL := 5) (ret := none) (by decide) rfl ?_
  intro p e s m args below meth c s₁ B hml htab hv
  obtain ⟨rfl, hsz, hP, hK, hD0, hZ⟩ := hv
  have hx := B.exec
  have hb := B.bytes
  have hr := B.returns
  have hts := atoms_spec (ws := wsX6_readQuestion) B.pre
  have hown : s.vm.findClass RX6 = some m.cls := findClass_of_methodNamed B.named
  have hlocks := B.notSynchronized
  have in6 : ∀ w ∈ u_ws RX6 TX6 8, w ∈ wsX6_readQuestion := fun w h => (List.mem_cons_of_mem _ (List.mem_append_left _ (List.mem_append_left _ (List.mem_append_left _ (List.mem_append_left _ (List.mem_append_right _ h))))))
  subst hsz
  have hD := hD0.self (sz := s.heap.size)
  generalize hAe : va_A [(aR, .inr (6, [.ref rG, .int 0, .int 0, .int (-1), .null, .int 0, .int 0, .null])), (rG, .inl (cR, 10, .inr (.inr (.inr (.inr gf))))), (g0, .inr (2, [.ref gK, .ref gA, .int 0, .null, .int 0, .int 0])), (gK, .inl (cK, 4, .inl (fun _ => 0))), (gA, .inl (cG, 4, .inl (fun _ => 0)))] s.heap.size = A at hD hZ ⊢
  have hA : ∀ q : Nat, s.heap.size ≤ q → A q := fun q h => by rw [← hAe]; exact Or.inr h
  have hS : va_S A s.heap s.heap [] := va_S.rf
  have hP : va_P (dC, dI) vwCl [(aR, .inr (6, [.ref rG, .int 0, .int 0, .int (-1), .null, .int 0, .int 0, .null])), (rG, .inl (cR, 10, .inr (.inr (.inr (.inr gf))))), (g0, .inr (2, [.ref gK, .ref gA, .int 0, .null, .int 0, .int 0])), (gK, .inl (cK, 4, .inl (fun _ => 0))), (gA, .inl (cG, 4, .inl (fun _ => 0)))] s.heap := hP
  have hK : va_K (dC, dI) vwCl [(cR, .object RX2), (cK, .int), (cG, .int)] s := hK
  have hD : va_D A [(aR, .inr (6, [.ref rG, .int 0, .int 0, .int (-1), .null, .int 0, .int 0, .null])), (rG, .inl (cR, 10, .inr (.inr (.inr (.inr gf))))), (g0, .inr (2, [.ref gK, .ref gA, .int 0, .null, .int 0, .int 0])), (gK, .inl (cK, 4, .inl (fun _ => 0))), (gA, .inl (cG, 4, .inl (fun _ => 0)))] := hD
  have hl := lv_entry ([.ref aR, .ref tx, .int 0, .ref so]) (n := 5) (Nat.le_of_ble_eq_true rfl)
  rw [lg_entry_eq]
  generalize (lg_sl ([.ref aR, .ref tx, .int 0, .ref so]) ++ List.replicate (5 - (lg_sl ([.ref aR, .ref tx, .int 0, .ref so])).length) Slot.unset).toArray = ls at hl ⊢
  have hl : lv_has ls 5 [(0, .ref aR), (1, .ref tx), (2, .int 0), (3, .ref so)] := hl
  refine lv_aload_n hx hb dX6_readQuestion_0 rfl (lv_at hl 0 rfl) ?_
  refine lv_aload_n hx hb dX6_readQuestion_1 rfl (lv_at hl 1 rfl) ?_
  refine va_put (D := (dC, dI)) (ci := 6) (v := .ref tx) (ty := (tyX6 4)) (C := RX6) (T := TX6) (N := 8) hx hb hts in6 tyX6 tyX6_ok nmX6 hown hK hP hD hS 0 rfl rfl 4 (by decide) (hts (.fieldLink RX6 22 "FactKeeper$Reader" "text" "[B") (by decide +kernel)) (fun _ h9 => h9) rfl (by decide +kernel) rfl rfl (Nat.le_of_ble_eq_true rfl) dX6_readQuestion_2 (fun H locs hP hD hS => ?_)
  have hP : va_P (dC, dI) vwCl [(aR, .inr (6, [.ref rG, .int 0, .int 0, .int (-1), .ref tx, .int 0, .int 0, .null])), (rG, .inl (cR, 10, .inr (.inr (.inr (.inr gf))))), (g0, .inr (2, [.ref gK, .ref gA, .int 0, .null, .int 0, .int 0])), (gK, .inl (cK, 4, .inl (fun _ => 0))), (gA, .inl (cG, 4, .inl (fun _ => 0)))] H := hP
  have hD : va_D A [(aR, .inr (6, [.ref rG, .int 0, .int 0, .int (-1), .ref tx, .int 0, .int 0, .null])), (rG, .inl (cR, 10, .inr (.inr (.inr (.inr gf))))), (g0, .inr (2, [.ref gK, .ref gA, .int 0, .null, .int 0, .int 0])), (gK, .inl (cK, 4, .inl (fun _ => 0))), (gA, .inl (cG, 4, .inl (fun _ => 0)))] := hD
  refine lv_aload_n hx hb dX6_readQuestion_5 rfl (lv_at hl 0 rfl) ?_
  refine lv_iload_n hx hb dX6_readQuestion_6 rfl (lv_at hl 2 rfl) ?_
  refine va_put (D := (dC, dI)) (ci := 6) (v := .int 0) (ty := .int) (C := RX6) (T := TX6) (N := 8) hx hb hts in6 tyX6 tyX6_ok nmX6 hown hK hP hD hS 0 rfl rfl 5 (by decide) (hts (.fieldLink RX6 26 "FactKeeper$Reader" "length" "I") (by decide +kernel)) (fun _ h9 => h9) rfl (by decide +kernel) rfl rfl (Nat.le_of_ble_eq_true rfl) dX6_readQuestion_7 (fun H locs hP hD hS => ?_)
  have hP : va_P (dC, dI) vwCl [(aR, .inr (6, [.ref rG, .int 0, .int 0, .int (-1), .ref tx, .int 0, .int 0, .null])), (rG, .inl (cR, 10, .inr (.inr (.inr (.inr gf))))), (g0, .inr (2, [.ref gK, .ref gA, .int 0, .null, .int 0, .int 0])), (gK, .inl (cK, 4, .inl (fun _ => 0))), (gA, .inl (cG, 4, .inl (fun _ => 0)))] H := hP
  have hD : va_D A [(aR, .inr (6, [.ref rG, .int 0, .int 0, .int (-1), .ref tx, .int 0, .int 0, .null])), (rG, .inl (cR, 10, .inr (.inr (.inr (.inr gf))))), (g0, .inr (2, [.ref gK, .ref gA, .int 0, .null, .int 0, .int 0])), (gK, .inl (cK, 4, .inl (fun _ => 0))), (gA, .inl (cG, 4, .inl (fun _ => 0)))] := hD
  refine lv_aload_n hx hb dX6_readQuestion_10 rfl (lv_at hl 0 rfl) ?_
  refine lv_aload_n hx hb dX6_readQuestion_11 rfl (lv_at hl 3 rfl) ?_
  refine va_put (D := (dC, dI)) (ci := 6) (v := .ref so) (ty := (tyX6 7)) (C := RX6) (T := TX6) (N := 8) hx hb hts in6 tyX6 tyX6_ok nmX6 hown hK hP hD hS 0 rfl rfl 7 (by decide) (hts (.fieldLink RX6 29 "FactKeeper$Reader" "store" "LFactKeeper$Store;") (by decide +kernel)) (fun _ h9 => h9) rfl (by decide +kernel) rfl rfl (Nat.le_of_ble_eq_true rfl) dX6_readQuestion_12 (fun H locs hP hD hS => ?_)
  have hP : va_P (dC, dI) vwCl [(aR, .inr (6, [.ref rG, .int 0, .int 0, .int (-1), .ref tx, .int 0, .int 0, .ref so])), (rG, .inl (cR, 10, .inr (.inr (.inr (.inr gf))))), (g0, .inr (2, [.ref gK, .ref gA, .int 0, .null, .int 0, .int 0])), (gK, .inl (cK, 4, .inl (fun _ => 0))), (gA, .inl (cG, 4, .inl (fun _ => 0)))] H := hP
  have hD : va_D A [(aR, .inr (6, [.ref rG, .int 0, .int 0, .int (-1), .ref tx, .int 0, .int 0, .ref so])), (rG, .inl (cR, 10, .inr (.inr (.inr (.inr gf))))), (g0, .inr (2, [.ref gK, .ref gA, .int 0, .null, .int 0, .int 0])), (gK, .inl (cK, 4, .inl (fun _ => 0))), (gA, .inl (cG, 4, .inl (fun _ => 0)))] := hD
  refine lv_aload_n hx hb dX6_readQuestion_15 rfl (lv_at hl 0 rfl) ?_
  refine lv_iconst (v := 0) hx hb dX6_readQuestion_16 (by decide) ?_
  refine va_put (D := (dC, dI)) (ci := 6) (v := .int 0) (ty := .int) (C := RX6) (T := TX6) (N := 8) hx hb hts in6 tyX6 tyX6_ok nmX6 hown hK hP hD hS 0 rfl rfl 6 (by decide) (hts (.fieldLink RX6 33 "FactKeeper$Reader" "at" "I") (by decide +kernel)) (fun _ h9 => h9) rfl (by decide +kernel) rfl rfl (Nat.le_of_ble_eq_true rfl) dX6_readQuestion_17 (fun H locs hP hD hS => ?_)
  have hP : va_P (dC, dI) vwCl [(aR, .inr (6, [.ref rG, .int 0, .int 0, .int (-1), .ref tx, .int 0, .int 0, .ref so])), (rG, .inl (cR, 10, .inr (.inr (.inr (.inr gf))))), (g0, .inr (2, [.ref gK, .ref gA, .int 0, .null, .int 0, .int 0])), (gK, .inl (cK, 4, .inl (fun _ => 0))), (gA, .inl (cG, 4, .inl (fun _ => 0)))] H := hP
  have hD : va_D A [(aR, .inr (6, [.ref rG, .int 0, .int 0, .int (-1), .ref tx, .int 0, .int 0, .ref so])), (rG, .inl (cR, 10, .inr (.inr (.inr (.inr gf))))), (g0, .inr (2, [.ref gK, .ref gA, .int 0, .null, .int 0, .int 0])), (gK, .inl (cK, 4, .inl (fun _ => 0))), (gA, .inl (cG, 4, .inl (fun _ => 0)))] := hD
  refine lv_aload_n hx hb dX6_readQuestion_20 rfl (lv_at hl 0 rfl) ?_
  refine lv_iconst (v := 0) hx hb dX6_readQuestion_21 (by decide) ?_
  refine va_put (D := (dC, dI)) (ci := 6) (v := .int 0) (ty := .int) (C := RX6) (T := TX6) (N := 8) hx hb hts in6 tyX6 tyX6_ok nmX6 hown hK hP hD hS 0 rfl rfl 2 (by decide) (hts (.fieldLink RX6 36 "FactKeeper$Reader" "known" "I") (by decide +kernel)) (fun _ h9 => h9) rfl (by decide +kernel) rfl rfl (Nat.le_of_ble_eq_true rfl) dX6_readQuestion_22 (fun H locs hP hD hS => ?_)
  have hP : va_P (dC, dI) vwCl [(aR, .inr (6, [.ref rG, .int 0, .int 0, .int (-1), .ref tx, .int 0, .int 0, .ref so])), (rG, .inl (cR, 10, .inr (.inr (.inr (.inr gf))))), (g0, .inr (2, [.ref gK, .ref gA, .int 0, .null, .int 0, .int 0])), (gK, .inl (cK, 4, .inl (fun _ => 0))), (gA, .inl (cG, 4, .inl (fun _ => 0)))] H := hP
  have hD : va_D A [(aR, .inr (6, [.ref rG, .int 0, .int 0, .int (-1), .ref tx, .int 0, .int 0, .ref so])), (rG, .inl (cR, 10, .inr (.inr (.inr (.inr gf))))), (g0, .inr (2, [.ref gK, .ref gA, .int 0, .null, .int 0, .int 0])), (gK, .inl (cK, 4, .inl (fun _ => 0))), (gA, .inl (cG, 4, .inl (fun _ => 0)))] := hD
  refine lv_iconst (v := 0) hx hb dX6_readQuestion_25 (by decide) ?_
  refine lv_istore (lv' := [(4, .int 0), (0, .ref aR), (1, .ref tx), (2, .int 0), (3, .ref so)]) hx hb dX6_readQuestion_26 hl (by decide) rfl (fun ls hl => ?_)
  refine lv_iload hx hb dX6_readQuestion_28 (lv_at hl 0 rfl) ?_
  refine lv_bipush (v := 10) hx hb dX6_readQuestion_30 (by decide) ?_
  refine lv_icmp_ge (tgt := 118) hx hb dX6_readQuestion_32 (by decide) (fun c_1 => absurd c_1 (by decide)) (fun _ => ?_)
  refine lv_aload_n hx hb dX6_readQuestion_35 rfl (lv_at hl 1 rfl) ?_
  refine ct_v (wr := [(rG, .inl (cR, 10, .inr (.inr (.inr (.inr gf))))), (g0, .inr (2, [.ref gK, .ref gA, .int 0, .null, .int 0, .int 0])), (gK, .inl (cK, 4, .inl (fun _ => 0))), (gA, .inl (cG, 4, .inl (fun _ => 0)))]) (tyr := [(cR, .object RX2), (cK, .int), (cG, .int)]) (va_runV (As := []) (rest := []) ⟨hx, hb, hml, hown, hts⟩ (c_skipBlanks l hl0 dC dI aR rG (-1) tx so H.size ) (cwV 0 hts gX6_readQuestion_X6_skipBlanks rfl rfl rfl (by decide +kernel) ⟨Nat.le_of_ble_eq_true rfl, Nat.le_of_ble_eq_true rfl⟩) (ct_preV (ci := 6) (q0 := 0) hP hD hK hS hA hZ rfl rfl [0] [] rfl (by decide) rfl) rfl rfl hl.1 rfl (lv_room (Nat.le_of_ble_eq_true rfl)) dX6_readQuestion_36 ⟨Nat.le_of_ble_eq_true rfl, Nat.le_of_ble_eq_true rfl⟩) hP hD hK hS hA [0] [1, 2, 3, 4] [0, 1, 2] rfl rfl (by decide) (by decide) rfl (fun u H locs w_3 hP hD hK hS => ?_)
  try dsimp only at w_3
  have hP : va_P (dC, dI) vwCl [(rG, .inl (cR, 10, .inr (.inr (.inr (.inr gf))))), (g0, .inr (2, [.ref gK, .ref gA, .int 0, .null, .int 0, .int 0])), (gK, .inl (cK, 4, .inl (fun _ => 0))), (gA, .inl (cG, 4, .inl (fun _ => 0))), (aR, .inr (6, [.ref rG, .int 0, .int 0, .int (-1), .ref tx, .int 0, .int 0, .ref so]))] H := hP
  have hD : va_D A [(rG, .inl (cR, 10, .inr (.inr (.inr (.inr gf))))), (g0, .inr (2, [.ref gK, .ref gA, .int 0, .null, .int 0, .int 0])), (gK, .inl (cK, 4, .inl (fun _ => 0))), (gA, .inl (cG, 4, .inl (fun _ => 0))), (aR, .inr (6, [.ref rG, .int 0, .int 0, .int (-1), .ref tx, .int 0, .int 0, .ref so]))] := hD
  have hK : va_K (dC, dI) vwCl [(cR, .object RX2), (cK, .int), (cG, .int)] s := hK
  refine lv_aload_n hx hb dX6_readQuestion_39 rfl (lv_at hl 1 rfl) ?_
  refine ct_i (wr := [(rG, .inl (cR, 10, .inr (.inr (.inr (.inr gf))))), (g0, .inr (2, [.ref gK, .ref gA, .int 0, .null, .int 0, .int 0])), (gK, .inl (cK, 4, .inl (fun _ => 0))), (gA, .inl (cG, 4, .inl (fun _ => 0)))]) (tyr := [(cR, .object RX2), (cK, .int), (cG, .int)]) (va_runV (As := []) (rest := []) ⟨hx, hb, hml, hown, hts⟩ (c_here l hl0 dC dI aR rG (-1) tx so H.size ) (cwV 0 hts gX6_readQuestion_X6_here rfl rfl rfl (by decide +kernel) ⟨Nat.le_of_ble_eq_true rfl, Nat.le_of_ble_eq_true rfl⟩) (ct_preV (ci := 6) (q0 := 4) hP hD hK hS hA hZ rfl rfl [4] [] rfl (by decide) rfl) rfl rfl hl.1 rfl (lv_room (Nat.le_of_ble_eq_true rfl)) dX6_readQuestion_40 ⟨Nat.le_of_ble_eq_true rfl, Nat.le_of_ble_eq_true rfl⟩) hP hD hK hS hA [4] [0, 1, 2, 3] [0, 1, 2] rfl rfl (by decide) (by decide) rfl (fun r_4 u H locs w_5 hP hD hK hS => ?_)
  try dsimp only at w_5
  have hP : va_P (dC, dI) vwCl [(rG, .inl (cR, 10, .inr (.inr (.inr (.inr gf))))), (g0, .inr (2, [.ref gK, .ref gA, .int 0, .null, .int 0, .int 0])), (gK, .inl (cK, 4, .inl (fun _ => 0))), (gA, .inl (cG, 4, .inl (fun _ => 0))), (aR, .inr (6, [.ref rG, .int 0, .int 0, .int (-1), .ref tx, .int 0, .int 0, .ref so]))] H := hP
  have hD : va_D A [(rG, .inl (cR, 10, .inr (.inr (.inr (.inr gf))))), (g0, .inr (2, [.ref gK, .ref gA, .int 0, .null, .int 0, .int 0])), (gK, .inl (cK, 4, .inl (fun _ => 0))), (gA, .inl (cG, 4, .inl (fun _ => 0))), (aR, .inr (6, [.ref rG, .int 0, .int 0, .int (-1), .ref tx, .int 0, .int 0, .ref so]))] := hD
  have hK : va_K (dC, dI) vwCl [(cR, .object RX2), (cK, .int), (cG, .int)] s := hK
  obtain rfl : r_4 = (-1) := w_5
  refine lv_bipush (v := 116) hx hb dX6_readQuestion_43 (by decide) ?_
  refine lv_icmp_eq (tgt := 57) hx hb dX6_readQuestion_45 (by decide) (fun c_6 => absurd c_6 (by decide)) (fun _ => ?_)
  refine lv_aload_n hx hb dX6_readQuestion_48 rfl (lv_at hl 1 rfl) ?_
  refine ct_i (wr := [(rG, .inl (cR, 10, .inr (.inr (.inr (.inr gf))))), (g0, .inr (2, [.ref gK, .ref gA, .int 0, .null, .int 0, .int 0])), (gK, .inl (cK, 4, .inl (fun _ => 0))), (gA, .inl (cG, 4, .inl (fun _ => 0)))]) (tyr := [(cR, .object RX2), (cK, .int), (cG, .int)]) (va_runV (As := []) (rest := []) ⟨hx, hb, hml, hown, hts⟩ (c_here l hl0 dC dI aR rG (-1) tx so H.size ) (cwV 0 hts gX6_readQuestion_X6_here rfl rfl rfl (by decide +kernel) ⟨Nat.le_of_ble_eq_true rfl, Nat.le_of_ble_eq_true rfl⟩) (ct_preV (ci := 6) (q0 := 4) hP hD hK hS hA hZ rfl rfl [4] [] rfl (by decide) rfl) rfl rfl hl.1 rfl (lv_room (Nat.le_of_ble_eq_true rfl)) dX6_readQuestion_49 ⟨Nat.le_of_ble_eq_true rfl, Nat.le_of_ble_eq_true rfl⟩) hP hD hK hS hA [4] [0, 1, 2, 3] [0, 1, 2] rfl rfl (by decide) (by decide) rfl (fun r_7 u H locs w_8 hP hD hK hS => ?_)
  try dsimp only at w_8
  have hP : va_P (dC, dI) vwCl [(rG, .inl (cR, 10, .inr (.inr (.inr (.inr gf))))), (g0, .inr (2, [.ref gK, .ref gA, .int 0, .null, .int 0, .int 0])), (gK, .inl (cK, 4, .inl (fun _ => 0))), (gA, .inl (cG, 4, .inl (fun _ => 0))), (aR, .inr (6, [.ref rG, .int 0, .int 0, .int (-1), .ref tx, .int 0, .int 0, .ref so]))] H := hP
  have hD : va_D A [(rG, .inl (cR, 10, .inr (.inr (.inr (.inr gf))))), (g0, .inr (2, [.ref gK, .ref gA, .int 0, .null, .int 0, .int 0])), (gK, .inl (cK, 4, .inl (fun _ => 0))), (gA, .inl (cG, 4, .inl (fun _ => 0))), (aR, .inr (6, [.ref rG, .int 0, .int 0, .int (-1), .ref tx, .int 0, .int 0, .ref so]))] := hD
  have hK : va_K (dC, dI) vwCl [(cR, .object RX2), (cK, .int), (cG, .int)] s := hK
  obtain rfl : r_7 = (-1) := w_8
  refine lv_bipush (v := 33) hx hb dX6_readQuestion_52 (by decide) ?_
  refine lv_icmp_ne (tgt := 71) hx hb dX6_readQuestion_54 (by decide) (fun _ => ?_) (fun c_9 => absurd c_9 (by decide))
  refine lv_aload_n hx hb dX6_readQuestion_71 rfl (lv_at hl 1 rfl) ?_
  refine lv_aload_n hx hb dX6_readQuestion_72 rfl (lv_at hl 1 rfl) ?_
  refine va_get (D := (dC, dI)) (ci := 6) (v := .ref rG) (C := RX6) (T := TX6) (N := 8) hx hb hts in6 hown hK hP 4 rfl rfl 0 (by decide) (hts (.fieldLink RX6 11 "FactKeeper$Reader" "goals" "[LFactKeeper$Goal;") (by decide +kernel)) (fun _ h9 => h9) rfl dX6_readQuestion_73 ?_
  refine lv_iload hx hb dX6_readQuestion_76 (lv_at hl 0 rfl) ?_
  refine va_aldq hx hb hK hP 0 0 rfl rfl (by unfold vp_in; decide) dX6_readQuestion_78 ?_
  refine W.eq (g2 := F0 m 79 ls [.ref g0, .ref aR]) (by rw [show (0 : Int32).toNatClampNeg = 0 by decide, hg]; rfl) ?_
  refine xt_v (wr := [(rG, .inl (cR, 10, .inr (.inr (.inr (.inr gf)))))]) (tyr := [(cR, .object RX2)]) (vx_runV (As := [.ref g0]) (rest := []) ⟨hx, hb, hml, hown, hts⟩ (c_readSignGoal l hl0 dC dI aR rG (-1) tx so g0 gK gA cK cG H.size ) (cwV 1 hts gX6_readQuestion_X6_readSignGoal rfl rfl rfl (by decide +kernel) ⟨Nat.le_of_ble_eq_true rfl, Nat.le_of_ble_eq_true rfl⟩) (ct_preV (ci := 6) (q0 := 4) hP hD hK hS hA hZ rfl rfl [4, 1, 2, 3] [1, 2] rfl (by decide) rfl) rfl rfl hl.1 rfl (lv_room (Nat.le_of_ble_eq_true rfl)) dX6_readQuestion_79 ⟨Nat.le_of_ble_eq_true rfl, Nat.le_of_ble_eq_true rfl⟩) hP hD hK hS hA [4, 1, 2, 3] [0] [0] rfl rfl (by decide) (by decide) rfl (fun E ce q9 H locs hbx hS hP hD hce hcv hcl => ?_) (fun u H locs w_11 hP hD hK hS => ?_)
  · skip
    exact vx_out (fun x h => (htab x h).elim) hlocks hce hcv hcl (fun t ht _ => tx_xo hbx hS ht) hS.2.2 (Nat.le_of_ble_eq_true rfl) (Nat.le_of_ble_eq_true rfl)
  · skip
    exact w_11.elim

set_option maxHeartbeats 4000000 in
set_option maxRecDepth 100000 in
/-- question throws -/
theorem c_question (l : Launch) (hl0 : l.stackTraces = false) (dC : Nat → ClassId) (dI : Nat → Nat → Nat) (h : Nat) (aT : Nat) (aV : Nat) (aS : Nat) (aC : Nat) (aO : Nat) (aF : Nat) (aL : Nat) (aR : Nat) (aX : Nat) (sT : Nat) (sK : Nat) (sH : Nat) (rG : Nat) (g0 : Nat) (gK : Nat) (gA : Nat) (cK : ClassId) (cG : ClassId) (cR : ClassId) (gf : Nat → Option Nat) (tm : Int32) (sz : Nat) (hg : gf 0 = some g0) : vx_Met l yX11_question wsX11_question ({ frames := 11, cells := 2, slots := 12, locals := 206 } : Room) (va_Pc [.ref h, .int tm] (ct_P (dC, dI) [(h, .inr (11, [.ref aT, .ref aV, .ref aS, .ref aC, .ref aO, .ref aF, .ref aL, .ref aR, .ref aX, .int 0, .int 0, .int 0])), (aS, .inr (9, [.ref sT, .ref sK, .ref sH, .int 0, .int 0, .int 0, .int 0, .int 0])), (aR, .inr (6, [.ref rG, .int 0, .int 0, .int (-1), .null, .int 0, .int 0, .null])), (rG, .inl (cR, 10, .inr (.inr (.inr (.inr gf))))), (g0, .inr (2, [.ref gK, .ref gA, .int 0, .null, .int 0, .int 0])), (gK, .inl (cK, 4, .inl (fun _ => 0))), (gA, .inl (cG, 4, .inl (fun _ => 0)))] [(cR, .object RX2), (cK, .int), (cG, .int)] sz)) (va_Qi (fun (r : Int32) (u : Unit) => False) (fun (u : Unit) => ct_B (dC, dI) (va_A [(h, .inr (11, [.ref aT, .ref aV, .ref aS, .ref aC, .ref aO, .ref aF, .ref aL, .ref aR, .ref aX, .int 0, .int 0, .int 0])), (aS, .inr (9, [.ref sT, .ref sK, .ref sH, .int 0, .int 0, .int 0, .int 0, .int 0])), (aR, .inr (6, [.ref rG, .int 0, .int 0, .int (-1), .null, .int 0, .int 0, .null])), (rG, .inl (cR, 10, .inr (.inr (.inr (.inr gf))))), (g0, .inr (2, [.ref gK, .ref gA, .int 0, .null, .int 0, .int 0])), (gK, .inl (cK, 4, .inl (fun _ => 0))), (gA, .inl (cG, 4, .inl (fun _ => 0)))] sz) [] []) (va_A [(h, .inr (11, [.ref aT, .ref aV, .ref aS, .ref aC, .ref aO, .ref aF, .ref aL, .ref aR, .ref aX, .int 0, .int 0, .int 0])), (aS, .inr (9, [.ref sT, .ref sK, .ref sH, .int 0, .int 0, .int 0, .int 0, .int 0])), (aR, .inr (6, [.ref rG, .int 0, .int 0, .int (-1), .null, .int 0, .int 0, .null])), (rG, .inl (cR, 10, .inr (.inr (.inr (.inr gf))))), (g0, .inr (2, [.ref gK, .ref gA, .int 0, .null, .int 0, .int 0])), (gK, .inl (cK, 4, .inl (fun _ => 0))), (gA, .inl (cG, 4, .inl (fun _ => 0)))] sz)) (tx_X (fun E => (E = eIA ∧ sp_bt tm) ∨ (E = eUO ∧ ¬ sp_bt tm)) (va_A [(h, .inr (11, [.ref aT, .ref aV, .ref aS, .ref aC, .ref aO, .ref aF, .ref aL, .ref aR, .ref aX, .int 0, .int 0, .int 0])), (aS, .inr (9, [.ref sT, .ref sK, .ref sH, .int 0, .int 0, .int 0, .int 0, .int 0])), (aR, .inr (6, [.ref rG, .int 0, .int 0, .int (-1), .null, .int 0, .int 0, .null])), (rG, .inl (cR, 10, .inr (.inr (.inr (.inr gf))))), (g0, .inr (2, [.ref gK, .ref gA, .int 0, .null, .int 0, .int 0])), (gK, .inl (cK, 4, .inl (fun _ => 0))), (gA, .inl (cG, 4, .inl (fun _ => 0)))] sz)) 2 12 (va_A [(h, .inr (11, [.ref aT, .ref aV, .ref aS, .ref aC, .ref aO, .ref aF, .ref aL, .ref aR, .ref aX, .int 0, .int 0, .int 0])), (aS, .inr (9, [.ref sT, .ref sK, .ref sH, .int 0, .int 0, .int 0, .int 0, .int 0])), (aR, .inr (6, [.ref rG, .int 0, .int 0, .int (-1), .null, .int 0, .int 0, .null])), (rG, .inl (cR, 10, .inr (.inr (.inr (.inr gf))))), (g0, .inr (2, [.ref gK, .ref gA, .int 0, .null, .int 0, .int 0])), (gK, .inl (cK, 4, .inl (fun _ => 0))), (gA, .inl (cG, 4, .inl (fun _ => 0)))] sz) := by
  refine vx_ofW (cc := cX11_question) (maxL := 4) (ret := (some .int)) (by decide) rfl ?_
  intro p e s m args below meth c s₁ B hml htab hv
  obtain ⟨rfl, hsz, hP, hK, hD0, hZ⟩ := hv
  have hx := B.exec
  have hb := B.bytes
  have hr := B.returns
  have hts := atoms_spec (ws := wsX11_question) B.pre
  have hown : s.vm.findClass RX11 = some m.cls := findClass_of_methodNamed B.named
  have hlocks := B.notSynchronized
  have in6 : ∀ w ∈ u_ws RX6 TX6 8, w ∈ wsX11_question := fun w h => (List.mem_cons_of_mem _ (List.mem_append_left _ (List.mem_append_left _ (List.mem_append_left _ (List.mem_append_left _ (List.mem_append_left _ (List.mem_append_left _ (List.mem_append_left _ (List.mem_append_left _ (List.mem_append_left _ (List.mem_append_left _ (List.mem_append_left _ (List.mem_append_left _ (List.mem_append_right _ h))))))))))))))
  have in11 : ∀ w ∈ u_ws RX11 TX11 12, w ∈ wsX11_question := fun w h => (List.mem_cons_of_mem _ (List.mem_append_left _ (List.mem_append_left _ (List.mem_append_left _ (List.mem_append_left _ (List.mem_append_left _ (List.mem_append_left _ (List.mem_append_left _ (List.mem_append_left _ (List.mem_append_left _ (List.mem_append_left _ (List.mem_append_left _ (List.mem_append_left _ (List.mem_append_left _ (List.mem_append_right _ h)))))))))))))))
  subst hsz
  have hD := hD0.self (sz := s.heap.size)
  generalize hAe : va_A [(h, .inr (11, [.ref aT, .ref aV, .ref aS, .ref aC, .ref aO, .ref aF, .ref aL, .ref aR, .ref aX, .int 0, .int 0, .int 0])), (aS, .inr (9, [.ref sT, .ref sK, .ref sH, .int 0, .int 0, .int 0, .int 0, .int 0])), (aR, .inr (6, [.ref rG, .int 0, .int 0, .int (-1), .null, .int 0, .int 0, .null])), (rG, .inl (cR, 10, .inr (.inr (.inr (.inr gf))))), (g0, .inr (2, [.ref gK, .ref gA, .int 0, .null, .int 0, .int 0])), (gK, .inl (cK, 4, .inl (fun _ => 0))), (gA, .inl (cG, 4, .inl (fun _ => 0)))] s.heap.size = A at hD hZ ⊢
  have hA : ∀ q : Nat, s.heap.size ≤ q → A q := fun q h => by rw [← hAe]; exact Or.inr h
  have hS : va_S A s.heap s.heap [] := va_S.rf
  have hP : va_P (dC, dI) vwCl [(h, .inr (11, [.ref aT, .ref aV, .ref aS, .ref aC, .ref aO, .ref aF, .ref aL, .ref aR, .ref aX, .int 0, .int 0, .int 0])), (aS, .inr (9, [.ref sT, .ref sK, .ref sH, .int 0, .int 0, .int 0, .int 0, .int 0])), (aR, .inr (6, [.ref rG, .int 0, .int 0, .int (-1), .null, .int 0, .int 0, .null])), (rG, .inl (cR, 10, .inr (.inr (.inr (.inr gf))))), (g0, .inr (2, [.ref gK, .ref gA, .int 0, .null, .int 0, .int 0])), (gK, .inl (cK, 4, .inl (fun _ => 0))), (gA, .inl (cG, 4, .inl (fun _ => 0)))] s.heap := hP
  have hK : va_K (dC, dI) vwCl [(cR, .object RX2), (cK, .int), (cG, .int)] s := hK
  have hD : va_D A [(h, .inr (11, [.ref aT, .ref aV, .ref aS, .ref aC, .ref aO, .ref aF, .ref aL, .ref aR, .ref aX, .int 0, .int 0, .int 0])), (aS, .inr (9, [.ref sT, .ref sK, .ref sH, .int 0, .int 0, .int 0, .int 0, .int 0])), (aR, .inr (6, [.ref rG, .int 0, .int 0, .int (-1), .null, .int 0, .int 0, .null])), (rG, .inl (cR, 10, .inr (.inr (.inr (.inr gf))))), (g0, .inr (2, [.ref gK, .ref gA, .int 0, .null, .int 0, .int 0])), (gK, .inl (cK, 4, .inl (fun _ => 0))), (gA, .inl (cG, 4, .inl (fun _ => 0)))] := hD
  have hl := lv_entry ([.ref h, .int tm]) (n := 4) (Nat.le_of_ble_eq_true rfl)
  rw [lg_entry_eq]
  generalize (lg_sl ([.ref h, .int tm]) ++ List.replicate (4 - (lg_sl ([.ref h, .int tm])).length) Slot.unset).toArray = ls at hl ⊢
  have hl : lv_has ls 4 [(0, .ref h), (1, .int tm)] := hl
  refine lv_aload_n hx hb dX11_question_0 rfl (lv_at hl 0 rfl) ?_
  refine va_get (D := (dC, dI)) (ci := 11) (v := .int 0) (C := RX11) (T := TX11) (N := 12) hx hb hts in11 hown hK hP 0 rfl rfl 9 (by decide) (hts (.fieldLink RX11 56 "FactKeeper" "tapeLength" "I") (by decide +kernel)) (fun _ h9 => h9) rfl dX11_question_1 ?_
  refine lv_istore_n (lv' := [(2, .int 0), (0, .ref h), (1, .int tm)]) hx hb dX11_question_4 rfl hl (by decide) rfl (fun ls hl => ?_)
  refine lv_aload_n hx hb dX11_question_5 rfl (lv_at hl 1 rfl) ?_
  refine lv_iconst (v := 0) hx hb dX11_question_6 (by decide) ?_
  refine va_put (D := (dC, dI)) (ci := 11) (v := .int 0) (ty := .int) (C := RX11) (T := TX11) (N := 12) hx hb hts in11 tyX11 tyX11_ok nmX11 hown hK hP hD hS 0 rfl rfl 9 (by decide) (hts (.fieldLink RX11 56 "FactKeeper" "tapeLength" "I") (by decide +kernel)) (fun _ h9 => h9) rfl (by decide +kernel) rfl rfl (Nat.le_of_ble_eq_true rfl) dX11_question_7 (fun H locs hP hD hS => ?_)
  have hP : va_P (dC, dI) vwCl [(h, .inr (11, [.ref aT, .ref aV, .ref aS, .ref aC, .ref aO, .ref aF, .ref aL, .ref aR, .ref aX, .int 0, .int 0, .int 0])), (aS, .inr (9, [.ref sT, .ref sK, .ref sH, .int 0, .int 0, .int 0, .int 0, .int 0])), (aR, .inr (6, [.ref rG, .int 0, .int 0, .int (-1), .null, .int 0, .int 0, .null])), (rG, .inl (cR, 10, .inr (.inr (.inr (.inr gf))))), (g0, .inr (2, [.ref gK, .ref gA, .int 0, .null, .int 0, .int 0])), (gK, .inl (cK, 4, .inl (fun _ => 0))), (gA, .inl (cG, 4, .inl (fun _ => 0)))] H := hP
  have hD : va_D A [(h, .inr (11, [.ref aT, .ref aV, .ref aS, .ref aC, .ref aO, .ref aF, .ref aL, .ref aR, .ref aX, .int 0, .int 0, .int 0])), (aS, .inr (9, [.ref sT, .ref sK, .ref sH, .int 0, .int 0, .int 0, .int 0, .int 0])), (aR, .inr (6, [.ref rG, .int 0, .int 0, .int (-1), .null, .int 0, .int 0, .null])), (rG, .inl (cR, 10, .inr (.inr (.inr (.inr gf))))), (g0, .inr (2, [.ref gK, .ref gA, .int 0, .null, .int 0, .int 0])), (gK, .inl (cK, 4, .inl (fun _ => 0))), (gA, .inl (cG, 4, .inl (fun _ => 0)))] := hD
  refine lv_aload_n hx hb dX11_question_10 rfl (lv_at hl 1 rfl) ?_
  refine va_get (D := (dC, dI)) (ci := 11) (v := .ref aR) (C := RX11) (T := TX11) (N := 12) hx hb hts in11 hown hK hP 0 rfl rfl 7 (by decide) (hts (.fieldLink RX11 45 "FactKeeper" "reader" "LFactKeeper$Reader;") (by decide +kernel)) (fun _ h9 => h9) rfl dX11_question_11 ?_
  refine lv_iconst (v := (-1)) hx hb dX11_question_14 (by decide) ?_
  refine va_put (D := (dC, dI)) (ci := 6) (v := .int (-1)) (ty := .int) (C := RX6) (T := TX6) (N := 8) hx hb hts in6 tyX6 tyX6_ok nmX6 hown hK hP hD hS 2 rfl rfl 3 (by decide) (hts (.fieldLink RX11 269 "FactKeeper$Reader" "place" "I") (by decide +kernel)) (fun _ h9 => h9) rfl (by decide +kernel) rfl rfl (Nat.le_of_ble_eq_true rfl) dX11_question_15 (fun H locs hP hD hS => ?_)
  have hP : va_P (dC, dI) vwCl [(h, .inr (11, [.ref aT, .ref aV, .ref aS, .ref aC, .ref aO, .ref aF, .ref aL, .ref aR, .ref aX, .int 0, .int 0, .int 0])), (aS, .inr (9, [.ref sT, .ref sK, .ref sH, .int 0, .int 0, .int 0, .int 0, .int 0])), (aR, .inr (6, [.ref rG, .int 0, .int 0, .int (-1), .null, .int 0, .int 0, .null])), (rG, .inl (cR, 10, .inr (.inr (.inr (.inr gf))))), (g0, .inr (2, [.ref gK, .ref gA, .int 0, .null, .int 0, .int 0])), (gK, .inl (cK, 4, .inl (fun _ => 0))), (gA, .inl (cG, 4, .inl (fun _ => 0)))] H := hP
  have hD : va_D A [(h, .inr (11, [.ref aT, .ref aV, .ref aS, .ref aC, .ref aO, .ref aF, .ref aL, .ref aR, .ref aX, .int 0, .int 0, .int 0])), (aS, .inr (9, [.ref sT, .ref sK, .ref sH, .int 0, .int 0, .int 0, .int 0, .int 0])), (aR, .inr (6, [.ref rG, .int 0, .int 0, .int (-1), .null, .int 0, .int 0, .null])), (rG, .inl (cR, 10, .inr (.inr (.inr (.inr gf))))), (g0, .inr (2, [.ref gK, .ref gA, .int 0, .null, .int 0, .int 0])), (gK, .inl (cK, 4, .inl (fun _ => 0))), (gA, .inl (cG, 4, .inl (fun _ => 0)))] := hD
  refine lv_aload_n hx hb dX11_question_18 rfl (lv_at hl 1 rfl) ?_
  refine lv_iload_n hx hb dX11_question_19 rfl (lv_at hl 2 rfl) ?_
  refine xt_v (wr := [(aR, .inr (6, [.ref rG, .int 0, .int 0, .int (-1), .null, .int 0, .int 0, .null])), (rG, .inl (cR, 10, .inr (.inr (.inr (.inr gf))))), (g0, .inr (2, [.ref gK, .ref gA, .int 0, .null, .int 0, .int 0])), (gK, .inl (cK, 4, .inl (fun _ => 0))), (gA, .inl (cG, 4, .inl (fun _ => 0)))]) (tyr := [(cR, .object RX2), (cK, .int), (cG, .int)]) (vx_runV (As := [.int tm]) (rest := []) ⟨hx, hb, hml, hown, hts⟩ (c_requireTime l hl0 dC dI h aT aV aS aC aO aF aL aR aX sT sK sH tm H.size ) (cwV 1 hts gX11_question_X11_requireTime rfl rfl rfl (by decide +kernel) ⟨Nat.le_of_ble_eq_true rfl, Nat.le_of_ble_eq_true rfl⟩) (ct_preV (ci := 11) (q0 := 0) hP hD hK hS hA hZ rfl rfl [0, 1] [] rfl (by decide) rfl) rfl rfl hl.1 rfl (lv_room (Nat.le_of_ble_eq_true rfl)) dX11_question_20 ⟨Nat.le_of_ble_eq_true rfl, Nat.le_of_ble_eq_true rfl⟩) hP hD hK hS hA [0, 1] [2, 3, 4, 5, 6] [0, 1, 2] rfl rfl (by decide) (by decide) rfl (fun E ce q9 H locs hbx hS hP hD hce hcv hcl => ?_) (fun u H locs w_2 hP hD hK hS => ?_)
  · skip
    exact vx_out (fun x h => (htab x h).elim) hlocks hce hcv hcl (fun t ht _ => tx_xo (Or.inl hbx) hS ht) hS.2.2 (Nat.le_of_ble_eq_true rfl) (Nat.le_of_ble_eq_true rfl)
  · skip
    try dsimp only at w_2
    have hP : va_P (dC, dI) vwCl [(aR, .inr (6, [.ref rG, .int 0, .int 0, .int (-1), .null, .int 0, .int 0, .null])), (rG, .inl (cR, 10, .inr (.inr (.inr (.inr gf))))), (g0, .inr (2, [.ref gK, .ref gA, .int 0, .null, .int 0, .int 0])), (gK, .inl (cK, 4, .inl (fun _ => 0))), (gA, .inl (cG, 4, .inl (fun _ => 0))), (h, .inr (11, [.ref aT, .ref aV, .ref aS, .ref aC, .ref aO, .ref aF, .ref aL, .ref aR, .ref aX, .int 0, .int 0, .int 0])), (aS, .inr (9, [.ref sT, .ref sK, .ref sH, .int 0, .int 0, .int 0, .int 0, .int 0]))] H := hP
    have hD : va_D A [(aR, .inr (6, [.ref rG, .int 0, .int 0, .int (-1), .null, .int 0, .int 0, .null])), (rG, .inl (cR, 10, .inr (.inr (.inr (.inr gf))))), (g0, .inr (2, [.ref gK, .ref gA, .int 0, .null, .int 0, .int 0])), (gK, .inl (cK, 4, .inl (fun _ => 0))), (gA, .inl (cG, 4, .inl (fun _ => 0))), (h, .inr (11, [.ref aT, .ref aV, .ref aS, .ref aC, .ref aO, .ref aF, .ref aL, .ref aR, .ref aX, .int 0, .int 0, .int 0])), (aS, .inr (9, [.ref sT, .ref sK, .ref sH, .int 0, .int 0, .int 0, .int 0, .int 0]))] := hD
    have hK : va_K (dC, dI) vwCl [(cR, .object RX2), (cK, .int), (cG, .int)] s := hK
    refine W.widen (k := 1) (n := 6) (Nat.le_of_ble_eq_true rfl) (Nat.le_of_ble_eq_true rfl) ?_
    refine lv_aload_n hx hb dX11_question_23 rfl (lv_at hl 1 rfl) ?_
    refine va_get (D := (dC, dI)) (ci := 11) (v := .ref aR) (C := RX11) (T := TX11) (N := 12) hx hb hts in11 hown hK hP 5 rfl rfl 7 (by decide) (hts (.fieldLink RX11 45 "FactKeeper" "reader" "LFactKeeper$Reader;") (by decide +kernel)) (fun _ h9 => h9) rfl dX11_question_24 ?_
    refine lv_aload_n hx hb dX11_question_27 rfl (lv_at hl 1 rfl) ?_
    refine va_get (D := (dC, dI)) (ci := 11) (v := .ref aT) (C := RX11) (T := TX11) (N := 12) hx hb hts in11 hown hK hP 5 rfl rfl 0 (by decide) (hts (.fieldLink RX11 9 "FactKeeper" "tape" "[B") (by decide +kernel)) (fun _ h9 => h9) rfl dX11_question_28 ?_
    refine lv_iload_n hx hb dX11_question_31 rfl (lv_at hl 0 rfl) ?_
    refine lv_aload_n hx hb dX11_question_32 rfl (lv_at hl 1 rfl) ?_
    refine va_get (D := (dC, dI)) (ci := 11) (v := .ref aS) (C := RX11) (T := TX11) (N := 12) hx hb hts in11 hown hK hP 5 rfl rfl 2 (by decide) (hts (.fieldLink RX11 20 "FactKeeper" "store" "LFactKeeper$Store;") (by decide +kernel)) (fun _ h9 => h9) rfl dX11_question_33 ?_
    refine xt_v (wr := [(h, .inr (11, [.ref aT, .ref aV, .ref aS, .ref aC, .ref aO, .ref aF, .ref aL, .ref aR, .ref aX, .int 0, .int 0, .int 0])), (aS, .inr (9, [.ref sT, .ref sK, .ref sH, .int 0, .int 0, .int 0, .int 0, .int 0]))]) (tyr := []) (vx_runV (As := [.ref aT, .int 0, .ref aS]) (rest := []) ⟨hx, hb, hml, hown, hts⟩ (c_readQuestion l hl0 dC dI aR rG g0 gK gA cK cG cR gf aT aS H.size (hg)) (cwV 3 hts gX11_question_X6_readQuestion rfl rfl rfl (by decide +kernel) ⟨Nat.le_of_ble_eq_true rfl, Nat.le_of_ble_eq_true rfl⟩) (ct_preV (ci := 6) (q0 := 0) hP hD hK hS hA hZ rfl rfl [0, 1, 2, 3, 4] [0, 1, 2] rfl (by decide) rfl) rfl rfl hl.1 rfl (lv_room (Nat.le_of_ble_eq_true rfl)) dX11_question_36 ⟨Nat.le_of_ble_eq_true rfl, Nat.le_of_ble_eq_true rfl⟩) hP hD hK hS hA [0, 1, 2, 3, 4] [5, 6] [] rfl rfl (by decide) (by decide) rfl (fun E ce q9 H locs hbx hS hP hD hce hcv hcl => ?_) (fun u H locs w_4 hP hD hK hS => ?_)
    · skip
      exact vx_out (fun x h => (htab x h).elim) hlocks hce hcv hcl (fun t ht _ => tx_xo (Or.inr ⟨hbx, w_2⟩) hS ht) hS.2.2 (Nat.le_of_ble_eq_true rfl) (Nat.le_of_ble_eq_true rfl)
    · skip
      exact w_4.elim

set_option maxHeartbeats 4000000 in
set_option maxRecDepth 100000 in
/-- keptCount -/
theorem c_keptCount (l : Launch) (hl0 : l.stackTraces = false) (dC : Nat → ClassId) (dI : Nat → Nat → Nat) (xL : Nat) (lK : Nat) (sz : Nat)  : Met l yX7_keptCount wsX7_keptCount ({ frames := 1, cells := 0, slots := 0, locals := 24 } : Room) (va_Pc [.ref xL] (ct_P (dC, dI) [(xL, .inr (7, [.ref lK, .int 0, .int 0]))] [] sz)) (va_Qi (fun (r : Int32) (u : Unit) => r = 0) (fun (u : Unit) => ct_B (dC, dI) (va_A [(xL, .inr (7, [.ref lK, .int 0, .int 0]))] sz) [(xL, .inr (7, [.ref lK, .int 0, .int 0]))] []) (va_A [(xL, .inr (7, [.ref lK, .int 0, .int 0]))] sz)) 0 0 (va_A [(xL, .inr (7, [.ref lK, .int 0, .int 0]))] sz) := by
  refine Met.ofW (cc := cX7_keptCount) (maxL := 1) (ret := (some .int)) (by decide) rfl ?_
  intro p e s m args below meth c s₁ B hml hv
  obtain ⟨rfl, hsz, hP, hK, hD0, hZ⟩ := hv
  have hx := B.exec
  have hb := B.bytes
  have hr := B.returns
  have hts := atoms_spec (ws := wsX7_keptCount) B.pre
  have hown : s.vm.findClass RX7 = some m.cls := findClass_of_methodNamed B.named
  have hlocks := B.notSynchronized
  have in7 : ∀ w ∈ u_ws RX7 TX7 3, w ∈ wsX7_keptCount := fun w h => (List.mem_cons_of_mem _ (List.mem_append_right _ h))
  subst hsz
  have hD := hD0.self (sz := s.heap.size)
  generalize hAe : va_A [(xL, .inr (7, [.ref lK, .int 0, .int 0]))] s.heap.size = A at hD hZ ⊢
  have hA : ∀ q : Nat, s.heap.size ≤ q → A q := fun q h => by rw [← hAe]; exact Or.inr h
  have hS : va_S A s.heap s.heap [] := va_S.rf
  have hP : va_P (dC, dI) vwCl [(xL, .inr (7, [.ref lK, .int 0, .int 0]))] s.heap := hP
  have hK : va_K (dC, dI) vwCl [] s := hK
  have hD : va_D A [(xL, .inr (7, [.ref lK, .int 0, .int 0]))] := hD
  have hl := lv_entry ([.ref xL]) (n := 1) (Nat.le_of_ble_eq_true rfl)
  rw [lg_entry_eq]
  generalize (lg_sl ([.ref xL]) ++ List.replicate (1 - (lg_sl ([.ref xL])).length) Slot.unset).toArray = ls at hl ⊢
  have hl : lv_has ls 1 [(0, .ref xL)] := hl
  refine lv_aload_n hx hb dX7_keptCount_0 rfl (lv_at hl 0 rfl) ?_
  refine va_get (D := (dC, dI)) (ci := 7) (v := .int 0) (C := RX7) (T := TX7) (N := 3) hx hb hts in7 hown hK hP 0 rfl rfl 2 (by decide) (hts (.fieldLink RX7 15 "FactKeeper$Solutions" "count" "I") (by decide +kernel)) (fun _ h9 => h9) rfl dX7_keptCount_1 ?_
  refine lv_bipush (v := 100) hx hb dX7_keptCount_4 (by decide) ?_
  refine va_mmin hx hb (by rw [hml]; exact hl.1.symm) hown (hts (.methodLink RX7 19 Lib.Math.min.name) (by decide +kernel)) (hts (.static Lib.Math.min.name) (by decide +kernel)) (hts (.initialized "java/lang/Math") (by decide +kernel)) (hts (.code Lib.Math.min.name Lib.Math.min.code 2 (some .int)) (by decide +kernel)) (Nat.le_of_ble_eq_true rfl) (Nat.le_of_ble_eq_true rfl) (Nat.le_of_ble_eq_true rfl) (Nat.le_of_ble_eq_true rfl) dX7_keptCount_6 ?_
  refine lv_topi (fun z_1 ez_1 => ?_)
  obtain rfl : z_1 = 0 := ez_1.trans (by decide)
  have hP9 := hP.sub (ws' := [(xL, .inr (7, [.ref lK, .int 0, .int 0]))]) [0] rfl
  have hD9 := hD.sub (ws' := [(xL, .inr (7, [.ref lK, .int 0, .int 0]))]) [0] (by decide) rfl
  have hK9 := hK.sub (tys' := []) [] rfl
  refine W.widen (k := 0) (n := 0) (Nat.le_of_ble_eq_true rfl) (Nat.le_of_ble_eq_true rfl) ?_
  exact (W.iret (v := 0) hx hb hr (fun t ht hW => ⟨⟨0, (), rfl, rfl, by rw [ht]; exact hP9, va_K.moved hW.alike hK9, hD9⟩, hS.F ht⟩) hS.2.2 dX7_keptCount_9)

set_option maxHeartbeats 4000000 in
set_option maxRecDepth 100000 in
/-- solution throws -/
theorem c_solution (l : Launch) (hl0 : l.stackTraces = false) (dC : Nat → ClassId) (dI : Nat → Nat → Nat) (h : Nat) (aT : Nat) (aV : Nat) (aS : Nat) (aC : Nat) (aO : Nat) (aF : Nat) (aL : Nat) (aR : Nat) (aX : Nat) (xL : Nat) (xS : Nat) (xK : Nat) (xV : Nat) (xW : Nat) (lK : Nat) (ix : Int32) (k : Int32) (sz : Nat)  : vx_Met l yX11_solution wsX11_solution ({ frames := 7, cells := 2, slots := 12, locals := 112 } : Room) (va_Pc [.ref h, .int ix, .int k] (ct_P (dC, dI) [(h, .inr (11, [.ref aT, .ref aV, .ref aS, .ref aC, .ref aO, .ref aF, .ref aL, .ref aR, .ref aX, .int 0, .int 0, .int 0])), (aX, .inr (8, [.ref xL, .int 0, .ref xS, .ref xK, .ref xV, .ref xW, .null, .int 0])), (xL, .inr (7, [.ref lK, .int 0, .int 0]))] [] sz)) (va_Qi (fun (r : Int32) (u : Unit) => False) (fun (u : Unit) => ct_B (dC, dI) (va_A [(h, .inr (11, [.ref aT, .ref aV, .ref aS, .ref aC, .ref aO, .ref aF, .ref aL, .ref aR, .ref aX, .int 0, .int 0, .int 0])), (aX, .inr (8, [.ref xL, .int 0, .ref xS, .ref xK, .ref xV, .ref xW, .null, .int 0])), (xL, .inr (7, [.ref lK, .int 0, .int 0]))] sz) [] []) (va_A [(h, .inr (11, [.ref aT, .ref aV, .ref aS, .ref aC, .ref aO, .ref aF, .ref aL, .ref aR, .ref aX, .int 0, .int 0, .int 0])), (aX, .inr (8, [.ref xL, .int 0, .ref xS, .ref xK, .ref xV, .ref xW, .null, .int 0])), (xL, .inr (7, [.ref lK, .int 0, .int 0]))] sz)) (tx_X (fun E => (E = eIA ∧ (k < 0 ∨ ¬ k ≤ 7)) ∨ (E = eIB ∧ ¬ (k < 0 ∨ ¬ k ≤ 7))) (va_A [(h, .inr (11, [.ref aT, .ref aV, .ref aS, .ref aC, .ref aO, .ref aF, .ref aL, .ref aR, .ref aX, .int 0, .int 0, .int 0])), (aX, .inr (8, [.ref xL, .int 0, .ref xS, .ref xK, .ref xV, .ref xW, .null, .int 0])), (xL, .inr (7, [.ref lK, .int 0, .int 0]))] sz)) 2 12 (va_A [(h, .inr (11, [.ref aT, .ref aV, .ref aS, .ref aC, .ref aO, .ref aF, .ref aL, .ref aR, .ref aX, .int 0, .int 0, .int 0])), (aX, .inr (8, [.ref xL, .int 0, .ref xS, .ref xK, .ref xV, .ref xW, .null, .int 0])), (xL, .inr (7, [.ref lK, .int 0, .int 0]))] sz) := by
  refine vx_ofW (cc := cX11_solution) (maxL := 4) (ret := (some .int)) (by decide) rfl ?_
  intro p e s m args below meth c s₁ B hml htab hv
  obtain ⟨rfl, hsz, hP, hK, hD0, hZ⟩ := hv
  have hx := B.exec
  have hb := B.bytes
  have hr := B.returns
  have hts := atoms_spec (ws := wsX11_solution) B.pre
  have hown : s.vm.findClass RX11 = some m.cls := findClass_of_methodNamed B.named
  have hlocks := B.notSynchronized
  have in8 : ∀ w ∈ u_ws RX8 TX8 8, w ∈ wsX11_solution := fun w h => (List.mem_cons_of_mem _ (List.mem_append_left _ (List.mem_append_left _ (List.mem_append_left _ (List.mem_append_right _ h)))))
  have in11 : ∀ w ∈ u_ws RX11 TX11 12, w ∈ wsX11_solution := fun w h => (List.mem_cons_of_mem _ (List.mem_append_left _ (List.mem_append_left _ (List.mem_append_left _ (List.mem_append_left _ (List.mem_append_right _ h))))))
  subst hsz
  have hD := hD0.self (sz := s.heap.size)
  generalize hAe : va_A [(h, .inr (11, [.ref aT, .ref aV, .ref aS, .ref aC, .ref aO, .ref aF, .ref aL, .ref aR, .ref aX, .int 0, .int 0, .int 0])), (aX, .inr (8, [.ref xL, .int 0, .ref xS, .ref xK, .ref xV, .ref xW, .null, .int 0])), (xL, .inr (7, [.ref lK, .int 0, .int 0]))] s.heap.size = A at hD hZ ⊢
  have hA : ∀ q : Nat, s.heap.size ≤ q → A q := fun q h => by rw [← hAe]; exact Or.inr h
  have hS : va_S A s.heap s.heap [] := va_S.rf
  have hP : va_P (dC, dI) vwCl [(h, .inr (11, [.ref aT, .ref aV, .ref aS, .ref aC, .ref aO, .ref aF, .ref aL, .ref aR, .ref aX, .int 0, .int 0, .int 0])), (aX, .inr (8, [.ref xL, .int 0, .ref xS, .ref xK, .ref xV, .ref xW, .null, .int 0])), (xL, .inr (7, [.ref lK, .int 0, .int 0]))] s.heap := hP
  have hK : va_K (dC, dI) vwCl [] s := hK
  have hD : va_D A [(h, .inr (11, [.ref aT, .ref aV, .ref aS, .ref aC, .ref aO, .ref aF, .ref aL, .ref aR, .ref aX, .int 0, .int 0, .int 0])), (aX, .inr (8, [.ref xL, .int 0, .ref xS, .ref xK, .ref xV, .ref xW, .null, .int 0])), (xL, .inr (7, [.ref lK, .int 0, .int 0]))] := hD
  have hl := lv_entry ([.ref h, .int ix, .int k]) (n := 4) (Nat.le_of_ble_eq_true rfl)
  rw [lg_entry_eq]
  generalize (lg_sl ([.ref h, .int ix, .int k]) ++ List.replicate (4 - (lg_sl ([.ref h, .int ix, .int k])).length) Slot.unset).toArray = ls at hl ⊢
  have hl : lv_has ls 4 [(0, .ref h), (1, .int ix), (2, .int k)] := hl
  refine lv_iload_n hx hb dX11_solution_0 rfl (lv_at hl 2 rfl) ?_
  refine lv_iconst (v := 0) hx hb dX11_solution_1 (by decide) ?_
  refine lv_bipush (v := 7) hx hb dX11_solution_2 (by decide) ?_
  refine xt_v (wr := [(h, .inr (11, [.ref aT, .ref aV, .ref aS, .ref aC, .ref aO, .ref aF, .ref aL, .ref aR, .ref aX, .int 0, .int 0, .int 0])), (aX, .inr (8, [.ref xL, .int 0, .ref xS, .ref xK, .ref xV, .ref xW, .null, .int 0])), (xL, .inr (7, [.ref lK, .int 0, .int 0]))]) (tyr := []) (vx_runS (As := [.int k, .int 0, .int 7]) (rest := []) ⟨hx, hb, hml, hown, hts⟩ (c_requireRange l hl0 dC dI k 0 7 s.heap.size ) (va_cwS 3 hts gX11_solution_X11_requireRange rfl rfl rfl (by decide +kernel) ⟨Nat.le_of_ble_eq_true rfl, Nat.le_of_ble_eq_true rfl⟩) (ct_pre hP hD hK hS hA hZ [] [] rfl (by decide) rfl) rfl rfl hl.1 rfl (lv_room (Nat.le_of_ble_eq_true rfl)) dX11_solution_4 ⟨Nat.le_of_ble_eq_true rfl, Nat.le_of_ble_eq_true rfl⟩) hP hD hK hS hA [] [0, 1, 2] [] rfl rfl (by decide) (by decide) rfl (fun E ce q9 H locs hbx hS hP hD hce hcv hcl => ?_) (fun u H locs w_2 hP hD hK hS => ?_)
  · skip
    exact vx_out (fun x h => (htab x h).elim) hlocks hce hcv hcl (fun t ht _ => tx_xo (Or.inl hbx) hS ht) hS.2.2 (Nat.le_of_ble_eq_true rfl) (Nat.le_of_ble_eq_true rfl)
  · skip
    try dsimp only at w_2
    have hP : va_P (dC, dI) vwCl [(h, .inr (11, [.ref aT, .ref aV, .ref aS, .ref aC, .ref aO, .ref aF, .ref aL, .ref aR, .ref aX, .int 0, .int 0, .int 0])), (aX, .inr (8, [.ref xL, .int 0, .ref xS, .ref xK, .ref xV, .ref xW, .null, .int 0])), (xL, .inr (7, [.ref lK, .int 0, .int 0]))] H := hP
    have hD : va_D A [(h, .inr (11, [.ref aT, .ref aV, .ref aS, .ref aC, .ref aO, .ref aF, .ref aL, .ref aR, .ref aX, .int 0, .int 0, .int 0])), (aX, .inr (8, [.ref xL, .int 0, .ref xS, .ref xK, .ref xV, .ref xW, .null, .int 0])), (xL, .inr (7, [.ref lK, .int 0, .int 0]))] := hD
    have hK : va_K (dC, dI) vwCl [] s := hK
    refine W.widen (k := 1) (n := 6) (Nat.le_of_ble_eq_true rfl) (Nat.le_of_ble_eq_true rfl) ?_
    refine lv_aload_n hx hb dX11_solution_7 rfl (lv_at hl 0 rfl) ?_
    refine va_get (D := (dC, dI)) (ci := 11) (v := .ref aX) (C := RX11) (T := TX11) (N := 12) hx hb hts in11 hown hK hP 0 rfl rfl 8 (by decide) (hts (.fieldLink RX11 52 "FactKeeper" "solver" "LFactKeeper$Solver;") (by decide +kernel)) (fun _ h9 => h9) rfl dX11_solution_8 ?_
    refine va_get (D := (dC, dI)) (ci := 8) (v := .ref xL) (C := RX8) (T := TX8) (N := 8) hx hb hts in8 hown hK hP 1 rfl rfl 0 (by decide) (hts (.fieldLink RX11 281 "FactKeeper$Solver" "latest" "LFactKeeper$Solutions;") (by decide +kernel)) (fun _ h9 => h9) rfl dX11_solution_11 ?_
    refine lv_astore_n (lv' := [(3, .ref xL), (0, .ref h), (1, .int ix), (2, .int k)]) hx hb dX11_solution_14 rfl hl (by decide) rfl (fun ls hl => ?_)
    refine lv_iload_n hx hb dX11_solution_15 rfl (lv_at hl 2 rfl) ?_
    refine lv_if_lt (tgt := 38) hx hb dX11_solution_16 (by decide) (fun c_3 => ?_) (fun c_3 => ?_)
    · skip
      obtain ⟨sa, hsa⟩ := hZ.2.2.2.2.2.2.1.2.2.2.2.2.1
      exact vx_throwSW (cls := eIB) (names := eSup) (A := A) hx hb hl0 hown (by decide +kernel) (by decide +kernel) (hts (.classLink RX11 60 "java/lang/IndexOutOfBoundsException") (by decide +kernel)) (hts (.initialized "java/lang/IndexOutOfBoundsException") (by decide +kernel)) hsa (tx_at hts (fun w h => (List.mem_cons_of_mem _ (List.mem_append_left _ (List.mem_append_right _ h)))) (by decide +kernel) hZ.2.2.2.1.2.2.2.1 hZ.2.2.2.2.2.2.2) (by decide +kernel) hZ.1 hZ.2.1 hS (hl.1.trans hml.symm) dX11_solution_38 dX11_solution_41 dX11_solution_42 dX11_solution_45 dX11_solution_48 (fun x h => (htab x h).elim) (Nat.le_of_ble_eq_true rfl) (Nat.le_of_ble_eq_true rfl) (Nat.le_of_ble_eq_true rfl) (Nat.le_of_ble_eq_true rfl) hlocks (fun t _ h1 h2 => tx_x (Or.inr ⟨rfl, fun h => h.elim w_2.1 (fun q => q w_2.2)⟩) hS h1 h2) hS.2.2 (Nat.le_of_ble_eq_true rfl) (Nat.le_of_ble_eq_true rfl)
    · skip
      refine lv_iload_n hx hb dX11_solution_19 rfl (lv_at hl 2 rfl) ?_
      refine lv_aload_n hx hb dX11_solution_20 rfl (lv_at hl 0 rfl) ?_
      refine ct_i (wr := [(h, .inr (11, [.ref aT, .ref aV, .ref aS, .ref aC, .ref aO, .ref aF, .ref aL, .ref aR, .ref aX, .int 0, .int 0, .int 0])), (aX, .inr (8, [.ref xL, .int 0, .ref xS, .ref xK, .ref xV, .ref xW, .null, .int 0]))]) (tyr := []) (va_runV (As := []) (rest := [.int ix]) ⟨hx, hb, hml, hown, hts⟩ (c_keptCount l hl0 dC dI xL lK H.size ) (cwV 0 hts gX11_solution_X7_keptCount rfl rfl rfl (by decide +kernel) ⟨Nat.le_of_ble_eq_true rfl, Nat.le_of_ble_eq_true rfl⟩) (ct_preV (ci := 7) (q0 := 2) hP hD hK hS hA hZ rfl rfl [2] [] rfl (by decide) rfl) rfl rfl hl.1 rfl (lv_room (Nat.le_of_ble_eq_true rfl)) dX11_solution_21 ⟨Nat.le_of_ble_eq_true rfl, Nat.le_of_ble_eq_true rfl⟩) hP hD hK hS hA [2] [0, 1] [] rfl rfl (by decide) (by decide) rfl (fun r_4 u H locs w_5 hP hD hK hS => ?_)
      try dsimp only at w_5
      have hP : va_P (dC, dI) vwCl [(h, .inr (11, [.ref aT, .ref aV, .ref aS, .ref aC, .ref aO, .ref aF, .ref aL, .ref aR, .ref aX, .int 0, .int 0, .int 0])), (aX, .inr (8, [.ref xL, .int 0, .ref xS, .ref xK, .ref xV, .ref xW, .null, .int 0])), (xL, .inr (7, [.ref lK, .int 0, .int 0]))] H := hP
      have hD : va_D A [(h, .inr (11, [.ref aT, .ref aV, .ref aS, .ref aC, .ref aO, .ref aF, .ref aL, .ref aR, .ref aX, .int 0, .int 0, .int 0])), (aX, .inr (8, [.ref xL, .int 0, .ref xS, .ref xK, .ref xV, .ref xW, .null, .int 0])), (xL, .inr (7, [.ref lK, .int 0, .int 0]))] := hD
      have hK : va_K (dC, dI) vwCl [] s := hK
      obtain rfl : r_4 = 0 := w_5
      refine lv_icmp_ge (tgt := 38) hx hb dX11_solution_24 (by decide) (fun c_6 => ?_) (fun c_6 => absurd (i_nlt c_3) c_6)
      obtain ⟨sa, hsa⟩ := hZ.2.2.2.2.2.2.1.2.2.2.2.2.1
      exact vx_throwSW (cls := eIB) (names := eSup) (A := A) hx hb hl0 hown (by decide +kernel) (by decide +kernel) (hts (.classLink RX11 60 "java/lang/IndexOutOfBoundsException") (by decide +kernel)) (hts (.initialized "java/lang/IndexOutOfBoundsException") (by decide +kernel)) hsa (tx_at hts (fun w h => (List.mem_cons_of_mem _ (List.mem_append_left _ (List.mem_append_right _ h)))) (by decide +kernel) hZ.2.2.2.1.2.2.2.1 hZ.2.2.2.2.2.2.2) (by decide +kernel) hZ.1 hZ.2.1 hS (hl.1.trans hml.symm) dX11_solution_38 dX11_solution_41 dX11_solution_42 dX11_solution_45 dX11_solution_48 (fun x h => (htab x h).elim) (Nat.le_of_ble_eq_true rfl) (Nat.le_of_ble_eq_true rfl) (Nat.le_of_ble_eq_true rfl) (Nat.le_of_ble_eq_true rfl) hlocks (fun t _ h1 h2 => tx_x (Or.inr ⟨rfl, fun h => h.elim w_2.1 (fun q => q w_2.2)⟩) hS h1 h2) hS.2.2 (Nat.le_of_ble_eq_true rfl) (Nat.le_of_ble_eq_true rfl)
