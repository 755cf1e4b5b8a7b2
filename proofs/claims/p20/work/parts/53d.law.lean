set_option maxHeartbeats 4000000 in
set_option maxRecDepth 100000 in
/-- the law at value -/
theorem law_value {p : Program} {l : Launch} {e : Env} {s : State} {m : MethodId} {below : List Frame} {meth : Method} {c : Code} {Q : State → Prop} {b L : Nat} {xs : Nat → Int32} {A : Nat → Prop} {H : Heap} {locs : List Loc} {ls : Array Slot} {cells slots ao xo mo N M : Nat} {a : AS} {f : Nat → Int64} {x y : HS} {i : Int32} (hl0 : l.stackTraces = false) (D : va_G) (cA : Nat → ClassId) (hx : p.tables.exec = Jvm.exec) (hb : c.code = cL_law) (hml : c.maxLocals = 7) (hown : s.vm.findClass RL = some m.cls) (hts : ∀ w ∈ wsL_law, w.before #[Value.ref b] s = true) (hX : va_X b L xs s s.heap) (hbl : b < s.heap.size) (hbA : ¬ A b) (hA : ∀ q : Nat, s.heap.size ≤ q → A q) (hZ : tx_St A s) (hK : va_K D vwCl (tyA cA) s) (hi : 0 ≤ i.toInt ∧ i.toInt + 6 ≤ L) (hL : L ≤ 3072) (hM : M < 300000) (hl : lv_has ls 7 [(4, .int i), (3, .ref ao), (2, .ref mo), (1, .ref xo), (0, .ref b)]) (hk : KZ xo (N + 1) a x) (hR : RM mo M a y) (h : LW D cA A s H locs cells slots ao f x y)
    (K : ∀ (H : Heap) (locs : List Loc) (ls : Array Slot) (cells slots : Nat) (a : AS) (f : Nat → Int64) (x y : HS), lv_has ls 7 [(4, .int i), (3, .ref ao), (2, .ref mo), (1, .ref xo), (0, .ref b)] → KZ xo N a x → RM mo (M + 1) a y → LW D cA A s H locs cells slots ao f x y → W p l e room_1 s m #[Value.ref b] below meth c H locs cells slots Q (F0 m 1032 ls [])) : W p l e room_1 s m #[Value.ref b] below meth c H locs cells slots Q (F0 m 248 ls []) := by
  obtain ⟨hm1, hm2⟩ := RM_o hR
  refine lv_aload_n hx hb dL_law_248 rfl (lv_at hl 3 rfl) ?_
  refine lv_aload_n hx hb dL_law_249 rfl (lv_at hl 4 rfl) ?_
  refine lv_iload hx hb dL_law_250 (lv_at hl 0 rfl) ?_
  refine lv_iconst (v := 1) hx hb dL_law_252 (by decide) ?_
  refine lv_iadd hx hb dL_law_253 ?_
  refine va_sld hx hb hX hbl hbA h.2.2.2.2.2.1 (sc_in (k := 1) hi hL (by decide) (by decide)) dL_law_254 ?_
  refine lv_aload_n hx hb dL_law_255 rfl (lv_at hl 4 rfl) ?_
  refine lv_iload hx hb dL_law_256 (lv_at hl 0 rfl) ?_
  refine lv_iconst (v := 2) hx hb dL_law_258 (by decide) ?_
  refine lv_iadd hx hb dL_law_259 ?_
  refine va_sld hx hb hX hbl hbA h.2.2.2.2.2.1 (sc_in (k := 2) hi hL (by decide) (by decide)) dL_law_260 ?_
  refine lv_aload_n hx hb dL_law_261 rfl (lv_at hl 1 rfl) ?_
  refine l_hlp h (vy_runSW (As := [.ref xo, .int (xs (i + 1).toNatClampNeg), .int (xs (i + 2).toNatClampNeg), .ref ao]) (rest := []) ⟨hx, hb, hml, hown, hts⟩ (L_value l hl0 D cA hk (RM_avw hR hM) H.size) (fun _ _ _ _ _ h => h) (vx_cwSW 4 hts gL_law_L_value rfl rfl rfl (by decide +kernel) ⟨Nat.le_of_ble_eq_true rfl, Nat.le_of_ble_eq_true rfl⟩) (pt_pre h.1 h.2.1 hK h.2.2.2.2.2.1 hA hZ) rfl rfl hl.1 rfl (lv_room (Nat.le_of_ble_eq_true rfl)) dL_law_262 ⟨by have := h.2.2.2.2.2.2.1; show cells + x.c ≤ _; omega, by have := h.2.2.2.2.2.2.2; show slots + x.z ≤ _; omega⟩) hA (fun r1 f x H locs cells slots hq h => ?_)
  refine lv_istore (lv' := [(5, .int r1), (4, .int i), (3, .ref ao), (2, .ref mo), (1, .ref xo), (0, .ref b)]) hx hb dL_law_265 hl (by decide) rfl (fun ls hl => ?_)
  refine lv_aload_n hx hb dL_law_267 rfl (lv_at hl 3 rfl) ?_
  refine lv_aload_n hx hb dL_law_268 rfl (lv_at hl 5 rfl) ?_
  refine lv_iload hx hb dL_law_269 (lv_at hl 1 rfl) ?_
  refine lv_iconst (v := 1) hx hb dL_law_271 (by decide) ?_
  refine lv_iadd hx hb dL_law_272 ?_
  refine va_sld hx hb hX hbl hbA h.2.2.2.2.2.1 (sc_in (k := 1) hi hL (by decide) (by decide)) dL_law_273 ?_
  refine lv_aload_n hx hb dL_law_274 rfl (lv_at hl 5 rfl) ?_
  refine lv_iload hx hb dL_law_275 (lv_at hl 1 rfl) ?_
  refine lv_iconst (v := 2) hx hb dL_law_277 (by decide) ?_
  refine lv_iadd hx hb dL_law_278 ?_
  refine va_sld hx hb hX hbl hbA h.2.2.2.2.2.1 (sc_in (k := 2) hi hL (by decide) (by decide)) dL_law_279 ?_
  refine l_ref h (vy_runV (C := RX12) (b := mo) (As := [.int (xs (i + 1).toNatClampNeg), .int (xs (i + 2).toNatClampNeg)]) (rest := []) (n := 2) ⟨hx, hb, hml, hown, hts⟩ (T_X12_value (X := fun _ _ => False) l hl0 D cA (rc_value hR hM (xs (i + 1).toNatClampNeg) (xs (i + 2).toNatClampNeg)) H.size) (cwV 2 hts gL_law_X12_value rfl rfl rfl (by decide +kernel) ⟨Nat.le_of_ble_eq_true rfl, Nat.le_of_ble_eq_true rfl⟩) (hg_recv hK h.2.2.1 h.2.2.2.1 h.2.2.2.2.2.1 hA hZ hm1 hm2 (by decide) rfl) rfl rfl hl.1 rfl (lv_room (Nat.le_of_ble_eq_true rfl)) dL_law_280 ⟨by have := h.2.2.2.2.2.2.1; show cells + y.c ≤ _; omega, by have := h.2.2.2.2.2.2.2; show slots + y.z ≤ _; omega⟩) hA (fun r2 y H locs cells slots hq2 h => ?_)
  refine lv_istore (lv' := [(6, .int r2), (5, .int r1), (4, .int i), (3, .ref ao), (2, .ref mo), (1, .ref xo), (0, .ref b)]) hx hb dL_law_283 hl (by decide) rfl (fun ls hl => ?_)
  refine lv_goto (tgt := 1032) hx hb dL_law_285 (by decide) ?_
  exact K H locs ls cells slots _ f x y (lv_sub hl [2, 3, 4, 5, 6] rfl) hq.2 hq2.2 h

set_option maxHeartbeats 4000000 in
set_option maxRecDepth 100000 in
/-- the law at add -/
theorem law_add {p : Program} {l : Launch} {e : Env} {s : State} {m : MethodId} {below : List Frame} {meth : Method} {c : Code} {Q : State → Prop} {b L : Nat} {xs : Nat → Int32} {A : Nat → Prop} {H : Heap} {locs : List Loc} {ls : Array Slot} {cells slots ao xo mo N M : Nat} {a : AS} {f : Nat → Int64} {x y : HS} {i : Int32} (hl0 : l.stackTraces = false) (D : va_G) (cA : Nat → ClassId) (hx : p.tables.exec = Jvm.exec) (hb : c.code = cL_law) (hml : c.maxLocals = 7) (hown : s.vm.findClass RL = some m.cls) (hts : ∀ w ∈ wsL_law, w.before #[Value.ref b] s = true) (hX : va_X b L xs s s.heap) (hbl : b < s.heap.size) (hbA : ¬ A b) (hA : ∀ q : Nat, s.heap.size ≤ q → A q) (hZ : tx_St A s) (hK : va_K D vwCl (tyA cA) s) (hi : 0 ≤ i.toInt ∧ i.toInt + 6 ≤ L) (hL : L ≤ 3072) (hM : M < 300000) (hl : lv_has ls 7 [(4, .int i), (3, .ref ao), (2, .ref mo), (1, .ref xo), (0, .ref b)]) (hk : KZ xo (N + 1) a x) (hR : RM mo M a y) (h : LW D cA A s H locs cells slots ao f x y)
    (K : ∀ (H : Heap) (locs : List Loc) (ls : Array Slot) (cells slots : Nat) (a : AS) (f : Nat → Int64) (x y : HS), lv_has ls 7 [(4, .int i), (3, .ref ao), (2, .ref mo), (1, .ref xo), (0, .ref b)] → KZ xo N a x → RM mo (M + 1) a y → LW D cA A s H locs cells slots ao f x y → W p l e room_1 s m #[Value.ref b] below meth c H locs cells slots Q (F0 m 1032 ls [])) : W p l e room_1 s m #[Value.ref b] below meth c H locs cells slots Q (F0 m 396 ls []) := by
  obtain ⟨hm1, hm2⟩ := RM_o hR
  refine lv_aload_n hx hb dL_law_396 rfl (lv_at hl 3 rfl) ?_
  refine lv_aload_n hx hb dL_law_397 rfl (lv_at hl 4 rfl) ?_
  refine lv_iload hx hb dL_law_398 (lv_at hl 0 rfl) ?_
  refine lv_iconst (v := 1) hx hb dL_law_400 (by decide) ?_
  refine lv_iadd hx hb dL_law_401 ?_
  refine va_sld hx hb hX hbl hbA h.2.2.2.2.2.1 (sc_in (k := 1) hi hL (by decide) (by decide)) dL_law_402 ?_
  refine lv_aload_n hx hb dL_law_403 rfl (lv_at hl 4 rfl) ?_
  refine lv_iload hx hb dL_law_404 (lv_at hl 0 rfl) ?_
  refine lv_iconst (v := 2) hx hb dL_law_406 (by decide) ?_
  refine lv_iadd hx hb dL_law_407 ?_
  refine va_sld hx hb hX hbl hbA h.2.2.2.2.2.1 (sc_in (k := 2) hi hL (by decide) (by decide)) dL_law_408 ?_
  refine lv_aload_n hx hb dL_law_409 rfl (lv_at hl 1 rfl) ?_
  refine l_hlp h (vy_runSW (As := [.ref xo, .int (xs (i + 1).toNatClampNeg), .int (xs (i + 2).toNatClampNeg), .ref ao]) (rest := []) ⟨hx, hb, hml, hown, hts⟩ (L_add l hl0 D cA hk (RM_avw hR hM) H.size) (fun _ _ _ _ _ h => h) (vx_cwSW 4 hts gL_law_L_add rfl rfl rfl (by decide +kernel) ⟨Nat.le_of_ble_eq_true rfl, Nat.le_of_ble_eq_true rfl⟩) (pt_pre h.1 h.2.1 hK h.2.2.2.2.2.1 hA hZ) rfl rfl hl.1 rfl (lv_room (Nat.le_of_ble_eq_true rfl)) dL_law_410 ⟨by have := h.2.2.2.2.2.2.1; show cells + x.c ≤ _; omega, by have := h.2.2.2.2.2.2.2; show slots + x.z ≤ _; omega⟩) hA (fun r1 f x H locs cells slots hq h => ?_)
  refine lv_istore (lv' := [(5, .int r1), (4, .int i), (3, .ref ao), (2, .ref mo), (1, .ref xo), (0, .ref b)]) hx hb dL_law_413 hl (by decide) rfl (fun ls hl => ?_)
  refine lv_aload_n hx hb dL_law_415 rfl (lv_at hl 3 rfl) ?_
  refine lv_aload_n hx hb dL_law_416 rfl (lv_at hl 5 rfl) ?_
  refine lv_iload hx hb dL_law_417 (lv_at hl 1 rfl) ?_
  refine lv_iconst (v := 1) hx hb dL_law_419 (by decide) ?_
  refine lv_iadd hx hb dL_law_420 ?_
  refine va_sld hx hb hX hbl hbA h.2.2.2.2.2.1 (sc_in (k := 1) hi hL (by decide) (by decide)) dL_law_421 ?_
  refine lv_aload_n hx hb dL_law_422 rfl (lv_at hl 5 rfl) ?_
  refine lv_iload hx hb dL_law_423 (lv_at hl 1 rfl) ?_
  refine lv_iconst (v := 2) hx hb dL_law_425 (by decide) ?_
  refine lv_iadd hx hb dL_law_426 ?_
  refine va_sld hx hb hX hbl hbA h.2.2.2.2.2.1 (sc_in (k := 2) hi hL (by decide) (by decide)) dL_law_427 ?_
  refine l_ref h (vy_runV (C := RX12) (b := mo) (As := [.int (xs (i + 1).toNatClampNeg), .int (xs (i + 2).toNatClampNeg)]) (rest := []) (n := 2) ⟨hx, hb, hml, hown, hts⟩ (T_X12_add (X := fun _ _ => False) l hl0 D cA (rc_add hR hM (xs (i + 1).toNatClampNeg) (xs (i + 2).toNatClampNeg)) H.size) (cwV 2 hts gL_law_X12_add rfl rfl rfl (by decide +kernel) ⟨Nat.le_of_ble_eq_true rfl, Nat.le_of_ble_eq_true rfl⟩) (hg_recv hK h.2.2.1 h.2.2.2.1 h.2.2.2.2.2.1 hA hZ hm1 hm2 (by decide) rfl) rfl rfl hl.1 rfl (lv_room (Nat.le_of_ble_eq_true rfl)) dL_law_428 ⟨by have := h.2.2.2.2.2.2.1; show cells + y.c ≤ _; omega, by have := h.2.2.2.2.2.2.2; show slots + y.z ≤ _; omega⟩) hA (fun r2 y H locs cells slots hq2 h => ?_)
  refine lv_istore (lv' := [(6, .int r2), (5, .int r1), (4, .int i), (3, .ref ao), (2, .ref mo), (1, .ref xo), (0, .ref b)]) hx hb dL_law_431 hl (by decide) rfl (fun ls hl => ?_)
  refine lv_goto (tgt := 1032) hx hb dL_law_433 (by decide) ?_
  exact K H locs ls cells slots _ f x y (lv_sub hl [2, 3, 4, 5, 6] rfl) hq.2 hq2.2 h

set_option maxHeartbeats 4000000 in
set_option maxRecDepth 100000 in
/-- the law at open -/
theorem law_open {p : Program} {l : Launch} {e : Env} {s : State} {m : MethodId} {below : List Frame} {meth : Method} {c : Code} {Q : State → Prop} {b L : Nat} {xs : Nat → Int32} {A : Nat → Prop} {H : Heap} {locs : List Loc} {ls : Array Slot} {cells slots ao xo mo N M : Nat} {a : AS} {f : Nat → Int64} {x y : HS} {i : Int32} (hl0 : l.stackTraces = false) (D : va_G) (cA : Nat → ClassId) (hx : p.tables.exec = Jvm.exec) (hb : c.code = cL_law) (hml : c.maxLocals = 7) (hown : s.vm.findClass RL = some m.cls) (hts : ∀ w ∈ wsL_law, w.before #[Value.ref b] s = true) (hX : va_X b L xs s s.heap) (hbl : b < s.heap.size) (hbA : ¬ A b) (hA : ∀ q : Nat, s.heap.size ≤ q → A q) (hZ : tx_St A s) (hK : va_K D vwCl (tyA cA) s) (hi : 0 ≤ i.toInt ∧ i.toInt + 6 ≤ L) (hL : L ≤ 3072) (hM : M < 300000) (hl : lv_has ls 7 [(4, .int i), (3, .ref ao), (2, .ref mo), (1, .ref xo), (0, .ref b)]) (hk : KZ xo (N + 1) a x) (hR : RM mo M a y) (h : LW D cA A s H locs cells slots ao f x y)
    (K : ∀ (H : Heap) (locs : List Loc) (ls : Array Slot) (cells slots : Nat) (a : AS) (f : Nat → Int64) (x y : HS), lv_has ls 7 [(4, .int i), (3, .ref ao), (2, .ref mo), (1, .ref xo), (0, .ref b)] → KZ xo N a x → RM mo (M + 1) a y → LW D cA A s H locs cells slots ao f x y → W p l e room_1 s m #[Value.ref b] below meth c H locs cells slots Q (F0 m 1032 ls [])) : W p l e room_1 s m #[Value.ref b] below meth c H locs cells slots Q (F0 m 592 ls []) := by
  obtain ⟨hm1, hm2⟩ := RM_o hR
  refine lv_aload_n hx hb dL_law_592 rfl (lv_at hl 3 rfl) ?_
  refine lv_aload_n hx hb dL_law_593 rfl (lv_at hl 4 rfl) ?_
  refine lv_iload hx hb dL_law_594 (lv_at hl 0 rfl) ?_
  refine lv_iconst (v := 1) hx hb dL_law_596 (by decide) ?_
  refine lv_iadd hx hb dL_law_597 ?_
  refine va_sld hx hb hX hbl hbA h.2.2.2.2.2.1 (sc_in (k := 1) hi hL (by decide) (by decide)) dL_law_598 ?_
  refine lv_aload_n hx hb dL_law_599 rfl (lv_at hl 4 rfl) ?_
  refine lv_iload hx hb dL_law_600 (lv_at hl 0 rfl) ?_
  refine lv_iconst (v := 2) hx hb dL_law_602 (by decide) ?_
  refine lv_iadd hx hb dL_law_603 ?_
  refine va_sld hx hb hX hbl hbA h.2.2.2.2.2.1 (sc_in (k := 2) hi hL (by decide) (by decide)) dL_law_604 ?_
  refine lv_aload_n hx hb dL_law_605 rfl (lv_at hl 4 rfl) ?_
  refine lv_iload hx hb dL_law_606 (lv_at hl 0 rfl) ?_
  refine lv_iconst (v := 3) hx hb dL_law_608 (by decide) ?_
  refine lv_iadd hx hb dL_law_609 ?_
  refine va_sld hx hb hX hbl hbA h.2.2.2.2.2.1 (sc_in (k := 3) hi hL (by decide) (by decide)) dL_law_610 ?_
  refine lv_aload_n hx hb dL_law_611 rfl (lv_at hl 1 rfl) ?_
  refine l_hlp h (vy_runSW (As := [.ref xo, .int (xs (i + 1).toNatClampNeg), .int (xs (i + 2).toNatClampNeg), .int (xs (i + 3).toNatClampNeg), .ref ao]) (rest := []) ⟨hx, hb, hml, hown, hts⟩ (L_open l hl0 D cA hk (RM_avw hR hM) H.size) (fun _ _ _ _ _ h => h) (vx_cwSW 5 hts gL_law_L_open rfl rfl rfl (by decide +kernel) ⟨Nat.le_of_ble_eq_true rfl, Nat.le_of_ble_eq_true rfl⟩) (pt_pre h.1 h.2.1 hK h.2.2.2.2.2.1 hA hZ) rfl rfl hl.1 rfl (lv_room (Nat.le_of_ble_eq_true rfl)) dL_law_612 ⟨by have := h.2.2.2.2.2.2.1; show cells + x.c ≤ _; omega, by have := h.2.2.2.2.2.2.2; show slots + x.z ≤ _; omega⟩) hA (fun r1 f x H locs cells slots hq h => ?_)
  refine lv_istore (lv' := [(5, .int r1), (4, .int i), (3, .ref ao), (2, .ref mo), (1, .ref xo), (0, .ref b)]) hx hb dL_law_615 hl (by decide) rfl (fun ls hl => ?_)
  refine lv_aload_n hx hb dL_law_617 rfl (lv_at hl 3 rfl) ?_
  refine lv_aload_n hx hb dL_law_618 rfl (lv_at hl 5 rfl) ?_
  refine lv_iload hx hb dL_law_619 (lv_at hl 1 rfl) ?_
  refine lv_iconst (v := 1) hx hb dL_law_621 (by decide) ?_
  refine lv_iadd hx hb dL_law_622 ?_
  refine va_sld hx hb hX hbl hbA h.2.2.2.2.2.1 (sc_in (k := 1) hi hL (by decide) (by decide)) dL_law_623 ?_
  refine lv_aload_n hx hb dL_law_624 rfl (lv_at hl 5 rfl) ?_
  refine lv_iload hx hb dL_law_625 (lv_at hl 1 rfl) ?_
  refine lv_iconst (v := 2) hx hb dL_law_627 (by decide) ?_
  refine lv_iadd hx hb dL_law_628 ?_
  refine va_sld hx hb hX hbl hbA h.2.2.2.2.2.1 (sc_in (k := 2) hi hL (by decide) (by decide)) dL_law_629 ?_
  refine lv_aload_n hx hb dL_law_630 rfl (lv_at hl 5 rfl) ?_
  refine lv_iload hx hb dL_law_631 (lv_at hl 1 rfl) ?_
  refine lv_iconst (v := 3) hx hb dL_law_633 (by decide) ?_
  refine lv_iadd hx hb dL_law_634 ?_
  refine va_sld hx hb hX hbl hbA h.2.2.2.2.2.1 (sc_in (k := 3) hi hL (by decide) (by decide)) dL_law_635 ?_
  refine l_ref h (vy_runV (C := RX12) (b := mo) (As := [.int (xs (i + 1).toNatClampNeg), .int (xs (i + 2).toNatClampNeg), .int (xs (i + 3).toNatClampNeg)]) (rest := []) (n := 3) ⟨hx, hb, hml, hown, hts⟩ (T_X12_open (X := fun _ _ => False) l hl0 D cA (rc_open hR hM (xs (i + 1).toNatClampNeg) (xs (i + 2).toNatClampNeg) (xs (i + 3).toNatClampNeg)) H.size) (cwV 3 hts gL_law_X12_open rfl rfl rfl (by decide +kernel) ⟨Nat.le_of_ble_eq_true rfl, Nat.le_of_ble_eq_true rfl⟩) (hg_recv hK h.2.2.1 h.2.2.2.1 h.2.2.2.2.2.1 hA hZ hm1 hm2 (by decide) rfl) rfl rfl hl.1 rfl (lv_room (Nat.le_of_ble_eq_true rfl)) dL_law_636 ⟨by have := h.2.2.2.2.2.2.1; show cells + y.c ≤ _; omega, by have := h.2.2.2.2.2.2.2; show slots + y.z ≤ _; omega⟩) hA (fun r2 y H locs cells slots hq2 h => ?_)
  refine lv_istore (lv' := [(6, .int r2), (5, .int r1), (4, .int i), (3, .ref ao), (2, .ref mo), (1, .ref xo), (0, .ref b)]) hx hb dL_law_639 hl (by decide) rfl (fun ls hl => ?_)
  refine lv_goto (tgt := 1032) hx hb dL_law_641 (by decide) ?_
  exact K H locs ls cells slots _ f x y (lv_sub hl [2, 3, 4, 5, 6] rfl) hq.2 hq2.2 h

set_option maxHeartbeats 4000000 in
set_option maxRecDepth 100000 in
/-- the law at mark -/
theorem law_mark {p : Program} {l : Launch} {e : Env} {s : State} {m : MethodId} {below : List Frame} {meth : Method} {c : Code} {Q : State → Prop} {b L : Nat} {xs : Nat → Int32} {A : Nat → Prop} {H : Heap} {locs : List Loc} {ls : Array Slot} {cells slots ao xo mo N M : Nat} {a : AS} {f : Nat → Int64} {x y : HS} {i : Int32} (hl0 : l.stackTraces = false) (D : va_G) (cA : Nat → ClassId) (hx : p.tables.exec = Jvm.exec) (hb : c.code = cL_law) (hml : c.maxLocals = 7) (hown : s.vm.findClass RL = some m.cls) (hts : ∀ w ∈ wsL_law, w.before #[Value.ref b] s = true) (hX : va_X b L xs s s.heap) (hbl : b < s.heap.size) (hbA : ¬ A b) (hA : ∀ q : Nat, s.heap.size ≤ q → A q) (hZ : tx_St A s) (hK : va_K D vwCl (tyA cA) s) (hi : 0 ≤ i.toInt ∧ i.toInt + 6 ≤ L) (hL : L ≤ 3072) (hM : M < 300000) (hl : lv_has ls 7 [(4, .int i), (3, .ref ao), (2, .ref mo), (1, .ref xo), (0, .ref b)]) (hk : KZ xo (N + 1) a x) (hR : RM mo M a y) (h : LW D cA A s H locs cells slots ao f x y)
    (K : ∀ (H : Heap) (locs : List Loc) (ls : Array Slot) (cells slots : Nat) (a : AS) (f : Nat → Int64) (x y : HS), lv_has ls 7 [(4, .int i), (3, .ref ao), (2, .ref mo), (1, .ref xo), (0, .ref b)] → KZ xo N a x → RM mo (M + 1) a y → LW D cA A s H locs cells slots ao f x y → W p l e room_1 s m #[Value.ref b] below meth c H locs cells slots Q (F0 m 1032 ls [])) : W p l e room_1 s m #[Value.ref b] below meth c H locs cells slots Q (F0 m 740 ls []) := by
  obtain ⟨hm1, hm2⟩ := RM_o hR
  refine lv_aload_n hx hb dL_law_740 rfl (lv_at hl 3 rfl) ?_
  refine lv_aload_n hx hb dL_law_741 rfl (lv_at hl 1 rfl) ?_
  refine l_hlp h (vy_runSW (As := [.ref xo, .ref ao]) (rest := []) ⟨hx, hb, hml, hown, hts⟩ (L_mark l hl0 D cA hk (RM_avw hR hM) H.size) (fun _ _ _ _ _ h => h) (vx_cwSW 2 hts gL_law_L_mark rfl rfl rfl (by decide +kernel) ⟨Nat.le_of_ble_eq_true rfl, Nat.le_of_ble_eq_true rfl⟩) (pt_pre h.1 h.2.1 hK h.2.2.2.2.2.1 hA hZ) rfl rfl hl.1 rfl (lv_room (Nat.le_of_ble_eq_true rfl)) dL_law_742 ⟨by have := h.2.2.2.2.2.2.1; show cells + x.c ≤ _; omega, by have := h.2.2.2.2.2.2.2; show slots + x.z ≤ _; omega⟩) hA (fun r1 f x H locs cells slots hq h => ?_)
  refine lv_istore (lv' := [(5, .int r1), (4, .int i), (3, .ref ao), (2, .ref mo), (1, .ref xo), (0, .ref b)]) hx hb dL_law_745 hl (by decide) rfl (fun ls hl => ?_)
  refine lv_aload_n hx hb dL_law_747 rfl (lv_at hl 3 rfl) ?_
  refine l_ref h (vy_runV (C := RX12) (b := mo) (As := []) (rest := []) (n := 0) ⟨hx, hb, hml, hown, hts⟩ (T_X12_mark (X := fun _ _ => False) l hl0 D cA (rc_mark hR hM ) H.size) (cwV 0 hts gL_law_X12_mark rfl rfl rfl (by decide +kernel) ⟨Nat.le_of_ble_eq_true rfl, Nat.le_of_ble_eq_true rfl⟩) (hg_recv hK h.2.2.1 h.2.2.2.1 h.2.2.2.2.2.1 hA hZ hm1 hm2 (by decide) rfl) rfl rfl hl.1 rfl (lv_room (Nat.le_of_ble_eq_true rfl)) dL_law_748 ⟨by have := h.2.2.2.2.2.2.1; show cells + y.c ≤ _; omega, by have := h.2.2.2.2.2.2.2; show slots + y.z ≤ _; omega⟩) hA (fun r2 y H locs cells slots hq2 h => ?_)
  refine lv_istore (lv' := [(6, .int r2), (5, .int r1), (4, .int i), (3, .ref ao), (2, .ref mo), (1, .ref xo), (0, .ref b)]) hx hb dL_law_751 hl (by decide) rfl (fun ls hl => ?_)
  refine lv_goto (tgt := 1032) hx hb dL_law_753 (by decide) ?_
  exact K H locs ls cells slots _ f x y (lv_sub hl [2, 3, 4, 5, 6] rfl) hq.2 hq2.2 h

set_option maxHeartbeats 4000000 in
set_option maxRecDepth 100000 in
/-- the law at found -/
theorem law_found {p : Program} {l : Launch} {e : Env} {s : State} {m : MethodId} {below : List Frame} {meth : Method} {c : Code} {Q : State → Prop} {b L : Nat} {xs : Nat → Int32} {A : Nat → Prop} {H : Heap} {locs : List Loc} {ls : Array Slot} {cells slots ao xo mo N M : Nat} {a : AS} {f : Nat → Int64} {x y : HS} {i : Int32} (hl0 : l.stackTraces = false) (D : va_G) (cA : Nat → ClassId) (hx : p.tables.exec = Jvm.exec) (hb : c.code = cL_law) (hml : c.maxLocals = 7) (hown : s.vm.findClass RL = some m.cls) (hts : ∀ w ∈ wsL_law, w.before #[Value.ref b] s = true) (hX : va_X b L xs s s.heap) (hbl : b < s.heap.size) (hbA : ¬ A b) (hA : ∀ q : Nat, s.heap.size ≤ q → A q) (hZ : tx_St A s) (hK : va_K D vwCl (tyA cA) s) (hi : 0 ≤ i.toInt ∧ i.toInt + 6 ≤ L) (hL : L ≤ 3072) (hM : M < 300000) (hl : lv_has ls 7 [(4, .int i), (3, .ref ao), (2, .ref mo), (1, .ref xo), (0, .ref b)]) (hk : KZ xo (N + 1) a x) (hR : RM mo M a y) (h : LW D cA A s H locs cells slots ao f x y)
    (K : ∀ (H : Heap) (locs : List Loc) (ls : Array Slot) (cells slots : Nat) (a : AS) (f : Nat → Int64) (x y : HS), lv_has ls 7 [(4, .int i), (3, .ref ao), (2, .ref mo), (1, .ref xo), (0, .ref b)] → KZ xo N a x → RM mo (M + 1) a y → LW D cA A s H locs cells slots ao f x y → W p l e room_1 s m #[Value.ref b] below meth c H locs cells slots Q (F0 m 1032 ls [])) : W p l e room_1 s m #[Value.ref b] below meth c H locs cells slots Q (F0 m 880 ls []) := by
  obtain ⟨hm1, hm2⟩ := RM_o hR
  refine lv_aload_n hx hb dL_law_880 rfl (lv_at hl 3 rfl) ?_
  refine lv_aload_n hx hb dL_law_881 rfl (lv_at hl 4 rfl) ?_
  refine lv_iload hx hb dL_law_882 (lv_at hl 0 rfl) ?_
  refine lv_iconst (v := 1) hx hb dL_law_884 (by decide) ?_
  refine lv_iadd hx hb dL_law_885 ?_
  refine va_sld hx hb hX hbl hbA h.2.2.2.2.2.1 (sc_in (k := 1) hi hL (by decide) (by decide)) dL_law_886 ?_
  refine lv_aload_n hx hb dL_law_887 rfl (lv_at hl 1 rfl) ?_
  refine l_hlp h (vy_runSW (As := [.ref xo, .int (xs (i + 1).toNatClampNeg), .ref ao]) (rest := []) ⟨hx, hb, hml, hown, hts⟩ (L_found l hl0 D cA hk (RM_avw hR hM) H.size) (fun _ _ _ _ _ h => h) (vx_cwSW 3 hts gL_law_L_found rfl rfl rfl (by decide +kernel) ⟨Nat.le_of_ble_eq_true rfl, Nat.le_of_ble_eq_true rfl⟩) (pt_pre h.1 h.2.1 hK h.2.2.2.2.2.1 hA hZ) rfl rfl hl.1 rfl (lv_room (Nat.le_of_ble_eq_true rfl)) dL_law_888 ⟨by have := h.2.2.2.2.2.2.1; show cells + x.c ≤ _; omega, by have := h.2.2.2.2.2.2.2; show slots + x.z ≤ _; omega⟩) hA (fun r1 f x H locs cells slots hq h => ?_)
  refine lv_istore (lv' := [(5, .int r1), (4, .int i), (3, .ref ao), (2, .ref mo), (1, .ref xo), (0, .ref b)]) hx hb dL_law_891 hl (by decide) rfl (fun ls hl => ?_)
  refine lv_aload_n hx hb dL_law_893 rfl (lv_at hl 3 rfl) ?_
  refine lv_aload_n hx hb dL_law_894 rfl (lv_at hl 5 rfl) ?_
  refine lv_iload hx hb dL_law_895 (lv_at hl 1 rfl) ?_
  refine lv_iconst (v := 1) hx hb dL_law_897 (by decide) ?_
  refine lv_iadd hx hb dL_law_898 ?_
  refine va_sld hx hb hX hbl hbA h.2.2.2.2.2.1 (sc_in (k := 1) hi hL (by decide) (by decide)) dL_law_899 ?_
  refine l_ref h (vy_runV (C := RX12) (b := mo) (As := [.int (xs (i + 1).toNatClampNeg)]) (rest := []) (n := 1) ⟨hx, hb, hml, hown, hts⟩ (T_X12_found (X := fun _ _ => False) l hl0 D cA (rc_found hR hM (xs (i + 1).toNatClampNeg)) H.size) (cwV 1 hts gL_law_X12_found rfl rfl rfl (by decide +kernel) ⟨Nat.le_of_ble_eq_true rfl, Nat.le_of_ble_eq_true rfl⟩) (hg_recv hK h.2.2.1 h.2.2.2.1 h.2.2.2.2.2.1 hA hZ hm1 hm2 (by decide) rfl) rfl rfl hl.1 rfl (lv_room (Nat.le_of_ble_eq_true rfl)) dL_law_900 ⟨by have := h.2.2.2.2.2.2.1; show cells + y.c ≤ _; omega, by have := h.2.2.2.2.2.2.2; show slots + y.z ≤ _; omega⟩) hA (fun r2 y H locs cells slots hq2 h => ?_)
  refine lv_istore (lv' := [(6, .int r2), (5, .int r1), (4, .int i), (3, .ref ao), (2, .ref mo), (1, .ref xo), (0, .ref b)]) hx hb dL_law_903 hl (by decide) rfl (fun ls hl => ?_)
  obtain ⟨hth, hf0⟩ := HQ_det hq.1 hq2.1
  refine lv_aload_n hx hb dL_law_905 rfl (lv_at hl 4 rfl) ?_
  refine l_ref h (vy_runV (C := RX12) (b := mo) (As := []) (rest := []) (n := 0) ⟨hx, hb, hml, hown, hts⟩ (T_X12_thrown (X := fun _ _ => False) l hl0 D cA (rc_thrown hq2.2) H.size) (cwV 0 hts gL_law_X12_thrown rfl rfl rfl (by decide +kernel) ⟨Nat.le_of_ble_eq_true rfl, Nat.le_of_ble_eq_true rfl⟩) (hg_recv hK h.2.2.1 h.2.2.2.1 h.2.2.2.2.2.1 hA hZ (RM_o hq2.2).1 (RM_o hq2.2).2 (by decide) rfl) rfl rfl hl.1 rfl (lv_room (Nat.le_of_ble_eq_true rfl)) dL_law_906 ⟨by have := h.2.2.2.2.2.2.1; show cells + y.c ≤ _; omega, by have := h.2.2.2.2.2.2.2; show slots + y.z ≤ _; omega⟩) hA (fun r3 y3 H locs cells slots hq3 h3 => ?_)
  obtain ⟨hq3, rfl⟩ := hq3
  obtain rfl : r3 = r1 := hq3.trans hth
  refine lv_iload hx hb dL_law_909 (lv_at hl 1 rfl) ?_
  refine lv_icmp_eq (tgt := 916) hx hb dL_law_911 (by decide) (fun _ => ?_) (fun z => absurd rfl z)
  refine lv_iload hx hb dL_law_916 (lv_at hl 1 rfl) ?_
  refine lv_if_ne (tgt := 933) hx hb dL_law_918 (by decide) (fun _ => ?_) (fun z0 => ?_)
  · refine lv_goto (tgt := 1032) hx hb dL_law_933 (by decide) ?_
    exact K H locs ls cells slots _ f x y3 (lv_sub hl [2, 3, 4, 5, 6] rfl) hq.2 hq2.2 h3
  · skip
    have hf0 := hf0 z0
    refine lv_aload_n hx hb dL_law_921 rfl (lv_at hl 3 rfl) ?_
    refine lv_iconst (v := 0) hx hb dL_law_922 (by decide) ?_
    refine va_lald (n := 1) (f := f) (i := 0) hx hb hK h3.1 0 9 rfl rfl (by unfold vp_in; decide) dL_law_923 ?_
    rw [show f (0 : Int32).toNatClampNeg = r2.toInt64 from hf0]
    refine lv_iload hx hb dL_law_924 (lv_at hl 0 rfl) ?_
    refine lv_i2l (v := r2.toInt64) hx hb dL_law_926 rfl ?_
    refine tx_lcmpE hx hb dL_law_927 ?_
    refine lv_if_eq (tgt := 933) hx hb dL_law_928 (by decide) (fun _ => ?_) (fun z => absurd rfl z)
    refine lv_goto (tgt := 1032) hx hb dL_law_933 (by decide) ?_
    exact K H locs ls cells slots _ f x y3 (lv_sub hl [2, 3, 4, 5, 6] rfl) hq.2 hq2.2 h3
