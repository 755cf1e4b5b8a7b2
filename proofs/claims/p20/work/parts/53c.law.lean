set_option maxHeartbeats 4000000 in
set_option maxRecDepth 100000 in
/-- the law at end -/
theorem law_end {p : Program} {l : Launch} {e : Env} {s : State} {m : MethodId} {below : List Frame} {meth : Method} {c : Code} {Q : State → Prop} {b L : Nat} {xs : Nat → Int32} {A : Nat → Prop} {H : Heap} {locs : List Loc} {ls : Array Slot} {cells slots ao xo mo N M : Nat} {a : AS} {f : Nat → Int64} {x y : HS} {i : Int32} (hl0 : l.stackTraces = false) (D : va_G) (cA : Nat → ClassId) (hx : p.tables.exec = Jvm.exec) (hb : c.code = cL_law) (hml : c.maxLocals = 7) (hown : s.vm.findClass RL = some m.cls) (hts : ∀ w ∈ wsL_law, w.before #[Value.ref b] s = true) (hX : va_X b L xs s s.heap) (hbl : b < s.heap.size) (hbA : ¬ A b) (hA : ∀ q : Nat, s.heap.size ≤ q → A q) (hZ : tx_St A s) (hK : va_K D vwCl (tyA cA) s) (hi : 0 ≤ i.toInt ∧ i.toInt + 6 ≤ L) (hL : L ≤ 3072) (hM : M < 300000) (hl : lv_has ls 7 [(4, .int i), (3, .ref ao), (2, .ref mo), (1, .ref xo), (0, .ref b)]) (hk : KZ xo (N + 1) a x) (hR : RM mo M a y) (h : LW D cA A s H locs cells slots ao f x y)
    (K : ∀ (H : Heap) (locs : List Loc) (ls : Array Slot) (cells slots : Nat) (a : AS) (f : Nat → Int64) (x y : HS), lv_has ls 7 [(4, .int i), (3, .ref ao), (2, .ref mo), (1, .ref xo), (0, .ref b)] → KZ xo N a x → RM mo (M + 1) a y → LW D cA A s H locs cells slots ao f x y → W p l e room_1 s m #[Value.ref b] below meth c H locs cells slots Q (F0 m 1032 ls [])) : W p l e room_1 s m #[Value.ref b] below meth c H locs cells slots Q (F0 m 220 ls []) := by
  obtain ⟨hm1, hm2⟩ := RM_o hR
  refine lv_aload_n hx hb dL_law_220 rfl (lv_at hl 3 rfl) ?_
  refine lv_aload_n hx hb dL_law_221 rfl (lv_at hl 4 rfl) ?_
  refine lv_iload hx hb dL_law_222 (lv_at hl 0 rfl) ?_
  refine lv_iconst (v := 1) hx hb dL_law_224 (by decide) ?_
  refine lv_iadd hx hb dL_law_225 ?_
  refine va_sld hx hb hX hbl hbA h.2.2.2.2.2.1 (sc_in (k := 1) hi hL (by decide) (by decide)) dL_law_226 ?_
  refine lv_aload_n hx hb dL_law_227 rfl (lv_at hl 1 rfl) ?_
  refine l_hlp h (vy_runSW (As := [.ref xo, .int (xs (i + 1).toNatClampNeg), .ref ao]) (rest := []) ⟨hx, hb, hml, hown, hts⟩ (L_end l hl0 D cA hk (RM_avw hR hM) H.size) (fun _ _ _ _ _ h => h) (vx_cwSW 3 hts gL_law_L_end rfl rfl rfl (by decide +kernel) ⟨Nat.le_of_ble_eq_true rfl, Nat.le_of_ble_eq_true rfl⟩) (pt_pre h.1 h.2.1 hK h.2.2.2.2.2.1 hA hZ) rfl rfl hl.1 rfl (lv_room (Nat.le_of_ble_eq_true rfl)) dL_law_228 ⟨by have := h.2.2.2.2.2.2.1; show cells + x.c ≤ _; omega, by have := h.2.2.2.2.2.2.2; show slots + x.z ≤ _; omega⟩) hA (fun r1 f x H locs cells slots hq h => ?_)
  refine lv_istore (lv' := [(5, .int r1), (4, .int i), (3, .ref ao), (2, .ref mo), (1, .ref xo), (0, .ref b)]) hx hb dL_law_231 hl (by decide) rfl (fun ls hl => ?_)
  refine lv_aload_n hx hb dL_law_233 rfl (lv_at hl 3 rfl) ?_
  refine lv_aload_n hx hb dL_law_234 rfl (lv_at hl 5 rfl) ?_
  refine lv_iload hx hb dL_law_235 (lv_at hl 1 rfl) ?_
  refine lv_iconst (v := 1) hx hb dL_law_237 (by decide) ?_
  refine lv_iadd hx hb dL_law_238 ?_
  refine va_sld hx hb hX hbl hbA h.2.2.2.2.2.1 (sc_in (k := 1) hi hL (by decide) (by decide)) dL_law_239 ?_
  refine l_ref h (vy_runV (C := RX12) (b := mo) (As := [.int (xs (i + 1).toNatClampNeg)]) (rest := []) (n := 1) ⟨hx, hb, hml, hown, hts⟩ (T_X12_end (X := fun _ _ => False) l hl0 D cA (rc_end hR hM (xs (i + 1).toNatClampNeg)) H.size) (cwV 1 hts gL_law_X12_end rfl rfl rfl (by decide +kernel) ⟨Nat.le_of_ble_eq_true rfl, Nat.le_of_ble_eq_true rfl⟩) (hg_recv hK h.2.2.1 h.2.2.2.1 h.2.2.2.2.2.1 hA hZ hm1 hm2 (by decide) rfl) rfl rfl hl.1 rfl (lv_room (Nat.le_of_ble_eq_true rfl)) dL_law_240 ⟨by have := h.2.2.2.2.2.2.1; show cells + y.c ≤ _; omega, by have := h.2.2.2.2.2.2.2; show slots + y.z ≤ _; omega⟩) hA (fun r2 y H locs cells slots hq2 h => ?_)
  refine lv_istore (lv' := [(6, .int r2), (5, .int r1), (4, .int i), (3, .ref ao), (2, .ref mo), (1, .ref xo), (0, .ref b)]) hx hb dL_law_243 hl (by decide) rfl (fun ls hl => ?_)
  refine lv_goto (tgt := 1032) hx hb dL_law_245 (by decide) ?_
  exact K H locs ls cells slots _ f x y (lv_sub hl [2, 3, 4, 5, 6] rfl) hq.2 hq2.2 h

set_option maxHeartbeats 4000000 in
set_option maxRecDepth 100000 in
/-- the law at key -/
theorem law_key {p : Program} {l : Launch} {e : Env} {s : State} {m : MethodId} {below : List Frame} {meth : Method} {c : Code} {Q : State → Prop} {b L : Nat} {xs : Nat → Int32} {A : Nat → Prop} {H : Heap} {locs : List Loc} {ls : Array Slot} {cells slots ao xo mo N M : Nat} {a : AS} {f : Nat → Int64} {x y : HS} {i : Int32} (hl0 : l.stackTraces = false) (D : va_G) (cA : Nat → ClassId) (hx : p.tables.exec = Jvm.exec) (hb : c.code = cL_law) (hml : c.maxLocals = 7) (hown : s.vm.findClass RL = some m.cls) (hts : ∀ w ∈ wsL_law, w.before #[Value.ref b] s = true) (hX : va_X b L xs s s.heap) (hbl : b < s.heap.size) (hbA : ¬ A b) (hA : ∀ q : Nat, s.heap.size ≤ q → A q) (hZ : tx_St A s) (hK : va_K D vwCl (tyA cA) s) (hi : 0 ≤ i.toInt ∧ i.toInt + 6 ≤ L) (hL : L ≤ 3072) (hM : M < 300000) (hl : lv_has ls 7 [(4, .int i), (3, .ref ao), (2, .ref mo), (1, .ref xo), (0, .ref b)]) (hk : KZ xo (N + 1) a x) (hR : RM mo M a y) (h : LW D cA A s H locs cells slots ao f x y)
    (K : ∀ (H : Heap) (locs : List Loc) (ls : Array Slot) (cells slots : Nat) (a : AS) (f : Nat → Int64) (x y : HS), lv_has ls 7 [(4, .int i), (3, .ref ao), (2, .ref mo), (1, .ref xo), (0, .ref b)] → KZ xo N a x → RM mo (M + 1) a y → LW D cA A s H locs cells slots ao f x y → W p l e room_1 s m #[Value.ref b] below meth c H locs cells slots Q (F0 m 1032 ls [])) : W p l e room_1 s m #[Value.ref b] below meth c H locs cells slots Q (F0 m 356 ls []) := by
  obtain ⟨hm1, hm2⟩ := RM_o hR
  refine lv_aload_n hx hb dL_law_356 rfl (lv_at hl 3 rfl) ?_
  refine lv_aload_n hx hb dL_law_357 rfl (lv_at hl 4 rfl) ?_
  refine lv_iload hx hb dL_law_358 (lv_at hl 0 rfl) ?_
  refine lv_iconst (v := 1) hx hb dL_law_360 (by decide) ?_
  refine lv_iadd hx hb dL_law_361 ?_
  refine va_sld hx hb hX hbl hbA h.2.2.2.2.2.1 (sc_in (k := 1) hi hL (by decide) (by decide)) dL_law_362 ?_
  refine lv_aload_n hx hb dL_law_363 rfl (lv_at hl 4 rfl) ?_
  refine lv_iload hx hb dL_law_364 (lv_at hl 0 rfl) ?_
  refine lv_iconst (v := 2) hx hb dL_law_366 (by decide) ?_
  refine lv_iadd hx hb dL_law_367 ?_
  refine va_sld hx hb hX hbl hbA h.2.2.2.2.2.1 (sc_in (k := 2) hi hL (by decide) (by decide)) dL_law_368 ?_
  refine lv_aload_n hx hb dL_law_369 rfl (lv_at hl 1 rfl) ?_
  refine l_hlp h (vy_runSW (As := [.ref xo, .int (xs (i + 1).toNatClampNeg), .int (xs (i + 2).toNatClampNeg), .ref ao]) (rest := []) ⟨hx, hb, hml, hown, hts⟩ (L_key l hl0 D cA hk (RM_avw hR hM) H.size) (fun _ _ _ _ _ h => h) (vx_cwSW 4 hts gL_law_L_key rfl rfl rfl (by decide +kernel) ⟨Nat.le_of_ble_eq_true rfl, Nat.le_of_ble_eq_true rfl⟩) (pt_pre h.1 h.2.1 hK h.2.2.2.2.2.1 hA hZ) rfl rfl hl.1 rfl (lv_room (Nat.le_of_ble_eq_true rfl)) dL_law_370 ⟨by have := h.2.2.2.2.2.2.1; show cells + x.c ≤ _; omega, by have := h.2.2.2.2.2.2.2; show slots + x.z ≤ _; omega⟩) hA (fun r1 f x H locs cells slots hq h => ?_)
  refine lv_istore (lv' := [(5, .int r1), (4, .int i), (3, .ref ao), (2, .ref mo), (1, .ref xo), (0, .ref b)]) hx hb dL_law_373 hl (by decide) rfl (fun ls hl => ?_)
  refine lv_aload_n hx hb dL_law_375 rfl (lv_at hl 3 rfl) ?_
  refine lv_aload_n hx hb dL_law_376 rfl (lv_at hl 5 rfl) ?_
  refine lv_iload hx hb dL_law_377 (lv_at hl 1 rfl) ?_
  refine lv_iconst (v := 1) hx hb dL_law_379 (by decide) ?_
  refine lv_iadd hx hb dL_law_380 ?_
  refine va_sld hx hb hX hbl hbA h.2.2.2.2.2.1 (sc_in (k := 1) hi hL (by decide) (by decide)) dL_law_381 ?_
  refine lv_aload_n hx hb dL_law_382 rfl (lv_at hl 5 rfl) ?_
  refine lv_iload hx hb dL_law_383 (lv_at hl 1 rfl) ?_
  refine lv_iconst (v := 2) hx hb dL_law_385 (by decide) ?_
  refine lv_iadd hx hb dL_law_386 ?_
  refine va_sld hx hb hX hbl hbA h.2.2.2.2.2.1 (sc_in (k := 2) hi hL (by decide) (by decide)) dL_law_387 ?_
  refine l_ref h (vy_runV (C := RX12) (b := mo) (As := [.int (xs (i + 1).toNatClampNeg), .int (xs (i + 2).toNatClampNeg)]) (rest := []) (n := 2) ⟨hx, hb, hml, hown, hts⟩ (T_X12_key (X := fun _ _ => False) l hl0 D cA (rc_key hR hM (xs (i + 1).toNatClampNeg) (xs (i + 2).toNatClampNeg)) H.size) (cwV 2 hts gL_law_X12_key rfl rfl rfl (by decide +kernel) ⟨Nat.le_of_ble_eq_true rfl, Nat.le_of_ble_eq_true rfl⟩) (hg_recv hK h.2.2.1 h.2.2.2.1 h.2.2.2.2.2.1 hA hZ hm1 hm2 (by decide) rfl) rfl rfl hl.1 rfl (lv_room (Nat.le_of_ble_eq_true rfl)) dL_law_388 ⟨by have := h.2.2.2.2.2.2.1; show cells + y.c ≤ _; omega, by have := h.2.2.2.2.2.2.2; show slots + y.z ≤ _; omega⟩) hA (fun r2 y H locs cells slots hq2 h => ?_)
  refine lv_istore (lv' := [(6, .int r2), (5, .int r1), (4, .int i), (3, .ref ao), (2, .ref mo), (1, .ref xo), (0, .ref b)]) hx hb dL_law_391 hl (by decide) rfl (fun ls hl => ?_)
  refine lv_goto (tgt := 1032) hx hb dL_law_393 (by decide) ?_
  exact K H locs ls cells slots _ f x y (lv_sub hl [2, 3, 4, 5, 6] rfl) hq.2 hq2.2 h

set_option maxHeartbeats 4000000 in
set_option maxRecDepth 100000 in
/-- the law at many -/
theorem law_many {p : Program} {l : Launch} {e : Env} {s : State} {m : MethodId} {below : List Frame} {meth : Method} {c : Code} {Q : State → Prop} {b L : Nat} {xs : Nat → Int32} {A : Nat → Prop} {H : Heap} {locs : List Loc} {ls : Array Slot} {cells slots ao xo mo N M : Nat} {a : AS} {f : Nat → Int64} {x y : HS} {i : Int32} (hl0 : l.stackTraces = false) (D : va_G) (cA : Nat → ClassId) (hx : p.tables.exec = Jvm.exec) (hb : c.code = cL_law) (hml : c.maxLocals = 7) (hown : s.vm.findClass RL = some m.cls) (hts : ∀ w ∈ wsL_law, w.before #[Value.ref b] s = true) (hX : va_X b L xs s s.heap) (hbl : b < s.heap.size) (hbA : ¬ A b) (hA : ∀ q : Nat, s.heap.size ≤ q → A q) (hZ : tx_St A s) (hK : va_K D vwCl (tyA cA) s) (hi : 0 ≤ i.toInt ∧ i.toInt + 6 ≤ L) (hL : L ≤ 3072) (hM : M < 300000) (hl : lv_has ls 7 [(4, .int i), (3, .ref ao), (2, .ref mo), (1, .ref xo), (0, .ref b)]) (hk : KZ xo (N + 1) a x) (hR : RM mo M a y) (h : LW D cA A s H locs cells slots ao f x y)
    (K : ∀ (H : Heap) (locs : List Loc) (ls : Array Slot) (cells slots : Nat) (a : AS) (f : Nat → Int64) (x y : HS), lv_has ls 7 [(4, .int i), (3, .ref ao), (2, .ref mo), (1, .ref xo), (0, .ref b)] → KZ xo N a x → RM mo (M + 1) a y → LW D cA A s H locs cells slots ao f x y → W p l e room_1 s m #[Value.ref b] below meth c H locs cells slots Q (F0 m 1032 ls [])) : W p l e room_1 s m #[Value.ref b] below meth c H locs cells slots Q (F0 m 540 ls []) := by
  obtain ⟨hm1, hm2⟩ := RM_o hR
  refine lv_aload_n hx hb dL_law_540 rfl (lv_at hl 3 rfl) ?_
  refine lv_aload_n hx hb dL_law_541 rfl (lv_at hl 4 rfl) ?_
  refine lv_iload hx hb dL_law_542 (lv_at hl 0 rfl) ?_
  refine lv_iconst (v := 1) hx hb dL_law_544 (by decide) ?_
  refine lv_iadd hx hb dL_law_545 ?_
  refine va_sld hx hb hX hbl hbA h.2.2.2.2.2.1 (sc_in (k := 1) hi hL (by decide) (by decide)) dL_law_546 ?_
  refine lv_aload_n hx hb dL_law_547 rfl (lv_at hl 4 rfl) ?_
  refine lv_iload hx hb dL_law_548 (lv_at hl 0 rfl) ?_
  refine lv_iconst (v := 2) hx hb dL_law_550 (by decide) ?_
  refine lv_iadd hx hb dL_law_551 ?_
  refine va_sld hx hb hX hbl hbA h.2.2.2.2.2.1 (sc_in (k := 2) hi hL (by decide) (by decide)) dL_law_552 ?_
  refine lv_aload_n hx hb dL_law_553 rfl (lv_at hl 4 rfl) ?_
  refine lv_iload hx hb dL_law_554 (lv_at hl 0 rfl) ?_
  refine lv_iconst (v := 3) hx hb dL_law_556 (by decide) ?_
  refine lv_iadd hx hb dL_law_557 ?_
  refine va_sld hx hb hX hbl hbA h.2.2.2.2.2.1 (sc_in (k := 3) hi hL (by decide) (by decide)) dL_law_558 ?_
  refine lv_aload_n hx hb dL_law_559 rfl (lv_at hl 1 rfl) ?_
  refine l_hlp h (vy_runSW (As := [.ref xo, .int (xs (i + 1).toNatClampNeg), .int (xs (i + 2).toNatClampNeg), .int (xs (i + 3).toNatClampNeg), .ref ao]) (rest := []) ⟨hx, hb, hml, hown, hts⟩ (L_many l hl0 D cA hk (RM_avw hR hM) H.size) (fun _ _ _ _ _ h => h) (vx_cwSW 5 hts gL_law_L_many rfl rfl rfl (by decide +kernel) ⟨Nat.le_of_ble_eq_true rfl, Nat.le_of_ble_eq_true rfl⟩) (pt_pre h.1 h.2.1 hK h.2.2.2.2.2.1 hA hZ) rfl rfl hl.1 rfl (lv_room (Nat.le_of_ble_eq_true rfl)) dL_law_560 ⟨by have := h.2.2.2.2.2.2.1; show cells + x.c ≤ _; omega, by have := h.2.2.2.2.2.2.2; show slots + x.z ≤ _; omega⟩) hA (fun r1 f x H locs cells slots hq h => ?_)
  refine lv_istore (lv' := [(5, .int r1), (4, .int i), (3, .ref ao), (2, .ref mo), (1, .ref xo), (0, .ref b)]) hx hb dL_law_563 hl (by decide) rfl (fun ls hl => ?_)
  refine lv_aload_n hx hb dL_law_565 rfl (lv_at hl 3 rfl) ?_
  refine lv_aload_n hx hb dL_law_566 rfl (lv_at hl 5 rfl) ?_
  refine lv_iload hx hb dL_law_567 (lv_at hl 1 rfl) ?_
  refine lv_iconst (v := 1) hx hb dL_law_569 (by decide) ?_
  refine lv_iadd hx hb dL_law_570 ?_
  refine va_sld hx hb hX hbl hbA h.2.2.2.2.2.1 (sc_in (k := 1) hi hL (by decide) (by decide)) dL_law_571 ?_
  refine lv_aload_n hx hb dL_law_572 rfl (lv_at hl 5 rfl) ?_
  refine lv_iload hx hb dL_law_573 (lv_at hl 1 rfl) ?_
  refine lv_iconst (v := 2) hx hb dL_law_575 (by decide) ?_
  refine lv_iadd hx hb dL_law_576 ?_
  refine va_sld hx hb hX hbl hbA h.2.2.2.2.2.1 (sc_in (k := 2) hi hL (by decide) (by decide)) dL_law_577 ?_
  refine lv_aload_n hx hb dL_law_578 rfl (lv_at hl 5 rfl) ?_
  refine lv_iload hx hb dL_law_579 (lv_at hl 1 rfl) ?_
  refine lv_iconst (v := 3) hx hb dL_law_581 (by decide) ?_
  refine lv_iadd hx hb dL_law_582 ?_
  refine va_sld hx hb hX hbl hbA h.2.2.2.2.2.1 (sc_in (k := 3) hi hL (by decide) (by decide)) dL_law_583 ?_
  refine l_ref h (vy_runV (C := RX12) (b := mo) (As := [.int (xs (i + 1).toNatClampNeg), .int (xs (i + 2).toNatClampNeg), .int (xs (i + 3).toNatClampNeg)]) (rest := []) (n := 3) ⟨hx, hb, hml, hown, hts⟩ (T_X12_many (X := fun _ _ => False) l hl0 D cA (rc_many hR hM (xs (i + 1).toNatClampNeg) (xs (i + 2).toNatClampNeg) (xs (i + 3).toNatClampNeg)) H.size) (cwV 3 hts gL_law_X12_many rfl rfl rfl (by decide +kernel) ⟨Nat.le_of_ble_eq_true rfl, Nat.le_of_ble_eq_true rfl⟩) (hg_recv hK h.2.2.1 h.2.2.2.1 h.2.2.2.2.2.1 hA hZ hm1 hm2 (by decide) rfl) rfl rfl hl.1 rfl (lv_room (Nat.le_of_ble_eq_true rfl)) dL_law_584 ⟨by have := h.2.2.2.2.2.2.1; show cells + y.c ≤ _; omega, by have := h.2.2.2.2.2.2.2; show slots + y.z ≤ _; omega⟩) hA (fun r2 y H locs cells slots hq2 h => ?_)
  refine lv_istore (lv' := [(6, .int r2), (5, .int r1), (4, .int i), (3, .ref ao), (2, .ref mo), (1, .ref xo), (0, .ref b)]) hx hb dL_law_587 hl (by decide) rfl (fun ls hl => ?_)
  refine lv_goto (tgt := 1032) hx hb dL_law_589 (by decide) ?_
  exact K H locs ls cells slots _ f x y (lv_sub hl [2, 3, 4, 5, 6] rfl) hq.2 hq2.2 h

set_option maxHeartbeats 4000000 in
set_option maxRecDepth 100000 in
/-- the law at fact -/
theorem law_fact {p : Program} {l : Launch} {e : Env} {s : State} {m : MethodId} {below : List Frame} {meth : Method} {c : Code} {Q : State → Prop} {b L : Nat} {xs : Nat → Int32} {A : Nat → Prop} {H : Heap} {locs : List Loc} {ls : Array Slot} {cells slots ao xo mo N M : Nat} {a : AS} {f : Nat → Int64} {x y : HS} {i : Int32} (hl0 : l.stackTraces = false) (D : va_G) (cA : Nat → ClassId) (hx : p.tables.exec = Jvm.exec) (hb : c.code = cL_law) (hml : c.maxLocals = 7) (hown : s.vm.findClass RL = some m.cls) (hts : ∀ w ∈ wsL_law, w.before #[Value.ref b] s = true) (hX : va_X b L xs s s.heap) (hbl : b < s.heap.size) (hbA : ¬ A b) (hA : ∀ q : Nat, s.heap.size ≤ q → A q) (hZ : tx_St A s) (hK : va_K D vwCl (tyA cA) s) (hi : 0 ≤ i.toInt ∧ i.toInt + 6 ≤ L) (hL : L ≤ 3072) (hM : M < 300000) (hl : lv_has ls 7 [(4, .int i), (3, .ref ao), (2, .ref mo), (1, .ref xo), (0, .ref b)]) (hk : KZ xo (N + 1) a x) (hR : RM mo M a y) (h : LW D cA A s H locs cells slots ao f x y)
    (K : ∀ (H : Heap) (locs : List Loc) (ls : Array Slot) (cells slots : Nat) (a : AS) (f : Nat → Int64) (x y : HS), lv_has ls 7 [(4, .int i), (3, .ref ao), (2, .ref mo), (1, .ref xo), (0, .ref b)] → KZ xo N a x → RM mo (M + 1) a y → LW D cA A s H locs cells slots ao f x y → W p l e room_1 s m #[Value.ref b] below meth c H locs cells slots Q (F0 m 1032 ls [])) : W p l e room_1 s m #[Value.ref b] below meth c H locs cells slots Q (F0 m 700 ls []) := by
  obtain ⟨hm1, hm2⟩ := RM_o hR
  refine lv_aload_n hx hb dL_law_700 rfl (lv_at hl 3 rfl) ?_
  refine lv_aload_n hx hb dL_law_701 rfl (lv_at hl 4 rfl) ?_
  refine lv_iload hx hb dL_law_702 (lv_at hl 0 rfl) ?_
  refine lv_iconst (v := 1) hx hb dL_law_704 (by decide) ?_
  refine lv_iadd hx hb dL_law_705 ?_
  refine va_sld hx hb hX hbl hbA h.2.2.2.2.2.1 (sc_in (k := 1) hi hL (by decide) (by decide)) dL_law_706 ?_
  refine lv_aload_n hx hb dL_law_707 rfl (lv_at hl 4 rfl) ?_
  refine lv_iload hx hb dL_law_708 (lv_at hl 0 rfl) ?_
  refine lv_iconst (v := 2) hx hb dL_law_710 (by decide) ?_
  refine lv_iadd hx hb dL_law_711 ?_
  refine va_sld hx hb hX hbl hbA h.2.2.2.2.2.1 (sc_in (k := 2) hi hL (by decide) (by decide)) dL_law_712 ?_
  refine lv_aload_n hx hb dL_law_713 rfl (lv_at hl 1 rfl) ?_
  refine l_hlp h (vy_runSW (As := [.ref xo, .int (xs (i + 1).toNatClampNeg), .int (xs (i + 2).toNatClampNeg), .ref ao]) (rest := []) ⟨hx, hb, hml, hown, hts⟩ (L_fact l hl0 D cA hk (RM_avw hR hM) H.size) (fun _ _ _ _ _ h => h) (vx_cwSW 4 hts gL_law_L_fact rfl rfl rfl (by decide +kernel) ⟨Nat.le_of_ble_eq_true rfl, Nat.le_of_ble_eq_true rfl⟩) (pt_pre h.1 h.2.1 hK h.2.2.2.2.2.1 hA hZ) rfl rfl hl.1 rfl (lv_room (Nat.le_of_ble_eq_true rfl)) dL_law_714 ⟨by have := h.2.2.2.2.2.2.1; show cells + x.c ≤ _; omega, by have := h.2.2.2.2.2.2.2; show slots + x.z ≤ _; omega⟩) hA (fun r1 f x H locs cells slots hq h => ?_)
  refine lv_istore (lv' := [(5, .int r1), (4, .int i), (3, .ref ao), (2, .ref mo), (1, .ref xo), (0, .ref b)]) hx hb dL_law_717 hl (by decide) rfl (fun ls hl => ?_)
  refine lv_aload_n hx hb dL_law_719 rfl (lv_at hl 3 rfl) ?_
  refine lv_aload_n hx hb dL_law_720 rfl (lv_at hl 5 rfl) ?_
  refine lv_iload hx hb dL_law_721 (lv_at hl 1 rfl) ?_
  refine lv_iconst (v := 1) hx hb dL_law_723 (by decide) ?_
  refine lv_iadd hx hb dL_law_724 ?_
  refine va_sld hx hb hX hbl hbA h.2.2.2.2.2.1 (sc_in (k := 1) hi hL (by decide) (by decide)) dL_law_725 ?_
  refine lv_aload_n hx hb dL_law_726 rfl (lv_at hl 5 rfl) ?_
  refine lv_iload hx hb dL_law_727 (lv_at hl 1 rfl) ?_
  refine lv_iconst (v := 2) hx hb dL_law_729 (by decide) ?_
  refine lv_iadd hx hb dL_law_730 ?_
  refine va_sld hx hb hX hbl hbA h.2.2.2.2.2.1 (sc_in (k := 2) hi hL (by decide) (by decide)) dL_law_731 ?_
  refine l_ref h (vy_runV (C := RX12) (b := mo) (As := [.int (xs (i + 1).toNatClampNeg), .int (xs (i + 2).toNatClampNeg)]) (rest := []) (n := 2) ⟨hx, hb, hml, hown, hts⟩ (T_X12_fact (X := fun _ _ => False) l hl0 D cA (rc_fact hR hM (xs (i + 1).toNatClampNeg) (xs (i + 2).toNatClampNeg)) H.size) (cwV 2 hts gL_law_X12_fact rfl rfl rfl (by decide +kernel) ⟨Nat.le_of_ble_eq_true rfl, Nat.le_of_ble_eq_true rfl⟩) (hg_recv hK h.2.2.1 h.2.2.2.1 h.2.2.2.2.2.1 hA hZ hm1 hm2 (by decide) rfl) rfl rfl hl.1 rfl (lv_room (Nat.le_of_ble_eq_true rfl)) dL_law_732 ⟨by have := h.2.2.2.2.2.2.1; show cells + y.c ≤ _; omega, by have := h.2.2.2.2.2.2.2; show slots + y.z ≤ _; omega⟩) hA (fun r2 y H locs cells slots hq2 h => ?_)
  refine lv_istore (lv' := [(6, .int r2), (5, .int r1), (4, .int i), (3, .ref ao), (2, .ref mo), (1, .ref xo), (0, .ref b)]) hx hb dL_law_735 hl (by decide) rfl (fun ls hl => ?_)
  refine lv_goto (tgt := 1032) hx hb dL_law_737 (by decide) ?_
  exact K H locs ls cells slots _ f x y (lv_sub hl [2, 3, 4, 5, 6] rfl) hq.2 hq2.2 h

set_option maxHeartbeats 4000000 in
set_option maxRecDepth 100000 in
/-- the law at changes -/
theorem law_changes {p : Program} {l : Launch} {e : Env} {s : State} {m : MethodId} {below : List Frame} {meth : Method} {c : Code} {Q : State → Prop} {b L : Nat} {xs : Nat → Int32} {A : Nat → Prop} {H : Heap} {locs : List Loc} {ls : Array Slot} {cells slots ao xo mo N M : Nat} {a : AS} {f : Nat → Int64} {x y : HS} {i : Int32} (hl0 : l.stackTraces = false) (D : va_G) (cA : Nat → ClassId) (hx : p.tables.exec = Jvm.exec) (hb : c.code = cL_law) (hml : c.maxLocals = 7) (hown : s.vm.findClass RL = some m.cls) (hts : ∀ w ∈ wsL_law, w.before #[Value.ref b] s = true) (hX : va_X b L xs s s.heap) (hbl : b < s.heap.size) (hbA : ¬ A b) (hA : ∀ q : Nat, s.heap.size ≤ q → A q) (hZ : tx_St A s) (hK : va_K D vwCl (tyA cA) s) (hi : 0 ≤ i.toInt ∧ i.toInt + 6 ≤ L) (hL : L ≤ 3072) (hM : M < 300000) (hl : lv_has ls 7 [(4, .int i), (3, .ref ao), (2, .ref mo), (1, .ref xo), (0, .ref b)]) (hk : KZ xo (N + 1) a x) (hR : RM mo M a y) (h : LW D cA A s H locs cells slots ao f x y)
    (K : ∀ (H : Heap) (locs : List Loc) (ls : Array Slot) (cells slots : Nat) (a : AS) (f : Nat → Int64) (x y : HS), lv_has ls 7 [(4, .int i), (3, .ref ao), (2, .ref mo), (1, .ref xo), (0, .ref b)] → KZ xo N a x → RM mo (M + 1) a y → LW D cA A s H locs cells slots ao f x y → W p l e room_1 s m #[Value.ref b] below meth c H locs cells slots Q (F0 m 1032 ls [])) : W p l e room_1 s m #[Value.ref b] below meth c H locs cells slots Q (F0 m 828 ls []) := by
  obtain ⟨hm1, hm2⟩ := RM_o hR
  refine lv_aload_n hx hb dL_law_828 rfl (lv_at hl 3 rfl) ?_
  refine lv_aload_n hx hb dL_law_829 rfl (lv_at hl 4 rfl) ?_
  refine lv_iload hx hb dL_law_830 (lv_at hl 0 rfl) ?_
  refine lv_iconst (v := 1) hx hb dL_law_832 (by decide) ?_
  refine lv_iadd hx hb dL_law_833 ?_
  refine va_sld hx hb hX hbl hbA h.2.2.2.2.2.1 (sc_in (k := 1) hi hL (by decide) (by decide)) dL_law_834 ?_
  refine lv_aload_n hx hb dL_law_835 rfl (lv_at hl 4 rfl) ?_
  refine lv_iload hx hb dL_law_836 (lv_at hl 0 rfl) ?_
  refine lv_iconst (v := 2) hx hb dL_law_838 (by decide) ?_
  refine lv_iadd hx hb dL_law_839 ?_
  refine va_sld hx hb hX hbl hbA h.2.2.2.2.2.1 (sc_in (k := 2) hi hL (by decide) (by decide)) dL_law_840 ?_
  refine lv_aload_n hx hb dL_law_841 rfl (lv_at hl 4 rfl) ?_
  refine lv_iload hx hb dL_law_842 (lv_at hl 0 rfl) ?_
  refine lv_iconst (v := 3) hx hb dL_law_844 (by decide) ?_
  refine lv_iadd hx hb dL_law_845 ?_
  refine va_sld hx hb hX hbl hbA h.2.2.2.2.2.1 (sc_in (k := 3) hi hL (by decide) (by decide)) dL_law_846 ?_
  refine lv_aload_n hx hb dL_law_847 rfl (lv_at hl 1 rfl) ?_
  refine l_hlp h (vy_runSW (As := [.ref xo, .int (xs (i + 1).toNatClampNeg), .int (xs (i + 2).toNatClampNeg), .int (xs (i + 3).toNatClampNeg), .ref ao]) (rest := []) ⟨hx, hb, hml, hown, hts⟩ (L_changes l hl0 D cA hk (RM_avw hR hM) H.size) (fun _ _ _ _ _ h => h) (vx_cwSW 5 hts gL_law_L_changes rfl rfl rfl (by decide +kernel) ⟨Nat.le_of_ble_eq_true rfl, Nat.le_of_ble_eq_true rfl⟩) (pt_pre h.1 h.2.1 hK h.2.2.2.2.2.1 hA hZ) rfl rfl hl.1 rfl (lv_room (Nat.le_of_ble_eq_true rfl)) dL_law_848 ⟨by have := h.2.2.2.2.2.2.1; show cells + x.c ≤ _; omega, by have := h.2.2.2.2.2.2.2; show slots + x.z ≤ _; omega⟩) hA (fun r1 f x H locs cells slots hq h => ?_)
  refine lv_istore (lv' := [(5, .int r1), (4, .int i), (3, .ref ao), (2, .ref mo), (1, .ref xo), (0, .ref b)]) hx hb dL_law_851 hl (by decide) rfl (fun ls hl => ?_)
  refine lv_aload_n hx hb dL_law_853 rfl (lv_at hl 3 rfl) ?_
  refine lv_aload_n hx hb dL_law_854 rfl (lv_at hl 5 rfl) ?_
  refine lv_iload hx hb dL_law_855 (lv_at hl 1 rfl) ?_
  refine lv_iconst (v := 1) hx hb dL_law_857 (by decide) ?_
  refine lv_iadd hx hb dL_law_858 ?_
  refine va_sld hx hb hX hbl hbA h.2.2.2.2.2.1 (sc_in (k := 1) hi hL (by decide) (by decide)) dL_law_859 ?_
  refine lv_aload_n hx hb dL_law_860 rfl (lv_at hl 5 rfl) ?_
  refine lv_iload hx hb dL_law_861 (lv_at hl 1 rfl) ?_
  refine lv_iconst (v := 2) hx hb dL_law_863 (by decide) ?_
  refine lv_iadd hx hb dL_law_864 ?_
  refine va_sld hx hb hX hbl hbA h.2.2.2.2.2.1 (sc_in (k := 2) hi hL (by decide) (by decide)) dL_law_865 ?_
  refine lv_aload_n hx hb dL_law_866 rfl (lv_at hl 5 rfl) ?_
  refine lv_iload hx hb dL_law_867 (lv_at hl 1 rfl) ?_
  refine lv_iconst (v := 3) hx hb dL_law_869 (by decide) ?_
  refine lv_iadd hx hb dL_law_870 ?_
  refine va_sld hx hb hX hbl hbA h.2.2.2.2.2.1 (sc_in (k := 3) hi hL (by decide) (by decide)) dL_law_871 ?_
  refine l_ref h (vy_runV (C := RX12) (b := mo) (As := [.int (xs (i + 1).toNatClampNeg), .int (xs (i + 2).toNatClampNeg), .int (xs (i + 3).toNatClampNeg)]) (rest := []) (n := 3) ⟨hx, hb, hml, hown, hts⟩ (T_X12_changes (X := fun _ _ => False) l hl0 D cA (rc_changes hR hM (xs (i + 1).toNatClampNeg) (xs (i + 2).toNatClampNeg) (xs (i + 3).toNatClampNeg)) H.size) (cwV 3 hts gL_law_X12_changes rfl rfl rfl (by decide +kernel) ⟨Nat.le_of_ble_eq_true rfl, Nat.le_of_ble_eq_true rfl⟩) (hg_recv hK h.2.2.1 h.2.2.2.1 h.2.2.2.2.2.1 hA hZ hm1 hm2 (by decide) rfl) rfl rfl hl.1 rfl (lv_room (Nat.le_of_ble_eq_true rfl)) dL_law_872 ⟨by have := h.2.2.2.2.2.2.1; show cells + y.c ≤ _; omega, by have := h.2.2.2.2.2.2.2; show slots + y.z ≤ _; omega⟩) hA (fun r2 y H locs cells slots hq2 h => ?_)
  refine lv_istore (lv' := [(6, .int r2), (5, .int r1), (4, .int i), (3, .ref ao), (2, .ref mo), (1, .ref xo), (0, .ref b)]) hx hb dL_law_875 hl (by decide) rfl (fun ls hl => ?_)
  refine lv_goto (tgt := 1032) hx hb dL_law_877 (by decide) ?_
  exact K H locs ls cells slots _ f x y (lv_sub hl [2, 3, 4, 5, 6] rfl) hq.2 hq2.2 h

set_option maxHeartbeats 4000000 in
set_option maxRecDepth 100000 in
/-- the law at count -/
theorem law_count {p : Program} {l : Launch} {e : Env} {s : State} {m : MethodId} {below : List Frame} {meth : Method} {c : Code} {Q : State → Prop} {b L : Nat} {xs : Nat → Int32} {A : Nat → Prop} {H : Heap} {locs : List Loc} {ls : Array Slot} {cells slots ao xo mo N M : Nat} {a : AS} {f : Nat → Int64} {x y : HS} {i : Int32} (hl0 : l.stackTraces = false) (D : va_G) (cA : Nat → ClassId) (hx : p.tables.exec = Jvm.exec) (hb : c.code = cL_law) (hml : c.maxLocals = 7) (hown : s.vm.findClass RL = some m.cls) (hts : ∀ w ∈ wsL_law, w.before #[Value.ref b] s = true) (hX : va_X b L xs s s.heap) (hbl : b < s.heap.size) (hbA : ¬ A b) (hA : ∀ q : Nat, s.heap.size ≤ q → A q) (hZ : tx_St A s) (hK : va_K D vwCl (tyA cA) s) (hi : 0 ≤ i.toInt ∧ i.toInt + 6 ≤ L) (hL : L ≤ 3072) (hM : M < 300000) (hl : lv_has ls 7 [(4, .int i), (3, .ref ao), (2, .ref mo), (1, .ref xo), (0, .ref b)]) (hk : KZ xo (N + 1) a x) (hR : RM mo M a y) (h : LW D cA A s H locs cells slots ao f x y)
    (K : ∀ (H : Heap) (locs : List Loc) (ls : Array Slot) (cells slots : Nat) (a : AS) (f : Nat → Int64) (x y : HS), lv_has ls 7 [(4, .int i), (3, .ref ao), (2, .ref mo), (1, .ref xo), (0, .ref b)] → KZ xo N a x → RM mo (M + 1) a y → LW D cA A s H locs cells slots ao f x y → W p l e room_1 s m #[Value.ref b] below meth c H locs cells slots Q (F0 m 1032 ls [])) : W p l e room_1 s m #[Value.ref b] below meth c H locs cells slots Q (F0 m 1004 ls []) := by
  obtain ⟨hm1, hm2⟩ := RM_o hR
  refine lv_aload_n hx hb dL_law_1004 rfl (lv_at hl 3 rfl) ?_
  refine lv_aload_n hx hb dL_law_1005 rfl (lv_at hl 4 rfl) ?_
  refine lv_iload hx hb dL_law_1006 (lv_at hl 0 rfl) ?_
  refine lv_iconst (v := 1) hx hb dL_law_1008 (by decide) ?_
  refine lv_iadd hx hb dL_law_1009 ?_
  refine va_sld hx hb hX hbl hbA h.2.2.2.2.2.1 (sc_in (k := 1) hi hL (by decide) (by decide)) dL_law_1010 ?_
  refine lv_aload_n hx hb dL_law_1011 rfl (lv_at hl 1 rfl) ?_
  refine l_hlp h (vy_runSW (As := [.ref xo, .int (xs (i + 1).toNatClampNeg), .ref ao]) (rest := []) ⟨hx, hb, hml, hown, hts⟩ (L_count l hl0 D cA hk (RM_avw hR hM) H.size) (fun _ _ _ _ _ h => h) (vx_cwSW 3 hts gL_law_L_count rfl rfl rfl (by decide +kernel) ⟨Nat.le_of_ble_eq_true rfl, Nat.le_of_ble_eq_true rfl⟩) (pt_pre h.1 h.2.1 hK h.2.2.2.2.2.1 hA hZ) rfl rfl hl.1 rfl (lv_room (Nat.le_of_ble_eq_true rfl)) dL_law_1012 ⟨by have := h.2.2.2.2.2.2.1; show cells + x.c ≤ _; omega, by have := h.2.2.2.2.2.2.2; show slots + x.z ≤ _; omega⟩) hA (fun r1 f x H locs cells slots hq h => ?_)
  refine lv_istore (lv' := [(5, .int r1), (4, .int i), (3, .ref ao), (2, .ref mo), (1, .ref xo), (0, .ref b)]) hx hb dL_law_1015 hl (by decide) rfl (fun ls hl => ?_)
  refine lv_aload_n hx hb dL_law_1017 rfl (lv_at hl 3 rfl) ?_
  refine lv_aload_n hx hb dL_law_1018 rfl (lv_at hl 5 rfl) ?_
  refine lv_iload hx hb dL_law_1019 (lv_at hl 1 rfl) ?_
  refine lv_iconst (v := 1) hx hb dL_law_1021 (by decide) ?_
  refine lv_iadd hx hb dL_law_1022 ?_
  refine va_sld hx hb hX hbl hbA h.2.2.2.2.2.1 (sc_in (k := 1) hi hL (by decide) (by decide)) dL_law_1023 ?_
  refine l_ref h (vy_runV (C := RX12) (b := mo) (As := [.int (xs (i + 1).toNatClampNeg)]) (rest := []) (n := 1) ⟨hx, hb, hml, hown, hts⟩ (T_X12_count (X := fun _ _ => False) l hl0 D cA (rc_count hR hM (xs (i + 1).toNatClampNeg)) H.size) (cwV 1 hts gL_law_X12_count rfl rfl rfl (by decide +kernel) ⟨Nat.le_of_ble_eq_true rfl, Nat.le_of_ble_eq_true rfl⟩) (hg_recv hK h.2.2.1 h.2.2.2.1 h.2.2.2.2.2.1 hA hZ hm1 hm2 (by decide) rfl) rfl rfl hl.1 rfl (lv_room (Nat.le_of_ble_eq_true rfl)) dL_law_1024 ⟨by have := h.2.2.2.2.2.2.1; show cells + y.c ≤ _; omega, by have := h.2.2.2.2.2.2.2; show slots + y.z ≤ _; omega⟩) hA (fun r2 y H locs cells slots hq2 h => ?_)
  refine lv_istore (lv' := [(6, .int r2), (5, .int r1), (4, .int i), (3, .ref ao), (2, .ref mo), (1, .ref xo), (0, .ref b)]) hx hb dL_law_1027 hl (by decide) rfl (fun ls hl => ?_)
  refine lv_goto (tgt := 1032) hx hb dL_law_1029 (by decide) ?_
  exact K H locs ls cells slots _ f x y (lv_sub hl [2, 3, 4, 5, 6] rfl) hq.2 hq2.2 h
