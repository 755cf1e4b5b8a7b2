set_option maxHeartbeats 4000000 in
set_option maxRecDepth 100000 in
/-- the law at table -/
theorem law_table {p : Program} {l : Launch} {e : Env} {s : State} {m : MethodId} {below : List Frame} {meth : Method} {c : Code} {Q : State → Prop} {b L : Nat} {xs : Nat → Int32} {A : Nat → Prop} {H : Heap} {locs : List Loc} {ls : Array Slot} {cells slots ao xo mo N M : Nat} {a : AS} {f : Nat → Int64} {x y : HS} {i : Int32} (hl0 : l.stackTraces = false) (D : va_G) (cA : Nat → ClassId) (hx : p.tables.exec = Jvm.exec) (hb : c.code = cL_law) (hml : c.maxLocals = 7) (hown : s.vm.findClass RL = some m.cls) (hts : ∀ w ∈ wsL_law, w.before #[Value.ref b] s = true) (hX : va_X b L xs s s.heap) (hbl : b < s.heap.size) (hbA : ¬ A b) (hA : ∀ q : Nat, s.heap.size ≤ q → A q) (hZ : tx_St A s) (hK : va_K D vwCl (tyA cA) s) (hi : 0 ≤ i.toInt ∧ i.toInt + 6 ≤ L) (hL : L ≤ 3072) (hM : M < 300000) (hl : lv_has ls 7 [(4, .int i), (3, .ref ao), (2, .ref mo), (1, .ref xo), (0, .ref b)]) (hk : KZ xo (N + 1) a x) (hR : RM mo M a y) (h : LW D cA A s H locs cells slots ao f x y)
    (K : ∀ (H : Heap) (locs : List Loc) (ls : Array Slot) (cells slots : Nat) (a : AS) (f : Nat → Int64) (x y : HS), lv_has ls 7 [(4, .int i), (3, .ref ao), (2, .ref mo), (1, .ref xo), (0, .ref b)] → KZ xo N a x → RM mo (M + 1) a y → LW D cA A s H locs cells slots ao f x y → W p l e room_1 s m #[Value.ref b] below meth c H locs cells slots Q (F0 m 1032 ls [])) : W p l e room_1 s m #[Value.ref b] below meth c H locs cells slots Q (F0 m 288 ls []) := by
  obtain ⟨hm1, hm2⟩ := RM_o hR
  refine lv_aload_n hx hb dL_law_288 rfl (lv_at hl 3 rfl) ?_
  refine lv_aload_n hx hb dL_law_289 rfl (lv_at hl 4 rfl) ?_
  refine lv_iload hx hb dL_law_290 (lv_at hl 0 rfl) ?_
  refine lv_iconst (v := 1) hx hb dL_law_292 (by decide) ?_
  refine lv_iadd hx hb dL_law_293 ?_
  refine va_sld hx hb hX hbl hbA h.2.2.2.2.2.1 (sc_in (k := 1) hi hL (by decide) (by decide)) dL_law_294 ?_
  refine lv_aload_n hx hb dL_law_295 rfl (lv_at hl 1 rfl) ?_
  refine l_hlp h (vy_runSW (As := [.ref xo, .int (xs (i + 1).toNatClampNeg), .ref ao]) (rest := []) ⟨hx, hb, hml, hown, hts⟩ (L_table l hl0 D cA hk (RM_avw hR hM) H.size) (fun _ _ _ _ _ h => h) (vx_cwSW 3 hts gL_law_L_table rfl rfl rfl (by decide +kernel) ⟨Nat.le_of_ble_eq_true rfl, Nat.le_of_ble_eq_true rfl⟩) (pt_pre h.1 h.2.1 hK h.2.2.2.2.2.1 hA hZ) rfl rfl hl.1 rfl (lv_room (Nat.le_of_ble_eq_true rfl)) dL_law_296 ⟨by have := h.2.2.2.2.2.2.1; show cells + x.c ≤ _; omega, by have := h.2.2.2.2.2.2.2; show slots + x.z ≤ _; omega⟩) hA (fun r1 f x H locs cells slots hq h => ?_)
  refine lv_istore (lv' := [(5, .int r1), (4, .int i), (3, .ref ao), (2, .ref mo), (1, .ref xo), (0, .ref b)]) hx hb dL_law_299 hl (by decide) rfl (fun ls hl => ?_)
  refine lv_aload_n hx hb dL_law_301 rfl (lv_at hl 3 rfl) ?_
  refine lv_aload_n hx hb dL_law_302 rfl (lv_at hl 5 rfl) ?_
  refine lv_iload hx hb dL_law_303 (lv_at hl 1 rfl) ?_
  refine lv_iconst (v := 1) hx hb dL_law_305 (by decide) ?_
  refine lv_iadd hx hb dL_law_306 ?_
  refine va_sld hx hb hX hbl hbA h.2.2.2.2.2.1 (sc_in (k := 1) hi hL (by decide) (by decide)) dL_law_307 ?_
  refine l_ref h (vy_runV (C := RX12) (b := mo) (As := [.int (xs (i + 1).toNatClampNeg)]) (rest := []) (n := 1) ⟨hx, hb, hml, hown, hts⟩ (T_X12_table (X := fun _ _ => False) l hl0 D cA (rc_table hR hM (xs (i + 1).toNatClampNeg)) H.size) (cwV 1 hts gL_law_X12_table rfl rfl rfl (by decide +kernel) ⟨Nat.le_of_ble_eq_true rfl, Nat.le_of_ble_eq_true rfl⟩) (hg_recv hK h.2.2.1 h.2.2.2.1 h.2.2.2.2.2.1 hA hZ hm1 hm2 (by decide) rfl) rfl rfl hl.1 rfl (lv_room (Nat.le_of_ble_eq_true rfl)) dL_law_308 ⟨by have := h.2.2.2.2.2.2.1; show cells + y.c ≤ _; omega, by have := h.2.2.2.2.2.2.2; show slots + y.z ≤ _; omega⟩) hA (fun r2 y H locs cells slots hq2 h => ?_)
  refine lv_istore (lv' := [(6, .int r2), (5, .int r1), (4, .int i), (3, .ref ao), (2, .ref mo), (1, .ref xo), (0, .ref b)]) hx hb dL_law_311 hl (by decide) rfl (fun ls hl => ?_)
  refine lv_goto (tgt := 1032) hx hb dL_law_313 (by decide) ?_
  exact K H locs ls cells slots _ f x y (lv_sub hl [2, 3, 4, 5, 6] rfl) hq.2 hq2.2 h

set_option maxHeartbeats 4000000 in
set_option maxRecDepth 100000 in
/-- the law at remove -/
theorem law_remove {p : Program} {l : Launch} {e : Env} {s : State} {m : MethodId} {below : List Frame} {meth : Method} {c : Code} {Q : State → Prop} {b L : Nat} {xs : Nat → Int32} {A : Nat → Prop} {H : Heap} {locs : List Loc} {ls : Array Slot} {cells slots ao xo mo N M : Nat} {a : AS} {f : Nat → Int64} {x y : HS} {i : Int32} (hl0 : l.stackTraces = false) (D : va_G) (cA : Nat → ClassId) (hx : p.tables.exec = Jvm.exec) (hb : c.code = cL_law) (hml : c.maxLocals = 7) (hown : s.vm.findClass RL = some m.cls) (hts : ∀ w ∈ wsL_law, w.before #[Value.ref b] s = true) (hX : va_X b L xs s s.heap) (hbl : b < s.heap.size) (hbA : ¬ A b) (hA : ∀ q : Nat, s.heap.size ≤ q → A q) (hZ : tx_St A s) (hK : va_K D vwCl (tyA cA) s) (hi : 0 ≤ i.toInt ∧ i.toInt + 6 ≤ L) (hL : L ≤ 3072) (hM : M < 300000) (hl : lv_has ls 7 [(4, .int i), (3, .ref ao), (2, .ref mo), (1, .ref xo), (0, .ref b)]) (hk : KZ xo (N + 1) a x) (hR : RM mo M a y) (h : LW D cA A s H locs cells slots ao f x y)
    (K : ∀ (H : Heap) (locs : List Loc) (ls : Array Slot) (cells slots : Nat) (a : AS) (f : Nat → Int64) (x y : HS), lv_has ls 7 [(4, .int i), (3, .ref ao), (2, .ref mo), (1, .ref xo), (0, .ref b)] → KZ xo N a x → RM mo (M + 1) a y → LW D cA A s H locs cells slots ao f x y → W p l e room_1 s m #[Value.ref b] below meth c H locs cells slots Q (F0 m 1032 ls [])) : W p l e room_1 s m #[Value.ref b] below meth c H locs cells slots Q (F0 m 436 ls []) := by
  obtain ⟨hm1, hm2⟩ := RM_o hR
  refine lv_aload_n hx hb dL_law_436 rfl (lv_at hl 3 rfl) ?_
  refine lv_aload_n hx hb dL_law_437 rfl (lv_at hl 4 rfl) ?_
  refine lv_iload hx hb dL_law_438 (lv_at hl 0 rfl) ?_
  refine lv_iconst (v := 1) hx hb dL_law_440 (by decide) ?_
  refine lv_iadd hx hb dL_law_441 ?_
  refine va_sld hx hb hX hbl hbA h.2.2.2.2.2.1 (sc_in (k := 1) hi hL (by decide) (by decide)) dL_law_442 ?_
  refine lv_aload_n hx hb dL_law_443 rfl (lv_at hl 4 rfl) ?_
  refine lv_iload hx hb dL_law_444 (lv_at hl 0 rfl) ?_
  refine lv_iconst (v := 2) hx hb dL_law_446 (by decide) ?_
  refine lv_iadd hx hb dL_law_447 ?_
  refine va_sld hx hb hX hbl hbA h.2.2.2.2.2.1 (sc_in (k := 2) hi hL (by decide) (by decide)) dL_law_448 ?_
  refine lv_aload_n hx hb dL_law_449 rfl (lv_at hl 4 rfl) ?_
  refine lv_iload hx hb dL_law_450 (lv_at hl 0 rfl) ?_
  refine lv_iconst (v := 3) hx hb dL_law_452 (by decide) ?_
  refine lv_iadd hx hb dL_law_453 ?_
  refine va_sld hx hb hX hbl hbA h.2.2.2.2.2.1 (sc_in (k := 3) hi hL (by decide) (by decide)) dL_law_454 ?_
  refine lv_aload_n hx hb dL_law_455 rfl (lv_at hl 1 rfl) ?_
  refine l_hlp h (vy_runSW (As := [.ref xo, .int (xs (i + 1).toNatClampNeg), .int (xs (i + 2).toNatClampNeg), .int (xs (i + 3).toNatClampNeg), .ref ao]) (rest := []) ⟨hx, hb, hml, hown, hts⟩ (L_remove l hl0 D cA hk (RM_avw hR hM) H.size) (fun _ _ _ _ _ h => h) (vx_cwSW 5 hts gL_law_L_remove rfl rfl rfl (by decide +kernel) ⟨Nat.le_of_ble_eq_true rfl, Nat.le_of_ble_eq_true rfl⟩) (pt_pre h.1 h.2.1 hK h.2.2.2.2.2.1 hA hZ) rfl rfl hl.1 rfl (lv_room (Nat.le_of_ble_eq_true rfl)) dL_law_456 ⟨by have := h.2.2.2.2.2.2.1; show cells + x.c ≤ _; omega, by have := h.2.2.2.2.2.2.2; show slots + x.z ≤ _; omega⟩) hA (fun r1 f x H locs cells slots hq h => ?_)
  refine lv_istore (lv' := [(5, .int r1), (4, .int i), (3, .ref ao), (2, .ref mo), (1, .ref xo), (0, .ref b)]) hx hb dL_law_459 hl (by decide) rfl (fun ls hl => ?_)
  refine lv_aload_n hx hb dL_law_461 rfl (lv_at hl 3 rfl) ?_
  refine lv_aload_n hx hb dL_law_462 rfl (lv_at hl 5 rfl) ?_
  refine lv_iload hx hb dL_law_463 (lv_at hl 1 rfl) ?_
  refine lv_iconst (v := 1) hx hb dL_law_465 (by decide) ?_
  refine lv_iadd hx hb dL_law_466 ?_
  refine va_sld hx hb hX hbl hbA h.2.2.2.2.2.1 (sc_in (k := 1) hi hL (by decide) (by decide)) dL_law_467 ?_
  refine lv_aload_n hx hb dL_law_468 rfl (lv_at hl 5 rfl) ?_
  refine lv_iload hx hb dL_law_469 (lv_at hl 1 rfl) ?_
  refine lv_iconst (v := 2) hx hb dL_law_471 (by decide) ?_
  refine lv_iadd hx hb dL_law_472 ?_
  refine va_sld hx hb hX hbl hbA h.2.2.2.2.2.1 (sc_in (k := 2) hi hL (by decide) (by decide)) dL_law_473 ?_
  refine lv_aload_n hx hb dL_law_474 rfl (lv_at hl 5 rfl) ?_
  refine lv_iload hx hb dL_law_475 (lv_at hl 1 rfl) ?_
  refine lv_iconst (v := 3) hx hb dL_law_477 (by decide) ?_
  refine lv_iadd hx hb dL_law_478 ?_
  refine va_sld hx hb hX hbl hbA h.2.2.2.2.2.1 (sc_in (k := 3) hi hL (by decide) (by decide)) dL_law_479 ?_
  refine l_ref h (vy_runV (C := RX12) (b := mo) (As := [.int (xs (i + 1).toNatClampNeg), .int (xs (i + 2).toNatClampNeg), .int (xs (i + 3).toNatClampNeg)]) (rest := []) (n := 3) ⟨hx, hb, hml, hown, hts⟩ (T_X12_remove (X := fun _ _ => False) l hl0 D cA (rc_remove hR hM (xs (i + 1).toNatClampNeg) (xs (i + 2).toNatClampNeg) (xs (i + 3).toNatClampNeg)) H.size) (cwV 3 hts gL_law_X12_remove rfl rfl rfl (by decide +kernel) ⟨Nat.le_of_ble_eq_true rfl, Nat.le_of_ble_eq_true rfl⟩) (hg_recv hK h.2.2.1 h.2.2.2.1 h.2.2.2.2.2.1 hA hZ hm1 hm2 (by decide) rfl) rfl rfl hl.1 rfl (lv_room (Nat.le_of_ble_eq_true rfl)) dL_law_480 ⟨by have := h.2.2.2.2.2.2.1; show cells + y.c ≤ _; omega, by have := h.2.2.2.2.2.2.2; show slots + y.z ≤ _; omega⟩) hA (fun r2 y H locs cells slots hq2 h => ?_)
  refine lv_istore (lv' := [(6, .int r2), (5, .int r1), (4, .int i), (3, .ref ao), (2, .ref mo), (1, .ref xo), (0, .ref b)]) hx hb dL_law_483 hl (by decide) rfl (fun ls hl => ?_)
  refine lv_goto (tgt := 1032) hx hb dL_law_485 (by decide) ?_
  exact K H locs ls cells slots _ f x y (lv_sub hl [2, 3, 4, 5, 6] rfl) hq.2 hq2.2 h

set_option maxHeartbeats 4000000 in
set_option maxRecDepth 100000 in
/-- the law at next -/
theorem law_next {p : Program} {l : Launch} {e : Env} {s : State} {m : MethodId} {below : List Frame} {meth : Method} {c : Code} {Q : State → Prop} {b L : Nat} {xs : Nat → Int32} {A : Nat → Prop} {H : Heap} {locs : List Loc} {ls : Array Slot} {cells slots ao xo mo N M : Nat} {a : AS} {f : Nat → Int64} {x y : HS} {i : Int32} (hl0 : l.stackTraces = false) (D : va_G) (cA : Nat → ClassId) (hx : p.tables.exec = Jvm.exec) (hb : c.code = cL_law) (hml : c.maxLocals = 7) (hown : s.vm.findClass RL = some m.cls) (hts : ∀ w ∈ wsL_law, w.before #[Value.ref b] s = true) (hX : va_X b L xs s s.heap) (hbl : b < s.heap.size) (hbA : ¬ A b) (hA : ∀ q : Nat, s.heap.size ≤ q → A q) (hZ : tx_St A s) (hK : va_K D vwCl (tyA cA) s) (hi : 0 ≤ i.toInt ∧ i.toInt + 6 ≤ L) (hL : L ≤ 3072) (hM : M < 300000) (hl : lv_has ls 7 [(4, .int i), (3, .ref ao), (2, .ref mo), (1, .ref xo), (0, .ref b)]) (hk : KZ xo (N + 1) a x) (hR : RM mo M a y) (h : LW D cA A s H locs cells slots ao f x y)
    (K : ∀ (H : Heap) (locs : List Loc) (ls : Array Slot) (cells slots : Nat) (a : AS) (f : Nat → Int64) (x y : HS), lv_has ls 7 [(4, .int i), (3, .ref ao), (2, .ref mo), (1, .ref xo), (0, .ref b)] → KZ xo N a x → RM mo (M + 1) a y → LW D cA A s H locs cells slots ao f x y → W p l e room_1 s m #[Value.ref b] below meth c H locs cells slots Q (F0 m 1032 ls [])) : W p l e room_1 s m #[Value.ref b] below meth c H locs cells slots Q (F0 m 644 ls []) := by
  obtain ⟨hm1, hm2⟩ := RM_o hR
  refine lv_aload_n hx hb dL_law_644 rfl (lv_at hl 3 rfl) ?_
  refine lv_aload_n hx hb dL_law_645 rfl (lv_at hl 4 rfl) ?_
  refine lv_iload hx hb dL_law_646 (lv_at hl 0 rfl) ?_
  refine lv_iconst (v := 1) hx hb dL_law_648 (by decide) ?_
  refine lv_iadd hx hb dL_law_649 ?_
  refine va_sld hx hb hX hbl hbA h.2.2.2.2.2.1 (sc_in (k := 1) hi hL (by decide) (by decide)) dL_law_650 ?_
  refine lv_aload_n hx hb dL_law_651 rfl (lv_at hl 1 rfl) ?_
  refine l_hlp h (vy_runSW (As := [.ref xo, .int (xs (i + 1).toNatClampNeg), .ref ao]) (rest := []) ⟨hx, hb, hml, hown, hts⟩ (L_next l hl0 D cA hk (RM_avw hR hM) H.size) (fun _ _ _ _ _ h => h) (vx_cwSW 3 hts gL_law_L_next rfl rfl rfl (by decide +kernel) ⟨Nat.le_of_ble_eq_true rfl, Nat.le_of_ble_eq_true rfl⟩) (pt_pre h.1 h.2.1 hK h.2.2.2.2.2.1 hA hZ) rfl rfl hl.1 rfl (lv_room (Nat.le_of_ble_eq_true rfl)) dL_law_652 ⟨by have := h.2.2.2.2.2.2.1; show cells + x.c ≤ _; omega, by have := h.2.2.2.2.2.2.2; show slots + x.z ≤ _; omega⟩) hA (fun r1 f x H locs cells slots hq h => ?_)
  refine lv_istore (lv' := [(5, .int r1), (4, .int i), (3, .ref ao), (2, .ref mo), (1, .ref xo), (0, .ref b)]) hx hb dL_law_655 hl (by decide) rfl (fun ls hl => ?_)
  refine lv_aload_n hx hb dL_law_657 rfl (lv_at hl 3 rfl) ?_
  refine lv_aload_n hx hb dL_law_658 rfl (lv_at hl 5 rfl) ?_
  refine lv_iload hx hb dL_law_659 (lv_at hl 1 rfl) ?_
  refine lv_iconst (v := 1) hx hb dL_law_661 (by decide) ?_
  refine lv_iadd hx hb dL_law_662 ?_
  refine va_sld hx hb hX hbl hbA h.2.2.2.2.2.1 (sc_in (k := 1) hi hL (by decide) (by decide)) dL_law_663 ?_
  refine l_ref h (vy_runV (C := RX12) (b := mo) (As := [.int (xs (i + 1).toNatClampNeg)]) (rest := []) (n := 1) ⟨hx, hb, hml, hown, hts⟩ (T_X12_next (X := fun _ _ => False) l hl0 D cA (rc_next hR hM (xs (i + 1).toNatClampNeg)) H.size) (cwV 1 hts gL_law_X12_next rfl rfl rfl (by decide +kernel) ⟨Nat.le_of_ble_eq_true rfl, Nat.le_of_ble_eq_true rfl⟩) (hg_recv hK h.2.2.1 h.2.2.2.1 h.2.2.2.2.2.1 hA hZ hm1 hm2 (by decide) rfl) rfl rfl hl.1 rfl (lv_room (Nat.le_of_ble_eq_true rfl)) dL_law_664 ⟨by have := h.2.2.2.2.2.2.1; show cells + y.c ≤ _; omega, by have := h.2.2.2.2.2.2.2; show slots + y.z ≤ _; omega⟩) hA (fun r2 y H locs cells slots hq2 h => ?_)
  refine lv_istore (lv' := [(6, .int r2), (5, .int r1), (4, .int i), (3, .ref ao), (2, .ref mo), (1, .ref xo), (0, .ref b)]) hx hb dL_law_667 hl (by decide) rfl (fun ls hl => ?_)
  refine lv_goto (tgt := 1032) hx hb dL_law_669 (by decide) ?_
  exact K H locs ls cells slots _ f x y (lv_sub hl [2, 3, 4, 5, 6] rfl) hq.2 hq2.2 h

set_option maxHeartbeats 4000000 in
set_option maxRecDepth 100000 in
/-- the law at back -/
theorem law_back {p : Program} {l : Launch} {e : Env} {s : State} {m : MethodId} {below : List Frame} {meth : Method} {c : Code} {Q : State → Prop} {b L : Nat} {xs : Nat → Int32} {A : Nat → Prop} {H : Heap} {locs : List Loc} {ls : Array Slot} {cells slots ao xo mo N M : Nat} {a : AS} {f : Nat → Int64} {x y : HS} {i : Int32} (hl0 : l.stackTraces = false) (D : va_G) (cA : Nat → ClassId) (hx : p.tables.exec = Jvm.exec) (hb : c.code = cL_law) (hml : c.maxLocals = 7) (hown : s.vm.findClass RL = some m.cls) (hts : ∀ w ∈ wsL_law, w.before #[Value.ref b] s = true) (hX : va_X b L xs s s.heap) (hbl : b < s.heap.size) (hbA : ¬ A b) (hA : ∀ q : Nat, s.heap.size ≤ q → A q) (hZ : tx_St A s) (hK : va_K D vwCl (tyA cA) s) (hi : 0 ≤ i.toInt ∧ i.toInt + 6 ≤ L) (hL : L ≤ 3072) (hM : M < 300000) (hl : lv_has ls 7 [(4, .int i), (3, .ref ao), (2, .ref mo), (1, .ref xo), (0, .ref b)]) (hk : KZ xo (N + 1) a x) (hR : RM mo M a y) (h : LW D cA A s H locs cells slots ao f x y)
    (K : ∀ (H : Heap) (locs : List Loc) (ls : Array Slot) (cells slots : Nat) (a : AS) (f : Nat → Int64) (x y : HS), lv_has ls 7 [(4, .int i), (3, .ref ao), (2, .ref mo), (1, .ref xo), (0, .ref b)] → KZ xo N a x → RM mo (M + 1) a y → LW D cA A s H locs cells slots ao f x y → W p l e room_1 s m #[Value.ref b] below meth c H locs cells slots Q (F0 m 1032 ls [])) : W p l e room_1 s m #[Value.ref b] below meth c H locs cells slots Q (F0 m 756 ls []) := by
  obtain ⟨hm1, hm2⟩ := RM_o hR
  refine lv_aload_n hx hb dL_law_756 rfl (lv_at hl 3 rfl) ?_
  refine lv_aload_n hx hb dL_law_757 rfl (lv_at hl 4 rfl) ?_
  refine lv_iload hx hb dL_law_758 (lv_at hl 0 rfl) ?_
  refine lv_iconst (v := 1) hx hb dL_law_760 (by decide) ?_
  refine lv_iadd hx hb dL_law_761 ?_
  refine va_sld hx hb hX hbl hbA h.2.2.2.2.2.1 (sc_in (k := 1) hi hL (by decide) (by decide)) dL_law_762 ?_
  suffices hb1 : W p l e room_1 s m #[Value.ref b] below meth c H locs cells slots Q (F0 m 771 ls (.int (bzz (xs (i + 1).toNatClampNeg)) :: [.ref xo])) by
    refine lv_if_eq (tgt := 770) hx hb dL_law_763 (by decide) (fun z => ?_) (fun z => ?_)
    · refine lv_iconst (v := 0) hx hb dL_law_770 (by decide) ?_
      rw [bzz_0 z] at hb1
      exact hb1
    · refine lv_iconst (v := 1) hx hb dL_law_766 (by decide) ?_
      refine lv_goto (tgt := 771) hx hb dL_law_767 (by decide) ?_
      rw [bzz_1 z] at hb1
      exact hb1
  refine lv_aload_n hx hb dL_law_771 rfl (lv_at hl 1 rfl) ?_
  refine l_hlp h (vy_runSW (As := [.ref xo, .int (bzz (xs (i + 1).toNatClampNeg)), .ref ao]) (rest := []) ⟨hx, hb, hml, hown, hts⟩ (L_back l hl0 D cA hk (RM_avw hR hM) H.size) (fun _ _ _ _ _ h => h) (vx_cwSW 3 hts gL_law_L_back rfl rfl rfl (by decide +kernel) ⟨Nat.le_of_ble_eq_true rfl, Nat.le_of_ble_eq_true rfl⟩) (pt_pre h.1 h.2.1 hK h.2.2.2.2.2.1 hA hZ) rfl rfl hl.1 rfl (lv_room (Nat.le_of_ble_eq_true rfl)) dL_law_772 ⟨by have := h.2.2.2.2.2.2.1; show cells + x.c ≤ _; omega, by have := h.2.2.2.2.2.2.2; show slots + x.z ≤ _; omega⟩) hA (fun r1 f x H locs cells slots hq h => ?_)
  refine lv_istore (lv' := [(5, .int r1), (4, .int i), (3, .ref ao), (2, .ref mo), (1, .ref xo), (0, .ref b)]) hx hb dL_law_775 hl (by decide) rfl (fun ls hl => ?_)
  refine lv_aload_n hx hb dL_law_777 rfl (lv_at hl 3 rfl) ?_
  refine lv_aload_n hx hb dL_law_778 rfl (lv_at hl 5 rfl) ?_
  refine lv_iload hx hb dL_law_779 (lv_at hl 1 rfl) ?_
  refine lv_iconst (v := 1) hx hb dL_law_781 (by decide) ?_
  refine lv_iadd hx hb dL_law_782 ?_
  refine va_sld hx hb hX hbl hbA h.2.2.2.2.2.1 (sc_in (k := 1) hi hL (by decide) (by decide)) dL_law_783 ?_
  suffices hb2 : W p l e room_1 s m #[Value.ref b] below meth c H locs cells slots Q (F0 m 792 ls (.int (bzz (xs (i + 1).toNatClampNeg)) :: [.ref mo])) by
    refine lv_if_eq (tgt := 791) hx hb dL_law_784 (by decide) (fun z => ?_) (fun z => ?_)
    · refine lv_iconst (v := 0) hx hb dL_law_791 (by decide) ?_
      rw [bzz_0 z] at hb2
      exact hb2
    · refine lv_iconst (v := 1) hx hb dL_law_787 (by decide) ?_
      refine lv_goto (tgt := 792) hx hb dL_law_788 (by decide) ?_
      rw [bzz_1 z] at hb2
      exact hb2
  refine l_ref h (vy_runV (C := RX12) (b := mo) (As := [.int (bzz (xs (i + 1).toNatClampNeg))]) (rest := []) (n := 1) ⟨hx, hb, hml, hown, hts⟩ (T_X12_back (X := fun _ _ => False) l hl0 D cA (rc_back hR hM (bzz (xs (i + 1).toNatClampNeg))) H.size) (cwV 1 hts gL_law_X12_back rfl rfl rfl (by decide +kernel) ⟨Nat.le_of_ble_eq_true rfl, Nat.le_of_ble_eq_true rfl⟩) (hg_recv hK h.2.2.1 h.2.2.2.1 h.2.2.2.2.2.1 hA hZ hm1 hm2 (by decide) rfl) rfl rfl hl.1 rfl (lv_room (Nat.le_of_ble_eq_true rfl)) dL_law_792 ⟨by have := h.2.2.2.2.2.2.1; show cells + y.c ≤ _; omega, by have := h.2.2.2.2.2.2.2; show slots + y.z ≤ _; omega⟩) hA (fun r2 y H locs cells slots hq2 h => ?_)
  refine lv_istore (lv' := [(6, .int r2), (5, .int r1), (4, .int i), (3, .ref ao), (2, .ref mo), (1, .ref xo), (0, .ref b)]) hx hb dL_law_795 hl (by decide) rfl (fun ls hl => ?_)
  refine lv_goto (tgt := 1032) hx hb dL_law_797 (by decide) ?_
  exact K H locs ls cells slots _ f x y (lv_sub hl [2, 3, 4, 5, 6] rfl) hq.2 hq2.2 h

set_option maxHeartbeats 4000000 in
set_option maxRecDepth 100000 in
/-- the law at question -/
theorem law_question {p : Program} {l : Launch} {e : Env} {s : State} {m : MethodId} {below : List Frame} {meth : Method} {c : Code} {Q : State → Prop} {b L : Nat} {xs : Nat → Int32} {A : Nat → Prop} {H : Heap} {locs : List Loc} {ls : Array Slot} {cells slots ao xo mo N M : Nat} {a : AS} {f : Nat → Int64} {x y : HS} {i : Int32} (hl0 : l.stackTraces = false) (D : va_G) (cA : Nat → ClassId) (hx : p.tables.exec = Jvm.exec) (hb : c.code = cL_law) (hml : c.maxLocals = 7) (hown : s.vm.findClass RL = some m.cls) (hts : ∀ w ∈ wsL_law, w.before #[Value.ref b] s = true) (hX : va_X b L xs s s.heap) (hbl : b < s.heap.size) (hbA : ¬ A b) (hA : ∀ q : Nat, s.heap.size ≤ q → A q) (hZ : tx_St A s) (hK : va_K D vwCl (tyA cA) s) (hi : 0 ≤ i.toInt ∧ i.toInt + 6 ≤ L) (hL : L ≤ 3072) (hM : M < 300000) (hl : lv_has ls 7 [(4, .int i), (3, .ref ao), (2, .ref mo), (1, .ref xo), (0, .ref b)]) (hk : KZ xo (N + 1) a x) (hR : RM mo M a y) (h : LW D cA A s H locs cells slots ao f x y)
    (K : ∀ (H : Heap) (locs : List Loc) (ls : Array Slot) (cells slots : Nat) (a : AS) (f : Nat → Int64) (x y : HS), lv_has ls 7 [(4, .int i), (3, .ref ao), (2, .ref mo), (1, .ref xo), (0, .ref b)] → KZ xo N a x → RM mo (M + 1) a y → LW D cA A s H locs cells slots ao f x y → W p l e room_1 s m #[Value.ref b] below meth c H locs cells slots Q (F0 m 1032 ls [])) : W p l e room_1 s m #[Value.ref b] below meth c H locs cells slots Q (F0 m 936 ls []) := by
  obtain ⟨hm1, hm2⟩ := RM_o hR
  refine lv_aload_n hx hb dL_law_936 rfl (lv_at hl 3 rfl) ?_
  refine lv_aload_n hx hb dL_law_937 rfl (lv_at hl 4 rfl) ?_
  refine lv_iload hx hb dL_law_938 (lv_at hl 0 rfl) ?_
  refine lv_iconst (v := 1) hx hb dL_law_940 (by decide) ?_
  refine lv_iadd hx hb dL_law_941 ?_
  refine va_sld hx hb hX hbl hbA h.2.2.2.2.2.1 (sc_in (k := 1) hi hL (by decide) (by decide)) dL_law_942 ?_
  refine lv_aload_n hx hb dL_law_943 rfl (lv_at hl 1 rfl) ?_
  refine l_hlp h (vy_runSW (As := [.ref xo, .int (xs (i + 1).toNatClampNeg), .ref ao]) (rest := []) ⟨hx, hb, hml, hown, hts⟩ (L_question l hl0 D cA hk (RM_avw hR hM) H.size) (fun _ _ _ _ _ h => h) (vx_cwSW 3 hts gL_law_L_question rfl rfl rfl (by decide +kernel) ⟨Nat.le_of_ble_eq_true rfl, Nat.le_of_ble_eq_true rfl⟩) (pt_pre h.1 h.2.1 hK h.2.2.2.2.2.1 hA hZ) rfl rfl hl.1 rfl (lv_room (Nat.le_of_ble_eq_true rfl)) dL_law_944 ⟨by have := h.2.2.2.2.2.2.1; show cells + x.c ≤ _; omega, by have := h.2.2.2.2.2.2.2; show slots + x.z ≤ _; omega⟩) hA (fun r1 f x H locs cells slots hq h => ?_)
  refine lv_istore (lv' := [(5, .int r1), (4, .int i), (3, .ref ao), (2, .ref mo), (1, .ref xo), (0, .ref b)]) hx hb dL_law_947 hl (by decide) rfl (fun ls hl => ?_)
  refine lv_aload_n hx hb dL_law_949 rfl (lv_at hl 3 rfl) ?_
  refine lv_aload_n hx hb dL_law_950 rfl (lv_at hl 5 rfl) ?_
  refine lv_iload hx hb dL_law_951 (lv_at hl 1 rfl) ?_
  refine lv_iconst (v := 1) hx hb dL_law_953 (by decide) ?_
  refine lv_iadd hx hb dL_law_954 ?_
  refine va_sld hx hb hX hbl hbA h.2.2.2.2.2.1 (sc_in (k := 1) hi hL (by decide) (by decide)) dL_law_955 ?_
  refine l_ref h (vy_runV (C := RX12) (b := mo) (As := [.int (xs (i + 1).toNatClampNeg)]) (rest := []) (n := 1) ⟨hx, hb, hml, hown, hts⟩ (T_X12_question (X := fun _ _ => False) l hl0 D cA (rc_question hR hM (xs (i + 1).toNatClampNeg)) H.size) (cwV 1 hts gL_law_X12_question rfl rfl rfl (by decide +kernel) ⟨Nat.le_of_ble_eq_true rfl, Nat.le_of_ble_eq_true rfl⟩) (hg_recv hK h.2.2.1 h.2.2.2.1 h.2.2.2.2.2.1 hA hZ hm1 hm2 (by decide) rfl) rfl rfl hl.1 rfl (lv_room (Nat.le_of_ble_eq_true rfl)) dL_law_956 ⟨by have := h.2.2.2.2.2.2.1; show cells + y.c ≤ _; omega, by have := h.2.2.2.2.2.2.2; show slots + y.z ≤ _; omega⟩) hA (fun r2 y H locs cells slots hq2 h => ?_)
  refine lv_istore (lv' := [(6, .int r2), (5, .int r1), (4, .int i), (3, .ref ao), (2, .ref mo), (1, .ref xo), (0, .ref b)]) hx hb dL_law_959 hl (by decide) rfl (fun ls hl => ?_)
  refine lv_goto (tgt := 1032) hx hb dL_law_961 (by decide) ?_
  exact K H locs ls cells slots _ f x y (lv_sub hl [2, 3, 4, 5, 6] rfl) hq.2 hq2.2 h
