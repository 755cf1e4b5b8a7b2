set_option maxHeartbeats 4000000 in
set_option maxRecDepth 100000 in
/-- the law at feed -/
theorem law_feed {p : Program} {l : Launch} {e : Env} {s : State} {m : MethodId} {below : List Frame} {meth : Method} {c : Code} {Q : State → Prop} {b L : Nat} {xs : Nat → Int32} {A : Nat → Prop} {H : Heap} {locs : List Loc} {ls : Array Slot} {cells slots ao xo mo N M : Nat} {a : AS} {f : Nat → Int64} {x y : HS} {i : Int32} (hl0 : l.stackTraces = false) (D : va_G) (cA : Nat → ClassId) (hx : p.tables.exec = Jvm.exec) (hb : c.code = cL_law) (hml : c.maxLocals = 7) (hown : s.vm.findClass RL = some m.cls) (hts : ∀ w ∈ wsL_law, w.before #[Value.ref b] s = true) (hX : va_X b L xs s s.heap) (hbl : b < s.heap.size) (hbA : ¬ A b) (hA : ∀ q : Nat, s.heap.size ≤ q → A q) (hZ : tx_St A s) (hK : va_K D vwCl (tyA cA) s) (hi : 0 ≤ i.toInt ∧ i.toInt + 6 ≤ L) (hL : L ≤ 3072) (hM : M < 300000) (hl : lv_has ls 7 [(4, .int i), (3, .ref ao), (2, .ref mo), (1, .ref xo), (0, .ref b)]) (hk : KZ xo (N + 1) a x) (hR : RM mo M a y) (h : LW D cA A s H locs cells slots ao f x y)
    (K : ∀ (H : Heap) (locs : List Loc) (ls : Array Slot) (cells slots : Nat) (a : AS) (f : Nat → Int64) (x y : HS), lv_has ls 7 [(4, .int i), (3, .ref ao), (2, .ref mo), (1, .ref xo), (0, .ref b)] → KZ xo N a x → RM mo (M + 1) a y → LW D cA A s H locs cells slots ao f x y → W p l e room_1 s m #[Value.ref b] below meth c H locs cells slots Q (F0 m 1032 ls [])) : W p l e room_1 s m #[Value.ref b] below meth c H locs cells slots Q (F0 m 144 ls []) := by
  obtain ⟨hm1, hm2⟩ := RM_o hR
  refine lv_aload_n hx hb dL_law_144 rfl (lv_at hl 3 rfl) ?_
  refine lv_aload_n hx hb dL_law_145 rfl (lv_at hl 4 rfl) ?_
  refine lv_iload hx hb dL_law_146 (lv_at hl 0 rfl) ?_
  refine lv_iconst (v := 1) hx hb dL_law_148 (by decide) ?_
  refine lv_iadd hx hb dL_law_149 ?_
  refine va_sld hx hb hX hbl hbA h.2.2.2.2.2.1 (sc_in (k := 1) hi hL (by decide) (by decide)) dL_law_150 ?_
  refine lv_aload_n hx hb dL_law_151 rfl (lv_at hl 4 rfl) ?_
  refine lv_iload hx hb dL_law_152 (lv_at hl 0 rfl) ?_
  refine lv_iconst (v := 2) hx hb dL_law_154 (by decide) ?_
  refine lv_iadd hx hb dL_law_155 ?_
  refine va_sld hx hb hX hbl hbA h.2.2.2.2.2.1 (sc_in (k := 2) hi hL (by decide) (by decide)) dL_law_156 ?_
  refine lv_aload_n hx hb dL_law_157 rfl (lv_at hl 4 rfl) ?_
  refine lv_iload hx hb dL_law_158 (lv_at hl 0 rfl) ?_
  refine lv_iconst (v := 3) hx hb dL_law_160 (by decide) ?_
  refine lv_iadd hx hb dL_law_161 ?_
  refine va_sld hx hb hX hbl hbA h.2.2.2.2.2.1 (sc_in (k := 3) hi hL (by decide) (by decide)) dL_law_162 ?_
  refine lv_aload_n hx hb dL_law_163 rfl (lv_at hl 4 rfl) ?_
  refine lv_iload hx hb dL_law_164 (lv_at hl 0 rfl) ?_
  refine lv_iconst (v := 4) hx hb dL_law_166 (by decide) ?_
  refine lv_iadd hx hb dL_law_167 ?_
  refine va_sld hx hb hX hbl hbA h.2.2.2.2.2.1 (sc_in (k := 4) hi hL (by decide) (by decide)) dL_law_168 ?_
  refine lv_aload_n hx hb dL_law_169 rfl (lv_at hl 4 rfl) ?_
  refine lv_iload hx hb dL_law_170 (lv_at hl 0 rfl) ?_
  refine lv_iconst (v := 5) hx hb dL_law_172 (by decide) ?_
  refine lv_iadd hx hb dL_law_173 ?_
  refine va_sld hx hb hX hbl hbA h.2.2.2.2.2.1 (sc_in (k := 5) hi hL (by decide) (by decide)) dL_law_174 ?_
  refine lv_aload_n hx hb dL_law_175 rfl (lv_at hl 1 rfl) ?_
  refine l_hlp h (vy_runSW (As := [.ref xo, .int (xs (i + 1).toNatClampNeg), .int (xs (i + 2).toNatClampNeg), .int (xs (i + 3).toNatClampNeg), .int (xs (i + 4).toNatClampNeg), .int (xs (i + 5).toNatClampNeg), .ref ao]) (rest := []) ⟨hx, hb, hml, hown, hts⟩ (L_feed l hl0 D cA hk (RM_avw hR hM) H.size) (fun _ _ _ _ _ h => h) (vx_cwSW 7 hts gL_law_L_feed rfl rfl rfl (by decide +kernel) ⟨Nat.le_of_ble_eq_true rfl, Nat.le_of_ble_eq_true rfl⟩) (pt_pre h.1 h.2.1 hK h.2.2.2.2.2.1 hA hZ) rfl rfl hl.1 rfl (lv_room (Nat.le_of_ble_eq_true rfl)) dL_law_176 ⟨by have := h.2.2.2.2.2.2.1; show cells + x.c ≤ _; omega, by have := h.2.2.2.2.2.2.2; show slots + x.z ≤ _; omega⟩) hA (fun r1 f x H locs cells slots hq h => ?_)
  refine lv_istore (lv' := [(5, .int r1), (4, .int i), (3, .ref ao), (2, .ref mo), (1, .ref xo), (0, .ref b)]) hx hb dL_law_179 hl (by decide) rfl (fun ls hl => ?_)
  refine lv_aload_n hx hb dL_law_181 rfl (lv_at hl 3 rfl) ?_
  refine lv_aload_n hx hb dL_law_182 rfl (lv_at hl 5 rfl) ?_
  refine lv_iload hx hb dL_law_183 (lv_at hl 1 rfl) ?_
  refine lv_iconst (v := 1) hx hb dL_law_185 (by decide) ?_
  refine lv_iadd hx hb dL_law_186 ?_
  refine va_sld hx hb hX hbl hbA h.2.2.2.2.2.1 (sc_in (k := 1) hi hL (by decide) (by decide)) dL_law_187 ?_
  refine lv_aload_n hx hb dL_law_188 rfl (lv_at hl 5 rfl) ?_
  refine lv_iload hx hb dL_law_189 (lv_at hl 1 rfl) ?_
  refine lv_iconst (v := 2) hx hb dL_law_191 (by decide) ?_
  refine lv_iadd hx hb dL_law_192 ?_
  refine va_sld hx hb hX hbl hbA h.2.2.2.2.2.1 (sc_in (k := 2) hi hL (by decide) (by decide)) dL_law_193 ?_
  refine lv_aload_n hx hb dL_law_194 rfl (lv_at hl 5 rfl) ?_
  refine lv_iload hx hb dL_law_195 (lv_at hl 1 rfl) ?_
  refine lv_iconst (v := 3) hx hb dL_law_197 (by decide) ?_
  refine lv_iadd hx hb dL_law_198 ?_
  refine va_sld hx hb hX hbl hbA h.2.2.2.2.2.1 (sc_in (k := 3) hi hL (by decide) (by decide)) dL_law_199 ?_
  refine lv_aload_n hx hb dL_law_200 rfl (lv_at hl 5 rfl) ?_
  refine lv_iload hx hb dL_law_201 (lv_at hl 1 rfl) ?_
  refine lv_iconst (v := 4) hx hb dL_law_203 (by decide) ?_
  refine lv_iadd hx hb dL_law_204 ?_
  refine va_sld hx hb hX hbl hbA h.2.2.2.2.2.1 (sc_in (k := 4) hi hL (by decide) (by decide)) dL_law_205 ?_
  refine lv_aload_n hx hb dL_law_206 rfl (lv_at hl 5 rfl) ?_
  refine lv_iload hx hb dL_law_207 (lv_at hl 1 rfl) ?_
  refine lv_iconst (v := 5) hx hb dL_law_209 (by decide) ?_
  refine lv_iadd hx hb dL_law_210 ?_
  refine va_sld hx hb hX hbl hbA h.2.2.2.2.2.1 (sc_in (k := 5) hi hL (by decide) (by decide)) dL_law_211 ?_
  refine l_ref h (vy_runV (C := RX12) (b := mo) (As := [.int (xs (i + 1).toNatClampNeg), .int (xs (i + 2).toNatClampNeg), .int (xs (i + 3).toNatClampNeg), .int (xs (i + 4).toNatClampNeg), .int (xs (i + 5).toNatClampNeg)]) (rest := []) (n := 5) ⟨hx, hb, hml, hown, hts⟩ (T_X12_feed (X := fun _ _ => False) l hl0 D cA (rc_feed hR hM (xs (i + 1).toNatClampNeg) (xs (i + 2).toNatClampNeg) (xs (i + 3).toNatClampNeg) (xs (i + 4).toNatClampNeg) (xs (i + 5).toNatClampNeg)) H.size) (cwV 5 hts gL_law_X12_feed rfl rfl rfl (by decide +kernel) ⟨Nat.le_of_ble_eq_true rfl, Nat.le_of_ble_eq_true rfl⟩) (hg_recv hK h.2.2.1 h.2.2.2.1 h.2.2.2.2.2.1 hA hZ hm1 hm2 (by decide) rfl) rfl rfl hl.1 rfl (lv_room (Nat.le_of_ble_eq_true rfl)) dL_law_212 ⟨by have := h.2.2.2.2.2.2.1; show cells + y.c ≤ _; omega, by have := h.2.2.2.2.2.2.2; show slots + y.z ≤ _; omega⟩) hA (fun r2 y H locs cells slots hq2 h => ?_)
  refine lv_istore (lv' := [(6, .int r2), (5, .int r1), (4, .int i), (3, .ref ao), (2, .ref mo), (1, .ref xo), (0, .ref b)]) hx hb dL_law_215 hl (by decide) rfl (fun ls hl => ?_)
  refine lv_goto (tgt := 1032) hx hb dL_law_217 (by decide) ?_
  exact K H locs ls cells slots _ f x y (lv_sub hl [2, 3, 4, 5, 6] rfl) hq.2 hq2.2 h

set_option maxHeartbeats 4000000 in
set_option maxRecDepth 100000 in
/-- the law at index -/
theorem law_index {p : Program} {l : Launch} {e : Env} {s : State} {m : MethodId} {below : List Frame} {meth : Method} {c : Code} {Q : State → Prop} {b L : Nat} {xs : Nat → Int32} {A : Nat → Prop} {H : Heap} {locs : List Loc} {ls : Array Slot} {cells slots ao xo mo N M : Nat} {a : AS} {f : Nat → Int64} {x y : HS} {i : Int32} (hl0 : l.stackTraces = false) (D : va_G) (cA : Nat → ClassId) (hx : p.tables.exec = Jvm.exec) (hb : c.code = cL_law) (hml : c.maxLocals = 7) (hown : s.vm.findClass RL = some m.cls) (hts : ∀ w ∈ wsL_law, w.before #[Value.ref b] s = true) (hX : va_X b L xs s s.heap) (hbl : b < s.heap.size) (hbA : ¬ A b) (hA : ∀ q : Nat, s.heap.size ≤ q → A q) (hZ : tx_St A s) (hK : va_K D vwCl (tyA cA) s) (hi : 0 ≤ i.toInt ∧ i.toInt + 6 ≤ L) (hL : L ≤ 3072) (hM : M < 300000) (hl : lv_has ls 7 [(4, .int i), (3, .ref ao), (2, .ref mo), (1, .ref xo), (0, .ref b)]) (hk : KZ xo (N + 1) a x) (hR : RM mo M a y) (h : LW D cA A s H locs cells slots ao f x y)
    (K : ∀ (H : Heap) (locs : List Loc) (ls : Array Slot) (cells slots : Nat) (a : AS) (f : Nat → Int64) (x y : HS), lv_has ls 7 [(4, .int i), (3, .ref ao), (2, .ref mo), (1, .ref xo), (0, .ref b)] → KZ xo N a x → RM mo (M + 1) a y → LW D cA A s H locs cells slots ao f x y → W p l e room_1 s m #[Value.ref b] below meth c H locs cells slots Q (F0 m 1032 ls [])) : W p l e room_1 s m #[Value.ref b] below meth c H locs cells slots Q (F0 m 316 ls []) := by
  obtain ⟨hm1, hm2⟩ := RM_o hR
  refine lv_aload_n hx hb dL_law_316 rfl (lv_at hl 3 rfl) ?_
  refine lv_aload_n hx hb dL_law_317 rfl (lv_at hl 4 rfl) ?_
  refine lv_iload hx hb dL_law_318 (lv_at hl 0 rfl) ?_
  refine lv_iconst (v := 1) hx hb dL_law_320 (by decide) ?_
  refine lv_iadd hx hb dL_law_321 ?_
  refine va_sld hx hb hX hbl hbA h.2.2.2.2.2.1 (sc_in (k := 1) hi hL (by decide) (by decide)) dL_law_322 ?_
  refine lv_aload_n hx hb dL_law_323 rfl (lv_at hl 4 rfl) ?_
  refine lv_iload hx hb dL_law_324 (lv_at hl 0 rfl) ?_
  refine lv_iconst (v := 2) hx hb dL_law_326 (by decide) ?_
  refine lv_iadd hx hb dL_law_327 ?_
  refine va_sld hx hb hX hbl hbA h.2.2.2.2.2.1 (sc_in (k := 2) hi hL (by decide) (by decide)) dL_law_328 ?_
  refine lv_aload_n hx hb dL_law_329 rfl (lv_at hl 1 rfl) ?_
  refine l_hlp h (vy_runSW (As := [.ref xo, .int (xs (i + 1).toNatClampNeg), .int (xs (i + 2).toNatClampNeg), .ref ao]) (rest := []) ⟨hx, hb, hml, hown, hts⟩ (L_index l hl0 D cA hk (RM_avw hR hM) H.size) (fun _ _ _ _ _ h => h) (vx_cwSW 4 hts gL_law_L_index rfl rfl rfl (by decide +kernel) ⟨Nat.le_of_ble_eq_true rfl, Nat.le_of_ble_eq_true rfl⟩) (pt_pre h.1 h.2.1 hK h.2.2.2.2.2.1 hA hZ) rfl rfl hl.1 rfl (lv_room (Nat.le_of_ble_eq_true rfl)) dL_law_330 ⟨by have := h.2.2.2.2.2.2.1; show cells + x.c ≤ _; omega, by have := h.2.2.2.2.2.2.2; show slots + x.z ≤ _; omega⟩) hA (fun r1 f x H locs cells slots hq h => ?_)
  refine lv_istore (lv' := [(5, .int r1), (4, .int i), (3, .ref ao), (2, .ref mo), (1, .ref xo), (0, .ref b)]) hx hb dL_law_333 hl (by decide) rfl (fun ls hl => ?_)
  refine lv_aload_n hx hb dL_law_335 rfl (lv_at hl 3 rfl) ?_
  refine lv_aload_n hx hb dL_law_336 rfl (lv_at hl 5 rfl) ?_
  refine lv_iload hx hb dL_law_337 (lv_at hl 1 rfl) ?_
  refine lv_iconst (v := 1) hx hb dL_law_339 (by decide) ?_
  refine lv_iadd hx hb dL_law_340 ?_
  refine va_sld hx hb hX hbl hbA h.2.2.2.2.2.1 (sc_in (k := 1) hi hL (by decide) (by decide)) dL_law_341 ?_
  refine lv_aload_n hx hb dL_law_342 rfl (lv_at hl 5 rfl) ?_
  refine lv_iload hx hb dL_law_343 (lv_at hl 1 rfl) ?_
  refine lv_iconst (v := 2) hx hb dL_law_345 (by decide) ?_
  refine lv_iadd hx hb dL_law_346 ?_
  refine va_sld hx hb hX hbl hbA h.2.2.2.2.2.1 (sc_in (k := 2) hi hL (by decide) (by decide)) dL_law_347 ?_
  refine l_ref h (vy_runV (C := RX12) (b := mo) (As := [.int (xs (i + 1).toNatClampNeg), .int (xs (i + 2).toNatClampNeg)]) (rest := []) (n := 2) ⟨hx, hb, hml, hown, hts⟩ (T_X12_index (X := fun _ _ => False) l hl0 D cA (rc_index hR hM (xs (i + 1).toNatClampNeg) (xs (i + 2).toNatClampNeg)) H.size) (cwV 2 hts gL_law_X12_index rfl rfl rfl (by decide +kernel) ⟨Nat.le_of_ble_eq_true rfl, Nat.le_of_ble_eq_true rfl⟩) (hg_recv hK h.2.2.1 h.2.2.2.1 h.2.2.2.2.2.1 hA hZ hm1 hm2 (by decide) rfl) rfl rfl hl.1 rfl (lv_room (Nat.le_of_ble_eq_true rfl)) dL_law_348 ⟨by have := h.2.2.2.2.2.2.1; show cells + y.c ≤ _; omega, by have := h.2.2.2.2.2.2.2; show slots + y.z ≤ _; omega⟩) hA (fun r2 y H locs cells slots hq2 h => ?_)
  refine lv_istore (lv' := [(6, .int r2), (5, .int r1), (4, .int i), (3, .ref ao), (2, .ref mo), (1, .ref xo), (0, .ref b)]) hx hb dL_law_351 hl (by decide) rfl (fun ls hl => ?_)
  refine lv_goto (tgt := 1032) hx hb dL_law_353 (by decide) ?_
  exact K H locs ls cells slots _ f x y (lv_sub hl [2, 3, 4, 5, 6] rfl) hq.2 hq2.2 h

set_option maxHeartbeats 4000000 in
set_option maxRecDepth 100000 in
/-- the law at find -/
theorem law_find {p : Program} {l : Launch} {e : Env} {s : State} {m : MethodId} {below : List Frame} {meth : Method} {c : Code} {Q : State → Prop} {b L : Nat} {xs : Nat → Int32} {A : Nat → Prop} {H : Heap} {locs : List Loc} {ls : Array Slot} {cells slots ao xo mo N M : Nat} {a : AS} {f : Nat → Int64} {x y : HS} {i : Int32} (hl0 : l.stackTraces = false) (D : va_G) (cA : Nat → ClassId) (hx : p.tables.exec = Jvm.exec) (hb : c.code = cL_law) (hml : c.maxLocals = 7) (hown : s.vm.findClass RL = some m.cls) (hts : ∀ w ∈ wsL_law, w.before #[Value.ref b] s = true) (hX : va_X b L xs s s.heap) (hbl : b < s.heap.size) (hbA : ¬ A b) (hA : ∀ q : Nat, s.heap.size ≤ q → A q) (hZ : tx_St A s) (hK : va_K D vwCl (tyA cA) s) (hi : 0 ≤ i.toInt ∧ i.toInt + 6 ≤ L) (hL : L ≤ 3072) (hM : M < 300000) (hl : lv_has ls 7 [(4, .int i), (3, .ref ao), (2, .ref mo), (1, .ref xo), (0, .ref b)]) (hk : KZ xo (N + 1) a x) (hR : RM mo M a y) (h : LW D cA A s H locs cells slots ao f x y)
    (K : ∀ (H : Heap) (locs : List Loc) (ls : Array Slot) (cells slots : Nat) (a : AS) (f : Nat → Int64) (x y : HS), lv_has ls 7 [(4, .int i), (3, .ref ao), (2, .ref mo), (1, .ref xo), (0, .ref b)] → KZ xo N a x → RM mo (M + 1) a y → LW D cA A s H locs cells slots ao f x y → W p l e room_1 s m #[Value.ref b] below meth c H locs cells slots Q (F0 m 1032 ls [])) : W p l e room_1 s m #[Value.ref b] below meth c H locs cells slots Q (F0 m 488 ls []) := by
  obtain ⟨hm1, hm2⟩ := RM_o hR
  refine lv_aload_n hx hb dL_law_488 rfl (lv_at hl 3 rfl) ?_
  refine lv_aload_n hx hb dL_law_489 rfl (lv_at hl 4 rfl) ?_
  refine lv_iload hx hb dL_law_490 (lv_at hl 0 rfl) ?_
  refine lv_iconst (v := 1) hx hb dL_law_492 (by decide) ?_
  refine lv_iadd hx hb dL_law_493 ?_
  refine va_sld hx hb hX hbl hbA h.2.2.2.2.2.1 (sc_in (k := 1) hi hL (by decide) (by decide)) dL_law_494 ?_
  refine lv_aload_n hx hb dL_law_495 rfl (lv_at hl 4 rfl) ?_
  refine lv_iload hx hb dL_law_496 (lv_at hl 0 rfl) ?_
  refine lv_iconst (v := 2) hx hb dL_law_498 (by decide) ?_
  refine lv_iadd hx hb dL_law_499 ?_
  refine va_sld hx hb hX hbl hbA h.2.2.2.2.2.1 (sc_in (k := 2) hi hL (by decide) (by decide)) dL_law_500 ?_
  refine lv_aload_n hx hb dL_law_501 rfl (lv_at hl 4 rfl) ?_
  refine lv_iload hx hb dL_law_502 (lv_at hl 0 rfl) ?_
  refine lv_iconst (v := 3) hx hb dL_law_504 (by decide) ?_
  refine lv_iadd hx hb dL_law_505 ?_
  refine va_sld hx hb hX hbl hbA h.2.2.2.2.2.1 (sc_in (k := 3) hi hL (by decide) (by decide)) dL_law_506 ?_
  refine lv_aload_n hx hb dL_law_507 rfl (lv_at hl 1 rfl) ?_
  refine l_hlp h (vy_runSW (As := [.ref xo, .int (xs (i + 1).toNatClampNeg), .int (xs (i + 2).toNatClampNeg), .int (xs (i + 3).toNatClampNeg), .ref ao]) (rest := []) ⟨hx, hb, hml, hown, hts⟩ (L_find l hl0 D cA hk (RM_avw hR hM) H.size) (fun _ _ _ _ _ h => h) (vx_cwSW 5 hts gL_law_L_find rfl rfl rfl (by decide +kernel) ⟨Nat.le_of_ble_eq_true rfl, Nat.le_of_ble_eq_true rfl⟩) (pt_pre h.1 h.2.1 hK h.2.2.2.2.2.1 hA hZ) rfl rfl hl.1 rfl (lv_room (Nat.le_of_ble_eq_true rfl)) dL_law_508 ⟨by have := h.2.2.2.2.2.2.1; show cells + x.c ≤ _; omega, by have := h.2.2.2.2.2.2.2; show slots + x.z ≤ _; omega⟩) hA (fun r1 f x H locs cells slots hq h => ?_)
  refine lv_istore (lv' := [(5, .int r1), (4, .int i), (3, .ref ao), (2, .ref mo), (1, .ref xo), (0, .ref b)]) hx hb dL_law_511 hl (by decide) rfl (fun ls hl => ?_)
  refine lv_aload_n hx hb dL_law_513 rfl (lv_at hl 3 rfl) ?_
  refine lv_aload_n hx hb dL_law_514 rfl (lv_at hl 5 rfl) ?_
  refine lv_iload hx hb dL_law_515 (lv_at hl 1 rfl) ?_
  refine lv_iconst (v := 1) hx hb dL_law_517 (by decide) ?_
  refine lv_iadd hx hb dL_law_518 ?_
  refine va_sld hx hb hX hbl hbA h.2.2.2.2.2.1 (sc_in (k := 1) hi hL (by decide) (by decide)) dL_law_519 ?_
  refine lv_aload_n hx hb dL_law_520 rfl (lv_at hl 5 rfl) ?_
  refine lv_iload hx hb dL_law_521 (lv_at hl 1 rfl) ?_
  refine lv_iconst (v := 2) hx hb dL_law_523 (by decide) ?_
  refine lv_iadd hx hb dL_law_524 ?_
  refine va_sld hx hb hX hbl hbA h.2.2.2.2.2.1 (sc_in (k := 2) hi hL (by decide) (by decide)) dL_law_525 ?_
  refine lv_aload_n hx hb dL_law_526 rfl (lv_at hl 5 rfl) ?_
  refine lv_iload hx hb dL_law_527 (lv_at hl 1 rfl) ?_
  refine lv_iconst (v := 3) hx hb dL_law_529 (by decide) ?_
  refine lv_iadd hx hb dL_law_530 ?_
  refine va_sld hx hb hX hbl hbA h.2.2.2.2.2.1 (sc_in (k := 3) hi hL (by decide) (by decide)) dL_law_531 ?_
  refine l_ref h (vy_runV (C := RX12) (b := mo) (As := [.int (xs (i + 1).toNatClampNeg), .int (xs (i + 2).toNatClampNeg), .int (xs (i + 3).toNatClampNeg)]) (rest := []) (n := 3) ⟨hx, hb, hml, hown, hts⟩ (T_X12_find (X := fun _ _ => False) l hl0 D cA (rc_find hR hM (xs (i + 1).toNatClampNeg) (xs (i + 2).toNatClampNeg) (xs (i + 3).toNatClampNeg)) H.size) (cwV 3 hts gL_law_X12_find rfl rfl rfl (by decide +kernel) ⟨Nat.le_of_ble_eq_true rfl, Nat.le_of_ble_eq_true rfl⟩) (hg_recv hK h.2.2.1 h.2.2.2.1 h.2.2.2.2.2.1 hA hZ hm1 hm2 (by decide) rfl) rfl rfl hl.1 rfl (lv_room (Nat.le_of_ble_eq_true rfl)) dL_law_532 ⟨by have := h.2.2.2.2.2.2.1; show cells + y.c ≤ _; omega, by have := h.2.2.2.2.2.2.2; show slots + y.z ≤ _; omega⟩) hA (fun r2 y H locs cells slots hq2 h => ?_)
  refine lv_istore (lv' := [(6, .int r2), (5, .int r1), (4, .int i), (3, .ref ao), (2, .ref mo), (1, .ref xo), (0, .ref b)]) hx hb dL_law_535 hl (by decide) rfl (fun ls hl => ?_)
  refine lv_goto (tgt := 1032) hx hb dL_law_537 (by decide) ?_
  exact K H locs ls cells slots _ f x y (lv_sub hl [2, 3, 4, 5, 6] rfl) hq.2 hq2.2 h

set_option maxHeartbeats 4000000 in
set_option maxRecDepth 100000 in
/-- the law at close -/
theorem law_close {p : Program} {l : Launch} {e : Env} {s : State} {m : MethodId} {below : List Frame} {meth : Method} {c : Code} {Q : State → Prop} {b L : Nat} {xs : Nat → Int32} {A : Nat → Prop} {H : Heap} {locs : List Loc} {ls : Array Slot} {cells slots ao xo mo N M : Nat} {a : AS} {f : Nat → Int64} {x y : HS} {i : Int32} (hl0 : l.stackTraces = false) (D : va_G) (cA : Nat → ClassId) (hx : p.tables.exec = Jvm.exec) (hb : c.code = cL_law) (hml : c.maxLocals = 7) (hown : s.vm.findClass RL = some m.cls) (hts : ∀ w ∈ wsL_law, w.before #[Value.ref b] s = true) (hX : va_X b L xs s s.heap) (hbl : b < s.heap.size) (hbA : ¬ A b) (hA : ∀ q : Nat, s.heap.size ≤ q → A q) (hZ : tx_St A s) (hK : va_K D vwCl (tyA cA) s) (hi : 0 ≤ i.toInt ∧ i.toInt + 6 ≤ L) (hL : L ≤ 3072) (hM : M < 300000) (hl : lv_has ls 7 [(4, .int i), (3, .ref ao), (2, .ref mo), (1, .ref xo), (0, .ref b)]) (hk : KZ xo (N + 1) a x) (hR : RM mo M a y) (h : LW D cA A s H locs cells slots ao f x y)
    (K : ∀ (H : Heap) (locs : List Loc) (ls : Array Slot) (cells slots : Nat) (a : AS) (f : Nat → Int64) (x y : HS), lv_has ls 7 [(4, .int i), (3, .ref ao), (2, .ref mo), (1, .ref xo), (0, .ref b)] → KZ xo N a x → RM mo (M + 1) a y → LW D cA A s H locs cells slots ao f x y → W p l e room_1 s m #[Value.ref b] below meth c H locs cells slots Q (F0 m 1032 ls [])) : W p l e room_1 s m #[Value.ref b] below meth c H locs cells slots Q (F0 m 672 ls []) := by
  obtain ⟨hm1, hm2⟩ := RM_o hR
  refine lv_aload_n hx hb dL_law_672 rfl (lv_at hl 3 rfl) ?_
  refine lv_aload_n hx hb dL_law_673 rfl (lv_at hl 4 rfl) ?_
  refine lv_iload hx hb dL_law_674 (lv_at hl 0 rfl) ?_
  refine lv_iconst (v := 1) hx hb dL_law_676 (by decide) ?_
  refine lv_iadd hx hb dL_law_677 ?_
  refine va_sld hx hb hX hbl hbA h.2.2.2.2.2.1 (sc_in (k := 1) hi hL (by decide) (by decide)) dL_law_678 ?_
  refine lv_aload_n hx hb dL_law_679 rfl (lv_at hl 1 rfl) ?_
  refine l_hlp h (vy_runSW (As := [.ref xo, .int (xs (i + 1).toNatClampNeg), .ref ao]) (rest := []) ⟨hx, hb, hml, hown, hts⟩ (L_close l hl0 D cA hk (RM_avw hR hM) H.size) (fun _ _ _ _ _ h => h) (vx_cwSW 3 hts gL_law_L_close rfl rfl rfl (by decide +kernel) ⟨Nat.le_of_ble_eq_true rfl, Nat.le_of_ble_eq_true rfl⟩) (pt_pre h.1 h.2.1 hK h.2.2.2.2.2.1 hA hZ) rfl rfl hl.1 rfl (lv_room (Nat.le_of_ble_eq_true rfl)) dL_law_680 ⟨by have := h.2.2.2.2.2.2.1; show cells + x.c ≤ _; omega, by have := h.2.2.2.2.2.2.2; show slots + x.z ≤ _; omega⟩) hA (fun r1 f x H locs cells slots hq h => ?_)
  refine lv_istore (lv' := [(5, .int r1), (4, .int i), (3, .ref ao), (2, .ref mo), (1, .ref xo), (0, .ref b)]) hx hb dL_law_683 hl (by decide) rfl (fun ls hl => ?_)
  refine lv_aload_n hx hb dL_law_685 rfl (lv_at hl 3 rfl) ?_
  refine lv_aload_n hx hb dL_law_686 rfl (lv_at hl 5 rfl) ?_
  refine lv_iload hx hb dL_law_687 (lv_at hl 1 rfl) ?_
  refine lv_iconst (v := 1) hx hb dL_law_689 (by decide) ?_
  refine lv_iadd hx hb dL_law_690 ?_
  refine va_sld hx hb hX hbl hbA h.2.2.2.2.2.1 (sc_in (k := 1) hi hL (by decide) (by decide)) dL_law_691 ?_
  refine l_ref h (vy_runV (C := RX12) (b := mo) (As := [.int (xs (i + 1).toNatClampNeg)]) (rest := []) (n := 1) ⟨hx, hb, hml, hown, hts⟩ (T_X12_close (X := fun _ _ => False) l hl0 D cA (rc_close hR hM (xs (i + 1).toNatClampNeg)) H.size) (cwV 1 hts gL_law_X12_close rfl rfl rfl (by decide +kernel) ⟨Nat.le_of_ble_eq_true rfl, Nat.le_of_ble_eq_true rfl⟩) (hg_recv hK h.2.2.1 h.2.2.2.1 h.2.2.2.2.2.1 hA hZ hm1 hm2 (by decide) rfl) rfl rfl hl.1 rfl (lv_room (Nat.le_of_ble_eq_true rfl)) dL_law_692 ⟨by have := h.2.2.2.2.2.2.1; show cells + y.c ≤ _; omega, by have := h.2.2.2.2.2.2.2; show slots + y.z ≤ _; omega⟩) hA (fun r2 y H locs cells slots hq2 h => ?_)
  refine lv_istore (lv' := [(6, .int r2), (5, .int r1), (4, .int i), (3, .ref ao), (2, .ref mo), (1, .ref xo), (0, .ref b)]) hx hb dL_law_695 hl (by decide) rfl (fun ls hl => ?_)
  refine lv_goto (tgt := 1032) hx hb dL_law_697 (by decide) ?_
  exact K H locs ls cells slots _ f x y (lv_sub hl [2, 3, 4, 5, 6] rfl) hq.2 hq2.2 h

set_option maxHeartbeats 4000000 in
set_option maxRecDepth 100000 in
/-- the law at purge -/
theorem law_purge {p : Program} {l : Launch} {e : Env} {s : State} {m : MethodId} {below : List Frame} {meth : Method} {c : Code} {Q : State → Prop} {b L : Nat} {xs : Nat → Int32} {A : Nat → Prop} {H : Heap} {locs : List Loc} {ls : Array Slot} {cells slots ao xo mo N M : Nat} {a : AS} {f : Nat → Int64} {x y : HS} {i : Int32} (hl0 : l.stackTraces = false) (D : va_G) (cA : Nat → ClassId) (hx : p.tables.exec = Jvm.exec) (hb : c.code = cL_law) (hml : c.maxLocals = 7) (hown : s.vm.findClass RL = some m.cls) (hts : ∀ w ∈ wsL_law, w.before #[Value.ref b] s = true) (hX : va_X b L xs s s.heap) (hbl : b < s.heap.size) (hbA : ¬ A b) (hA : ∀ q : Nat, s.heap.size ≤ q → A q) (hZ : tx_St A s) (hK : va_K D vwCl (tyA cA) s) (hi : 0 ≤ i.toInt ∧ i.toInt + 6 ≤ L) (hL : L ≤ 3072) (hM : M < 300000) (hl : lv_has ls 7 [(4, .int i), (3, .ref ao), (2, .ref mo), (1, .ref xo), (0, .ref b)]) (hk : KZ xo (N + 1) a x) (hR : RM mo M a y) (h : LW D cA A s H locs cells slots ao f x y)
    (K : ∀ (H : Heap) (locs : List Loc) (ls : Array Slot) (cells slots : Nat) (a : AS) (f : Nat → Int64) (x y : HS), lv_has ls 7 [(4, .int i), (3, .ref ao), (2, .ref mo), (1, .ref xo), (0, .ref b)] → KZ xo N a x → RM mo (M + 1) a y → LW D cA A s H locs cells slots ao f x y → W p l e room_1 s m #[Value.ref b] below meth c H locs cells slots Q (F0 m 1032 ls [])) : W p l e room_1 s m #[Value.ref b] below meth c H locs cells slots Q (F0 m 800 ls []) := by
  obtain ⟨hm1, hm2⟩ := RM_o hR
  refine lv_aload_n hx hb dL_law_800 rfl (lv_at hl 3 rfl) ?_
  refine lv_aload_n hx hb dL_law_801 rfl (lv_at hl 4 rfl) ?_
  refine lv_iload hx hb dL_law_802 (lv_at hl 0 rfl) ?_
  refine lv_iconst (v := 1) hx hb dL_law_804 (by decide) ?_
  refine lv_iadd hx hb dL_law_805 ?_
  refine va_sld hx hb hX hbl hbA h.2.2.2.2.2.1 (sc_in (k := 1) hi hL (by decide) (by decide)) dL_law_806 ?_
  refine lv_aload_n hx hb dL_law_807 rfl (lv_at hl 1 rfl) ?_
  refine l_hlp h (vy_runSW (As := [.ref xo, .int (xs (i + 1).toNatClampNeg), .ref ao]) (rest := []) ⟨hx, hb, hml, hown, hts⟩ (L_purge l hl0 D cA hk (RM_avw hR hM) H.size) (fun _ _ _ _ _ h => h) (vx_cwSW 3 hts gL_law_L_purge rfl rfl rfl (by decide +kernel) ⟨Nat.le_of_ble_eq_true rfl, Nat.le_of_ble_eq_true rfl⟩) (pt_pre h.1 h.2.1 hK h.2.2.2.2.2.1 hA hZ) rfl rfl hl.1 rfl (lv_room (Nat.le_of_ble_eq_true rfl)) dL_law_808 ⟨by have := h.2.2.2.2.2.2.1; show cells + x.c ≤ _; omega, by have := h.2.2.2.2.2.2.2; show slots + x.z ≤ _; omega⟩) hA (fun r1 f x H locs cells slots hq h => ?_)
  refine lv_istore (lv' := [(5, .int r1), (4, .int i), (3, .ref ao), (2, .ref mo), (1, .ref xo), (0, .ref b)]) hx hb dL_law_811 hl (by decide) rfl (fun ls hl => ?_)
  refine lv_aload_n hx hb dL_law_813 rfl (lv_at hl 3 rfl) ?_
  refine lv_aload_n hx hb dL_law_814 rfl (lv_at hl 5 rfl) ?_
  refine lv_iload hx hb dL_law_815 (lv_at hl 1 rfl) ?_
  refine lv_iconst (v := 1) hx hb dL_law_817 (by decide) ?_
  refine lv_iadd hx hb dL_law_818 ?_
  refine va_sld hx hb hX hbl hbA h.2.2.2.2.2.1 (sc_in (k := 1) hi hL (by decide) (by decide)) dL_law_819 ?_
  refine l_ref h (vy_runV (C := RX12) (b := mo) (As := [.int (xs (i + 1).toNatClampNeg)]) (rest := []) (n := 1) ⟨hx, hb, hml, hown, hts⟩ (T_X12_purge (X := fun _ _ => False) l hl0 D cA (rc_purge hR hM (xs (i + 1).toNatClampNeg)) H.size) (cwV 1 hts gL_law_X12_purge rfl rfl rfl (by decide +kernel) ⟨Nat.le_of_ble_eq_true rfl, Nat.le_of_ble_eq_true rfl⟩) (hg_recv hK h.2.2.1 h.2.2.2.1 h.2.2.2.2.2.1 hA hZ hm1 hm2 (by decide) rfl) rfl rfl hl.1 rfl (lv_room (Nat.le_of_ble_eq_true rfl)) dL_law_820 ⟨by have := h.2.2.2.2.2.2.1; show cells + y.c ≤ _; omega, by have := h.2.2.2.2.2.2.2; show slots + y.z ≤ _; omega⟩) hA (fun r2 y H locs cells slots hq2 h => ?_)
  refine lv_istore (lv' := [(6, .int r2), (5, .int r1), (4, .int i), (3, .ref ao), (2, .ref mo), (1, .ref xo), (0, .ref b)]) hx hb dL_law_823 hl (by decide) rfl (fun ls hl => ?_)
  refine lv_goto (tgt := 1032) hx hb dL_law_825 (by decide) ?_
  exact K H locs ls cells slots _ f x y (lv_sub hl [2, 3, 4, 5, 6] rfl) hq.2 hq2.2 h

set_option maxHeartbeats 4000000 in
set_option maxRecDepth 100000 in
/-- the law at solution -/
theorem law_solution {p : Program} {l : Launch} {e : Env} {s : State} {m : MethodId} {below : List Frame} {meth : Method} {c : Code} {Q : State → Prop} {b L : Nat} {xs : Nat → Int32} {A : Nat → Prop} {H : Heap} {locs : List Loc} {ls : Array Slot} {cells slots ao xo mo N M : Nat} {a : AS} {f : Nat → Int64} {x y : HS} {i : Int32} (hl0 : l.stackTraces = false) (D : va_G) (cA : Nat → ClassId) (hx : p.tables.exec = Jvm.exec) (hb : c.code = cL_law) (hml : c.maxLocals = 7) (hown : s.vm.findClass RL = some m.cls) (hts : ∀ w ∈ wsL_law, w.before #[Value.ref b] s = true) (hX : va_X b L xs s s.heap) (hbl : b < s.heap.size) (hbA : ¬ A b) (hA : ∀ q : Nat, s.heap.size ≤ q → A q) (hZ : tx_St A s) (hK : va_K D vwCl (tyA cA) s) (hi : 0 ≤ i.toInt ∧ i.toInt + 6 ≤ L) (hL : L ≤ 3072) (hM : M < 300000) (hl : lv_has ls 7 [(4, .int i), (3, .ref ao), (2, .ref mo), (1, .ref xo), (0, .ref b)]) (hk : KZ xo (N + 1) a x) (hR : RM mo M a y) (h : LW D cA A s H locs cells slots ao f x y)
    (K : ∀ (H : Heap) (locs : List Loc) (ls : Array Slot) (cells slots : Nat) (a : AS) (f : Nat → Int64) (x y : HS), lv_has ls 7 [(4, .int i), (3, .ref ao), (2, .ref mo), (1, .ref xo), (0, .ref b)] → KZ xo N a x → RM mo (M + 1) a y → LW D cA A s H locs cells slots ao f x y → W p l e room_1 s m #[Value.ref b] below meth c H locs cells slots Q (F0 m 1032 ls [])) : W p l e room_1 s m #[Value.ref b] below meth c H locs cells slots Q (F0 m 964 ls []) := by
  obtain ⟨hm1, hm2⟩ := RM_o hR
  refine lv_aload_n hx hb dL_law_964 rfl (lv_at hl 3 rfl) ?_
  refine lv_aload_n hx hb dL_law_965 rfl (lv_at hl 4 rfl) ?_
  refine lv_iload hx hb dL_law_966 (lv_at hl 0 rfl) ?_
  refine lv_iconst (v := 1) hx hb dL_law_968 (by decide) ?_
  refine lv_iadd hx hb dL_law_969 ?_
  refine va_sld hx hb hX hbl hbA h.2.2.2.2.2.1 (sc_in (k := 1) hi hL (by decide) (by decide)) dL_law_970 ?_
  refine lv_aload_n hx hb dL_law_971 rfl (lv_at hl 4 rfl) ?_
  refine lv_iload hx hb dL_law_972 (lv_at hl 0 rfl) ?_
  refine lv_iconst (v := 2) hx hb dL_law_974 (by decide) ?_
  refine lv_iadd hx hb dL_law_975 ?_
  refine va_sld hx hb hX hbl hbA h.2.2.2.2.2.1 (sc_in (k := 2) hi hL (by decide) (by decide)) dL_law_976 ?_
  refine lv_aload_n hx hb dL_law_977 rfl (lv_at hl 1 rfl) ?_
  refine l_hlp h (vy_runSW (As := [.ref xo, .int (xs (i + 1).toNatClampNeg), .int (xs (i + 2).toNatClampNeg), .ref ao]) (rest := []) ⟨hx, hb, hml, hown, hts⟩ (L_solution l hl0 D cA hk (RM_avw hR hM) H.size) (fun _ _ _ _ _ h => h) (vx_cwSW 4 hts gL_law_L_solution rfl rfl rfl (by decide +kernel) ⟨Nat.le_of_ble_eq_true rfl, Nat.le_of_ble_eq_true rfl⟩) (pt_pre h.1 h.2.1 hK h.2.2.2.2.2.1 hA hZ) rfl rfl hl.1 rfl (lv_room (Nat.le_of_ble_eq_true rfl)) dL_law_978 ⟨by have := h.2.2.2.2.2.2.1; show cells + x.c ≤ _; omega, by have := h.2.2.2.2.2.2.2; show slots + x.z ≤ _; omega⟩) hA (fun r1 f x H locs cells slots hq h => ?_)
  refine lv_istore (lv' := [(5, .int r1), (4, .int i), (3, .ref ao), (2, .ref mo), (1, .ref xo), (0, .ref b)]) hx hb dL_law_981 hl (by decide) rfl (fun ls hl => ?_)
  refine lv_aload_n hx hb dL_law_983 rfl (lv_at hl 3 rfl) ?_
  refine lv_aload_n hx hb dL_law_984 rfl (lv_at hl 5 rfl) ?_
  refine lv_iload hx hb dL_law_985 (lv_at hl 1 rfl) ?_
  refine lv_iconst (v := 1) hx hb dL_law_987 (by decide) ?_
  refine lv_iadd hx hb dL_law_988 ?_
  refine va_sld hx hb hX hbl hbA h.2.2.2.2.2.1 (sc_in (k := 1) hi hL (by decide) (by decide)) dL_law_989 ?_
  refine lv_aload_n hx hb dL_law_990 rfl (lv_at hl 5 rfl) ?_
  refine lv_iload hx hb dL_law_991 (lv_at hl 1 rfl) ?_
  refine lv_iconst (v := 2) hx hb dL_law_993 (by decide) ?_
  refine lv_iadd hx hb dL_law_994 ?_
  refine va_sld hx hb hX hbl hbA h.2.2.2.2.2.1 (sc_in (k := 2) hi hL (by decide) (by decide)) dL_law_995 ?_
  refine l_ref h (vy_runV (C := RX12) (b := mo) (As := [.int (xs (i + 1).toNatClampNeg), .int (xs (i + 2).toNatClampNeg)]) (rest := []) (n := 2) ⟨hx, hb, hml, hown, hts⟩ (T_X12_solution (X := fun _ _ => False) l hl0 D cA (rc_solution hR hM (xs (i + 1).toNatClampNeg) (xs (i + 2).toNatClampNeg)) H.size) (cwV 2 hts gL_law_X12_solution rfl rfl rfl (by decide +kernel) ⟨Nat.le_of_ble_eq_true rfl, Nat.le_of_ble_eq_true rfl⟩) (hg_recv hK h.2.2.1 h.2.2.2.1 h.2.2.2.2.2.1 hA hZ hm1 hm2 (by decide) rfl) rfl rfl hl.1 rfl (lv_room (Nat.le_of_ble_eq_true rfl)) dL_law_996 ⟨by have := h.2.2.2.2.2.2.1; show cells + y.c ≤ _; omega, by have := h.2.2.2.2.2.2.2; show slots + y.z ≤ _; omega⟩) hA (fun r2 y H locs cells slots hq2 h => ?_)
  refine lv_istore (lv' := [(6, .int r2), (5, .int r1), (4, .int i), (3, .ref ao), (2, .ref mo), (1, .ref xo), (0, .ref b)]) hx hb dL_law_999 hl (by decide) rfl (fun ls hl => ?_)
  refine lv_goto (tgt := 1032) hx hb dL_law_1001 (by decide) ?_
  exact K H locs ls cells slots _ f x y (lv_sub hl [2, 3, 4, 5, 6] rfl) hq.2 hq2.2 h
