set_option maxHeartbeats 4000000 in
set_option maxRecDepth 100000 in
/-- the law at table -/
theorem law_table {p : Program} {l : Launch} {e : Env} {s : State} {m : MethodId} {below : List Frame} {meth : Method} {c : Code} {Q : State → Prop} {b : Nat} {xs : Nat → Int32} {A : Nat → Prop} {H : Heap} {locs : List Loc} {ls : Array Slot} (hl0 : l.stackTraces = false) (dC : Nat → ClassId) (dI : Nat → Nat → Nat) (h : Nat) (aT : Nat) (aV : Nat) (aS : Nat) (aC : Nat) (aO : Nat) (aF : Nat) (aL : Nat) (aR : Nat) (aX : Nat) (sT : Nat) (sK : Nat) (sH : Nat) (cT : ClassId) (ao : Nat) (cL : ClassId) (mo : Nat) (m1 : Nat) (m3 : Nat) (m4 : Nat) (m5 : Nat) (m6 : Nat) (m7 : Nat) (m8 : Nat) (m9 : Nat) (m11 : Nat) (m12 : Nat) (m13 : Nat) (m14 : Nat) (m15 : Nat) (m16 : Nat) (m17 : Nat) (m18 : Nat) (m19 : Nat) (m24 : Nat) (m26 : Nat) (m28 : Nat) (m29 : Nat) (m30 : Nat) (m31 : Nat) (m32 : Nat) (m33 : Nat) (m34 : Nat) (m35 : Nat) (m36 : Nat) (m44 : Nat) (m45 : Nat) (m46 : Nat) (m47 : Nat) (m48 : Nat) (m50 : Nat) (m51 : Nat) (m52 : Nat) (m53 : Nat) (m54 : Nat) (k4 : ClassId) (k5 : ClassId) (k6 : ClassId) (k7 : ClassId) (k8 : ClassId) (hx : p.tables.exec = Jvm.exec) (hb : c.code = cL_law) (hml : c.maxLocals = 7) (hown : s.vm.findClass RL = some m.cls) (hts : ∀ w ∈ wsL_law, w.before #[Value.ref b] s = true) (hX : va_X b 6 xs s s.heap) (hbl : b < s.heap.size) (hbA : ¬ A b) (hA : ∀ q : Nat, s.heap.size ≤ q → A q) (hZ : tx_St A s) (hl : lv_has ls 7 [(4, .int 0), (3, .ref ao), (2, .ref mo), (1, .ref h), (0, .ref b)]) (hP : va_P (dC, dI) vwCl [(h, .inr (11, [.ref aT, .ref aV, .ref aS, .ref aC, .ref aO, .ref aF, .ref aL, .ref aR, .ref aX, .int 0, .int 0, .int 0])), (aS, .inr (9, [.ref sT, .ref sK, .ref sH, .int 0, .int 0, .int 0, .int 0, .int 0])), (sT, .inl (cT, 12, .inr (.inr (.inr (.inr (fun _ => none)))))), (ao, .inl (cL, 1, .inr (.inl (fun _ => 0)))), (mo, .inr (12, [.int 0, .ref m1, .int 0, .ref m3, .ref m4, .ref m5, .ref m6, .ref m7, .ref m8, .ref m9, .int 0, .ref m11, .ref m12, .ref m13, .ref m14, .ref m15, .ref m16, .ref m17, .ref m18, .ref m19, .int 0, .int 0, .int 0, .int 0, .ref m24, .int 0, .ref m26, .int 0, .ref m28, .ref m29, .ref m30, .ref m31, .ref m32, .ref m33, .ref m34, .ref m35, .ref m36, .int 0, .int 0, .int 0, .int 0, .int 0, .int (-1), .int 0, .ref m44, .ref m45, .ref m46, .ref m47, .ref m48, .int 0, .ref m50, .ref m51, .ref m52, .ref m53, .ref m54, .int 0, .int 0])), (m4, .inl (k4, 12, .inl (fun _ => 0))), (m5, .inl (k5, 12, .inl (fun _ => 0))), (m6, .inl (k6, 12, .inl (fun _ => 0))), (m7, .inl (k7, 12, .inl (fun _ => 0))), (m8, .inl (k8, 12, .inl (fun _ => 0)))] H) (hD : va_D A [(h, .inr (11, [.ref aT, .ref aV, .ref aS, .ref aC, .ref aO, .ref aF, .ref aL, .ref aR, .ref aX, .int 0, .int 0, .int 0])), (aS, .inr (9, [.ref sT, .ref sK, .ref sH, .int 0, .int 0, .int 0, .int 0, .int 0])), (sT, .inl (cT, 12, .inr (.inr (.inr (.inr (fun _ => none)))))), (ao, .inl (cL, 1, .inr (.inl (fun _ => 0)))), (mo, .inr (12, [.int 0, .ref m1, .int 0, .ref m3, .ref m4, .ref m5, .ref m6, .ref m7, .ref m8, .ref m9, .int 0, .ref m11, .ref m12, .ref m13, .ref m14, .ref m15, .ref m16, .ref m17, .ref m18, .ref m19, .int 0, .int 0, .int 0, .int 0, .ref m24, .int 0, .ref m26, .int 0, .ref m28, .ref m29, .ref m30, .ref m31, .ref m32, .ref m33, .ref m34, .ref m35, .ref m36, .int 0, .int 0, .int 0, .int 0, .int 0, .int (-1), .int 0, .ref m44, .ref m45, .ref m46, .ref m47, .ref m48, .int 0, .ref m50, .ref m51, .ref m52, .ref m53, .ref m54, .int 0, .int 0])), (m4, .inl (k4, 12, .inl (fun _ => 0))), (m5, .inl (k5, 12, .inl (fun _ => 0))), (m6, .inl (k6, 12, .inl (fun _ => 0))), (m7, .inl (k7, 12, .inl (fun _ => 0))), (m8, .inl (k8, 12, .inl (fun _ => 0)))]) (hK : va_K (dC, dI) vwCl [(cT, .object RX10), (cL, .long), (k4, .int), (k5, .int), (k6, .int), (k7, .int), (k8, .int)] s) (hS : va_S A s.heap H locs)
    (K : ∀ (H : Heap) (locs : List Loc) (ls : Array Slot), va_S A s.heap H locs → lv_has ls 7 [(4, .int 0), (0, .ref b)] → W p l e room_1 s m #[Value.ref b] below meth c H locs 2000 300000 Q (F0 m 1620 ls [])) : W p l e room_1 s m #[Value.ref b] below meth c H locs 1000 200000 Q (F0 m 372 ls []) := by
  refine lv_aload_n hx hb dL_law_372 rfl (lv_at hl 3 rfl) ?_
  refine lv_aload_n hx hb dL_law_373 rfl (lv_at hl 4 rfl) ?_
  refine lv_iload hx hb dL_law_374 (lv_at hl 0 rfl) ?_
  refine lv_iconst (v := 1) hx hb dL_law_376 (by decide) ?_
  refine lv_iadd hx hb dL_law_377 ?_
  refine lv_topi (fun z_1 ez_1 => ?_)
  obtain rfl : z_1 = 1 := ez_1.trans (by decide)
  refine va_sld hx hb hX hbl hbA hS (by unfold vp_in; decide) dL_law_378 ?_
  refine lv_topi (fun z_2 ez_2 => ?_)
  obtain rfl : z_2 = xs 1 := ez_2.trans (congrArg xs (by decide))
  refine lv_aload_n hx hb dL_law_379 rfl (lv_at hl 1 rfl) ?_
  refine ct_i (wr := [(mo, .inr (12, [.int 0, .ref m1, .int 0, .ref m3, .ref m4, .ref m5, .ref m6, .ref m7, .ref m8, .ref m9, .int 0, .ref m11, .ref m12, .ref m13, .ref m14, .ref m15, .ref m16, .ref m17, .ref m18, .ref m19, .int 0, .int 0, .int 0, .int 0, .ref m24, .int 0, .ref m26, .int 0, .ref m28, .ref m29, .ref m30, .ref m31, .ref m32, .ref m33, .ref m34, .ref m35, .ref m36, .int 0, .int 0, .int 0, .int 0, .int 0, .int (-1), .int 0, .ref m44, .ref m45, .ref m46, .ref m47, .ref m48, .int 0, .ref m50, .ref m51, .ref m52, .ref m53, .ref m54, .int 0, .int 0])), (m4, .inl (k4, 12, .inl (fun _ => 0))), (m5, .inl (k5, 12, .inl (fun _ => 0))), (m6, .inl (k6, 12, .inl (fun _ => 0))), (m7, .inl (k7, 12, .inl (fun _ => 0))), (m8, .inl (k8, 12, .inl (fun _ => 0)))]) (tyr := [(k4, .int), (k5, .int), (k6, .int), (k7, .int), (k8, .int)]) (vx_runSW (As := [.ref h, .int (xs 1), .ref ao]) (rest := []) ⟨hx, hb, hml, hown, hts⟩ (h_table l hl0 dC dI h aT aV aS aC aO aF aL aR aX sT sK sH cT (xs 1) ao cL (fun _ => 0) H.size ) (vx_cwSW 3 hts gL_law_L_table rfl rfl rfl (by decide +kernel) ⟨Nat.le_of_ble_eq_true rfl, Nat.le_of_ble_eq_true rfl⟩) (ct_pre hP hD hK hS hA hZ [0, 1, 2, 3] [0, 1] rfl (by decide) rfl) rfl rfl hl.1 rfl (lv_room (Nat.le_of_ble_eq_true rfl)) dL_law_380 ⟨Nat.le_of_ble_eq_true rfl, Nat.le_of_ble_eq_true rfl⟩) hP hD hK hS hA [0, 1, 2, 3] [4, 5, 6, 7, 8, 9] [2, 3, 4, 5, 6] rfl rfl (by decide) (by decide) rfl (fun r_4 u H locs w_5 hP hD hK hS => ?_)
  obtain ⟨o_3, rfl⟩ : ∃ z, z = u := ⟨_, rfl⟩
  try dsimp only at w_5
  have hP : va_P (dC, dI) vwCl [(mo, .inr (12, [.int 0, .ref m1, .int 0, .ref m3, .ref m4, .ref m5, .ref m6, .ref m7, .ref m8, .ref m9, .int 0, .ref m11, .ref m12, .ref m13, .ref m14, .ref m15, .ref m16, .ref m17, .ref m18, .ref m19, .int 0, .int 0, .int 0, .int 0, .ref m24, .int 0, .ref m26, .int 0, .ref m28, .ref m29, .ref m30, .ref m31, .ref m32, .ref m33, .ref m34, .ref m35, .ref m36, .int 0, .int 0, .int 0, .int 0, .int 0, .int (-1), .int 0, .ref m44, .ref m45, .ref m46, .ref m47, .ref m48, .int 0, .ref m50, .ref m51, .ref m52, .ref m53, .ref m54, .int 0, .int 0])), (m4, .inl (k4, 12, .inl (fun _ => 0))), (m5, .inl (k5, 12, .inl (fun _ => 0))), (m6, .inl (k6, 12, .inl (fun _ => 0))), (m7, .inl (k7, 12, .inl (fun _ => 0))), (m8, .inl (k8, 12, .inl (fun _ => 0))), (ao, .inl (cL, 1, .inr (.inl o_3)))] H := hP
  have hD : va_D A [(mo, .inr (12, [.int 0, .ref m1, .int 0, .ref m3, .ref m4, .ref m5, .ref m6, .ref m7, .ref m8, .ref m9, .int 0, .ref m11, .ref m12, .ref m13, .ref m14, .ref m15, .ref m16, .ref m17, .ref m18, .ref m19, .int 0, .int 0, .int 0, .int 0, .ref m24, .int 0, .ref m26, .int 0, .ref m28, .ref m29, .ref m30, .ref m31, .ref m32, .ref m33, .ref m34, .ref m35, .ref m36, .int 0, .int 0, .int 0, .int 0, .int 0, .int (-1), .int 0, .ref m44, .ref m45, .ref m46, .ref m47, .ref m48, .int 0, .ref m50, .ref m51, .ref m52, .ref m53, .ref m54, .int 0, .int 0])), (m4, .inl (k4, 12, .inl (fun _ => 0))), (m5, .inl (k5, 12, .inl (fun _ => 0))), (m6, .inl (k6, 12, .inl (fun _ => 0))), (m7, .inl (k7, 12, .inl (fun _ => 0))), (m8, .inl (k8, 12, .inl (fun _ => 0))), (ao, .inl (cL, 1, .inr (.inl o_3)))] := hD
  have hK : va_K (dC, dI) vwCl [(k4, .int), (k5, .int), (k6, .int), (k7, .int), (k8, .int), (cL, .long)] s := hK
  refine W.widen (k := 1005) (n := 200024) (Nat.le_of_ble_eq_true rfl) (Nat.le_of_ble_eq_true rfl) ?_
  rcases w_5 with ⟨rfl, h_6⟩ | ⟨rfl, h_6⟩
  · skip
    refine lv_istore (lv' := [(5, .int 1), (4, .int 0), (3, .ref ao), (2, .ref mo), (1, .ref h), (0, .ref b)]) hx hb dL_law_383 hl (by decide) rfl (fun ls hl => ?_)
    refine lv_aload_n hx hb dL_law_385 rfl (lv_at hl 3 rfl) ?_
    refine lv_aload_n hx hb dL_law_386 rfl (lv_at hl 5 rfl) ?_
    refine lv_iload hx hb dL_law_387 (lv_at hl 1 rfl) ?_
    refine lv_iconst (v := 1) hx hb dL_law_389 (by decide) ?_
    refine lv_iadd hx hb dL_law_390 ?_
    refine lv_topi (fun z_7 ez_7 => ?_)
    obtain rfl : z_7 = 1 := ez_7.trans (by decide)
    refine va_sld hx hb hX hbl hbA hS (by unfold vp_in; decide) dL_law_391 ?_
    refine lv_topi (fun z_8 ez_8 => ?_)
    obtain rfl : z_8 = xs 1 := ez_8.trans (congrArg xs (by decide))
    refine ct_i (wr := [(ao, .inl (cL, 1, .inr (.inl o_3)))]) (tyr := [(cL, .long)]) (va_runV (As := [.int (xs 1)]) (rest := []) ⟨hx, hb, hml, hown, hts⟩ (m_table l hl0 dC dI mo m1 m3 m4 m5 m6 m7 m8 m9 m11 m12 m13 m14 m15 m16 m17 m18 m19 m24 m26 m28 m29 m30 m31 m32 m33 m34 m35 m36 m44 m45 m46 m47 m48 m50 m51 m52 m53 m54 k4 k5 k6 k7 k8 (xs 1) H.size ) (cwV 1 hts gL_law_X12_table rfl rfl rfl (by decide +kernel) ⟨Nat.le_of_ble_eq_true rfl, Nat.le_of_ble_eq_true rfl⟩) (ct_preV (ci := 12) (q0 := 0) hP hD hK hS hA hZ rfl rfl [0, 1, 2, 3, 4, 5] [0, 1, 2, 3, 4] rfl (by decide) rfl) rfl rfl hl.1 rfl (lv_room (Nat.le_of_ble_eq_true rfl)) dL_law_392 ⟨Nat.le_of_ble_eq_true rfl, Nat.le_of_ble_eq_true rfl⟩) hP hD hK hS hA [0, 1, 2, 3, 4, 5] [6] [5] rfl rfl (by decide) (by decide) rfl (fun r_11 u H locs w_12 hP hD hK hS => ?_)
    obtain ⟨o_9, o_10⟩ := u
    try dsimp only at w_12
    have hP : va_P (dC, dI) vwCl [(ao, .inl (cL, 1, .inr (.inl o_3))), (mo, .inr (12, [.int o_9, .ref m1, .int 0, .ref m3, .ref m4, .ref m5, .ref m6, .ref m7, .ref m8, .ref m9, .int o_10, .ref m11, .ref m12, .ref m13, .ref m14, .ref m15, .ref m16, .ref m17, .ref m18, .ref m19, .int 0, .int 0, .int 0, .int 0, .ref m24, .int 0, .ref m26, .int 0, .ref m28, .ref m29, .ref m30, .ref m31, .ref m32, .ref m33, .ref m34, .ref m35, .ref m36, .int 0, .int 0, .int 0, .int 0, .int 0, .int (-1), .int 0, .ref m44, .ref m45, .ref m46, .ref m47, .ref m48, .int 0, .ref m50, .ref m51, .ref m52, .ref m53, .ref m54, .int 0, .int 0]))] H := hP
    have hD : va_D A [(ao, .inl (cL, 1, .inr (.inl o_3))), (mo, .inr (12, [.int o_9, .ref m1, .int 0, .ref m3, .ref m4, .ref m5, .ref m6, .ref m7, .ref m8, .ref m9, .int o_10, .ref m11, .ref m12, .ref m13, .ref m14, .ref m15, .ref m16, .ref m17, .ref m18, .ref m19, .int 0, .int 0, .int 0, .int 0, .ref m24, .int 0, .ref m26, .int 0, .ref m28, .ref m29, .ref m30, .ref m31, .ref m32, .ref m33, .ref m34, .ref m35, .ref m36, .int 0, .int 0, .int 0, .int 0, .int 0, .int (-1), .int 0, .ref m44, .ref m45, .ref m46, .ref m47, .ref m48, .int 0, .ref m50, .ref m51, .ref m52, .ref m53, .ref m54, .int 0, .int 0]))] := hD
    have hK : va_K (dC, dI) vwCl [(cL, .long)] s := hK
    rcases w_12 with ⟨rfl, q_13⟩ | ⟨rfl, q_13⟩
    · skip
      refine lv_istore (lv' := [(6, .int r_11), (5, .int 1), (4, .int 0), (3, .ref ao), (2, .ref mo), (1, .ref h), (0, .ref b)]) hx hb dL_law_395 hl (by decide) rfl (fun ls hl => ?_)
      refine lv_aload_n hx hb dL_law_397 rfl (lv_at hl 4 rfl) ?_
      refine ct_i (wr := [(ao, .inl (cL, 1, .inr (.inl o_3)))]) (tyr := [(cL, .long)]) (va_runV (As := []) (rest := []) ⟨hx, hb, hml, hown, hts⟩ (m_thrown l hl0 dC dI mo m1 m3 m4 m5 m6 m7 m8 m9 m11 m12 m13 m14 m15 m16 m17 m18 m19 m24 m26 m28 m29 m30 m31 m32 m33 m34 m35 m36 m44 m45 m46 m47 m48 m50 m51 m52 m53 m54 1 0 o_10 0 0 0 0 (-1) 0 H.size ) (cwV 0 hts gL_law_X12_thrown rfl rfl rfl (by decide +kernel) ⟨Nat.le_of_ble_eq_true rfl, Nat.le_of_ble_eq_true rfl⟩) (ct_preV (ci := 12) (q0 := 1) hP hD hK hS hA hZ rfl rfl [1] [] rfl (by decide) rfl) rfl rfl hl.1 rfl (lv_room (Nat.le_of_ble_eq_true rfl)) dL_law_398 ⟨Nat.le_of_ble_eq_true rfl, Nat.le_of_ble_eq_true rfl⟩) hP hD hK hS hA [1] [0] [0] rfl rfl (by decide) (by decide) rfl (fun r_14 u H locs w_15 hP hD hK hS => ?_)
      try dsimp only at w_15
      have hP : va_P (dC, dI) vwCl [(ao, .inl (cL, 1, .inr (.inl o_3)))] H := hP
      have hD : va_D A [(ao, .inl (cL, 1, .inr (.inl o_3)))] := hD
      have hK : va_K (dC, dI) vwCl [(cL, .long)] s := hK
      obtain rfl : r_14 = 1 := w_15
      refine lv_iload hx hb dL_law_401 (lv_at hl 1 rfl) ?_
      refine lv_icmp_eq (tgt := 408) hx hb dL_law_403 (by decide) (fun _ => ?_) (fun c_16 => absurd c_16 (by decide))
      refine lv_iload hx hb dL_law_408 (lv_at hl 1 rfl) ?_
      refine lv_if_ne (tgt := 425) hx hb dL_law_410 (by decide) (fun _ => ?_) (fun c_17 => absurd c_17 (by decide))
      refine lv_goto (tgt := 1620) hx hb dL_law_425 (by decide) ?_
      refine W.widen (k := 2000) (n := 300000) (Nat.le_of_ble_eq_true rfl) (Nat.le_of_ble_eq_true rfl) ?_
      exact K _ _ _ hS (lv_sub hl [2, 6] rfl)
    · skip
      exact absurd h_6 q_13.1
  · skip
    refine lv_istore (lv' := [(5, .int 0), (4, .int 0), (3, .ref ao), (2, .ref mo), (1, .ref h), (0, .ref b)]) hx hb dL_law_383 hl (by decide) rfl (fun ls hl => ?_)
    refine lv_aload_n hx hb dL_law_385 rfl (lv_at hl 3 rfl) ?_
    refine lv_aload_n hx hb dL_law_386 rfl (lv_at hl 5 rfl) ?_
    refine lv_iload hx hb dL_law_387 (lv_at hl 1 rfl) ?_
    refine lv_iconst (v := 1) hx hb dL_law_389 (by decide) ?_
    refine lv_iadd hx hb dL_law_390 ?_
    refine lv_topi (fun z_18 ez_18 => ?_)
    obtain rfl : z_18 = 1 := ez_18.trans (by decide)
    refine va_sld hx hb hX hbl hbA hS (by unfold vp_in; decide) dL_law_391 ?_
    refine lv_topi (fun z_19 ez_19 => ?_)
    obtain rfl : z_19 = xs 1 := ez_19.trans (congrArg xs (by decide))
    refine ct_i (wr := [(ao, .inl (cL, 1, .inr (.inl o_3)))]) (tyr := [(cL, .long)]) (va_runV (As := [.int (xs 1)]) (rest := []) ⟨hx, hb, hml, hown, hts⟩ (m_table l hl0 dC dI mo m1 m3 m4 m5 m6 m7 m8 m9 m11 m12 m13 m14 m15 m16 m17 m18 m19 m24 m26 m28 m29 m30 m31 m32 m33 m34 m35 m36 m44 m45 m46 m47 m48 m50 m51 m52 m53 m54 k4 k5 k6 k7 k8 (xs 1) H.size ) (cwV 1 hts gL_law_X12_table rfl rfl rfl (by decide +kernel) ⟨Nat.le_of_ble_eq_true rfl, Nat.le_of_ble_eq_true rfl⟩) (ct_preV (ci := 12) (q0 := 0) hP hD hK hS hA hZ rfl rfl [0, 1, 2, 3, 4, 5] [0, 1, 2, 3, 4] rfl (by decide) rfl) rfl rfl hl.1 rfl (lv_room (Nat.le_of_ble_eq_true rfl)) dL_law_392 ⟨Nat.le_of_ble_eq_true rfl, Nat.le_of_ble_eq_true rfl⟩) hP hD hK hS hA [0, 1, 2, 3, 4, 5] [6] [5] rfl rfl (by decide) (by decide) rfl (fun r_22 u H locs w_23 hP hD hK hS => ?_)
    obtain ⟨o_20, o_21⟩ := u
    try dsimp only at w_23
    have hP : va_P (dC, dI) vwCl [(ao, .inl (cL, 1, .inr (.inl o_3))), (mo, .inr (12, [.int o_20, .ref m1, .int 0, .ref m3, .ref m4, .ref m5, .ref m6, .ref m7, .ref m8, .ref m9, .int o_21, .ref m11, .ref m12, .ref m13, .ref m14, .ref m15, .ref m16, .ref m17, .ref m18, .ref m19, .int 0, .int 0, .int 0, .int 0, .ref m24, .int 0, .ref m26, .int 0, .ref m28, .ref m29, .ref m30, .ref m31, .ref m32, .ref m33, .ref m34, .ref m35, .ref m36, .int 0, .int 0, .int 0, .int 0, .int 0, .int (-1), .int 0, .ref m44, .ref m45, .ref m46, .ref m47, .ref m48, .int 0, .ref m50, .ref m51, .ref m52, .ref m53, .ref m54, .int 0, .int 0]))] H := hP
    have hD : va_D A [(ao, .inl (cL, 1, .inr (.inl o_3))), (mo, .inr (12, [.int o_20, .ref m1, .int 0, .ref m3, .ref m4, .ref m5, .ref m6, .ref m7, .ref m8, .ref m9, .int o_21, .ref m11, .ref m12, .ref m13, .ref m14, .ref m15, .ref m16, .ref m17, .ref m18, .ref m19, .int 0, .int 0, .int 0, .int 0, .ref m24, .int 0, .ref m26, .int 0, .ref m28, .ref m29, .ref m30, .ref m31, .ref m32, .ref m33, .ref m34, .ref m35, .ref m36, .int 0, .int 0, .int 0, .int 0, .int 0, .int (-1), .int 0, .ref m44, .ref m45, .ref m46, .ref m47, .ref m48, .int 0, .ref m50, .ref m51, .ref m52, .ref m53, .ref m54, .int 0, .int 0]))] := hD
    have hK : va_K (dC, dI) vwCl [(cL, .long)] s := hK
    rcases w_23 with ⟨rfl, q_24⟩ | ⟨rfl, q_24⟩
    · skip
      exact absurd q_24 h_6.1
    · skip
      obtain rfl : 0 = r_22 := q_24.2.symm
      refine lv_istore (lv' := [(6, .int 0), (5, .int 0), (4, .int 0), (3, .ref ao), (2, .ref mo), (1, .ref h), (0, .ref b)]) hx hb dL_law_395 hl (by decide) rfl (fun ls hl => ?_)
      refine lv_aload_n hx hb dL_law_397 rfl (lv_at hl 4 rfl) ?_
      refine ct_i (wr := [(ao, .inl (cL, 1, .inr (.inl o_3)))]) (tyr := [(cL, .long)]) (va_runV (As := []) (rest := []) ⟨hx, hb, hml, hown, hts⟩ (m_thrown l hl0 dC dI mo m1 m3 m4 m5 m6 m7 m8 m9 m11 m12 m13 m14 m15 m16 m17 m18 m19 m24 m26 m28 m29 m30 m31 m32 m33 m34 m35 m36 m44 m45 m46 m47 m48 m50 m51 m52 m53 m54 0 0 o_21 0 0 0 0 (-1) 0 H.size ) (cwV 0 hts gL_law_X12_thrown rfl rfl rfl (by decide +kernel) ⟨Nat.le_of_ble_eq_true rfl, Nat.le_of_ble_eq_true rfl⟩) (ct_preV (ci := 12) (q0 := 1) hP hD hK hS hA hZ rfl rfl [1] [] rfl (by decide) rfl) rfl rfl hl.1 rfl (lv_room (Nat.le_of_ble_eq_true rfl)) dL_law_398 ⟨Nat.le_of_ble_eq_true rfl, Nat.le_of_ble_eq_true rfl⟩) hP hD hK hS hA [1] [0] [0] rfl rfl (by decide) (by decide) rfl (fun r_25 u H locs w_26 hP hD hK hS => ?_)
      try dsimp only at w_26
      have hP : va_P (dC, dI) vwCl [(ao, .inl (cL, 1, .inr (.inl o_3)))] H := hP
      have hD : va_D A [(ao, .inl (cL, 1, .inr (.inl o_3)))] := hD
      have hK : va_K (dC, dI) vwCl [(cL, .long)] s := hK
      obtain rfl : r_25 = 0 := w_26
      refine lv_iload hx hb dL_law_401 (lv_at hl 1 rfl) ?_
      refine lv_icmp_eq (tgt := 408) hx hb dL_law_403 (by decide) (fun _ => ?_) (fun c_27 => absurd c_27 (by decide))
      refine lv_iload hx hb dL_law_408 (lv_at hl 1 rfl) ?_
      refine lv_if_ne (tgt := 425) hx hb dL_law_410 (by decide) (fun c_28 => absurd c_28 (by decide)) (fun _ => ?_)
      refine lv_aload_n hx hb dL_law_413 rfl (lv_at hl 3 rfl) ?_
      refine lv_iconst (v := 0) hx hb dL_law_414 (by decide) ?_
      refine va_lald hx hb hK hP 0 0 rfl rfl (by unfold vp_in; decide) dL_law_415 ?_
      refine lv_topl (fun y_29 ey_29 => ?_)
      obtain rfl : y_29 = (0 : Int32).toInt64 := ey_29.trans ((congrArg o_3 (by decide : (0 : Int32).toNatClampNeg = 0)).trans h_6.2)
      refine lv_iload hx hb dL_law_416 (lv_at hl 0 rfl) ?_
      refine lv_i2l (v := (0 : Int32).toInt64) hx hb dL_law_418 rfl ?_
      refine tx_lcmpE hx hb dL_law_419 ?_
      refine lv_if_eq (tgt := 425) hx hb dL_law_420 (by decide) (fun _ => ?_) (fun c_30 => absurd c_30 (by decide))
      refine lv_goto (tgt := 1620) hx hb dL_law_425 (by decide) ?_
      refine W.widen (k := 2000) (n := 300000) (Nat.le_of_ble_eq_true rfl) (Nat.le_of_ble_eq_true rfl) ?_
      exact K _ _ _ hS (lv_sub hl [2, 6] rfl)

set_option maxHeartbeats 4000000 in
set_option maxRecDepth 100000 in
/-- the law at remove -/
theorem law_remove {p : Program} {l : Launch} {e : Env} {s : State} {m : MethodId} {below : List Frame} {meth : Method} {c : Code} {Q : State → Prop} {b : Nat} {xs : Nat → Int32} {A : Nat → Prop} {H : Heap} {locs : List Loc} {ls : Array Slot} (hl0 : l.stackTraces = false) (dC : Nat → ClassId) (dI : Nat → Nat → Nat) (h : Nat) (aT : Nat) (aV : Nat) (aS : Nat) (aC : Nat) (aO : Nat) (aF : Nat) (aL : Nat) (aR : Nat) (aX : Nat) (sT : Nat) (sK : Nat) (sH : Nat) (ao : Nat) (cL : ClassId) (mo : Nat) (m1 : Nat) (m3 : Nat) (m4 : Nat) (m5 : Nat) (m6 : Nat) (m7 : Nat) (m8 : Nat) (m9 : Nat) (m11 : Nat) (m12 : Nat) (m13 : Nat) (m14 : Nat) (m15 : Nat) (m16 : Nat) (m17 : Nat) (m18 : Nat) (m19 : Nat) (m24 : Nat) (m26 : Nat) (m28 : Nat) (m29 : Nat) (m30 : Nat) (m31 : Nat) (m32 : Nat) (m33 : Nat) (m34 : Nat) (m35 : Nat) (m36 : Nat) (m44 : Nat) (m45 : Nat) (m46 : Nat) (m47 : Nat) (m48 : Nat) (m50 : Nat) (m51 : Nat) (m52 : Nat) (m53 : Nat) (m54 : Nat) (hx : p.tables.exec = Jvm.exec) (hb : c.code = cL_law) (hml : c.maxLocals = 7) (hown : s.vm.findClass RL = some m.cls) (hts : ∀ w ∈ wsL_law, w.before #[Value.ref b] s = true) (hX : va_X b 6 xs s s.heap) (hbl : b < s.heap.size) (hbA : ¬ A b) (hA : ∀ q : Nat, s.heap.size ≤ q → A q) (hZ : tx_St A s) (hl : lv_has ls 7 [(4, .int 0), (3, .ref ao), (2, .ref mo), (1, .ref h), (0, .ref b)]) (hP : va_P (dC, dI) vwCl [(h, .inr (11, [.ref aT, .ref aV, .ref aS, .ref aC, .ref aO, .ref aF, .ref aL, .ref aR, .ref aX, .int 0, .int 0, .int 0])), (aS, .inr (9, [.ref sT, .ref sK, .ref sH, .int 0, .int 0, .int 0, .int 0, .int 0])), (ao, .inl (cL, 1, .inr (.inl (fun _ => 0)))), (mo, .inr (12, [.int 0, .ref m1, .int 0, .ref m3, .ref m4, .ref m5, .ref m6, .ref m7, .ref m8, .ref m9, .int 0, .ref m11, .ref m12, .ref m13, .ref m14, .ref m15, .ref m16, .ref m17, .ref m18, .ref m19, .int 0, .int 0, .int 0, .int 0, .ref m24, .int 0, .ref m26, .int 0, .ref m28, .ref m29, .ref m30, .ref m31, .ref m32, .ref m33, .ref m34, .ref m35, .ref m36, .int 0, .int 0, .int 0, .int 0, .int 0, .int (-1), .int 0, .ref m44, .ref m45, .ref m46, .ref m47, .ref m48, .int 0, .ref m50, .ref m51, .ref m52, .ref m53, .ref m54, .int 0, .int 0]))] H) (hD : va_D A [(h, .inr (11, [.ref aT, .ref aV, .ref aS, .ref aC, .ref aO, .ref aF, .ref aL, .ref aR, .ref aX, .int 0, .int 0, .int 0])), (aS, .inr (9, [.ref sT, .ref sK, .ref sH, .int 0, .int 0, .int 0, .int 0, .int 0])), (ao, .inl (cL, 1, .inr (.inl (fun _ => 0)))), (mo, .inr (12, [.int 0, .ref m1, .int 0, .ref m3, .ref m4, .ref m5, .ref m6, .ref m7, .ref m8, .ref m9, .int 0, .ref m11, .ref m12, .ref m13, .ref m14, .ref m15, .ref m16, .ref m17, .ref m18, .ref m19, .int 0, .int 0, .int 0, .int 0, .ref m24, .int 0, .ref m26, .int 0, .ref m28, .ref m29, .ref m30, .ref m31, .ref m32, .ref m33, .ref m34, .ref m35, .ref m36, .int 0, .int 0, .int 0, .int 0, .int 0, .int (-1), .int 0, .ref m44, .ref m45, .ref m46, .ref m47, .ref m48, .int 0, .ref m50, .ref m51, .ref m52, .ref m53, .ref m54, .int 0, .int 0]))]) (hK : va_K (dC, dI) vwCl [(cL, .long)] s) (hS : va_S A s.heap H locs)
    (K : ∀ (H : Heap) (locs : List Loc) (ls : Array Slot), va_S A s.heap H locs → lv_has ls 7 [(4, .int 0), (0, .ref b)] → W p l e room_1 s m #[Value.ref b] below meth c H locs 2000 300000 Q (F0 m 1620 ls [])) : W p l e room_1 s m #[Value.ref b] below meth c H locs 1000 200000 Q (F0 m 632 ls []) := by
  refine lv_aload_n hx hb dL_law_632 rfl (lv_at hl 3 rfl) ?_
  refine lv_aload_n hx hb dL_law_633 rfl (lv_at hl 4 rfl) ?_
  refine lv_iload hx hb dL_law_634 (lv_at hl 0 rfl) ?_
  refine lv_iconst (v := 1) hx hb dL_law_636 (by decide) ?_
  refine lv_iadd hx hb dL_law_637 ?_
  refine lv_topi (fun z_1 ez_1 => ?_)
  obtain rfl : z_1 = 1 := ez_1.trans (by decide)
  refine va_sld hx hb hX hbl hbA hS (by unfold vp_in; decide) dL_law_638 ?_
  refine lv_topi (fun z_2 ez_2 => ?_)
  obtain rfl : z_2 = xs 1 := ez_2.trans (congrArg xs (by decide))
  refine lv_aload_n hx hb dL_law_639 rfl (lv_at hl 4 rfl) ?_
  refine lv_iload hx hb dL_law_640 (lv_at hl 0 rfl) ?_
  refine lv_iconst (v := 2) hx hb dL_law_642 (by decide) ?_
  refine lv_iadd hx hb dL_law_643 ?_
  refine lv_topi (fun z_3 ez_3 => ?_)
  obtain rfl : z_3 = 2 := ez_3.trans (by decide)
  refine va_sld hx hb hX hbl hbA hS (by unfold vp_in; decide) dL_law_644 ?_
  refine lv_topi (fun z_4 ez_4 => ?_)
  obtain rfl : z_4 = xs 2 := ez_4.trans (congrArg xs (by decide))
  refine lv_aload_n hx hb dL_law_645 rfl (lv_at hl 4 rfl) ?_
  refine lv_iload hx hb dL_law_646 (lv_at hl 0 rfl) ?_
  refine lv_iconst (v := 3) hx hb dL_law_648 (by decide) ?_
  refine lv_iadd hx hb dL_law_649 ?_
  refine lv_topi (fun z_5 ez_5 => ?_)
  obtain rfl : z_5 = 3 := ez_5.trans (by decide)
  refine va_sld hx hb hX hbl hbA hS (by unfold vp_in; decide) dL_law_650 ?_
  refine lv_topi (fun z_6 ez_6 => ?_)
  obtain rfl : z_6 = xs 3 := ez_6.trans (congrArg xs (by decide))
  refine lv_aload_n hx hb dL_law_651 rfl (lv_at hl 1 rfl) ?_
  refine ct_i (wr := [(mo, .inr (12, [.int 0, .ref m1, .int 0, .ref m3, .ref m4, .ref m5, .ref m6, .ref m7, .ref m8, .ref m9, .int 0, .ref m11, .ref m12, .ref m13, .ref m14, .ref m15, .ref m16, .ref m17, .ref m18, .ref m19, .int 0, .int 0, .int 0, .int 0, .ref m24, .int 0, .ref m26, .int 0, .ref m28, .ref m29, .ref m30, .ref m31, .ref m32, .ref m33, .ref m34, .ref m35, .ref m36, .int 0, .int 0, .int 0, .int 0, .int 0, .int (-1), .int 0, .ref m44, .ref m45, .ref m46, .ref m47, .ref m48, .int 0, .ref m50, .ref m51, .ref m52, .ref m53, .ref m54, .int 0, .int 0]))]) (tyr := []) (vx_runSW (As := [.ref h, .int (xs 1), .int (xs 2), .int (xs 3), .ref ao]) (rest := []) ⟨hx, hb, hml, hown, hts⟩ (h_remove l hl0 dC dI h aT aV aS aC aO aF aL aR aX sT sK sH (xs 1) (xs 2) (xs 3) ao cL (fun _ => 0) H.size ) (vx_cwSW 5 hts gL_law_L_remove rfl rfl rfl (by decide +kernel) ⟨Nat.le_of_ble_eq_true rfl, Nat.le_of_ble_eq_true rfl⟩) (ct_pre hP hD hK hS hA hZ [0, 1, 2] [0] rfl (by decide) rfl) rfl rfl hl.1 rfl (lv_room (Nat.le_of_ble_eq_true rfl)) dL_law_652 ⟨Nat.le_of_ble_eq_true rfl, Nat.le_of_ble_eq_true rfl⟩) hP hD hK hS hA [0, 1, 2] [3] [] rfl rfl (by decide) (by decide) rfl (fun r_8 u H locs w_9 hP hD hK hS => ?_)
  obtain ⟨o_7, rfl⟩ : ∃ z, z = u := ⟨_, rfl⟩
  try dsimp only at w_9
  have hP : va_P (dC, dI) vwCl [(mo, .inr (12, [.int 0, .ref m1, .int 0, .ref m3, .ref m4, .ref m5, .ref m6, .ref m7, .ref m8, .ref m9, .int 0, .ref m11, .ref m12, .ref m13, .ref m14, .ref m15, .ref m16, .ref m17, .ref m18, .ref m19, .int 0, .int 0, .int 0, .int 0, .ref m24, .int 0, .ref m26, .int 0, .ref m28, .ref m29, .ref m30, .ref m31, .ref m32, .ref m33, .ref m34, .ref m35, .ref m36, .int 0, .int 0, .int 0, .int 0, .int 0, .int (-1), .int 0, .ref m44, .ref m45, .ref m46, .ref m47, .ref m48, .int 0, .ref m50, .ref m51, .ref m52, .ref m53, .ref m54, .int 0, .int 0])), (ao, .inl (cL, 1, .inr (.inl o_7)))] H := hP
  have hD : va_D A [(mo, .inr (12, [.int 0, .ref m1, .int 0, .ref m3, .ref m4, .ref m5, .ref m6, .ref m7, .ref m8, .ref m9, .int 0, .ref m11, .ref m12, .ref m13, .ref m14, .ref m15, .ref m16, .ref m17, .ref m18, .ref m19, .int 0, .int 0, .int 0, .int 0, .ref m24, .int 0, .ref m26, .int 0, .ref m28, .ref m29, .ref m30, .ref m31, .ref m32, .ref m33, .ref m34, .ref m35, .ref m36, .int 0, .int 0, .int 0, .int 0, .int 0, .int (-1), .int 0, .ref m44, .ref m45, .ref m46, .ref m47, .ref m48, .int 0, .ref m50, .ref m51, .ref m52, .ref m53, .ref m54, .int 0, .int 0])), (ao, .inl (cL, 1, .inr (.inl o_7)))] := hD
  have hK : va_K (dC, dI) vwCl [(cL, .long)] s := hK
  refine W.widen (k := 1004) (n := 200024) (Nat.le_of_ble_eq_true rfl) (Nat.le_of_ble_eq_true rfl) ?_
  rcases w_9 with ⟨rfl, h_10⟩ | ⟨rfl, h_10⟩
  · skip
    refine lv_istore (lv' := [(5, .int 1), (4, .int 0), (3, .ref ao), (2, .ref mo), (1, .ref h), (0, .ref b)]) hx hb dL_law_655 hl (by decide) rfl (fun ls hl => ?_)
    refine lv_aload_n hx hb dL_law_657 rfl (lv_at hl 3 rfl) ?_
    refine lv_aload_n hx hb dL_law_658 rfl (lv_at hl 5 rfl) ?_
    refine lv_iload hx hb dL_law_659 (lv_at hl 1 rfl) ?_
    refine lv_iconst (v := 1) hx hb dL_law_661 (by decide) ?_
    refine lv_iadd hx hb dL_law_662 ?_
    refine lv_topi (fun z_11 ez_11 => ?_)
    obtain rfl : z_11 = 1 := ez_11.trans (by decide)
    refine va_sld hx hb hX hbl hbA hS (by unfold vp_in; decide) dL_law_663 ?_
    refine lv_topi (fun z_12 ez_12 => ?_)
    obtain rfl : z_12 = xs 1 := ez_12.trans (congrArg xs (by decide))
    refine lv_aload_n hx hb dL_law_664 rfl (lv_at hl 5 rfl) ?_
    refine lv_iload hx hb dL_law_665 (lv_at hl 1 rfl) ?_
    refine lv_iconst (v := 2) hx hb dL_law_667 (by decide) ?_
    refine lv_iadd hx hb dL_law_668 ?_
    refine lv_topi (fun z_13 ez_13 => ?_)
    obtain rfl : z_13 = 2 := ez_13.trans (by decide)
    refine va_sld hx hb hX hbl hbA hS (by unfold vp_in; decide) dL_law_669 ?_
    refine lv_topi (fun z_14 ez_14 => ?_)
    obtain rfl : z_14 = xs 2 := ez_14.trans (congrArg xs (by decide))
    refine lv_aload_n hx hb dL_law_670 rfl (lv_at hl 5 rfl) ?_
    refine lv_iload hx hb dL_law_671 (lv_at hl 1 rfl) ?_
    refine lv_iconst (v := 3) hx hb dL_law_673 (by decide) ?_
    refine lv_iadd hx hb dL_law_674 ?_
    refine lv_topi (fun z_15 ez_15 => ?_)
    obtain rfl : z_15 = 3 := ez_15.trans (by decide)
    refine va_sld hx hb hX hbl hbA hS (by unfold vp_in; decide) dL_law_675 ?_
    refine lv_topi (fun z_16 ez_16 => ?_)
    obtain rfl : z_16 = xs 3 := ez_16.trans (congrArg xs (by decide))
    refine ct_i (wr := [(ao, .inl (cL, 1, .inr (.inl o_7)))]) (tyr := [(cL, .long)]) (va_runV (As := [.int (xs 1), .int (xs 2), .int (xs 3)]) (rest := []) ⟨hx, hb, hml, hown, hts⟩ (m_remove l hl0 dC dI mo m1 m3 m4 m5 m6 m7 m8 m9 m11 m12 m13 m14 m15 m16 m17 m18 m19 m24 m26 m28 m29 m30 m31 m32 m33 m34 m35 m36 m44 m45 m46 m47 m48 m50 m51 m52 m53 m54 (xs 1) (xs 2) (xs 3) H.size ) (cwV 3 hts gL_law_X12_remove rfl rfl rfl (by decide +kernel) ⟨Nat.le_of_ble_eq_true rfl, Nat.le_of_ble_eq_true rfl⟩) (ct_preV (ci := 12) (q0 := 0) hP hD hK hS hA hZ rfl rfl [0] [] rfl (by decide) rfl) rfl rfl hl.1 rfl (lv_room (Nat.le_of_ble_eq_true rfl)) dL_law_676 ⟨Nat.le_of_ble_eq_true rfl, Nat.le_of_ble_eq_true rfl⟩) hP hD hK hS hA [0] [1] [0] rfl rfl (by decide) (by decide) rfl (fun r_18 u H locs w_19 hP hD hK hS => ?_)
    obtain ⟨o_17, rfl⟩ : ∃ z, z = u := ⟨_, rfl⟩
    try dsimp only at w_19
    have hP : va_P (dC, dI) vwCl [(ao, .inl (cL, 1, .inr (.inl o_7))), (mo, .inr (12, [.int o_17, .ref m1, .int 0, .ref m3, .ref m4, .ref m5, .ref m6, .ref m7, .ref m8, .ref m9, .int 0, .ref m11, .ref m12, .ref m13, .ref m14, .ref m15, .ref m16, .ref m17, .ref m18, .ref m19, .int 0, .int 0, .int 0, .int 0, .ref m24, .int 0, .ref m26, .int 0, .ref m28, .ref m29, .ref m30, .ref m31, .ref m32, .ref m33, .ref m34, .ref m35, .ref m36, .int 0, .int 0, .int 0, .int 0, .int 0, .int (-1), .int 0, .ref m44, .ref m45, .ref m46, .ref m47, .ref m48, .int 0, .ref m50, .ref m51, .ref m52, .ref m53, .ref m54, .int 0, .int 0]))] H := hP
    have hD : va_D A [(ao, .inl (cL, 1, .inr (.inl o_7))), (mo, .inr (12, [.int o_17, .ref m1, .int 0, .ref m3, .ref m4, .ref m5, .ref m6, .ref m7, .ref m8, .ref m9, .int 0, .ref m11, .ref m12, .ref m13, .ref m14, .ref m15, .ref m16, .ref m17, .ref m18, .ref m19, .int 0, .int 0, .int 0, .int 0, .ref m24, .int 0, .ref m26, .int 0, .ref m28, .ref m29, .ref m30, .ref m31, .ref m32, .ref m33, .ref m34, .ref m35, .ref m36, .int 0, .int 0, .int 0, .int 0, .int 0, .int (-1), .int 0, .ref m44, .ref m45, .ref m46, .ref m47, .ref m48, .int 0, .ref m50, .ref m51, .ref m52, .ref m53, .ref m54, .int 0, .int 0]))] := hD
    have hK : va_K (dC, dI) vwCl [(cL, .long)] s := hK
    rcases w_19 with ⟨rfl, q_20⟩ | ⟨rfl, q_20⟩
    · skip
      refine lv_istore (lv' := [(6, .int r_18), (5, .int 1), (4, .int 0), (3, .ref ao), (2, .ref mo), (1, .ref h), (0, .ref b)]) hx hb dL_law_679 hl (by decide) rfl (fun ls hl => ?_)
      refine lv_aload_n hx hb dL_law_681 rfl (lv_at hl 4 rfl) ?_
      refine ct_i (wr := [(ao, .inl (cL, 1, .inr (.inl o_7)))]) (tyr := [(cL, .long)]) (va_runV (As := []) (rest := []) ⟨hx, hb, hml, hown, hts⟩ (m_thrown l hl0 dC dI mo m1 m3 m4 m5 m6 m7 m8 m9 m11 m12 m13 m14 m15 m16 m17 m18 m19 m24 m26 m28 m29 m30 m31 m32 m33 m34 m35 m36 m44 m45 m46 m47 m48 m50 m51 m52 m53 m54 1 0 0 0 0 0 0 (-1) 0 H.size ) (cwV 0 hts gL_law_X12_thrown rfl rfl rfl (by decide +kernel) ⟨Nat.le_of_ble_eq_true rfl, Nat.le_of_ble_eq_true rfl⟩) (ct_preV (ci := 12) (q0 := 1) hP hD hK hS hA hZ rfl rfl [1] [] rfl (by decide) rfl) rfl rfl hl.1 rfl (lv_room (Nat.le_of_ble_eq_true rfl)) dL_law_682 ⟨Nat.le_of_ble_eq_true rfl, Nat.le_of_ble_eq_true rfl⟩) hP hD hK hS hA [1] [0] [0] rfl rfl (by decide) (by decide) rfl (fun r_21 u H locs w_22 hP hD hK hS => ?_)
      try dsimp only at w_22
      have hP : va_P (dC, dI) vwCl [(ao, .inl (cL, 1, .inr (.inl o_7)))] H := hP
      have hD : va_D A [(ao, .inl (cL, 1, .inr (.inl o_7)))] := hD
      have hK : va_K (dC, dI) vwCl [(cL, .long)] s := hK
      obtain rfl : r_21 = 1 := w_22
      refine lv_iload hx hb dL_law_685 (lv_at hl 1 rfl) ?_
      refine lv_icmp_eq (tgt := 692) hx hb dL_law_687 (by decide) (fun _ => ?_) (fun c_23 => absurd c_23 (by decide))
      refine lv_iload hx hb dL_law_692 (lv_at hl 1 rfl) ?_
      refine lv_if_ne (tgt := 709) hx hb dL_law_694 (by decide) (fun _ => ?_) (fun c_24 => absurd c_24 (by decide))
      refine lv_goto (tgt := 1620) hx hb dL_law_709 (by decide) ?_
      refine W.widen (k := 2000) (n := 300000) (Nat.le_of_ble_eq_true rfl) (Nat.le_of_ble_eq_true rfl) ?_
      exact K _ _ _ hS (lv_sub hl [2, 6] rfl)
    · skip
      exact absurd h_10 q_20
  · skip
    refine lv_istore (lv' := [(5, .int 2), (4, .int 0), (3, .ref ao), (2, .ref mo), (1, .ref h), (0, .ref b)]) hx hb dL_law_655 hl (by decide) rfl (fun ls hl => ?_)
    refine lv_aload_n hx hb dL_law_657 rfl (lv_at hl 3 rfl) ?_
    refine lv_aload_n hx hb dL_law_658 rfl (lv_at hl 5 rfl) ?_
    refine lv_iload hx hb dL_law_659 (lv_at hl 1 rfl) ?_
    refine lv_iconst (v := 1) hx hb dL_law_661 (by decide) ?_
    refine lv_iadd hx hb dL_law_662 ?_
    refine lv_topi (fun z_25 ez_25 => ?_)
    obtain rfl : z_25 = 1 := ez_25.trans (by decide)
    refine va_sld hx hb hX hbl hbA hS (by unfold vp_in; decide) dL_law_663 ?_
    refine lv_topi (fun z_26 ez_26 => ?_)
    obtain rfl : z_26 = xs 1 := ez_26.trans (congrArg xs (by decide))
    refine lv_aload_n hx hb dL_law_664 rfl (lv_at hl 5 rfl) ?_
    refine lv_iload hx hb dL_law_665 (lv_at hl 1 rfl) ?_
    refine lv_iconst (v := 2) hx hb dL_law_667 (by decide) ?_
    refine lv_iadd hx hb dL_law_668 ?_
    refine lv_topi (fun z_27 ez_27 => ?_)
    obtain rfl : z_27 = 2 := ez_27.trans (by decide)
    refine va_sld hx hb hX hbl hbA hS (by unfold vp_in; decide) dL_law_669 ?_
    refine lv_topi (fun z_28 ez_28 => ?_)
    obtain rfl : z_28 = xs 2 := ez_28.trans (congrArg xs (by decide))
    refine lv_aload_n hx hb dL_law_670 rfl (lv_at hl 5 rfl) ?_
    refine lv_iload hx hb dL_law_671 (lv_at hl 1 rfl) ?_
    refine lv_iconst (v := 3) hx hb dL_law_673 (by decide) ?_
    refine lv_iadd hx hb dL_law_674 ?_
    refine lv_topi (fun z_29 ez_29 => ?_)
    obtain rfl : z_29 = 3 := ez_29.trans (by decide)
    refine va_sld hx hb hX hbl hbA hS (by unfold vp_in; decide) dL_law_675 ?_
    refine lv_topi (fun z_30 ez_30 => ?_)
    obtain rfl : z_30 = xs 3 := ez_30.trans (congrArg xs (by decide))
    refine ct_i (wr := [(ao, .inl (cL, 1, .inr (.inl o_7)))]) (tyr := [(cL, .long)]) (va_runV (As := [.int (xs 1), .int (xs 2), .int (xs 3)]) (rest := []) ⟨hx, hb, hml, hown, hts⟩ (m_remove l hl0 dC dI mo m1 m3 m4 m5 m6 m7 m8 m9 m11 m12 m13 m14 m15 m16 m17 m18 m19 m24 m26 m28 m29 m30 m31 m32 m33 m34 m35 m36 m44 m45 m46 m47 m48 m50 m51 m52 m53 m54 (xs 1) (xs 2) (xs 3) H.size ) (cwV 3 hts gL_law_X12_remove rfl rfl rfl (by decide +kernel) ⟨Nat.le_of_ble_eq_true rfl, Nat.le_of_ble_eq_true rfl⟩) (ct_preV (ci := 12) (q0 := 0) hP hD hK hS hA hZ rfl rfl [0] [] rfl (by decide) rfl) rfl rfl hl.1 rfl (lv_room (Nat.le_of_ble_eq_true rfl)) dL_law_676 ⟨Nat.le_of_ble_eq_true rfl, Nat.le_of_ble_eq_true rfl⟩) hP hD hK hS hA [0] [1] [0] rfl rfl (by decide) (by decide) rfl (fun r_32 u H locs w_33 hP hD hK hS => ?_)
    obtain ⟨o_31, rfl⟩ : ∃ z, z = u := ⟨_, rfl⟩
    try dsimp only at w_33
    have hP : va_P (dC, dI) vwCl [(ao, .inl (cL, 1, .inr (.inl o_7))), (mo, .inr (12, [.int o_31, .ref m1, .int 0, .ref m3, .ref m4, .ref m5, .ref m6, .ref m7, .ref m8, .ref m9, .int 0, .ref m11, .ref m12, .ref m13, .ref m14, .ref m15, .ref m16, .ref m17, .ref m18, .ref m19, .int 0, .int 0, .int 0, .int 0, .ref m24, .int 0, .ref m26, .int 0, .ref m28, .ref m29, .ref m30, .ref m31, .ref m32, .ref m33, .ref m34, .ref m35, .ref m36, .int 0, .int 0, .int 0, .int 0, .int 0, .int (-1), .int 0, .ref m44, .ref m45, .ref m46, .ref m47, .ref m48, .int 0, .ref m50, .ref m51, .ref m52, .ref m53, .ref m54, .int 0, .int 0]))] H := hP
    have hD : va_D A [(ao, .inl (cL, 1, .inr (.inl o_7))), (mo, .inr (12, [.int o_31, .ref m1, .int 0, .ref m3, .ref m4, .ref m5, .ref m6, .ref m7, .ref m8, .ref m9, .int 0, .ref m11, .ref m12, .ref m13, .ref m14, .ref m15, .ref m16, .ref m17, .ref m18, .ref m19, .int 0, .int 0, .int 0, .int 0, .ref m24, .int 0, .ref m26, .int 0, .ref m28, .ref m29, .ref m30, .ref m31, .ref m32, .ref m33, .ref m34, .ref m35, .ref m36, .int 0, .int 0, .int 0, .int 0, .int 0, .int (-1), .int 0, .ref m44, .ref m45, .ref m46, .ref m47, .ref m48, .int 0, .ref m50, .ref m51, .ref m52, .ref m53, .ref m54, .int 0, .int 0]))] := hD
    have hK : va_K (dC, dI) vwCl [(cL, .long)] s := hK
    rcases w_33 with ⟨rfl, q_34⟩ | ⟨rfl, q_34⟩
    · skip
      exact absurd q_34 h_10
    · skip
      refine lv_istore (lv' := [(6, .int r_32), (5, .int 2), (4, .int 0), (3, .ref ao), (2, .ref mo), (1, .ref h), (0, .ref b)]) hx hb dL_law_679 hl (by decide) rfl (fun ls hl => ?_)
      refine lv_aload_n hx hb dL_law_681 rfl (lv_at hl 4 rfl) ?_
      refine ct_i (wr := [(ao, .inl (cL, 1, .inr (.inl o_7)))]) (tyr := [(cL, .long)]) (va_runV (As := []) (rest := []) ⟨hx, hb, hml, hown, hts⟩ (m_thrown l hl0 dC dI mo m1 m3 m4 m5 m6 m7 m8 m9 m11 m12 m13 m14 m15 m16 m17 m18 m19 m24 m26 m28 m29 m30 m31 m32 m33 m34 m35 m36 m44 m45 m46 m47 m48 m50 m51 m52 m53 m54 2 0 0 0 0 0 0 (-1) 0 H.size ) (cwV 0 hts gL_law_X12_thrown rfl rfl rfl (by decide +kernel) ⟨Nat.le_of_ble_eq_true rfl, Nat.le_of_ble_eq_true rfl⟩) (ct_preV (ci := 12) (q0 := 1) hP hD hK hS hA hZ rfl rfl [1] [] rfl (by decide) rfl) rfl rfl hl.1 rfl (lv_room (Nat.le_of_ble_eq_true rfl)) dL_law_682 ⟨Nat.le_of_ble_eq_true rfl, Nat.le_of_ble_eq_true rfl⟩) hP hD hK hS hA [1] [0] [0] rfl rfl (by decide) (by decide) rfl (fun r_35 u H locs w_36 hP hD hK hS => ?_)
      try dsimp only at w_36
      have hP : va_P (dC, dI) vwCl [(ao, .inl (cL, 1, .inr (.inl o_7)))] H := hP
      have hD : va_D A [(ao, .inl (cL, 1, .inr (.inl o_7)))] := hD
      have hK : va_K (dC, dI) vwCl [(cL, .long)] s := hK
      obtain rfl : r_35 = 2 := w_36
      refine lv_iload hx hb dL_law_685 (lv_at hl 1 rfl) ?_
      refine lv_icmp_eq (tgt := 692) hx hb dL_law_687 (by decide) (fun _ => ?_) (fun c_37 => absurd c_37 (by decide))
      refine lv_iload hx hb dL_law_692 (lv_at hl 1 rfl) ?_
      refine lv_if_ne (tgt := 709) hx hb dL_law_694 (by decide) (fun _ => ?_) (fun c_38 => absurd c_38 (by decide))
      refine lv_goto (tgt := 1620) hx hb dL_law_709 (by decide) ?_
      refine W.widen (k := 2000) (n := 300000) (Nat.le_of_ble_eq_true rfl) (Nat.le_of_ble_eq_true rfl) ?_
      exact K _ _ _ hS (lv_sub hl [2, 6] rfl)

set_option maxHeartbeats 4000000 in
set_option maxRecDepth 100000 in
/-- the law at next -/
theorem law_next {p : Program} {l : Launch} {e : Env} {s : State} {m : MethodId} {below : List Frame} {meth : Method} {c : Code} {Q : State → Prop} {b : Nat} {xs : Nat → Int32} {A : Nat → Prop} {H : Heap} {locs : List Loc} {ls : Array Slot} (hl0 : l.stackTraces = false) (dC : Nat → ClassId) (dI : Nat → Nat → Nat) (h : Nat) (aT : Nat) (aV : Nat) (aS : Nat) (aC : Nat) (aO : Nat) (aF : Nat) (aL : Nat) (aR : Nat) (aX : Nat) (cO : ClassId) (ao : Nat) (cL : ClassId) (mo : Nat) (m1 : Nat) (m3 : Nat) (m4 : Nat) (m5 : Nat) (m6 : Nat) (m7 : Nat) (m8 : Nat) (m9 : Nat) (m11 : Nat) (m12 : Nat) (m13 : Nat) (m14 : Nat) (m15 : Nat) (m16 : Nat) (m17 : Nat) (m18 : Nat) (m19 : Nat) (m24 : Nat) (m26 : Nat) (m28 : Nat) (m29 : Nat) (m30 : Nat) (m31 : Nat) (m32 : Nat) (m33 : Nat) (m34 : Nat) (m35 : Nat) (m36 : Nat) (m44 : Nat) (m45 : Nat) (m46 : Nat) (m47 : Nat) (m48 : Nat) (m50 : Nat) (m51 : Nat) (m52 : Nat) (m53 : Nat) (m54 : Nat) (k28 : ClassId) (hx : p.tables.exec = Jvm.exec) (hb : c.code = cL_law) (hml : c.maxLocals = 7) (hown : s.vm.findClass RL = some m.cls) (hts : ∀ w ∈ wsL_law, w.before #[Value.ref b] s = true) (hX : va_X b 6 xs s s.heap) (hbl : b < s.heap.size) (hbA : ¬ A b) (hA : ∀ q : Nat, s.heap.size ≤ q → A q) (hZ : tx_St A s) (hl : lv_has ls 7 [(4, .int 0), (3, .ref ao), (2, .ref mo), (1, .ref h), (0, .ref b)]) (hP : va_P (dC, dI) vwCl [(h, .inr (11, [.ref aT, .ref aV, .ref aS, .ref aC, .ref aO, .ref aF, .ref aL, .ref aR, .ref aX, .int 0, .int 0, .int 0])), (aO, .inl (cO, 10, .inl (fun _ => 0))), (ao, .inl (cL, 1, .inr (.inl (fun _ => 0)))), (mo, .inr (12, [.int 0, .ref m1, .int 0, .ref m3, .ref m4, .ref m5, .ref m6, .ref m7, .ref m8, .ref m9, .int 0, .ref m11, .ref m12, .ref m13, .ref m14, .ref m15, .ref m16, .ref m17, .ref m18, .ref m19, .int 0, .int 0, .int 0, .int 0, .ref m24, .int 0, .ref m26, .int 0, .ref m28, .ref m29, .ref m30, .ref m31, .ref m32, .ref m33, .ref m34, .ref m35, .ref m36, .int 0, .int 0, .int 0, .int 0, .int 0, .int (-1), .int 0, .ref m44, .ref m45, .ref m46, .ref m47, .ref m48, .int 0, .ref m50, .ref m51, .ref m52, .ref m53, .ref m54, .int 0, .int 0])), (m28, .inl (k28, 10, .inl (fun _ => 0)))] H) (hD : va_D A [(h, .inr (11, [.ref aT, .ref aV, .ref aS, .ref aC, .ref aO, .ref aF, .ref aL, .ref aR, .ref aX, .int 0, .int 0, .int 0])), (aO, .inl (cO, 10, .inl (fun _ => 0))), (ao, .inl (cL, 1, .inr (.inl (fun _ => 0)))), (mo, .inr (12, [.int 0, .ref m1, .int 0, .ref m3, .ref m4, .ref m5, .ref m6, .ref m7, .ref m8, .ref m9, .int 0, .ref m11, .ref m12, .ref m13, .ref m14, .ref m15, .ref m16, .ref m17, .ref m18, .ref m19, .int 0, .int 0, .int 0, .int 0, .ref m24, .int 0, .ref m26, .int 0, .ref m28, .ref m29, .ref m30, .ref m31, .ref m32, .ref m33, .ref m34, .ref m35, .ref m36, .int 0, .int 0, .int 0, .int 0, .int 0, .int (-1), .int 0, .ref m44, .ref m45, .ref m46, .ref m47, .ref m48, .int 0, .ref m50, .ref m51, .ref m52, .ref m53, .ref m54, .int 0, .int 0])), (m28, .inl (k28, 10, .inl (fun _ => 0)))]) (hK : va_K (dC, dI) vwCl [(cO, .boolean), (cL, .long), (k28, .boolean)] s) (hS : va_S A s.heap H locs)
    (K : ∀ (H : Heap) (locs : List Loc) (ls : Array Slot), va_S A s.heap H locs → lv_has ls 7 [(4, .int 0), (0, .ref b)] → W p l e room_1 s m #[Value.ref b] below meth c H locs 2000 300000 Q (F0 m 1620 ls [])) : W p l e room_1 s m #[Value.ref b] below meth c H locs 1000 200000 Q (F0 m 952 ls []) := by
  refine lv_aload_n hx hb dL_law_952 rfl (lv_at hl 3 rfl) ?_
  refine lv_aload_n hx hb dL_law_953 rfl (lv_at hl 4 rfl) ?_
  refine lv_iload hx hb dL_law_954 (lv_at hl 0 rfl) ?_
  refine lv_iconst (v := 1) hx hb dL_law_956 (by decide) ?_
  refine lv_iadd hx hb dL_law_957 ?_
  refine lv_topi (fun z_1 ez_1 => ?_)
  obtain rfl : z_1 = 1 := ez_1.trans (by decide)
  refine va_sld hx hb hX hbl hbA hS (by unfold vp_in; decide) dL_law_958 ?_
  refine lv_topi (fun z_2 ez_2 => ?_)
  obtain rfl : z_2 = xs 1 := ez_2.trans (congrArg xs (by decide))
  refine lv_aload_n hx hb dL_law_959 rfl (lv_at hl 1 rfl) ?_
  refine ct_i (wr := [(mo, .inr (12, [.int 0, .ref m1, .int 0, .ref m3, .ref m4, .ref m5, .ref m6, .ref m7, .ref m8, .ref m9, .int 0, .ref m11, .ref m12, .ref m13, .ref m14, .ref m15, .ref m16, .ref m17, .ref m18, .ref m19, .int 0, .int 0, .int 0, .int 0, .ref m24, .int 0, .ref m26, .int 0, .ref m28, .ref m29, .ref m30, .ref m31, .ref m32, .ref m33, .ref m34, .ref m35, .ref m36, .int 0, .int 0, .int 0, .int 0, .int 0, .int (-1), .int 0, .ref m44, .ref m45, .ref m46, .ref m47, .ref m48, .int 0, .ref m50, .ref m51, .ref m52, .ref m53, .ref m54, .int 0, .int 0])), (m28, .inl (k28, 10, .inl (fun _ => 0)))]) (tyr := [(k28, .boolean)]) (vx_runSW (As := [.ref h, .int (xs 1), .ref ao]) (rest := []) ⟨hx, hb, hml, hown, hts⟩ (h_next l hl0 dC dI h aT aV aS aC aO aF aL aR aX cO (xs 1) ao cL (fun _ => 0) H.size ) (vx_cwSW 3 hts gL_law_L_next rfl rfl rfl (by decide +kernel) ⟨Nat.le_of_ble_eq_true rfl, Nat.le_of_ble_eq_true rfl⟩) (ct_pre hP hD hK hS hA hZ [0, 1, 2] [0, 1] rfl (by decide) rfl) rfl rfl hl.1 rfl (lv_room (Nat.le_of_ble_eq_true rfl)) dL_law_960 ⟨Nat.le_of_ble_eq_true rfl, Nat.le_of_ble_eq_true rfl⟩) hP hD hK hS hA [0, 1, 2] [3, 4] [2] rfl rfl (by decide) (by decide) rfl (fun r_4 u H locs w_5 hP hD hK hS => ?_)
  obtain ⟨o_3, rfl⟩ : ∃ z, z = u := ⟨_, rfl⟩
  try dsimp only at w_5
  have hP : va_P (dC, dI) vwCl [(mo, .inr (12, [.int 0, .ref m1, .int 0, .ref m3, .ref m4, .ref m5, .ref m6, .ref m7, .ref m8, .ref m9, .int 0, .ref m11, .ref m12, .ref m13, .ref m14, .ref m15, .ref m16, .ref m17, .ref m18, .ref m19, .int 0, .int 0, .int 0, .int 0, .ref m24, .int 0, .ref m26, .int 0, .ref m28, .ref m29, .ref m30, .ref m31, .ref m32, .ref m33, .ref m34, .ref m35, .ref m36, .int 0, .int 0, .int 0, .int 0, .int 0, .int (-1), .int 0, .ref m44, .ref m45, .ref m46, .ref m47, .ref m48, .int 0, .ref m50, .ref m51, .ref m52, .ref m53, .ref m54, .int 0, .int 0])), (m28, .inl (k28, 10, .inl (fun _ => 0))), (ao, .inl (cL, 1, .inr (.inl o_3)))] H := hP
  have hD : va_D A [(mo, .inr (12, [.int 0, .ref m1, .int 0, .ref m3, .ref m4, .ref m5, .ref m6, .ref m7, .ref m8, .ref m9, .int 0, .ref m11, .ref m12, .ref m13, .ref m14, .ref m15, .ref m16, .ref m17, .ref m18, .ref m19, .int 0, .int 0, .int 0, .int 0, .ref m24, .int 0, .ref m26, .int 0, .ref m28, .ref m29, .ref m30, .ref m31, .ref m32, .ref m33, .ref m34, .ref m35, .ref m36, .int 0, .int 0, .int 0, .int 0, .int 0, .int (-1), .int 0, .ref m44, .ref m45, .ref m46, .ref m47, .ref m48, .int 0, .ref m50, .ref m51, .ref m52, .ref m53, .ref m54, .int 0, .int 0])), (m28, .inl (k28, 10, .inl (fun _ => 0))), (ao, .inl (cL, 1, .inr (.inl o_3)))] := hD
  have hK : va_K (dC, dI) vwCl [(k28, .boolean), (cL, .long)] s := hK
  refine W.widen (k := 1002) (n := 200012) (Nat.le_of_ble_eq_true rfl) (Nat.le_of_ble_eq_true rfl) ?_
  rcases w_5 with ⟨rfl, h_6⟩ | ⟨rfl, h_6⟩
  · skip
    refine lv_istore (lv' := [(5, .int 1), (4, .int 0), (3, .ref ao), (2, .ref mo), (1, .ref h), (0, .ref b)]) hx hb dL_law_963 hl (by decide) rfl (fun ls hl => ?_)
    refine lv_aload_n hx hb dL_law_965 rfl (lv_at hl 3 rfl) ?_
    refine lv_aload_n hx hb dL_law_966 rfl (lv_at hl 5 rfl) ?_
    refine lv_iload hx hb dL_law_967 (lv_at hl 1 rfl) ?_
    refine lv_iconst (v := 1) hx hb dL_law_969 (by decide) ?_
    refine lv_iadd hx hb dL_law_970 ?_
    refine lv_topi (fun z_7 ez_7 => ?_)
    obtain rfl : z_7 = 1 := ez_7.trans (by decide)
    refine va_sld hx hb hX hbl hbA hS (by unfold vp_in; decide) dL_law_971 ?_
    refine lv_topi (fun z_8 ez_8 => ?_)
    obtain rfl : z_8 = xs 1 := ez_8.trans (congrArg xs (by decide))
    refine ct_i (wr := [(ao, .inl (cL, 1, .inr (.inl o_3)))]) (tyr := [(cL, .long)]) (va_runV (As := [.int (xs 1)]) (rest := []) ⟨hx, hb, hml, hown, hts⟩ (m_next l hl0 dC dI mo m1 m3 m4 m5 m6 m7 m8 m9 m11 m12 m13 m14 m15 m16 m17 m18 m19 m24 m26 m28 m29 m30 m31 m32 m33 m34 m35 m36 m44 m45 m46 m47 m48 m50 m51 m52 m53 m54 k28 (xs 1) H.size ) (cwV 1 hts gL_law_X12_next rfl rfl rfl (by decide +kernel) ⟨Nat.le_of_ble_eq_true rfl, Nat.le_of_ble_eq_true rfl⟩) (ct_preV (ci := 12) (q0 := 0) hP hD hK hS hA hZ rfl rfl [0, 1] [0] rfl (by decide) rfl) rfl rfl hl.1 rfl (lv_room (Nat.le_of_ble_eq_true rfl)) dL_law_972 ⟨Nat.le_of_ble_eq_true rfl, Nat.le_of_ble_eq_true rfl⟩) hP hD hK hS hA [0, 1] [2] [1] rfl rfl (by decide) (by decide) rfl (fun r_10 u H locs w_11 hP hD hK hS => ?_)
    obtain ⟨o_9, rfl⟩ : ∃ z, z = u := ⟨_, rfl⟩
    try dsimp only at w_11
    have hP : va_P (dC, dI) vwCl [(ao, .inl (cL, 1, .inr (.inl o_3))), (mo, .inr (12, [.int o_9, .ref m1, .int 0, .ref m3, .ref m4, .ref m5, .ref m6, .ref m7, .ref m8, .ref m9, .int 0, .ref m11, .ref m12, .ref m13, .ref m14, .ref m15, .ref m16, .ref m17, .ref m18, .ref m19, .int 0, .int 0, .int 0, .int 0, .ref m24, .int 0, .ref m26, .int 0, .ref m28, .ref m29, .ref m30, .ref m31, .ref m32, .ref m33, .ref m34, .ref m35, .ref m36, .int 0, .int 0, .int 0, .int 0, .int 0, .int (-1), .int 0, .ref m44, .ref m45, .ref m46, .ref m47, .ref m48, .int 0, .ref m50, .ref m51, .ref m52, .ref m53, .ref m54, .int 0, .int 0]))] H := hP
    have hD : va_D A [(ao, .inl (cL, 1, .inr (.inl o_3))), (mo, .inr (12, [.int o_9, .ref m1, .int 0, .ref m3, .ref m4, .ref m5, .ref m6, .ref m7, .ref m8, .ref m9, .int 0, .ref m11, .ref m12, .ref m13, .ref m14, .ref m15, .ref m16, .ref m17, .ref m18, .ref m19, .int 0, .int 0, .int 0, .int 0, .ref m24, .int 0, .ref m26, .int 0, .ref m28, .ref m29, .ref m30, .ref m31, .ref m32, .ref m33, .ref m34, .ref m35, .ref m36, .int 0, .int 0, .int 0, .int 0, .int 0, .int (-1), .int 0, .ref m44, .ref m45, .ref m46, .ref m47, .ref m48, .int 0, .ref m50, .ref m51, .ref m52, .ref m53, .ref m54, .int 0, .int 0]))] := hD
    have hK : va_K (dC, dI) vwCl [(cL, .long)] s := hK
    rcases w_11 with ⟨rfl, q_12⟩ | ⟨rfl, q_12⟩
    · skip
      refine lv_istore (lv' := [(6, .int r_10), (5, .int 1), (4, .int 0), (3, .ref ao), (2, .ref mo), (1, .ref h), (0, .ref b)]) hx hb dL_law_975 hl (by decide) rfl (fun ls hl => ?_)
      refine lv_aload_n hx hb dL_law_977 rfl (lv_at hl 4 rfl) ?_
      refine ct_i (wr := [(ao, .inl (cL, 1, .inr (.inl o_3)))]) (tyr := [(cL, .long)]) (va_runV (As := []) (rest := []) ⟨hx, hb, hml, hown, hts⟩ (m_thrown l hl0 dC dI mo m1 m3 m4 m5 m6 m7 m8 m9 m11 m12 m13 m14 m15 m16 m17 m18 m19 m24 m26 m28 m29 m30 m31 m32 m33 m34 m35 m36 m44 m45 m46 m47 m48 m50 m51 m52 m53 m54 1 0 0 0 0 0 0 (-1) 0 H.size ) (cwV 0 hts gL_law_X12_thrown rfl rfl rfl (by decide +kernel) ⟨Nat.le_of_ble_eq_true rfl, Nat.le_of_ble_eq_true rfl⟩) (ct_preV (ci := 12) (q0 := 1) hP hD hK hS hA hZ rfl rfl [1] [] rfl (by decide) rfl) rfl rfl hl.1 rfl (lv_room (Nat.le_of_ble_eq_true rfl)) dL_law_978 ⟨Nat.le_of_ble_eq_true rfl, Nat.le_of_ble_eq_true rfl⟩) hP hD hK hS hA [1] [0] [0] rfl rfl (by decide) (by decide) rfl (fun r_13 u H locs w_14 hP hD hK hS => ?_)
      try dsimp only at w_14
      have hP : va_P (dC, dI) vwCl [(ao, .inl (cL, 1, .inr (.inl o_3)))] H := hP
      have hD : va_D A [(ao, .inl (cL, 1, .inr (.inl o_3)))] := hD
      have hK : va_K (dC, dI) vwCl [(cL, .long)] s := hK
      obtain rfl : r_13 = 1 := w_14
      refine lv_iload hx hb dL_law_981 (lv_at hl 1 rfl) ?_
      refine lv_icmp_eq (tgt := 988) hx hb dL_law_983 (by decide) (fun _ => ?_) (fun c_15 => absurd c_15 (by decide))
      refine lv_iload hx hb dL_law_988 (lv_at hl 1 rfl) ?_
      refine lv_if_ne (tgt := 1005) hx hb dL_law_990 (by decide) (fun _ => ?_) (fun c_16 => absurd c_16 (by decide))
      refine lv_goto (tgt := 1620) hx hb dL_law_1005 (by decide) ?_
      refine W.widen (k := 2000) (n := 300000) (Nat.le_of_ble_eq_true rfl) (Nat.le_of_ble_eq_true rfl) ?_
      exact K _ _ _ hS (lv_sub hl [2, 6] rfl)
    · skip
      exact absurd h_6 q_12
  · skip
    refine lv_istore (lv' := [(5, .int 2), (4, .int 0), (3, .ref ao), (2, .ref mo), (1, .ref h), (0, .ref b)]) hx hb dL_law_963 hl (by decide) rfl (fun ls hl => ?_)
    refine lv_aload_n hx hb dL_law_965 rfl (lv_at hl 3 rfl) ?_
    refine lv_aload_n hx hb dL_law_966 rfl (lv_at hl 5 rfl) ?_
    refine lv_iload hx hb dL_law_967 (lv_at hl 1 rfl) ?_
    refine lv_iconst (v := 1) hx hb dL_law_969 (by decide) ?_
    refine lv_iadd hx hb dL_law_970 ?_
    refine lv_topi (fun z_17 ez_17 => ?_)
    obtain rfl : z_17 = 1 := ez_17.trans (by decide)
    refine va_sld hx hb hX hbl hbA hS (by unfold vp_in; decide) dL_law_971 ?_
    refine lv_topi (fun z_18 ez_18 => ?_)
    obtain rfl : z_18 = xs 1 := ez_18.trans (congrArg xs (by decide))
    refine ct_i (wr := [(ao, .inl (cL, 1, .inr (.inl o_3)))]) (tyr := [(cL, .long)]) (va_runV (As := [.int (xs 1)]) (rest := []) ⟨hx, hb, hml, hown, hts⟩ (m_next l hl0 dC dI mo m1 m3 m4 m5 m6 m7 m8 m9 m11 m12 m13 m14 m15 m16 m17 m18 m19 m24 m26 m28 m29 m30 m31 m32 m33 m34 m35 m36 m44 m45 m46 m47 m48 m50 m51 m52 m53 m54 k28 (xs 1) H.size ) (cwV 1 hts gL_law_X12_next rfl rfl rfl (by decide +kernel) ⟨Nat.le_of_ble_eq_true rfl, Nat.le_of_ble_eq_true rfl⟩) (ct_preV (ci := 12) (q0 := 0) hP hD hK hS hA hZ rfl rfl [0, 1] [0] rfl (by decide) rfl) rfl rfl hl.1 rfl (lv_room (Nat.le_of_ble_eq_true rfl)) dL_law_972 ⟨Nat.le_of_ble_eq_true rfl, Nat.le_of_ble_eq_true rfl⟩) hP hD hK hS hA [0, 1] [2] [1] rfl rfl (by decide) (by decide) rfl (fun r_20 u H locs w_21 hP hD hK hS => ?_)
    obtain ⟨o_19, rfl⟩ : ∃ z, z = u := ⟨_, rfl⟩
    try dsimp only at w_21
    have hP : va_P (dC, dI) vwCl [(ao, .inl (cL, 1, .inr (.inl o_3))), (mo, .inr (12, [.int o_19, .ref m1, .int 0, .ref m3, .ref m4, .ref m5, .ref m6, .ref m7, .ref m8, .ref m9, .int 0, .ref m11, .ref m12, .ref m13, .ref m14, .ref m15, .ref m16, .ref m17, .ref m18, .ref m19, .int 0, .int 0, .int 0, .int 0, .ref m24, .int 0, .ref m26, .int 0, .ref m28, .ref m29, .ref m30, .ref m31, .ref m32, .ref m33, .ref m34, .ref m35, .ref m36, .int 0, .int 0, .int 0, .int 0, .int 0, .int (-1), .int 0, .ref m44, .ref m45, .ref m46, .ref m47, .ref m48, .int 0, .ref m50, .ref m51, .ref m52, .ref m53, .ref m54, .int 0, .int 0]))] H := hP
    have hD : va_D A [(ao, .inl (cL, 1, .inr (.inl o_3))), (mo, .inr (12, [.int o_19, .ref m1, .int 0, .ref m3, .ref m4, .ref m5, .ref m6, .ref m7, .ref m8, .ref m9, .int 0, .ref m11, .ref m12, .ref m13, .ref m14, .ref m15, .ref m16, .ref m17, .ref m18, .ref m19, .int 0, .int 0, .int 0, .int 0, .ref m24, .int 0, .ref m26, .int 0, .ref m28, .ref m29, .ref m30, .ref m31, .ref m32, .ref m33, .ref m34, .ref m35, .ref m36, .int 0, .int 0, .int 0, .int 0, .int 0, .int (-1), .int 0, .ref m44, .ref m45, .ref m46, .ref m47, .ref m48, .int 0, .ref m50, .ref m51, .ref m52, .ref m53, .ref m54, .int 0, .int 0]))] := hD
    have hK : va_K (dC, dI) vwCl [(cL, .long)] s := hK
    rcases w_21 with ⟨rfl, q_22⟩ | ⟨rfl, q_22⟩
    · skip
      exact absurd q_22 h_6
    · skip
      refine lv_istore (lv' := [(6, .int r_20), (5, .int 2), (4, .int 0), (3, .ref ao), (2, .ref mo), (1, .ref h), (0, .ref b)]) hx hb dL_law_975 hl (by decide) rfl (fun ls hl => ?_)
      refine lv_aload_n hx hb dL_law_977 rfl (lv_at hl 4 rfl) ?_
      refine ct_i (wr := [(ao, .inl (cL, 1, .inr (.inl o_3)))]) (tyr := [(cL, .long)]) (va_runV (As := []) (rest := []) ⟨hx, hb, hml, hown, hts⟩ (m_thrown l hl0 dC dI mo m1 m3 m4 m5 m6 m7 m8 m9 m11 m12 m13 m14 m15 m16 m17 m18 m19 m24 m26 m28 m29 m30 m31 m32 m33 m34 m35 m36 m44 m45 m46 m47 m48 m50 m51 m52 m53 m54 2 0 0 0 0 0 0 (-1) 0 H.size ) (cwV 0 hts gL_law_X12_thrown rfl rfl rfl (by decide +kernel) ⟨Nat.le_of_ble_eq_true rfl, Nat.le_of_ble_eq_true rfl⟩) (ct_preV (ci := 12) (q0 := 1) hP hD hK hS hA hZ rfl rfl [1] [] rfl (by decide) rfl) rfl rfl hl.1 rfl (lv_room (Nat.le_of_ble_eq_true rfl)) dL_law_978 ⟨Nat.le_of_ble_eq_true rfl, Nat.le_of_ble_eq_true rfl⟩) hP hD hK hS hA [1] [0] [0] rfl rfl (by decide) (by decide) rfl (fun r_23 u H locs w_24 hP hD hK hS => ?_)
      try dsimp only at w_24
      have hP : va_P (dC, dI) vwCl [(ao, .inl (cL, 1, .inr (.inl o_3)))] H := hP
      have hD : va_D A [(ao, .inl (cL, 1, .inr (.inl o_3)))] := hD
      have hK : va_K (dC, dI) vwCl [(cL, .long)] s := hK
      obtain rfl : r_23 = 2 := w_24
      refine lv_iload hx hb dL_law_981 (lv_at hl 1 rfl) ?_
      refine lv_icmp_eq (tgt := 988) hx hb dL_law_983 (by decide) (fun _ => ?_) (fun c_25 => absurd c_25 (by decide))
      refine lv_iload hx hb dL_law_988 (lv_at hl 1 rfl) ?_
      refine lv_if_ne (tgt := 1005) hx hb dL_law_990 (by decide) (fun _ => ?_) (fun c_26 => absurd c_26 (by decide))
      refine lv_goto (tgt := 1620) hx hb dL_law_1005 (by decide) ?_
      refine W.widen (k := 2000) (n := 300000) (Nat.le_of_ble_eq_true rfl) (Nat.le_of_ble_eq_true rfl) ?_
      exact K _ _ _ hS (lv_sub hl [2, 6] rfl)

set_option maxHeartbeats 4000000 in
set_option maxRecDepth 100000 in
/-- the law at back -/
theorem law_back {p : Program} {l : Launch} {e : Env} {s : State} {m : MethodId} {below : List Frame} {meth : Method} {c : Code} {Q : State → Prop} {b : Nat} {xs : Nat → Int32} {A : Nat → Prop} {H : Heap} {locs : List Loc} {ls : Array Slot} (hl0 : l.stackTraces = false) (dC : Nat → ClassId) (dI : Nat → Nat → Nat) (h : Nat) (aT : Nat) (aV : Nat) (aS : Nat) (aC : Nat) (aO : Nat) (aF : Nat) (aL : Nat) (aR : Nat) (aX : Nat) (sT : Nat) (sK : Nat) (sH : Nat) (hF : Nat) (hW : Nat) (hM : Nat) (ao : Nat) (cL : ClassId) (mo : Nat) (m1 : Nat) (m3 : Nat) (m4 : Nat) (m5 : Nat) (m6 : Nat) (m7 : Nat) (m8 : Nat) (m9 : Nat) (m11 : Nat) (m12 : Nat) (m13 : Nat) (m14 : Nat) (m15 : Nat) (m16 : Nat) (m17 : Nat) (m18 : Nat) (m19 : Nat) (m24 : Nat) (m26 : Nat) (m28 : Nat) (m29 : Nat) (m30 : Nat) (m31 : Nat) (m32 : Nat) (m33 : Nat) (m34 : Nat) (m35 : Nat) (m36 : Nat) (m44 : Nat) (m45 : Nat) (m46 : Nat) (m47 : Nat) (m48 : Nat) (m50 : Nat) (m51 : Nat) (m52 : Nat) (m53 : Nat) (m54 : Nat) (hx : p.tables.exec = Jvm.exec) (hb : c.code = cL_law) (hml : c.maxLocals = 7) (hown : s.vm.findClass RL = some m.cls) (hts : ∀ w ∈ wsL_law, w.before #[Value.ref b] s = true) (hX : va_X b 6 xs s s.heap) (hbl : b < s.heap.size) (hbA : ¬ A b) (hA : ∀ q : Nat, s.heap.size ≤ q → A q) (hZ : tx_St A s) (hl : lv_has ls 7 [(4, .int 0), (3, .ref ao), (2, .ref mo), (1, .ref h), (0, .ref b)]) (hP : va_P (dC, dI) vwCl [(h, .inr (11, [.ref aT, .ref aV, .ref aS, .ref aC, .ref aO, .ref aF, .ref aL, .ref aR, .ref aX, .int 0, .int 0, .int 0])), (aS, .inr (9, [.ref sT, .ref sK, .ref sH, .int 0, .int 0, .int 0, .int 0, .int 0])), (sH, .inr (3, [.ref hF, .ref hW, .ref hM, .int 0, .int 0])), (ao, .inl (cL, 1, .inr (.inl (fun _ => 0)))), (mo, .inr (12, [.int 0, .ref m1, .int 0, .ref m3, .ref m4, .ref m5, .ref m6, .ref m7, .ref m8, .ref m9, .int 0, .ref m11, .ref m12, .ref m13, .ref m14, .ref m15, .ref m16, .ref m17, .ref m18, .ref m19, .int 0, .int 0, .int 0, .int 0, .ref m24, .int 0, .ref m26, .int 0, .ref m28, .ref m29, .ref m30, .ref m31, .ref m32, .ref m33, .ref m34, .ref m35, .ref m36, .int 0, .int 0, .int 0, .int 0, .int 0, .int (-1), .int 0, .ref m44, .ref m45, .ref m46, .ref m47, .ref m48, .int 0, .ref m50, .ref m51, .ref m52, .ref m53, .ref m54, .int 0, .int 0]))] H) (hD : va_D A [(h, .inr (11, [.ref aT, .ref aV, .ref aS, .ref aC, .ref aO, .ref aF, .ref aL, .ref aR, .ref aX, .int 0, .int 0, .int 0])), (aS, .inr (9, [.ref sT, .ref sK, .ref sH, .int 0, .int 0, .int 0, .int 0, .int 0])), (sH, .inr (3, [.ref hF, .ref hW, .ref hM, .int 0, .int 0])), (ao, .inl (cL, 1, .inr (.inl (fun _ => 0)))), (mo, .inr (12, [.int 0, .ref m1, .int 0, .ref m3, .ref m4, .ref m5, .ref m6, .ref m7, .ref m8, .ref m9, .int 0, .ref m11, .ref m12, .ref m13, .ref m14, .ref m15, .ref m16, .ref m17, .ref m18, .ref m19, .int 0, .int 0, .int 0, .int 0, .ref m24, .int 0, .ref m26, .int 0, .ref m28, .ref m29, .ref m30, .ref m31, .ref m32, .ref m33, .ref m34, .ref m35, .ref m36, .int 0, .int 0, .int 0, .int 0, .int 0, .int (-1), .int 0, .ref m44, .ref m45, .ref m46, .ref m47, .ref m48, .int 0, .ref m50, .ref m51, .ref m52, .ref m53, .ref m54, .int 0, .int 0]))]) (hK : va_K (dC, dI) vwCl [(cL, .long)] s) (hS : va_S A s.heap H locs)
    (K : ∀ (H : Heap) (locs : List Loc) (ls : Array Slot), va_S A s.heap H locs → lv_has ls 7 [(4, .int 0), (0, .ref b)] → W p l e room_1 s m #[Value.ref b] below meth c H locs 2000 300000 Q (F0 m 1620 ls [])) : W p l e room_1 s m #[Value.ref b] below meth c H locs 1000 200000 Q (F0 m 1176 ls []) := by
  refine lv_aload_n hx hb dL_law_1176 rfl (lv_at hl 3 rfl) ?_
  refine lv_aload_n hx hb dL_law_1177 rfl (lv_at hl 4 rfl) ?_
  refine lv_iload hx hb dL_law_1178 (lv_at hl 0 rfl) ?_
  refine lv_iconst (v := 1) hx hb dL_law_1180 (by decide) ?_
  refine lv_iadd hx hb dL_law_1181 ?_
  refine lv_topi (fun z_1 ez_1 => ?_)
  obtain rfl : z_1 = 1 := ez_1.trans (by decide)
  refine va_sld hx hb hX hbl hbA hS (by unfold vp_in; decide) dL_law_1182 ?_
  refine lv_topi (fun z_2 ez_2 => ?_)
  obtain rfl : z_2 = xs 1 := ez_2.trans (congrArg xs (by decide))
  refine lv_if_eq (tgt := 1190) hx hb dL_law_1183 (by decide) (fun c_3 => ?_) (fun c_3 => ?_)
  · skip
    refine lv_iconst (v := 0) hx hb dL_law_1190 (by decide) ?_
    refine lv_aload_n hx hb dL_law_1191 rfl (lv_at hl 1 rfl) ?_
    refine ct_i (wr := [(mo, .inr (12, [.int 0, .ref m1, .int 0, .ref m3, .ref m4, .ref m5, .ref m6, .ref m7, .ref m8, .ref m9, .int 0, .ref m11, .ref m12, .ref m13, .ref m14, .ref m15, .ref m16, .ref m17, .ref m18, .ref m19, .int 0, .int 0, .int 0, .int 0, .ref m24, .int 0, .ref m26, .int 0, .ref m28, .ref m29, .ref m30, .ref m31, .ref m32, .ref m33, .ref m34, .ref m35, .ref m36, .int 0, .int 0, .int 0, .int 0, .int 0, .int (-1), .int 0, .ref m44, .ref m45, .ref m46, .ref m47, .ref m48, .int 0, .ref m50, .ref m51, .ref m52, .ref m53, .ref m54, .int 0, .int 0]))]) (tyr := []) (vx_runSW (As := [.ref h, .int 0, .ref ao]) (rest := []) ⟨hx, hb, hml, hown, hts⟩ (h_back l hl0 dC dI h aT aV aS aC aO aF aL aR aX sT sK sH hF hW hM 0 ao cL (fun _ => 0) H.size ) (vx_cwSW 3 hts gL_law_L_back rfl rfl rfl (by decide +kernel) ⟨Nat.le_of_ble_eq_true rfl, Nat.le_of_ble_eq_true rfl⟩) (ct_pre hP hD hK hS hA hZ [0, 1, 2, 3] [0] rfl (by decide) rfl) rfl rfl hl.1 rfl (lv_room (Nat.le_of_ble_eq_true rfl)) dL_law_1192 ⟨Nat.le_of_ble_eq_true rfl, Nat.le_of_ble_eq_true rfl⟩) hP hD hK hS hA [0, 1, 2, 3] [4] [] rfl rfl (by decide) (by decide) rfl (fun r_5 u H locs w_6 hP hD hK hS => ?_)
    obtain ⟨o_4, rfl⟩ : ∃ z, z = u := ⟨_, rfl⟩
    try dsimp only at w_6
    have hP : va_P (dC, dI) vwCl [(mo, .inr (12, [.int 0, .ref m1, .int 0, .ref m3, .ref m4, .ref m5, .ref m6, .ref m7, .ref m8, .ref m9, .int 0, .ref m11, .ref m12, .ref m13, .ref m14, .ref m15, .ref m16, .ref m17, .ref m18, .ref m19, .int 0, .int 0, .int 0, .int 0, .ref m24, .int 0, .ref m26, .int 0, .ref m28, .ref m29, .ref m30, .ref m31, .ref m32, .ref m33, .ref m34, .ref m35, .ref m36, .int 0, .int 0, .int 0, .int 0, .int 0, .int (-1), .int 0, .ref m44, .ref m45, .ref m46, .ref m47, .ref m48, .int 0, .ref m50, .ref m51, .ref m52, .ref m53, .ref m54, .int 0, .int 0])), (ao, .inl (cL, 1, .inr (.inl o_4)))] H := hP
    have hD : va_D A [(mo, .inr (12, [.int 0, .ref m1, .int 0, .ref m3, .ref m4, .ref m5, .ref m6, .ref m7, .ref m8, .ref m9, .int 0, .ref m11, .ref m12, .ref m13, .ref m14, .ref m15, .ref m16, .ref m17, .ref m18, .ref m19, .int 0, .int 0, .int 0, .int 0, .ref m24, .int 0, .ref m26, .int 0, .ref m28, .ref m29, .ref m30, .ref m31, .ref m32, .ref m33, .ref m34, .ref m35, .ref m36, .int 0, .int 0, .int 0, .int 0, .int 0, .int (-1), .int 0, .ref m44, .ref m45, .ref m46, .ref m47, .ref m48, .int 0, .ref m50, .ref m51, .ref m52, .ref m53, .ref m54, .int 0, .int 0])), (ao, .inl (cL, 1, .inr (.inl o_4)))] := hD
    have hK : va_K (dC, dI) vwCl [(cL, .long)] s := hK
    refine W.widen (k := 1001) (n := 200006) (Nat.le_of_ble_eq_true rfl) (Nat.le_of_ble_eq_true rfl) ?_
    obtain rfl : r_5 = 1 := w_6
    refine lv_istore (lv' := [(5, .int 1), (4, .int 0), (3, .ref ao), (2, .ref mo), (1, .ref h), (0, .ref b)]) hx hb dL_law_1195 hl (by decide) rfl (fun ls hl => ?_)
    refine lv_aload_n hx hb dL_law_1197 rfl (lv_at hl 3 rfl) ?_
    refine lv_aload_n hx hb dL_law_1198 rfl (lv_at hl 5 rfl) ?_
    refine lv_iload hx hb dL_law_1199 (lv_at hl 1 rfl) ?_
    refine lv_iconst (v := 1) hx hb dL_law_1201 (by decide) ?_
    refine lv_iadd hx hb dL_law_1202 ?_
    refine lv_topi (fun z_7 ez_7 => ?_)
    obtain rfl : z_7 = 1 := ez_7.trans (by decide)
    refine va_sld hx hb hX hbl hbA hS (by unfold vp_in; decide) dL_law_1203 ?_
    refine lv_topi (fun z_8 ez_8 => ?_)
    obtain rfl : z_8 = xs 1 := ez_8.trans (congrArg xs (by decide))
    refine lv_if_eq (tgt := 1211) hx hb dL_law_1204 (by decide) (fun c_9 => ?_) (fun c_9 => absurd c_3 c_9)
    refine lv_iconst (v := 0) hx hb dL_law_1211 (by decide) ?_
    refine ct_i (wr := [(ao, .inl (cL, 1, .inr (.inl o_4)))]) (tyr := [(cL, .long)]) (va_runV (As := [.int 0]) (rest := []) ⟨hx, hb, hml, hown, hts⟩ (m_back l hl0 dC dI mo m1 m3 m4 m5 m6 m7 m8 m9 m11 m12 m13 m14 m15 m16 m17 m18 m19 m24 m26 m28 m29 m30 m31 m32 m33 m34 m35 m36 m44 m45 m46 m47 m48 m50 m51 m52 m53 m54 0 H.size ) (cwV 1 hts gL_law_X12_back rfl rfl rfl (by decide +kernel) ⟨Nat.le_of_ble_eq_true rfl, Nat.le_of_ble_eq_true rfl⟩) (ct_preV (ci := 12) (q0 := 0) hP hD hK hS hA hZ rfl rfl [0] [] rfl (by decide) rfl) rfl rfl hl.1 rfl (lv_room (Nat.le_of_ble_eq_true rfl)) dL_law_1212 ⟨Nat.le_of_ble_eq_true rfl, Nat.le_of_ble_eq_true rfl⟩) hP hD hK hS hA [0] [1] [0] rfl rfl (by decide) (by decide) rfl (fun r_11 u H locs w_12 hP hD hK hS => ?_)
    obtain ⟨o_10, rfl⟩ : ∃ z, z = u := ⟨_, rfl⟩
    try dsimp only at w_12
    have hP : va_P (dC, dI) vwCl [(ao, .inl (cL, 1, .inr (.inl o_4))), (mo, .inr (12, [.int o_10, .ref m1, .int 0, .ref m3, .ref m4, .ref m5, .ref m6, .ref m7, .ref m8, .ref m9, .int 0, .ref m11, .ref m12, .ref m13, .ref m14, .ref m15, .ref m16, .ref m17, .ref m18, .ref m19, .int 0, .int 0, .int 0, .int 0, .ref m24, .int 0, .ref m26, .int 0, .ref m28, .ref m29, .ref m30, .ref m31, .ref m32, .ref m33, .ref m34, .ref m35, .ref m36, .int 0, .int 0, .int 0, .int 0, .int 0, .int (-1), .int 0, .ref m44, .ref m45, .ref m46, .ref m47, .ref m48, .int 0, .ref m50, .ref m51, .ref m52, .ref m53, .ref m54, .int 0, .int 0]))] H := hP
    have hD : va_D A [(ao, .inl (cL, 1, .inr (.inl o_4))), (mo, .inr (12, [.int o_10, .ref m1, .int 0, .ref m3, .ref m4, .ref m5, .ref m6, .ref m7, .ref m8, .ref m9, .int 0, .ref m11, .ref m12, .ref m13, .ref m14, .ref m15, .ref m16, .ref m17, .ref m18, .ref m19, .int 0, .int 0, .int 0, .int 0, .ref m24, .int 0, .ref m26, .int 0, .ref m28, .ref m29, .ref m30, .ref m31, .ref m32, .ref m33, .ref m34, .ref m35, .ref m36, .int 0, .int 0, .int 0, .int 0, .int 0, .int (-1), .int 0, .ref m44, .ref m45, .ref m46, .ref m47, .ref m48, .int 0, .ref m50, .ref m51, .ref m52, .ref m53, .ref m54, .int 0, .int 0]))] := hD
    have hK : va_K (dC, dI) vwCl [(cL, .long)] s := hK
    obtain rfl : o_10 = 1 := w_12
    refine lv_istore (lv' := [(6, .int r_11), (5, .int 1), (4, .int 0), (3, .ref ao), (2, .ref mo), (1, .ref h), (0, .ref b)]) hx hb dL_law_1215 hl (by decide) rfl (fun ls hl => ?_)
    refine lv_aload_n hx hb dL_law_1217 rfl (lv_at hl 4 rfl) ?_
    refine ct_i (wr := [(ao, .inl (cL, 1, .inr (.inl o_4)))]) (tyr := [(cL, .long)]) (va_runV (As := []) (rest := []) ⟨hx, hb, hml, hown, hts⟩ (m_thrown l hl0 dC dI mo m1 m3 m4 m5 m6 m7 m8 m9 m11 m12 m13 m14 m15 m16 m17 m18 m19 m24 m26 m28 m29 m30 m31 m32 m33 m34 m35 m36 m44 m45 m46 m47 m48 m50 m51 m52 m53 m54 1 0 0 0 0 0 0 (-1) 0 H.size ) (cwV 0 hts gL_law_X12_thrown rfl rfl rfl (by decide +kernel) ⟨Nat.le_of_ble_eq_true rfl, Nat.le_of_ble_eq_true rfl⟩) (ct_preV (ci := 12) (q0 := 1) hP hD hK hS hA hZ rfl rfl [1] [] rfl (by decide) rfl) rfl rfl hl.1 rfl (lv_room (Nat.le_of_ble_eq_true rfl)) dL_law_1218 ⟨Nat.le_of_ble_eq_true rfl, Nat.le_of_ble_eq_true rfl⟩) hP hD hK hS hA [1] [0] [0] rfl rfl (by decide) (by decide) rfl (fun r_13 u H locs w_14 hP hD hK hS => ?_)
    try dsimp only at w_14
    have hP : va_P (dC, dI) vwCl [(ao, .inl (cL, 1, .inr (.inl o_4)))] H := hP
    have hD : va_D A [(ao, .inl (cL, 1, .inr (.inl o_4)))] := hD
    have hK : va_K (dC, dI) vwCl [(cL, .long)] s := hK
    obtain rfl : r_13 = 1 := w_14
    refine lv_iload hx hb dL_law_1221 (lv_at hl 1 rfl) ?_
    refine lv_icmp_eq (tgt := 1228) hx hb dL_law_1223 (by decide) (fun _ => ?_) (fun c_15 => absurd c_15 (by decide))
    refine lv_iload hx hb dL_law_1228 (lv_at hl 1 rfl) ?_
    refine lv_if_ne (tgt := 1245) hx hb dL_law_1230 (by decide) (fun _ => ?_) (fun c_16 => absurd c_16 (by decide))
    refine lv_goto (tgt := 1620) hx hb dL_law_1245 (by decide) ?_
    refine W.widen (k := 2000) (n := 300000) (Nat.le_of_ble_eq_true rfl) (Nat.le_of_ble_eq_true rfl) ?_
    exact K _ _ _ hS (lv_sub hl [2, 6] rfl)
  · skip
    refine lv_iconst (v := 1) hx hb dL_law_1186 (by decide) ?_
    refine lv_goto (tgt := 1191) hx hb dL_law_1187 (by decide) ?_
    refine lv_aload_n hx hb dL_law_1191 rfl (lv_at hl 1 rfl) ?_
    refine ct_i (wr := [(mo, .inr (12, [.int 0, .ref m1, .int 0, .ref m3, .ref m4, .ref m5, .ref m6, .ref m7, .ref m8, .ref m9, .int 0, .ref m11, .ref m12, .ref m13, .ref m14, .ref m15, .ref m16, .ref m17, .ref m18, .ref m19, .int 0, .int 0, .int 0, .int 0, .ref m24, .int 0, .ref m26, .int 0, .ref m28, .ref m29, .ref m30, .ref m31, .ref m32, .ref m33, .ref m34, .ref m35, .ref m36, .int 0, .int 0, .int 0, .int 0, .int 0, .int (-1), .int 0, .ref m44, .ref m45, .ref m46, .ref m47, .ref m48, .int 0, .ref m50, .ref m51, .ref m52, .ref m53, .ref m54, .int 0, .int 0]))]) (tyr := []) (vx_runSW (As := [.ref h, .int 1, .ref ao]) (rest := []) ⟨hx, hb, hml, hown, hts⟩ (h_back l hl0 dC dI h aT aV aS aC aO aF aL aR aX sT sK sH hF hW hM 1 ao cL (fun _ => 0) H.size ) (vx_cwSW 3 hts gL_law_L_back rfl rfl rfl (by decide +kernel) ⟨Nat.le_of_ble_eq_true rfl, Nat.le_of_ble_eq_true rfl⟩) (ct_pre hP hD hK hS hA hZ [0, 1, 2, 3] [0] rfl (by decide) rfl) rfl rfl hl.1 rfl (lv_room (Nat.le_of_ble_eq_true rfl)) dL_law_1192 ⟨Nat.le_of_ble_eq_true rfl, Nat.le_of_ble_eq_true rfl⟩) hP hD hK hS hA [0, 1, 2, 3] [4] [] rfl rfl (by decide) (by decide) rfl (fun r_18 u H locs w_19 hP hD hK hS => ?_)
    obtain ⟨o_17, rfl⟩ : ∃ z, z = u := ⟨_, rfl⟩
    try dsimp only at w_19
    have hP : va_P (dC, dI) vwCl [(mo, .inr (12, [.int 0, .ref m1, .int 0, .ref m3, .ref m4, .ref m5, .ref m6, .ref m7, .ref m8, .ref m9, .int 0, .ref m11, .ref m12, .ref m13, .ref m14, .ref m15, .ref m16, .ref m17, .ref m18, .ref m19, .int 0, .int 0, .int 0, .int 0, .ref m24, .int 0, .ref m26, .int 0, .ref m28, .ref m29, .ref m30, .ref m31, .ref m32, .ref m33, .ref m34, .ref m35, .ref m36, .int 0, .int 0, .int 0, .int 0, .int 0, .int (-1), .int 0, .ref m44, .ref m45, .ref m46, .ref m47, .ref m48, .int 0, .ref m50, .ref m51, .ref m52, .ref m53, .ref m54, .int 0, .int 0])), (ao, .inl (cL, 1, .inr (.inl o_17)))] H := hP
    have hD : va_D A [(mo, .inr (12, [.int 0, .ref m1, .int 0, .ref m3, .ref m4, .ref m5, .ref m6, .ref m7, .ref m8, .ref m9, .int 0, .ref m11, .ref m12, .ref m13, .ref m14, .ref m15, .ref m16, .ref m17, .ref m18, .ref m19, .int 0, .int 0, .int 0, .int 0, .ref m24, .int 0, .ref m26, .int 0, .ref m28, .ref m29, .ref m30, .ref m31, .ref m32, .ref m33, .ref m34, .ref m35, .ref m36, .int 0, .int 0, .int 0, .int 0, .int 0, .int (-1), .int 0, .ref m44, .ref m45, .ref m46, .ref m47, .ref m48, .int 0, .ref m50, .ref m51, .ref m52, .ref m53, .ref m54, .int 0, .int 0])), (ao, .inl (cL, 1, .inr (.inl o_17)))] := hD
    have hK : va_K (dC, dI) vwCl [(cL, .long)] s := hK
    refine W.widen (k := 1001) (n := 200006) (Nat.le_of_ble_eq_true rfl) (Nat.le_of_ble_eq_true rfl) ?_
    obtain rfl : r_18 = 1 := w_19
    refine lv_istore (lv' := [(5, .int 1), (4, .int 0), (3, .ref ao), (2, .ref mo), (1, .ref h), (0, .ref b)]) hx hb dL_law_1195 hl (by decide) rfl (fun ls hl => ?_)
    refine lv_aload_n hx hb dL_law_1197 rfl (lv_at hl 3 rfl) ?_
    refine lv_aload_n hx hb dL_law_1198 rfl (lv_at hl 5 rfl) ?_
    refine lv_iload hx hb dL_law_1199 (lv_at hl 1 rfl) ?_
    refine lv_iconst (v := 1) hx hb dL_law_1201 (by decide) ?_
    refine lv_iadd hx hb dL_law_1202 ?_
    refine lv_topi (fun z_20 ez_20 => ?_)
    obtain rfl : z_20 = 1 := ez_20.trans (by decide)
    refine va_sld hx hb hX hbl hbA hS (by unfold vp_in; decide) dL_law_1203 ?_
    refine lv_topi (fun z_21 ez_21 => ?_)
    obtain rfl : z_21 = xs 1 := ez_21.trans (congrArg xs (by decide))
    refine lv_if_eq (tgt := 1211) hx hb dL_law_1204 (by decide) (fun c_22 => absurd c_22 c_3) (fun c_22 => ?_)
    refine lv_iconst (v := 1) hx hb dL_law_1207 (by decide) ?_
    refine lv_goto (tgt := 1212) hx hb dL_law_1208 (by decide) ?_
    refine ct_i (wr := [(ao, .inl (cL, 1, .inr (.inl o_17)))]) (tyr := [(cL, .long)]) (va_runV (As := [.int 1]) (rest := []) ⟨hx, hb, hml, hown, hts⟩ (m_back l hl0 dC dI mo m1 m3 m4 m5 m6 m7 m8 m9 m11 m12 m13 m14 m15 m16 m17 m18 m19 m24 m26 m28 m29 m30 m31 m32 m33 m34 m35 m36 m44 m45 m46 m47 m48 m50 m51 m52 m53 m54 1 H.size ) (cwV 1 hts gL_law_X12_back rfl rfl rfl (by decide +kernel) ⟨Nat.le_of_ble_eq_true rfl, Nat.le_of_ble_eq_true rfl⟩) (ct_preV (ci := 12) (q0 := 0) hP hD hK hS hA hZ rfl rfl [0] [] rfl (by decide) rfl) rfl rfl hl.1 rfl (lv_room (Nat.le_of_ble_eq_true rfl)) dL_law_1212 ⟨Nat.le_of_ble_eq_true rfl, Nat.le_of_ble_eq_true rfl⟩) hP hD hK hS hA [0] [1] [0] rfl rfl (by decide) (by decide) rfl (fun r_24 u H locs w_25 hP hD hK hS => ?_)
    obtain ⟨o_23, rfl⟩ : ∃ z, z = u := ⟨_, rfl⟩
    try dsimp only at w_25
    have hP : va_P (dC, dI) vwCl [(ao, .inl (cL, 1, .inr (.inl o_17))), (mo, .inr (12, [.int o_23, .ref m1, .int 0, .ref m3, .ref m4, .ref m5, .ref m6, .ref m7, .ref m8, .ref m9, .int 0, .ref m11, .ref m12, .ref m13, .ref m14, .ref m15, .ref m16, .ref m17, .ref m18, .ref m19, .int 0, .int 0, .int 0, .int 0, .ref m24, .int 0, .ref m26, .int 0, .ref m28, .ref m29, .ref m30, .ref m31, .ref m32, .ref m33, .ref m34, .ref m35, .ref m36, .int 0, .int 0, .int 0, .int 0, .int 0, .int (-1), .int 0, .ref m44, .ref m45, .ref m46, .ref m47, .ref m48, .int 0, .ref m50, .ref m51, .ref m52, .ref m53, .ref m54, .int 0, .int 0]))] H := hP
    have hD : va_D A [(ao, .inl (cL, 1, .inr (.inl o_17))), (mo, .inr (12, [.int o_23, .ref m1, .int 0, .ref m3, .ref m4, .ref m5, .ref m6, .ref m7, .ref m8, .ref m9, .int 0, .ref m11, .ref m12, .ref m13, .ref m14, .ref m15, .ref m16, .ref m17, .ref m18, .ref m19, .int 0, .int 0, .int 0, .int 0, .ref m24, .int 0, .ref m26, .int 0, .ref m28, .ref m29, .ref m30, .ref m31, .ref m32, .ref m33, .ref m34, .ref m35, .ref m36, .int 0, .int 0, .int 0, .int 0, .int 0, .int (-1), .int 0, .ref m44, .ref m45, .ref m46, .ref m47, .ref m48, .int 0, .ref m50, .ref m51, .ref m52, .ref m53, .ref m54, .int 0, .int 0]))] := hD
    have hK : va_K (dC, dI) vwCl [(cL, .long)] s := hK
    obtain rfl : o_23 = 1 := w_25
    refine lv_istore (lv' := [(6, .int r_24), (5, .int 1), (4, .int 0), (3, .ref ao), (2, .ref mo), (1, .ref h), (0, .ref b)]) hx hb dL_law_1215 hl (by decide) rfl (fun ls hl => ?_)
    refine lv_aload_n hx hb dL_law_1217 rfl (lv_at hl 4 rfl) ?_
    refine ct_i (wr := [(ao, .inl (cL, 1, .inr (.inl o_17)))]) (tyr := [(cL, .long)]) (va_runV (As := []) (rest := []) ⟨hx, hb, hml, hown, hts⟩ (m_thrown l hl0 dC dI mo m1 m3 m4 m5 m6 m7 m8 m9 m11 m12 m13 m14 m15 m16 m17 m18 m19 m24 m26 m28 m29 m30 m31 m32 m33 m34 m35 m36 m44 m45 m46 m47 m48 m50 m51 m52 m53 m54 1 0 0 0 0 0 0 (-1) 0 H.size ) (cwV 0 hts gL_law_X12_thrown rfl rfl rfl (by decide +kernel) ⟨Nat.le_of_ble_eq_true rfl, Nat.le_of_ble_eq_true rfl⟩) (ct_preV (ci := 12) (q0 := 1) hP hD hK hS hA hZ rfl rfl [1] [] rfl (by decide) rfl) rfl rfl hl.1 rfl (lv_room (Nat.le_of_ble_eq_true rfl)) dL_law_1218 ⟨Nat.le_of_ble_eq_true rfl, Nat.le_of_ble_eq_true rfl⟩) hP hD hK hS hA [1] [0] [0] rfl rfl (by decide) (by decide) rfl (fun r_26 u H locs w_27 hP hD hK hS => ?_)
    try dsimp only at w_27
    have hP : va_P (dC, dI) vwCl [(ao, .inl (cL, 1, .inr (.inl o_17)))] H := hP
    have hD : va_D A [(ao, .inl (cL, 1, .inr (.inl o_17)))] := hD
    have hK : va_K (dC, dI) vwCl [(cL, .long)] s := hK
    obtain rfl : r_26 = 1 := w_27
    refine lv_iload hx hb dL_law_1221 (lv_at hl 1 rfl) ?_
    refine lv_icmp_eq (tgt := 1228) hx hb dL_law_1223 (by decide) (fun _ => ?_) (fun c_28 => absurd c_28 (by decide))
    refine lv_iload hx hb dL_law_1228 (lv_at hl 1 rfl) ?_
    refine lv_if_ne (tgt := 1245) hx hb dL_law_1230 (by decide) (fun _ => ?_) (fun c_29 => absurd c_29 (by decide))
    refine lv_goto (tgt := 1620) hx hb dL_law_1245 (by decide) ?_
    refine W.widen (k := 2000) (n := 300000) (Nat.le_of_ble_eq_true rfl) (Nat.le_of_ble_eq_true rfl) ?_
    exact K _ _ _ hS (lv_sub hl [2, 6] rfl)

set_option maxHeartbeats 4000000 in
set_option maxRecDepth 100000 in
/-- the law at question -/
theorem law_question {p : Program} {l : Launch} {e : Env} {s : State} {m : MethodId} {below : List Frame} {meth : Method} {c : Code} {Q : State → Prop} {b : Nat} {xs : Nat → Int32} {A : Nat → Prop} {H : Heap} {locs : List Loc} {ls : Array Slot} (hl0 : l.stackTraces = false) (dC : Nat → ClassId) (dI : Nat → Nat → Nat) (h : Nat) (aT : Nat) (aV : Nat) (aS : Nat) (aC : Nat) (aO : Nat) (aF : Nat) (aL : Nat) (aR : Nat) (aX : Nat) (sT : Nat) (sK : Nat) (sH : Nat) (rG : Nat) (cR : ClassId) (gf : Nat → Option Nat) (g0 : Nat) (gK : Nat) (gA : Nat) (cK : ClassId) (cG : ClassId) (ao : Nat) (cL : ClassId) (mo : Nat) (m1 : Nat) (m3 : Nat) (m4 : Nat) (m5 : Nat) (m6 : Nat) (m7 : Nat) (m8 : Nat) (m9 : Nat) (m11 : Nat) (m12 : Nat) (m13 : Nat) (m14 : Nat) (m15 : Nat) (m16 : Nat) (m17 : Nat) (m18 : Nat) (m19 : Nat) (m24 : Nat) (m26 : Nat) (m28 : Nat) (m29 : Nat) (m30 : Nat) (m31 : Nat) (m32 : Nat) (m33 : Nat) (m34 : Nat) (m35 : Nat) (m36 : Nat) (m44 : Nat) (m45 : Nat) (m46 : Nat) (m47 : Nat) (m48 : Nat) (m50 : Nat) (m51 : Nat) (m52 : Nat) (m53 : Nat) (m54 : Nat) (k44 : ClassId) (k48 : ClassId) (hg : gf 0 = some g0) (hx : p.tables.exec = Jvm.exec) (hb : c.code = cL_law) (hml : c.maxLocals = 7) (hown : s.vm.findClass RL = some m.cls) (hts : ∀ w ∈ wsL_law, w.before #[Value.ref b] s = true) (hX : va_X b 6 xs s s.heap) (hbl : b < s.heap.size) (hbA : ¬ A b) (hA : ∀ q : Nat, s.heap.size ≤ q → A q) (hZ : tx_St A s) (hl : lv_has ls 7 [(4, .int 0), (3, .ref ao), (2, .ref mo), (1, .ref h), (0, .ref b)]) (hP : va_P (dC, dI) vwCl [(h, .inr (11, [.ref aT, .ref aV, .ref aS, .ref aC, .ref aO, .ref aF, .ref aL, .ref aR, .ref aX, .int 0, .int 0, .int 0])), (aS, .inr (9, [.ref sT, .ref sK, .ref sH, .int 0, .int 0, .int 0, .int 0, .int 0])), (aR, .inr (6, [.ref rG, .int 0, .int 0, .int (-1), .null, .int 0, .int 0, .null])), (rG, .inl (cR, 10, .inr (.inr (.inr (.inr gf))))), (g0, .inr (2, [.ref gK, .ref gA, .int 0, .null, .int 0, .int 0])), (gK, .inl (cK, 4, .inl (fun _ => 0))), (gA, .inl (cG, 4, .inl (fun _ => 0))), (ao, .inl (cL, 1, .inr (.inl (fun _ => 0)))), (mo, .inr (12, [.int 0, .ref m1, .int 0, .ref m3, .ref m4, .ref m5, .ref m6, .ref m7, .ref m8, .ref m9, .int 0, .ref m11, .ref m12, .ref m13, .ref m14, .ref m15, .ref m16, .ref m17, .ref m18, .ref m19, .int 0, .int 0, .int 0, .int 0, .ref m24, .int 0, .ref m26, .int 0, .ref m28, .ref m29, .ref m30, .ref m31, .ref m32, .ref m33, .ref m34, .ref m35, .ref m36, .int 0, .int 0, .int 0, .int 0, .int 0, .int (-1), .int 0, .ref m44, .ref m45, .ref m46, .ref m47, .ref m48, .int 0, .ref m50, .ref m51, .ref m52, .ref m53, .ref m54, .int 0, .int 0])), (m44, .inl (k44, 11, .inl (fun _ => 0))), (m48, .inl (k48, 12, .inl (fun _ => 0)))] H) (hD : va_D A [(h, .inr (11, [.ref aT, .ref aV, .ref aS, .ref aC, .ref aO, .ref aF, .ref aL, .ref aR, .ref aX, .int 0, .int 0, .int 0])), (aS, .inr (9, [.ref sT, .ref sK, .ref sH, .int 0, .int 0, .int 0, .int 0, .int 0])), (aR, .inr (6, [.ref rG, .int 0, .int 0, .int (-1), .null, .int 0, .int 0, .null])), (rG, .inl (cR, 10, .inr (.inr (.inr (.inr gf))))), (g0, .inr (2, [.ref gK, .ref gA, .int 0, .null, .int 0, .int 0])), (gK, .inl (cK, 4, .inl (fun _ => 0))), (gA, .inl (cG, 4, .inl (fun _ => 0))), (ao, .inl (cL, 1, .inr (.inl (fun _ => 0)))), (mo, .inr (12, [.int 0, .ref m1, .int 0, .ref m3, .ref m4, .ref m5, .ref m6, .ref m7, .ref m8, .ref m9, .int 0, .ref m11, .ref m12, .ref m13, .ref m14, .ref m15, .ref m16, .ref m17, .ref m18, .ref m19, .int 0, .int 0, .int 0, .int 0, .ref m24, .int 0, .ref m26, .int 0, .ref m28, .ref m29, .ref m30, .ref m31, .ref m32, .ref m33, .ref m34, .ref m35, .ref m36, .int 0, .int 0, .int 0, .int 0, .int 0, .int (-1), .int 0, .ref m44, .ref m45, .ref m46, .ref m47, .ref m48, .int 0, .ref m50, .ref m51, .ref m52, .ref m53, .ref m54, .int 0, .int 0])), (m44, .inl (k44, 11, .inl (fun _ => 0))), (m48, .inl (k48, 12, .inl (fun _ => 0)))]) (hK : va_K (dC, dI) vwCl [(cR, .object RX2), (cK, .int), (cG, .int), (cL, .long), (k44, .int), (k48, .int)] s) (hS : va_S A s.heap H locs)
    (K : ∀ (H : Heap) (locs : List Loc) (ls : Array Slot), va_S A s.heap H locs → lv_has ls 7 [(4, .int 0), (0, .ref b)] → W p l e room_1 s m #[Value.ref b] below meth c H locs 2000 300000 Q (F0 m 1620 ls [])) : W p l e room_1 s m #[Value.ref b] below meth c H locs 1000 200000 Q (F0 m 1440 ls []) := by
  refine lv_aload_n hx hb dL_law_1440 rfl (lv_at hl 3 rfl) ?_
  refine lv_aload_n hx hb dL_law_1441 rfl (lv_at hl 4 rfl) ?_
  refine lv_iload hx hb dL_law_1442 (lv_at hl 0 rfl) ?_
  refine lv_iconst (v := 1) hx hb dL_law_1444 (by decide) ?_
  refine lv_iadd hx hb dL_law_1445 ?_
  refine lv_topi (fun z_1 ez_1 => ?_)
  obtain rfl : z_1 = 1 := ez_1.trans (by decide)
  refine va_sld hx hb hX hbl hbA hS (by unfold vp_in; decide) dL_law_1446 ?_
  refine lv_topi (fun z_2 ez_2 => ?_)
  obtain rfl : z_2 = xs 1 := ez_2.trans (congrArg xs (by decide))
  refine lv_aload_n hx hb dL_law_1447 rfl (lv_at hl 1 rfl) ?_
  refine ct_i (wr := [(mo, .inr (12, [.int 0, .ref m1, .int 0, .ref m3, .ref m4, .ref m5, .ref m6, .ref m7, .ref m8, .ref m9, .int 0, .ref m11, .ref m12, .ref m13, .ref m14, .ref m15, .ref m16, .ref m17, .ref m18, .ref m19, .int 0, .int 0, .int 0, .int 0, .ref m24, .int 0, .ref m26, .int 0, .ref m28, .ref m29, .ref m30, .ref m31, .ref m32, .ref m33, .ref m34, .ref m35, .ref m36, .int 0, .int 0, .int 0, .int 0, .int 0, .int (-1), .int 0, .ref m44, .ref m45, .ref m46, .ref m47, .ref m48, .int 0, .ref m50, .ref m51, .ref m52, .ref m53, .ref m54, .int 0, .int 0])), (m44, .inl (k44, 11, .inl (fun _ => 0))), (m48, .inl (k48, 12, .inl (fun _ => 0)))]) (tyr := [(k44, .int), (k48, .int)]) (vx_runSW (As := [.ref h, .int (xs 1), .ref ao]) (rest := []) ⟨hx, hb, hml, hown, hts⟩ (h_question l hl0 dC dI h aT aV aS aC aO aF aL aR aX sT sK sH rG g0 gK gA cK cG cR gf (xs 1) ao cL (fun _ => 0) H.size (hg)) (vx_cwSW 3 hts gL_law_L_question rfl rfl rfl (by decide +kernel) ⟨Nat.le_of_ble_eq_true rfl, Nat.le_of_ble_eq_true rfl⟩) (ct_pre hP hD hK hS hA hZ [0, 1, 2, 3, 4, 5, 6, 7] [0, 1, 2, 3] rfl (by decide) rfl) rfl rfl hl.1 rfl (lv_room (Nat.le_of_ble_eq_true rfl)) dL_law_1448 ⟨Nat.le_of_ble_eq_true rfl, Nat.le_of_ble_eq_true rfl⟩) hP hD hK hS hA [0, 1, 2, 3, 4, 5, 6, 7] [8, 9, 10] [4, 5] rfl rfl (by decide) (by decide) rfl (fun r_4 u H locs w_5 hP hD hK hS => ?_)
  obtain ⟨o_3, rfl⟩ : ∃ z, z = u := ⟨_, rfl⟩
  try dsimp only at w_5
  have hP : va_P (dC, dI) vwCl [(mo, .inr (12, [.int 0, .ref m1, .int 0, .ref m3, .ref m4, .ref m5, .ref m6, .ref m7, .ref m8, .ref m9, .int 0, .ref m11, .ref m12, .ref m13, .ref m14, .ref m15, .ref m16, .ref m17, .ref m18, .ref m19, .int 0, .int 0, .int 0, .int 0, .ref m24, .int 0, .ref m26, .int 0, .ref m28, .ref m29, .ref m30, .ref m31, .ref m32, .ref m33, .ref m34, .ref m35, .ref m36, .int 0, .int 0, .int 0, .int 0, .int 0, .int (-1), .int 0, .ref m44, .ref m45, .ref m46, .ref m47, .ref m48, .int 0, .ref m50, .ref m51, .ref m52, .ref m53, .ref m54, .int 0, .int 0])), (m44, .inl (k44, 11, .inl (fun _ => 0))), (m48, .inl (k48, 12, .inl (fun _ => 0))), (ao, .inl (cL, 1, .inr (.inl o_3)))] H := hP
  have hD : va_D A [(mo, .inr (12, [.int 0, .ref m1, .int 0, .ref m3, .ref m4, .ref m5, .ref m6, .ref m7, .ref m8, .ref m9, .int 0, .ref m11, .ref m12, .ref m13, .ref m14, .ref m15, .ref m16, .ref m17, .ref m18, .ref m19, .int 0, .int 0, .int 0, .int 0, .ref m24, .int 0, .ref m26, .int 0, .ref m28, .ref m29, .ref m30, .ref m31, .ref m32, .ref m33, .ref m34, .ref m35, .ref m36, .int 0, .int 0, .int 0, .int 0, .int 0, .int (-1), .int 0, .ref m44, .ref m45, .ref m46, .ref m47, .ref m48, .int 0, .ref m50, .ref m51, .ref m52, .ref m53, .ref m54, .int 0, .int 0])), (m44, .inl (k44, 11, .inl (fun _ => 0))), (m48, .inl (k48, 12, .inl (fun _ => 0))), (ao, .inl (cL, 1, .inr (.inl o_3)))] := hD
  have hK : va_K (dC, dI) vwCl [(k44, .int), (k48, .int), (cL, .long)] s := hK
  refine W.widen (k := 1002) (n := 200012) (Nat.le_of_ble_eq_true rfl) (Nat.le_of_ble_eq_true rfl) ?_
  rcases w_5 with ⟨rfl, h_6⟩ | ⟨rfl, h_6⟩
  · skip
    refine lv_istore (lv' := [(5, .int 1), (4, .int 0), (3, .ref ao), (2, .ref mo), (1, .ref h), (0, .ref b)]) hx hb dL_law_1451 hl (by decide) rfl (fun ls hl => ?_)
    refine lv_aload_n hx hb dL_law_1453 rfl (lv_at hl 3 rfl) ?_
    refine lv_aload_n hx hb dL_law_1454 rfl (lv_at hl 5 rfl) ?_
    refine lv_iload hx hb dL_law_1455 (lv_at hl 1 rfl) ?_
    refine lv_iconst (v := 1) hx hb dL_law_1457 (by decide) ?_
    refine lv_iadd hx hb dL_law_1458 ?_
    refine lv_topi (fun z_7 ez_7 => ?_)
    obtain rfl : z_7 = 1 := ez_7.trans (by decide)
    refine va_sld hx hb hX hbl hbA hS (by unfold vp_in; decide) dL_law_1459 ?_
    refine lv_topi (fun z_8 ez_8 => ?_)
    obtain rfl : z_8 = xs 1 := ez_8.trans (congrArg xs (by decide))
    refine ct_i (wr := [(ao, .inl (cL, 1, .inr (.inl o_3)))]) (tyr := [(cL, .long)]) (va_runV (As := [.int (xs 1)]) (rest := []) ⟨hx, hb, hml, hown, hts⟩ (m_question l hl0 dC dI mo m1 m3 m4 m5 m6 m7 m8 m9 m11 m12 m13 m14 m15 m16 m17 m18 m19 m24 m26 m28 m29 m30 m31 m32 m33 m34 m35 m36 m44 m45 m46 m47 m48 m50 m51 m52 m53 m54 k44 k48 (xs 1) H.size ) (cwV 1 hts gL_law_X12_question rfl rfl rfl (by decide +kernel) ⟨Nat.le_of_ble_eq_true rfl, Nat.le_of_ble_eq_true rfl⟩) (ct_preV (ci := 12) (q0 := 0) hP hD hK hS hA hZ rfl rfl [0, 1, 2] [0, 1] rfl (by decide) rfl) rfl rfl hl.1 rfl (lv_room (Nat.le_of_ble_eq_true rfl)) dL_law_1460 ⟨Nat.le_of_ble_eq_true rfl, Nat.le_of_ble_eq_true rfl⟩) hP hD hK hS hA [0, 1, 2] [3] [2] rfl rfl (by decide) (by decide) rfl (fun r_11 u H locs w_12 hP hD hK hS => ?_)
    obtain ⟨o_9, o_10⟩ := u
    try dsimp only at w_12
    have hP : va_P (dC, dI) vwCl [(ao, .inl (cL, 1, .inr (.inl o_3))), (mo, .inr (12, [.int o_9, .ref m1, .int 0, .ref m3, .ref m4, .ref m5, .ref m6, .ref m7, .ref m8, .ref m9, .int 0, .ref m11, .ref m12, .ref m13, .ref m14, .ref m15, .ref m16, .ref m17, .ref m18, .ref m19, .int 0, .int 0, .int 0, .int 0, .ref m24, .int 0, .ref m26, .int 0, .ref m28, .ref m29, .ref m30, .ref m31, .ref m32, .ref m33, .ref m34, .ref m35, .ref m36, .int 0, .int 0, .int 0, .int 0, .int 0, .int o_10, .int 0, .ref m44, .ref m45, .ref m46, .ref m47, .ref m48, .int 0, .ref m50, .ref m51, .ref m52, .ref m53, .ref m54, .int 0, .int 0]))] H := hP
    have hD : va_D A [(ao, .inl (cL, 1, .inr (.inl o_3))), (mo, .inr (12, [.int o_9, .ref m1, .int 0, .ref m3, .ref m4, .ref m5, .ref m6, .ref m7, .ref m8, .ref m9, .int 0, .ref m11, .ref m12, .ref m13, .ref m14, .ref m15, .ref m16, .ref m17, .ref m18, .ref m19, .int 0, .int 0, .int 0, .int 0, .ref m24, .int 0, .ref m26, .int 0, .ref m28, .ref m29, .ref m30, .ref m31, .ref m32, .ref m33, .ref m34, .ref m35, .ref m36, .int 0, .int 0, .int 0, .int 0, .int 0, .int o_10, .int 0, .ref m44, .ref m45, .ref m46, .ref m47, .ref m48, .int 0, .ref m50, .ref m51, .ref m52, .ref m53, .ref m54, .int 0, .int 0]))] := hD
    have hK : va_K (dC, dI) vwCl [(cL, .long)] s := hK
    rcases w_12 with ⟨rfl, q_13⟩ | ⟨rfl, q_13⟩
    · skip
      refine lv_istore (lv' := [(6, .int r_11), (5, .int 1), (4, .int 0), (3, .ref ao), (2, .ref mo), (1, .ref h), (0, .ref b)]) hx hb dL_law_1463 hl (by decide) rfl (fun ls hl => ?_)
      refine lv_aload_n hx hb dL_law_1465 rfl (lv_at hl 4 rfl) ?_
      refine ct_i (wr := [(ao, .inl (cL, 1, .inr (.inl o_3)))]) (tyr := [(cL, .long)]) (va_runV (As := []) (rest := []) ⟨hx, hb, hml, hown, hts⟩ (m_thrown l hl0 dC dI mo m1 m3 m4 m5 m6 m7 m8 m9 m11 m12 m13 m14 m15 m16 m17 m18 m19 m24 m26 m28 m29 m30 m31 m32 m33 m34 m35 m36 m44 m45 m46 m47 m48 m50 m51 m52 m53 m54 1 0 0 0 0 0 0 o_10 0 H.size ) (cwV 0 hts gL_law_X12_thrown rfl rfl rfl (by decide +kernel) ⟨Nat.le_of_ble_eq_true rfl, Nat.le_of_ble_eq_true rfl⟩) (ct_preV (ci := 12) (q0 := 1) hP hD hK hS hA hZ rfl rfl [1] [] rfl (by decide) rfl) rfl rfl hl.1 rfl (lv_room (Nat.le_of_ble_eq_true rfl)) dL_law_1466 ⟨Nat.le_of_ble_eq_true rfl, Nat.le_of_ble_eq_true rfl⟩) hP hD hK hS hA [1] [0] [0] rfl rfl (by decide) (by decide) rfl (fun r_14 u H locs w_15 hP hD hK hS => ?_)
      try dsimp only at w_15
      have hP : va_P (dC, dI) vwCl [(ao, .inl (cL, 1, .inr (.inl o_3)))] H := hP
      have hD : va_D A [(ao, .inl (cL, 1, .inr (.inl o_3)))] := hD
      have hK : va_K (dC, dI) vwCl [(cL, .long)] s := hK
      obtain rfl : r_14 = 1 := w_15
      refine lv_iload hx hb dL_law_1469 (lv_at hl 1 rfl) ?_
      refine lv_icmp_eq (tgt := 1476) hx hb dL_law_1471 (by decide) (fun _ => ?_) (fun c_16 => absurd c_16 (by decide))
      refine lv_iload hx hb dL_law_1476 (lv_at hl 1 rfl) ?_
      refine lv_if_ne (tgt := 1493) hx hb dL_law_1478 (by decide) (fun _ => ?_) (fun c_17 => absurd c_17 (by decide))
      refine lv_goto (tgt := 1620) hx hb dL_law_1493 (by decide) ?_
      refine W.widen (k := 2000) (n := 300000) (Nat.le_of_ble_eq_true rfl) (Nat.le_of_ble_eq_true rfl) ?_
      exact K _ _ _ hS (lv_sub hl [2, 6] rfl)
    · skip
      exact absurd h_6 q_13
  · skip
    refine lv_istore (lv' := [(5, .int 2), (4, .int 0), (3, .ref ao), (2, .ref mo), (1, .ref h), (0, .ref b)]) hx hb dL_law_1451 hl (by decide) rfl (fun ls hl => ?_)
    refine lv_aload_n hx hb dL_law_1453 rfl (lv_at hl 3 rfl) ?_
    refine lv_aload_n hx hb dL_law_1454 rfl (lv_at hl 5 rfl) ?_
    refine lv_iload hx hb dL_law_1455 (lv_at hl 1 rfl) ?_
    refine lv_iconst (v := 1) hx hb dL_law_1457 (by decide) ?_
    refine lv_iadd hx hb dL_law_1458 ?_
    refine lv_topi (fun z_18 ez_18 => ?_)
    obtain rfl : z_18 = 1 := ez_18.trans (by decide)
    refine va_sld hx hb hX hbl hbA hS (by unfold vp_in; decide) dL_law_1459 ?_
    refine lv_topi (fun z_19 ez_19 => ?_)
    obtain rfl : z_19 = xs 1 := ez_19.trans (congrArg xs (by decide))
    refine ct_i (wr := [(ao, .inl (cL, 1, .inr (.inl o_3)))]) (tyr := [(cL, .long)]) (va_runV (As := [.int (xs 1)]) (rest := []) ⟨hx, hb, hml, hown, hts⟩ (m_question l hl0 dC dI mo m1 m3 m4 m5 m6 m7 m8 m9 m11 m12 m13 m14 m15 m16 m17 m18 m19 m24 m26 m28 m29 m30 m31 m32 m33 m34 m35 m36 m44 m45 m46 m47 m48 m50 m51 m52 m53 m54 k44 k48 (xs 1) H.size ) (cwV 1 hts gL_law_X12_question rfl rfl rfl (by decide +kernel) ⟨Nat.le_of_ble_eq_true rfl, Nat.le_of_ble_eq_true rfl⟩) (ct_preV (ci := 12) (q0 := 0) hP hD hK hS hA hZ rfl rfl [0, 1, 2] [0, 1] rfl (by decide) rfl) rfl rfl hl.1 rfl (lv_room (Nat.le_of_ble_eq_true rfl)) dL_law_1460 ⟨Nat.le_of_ble_eq_true rfl, Nat.le_of_ble_eq_true rfl⟩) hP hD hK hS hA [0, 1, 2] [3] [2] rfl rfl (by decide) (by decide) rfl (fun r_22 u H locs w_23 hP hD hK hS => ?_)
    obtain ⟨o_20, o_21⟩ := u
    try dsimp only at w_23
    have hP : va_P (dC, dI) vwCl [(ao, .inl (cL, 1, .inr (.inl o_3))), (mo, .inr (12, [.int o_20, .ref m1, .int 0, .ref m3, .ref m4, .ref m5, .ref m6, .ref m7, .ref m8, .ref m9, .int 0, .ref m11, .ref m12, .ref m13, .ref m14, .ref m15, .ref m16, .ref m17, .ref m18, .ref m19, .int 0, .int 0, .int 0, .int 0, .ref m24, .int 0, .ref m26, .int 0, .ref m28, .ref m29, .ref m30, .ref m31, .ref m32, .ref m33, .ref m34, .ref m35, .ref m36, .int 0, .int 0, .int 0, .int 0, .int 0, .int o_21, .int 0, .ref m44, .ref m45, .ref m46, .ref m47, .ref m48, .int 0, .ref m50, .ref m51, .ref m52, .ref m53, .ref m54, .int 0, .int 0]))] H := hP
    have hD : va_D A [(ao, .inl (cL, 1, .inr (.inl o_3))), (mo, .inr (12, [.int o_20, .ref m1, .int 0, .ref m3, .ref m4, .ref m5, .ref m6, .ref m7, .ref m8, .ref m9, .int 0, .ref m11, .ref m12, .ref m13, .ref m14, .ref m15, .ref m16, .ref m17, .ref m18, .ref m19, .int 0, .int 0, .int 0, .int 0, .ref m24, .int 0, .ref m26, .int 0, .ref m28, .ref m29, .ref m30, .ref m31, .ref m32, .ref m33, .ref m34, .ref m35, .ref m36, .int 0, .int 0, .int 0, .int 0, .int 0, .int o_21, .int 0, .ref m44, .ref m45, .ref m46, .ref m47, .ref m48, .int 0, .ref m50, .ref m51, .ref m52, .ref m53, .ref m54, .int 0, .int 0]))] := hD
    have hK : va_K (dC, dI) vwCl [(cL, .long)] s := hK
    rcases w_23 with ⟨rfl, q_24⟩ | ⟨rfl, q_24⟩
    · skip
      exact absurd q_24 h_6
    · skip
      refine lv_istore (lv' := [(6, .int r_22), (5, .int 2), (4, .int 0), (3, .ref ao), (2, .ref mo), (1, .ref h), (0, .ref b)]) hx hb dL_law_1463 hl (by decide) rfl (fun ls hl => ?_)
      refine lv_aload_n hx hb dL_law_1465 rfl (lv_at hl 4 rfl) ?_
      refine ct_i (wr := [(ao, .inl (cL, 1, .inr (.inl o_3)))]) (tyr := [(cL, .long)]) (va_runV (As := []) (rest := []) ⟨hx, hb, hml, hown, hts⟩ (m_thrown l hl0 dC dI mo m1 m3 m4 m5 m6 m7 m8 m9 m11 m12 m13 m14 m15 m16 m17 m18 m19 m24 m26 m28 m29 m30 m31 m32 m33 m34 m35 m36 m44 m45 m46 m47 m48 m50 m51 m52 m53 m54 2 0 0 0 0 0 0 o_21 0 H.size ) (cwV 0 hts gL_law_X12_thrown rfl rfl rfl (by decide +kernel) ⟨Nat.le_of_ble_eq_true rfl, Nat.le_of_ble_eq_true rfl⟩) (ct_preV (ci := 12) (q0 := 1) hP hD hK hS hA hZ rfl rfl [1] [] rfl (by decide) rfl) rfl rfl hl.1 rfl (lv_room (Nat.le_of_ble_eq_true rfl)) dL_law_1466 ⟨Nat.le_of_ble_eq_true rfl, Nat.le_of_ble_eq_true rfl⟩) hP hD hK hS hA [1] [0] [0] rfl rfl (by decide) (by decide) rfl (fun r_25 u H locs w_26 hP hD hK hS => ?_)
      try dsimp only at w_26
      have hP : va_P (dC, dI) vwCl [(ao, .inl (cL, 1, .inr (.inl o_3)))] H := hP
      have hD : va_D A [(ao, .inl (cL, 1, .inr (.inl o_3)))] := hD
      have hK : va_K (dC, dI) vwCl [(cL, .long)] s := hK
      obtain rfl : r_25 = 2 := w_26
      refine lv_iload hx hb dL_law_1469 (lv_at hl 1 rfl) ?_
      refine lv_icmp_eq (tgt := 1476) hx hb dL_law_1471 (by decide) (fun _ => ?_) (fun c_27 => absurd c_27 (by decide))
      refine lv_iload hx hb dL_law_1476 (lv_at hl 1 rfl) ?_
      refine lv_if_ne (tgt := 1493) hx hb dL_law_1478 (by decide) (fun _ => ?_) (fun c_28 => absurd c_28 (by decide))
      refine lv_goto (tgt := 1620) hx hb dL_law_1493 (by decide) ?_
      refine W.widen (k := 2000) (n := 300000) (Nat.le_of_ble_eq_true rfl) (Nat.le_of_ble_eq_true rfl) ?_
      exact K _ _ _ hS (lv_sub hl [2, 6] rfl)
