set_option maxHeartbeats 4000000 in
set_option maxRecDepth 100000 in
/-- the law at value -/
theorem law_value {p : Program} {l : Launch} {e : Env} {s : State} {m : MethodId} {below : List Frame} {meth : Method} {c : Code} {Q : State → Prop} {b : Nat} {xs : Nat → Int32} {A : Nat → Prop} {H : Heap} {locs : List Loc} {ls : Array Slot} (hl0 : l.stackTraces = false) (dC : Nat → ClassId) (dI : Nat → Nat → Nat) (h : Nat) (aT : Nat) (aV : Nat) (aS : Nat) (aC : Nat) (aO : Nat) (aF : Nat) (aL : Nat) (aR : Nat) (aX : Nat) (cV : ClassId) (ao : Nat) (cL : ClassId) (mo : Nat) (m1 : Nat) (m3 : Nat) (m4 : Nat) (m5 : Nat) (m6 : Nat) (m7 : Nat) (m8 : Nat) (m9 : Nat) (m11 : Nat) (m12 : Nat) (m13 : Nat) (m14 : Nat) (m15 : Nat) (m16 : Nat) (m17 : Nat) (m18 : Nat) (m19 : Nat) (m24 : Nat) (m26 : Nat) (m28 : Nat) (m29 : Nat) (m30 : Nat) (m31 : Nat) (m32 : Nat) (m33 : Nat) (m34 : Nat) (m35 : Nat) (m36 : Nat) (m44 : Nat) (m45 : Nat) (m46 : Nat) (m47 : Nat) (m48 : Nat) (m50 : Nat) (m51 : Nat) (m52 : Nat) (m53 : Nat) (m54 : Nat) (k3 : ClassId) (hx : p.tables.exec = Jvm.exec) (hb : c.code = cL_law) (hml : c.maxLocals = 7) (hown : s.vm.findClass RL = some m.cls) (hts : ∀ w ∈ wsL_law, w.before #[Value.ref b] s = true) (hX : va_X b 6 xs s s.heap) (hbl : b < s.heap.size) (hbA : ¬ A b) (hA : ∀ q : Nat, s.heap.size ≤ q → A q) (hZ : tx_St A s) (hl : lv_has ls 7 [(4, .int 0), (3, .ref ao), (2, .ref mo), (1, .ref h), (0, .ref b)]) (hP : va_P (dC, dI) vwCl [(h, .inr (11, [.ref aT, .ref aV, .ref aS, .ref aC, .ref aO, .ref aF, .ref aL, .ref aR, .ref aX, .int 0, .int 0, .int 0])), (aV, .inl (cV, 4, .inl (fun _ => 0))), (ao, .inl (cL, 1, .inr (.inl (fun _ => 0)))), (mo, .inr (12, [.int 0, .ref m1, .int 0, .ref m3, .ref m4, .ref m5, .ref m6, .ref m7, .ref m8, .ref m9, .int 0, .ref m11, .ref m12, .ref m13, .ref m14, .ref m15, .ref m16, .ref m17, .ref m18, .ref m19, .int 0, .int 0, .int 0, .int 0, .ref m24, .int 0, .ref m26, .int 0, .ref m28, .ref m29, .ref m30, .ref m31, .ref m32, .ref m33, .ref m34, .ref m35, .ref m36, .int 0, .int 0, .int 0, .int 0, .int 0, .int (-1), .int 0, .ref m44, .ref m45, .ref m46, .ref m47, .ref m48, .int 0, .ref m50, .ref m51, .ref m52, .ref m53, .ref m54, .int 0, .int 0])), (m3, .inl (k3, 4, .inl (fun _ => 0)))] H) (hD : va_D A [(h, .inr (11, [.ref aT, .ref aV, .ref aS, .ref aC, .ref aO, .ref aF, .ref aL, .ref aR, .ref aX, .int 0, .int 0, .int 0])), (aV, .inl (cV, 4, .inl (fun _ => 0))), (ao, .inl (cL, 1, .inr (.inl (fun _ => 0)))), (mo, .inr (12, [.int 0, .ref m1, .int 0, .ref m3, .ref m4, .ref m5, .ref m6, .ref m7, .ref m8, .ref m9, .int 0, .ref m11, .ref m12, .ref m13, .ref m14, .ref m15, .ref m16, .ref m17, .ref m18, .ref m19, .int 0, .int 0, .int 0, .int 0, .ref m24, .int 0, .ref m26, .int 0, .ref m28, .ref m29, .ref m30, .ref m31, .ref m32, .ref m33, .ref m34, .ref m35, .ref m36, .int 0, .int 0, .int 0, .int 0, .int 0, .int (-1), .int 0, .ref m44, .ref m45, .ref m46, .ref m47, .ref m48, .int 0, .ref m50, .ref m51, .ref m52, .ref m53, .ref m54, .int 0, .int 0])), (m3, .inl (k3, 4, .inl (fun _ => 0)))]) (hK : va_K (dC, dI) vwCl [(cV, .int), (cL, .long), (k3, .int)] s) (hS : va_S A s.heap H locs)
    (K : ∀ (H : Heap) (locs : List Loc) (ls : Array Slot), va_S A s.heap H locs → lv_has ls 7 [(4, .int 0), (0, .ref b)] → W p l e room_1 s m #[Value.ref b] below meth c H locs 2000 300000 Q (F0 m 1620 ls [])) : W p l e room_1 s m #[Value.ref b] below meth c H locs 1000 200000 Q (F0 m 304 ls []) := by
  refine lv_aload_n hx hb dL_law_304 rfl (lv_at hl 3 rfl) ?_
  refine lv_aload_n hx hb dL_law_305 rfl (lv_at hl 4 rfl) ?_
  refine lv_iload hx hb dL_law_306 (lv_at hl 0 rfl) ?_
  refine lv_iconst (v := 1) hx hb dL_law_308 (by decide) ?_
  refine lv_iadd hx hb dL_law_309 ?_
  refine lv_topi (fun z_1 ez_1 => ?_)
  obtain rfl : z_1 = 1 := ez_1.trans (by decide)
  refine va_sld hx hb hX hbl hbA hS (by unfold vp_in; decide) dL_law_310 ?_
  refine lv_topi (fun z_2 ez_2 => ?_)
  obtain rfl : z_2 = xs 1 := ez_2.trans (congrArg xs (by decide))
  refine lv_aload_n hx hb dL_law_311 rfl (lv_at hl 4 rfl) ?_
  refine lv_iload hx hb dL_law_312 (lv_at hl 0 rfl) ?_
  refine lv_iconst (v := 2) hx hb dL_law_314 (by decide) ?_
  refine lv_iadd hx hb dL_law_315 ?_
  refine lv_topi (fun z_3 ez_3 => ?_)
  obtain rfl : z_3 = 2 := ez_3.trans (by decide)
  refine va_sld hx hb hX hbl hbA hS (by unfold vp_in; decide) dL_law_316 ?_
  refine lv_topi (fun z_4 ez_4 => ?_)
  obtain rfl : z_4 = xs 2 := ez_4.trans (congrArg xs (by decide))
  refine lv_aload_n hx hb dL_law_317 rfl (lv_at hl 1 rfl) ?_
  refine ct_i (wr := [(mo, .inr (12, [.int 0, .ref m1, .int 0, .ref m3, .ref m4, .ref m5, .ref m6, .ref m7, .ref m8, .ref m9, .int 0, .ref m11, .ref m12, .ref m13, .ref m14, .ref m15, .ref m16, .ref m17, .ref m18, .ref m19, .int 0, .int 0, .int 0, .int 0, .ref m24, .int 0, .ref m26, .int 0, .ref m28, .ref m29, .ref m30, .ref m31, .ref m32, .ref m33, .ref m34, .ref m35, .ref m36, .int 0, .int 0, .int 0, .int 0, .int 0, .int (-1), .int 0, .ref m44, .ref m45, .ref m46, .ref m47, .ref m48, .int 0, .ref m50, .ref m51, .ref m52, .ref m53, .ref m54, .int 0, .int 0])), (m3, .inl (k3, 4, .inl (fun _ => 0)))]) (tyr := [(k3, .int)]) (vx_runSW (As := [.ref h, .int (xs 1), .int (xs 2), .ref ao]) (rest := []) ⟨hx, hb, hml, hown, hts⟩ (h_value l hl0 dC dI h aT aV aS aC aO aF aL aR aX cV (xs 1) (xs 2) ao cL (fun _ => 0) H.size ) (vx_cwSW 4 hts gL_law_L_value rfl rfl rfl (by decide +kernel) ⟨Nat.le_of_ble_eq_true rfl, Nat.le_of_ble_eq_true rfl⟩) (ct_pre hP hD hK hS hA hZ [0, 1, 2] [0, 1] rfl (by decide) rfl) rfl rfl hl.1 rfl (lv_room (Nat.le_of_ble_eq_true rfl)) dL_law_318 ⟨Nat.le_of_ble_eq_true rfl, Nat.le_of_ble_eq_true rfl⟩) hP hD hK hS hA [0, 1, 2] [3, 4] [2] rfl rfl (by decide) (by decide) rfl (fun r_6 u H locs w_7 hP hD hK hS => ?_)
  obtain ⟨o_5, rfl⟩ : ∃ z, z = u := ⟨_, rfl⟩
  try dsimp only at w_7
  have hP : va_P (dC, dI) vwCl [(mo, .inr (12, [.int 0, .ref m1, .int 0, .ref m3, .ref m4, .ref m5, .ref m6, .ref m7, .ref m8, .ref m9, .int 0, .ref m11, .ref m12, .ref m13, .ref m14, .ref m15, .ref m16, .ref m17, .ref m18, .ref m19, .int 0, .int 0, .int 0, .int 0, .ref m24, .int 0, .ref m26, .int 0, .ref m28, .ref m29, .ref m30, .ref m31, .ref m32, .ref m33, .ref m34, .ref m35, .ref m36, .int 0, .int 0, .int 0, .int 0, .int 0, .int (-1), .int 0, .ref m44, .ref m45, .ref m46, .ref m47, .ref m48, .int 0, .ref m50, .ref m51, .ref m52, .ref m53, .ref m54, .int 0, .int 0])), (m3, .inl (k3, 4, .inl (fun _ => 0))), (ao, .inl (cL, 1, .inr (.inl o_5)))] H := hP
  have hD : va_D A [(mo, .inr (12, [.int 0, .ref m1, .int 0, .ref m3, .ref m4, .ref m5, .ref m6, .ref m7, .ref m8, .ref m9, .int 0, .ref m11, .ref m12, .ref m13, .ref m14, .ref m15, .ref m16, .ref m17, .ref m18, .ref m19, .int 0, .int 0, .int 0, .int 0, .ref m24, .int 0, .ref m26, .int 0, .ref m28, .ref m29, .ref m30, .ref m31, .ref m32, .ref m33, .ref m34, .ref m35, .ref m36, .int 0, .int 0, .int 0, .int 0, .int 0, .int (-1), .int 0, .ref m44, .ref m45, .ref m46, .ref m47, .ref m48, .int 0, .ref m50, .ref m51, .ref m52, .ref m53, .ref m54, .int 0, .int 0])), (m3, .inl (k3, 4, .inl (fun _ => 0))), (ao, .inl (cL, 1, .inr (.inl o_5)))] := hD
  have hK : va_K (dC, dI) vwCl [(k3, .int), (cL, .long)] s := hK
  refine W.widen (k := 1001) (n := 200006) (Nat.le_of_ble_eq_true rfl) (Nat.le_of_ble_eq_true rfl) ?_
  rcases w_7 with ⟨rfl, h_8⟩ | ⟨rfl, h_8⟩
  · skip
    refine lv_istore (lv' := [(5, .int 1), (4, .int 0), (3, .ref ao), (2, .ref mo), (1, .ref h), (0, .ref b)]) hx hb dL_law_321 hl (by decide) rfl (fun ls hl => ?_)
    refine lv_aload_n hx hb dL_law_323 rfl (lv_at hl 3 rfl) ?_
    refine lv_aload_n hx hb dL_law_324 rfl (lv_at hl 5 rfl) ?_
    refine lv_iload hx hb dL_law_325 (lv_at hl 1 rfl) ?_
    refine lv_iconst (v := 1) hx hb dL_law_327 (by decide) ?_
    refine lv_iadd hx hb dL_law_328 ?_
    refine lv_topi (fun z_9 ez_9 => ?_)
    obtain rfl : z_9 = 1 := ez_9.trans (by decide)
    refine va_sld hx hb hX hbl hbA hS (by unfold vp_in; decide) dL_law_329 ?_
    refine lv_topi (fun z_10 ez_10 => ?_)
    obtain rfl : z_10 = xs 1 := ez_10.trans (congrArg xs (by decide))
    refine lv_aload_n hx hb dL_law_330 rfl (lv_at hl 5 rfl) ?_
    refine lv_iload hx hb dL_law_331 (lv_at hl 1 rfl) ?_
    refine lv_iconst (v := 2) hx hb dL_law_333 (by decide) ?_
    refine lv_iadd hx hb dL_law_334 ?_
    refine lv_topi (fun z_11 ez_11 => ?_)
    obtain rfl : z_11 = 2 := ez_11.trans (by decide)
    refine va_sld hx hb hX hbl hbA hS (by unfold vp_in; decide) dL_law_335 ?_
    refine lv_topi (fun z_12 ez_12 => ?_)
    obtain rfl : z_12 = xs 2 := ez_12.trans (congrArg xs (by decide))
    refine ct_i (wr := [(ao, .inl (cL, 1, .inr (.inl o_5)))]) (tyr := [(cL, .long)]) (va_runV (As := [.int (xs 1), .int (xs 2)]) (rest := []) ⟨hx, hb, hml, hown, hts⟩ (m_value l hl0 dC dI mo m1 m3 m4 m5 m6 m7 m8 m9 m11 m12 m13 m14 m15 m16 m17 m18 m19 m24 m26 m28 m29 m30 m31 m32 m33 m34 m35 m36 m44 m45 m46 m47 m48 m50 m51 m52 m53 m54 k3 (xs 1) (xs 2) H.size ) (cwV 2 hts gL_law_X12_value rfl rfl rfl (by decide +kernel) ⟨Nat.le_of_ble_eq_true rfl, Nat.le_of_ble_eq_true rfl⟩) (ct_preV (ci := 12) (q0 := 0) hP hD hK hS hA hZ rfl rfl [0, 1] [0] rfl (by decide) rfl) rfl rfl hl.1 rfl (lv_room (Nat.le_of_ble_eq_true rfl)) dL_law_336 ⟨Nat.le_of_ble_eq_true rfl, Nat.le_of_ble_eq_true rfl⟩) hP hD hK hS hA [0, 1] [2] [1] rfl rfl (by decide) (by decide) rfl (fun r_14 u H locs w_15 hP hD hK hS => ?_)
    obtain ⟨o_13, rfl⟩ : ∃ z, z = u := ⟨_, rfl⟩
    try dsimp only at w_15
    have hP : va_P (dC, dI) vwCl [(ao, .inl (cL, 1, .inr (.inl o_5))), (mo, .inr (12, [.int o_13, .ref m1, .int 0, .ref m3, .ref m4, .ref m5, .ref m6, .ref m7, .ref m8, .ref m9, .int 0, .ref m11, .ref m12, .ref m13, .ref m14, .ref m15, .ref m16, .ref m17, .ref m18, .ref m19, .int 0, .int 0, .int 0, .int 0, .ref m24, .int 0, .ref m26, .int 0, .ref m28, .ref m29, .ref m30, .ref m31, .ref m32, .ref m33, .ref m34, .ref m35, .ref m36, .int 0, .int 0, .int 0, .int 0, .int 0, .int (-1), .int 0, .ref m44, .ref m45, .ref m46, .ref m47, .ref m48, .int 0, .ref m50, .ref m51, .ref m52, .ref m53, .ref m54, .int 0, .int 0]))] H := hP
    have hD : va_D A [(ao, .inl (cL, 1, .inr (.inl o_5))), (mo, .inr (12, [.int o_13, .ref m1, .int 0, .ref m3, .ref m4, .ref m5, .ref m6, .ref m7, .ref m8, .ref m9, .int 0, .ref m11, .ref m12, .ref m13, .ref m14, .ref m15, .ref m16, .ref m17, .ref m18, .ref m19, .int 0, .int 0, .int 0, .int 0, .ref m24, .int 0, .ref m26, .int 0, .ref m28, .ref m29, .ref m30, .ref m31, .ref m32, .ref m33, .ref m34, .ref m35, .ref m36, .int 0, .int 0, .int 0, .int 0, .int 0, .int (-1), .int 0, .ref m44, .ref m45, .ref m46, .ref m47, .ref m48, .int 0, .ref m50, .ref m51, .ref m52, .ref m53, .ref m54, .int 0, .int 0]))] := hD
    have hK : va_K (dC, dI) vwCl [(cL, .long)] s := hK
    rcases w_15 with ⟨rfl, q_16⟩ | ⟨rfl, q_16⟩
    · skip
      refine lv_istore (lv' := [(6, .int r_14), (5, .int 1), (4, .int 0), (3, .ref ao), (2, .ref mo), (1, .ref h), (0, .ref b)]) hx hb dL_law_339 hl (by decide) rfl (fun ls hl => ?_)
      refine lv_aload_n hx hb dL_law_341 rfl (lv_at hl 4 rfl) ?_
      refine ct_i (wr := [(ao, .inl (cL, 1, .inr (.inl o_5)))]) (tyr := [(cL, .long)]) (va_runV (As := []) (rest := []) ⟨hx, hb, hml, hown, hts⟩ (m_thrown l hl0 dC dI mo m1 m3 m4 m5 m6 m7 m8 m9 m11 m12 m13 m14 m15 m16 m17 m18 m19 m24 m26 m28 m29 m30 m31 m32 m33 m34 m35 m36 m44 m45 m46 m47 m48 m50 m51 m52 m53 m54 1 0 0 0 0 0 0 (-1) 0 H.size ) (cwV 0 hts gL_law_X12_thrown rfl rfl rfl (by decide +kernel) ⟨Nat.le_of_ble_eq_true rfl, Nat.le_of_ble_eq_true rfl⟩) (ct_preV (ci := 12) (q0 := 1) hP hD hK hS hA hZ rfl rfl [1] [] rfl (by decide) rfl) rfl rfl hl.1 rfl (lv_room (Nat.le_of_ble_eq_true rfl)) dL_law_342 ⟨Nat.le_of_ble_eq_true rfl, Nat.le_of_ble_eq_true rfl⟩) hP hD hK hS hA [1] [0] [0] rfl rfl (by decide) (by decide) rfl (fun r_17 u H locs w_18 hP hD hK hS => ?_)
      try dsimp only at w_18
      have hP : va_P (dC, dI) vwCl [(ao, .inl (cL, 1, .inr (.inl o_5)))] H := hP
      have hD : va_D A [(ao, .inl (cL, 1, .inr (.inl o_5)))] := hD
      have hK : va_K (dC, dI) vwCl [(cL, .long)] s := hK
      obtain rfl : r_17 = 1 := w_18
      refine lv_iload hx hb dL_law_345 (lv_at hl 1 rfl) ?_
      refine lv_icmp_eq (tgt := 352) hx hb dL_law_347 (by decide) (fun _ => ?_) (fun c_19 => absurd c_19 (by decide))
      refine lv_iload hx hb dL_law_352 (lv_at hl 1 rfl) ?_
      refine lv_if_ne (tgt := 369) hx hb dL_law_354 (by decide) (fun _ => ?_) (fun c_20 => absurd c_20 (by decide))
      refine lv_goto (tgt := 1620) hx hb dL_law_369 (by decide) ?_
      refine W.widen (k := 2000) (n := 300000) (Nat.le_of_ble_eq_true rfl) (Nat.le_of_ble_eq_true rfl) ?_
      exact K _ _ _ hS (lv_sub hl [2, 6] rfl)
    · skip
      exact absurd h_8 q_16.1
  · skip
    refine lv_istore (lv' := [(5, .int 0), (4, .int 0), (3, .ref ao), (2, .ref mo), (1, .ref h), (0, .ref b)]) hx hb dL_law_321 hl (by decide) rfl (fun ls hl => ?_)
    refine lv_aload_n hx hb dL_law_323 rfl (lv_at hl 3 rfl) ?_
    refine lv_aload_n hx hb dL_law_324 rfl (lv_at hl 5 rfl) ?_
    refine lv_iload hx hb dL_law_325 (lv_at hl 1 rfl) ?_
    refine lv_iconst (v := 1) hx hb dL_law_327 (by decide) ?_
    refine lv_iadd hx hb dL_law_328 ?_
    refine lv_topi (fun z_21 ez_21 => ?_)
    obtain rfl : z_21 = 1 := ez_21.trans (by decide)
    refine va_sld hx hb hX hbl hbA hS (by unfold vp_in; decide) dL_law_329 ?_
    refine lv_topi (fun z_22 ez_22 => ?_)
    obtain rfl : z_22 = xs 1 := ez_22.trans (congrArg xs (by decide))
    refine lv_aload_n hx hb dL_law_330 rfl (lv_at hl 5 rfl) ?_
    refine lv_iload hx hb dL_law_331 (lv_at hl 1 rfl) ?_
    refine lv_iconst (v := 2) hx hb dL_law_333 (by decide) ?_
    refine lv_iadd hx hb dL_law_334 ?_
    refine lv_topi (fun z_23 ez_23 => ?_)
    obtain rfl : z_23 = 2 := ez_23.trans (by decide)
    refine va_sld hx hb hX hbl hbA hS (by unfold vp_in; decide) dL_law_335 ?_
    refine lv_topi (fun z_24 ez_24 => ?_)
    obtain rfl : z_24 = xs 2 := ez_24.trans (congrArg xs (by decide))
    refine ct_i (wr := [(ao, .inl (cL, 1, .inr (.inl o_5)))]) (tyr := [(cL, .long)]) (va_runV (As := [.int (xs 1), .int (xs 2)]) (rest := []) ⟨hx, hb, hml, hown, hts⟩ (m_value l hl0 dC dI mo m1 m3 m4 m5 m6 m7 m8 m9 m11 m12 m13 m14 m15 m16 m17 m18 m19 m24 m26 m28 m29 m30 m31 m32 m33 m34 m35 m36 m44 m45 m46 m47 m48 m50 m51 m52 m53 m54 k3 (xs 1) (xs 2) H.size ) (cwV 2 hts gL_law_X12_value rfl rfl rfl (by decide +kernel) ⟨Nat.le_of_ble_eq_true rfl, Nat.le_of_ble_eq_true rfl⟩) (ct_preV (ci := 12) (q0 := 0) hP hD hK hS hA hZ rfl rfl [0, 1] [0] rfl (by decide) rfl) rfl rfl hl.1 rfl (lv_room (Nat.le_of_ble_eq_true rfl)) dL_law_336 ⟨Nat.le_of_ble_eq_true rfl, Nat.le_of_ble_eq_true rfl⟩) hP hD hK hS hA [0, 1] [2] [1] rfl rfl (by decide) (by decide) rfl (fun r_26 u H locs w_27 hP hD hK hS => ?_)
    obtain ⟨o_25, rfl⟩ : ∃ z, z = u := ⟨_, rfl⟩
    try dsimp only at w_27
    have hP : va_P (dC, dI) vwCl [(ao, .inl (cL, 1, .inr (.inl o_5))), (mo, .inr (12, [.int o_25, .ref m1, .int 0, .ref m3, .ref m4, .ref m5, .ref m6, .ref m7, .ref m8, .ref m9, .int 0, .ref m11, .ref m12, .ref m13, .ref m14, .ref m15, .ref m16, .ref m17, .ref m18, .ref m19, .int 0, .int 0, .int 0, .int 0, .ref m24, .int 0, .ref m26, .int 0, .ref m28, .ref m29, .ref m30, .ref m31, .ref m32, .ref m33, .ref m34, .ref m35, .ref m36, .int 0, .int 0, .int 0, .int 0, .int 0, .int (-1), .int 0, .ref m44, .ref m45, .ref m46, .ref m47, .ref m48, .int 0, .ref m50, .ref m51, .ref m52, .ref m53, .ref m54, .int 0, .int 0]))] H := hP
    have hD : va_D A [(ao, .inl (cL, 1, .inr (.inl o_5))), (mo, .inr (12, [.int o_25, .ref m1, .int 0, .ref m3, .ref m4, .ref m5, .ref m6, .ref m7, .ref m8, .ref m9, .int 0, .ref m11, .ref m12, .ref m13, .ref m14, .ref m15, .ref m16, .ref m17, .ref m18, .ref m19, .int 0, .int 0, .int 0, .int 0, .ref m24, .int 0, .ref m26, .int 0, .ref m28, .ref m29, .ref m30, .ref m31, .ref m32, .ref m33, .ref m34, .ref m35, .ref m36, .int 0, .int 0, .int 0, .int 0, .int 0, .int (-1), .int 0, .ref m44, .ref m45, .ref m46, .ref m47, .ref m48, .int 0, .ref m50, .ref m51, .ref m52, .ref m53, .ref m54, .int 0, .int 0]))] := hD
    have hK : va_K (dC, dI) vwCl [(cL, .long)] s := hK
    rcases w_27 with ⟨rfl, q_28⟩ | ⟨rfl, q_28⟩
    · skip
      exact absurd q_28 h_8.1
    · skip
      obtain rfl : 0 = r_26 := q_28.2.symm
      refine lv_istore (lv' := [(6, .int 0), (5, .int 0), (4, .int 0), (3, .ref ao), (2, .ref mo), (1, .ref h), (0, .ref b)]) hx hb dL_law_339 hl (by decide) rfl (fun ls hl => ?_)
      refine lv_aload_n hx hb dL_law_341 rfl (lv_at hl 4 rfl) ?_
      refine ct_i (wr := [(ao, .inl (cL, 1, .inr (.inl o_5)))]) (tyr := [(cL, .long)]) (va_runV (As := []) (rest := []) ⟨hx, hb, hml, hown, hts⟩ (m_thrown l hl0 dC dI mo m1 m3 m4 m5 m6 m7 m8 m9 m11 m12 m13 m14 m15 m16 m17 m18 m19 m24 m26 m28 m29 m30 m31 m32 m33 m34 m35 m36 m44 m45 m46 m47 m48 m50 m51 m52 m53 m54 0 0 0 0 0 0 0 (-1) 0 H.size ) (cwV 0 hts gL_law_X12_thrown rfl rfl rfl (by decide +kernel) ⟨Nat.le_of_ble_eq_true rfl, Nat.le_of_ble_eq_true rfl⟩) (ct_preV (ci := 12) (q0 := 1) hP hD hK hS hA hZ rfl rfl [1] [] rfl (by decide) rfl) rfl rfl hl.1 rfl (lv_room (Nat.le_of_ble_eq_true rfl)) dL_law_342 ⟨Nat.le_of_ble_eq_true rfl, Nat.le_of_ble_eq_true rfl⟩) hP hD hK hS hA [1] [0] [0] rfl rfl (by decide) (by decide) rfl (fun r_29 u H locs w_30 hP hD hK hS => ?_)
      try dsimp only at w_30
      have hP : va_P (dC, dI) vwCl [(ao, .inl (cL, 1, .inr (.inl o_5)))] H := hP
      have hD : va_D A [(ao, .inl (cL, 1, .inr (.inl o_5)))] := hD
      have hK : va_K (dC, dI) vwCl [(cL, .long)] s := hK
      obtain rfl : r_29 = 0 := w_30
      refine lv_iload hx hb dL_law_345 (lv_at hl 1 rfl) ?_
      refine lv_icmp_eq (tgt := 352) hx hb dL_law_347 (by decide) (fun _ => ?_) (fun c_31 => absurd c_31 (by decide))
      refine lv_iload hx hb dL_law_352 (lv_at hl 1 rfl) ?_
      refine lv_if_ne (tgt := 369) hx hb dL_law_354 (by decide) (fun c_32 => absurd c_32 (by decide)) (fun _ => ?_)
      refine lv_aload_n hx hb dL_law_357 rfl (lv_at hl 3 rfl) ?_
      refine lv_iconst (v := 0) hx hb dL_law_358 (by decide) ?_
      refine va_lald hx hb hK hP 0 0 rfl rfl (by unfold vp_in; decide) dL_law_359 ?_
      refine lv_topl (fun y_33 ey_33 => ?_)
      obtain rfl : y_33 = (0 : Int32).toInt64 := ey_33.trans ((congrArg o_5 (by decide : (0 : Int32).toNatClampNeg = 0)).trans h_8.2)
      refine lv_iload hx hb dL_law_360 (lv_at hl 0 rfl) ?_
      refine lv_i2l (v := (0 : Int32).toInt64) hx hb dL_law_362 rfl ?_
      refine tx_lcmpE hx hb dL_law_363 ?_
      refine lv_if_eq (tgt := 369) hx hb dL_law_364 (by decide) (fun _ => ?_) (fun c_34 => absurd c_34 (by decide))
      refine lv_goto (tgt := 1620) hx hb dL_law_369 (by decide) ?_
      refine W.widen (k := 2000) (n := 300000) (Nat.le_of_ble_eq_true rfl) (Nat.le_of_ble_eq_true rfl) ?_
      exact K _ _ _ hS (lv_sub hl [2, 6] rfl)

set_option maxHeartbeats 4000000 in
set_option maxRecDepth 100000 in
/-- the law at add -/
theorem law_add {p : Program} {l : Launch} {e : Env} {s : State} {m : MethodId} {below : List Frame} {meth : Method} {c : Code} {Q : State → Prop} {b : Nat} {xs : Nat → Int32} {A : Nat → Prop} {H : Heap} {locs : List Loc} {ls : Array Slot} (hl0 : l.stackTraces = false) (dC : Nat → ClassId) (dI : Nat → Nat → Nat) (h : Nat) (aT : Nat) (aV : Nat) (aS : Nat) (aC : Nat) (aO : Nat) (aF : Nat) (aL : Nat) (aR : Nat) (aX : Nat) (sT : Nat) (sK : Nat) (sH : Nat) (ao : Nat) (cL : ClassId) (mo : Nat) (m1 : Nat) (m3 : Nat) (m4 : Nat) (m5 : Nat) (m6 : Nat) (m7 : Nat) (m8 : Nat) (m9 : Nat) (m11 : Nat) (m12 : Nat) (m13 : Nat) (m14 : Nat) (m15 : Nat) (m16 : Nat) (m17 : Nat) (m18 : Nat) (m19 : Nat) (m24 : Nat) (m26 : Nat) (m28 : Nat) (m29 : Nat) (m30 : Nat) (m31 : Nat) (m32 : Nat) (m33 : Nat) (m34 : Nat) (m35 : Nat) (m36 : Nat) (m44 : Nat) (m45 : Nat) (m46 : Nat) (m47 : Nat) (m48 : Nat) (m50 : Nat) (m51 : Nat) (m52 : Nat) (m53 : Nat) (m54 : Nat) (hx : p.tables.exec = Jvm.exec) (hb : c.code = cL_law) (hml : c.maxLocals = 7) (hown : s.vm.findClass RL = some m.cls) (hts : ∀ w ∈ wsL_law, w.before #[Value.ref b] s = true) (hX : va_X b 6 xs s s.heap) (hbl : b < s.heap.size) (hbA : ¬ A b) (hA : ∀ q : Nat, s.heap.size ≤ q → A q) (hZ : tx_St A s) (hl : lv_has ls 7 [(4, .int 0), (3, .ref ao), (2, .ref mo), (1, .ref h), (0, .ref b)]) (hP : va_P (dC, dI) vwCl [(h, .inr (11, [.ref aT, .ref aV, .ref aS, .ref aC, .ref aO, .ref aF, .ref aL, .ref aR, .ref aX, .int 0, .int 0, .int 0])), (aS, .inr (9, [.ref sT, .ref sK, .ref sH, .int 0, .int 0, .int 0, .int 0, .int 0])), (ao, .inl (cL, 1, .inr (.inl (fun _ => 0)))), (mo, .inr (12, [.int 0, .ref m1, .int 0, .ref m3, .ref m4, .ref m5, .ref m6, .ref m7, .ref m8, .ref m9, .int 0, .ref m11, .ref m12, .ref m13, .ref m14, .ref m15, .ref m16, .ref m17, .ref m18, .ref m19, .int 0, .int 0, .int 0, .int 0, .ref m24, .int 0, .ref m26, .int 0, .ref m28, .ref m29, .ref m30, .ref m31, .ref m32, .ref m33, .ref m34, .ref m35, .ref m36, .int 0, .int 0, .int 0, .int 0, .int 0, .int (-1), .int 0, .ref m44, .ref m45, .ref m46, .ref m47, .ref m48, .int 0, .ref m50, .ref m51, .ref m52, .ref m53, .ref m54, .int 0, .int 0]))] H) (hD : va_D A [(h, .inr (11, [.ref aT, .ref aV, .ref aS, .ref aC, .ref aO, .ref aF, .ref aL, .ref aR, .ref aX, .int 0, .int 0, .int 0])), (aS, .inr (9, [.ref sT, .ref sK, .ref sH, .int 0, .int 0, .int 0, .int 0, .int 0])), (ao, .inl (cL, 1, .inr (.inl (fun _ => 0)))), (mo, .inr (12, [.int 0, .ref m1, .int 0, .ref m3, .ref m4, .ref m5, .ref m6, .ref m7, .ref m8, .ref m9, .int 0, .ref m11, .ref m12, .ref m13, .ref m14, .ref m15, .ref m16, .ref m17, .ref m18, .ref m19, .int 0, .int 0, .int 0, .int 0, .ref m24, .int 0, .ref m26, .int 0, .ref m28, .ref m29, .ref m30, .ref m31, .ref m32, .ref m33, .ref m34, .ref m35, .ref m36, .int 0, .int 0, .int 0, .int 0, .int 0, .int (-1), .int 0, .ref m44, .ref m45, .ref m46, .ref m47, .ref m48, .int 0, .ref m50, .ref m51, .ref m52, .ref m53, .ref m54, .int 0, .int 0]))]) (hK : va_K (dC, dI) vwCl [(cL, .long)] s) (hS : va_S A s.heap H locs)
    (K : ∀ (H : Heap) (locs : List Loc) (ls : Array Slot), va_S A s.heap H locs → lv_has ls 7 [(4, .int 0), (0, .ref b)] → W p l e room_1 s m #[Value.ref b] below meth c H locs 2000 300000 Q (F0 m 1620 ls [])) : W p l e room_1 s m #[Value.ref b] below meth c H locs 1000 200000 Q (F0 m 564 ls []) := by
  refine lv_aload_n hx hb dL_law_564 rfl (lv_at hl 3 rfl) ?_
  refine lv_aload_n hx hb dL_law_565 rfl (lv_at hl 4 rfl) ?_
  refine lv_iload hx hb dL_law_566 (lv_at hl 0 rfl) ?_
  refine lv_iconst (v := 1) hx hb dL_law_568 (by decide) ?_
  refine lv_iadd hx hb dL_law_569 ?_
  refine lv_topi (fun z_1 ez_1 => ?_)
  obtain rfl : z_1 = 1 := ez_1.trans (by decide)
  refine va_sld hx hb hX hbl hbA hS (by unfold vp_in; decide) dL_law_570 ?_
  refine lv_topi (fun z_2 ez_2 => ?_)
  obtain rfl : z_2 = xs 1 := ez_2.trans (congrArg xs (by decide))
  refine lv_aload_n hx hb dL_law_571 rfl (lv_at hl 4 rfl) ?_
  refine lv_iload hx hb dL_law_572 (lv_at hl 0 rfl) ?_
  refine lv_iconst (v := 2) hx hb dL_law_574 (by decide) ?_
  refine lv_iadd hx hb dL_law_575 ?_
  refine lv_topi (fun z_3 ez_3 => ?_)
  obtain rfl : z_3 = 2 := ez_3.trans (by decide)
  refine va_sld hx hb hX hbl hbA hS (by unfold vp_in; decide) dL_law_576 ?_
  refine lv_topi (fun z_4 ez_4 => ?_)
  obtain rfl : z_4 = xs 2 := ez_4.trans (congrArg xs (by decide))
  refine lv_aload_n hx hb dL_law_577 rfl (lv_at hl 1 rfl) ?_
  refine ct_i (wr := [(mo, .inr (12, [.int 0, .ref m1, .int 0, .ref m3, .ref m4, .ref m5, .ref m6, .ref m7, .ref m8, .ref m9, .int 0, .ref m11, .ref m12, .ref m13, .ref m14, .ref m15, .ref m16, .ref m17, .ref m18, .ref m19, .int 0, .int 0, .int 0, .int 0, .ref m24, .int 0, .ref m26, .int 0, .ref m28, .ref m29, .ref m30, .ref m31, .ref m32, .ref m33, .ref m34, .ref m35, .ref m36, .int 0, .int 0, .int 0, .int 0, .int 0, .int (-1), .int 0, .ref m44, .ref m45, .ref m46, .ref m47, .ref m48, .int 0, .ref m50, .ref m51, .ref m52, .ref m53, .ref m54, .int 0, .int 0]))]) (tyr := []) (vx_runSW (As := [.ref h, .int (xs 1), .int (xs 2), .ref ao]) (rest := []) ⟨hx, hb, hml, hown, hts⟩ (h_add l hl0 dC dI h aT aV aS aC aO aF aL aR aX sT sK sH (xs 1) (xs 2) ao cL (fun _ => 0) H.size ) (vx_cwSW 4 hts gL_law_L_add rfl rfl rfl (by decide +kernel) ⟨Nat.le_of_ble_eq_true rfl, Nat.le_of_ble_eq_true rfl⟩) (ct_pre hP hD hK hS hA hZ [0, 1, 2] [0] rfl (by decide) rfl) rfl rfl hl.1 rfl (lv_room (Nat.le_of_ble_eq_true rfl)) dL_law_578 ⟨Nat.le_of_ble_eq_true rfl, Nat.le_of_ble_eq_true rfl⟩) hP hD hK hS hA [0, 1, 2] [3] [] rfl rfl (by decide) (by decide) rfl (fun r_6 u H locs w_7 hP hD hK hS => ?_)
  obtain ⟨o_5, rfl⟩ : ∃ z, z = u := ⟨_, rfl⟩
  try dsimp only at w_7
  have hP : va_P (dC, dI) vwCl [(mo, .inr (12, [.int 0, .ref m1, .int 0, .ref m3, .ref m4, .ref m5, .ref m6, .ref m7, .ref m8, .ref m9, .int 0, .ref m11, .ref m12, .ref m13, .ref m14, .ref m15, .ref m16, .ref m17, .ref m18, .ref m19, .int 0, .int 0, .int 0, .int 0, .ref m24, .int 0, .ref m26, .int 0, .ref m28, .ref m29, .ref m30, .ref m31, .ref m32, .ref m33, .ref m34, .ref m35, .ref m36, .int 0, .int 0, .int 0, .int 0, .int 0, .int (-1), .int 0, .ref m44, .ref m45, .ref m46, .ref m47, .ref m48, .int 0, .ref m50, .ref m51, .ref m52, .ref m53, .ref m54, .int 0, .int 0])), (ao, .inl (cL, 1, .inr (.inl o_5)))] H := hP
  have hD : va_D A [(mo, .inr (12, [.int 0, .ref m1, .int 0, .ref m3, .ref m4, .ref m5, .ref m6, .ref m7, .ref m8, .ref m9, .int 0, .ref m11, .ref m12, .ref m13, .ref m14, .ref m15, .ref m16, .ref m17, .ref m18, .ref m19, .int 0, .int 0, .int 0, .int 0, .ref m24, .int 0, .ref m26, .int 0, .ref m28, .ref m29, .ref m30, .ref m31, .ref m32, .ref m33, .ref m34, .ref m35, .ref m36, .int 0, .int 0, .int 0, .int 0, .int 0, .int (-1), .int 0, .ref m44, .ref m45, .ref m46, .ref m47, .ref m48, .int 0, .ref m50, .ref m51, .ref m52, .ref m53, .ref m54, .int 0, .int 0])), (ao, .inl (cL, 1, .inr (.inl o_5)))] := hD
  have hK : va_K (dC, dI) vwCl [(cL, .long)] s := hK
  refine W.widen (k := 1002) (n := 200012) (Nat.le_of_ble_eq_true rfl) (Nat.le_of_ble_eq_true rfl) ?_
  rcases w_7 with ⟨rfl, h_8⟩ | ⟨rfl, h_8⟩
  · skip
    refine lv_istore (lv' := [(5, .int 1), (4, .int 0), (3, .ref ao), (2, .ref mo), (1, .ref h), (0, .ref b)]) hx hb dL_law_581 hl (by decide) rfl (fun ls hl => ?_)
    refine lv_aload_n hx hb dL_law_583 rfl (lv_at hl 3 rfl) ?_
    refine lv_aload_n hx hb dL_law_584 rfl (lv_at hl 5 rfl) ?_
    refine lv_iload hx hb dL_law_585 (lv_at hl 1 rfl) ?_
    refine lv_iconst (v := 1) hx hb dL_law_587 (by decide) ?_
    refine lv_iadd hx hb dL_law_588 ?_
    refine lv_topi (fun z_9 ez_9 => ?_)
    obtain rfl : z_9 = 1 := ez_9.trans (by decide)
    refine va_sld hx hb hX hbl hbA hS (by unfold vp_in; decide) dL_law_589 ?_
    refine lv_topi (fun z_10 ez_10 => ?_)
    obtain rfl : z_10 = xs 1 := ez_10.trans (congrArg xs (by decide))
    refine lv_aload_n hx hb dL_law_590 rfl (lv_at hl 5 rfl) ?_
    refine lv_iload hx hb dL_law_591 (lv_at hl 1 rfl) ?_
    refine lv_iconst (v := 2) hx hb dL_law_593 (by decide) ?_
    refine lv_iadd hx hb dL_law_594 ?_
    refine lv_topi (fun z_11 ez_11 => ?_)
    obtain rfl : z_11 = 2 := ez_11.trans (by decide)
    refine va_sld hx hb hX hbl hbA hS (by unfold vp_in; decide) dL_law_595 ?_
    refine lv_topi (fun z_12 ez_12 => ?_)
    obtain rfl : z_12 = xs 2 := ez_12.trans (congrArg xs (by decide))
    refine ct_i (wr := [(ao, .inl (cL, 1, .inr (.inl o_5)))]) (tyr := [(cL, .long)]) (va_runV (As := [.int (xs 1), .int (xs 2)]) (rest := []) ⟨hx, hb, hml, hown, hts⟩ (m_add l hl0 dC dI mo m1 m3 m4 m5 m6 m7 m8 m9 m11 m12 m13 m14 m15 m16 m17 m18 m19 m24 m26 m28 m29 m30 m31 m32 m33 m34 m35 m36 m44 m45 m46 m47 m48 m50 m51 m52 m53 m54 (xs 1) (xs 2) H.size ) (cwV 2 hts gL_law_X12_add rfl rfl rfl (by decide +kernel) ⟨Nat.le_of_ble_eq_true rfl, Nat.le_of_ble_eq_true rfl⟩) (ct_preV (ci := 12) (q0 := 0) hP hD hK hS hA hZ rfl rfl [0] [] rfl (by decide) rfl) rfl rfl hl.1 rfl (lv_room (Nat.le_of_ble_eq_true rfl)) dL_law_596 ⟨Nat.le_of_ble_eq_true rfl, Nat.le_of_ble_eq_true rfl⟩) hP hD hK hS hA [0] [1] [0] rfl rfl (by decide) (by decide) rfl (fun r_14 u H locs w_15 hP hD hK hS => ?_)
    obtain ⟨o_13, rfl⟩ : ∃ z, z = u := ⟨_, rfl⟩
    try dsimp only at w_15
    have hP : va_P (dC, dI) vwCl [(ao, .inl (cL, 1, .inr (.inl o_5))), (mo, .inr (12, [.int o_13, .ref m1, .int 0, .ref m3, .ref m4, .ref m5, .ref m6, .ref m7, .ref m8, .ref m9, .int 0, .ref m11, .ref m12, .ref m13, .ref m14, .ref m15, .ref m16, .ref m17, .ref m18, .ref m19, .int 0, .int 0, .int 0, .int 0, .ref m24, .int 0, .ref m26, .int 0, .ref m28, .ref m29, .ref m30, .ref m31, .ref m32, .ref m33, .ref m34, .ref m35, .ref m36, .int 0, .int 0, .int 0, .int 0, .int 0, .int (-1), .int 0, .ref m44, .ref m45, .ref m46, .ref m47, .ref m48, .int 0, .ref m50, .ref m51, .ref m52, .ref m53, .ref m54, .int 0, .int 0]))] H := hP
    have hD : va_D A [(ao, .inl (cL, 1, .inr (.inl o_5))), (mo, .inr (12, [.int o_13, .ref m1, .int 0, .ref m3, .ref m4, .ref m5, .ref m6, .ref m7, .ref m8, .ref m9, .int 0, .ref m11, .ref m12, .ref m13, .ref m14, .ref m15, .ref m16, .ref m17, .ref m18, .ref m19, .int 0, .int 0, .int 0, .int 0, .ref m24, .int 0, .ref m26, .int 0, .ref m28, .ref m29, .ref m30, .ref m31, .ref m32, .ref m33, .ref m34, .ref m35, .ref m36, .int 0, .int 0, .int 0, .int 0, .int 0, .int (-1), .int 0, .ref m44, .ref m45, .ref m46, .ref m47, .ref m48, .int 0, .ref m50, .ref m51, .ref m52, .ref m53, .ref m54, .int 0, .int 0]))] := hD
    have hK : va_K (dC, dI) vwCl [(cL, .long)] s := hK
    rcases w_15 with ⟨rfl, q_16⟩ | ⟨rfl, q_16⟩
    · skip
      refine lv_istore (lv' := [(6, .int r_14), (5, .int 1), (4, .int 0), (3, .ref ao), (2, .ref mo), (1, .ref h), (0, .ref b)]) hx hb dL_law_599 hl (by decide) rfl (fun ls hl => ?_)
      refine lv_aload_n hx hb dL_law_601 rfl (lv_at hl 4 rfl) ?_
      refine ct_i (wr := [(ao, .inl (cL, 1, .inr (.inl o_5)))]) (tyr := [(cL, .long)]) (va_runV (As := []) (rest := []) ⟨hx, hb, hml, hown, hts⟩ (m_thrown l hl0 dC dI mo m1 m3 m4 m5 m6 m7 m8 m9 m11 m12 m13 m14 m15 m16 m17 m18 m19 m24 m26 m28 m29 m30 m31 m32 m33 m34 m35 m36 m44 m45 m46 m47 m48 m50 m51 m52 m53 m54 1 0 0 0 0 0 0 (-1) 0 H.size ) (cwV 0 hts gL_law_X12_thrown rfl rfl rfl (by decide +kernel) ⟨Nat.le_of_ble_eq_true rfl, Nat.le_of_ble_eq_true rfl⟩) (ct_preV (ci := 12) (q0 := 1) hP hD hK hS hA hZ rfl rfl [1] [] rfl (by decide) rfl) rfl rfl hl.1 rfl (lv_room (Nat.le_of_ble_eq_true rfl)) dL_law_602 ⟨Nat.le_of_ble_eq_true rfl, Nat.le_of_ble_eq_true rfl⟩) hP hD hK hS hA [1] [0] [0] rfl rfl (by decide) (by decide) rfl (fun r_17 u H locs w_18 hP hD hK hS => ?_)
      try dsimp only at w_18
      have hP : va_P (dC, dI) vwCl [(ao, .inl (cL, 1, .inr (.inl o_5)))] H := hP
      have hD : va_D A [(ao, .inl (cL, 1, .inr (.inl o_5)))] := hD
      have hK : va_K (dC, dI) vwCl [(cL, .long)] s := hK
      obtain rfl : r_17 = 1 := w_18
      refine lv_iload hx hb dL_law_605 (lv_at hl 1 rfl) ?_
      refine lv_icmp_eq (tgt := 612) hx hb dL_law_607 (by decide) (fun _ => ?_) (fun c_19 => absurd c_19 (by decide))
      refine lv_iload hx hb dL_law_612 (lv_at hl 1 rfl) ?_
      refine lv_if_ne (tgt := 629) hx hb dL_law_614 (by decide) (fun _ => ?_) (fun c_20 => absurd c_20 (by decide))
      refine lv_goto (tgt := 1620) hx hb dL_law_629 (by decide) ?_
      refine W.widen (k := 2000) (n := 300000) (Nat.le_of_ble_eq_true rfl) (Nat.le_of_ble_eq_true rfl) ?_
      exact K _ _ _ hS (lv_sub hl [2, 6] rfl)
    · skip
      exact absurd h_8 q_16
  · skip
    refine lv_istore (lv' := [(5, .int 2), (4, .int 0), (3, .ref ao), (2, .ref mo), (1, .ref h), (0, .ref b)]) hx hb dL_law_581 hl (by decide) rfl (fun ls hl => ?_)
    refine lv_aload_n hx hb dL_law_583 rfl (lv_at hl 3 rfl) ?_
    refine lv_aload_n hx hb dL_law_584 rfl (lv_at hl 5 rfl) ?_
    refine lv_iload hx hb dL_law_585 (lv_at hl 1 rfl) ?_
    refine lv_iconst (v := 1) hx hb dL_law_587 (by decide) ?_
    refine lv_iadd hx hb dL_law_588 ?_
    refine lv_topi (fun z_21 ez_21 => ?_)
    obtain rfl : z_21 = 1 := ez_21.trans (by decide)
    refine va_sld hx hb hX hbl hbA hS (by unfold vp_in; decide) dL_law_589 ?_
    refine lv_topi (fun z_22 ez_22 => ?_)
    obtain rfl : z_22 = xs 1 := ez_22.trans (congrArg xs (by decide))
    refine lv_aload_n hx hb dL_law_590 rfl (lv_at hl 5 rfl) ?_
    refine lv_iload hx hb dL_law_591 (lv_at hl 1 rfl) ?_
    refine lv_iconst (v := 2) hx hb dL_law_593 (by decide) ?_
    refine lv_iadd hx hb dL_law_594 ?_
    refine lv_topi (fun z_23 ez_23 => ?_)
    obtain rfl : z_23 = 2 := ez_23.trans (by decide)
    refine va_sld hx hb hX hbl hbA hS (by unfold vp_in; decide) dL_law_595 ?_
    refine lv_topi (fun z_24 ez_24 => ?_)
    obtain rfl : z_24 = xs 2 := ez_24.trans (congrArg xs (by decide))
    refine ct_i (wr := [(ao, .inl (cL, 1, .inr (.inl o_5)))]) (tyr := [(cL, .long)]) (va_runV (As := [.int (xs 1), .int (xs 2)]) (rest := []) ⟨hx, hb, hml, hown, hts⟩ (m_add l hl0 dC dI mo m1 m3 m4 m5 m6 m7 m8 m9 m11 m12 m13 m14 m15 m16 m17 m18 m19 m24 m26 m28 m29 m30 m31 m32 m33 m34 m35 m36 m44 m45 m46 m47 m48 m50 m51 m52 m53 m54 (xs 1) (xs 2) H.size ) (cwV 2 hts gL_law_X12_add rfl rfl rfl (by decide +kernel) ⟨Nat.le_of_ble_eq_true rfl, Nat.le_of_ble_eq_true rfl⟩) (ct_preV (ci := 12) (q0 := 0) hP hD hK hS hA hZ rfl rfl [0] [] rfl (by decide) rfl) rfl rfl hl.1 rfl (lv_room (Nat.le_of_ble_eq_true rfl)) dL_law_596 ⟨Nat.le_of_ble_eq_true rfl, Nat.le_of_ble_eq_true rfl⟩) hP hD hK hS hA [0] [1] [0] rfl rfl (by decide) (by decide) rfl (fun r_26 u H locs w_27 hP hD hK hS => ?_)
    obtain ⟨o_25, rfl⟩ : ∃ z, z = u := ⟨_, rfl⟩
    try dsimp only at w_27
    have hP : va_P (dC, dI) vwCl [(ao, .inl (cL, 1, .inr (.inl o_5))), (mo, .inr (12, [.int o_25, .ref m1, .int 0, .ref m3, .ref m4, .ref m5, .ref m6, .ref m7, .ref m8, .ref m9, .int 0, .ref m11, .ref m12, .ref m13, .ref m14, .ref m15, .ref m16, .ref m17, .ref m18, .ref m19, .int 0, .int 0, .int 0, .int 0, .ref m24, .int 0, .ref m26, .int 0, .ref m28, .ref m29, .ref m30, .ref m31, .ref m32, .ref m33, .ref m34, .ref m35, .ref m36, .int 0, .int 0, .int 0, .int 0, .int 0, .int (-1), .int 0, .ref m44, .ref m45, .ref m46, .ref m47, .ref m48, .int 0, .ref m50, .ref m51, .ref m52, .ref m53, .ref m54, .int 0, .int 0]))] H := hP
    have hD : va_D A [(ao, .inl (cL, 1, .inr (.inl o_5))), (mo, .inr (12, [.int o_25, .ref m1, .int 0, .ref m3, .ref m4, .ref m5, .ref m6, .ref m7, .ref m8, .ref m9, .int 0, .ref m11, .ref m12, .ref m13, .ref m14, .ref m15, .ref m16, .ref m17, .ref m18, .ref m19, .int 0, .int 0, .int 0, .int 0, .ref m24, .int 0, .ref m26, .int 0, .ref m28, .ref m29, .ref m30, .ref m31, .ref m32, .ref m33, .ref m34, .ref m35, .ref m36, .int 0, .int 0, .int 0, .int 0, .int 0, .int (-1), .int 0, .ref m44, .ref m45, .ref m46, .ref m47, .ref m48, .int 0, .ref m50, .ref m51, .ref m52, .ref m53, .ref m54, .int 0, .int 0]))] := hD
    have hK : va_K (dC, dI) vwCl [(cL, .long)] s := hK
    rcases w_27 with ⟨rfl, q_28⟩ | ⟨rfl, q_28⟩
    · skip
      exact absurd q_28 h_8
    · skip
      refine lv_istore (lv' := [(6, .int r_26), (5, .int 2), (4, .int 0), (3, .ref ao), (2, .ref mo), (1, .ref h), (0, .ref b)]) hx hb dL_law_599 hl (by decide) rfl (fun ls hl => ?_)
      refine lv_aload_n hx hb dL_law_601 rfl (lv_at hl 4 rfl) ?_
      refine ct_i (wr := [(ao, .inl (cL, 1, .inr (.inl o_5)))]) (tyr := [(cL, .long)]) (va_runV (As := []) (rest := []) ⟨hx, hb, hml, hown, hts⟩ (m_thrown l hl0 dC dI mo m1 m3 m4 m5 m6 m7 m8 m9 m11 m12 m13 m14 m15 m16 m17 m18 m19 m24 m26 m28 m29 m30 m31 m32 m33 m34 m35 m36 m44 m45 m46 m47 m48 m50 m51 m52 m53 m54 2 0 0 0 0 0 0 (-1) 0 H.size ) (cwV 0 hts gL_law_X12_thrown rfl rfl rfl (by decide +kernel) ⟨Nat.le_of_ble_eq_true rfl, Nat.le_of_ble_eq_true rfl⟩) (ct_preV (ci := 12) (q0 := 1) hP hD hK hS hA hZ rfl rfl [1] [] rfl (by decide) rfl) rfl rfl hl.1 rfl (lv_room (Nat.le_of_ble_eq_true rfl)) dL_law_602 ⟨Nat.le_of_ble_eq_true rfl, Nat.le_of_ble_eq_true rfl⟩) hP hD hK hS hA [1] [0] [0] rfl rfl (by decide) (by decide) rfl (fun r_29 u H locs w_30 hP hD hK hS => ?_)
      try dsimp only at w_30
      have hP : va_P (dC, dI) vwCl [(ao, .inl (cL, 1, .inr (.inl o_5)))] H := hP
      have hD : va_D A [(ao, .inl (cL, 1, .inr (.inl o_5)))] := hD
      have hK : va_K (dC, dI) vwCl [(cL, .long)] s := hK
      obtain rfl : r_29 = 2 := w_30
      refine lv_iload hx hb dL_law_605 (lv_at hl 1 rfl) ?_
      refine lv_icmp_eq (tgt := 612) hx hb dL_law_607 (by decide) (fun _ => ?_) (fun c_31 => absurd c_31 (by decide))
      refine lv_iload hx hb dL_law_612 (lv_at hl 1 rfl) ?_
      refine lv_if_ne (tgt := 629) hx hb dL_law_614 (by decide) (fun _ => ?_) (fun c_32 => absurd c_32 (by decide))
      refine lv_goto (tgt := 1620) hx hb dL_law_629 (by decide) ?_
      refine W.widen (k := 2000) (n := 300000) (Nat.le_of_ble_eq_true rfl) (Nat.le_of_ble_eq_true rfl) ?_
      exact K _ _ _ hS (lv_sub hl [2, 6] rfl)

set_option maxHeartbeats 4000000 in
set_option maxRecDepth 100000 in
/-- the law at open -/
theorem law_open {p : Program} {l : Launch} {e : Env} {s : State} {m : MethodId} {below : List Frame} {meth : Method} {c : Code} {Q : State → Prop} {b : Nat} {xs : Nat → Int32} {A : Nat → Prop} {H : Heap} {locs : List Loc} {ls : Array Slot} (hl0 : l.stackTraces = false) (dC : Nat → ClassId) (dI : Nat → Nat → Nat) (h : Nat) (aT : Nat) (aV : Nat) (aS : Nat) (aC : Nat) (aO : Nat) (aF : Nat) (aL : Nat) (aR : Nat) (aX : Nat) (sT : Nat) (sK : Nat) (sH : Nat) (ao : Nat) (cL : ClassId) (mo : Nat) (m1 : Nat) (m3 : Nat) (m4 : Nat) (m5 : Nat) (m6 : Nat) (m7 : Nat) (m8 : Nat) (m9 : Nat) (m11 : Nat) (m12 : Nat) (m13 : Nat) (m14 : Nat) (m15 : Nat) (m16 : Nat) (m17 : Nat) (m18 : Nat) (m19 : Nat) (m24 : Nat) (m26 : Nat) (m28 : Nat) (m29 : Nat) (m30 : Nat) (m31 : Nat) (m32 : Nat) (m33 : Nat) (m34 : Nat) (m35 : Nat) (m36 : Nat) (m44 : Nat) (m45 : Nat) (m46 : Nat) (m47 : Nat) (m48 : Nat) (m50 : Nat) (m51 : Nat) (m52 : Nat) (m53 : Nat) (m54 : Nat) (k28 : ClassId) (hx : p.tables.exec = Jvm.exec) (hb : c.code = cL_law) (hml : c.maxLocals = 7) (hown : s.vm.findClass RL = some m.cls) (hts : ∀ w ∈ wsL_law, w.before #[Value.ref b] s = true) (hX : va_X b 6 xs s s.heap) (hbl : b < s.heap.size) (hbA : ¬ A b) (hA : ∀ q : Nat, s.heap.size ≤ q → A q) (hZ : tx_St A s) (hl : lv_has ls 7 [(4, .int 0), (3, .ref ao), (2, .ref mo), (1, .ref h), (0, .ref b)]) (hP : va_P (dC, dI) vwCl [(h, .inr (11, [.ref aT, .ref aV, .ref aS, .ref aC, .ref aO, .ref aF, .ref aL, .ref aR, .ref aX, .int 0, .int 0, .int 0])), (aS, .inr (9, [.ref sT, .ref sK, .ref sH, .int 0, .int 0, .int 0, .int 0, .int 0])), (ao, .inl (cL, 1, .inr (.inl (fun _ => 0)))), (mo, .inr (12, [.int 0, .ref m1, .int 0, .ref m3, .ref m4, .ref m5, .ref m6, .ref m7, .ref m8, .ref m9, .int 0, .ref m11, .ref m12, .ref m13, .ref m14, .ref m15, .ref m16, .ref m17, .ref m18, .ref m19, .int 0, .int 0, .int 0, .int 0, .ref m24, .int 0, .ref m26, .int 0, .ref m28, .ref m29, .ref m30, .ref m31, .ref m32, .ref m33, .ref m34, .ref m35, .ref m36, .int 0, .int 0, .int 0, .int 0, .int 0, .int (-1), .int 0, .ref m44, .ref m45, .ref m46, .ref m47, .ref m48, .int 0, .ref m50, .ref m51, .ref m52, .ref m53, .ref m54, .int 0, .int 0])), (m28, .inl (k28, 10, .inl (fun _ => 0)))] H) (hD : va_D A [(h, .inr (11, [.ref aT, .ref aV, .ref aS, .ref aC, .ref aO, .ref aF, .ref aL, .ref aR, .ref aX, .int 0, .int 0, .int 0])), (aS, .inr (9, [.ref sT, .ref sK, .ref sH, .int 0, .int 0, .int 0, .int 0, .int 0])), (ao, .inl (cL, 1, .inr (.inl (fun _ => 0)))), (mo, .inr (12, [.int 0, .ref m1, .int 0, .ref m3, .ref m4, .ref m5, .ref m6, .ref m7, .ref m8, .ref m9, .int 0, .ref m11, .ref m12, .ref m13, .ref m14, .ref m15, .ref m16, .ref m17, .ref m18, .ref m19, .int 0, .int 0, .int 0, .int 0, .ref m24, .int 0, .ref m26, .int 0, .ref m28, .ref m29, .ref m30, .ref m31, .ref m32, .ref m33, .ref m34, .ref m35, .ref m36, .int 0, .int 0, .int 0, .int 0, .int 0, .int (-1), .int 0, .ref m44, .ref m45, .ref m46, .ref m47, .ref m48, .int 0, .ref m50, .ref m51, .ref m52, .ref m53, .ref m54, .int 0, .int 0])), (m28, .inl (k28, 10, .inl (fun _ => 0)))]) (hK : va_K (dC, dI) vwCl [(cL, .long), (k28, .boolean)] s) (hS : va_S A s.heap H locs)
    (K : ∀ (H : Heap) (locs : List Loc) (ls : Array Slot), va_S A s.heap H locs → lv_has ls 7 [(4, .int 0), (0, .ref b)] → W p l e room_1 s m #[Value.ref b] below meth c H locs 2000 300000 Q (F0 m 1620 ls [])) : W p l e room_1 s m #[Value.ref b] below meth c H locs 1000 200000 Q (F0 m 872 ls []) := by
  refine lv_aload_n hx hb dL_law_872 rfl (lv_at hl 3 rfl) ?_
  refine lv_aload_n hx hb dL_law_873 rfl (lv_at hl 4 rfl) ?_
  refine lv_iload hx hb dL_law_874 (lv_at hl 0 rfl) ?_
  refine lv_iconst (v := 1) hx hb dL_law_876 (by decide) ?_
  refine lv_iadd hx hb dL_law_877 ?_
  refine lv_topi (fun z_1 ez_1 => ?_)
  obtain rfl : z_1 = 1 := ez_1.trans (by decide)
  refine va_sld hx hb hX hbl hbA hS (by unfold vp_in; decide) dL_law_878 ?_
  refine lv_topi (fun z_2 ez_2 => ?_)
  obtain rfl : z_2 = xs 1 := ez_2.trans (congrArg xs (by decide))
  refine lv_aload_n hx hb dL_law_879 rfl (lv_at hl 4 rfl) ?_
  refine lv_iload hx hb dL_law_880 (lv_at hl 0 rfl) ?_
  refine lv_iconst (v := 2) hx hb dL_law_882 (by decide) ?_
  refine lv_iadd hx hb dL_law_883 ?_
  refine lv_topi (fun z_3 ez_3 => ?_)
  obtain rfl : z_3 = 2 := ez_3.trans (by decide)
  refine va_sld hx hb hX hbl hbA hS (by unfold vp_in; decide) dL_law_884 ?_
  refine lv_topi (fun z_4 ez_4 => ?_)
  obtain rfl : z_4 = xs 2 := ez_4.trans (congrArg xs (by decide))
  refine lv_aload_n hx hb dL_law_885 rfl (lv_at hl 4 rfl) ?_
  refine lv_iload hx hb dL_law_886 (lv_at hl 0 rfl) ?_
  refine lv_iconst (v := 3) hx hb dL_law_888 (by decide) ?_
  refine lv_iadd hx hb dL_law_889 ?_
  refine lv_topi (fun z_5 ez_5 => ?_)
  obtain rfl : z_5 = 3 := ez_5.trans (by decide)
  refine va_sld hx hb hX hbl hbA hS (by unfold vp_in; decide) dL_law_890 ?_
  refine lv_topi (fun z_6 ez_6 => ?_)
  obtain rfl : z_6 = xs 3 := ez_6.trans (congrArg xs (by decide))
  refine lv_aload_n hx hb dL_law_891 rfl (lv_at hl 1 rfl) ?_
  refine ct_i (wr := [(mo, .inr (12, [.int 0, .ref m1, .int 0, .ref m3, .ref m4, .ref m5, .ref m6, .ref m7, .ref m8, .ref m9, .int 0, .ref m11, .ref m12, .ref m13, .ref m14, .ref m15, .ref m16, .ref m17, .ref m18, .ref m19, .int 0, .int 0, .int 0, .int 0, .ref m24, .int 0, .ref m26, .int 0, .ref m28, .ref m29, .ref m30, .ref m31, .ref m32, .ref m33, .ref m34, .ref m35, .ref m36, .int 0, .int 0, .int 0, .int 0, .int 0, .int (-1), .int 0, .ref m44, .ref m45, .ref m46, .ref m47, .ref m48, .int 0, .ref m50, .ref m51, .ref m52, .ref m53, .ref m54, .int 0, .int 0])), (m28, .inl (k28, 10, .inl (fun _ => 0)))]) (tyr := [(k28, .boolean)]) (vx_runSW (As := [.ref h, .int (xs 1), .int (xs 2), .int (xs 3), .ref ao]) (rest := []) ⟨hx, hb, hml, hown, hts⟩ (h_open l hl0 dC dI h aT aV aS aC aO aF aL aR aX sT sK sH (xs 1) (xs 2) (xs 3) ao cL (fun _ => 0) H.size ) (vx_cwSW 5 hts gL_law_L_open rfl rfl rfl (by decide +kernel) ⟨Nat.le_of_ble_eq_true rfl, Nat.le_of_ble_eq_true rfl⟩) (ct_pre hP hD hK hS hA hZ [0, 1, 2] [0] rfl (by decide) rfl) rfl rfl hl.1 rfl (lv_room (Nat.le_of_ble_eq_true rfl)) dL_law_892 ⟨Nat.le_of_ble_eq_true rfl, Nat.le_of_ble_eq_true rfl⟩) hP hD hK hS hA [0, 1, 2] [3, 4] [1] rfl rfl (by decide) (by decide) rfl (fun r_8 u H locs w_9 hP hD hK hS => ?_)
  obtain ⟨o_7, rfl⟩ : ∃ z, z = u := ⟨_, rfl⟩
  try dsimp only at w_9
  have hP : va_P (dC, dI) vwCl [(mo, .inr (12, [.int 0, .ref m1, .int 0, .ref m3, .ref m4, .ref m5, .ref m6, .ref m7, .ref m8, .ref m9, .int 0, .ref m11, .ref m12, .ref m13, .ref m14, .ref m15, .ref m16, .ref m17, .ref m18, .ref m19, .int 0, .int 0, .int 0, .int 0, .ref m24, .int 0, .ref m26, .int 0, .ref m28, .ref m29, .ref m30, .ref m31, .ref m32, .ref m33, .ref m34, .ref m35, .ref m36, .int 0, .int 0, .int 0, .int 0, .int 0, .int (-1), .int 0, .ref m44, .ref m45, .ref m46, .ref m47, .ref m48, .int 0, .ref m50, .ref m51, .ref m52, .ref m53, .ref m54, .int 0, .int 0])), (m28, .inl (k28, 10, .inl (fun _ => 0))), (ao, .inl (cL, 1, .inr (.inl o_7)))] H := hP
  have hD : va_D A [(mo, .inr (12, [.int 0, .ref m1, .int 0, .ref m3, .ref m4, .ref m5, .ref m6, .ref m7, .ref m8, .ref m9, .int 0, .ref m11, .ref m12, .ref m13, .ref m14, .ref m15, .ref m16, .ref m17, .ref m18, .ref m19, .int 0, .int 0, .int 0, .int 0, .ref m24, .int 0, .ref m26, .int 0, .ref m28, .ref m29, .ref m30, .ref m31, .ref m32, .ref m33, .ref m34, .ref m35, .ref m36, .int 0, .int 0, .int 0, .int 0, .int 0, .int (-1), .int 0, .ref m44, .ref m45, .ref m46, .ref m47, .ref m48, .int 0, .ref m50, .ref m51, .ref m52, .ref m53, .ref m54, .int 0, .int 0])), (m28, .inl (k28, 10, .inl (fun _ => 0))), (ao, .inl (cL, 1, .inr (.inl o_7)))] := hD
  have hK : va_K (dC, dI) vwCl [(k28, .boolean), (cL, .long)] s := hK
  refine W.widen (k := 1003) (n := 200018) (Nat.le_of_ble_eq_true rfl) (Nat.le_of_ble_eq_true rfl) ?_
  rcases w_9 with ⟨rfl, h_10⟩ | ⟨rfl, h_10⟩
  · skip
    refine lv_istore (lv' := [(5, .int 1), (4, .int 0), (3, .ref ao), (2, .ref mo), (1, .ref h), (0, .ref b)]) hx hb dL_law_895 hl (by decide) rfl (fun ls hl => ?_)
    refine lv_aload_n hx hb dL_law_897 rfl (lv_at hl 3 rfl) ?_
    refine lv_aload_n hx hb dL_law_898 rfl (lv_at hl 5 rfl) ?_
    refine lv_iload hx hb dL_law_899 (lv_at hl 1 rfl) ?_
    refine lv_iconst (v := 1) hx hb dL_law_901 (by decide) ?_
    refine lv_iadd hx hb dL_law_902 ?_
    refine lv_topi (fun z_11 ez_11 => ?_)
    obtain rfl : z_11 = 1 := ez_11.trans (by decide)
    refine va_sld hx hb hX hbl hbA hS (by unfold vp_in; decide) dL_law_903 ?_
    refine lv_topi (fun z_12 ez_12 => ?_)
    obtain rfl : z_12 = xs 1 := ez_12.trans (congrArg xs (by decide))
    refine lv_aload_n hx hb dL_law_904 rfl (lv_at hl 5 rfl) ?_
    refine lv_iload hx hb dL_law_905 (lv_at hl 1 rfl) ?_
    refine lv_iconst (v := 2) hx hb dL_law_907 (by decide) ?_
    refine lv_iadd hx hb dL_law_908 ?_
    refine lv_topi (fun z_13 ez_13 => ?_)
    obtain rfl : z_13 = 2 := ez_13.trans (by decide)
    refine va_sld hx hb hX hbl hbA hS (by unfold vp_in; decide) dL_law_909 ?_
    refine lv_topi (fun z_14 ez_14 => ?_)
    obtain rfl : z_14 = xs 2 := ez_14.trans (congrArg xs (by decide))
    refine lv_aload_n hx hb dL_law_910 rfl (lv_at hl 5 rfl) ?_
    refine lv_iload hx hb dL_law_911 (lv_at hl 1 rfl) ?_
    refine lv_iconst (v := 3) hx hb dL_law_913 (by decide) ?_
    refine lv_iadd hx hb dL_law_914 ?_
    refine lv_topi (fun z_15 ez_15 => ?_)
    obtain rfl : z_15 = 3 := ez_15.trans (by decide)
    refine va_sld hx hb hX hbl hbA hS (by unfold vp_in; decide) dL_law_915 ?_
    refine lv_topi (fun z_16 ez_16 => ?_)
    obtain rfl : z_16 = xs 3 := ez_16.trans (congrArg xs (by decide))
    refine ct_i (wr := [(ao, .inl (cL, 1, .inr (.inl o_7)))]) (tyr := [(cL, .long)]) (va_runV (As := [.int (xs 1), .int (xs 2), .int (xs 3)]) (rest := []) ⟨hx, hb, hml, hown, hts⟩ (m_open l hl0 dC dI mo m1 m3 m4 m5 m6 m7 m8 m9 m11 m12 m13 m14 m15 m16 m17 m18 m19 m24 m26 m28 m29 m30 m31 m32 m33 m34 m35 m36 m44 m45 m46 m47 m48 m50 m51 m52 m53 m54 k28 (xs 1) (xs 2) (xs 3) H.size ) (cwV 3 hts gL_law_X12_open rfl rfl rfl (by decide +kernel) ⟨Nat.le_of_ble_eq_true rfl, Nat.le_of_ble_eq_true rfl⟩) (ct_preV (ci := 12) (q0 := 0) hP hD hK hS hA hZ rfl rfl [0, 1] [0] rfl (by decide) rfl) rfl rfl hl.1 rfl (lv_room (Nat.le_of_ble_eq_true rfl)) dL_law_916 ⟨Nat.le_of_ble_eq_true rfl, Nat.le_of_ble_eq_true rfl⟩) hP hD hK hS hA [0, 1] [2] [1] rfl rfl (by decide) (by decide) rfl (fun r_18 u H locs w_19 hP hD hK hS => ?_)
    obtain ⟨o_17, rfl⟩ : ∃ z, z = u := ⟨_, rfl⟩
    try dsimp only at w_19
    have hP : va_P (dC, dI) vwCl [(ao, .inl (cL, 1, .inr (.inl o_7))), (mo, .inr (12, [.int o_17, .ref m1, .int 0, .ref m3, .ref m4, .ref m5, .ref m6, .ref m7, .ref m8, .ref m9, .int 0, .ref m11, .ref m12, .ref m13, .ref m14, .ref m15, .ref m16, .ref m17, .ref m18, .ref m19, .int 0, .int 0, .int 0, .int 0, .ref m24, .int 0, .ref m26, .int 0, .ref m28, .ref m29, .ref m30, .ref m31, .ref m32, .ref m33, .ref m34, .ref m35, .ref m36, .int 0, .int 0, .int 0, .int 0, .int 0, .int (-1), .int 0, .ref m44, .ref m45, .ref m46, .ref m47, .ref m48, .int 0, .ref m50, .ref m51, .ref m52, .ref m53, .ref m54, .int 0, .int 0]))] H := hP
    have hD : va_D A [(ao, .inl (cL, 1, .inr (.inl o_7))), (mo, .inr (12, [.int o_17, .ref m1, .int 0, .ref m3, .ref m4, .ref m5, .ref m6, .ref m7, .ref m8, .ref m9, .int 0, .ref m11, .ref m12, .ref m13, .ref m14, .ref m15, .ref m16, .ref m17, .ref m18, .ref m19, .int 0, .int 0, .int 0, .int 0, .ref m24, .int 0, .ref m26, .int 0, .ref m28, .ref m29, .ref m30, .ref m31, .ref m32, .ref m33, .ref m34, .ref m35, .ref m36, .int 0, .int 0, .int 0, .int 0, .int 0, .int (-1), .int 0, .ref m44, .ref m45, .ref m46, .ref m47, .ref m48, .int 0, .ref m50, .ref m51, .ref m52, .ref m53, .ref m54, .int 0, .int 0]))] := hD
    have hK : va_K (dC, dI) vwCl [(cL, .long)] s := hK
    rcases w_19 with ⟨rfl, q_20⟩ | ⟨rfl, q_20⟩
    · skip
      refine lv_istore (lv' := [(6, .int r_18), (5, .int 1), (4, .int 0), (3, .ref ao), (2, .ref mo), (1, .ref h), (0, .ref b)]) hx hb dL_law_919 hl (by decide) rfl (fun ls hl => ?_)
      refine lv_aload_n hx hb dL_law_921 rfl (lv_at hl 4 rfl) ?_
      refine ct_i (wr := [(ao, .inl (cL, 1, .inr (.inl o_7)))]) (tyr := [(cL, .long)]) (va_runV (As := []) (rest := []) ⟨hx, hb, hml, hown, hts⟩ (m_thrown l hl0 dC dI mo m1 m3 m4 m5 m6 m7 m8 m9 m11 m12 m13 m14 m15 m16 m17 m18 m19 m24 m26 m28 m29 m30 m31 m32 m33 m34 m35 m36 m44 m45 m46 m47 m48 m50 m51 m52 m53 m54 1 0 0 0 0 0 0 (-1) 0 H.size ) (cwV 0 hts gL_law_X12_thrown rfl rfl rfl (by decide +kernel) ⟨Nat.le_of_ble_eq_true rfl, Nat.le_of_ble_eq_true rfl⟩) (ct_preV (ci := 12) (q0 := 1) hP hD hK hS hA hZ rfl rfl [1] [] rfl (by decide) rfl) rfl rfl hl.1 rfl (lv_room (Nat.le_of_ble_eq_true rfl)) dL_law_922 ⟨Nat.le_of_ble_eq_true rfl, Nat.le_of_ble_eq_true rfl⟩) hP hD hK hS hA [1] [0] [0] rfl rfl (by decide) (by decide) rfl (fun r_21 u H locs w_22 hP hD hK hS => ?_)
      try dsimp only at w_22
      have hP : va_P (dC, dI) vwCl [(ao, .inl (cL, 1, .inr (.inl o_7)))] H := hP
      have hD : va_D A [(ao, .inl (cL, 1, .inr (.inl o_7)))] := hD
      have hK : va_K (dC, dI) vwCl [(cL, .long)] s := hK
      obtain rfl : r_21 = 1 := w_22
      refine lv_iload hx hb dL_law_925 (lv_at hl 1 rfl) ?_
      refine lv_icmp_eq (tgt := 932) hx hb dL_law_927 (by decide) (fun _ => ?_) (fun c_23 => absurd c_23 (by decide))
      refine lv_iload hx hb dL_law_932 (lv_at hl 1 rfl) ?_
      refine lv_if_ne (tgt := 949) hx hb dL_law_934 (by decide) (fun _ => ?_) (fun c_24 => absurd c_24 (by decide))
      refine lv_goto (tgt := 1620) hx hb dL_law_949 (by decide) ?_
      refine W.widen (k := 2000) (n := 300000) (Nat.le_of_ble_eq_true rfl) (Nat.le_of_ble_eq_true rfl) ?_
      exact K _ _ _ hS (lv_sub hl [2, 6] rfl)
    · skip
      exact absurd h_10 q_20
  · skip
    refine lv_istore (lv' := [(5, .int 2), (4, .int 0), (3, .ref ao), (2, .ref mo), (1, .ref h), (0, .ref b)]) hx hb dL_law_895 hl (by decide) rfl (fun ls hl => ?_)
    refine lv_aload_n hx hb dL_law_897 rfl (lv_at hl 3 rfl) ?_
    refine lv_aload_n hx hb dL_law_898 rfl (lv_at hl 5 rfl) ?_
    refine lv_iload hx hb dL_law_899 (lv_at hl 1 rfl) ?_
    refine lv_iconst (v := 1) hx hb dL_law_901 (by decide) ?_
    refine lv_iadd hx hb dL_law_902 ?_
    refine lv_topi (fun z_25 ez_25 => ?_)
    obtain rfl : z_25 = 1 := ez_25.trans (by decide)
    refine va_sld hx hb hX hbl hbA hS (by unfold vp_in; decide) dL_law_903 ?_
    refine lv_topi (fun z_26 ez_26 => ?_)
    obtain rfl : z_26 = xs 1 := ez_26.trans (congrArg xs (by decide))
    refine lv_aload_n hx hb dL_law_904 rfl (lv_at hl 5 rfl) ?_
    refine lv_iload hx hb dL_law_905 (lv_at hl 1 rfl) ?_
    refine lv_iconst (v := 2) hx hb dL_law_907 (by decide) ?_
    refine lv_iadd hx hb dL_law_908 ?_
    refine lv_topi (fun z_27 ez_27 => ?_)
    obtain rfl : z_27 = 2 := ez_27.trans (by decide)
    refine va_sld hx hb hX hbl hbA hS (by unfold vp_in; decide) dL_law_909 ?_
    refine lv_topi (fun z_28 ez_28 => ?_)
    obtain rfl : z_28 = xs 2 := ez_28.trans (congrArg xs (by decide))
    refine lv_aload_n hx hb dL_law_910 rfl (lv_at hl 5 rfl) ?_
    refine lv_iload hx hb dL_law_911 (lv_at hl 1 rfl) ?_
    refine lv_iconst (v := 3) hx hb dL_law_913 (by decide) ?_
    refine lv_iadd hx hb dL_law_914 ?_
    refine lv_topi (fun z_29 ez_29 => ?_)
    obtain rfl : z_29 = 3 := ez_29.trans (by decide)
    refine va_sld hx hb hX hbl hbA hS (by unfold vp_in; decide) dL_law_915 ?_
    refine lv_topi (fun z_30 ez_30 => ?_)
    obtain rfl : z_30 = xs 3 := ez_30.trans (congrArg xs (by decide))
    refine ct_i (wr := [(ao, .inl (cL, 1, .inr (.inl o_7)))]) (tyr := [(cL, .long)]) (va_runV (As := [.int (xs 1), .int (xs 2), .int (xs 3)]) (rest := []) ⟨hx, hb, hml, hown, hts⟩ (m_open l hl0 dC dI mo m1 m3 m4 m5 m6 m7 m8 m9 m11 m12 m13 m14 m15 m16 m17 m18 m19 m24 m26 m28 m29 m30 m31 m32 m33 m34 m35 m36 m44 m45 m46 m47 m48 m50 m51 m52 m53 m54 k28 (xs 1) (xs 2) (xs 3) H.size ) (cwV 3 hts gL_law_X12_open rfl rfl rfl (by decide +kernel) ⟨Nat.le_of_ble_eq_true rfl, Nat.le_of_ble_eq_true rfl⟩) (ct_preV (ci := 12) (q0 := 0) hP hD hK hS hA hZ rfl rfl [0, 1] [0] rfl (by decide) rfl) rfl rfl hl.1 rfl (lv_room (Nat.le_of_ble_eq_true rfl)) dL_law_916 ⟨Nat.le_of_ble_eq_true rfl, Nat.le_of_ble_eq_true rfl⟩) hP hD hK hS hA [0, 1] [2] [1] rfl rfl (by decide) (by decide) rfl (fun r_32 u H locs w_33 hP hD hK hS => ?_)
    obtain ⟨o_31, rfl⟩ : ∃ z, z = u := ⟨_, rfl⟩
    try dsimp only at w_33
    have hP : va_P (dC, dI) vwCl [(ao, .inl (cL, 1, .inr (.inl o_7))), (mo, .inr (12, [.int o_31, .ref m1, .int 0, .ref m3, .ref m4, .ref m5, .ref m6, .ref m7, .ref m8, .ref m9, .int 0, .ref m11, .ref m12, .ref m13, .ref m14, .ref m15, .ref m16, .ref m17, .ref m18, .ref m19, .int 0, .int 0, .int 0, .int 0, .ref m24, .int 0, .ref m26, .int 0, .ref m28, .ref m29, .ref m30, .ref m31, .ref m32, .ref m33, .ref m34, .ref m35, .ref m36, .int 0, .int 0, .int 0, .int 0, .int 0, .int (-1), .int 0, .ref m44, .ref m45, .ref m46, .ref m47, .ref m48, .int 0, .ref m50, .ref m51, .ref m52, .ref m53, .ref m54, .int 0, .int 0]))] H := hP
    have hD : va_D A [(ao, .inl (cL, 1, .inr (.inl o_7))), (mo, .inr (12, [.int o_31, .ref m1, .int 0, .ref m3, .ref m4, .ref m5, .ref m6, .ref m7, .ref m8, .ref m9, .int 0, .ref m11, .ref m12, .ref m13, .ref m14, .ref m15, .ref m16, .ref m17, .ref m18, .ref m19, .int 0, .int 0, .int 0, .int 0, .ref m24, .int 0, .ref m26, .int 0, .ref m28, .ref m29, .ref m30, .ref m31, .ref m32, .ref m33, .ref m34, .ref m35, .ref m36, .int 0, .int 0, .int 0, .int 0, .int 0, .int (-1), .int 0, .ref m44, .ref m45, .ref m46, .ref m47, .ref m48, .int 0, .ref m50, .ref m51, .ref m52, .ref m53, .ref m54, .int 0, .int 0]))] := hD
    have hK : va_K (dC, dI) vwCl [(cL, .long)] s := hK
    rcases w_33 with ⟨rfl, q_34⟩ | ⟨rfl, q_34⟩
    · skip
      exact absurd q_34 h_10
    · skip
      refine lv_istore (lv' := [(6, .int r_32), (5, .int 2), (4, .int 0), (3, .ref ao), (2, .ref mo), (1, .ref h), (0, .ref b)]) hx hb dL_law_919 hl (by decide) rfl (fun ls hl => ?_)
      refine lv_aload_n hx hb dL_law_921 rfl (lv_at hl 4 rfl) ?_
      refine ct_i (wr := [(ao, .inl (cL, 1, .inr (.inl o_7)))]) (tyr := [(cL, .long)]) (va_runV (As := []) (rest := []) ⟨hx, hb, hml, hown, hts⟩ (m_thrown l hl0 dC dI mo m1 m3 m4 m5 m6 m7 m8 m9 m11 m12 m13 m14 m15 m16 m17 m18 m19 m24 m26 m28 m29 m30 m31 m32 m33 m34 m35 m36 m44 m45 m46 m47 m48 m50 m51 m52 m53 m54 2 0 0 0 0 0 0 (-1) 0 H.size ) (cwV 0 hts gL_law_X12_thrown rfl rfl rfl (by decide +kernel) ⟨Nat.le_of_ble_eq_true rfl, Nat.le_of_ble_eq_true rfl⟩) (ct_preV (ci := 12) (q0 := 1) hP hD hK hS hA hZ rfl rfl [1] [] rfl (by decide) rfl) rfl rfl hl.1 rfl (lv_room (Nat.le_of_ble_eq_true rfl)) dL_law_922 ⟨Nat.le_of_ble_eq_true rfl, Nat.le_of_ble_eq_true rfl⟩) hP hD hK hS hA [1] [0] [0] rfl rfl (by decide) (by decide) rfl (fun r_35 u H locs w_36 hP hD hK hS => ?_)
      try dsimp only at w_36
      have hP : va_P (dC, dI) vwCl [(ao, .inl (cL, 1, .inr (.inl o_7)))] H := hP
      have hD : va_D A [(ao, .inl (cL, 1, .inr (.inl o_7)))] := hD
      have hK : va_K (dC, dI) vwCl [(cL, .long)] s := hK
      obtain rfl : r_35 = 2 := w_36
      refine lv_iload hx hb dL_law_925 (lv_at hl 1 rfl) ?_
      refine lv_icmp_eq (tgt := 932) hx hb dL_law_927 (by decide) (fun _ => ?_) (fun c_37 => absurd c_37 (by decide))
      refine lv_iload hx hb dL_law_932 (lv_at hl 1 rfl) ?_
      refine lv_if_ne (tgt := 949) hx hb dL_law_934 (by decide) (fun _ => ?_) (fun c_38 => absurd c_38 (by decide))
      refine lv_goto (tgt := 1620) hx hb dL_law_949 (by decide) ?_
      refine W.widen (k := 2000) (n := 300000) (Nat.le_of_ble_eq_true rfl) (Nat.le_of_ble_eq_true rfl) ?_
      exact K _ _ _ hS (lv_sub hl [2, 6] rfl)

set_option maxHeartbeats 4000000 in
set_option maxRecDepth 100000 in
/-- the law at mark -/
theorem law_mark {p : Program} {l : Launch} {e : Env} {s : State} {m : MethodId} {below : List Frame} {meth : Method} {c : Code} {Q : State → Prop} {b : Nat} {xs : Nat → Int32} {A : Nat → Prop} {H : Heap} {locs : List Loc} {ls : Array Slot} (hl0 : l.stackTraces = false) (dC : Nat → ClassId) (dI : Nat → Nat → Nat) (h : Nat) (aT : Nat) (aV : Nat) (aS : Nat) (aC : Nat) (aO : Nat) (aF : Nat) (aL : Nat) (aR : Nat) (aX : Nat) (sT : Nat) (sK : Nat) (sH : Nat) (hF : Nat) (hW : Nat) (hM : Nat) (cM : ClassId) (ao : Nat) (cL : ClassId) (mo : Nat) (m1 : Nat) (m3 : Nat) (m4 : Nat) (m5 : Nat) (m6 : Nat) (m7 : Nat) (m8 : Nat) (m9 : Nat) (m11 : Nat) (m12 : Nat) (m13 : Nat) (m14 : Nat) (m15 : Nat) (m16 : Nat) (m17 : Nat) (m18 : Nat) (m19 : Nat) (m24 : Nat) (m26 : Nat) (m28 : Nat) (m29 : Nat) (m30 : Nat) (m31 : Nat) (m32 : Nat) (m33 : Nat) (m34 : Nat) (m35 : Nat) (m36 : Nat) (m44 : Nat) (m45 : Nat) (m46 : Nat) (m47 : Nat) (m48 : Nat) (m50 : Nat) (m51 : Nat) (m52 : Nat) (m53 : Nat) (m54 : Nat) (k26 : ClassId) (hx : p.tables.exec = Jvm.exec) (hb : c.code = cL_law) (hml : c.maxLocals = 7) (hown : s.vm.findClass RL = some m.cls) (hts : ∀ w ∈ wsL_law, w.before #[Value.ref b] s = true) (hX : va_X b 6 xs s s.heap) (hbl : b < s.heap.size) (hbA : ¬ A b) (hA : ∀ q : Nat, s.heap.size ≤ q → A q) (hZ : tx_St A s) (hl : lv_has ls 7 [(4, .int 0), (3, .ref ao), (2, .ref mo), (1, .ref h), (0, .ref b)]) (hP : va_P (dC, dI) vwCl [(h, .inr (11, [.ref aT, .ref aV, .ref aS, .ref aC, .ref aO, .ref aF, .ref aL, .ref aR, .ref aX, .int 0, .int 0, .int 0])), (aS, .inr (9, [.ref sT, .ref sK, .ref sH, .int 0, .int 0, .int 0, .int 0, .int 0])), (sH, .inr (3, [.ref hF, .ref hW, .ref hM, .int 0, .int 0])), (hM, .inl (cM, 8, .inl (fun _ => 0))), (ao, .inl (cL, 1, .inr (.inl (fun _ => 0)))), (mo, .inr (12, [.int 0, .ref m1, .int 0, .ref m3, .ref m4, .ref m5, .ref m6, .ref m7, .ref m8, .ref m9, .int 0, .ref m11, .ref m12, .ref m13, .ref m14, .ref m15, .ref m16, .ref m17, .ref m18, .ref m19, .int 0, .int 0, .int 0, .int 0, .ref m24, .int 0, .ref m26, .int 0, .ref m28, .ref m29, .ref m30, .ref m31, .ref m32, .ref m33, .ref m34, .ref m35, .ref m36, .int 0, .int 0, .int 0, .int 0, .int 0, .int (-1), .int 0, .ref m44, .ref m45, .ref m46, .ref m47, .ref m48, .int 0, .ref m50, .ref m51, .ref m52, .ref m53, .ref m54, .int 0, .int 0])), (m26, .inl (k26, 8, .inl (fun _ => 0)))] H) (hD : va_D A [(h, .inr (11, [.ref aT, .ref aV, .ref aS, .ref aC, .ref aO, .ref aF, .ref aL, .ref aR, .ref aX, .int 0, .int 0, .int 0])), (aS, .inr (9, [.ref sT, .ref sK, .ref sH, .int 0, .int 0, .int 0, .int 0, .int 0])), (sH, .inr (3, [.ref hF, .ref hW, .ref hM, .int 0, .int 0])), (hM, .inl (cM, 8, .inl (fun _ => 0))), (ao, .inl (cL, 1, .inr (.inl (fun _ => 0)))), (mo, .inr (12, [.int 0, .ref m1, .int 0, .ref m3, .ref m4, .ref m5, .ref m6, .ref m7, .ref m8, .ref m9, .int 0, .ref m11, .ref m12, .ref m13, .ref m14, .ref m15, .ref m16, .ref m17, .ref m18, .ref m19, .int 0, .int 0, .int 0, .int 0, .ref m24, .int 0, .ref m26, .int 0, .ref m28, .ref m29, .ref m30, .ref m31, .ref m32, .ref m33, .ref m34, .ref m35, .ref m36, .int 0, .int 0, .int 0, .int 0, .int 0, .int (-1), .int 0, .ref m44, .ref m45, .ref m46, .ref m47, .ref m48, .int 0, .ref m50, .ref m51, .ref m52, .ref m53, .ref m54, .int 0, .int 0])), (m26, .inl (k26, 8, .inl (fun _ => 0)))]) (hK : va_K (dC, dI) vwCl [(cM, .int), (cL, .long), (k26, .int)] s) (hS : va_S A s.heap H locs)
    (K : ∀ (H : Heap) (locs : List Loc) (ls : Array Slot), va_S A s.heap H locs → lv_has ls 7 [(4, .int 0), (0, .ref b)] → W p l e room_1 s m #[Value.ref b] below meth c H locs 2000 300000 Q (F0 m 1620 ls [])) : W p l e room_1 s m #[Value.ref b] below meth c H locs 1000 200000 Q (F0 m 1132 ls []) := by
  refine lv_aload_n hx hb dL_law_1132 rfl (lv_at hl 3 rfl) ?_
  refine lv_aload_n hx hb dL_law_1133 rfl (lv_at hl 1 rfl) ?_
  refine ct_i (wr := [(mo, .inr (12, [.int 0, .ref m1, .int 0, .ref m3, .ref m4, .ref m5, .ref m6, .ref m7, .ref m8, .ref m9, .int 0, .ref m11, .ref m12, .ref m13, .ref m14, .ref m15, .ref m16, .ref m17, .ref m18, .ref m19, .int 0, .int 0, .int 0, .int 0, .ref m24, .int 0, .ref m26, .int 0, .ref m28, .ref m29, .ref m30, .ref m31, .ref m32, .ref m33, .ref m34, .ref m35, .ref m36, .int 0, .int 0, .int 0, .int 0, .int 0, .int (-1), .int 0, .ref m44, .ref m45, .ref m46, .ref m47, .ref m48, .int 0, .ref m50, .ref m51, .ref m52, .ref m53, .ref m54, .int 0, .int 0])), (m26, .inl (k26, 8, .inl (fun _ => 0)))]) (tyr := [(k26, .int)]) (vx_runSW (As := [.ref h, .ref ao]) (rest := []) ⟨hx, hb, hml, hown, hts⟩ (h_mark l hl0 dC dI h aT aV aS aC aO aF aL aR aX sT sK sH hF hW hM cM ao cL (fun _ => 0) H.size ) (vx_cwSW 2 hts gL_law_L_mark rfl rfl rfl (by decide +kernel) ⟨Nat.le_of_ble_eq_true rfl, Nat.le_of_ble_eq_true rfl⟩) (ct_pre hP hD hK hS hA hZ [0, 1, 2, 3, 4] [0, 1] rfl (by decide) rfl) rfl rfl hl.1 rfl (lv_room (Nat.le_of_ble_eq_true rfl)) dL_law_1134 ⟨Nat.le_of_ble_eq_true rfl, Nat.le_of_ble_eq_true rfl⟩) hP hD hK hS hA [0, 1, 2, 3, 4] [5, 6] [2] rfl rfl (by decide) (by decide) rfl (fun r_2 u H locs w_3 hP hD hK hS => ?_)
  obtain ⟨o_1, rfl⟩ : ∃ z, z = u := ⟨_, rfl⟩
  try dsimp only at w_3
  have hP : va_P (dC, dI) vwCl [(mo, .inr (12, [.int 0, .ref m1, .int 0, .ref m3, .ref m4, .ref m5, .ref m6, .ref m7, .ref m8, .ref m9, .int 0, .ref m11, .ref m12, .ref m13, .ref m14, .ref m15, .ref m16, .ref m17, .ref m18, .ref m19, .int 0, .int 0, .int 0, .int 0, .ref m24, .int 0, .ref m26, .int 0, .ref m28, .ref m29, .ref m30, .ref m31, .ref m32, .ref m33, .ref m34, .ref m35, .ref m36, .int 0, .int 0, .int 0, .int 0, .int 0, .int (-1), .int 0, .ref m44, .ref m45, .ref m46, .ref m47, .ref m48, .int 0, .ref m50, .ref m51, .ref m52, .ref m53, .ref m54, .int 0, .int 0])), (m26, .inl (k26, 8, .inl (fun _ => 0))), (ao, .inl (cL, 1, .inr (.inl o_1)))] H := hP
  have hD : va_D A [(mo, .inr (12, [.int 0, .ref m1, .int 0, .ref m3, .ref m4, .ref m5, .ref m6, .ref m7, .ref m8, .ref m9, .int 0, .ref m11, .ref m12, .ref m13, .ref m14, .ref m15, .ref m16, .ref m17, .ref m18, .ref m19, .int 0, .int 0, .int 0, .int 0, .ref m24, .int 0, .ref m26, .int 0, .ref m28, .ref m29, .ref m30, .ref m31, .ref m32, .ref m33, .ref m34, .ref m35, .ref m36, .int 0, .int 0, .int 0, .int 0, .int 0, .int (-1), .int 0, .ref m44, .ref m45, .ref m46, .ref m47, .ref m48, .int 0, .ref m50, .ref m51, .ref m52, .ref m53, .ref m54, .int 0, .int 0])), (m26, .inl (k26, 8, .inl (fun _ => 0))), (ao, .inl (cL, 1, .inr (.inl o_1)))] := hD
  have hK : va_K (dC, dI) vwCl [(k26, .int), (cL, .long)] s := hK
  obtain rfl : r_2 = 0 := w_3.1
  refine lv_istore (lv' := [(5, .int 0), (4, .int 0), (3, .ref ao), (2, .ref mo), (1, .ref h), (0, .ref b)]) hx hb dL_law_1137 hl (by decide) rfl (fun ls hl => ?_)
  refine lv_aload_n hx hb dL_law_1139 rfl (lv_at hl 3 rfl) ?_
  refine ct_i (wr := [(ao, .inl (cL, 1, .inr (.inl o_1)))]) (tyr := [(cL, .long)]) (va_runV (As := []) (rest := []) ⟨hx, hb, hml, hown, hts⟩ (m_mark l hl0 dC dI mo m1 m3 m4 m5 m6 m7 m8 m9 m11 m12 m13 m14 m15 m16 m17 m18 m19 m24 m26 m28 m29 m30 m31 m32 m33 m34 m35 m36 m44 m45 m46 m47 m48 m50 m51 m52 m53 m54 k26 H.size ) (cwV 0 hts gL_law_X12_mark rfl rfl rfl (by decide +kernel) ⟨Nat.le_of_ble_eq_true rfl, Nat.le_of_ble_eq_true rfl⟩) (ct_preV (ci := 12) (q0 := 0) hP hD hK hS hA hZ rfl rfl [0, 1] [0] rfl (by decide) rfl) rfl rfl hl.1 rfl (lv_room (Nat.le_of_ble_eq_true rfl)) dL_law_1140 ⟨Nat.le_of_ble_eq_true rfl, Nat.le_of_ble_eq_true rfl⟩) hP hD hK hS hA [0, 1] [2] [1] rfl rfl (by decide) (by decide) rfl (fun r_6 u H locs w_7 hP hD hK hS => ?_)
  obtain ⟨o_4, o_5⟩ := u
  try dsimp only at w_7
  have hP : va_P (dC, dI) vwCl [(ao, .inl (cL, 1, .inr (.inl o_1))), (mo, .inr (12, [.int o_4, .ref m1, .int 0, .ref m3, .ref m4, .ref m5, .ref m6, .ref m7, .ref m8, .ref m9, .int 0, .ref m11, .ref m12, .ref m13, .ref m14, .ref m15, .ref m16, .ref m17, .ref m18, .ref m19, .int 0, .int 0, .int 0, .int 0, .ref m24, .int 0, .ref m26, .int o_5, .ref m28, .ref m29, .ref m30, .ref m31, .ref m32, .ref m33, .ref m34, .ref m35, .ref m36, .int 0, .int 0, .int 0, .int 0, .int 0, .int (-1), .int 0, .ref m44, .ref m45, .ref m46, .ref m47, .ref m48, .int 0, .ref m50, .ref m51, .ref m52, .ref m53, .ref m54, .int 0, .int 0]))] H := hP
  have hD : va_D A [(ao, .inl (cL, 1, .inr (.inl o_1))), (mo, .inr (12, [.int o_4, .ref m1, .int 0, .ref m3, .ref m4, .ref m5, .ref m6, .ref m7, .ref m8, .ref m9, .int 0, .ref m11, .ref m12, .ref m13, .ref m14, .ref m15, .ref m16, .ref m17, .ref m18, .ref m19, .int 0, .int 0, .int 0, .int 0, .ref m24, .int 0, .ref m26, .int o_5, .ref m28, .ref m29, .ref m30, .ref m31, .ref m32, .ref m33, .ref m34, .ref m35, .ref m36, .int 0, .int 0, .int 0, .int 0, .int 0, .int (-1), .int 0, .ref m44, .ref m45, .ref m46, .ref m47, .ref m48, .int 0, .ref m50, .ref m51, .ref m52, .ref m53, .ref m54, .int 0, .int 0]))] := hD
  have hK : va_K (dC, dI) vwCl [(cL, .long)] s := hK
  obtain rfl : r_6 = 1 := w_7.1
  obtain rfl : o_4 = 0 := w_7.2
  refine lv_istore (lv' := [(6, .int 1), (5, .int 0), (4, .int 0), (3, .ref ao), (2, .ref mo), (1, .ref h), (0, .ref b)]) hx hb dL_law_1143 hl (by decide) rfl (fun ls hl => ?_)
  refine lv_aload_n hx hb dL_law_1145 rfl (lv_at hl 4 rfl) ?_
  refine ct_i (wr := [(ao, .inl (cL, 1, .inr (.inl o_1)))]) (tyr := [(cL, .long)]) (va_runV (As := []) (rest := []) ⟨hx, hb, hml, hown, hts⟩ (m_thrown l hl0 dC dI mo m1 m3 m4 m5 m6 m7 m8 m9 m11 m12 m13 m14 m15 m16 m17 m18 m19 m24 m26 m28 m29 m30 m31 m32 m33 m34 m35 m36 m44 m45 m46 m47 m48 m50 m51 m52 m53 m54 0 0 0 0 o_5 0 0 (-1) 0 H.size ) (cwV 0 hts gL_law_X12_thrown rfl rfl rfl (by decide +kernel) ⟨Nat.le_of_ble_eq_true rfl, Nat.le_of_ble_eq_true rfl⟩) (ct_preV (ci := 12) (q0 := 1) hP hD hK hS hA hZ rfl rfl [1] [] rfl (by decide) rfl) rfl rfl hl.1 rfl (lv_room (Nat.le_of_ble_eq_true rfl)) dL_law_1146 ⟨Nat.le_of_ble_eq_true rfl, Nat.le_of_ble_eq_true rfl⟩) hP hD hK hS hA [1] [0] [0] rfl rfl (by decide) (by decide) rfl (fun r_8 u H locs w_9 hP hD hK hS => ?_)
  try dsimp only at w_9
  have hP : va_P (dC, dI) vwCl [(ao, .inl (cL, 1, .inr (.inl o_1)))] H := hP
  have hD : va_D A [(ao, .inl (cL, 1, .inr (.inl o_1)))] := hD
  have hK : va_K (dC, dI) vwCl [(cL, .long)] s := hK
  obtain rfl : r_8 = 0 := w_9
  refine lv_iload hx hb dL_law_1149 (lv_at hl 1 rfl) ?_
  refine lv_icmp_eq (tgt := 1156) hx hb dL_law_1151 (by decide) (fun _ => ?_) (fun c_10 => absurd c_10 (by decide))
  refine lv_iload hx hb dL_law_1156 (lv_at hl 1 rfl) ?_
  refine lv_if_ne (tgt := 1173) hx hb dL_law_1158 (by decide) (fun c_11 => absurd c_11 (by decide)) (fun _ => ?_)
  refine lv_aload_n hx hb dL_law_1161 rfl (lv_at hl 3 rfl) ?_
  refine lv_iconst (v := 0) hx hb dL_law_1162 (by decide) ?_
  refine va_lald hx hb hK hP 0 0 rfl rfl (by unfold vp_in; decide) dL_law_1163 ?_
  refine lv_topl (fun y_12 ey_12 => ?_)
  obtain rfl : y_12 = (1 : Int32).toInt64 := ey_12.trans ((congrArg o_1 (by decide : (0 : Int32).toNatClampNeg = 0)).trans w_3.2)
  refine lv_iload hx hb dL_law_1164 (lv_at hl 0 rfl) ?_
  refine lv_i2l (v := (1 : Int32).toInt64) hx hb dL_law_1166 rfl ?_
  refine tx_lcmpE hx hb dL_law_1167 ?_
  refine lv_if_eq (tgt := 1173) hx hb dL_law_1168 (by decide) (fun _ => ?_) (fun c_13 => absurd c_13 (by decide))
  refine lv_goto (tgt := 1620) hx hb dL_law_1173 (by decide) ?_
  refine W.widen (k := 2000) (n := 300000) (Nat.le_of_ble_eq_true rfl) (Nat.le_of_ble_eq_true rfl) ?_
  exact K _ _ _ hS (lv_sub hl [2, 6] rfl)

set_option maxHeartbeats 4000000 in
set_option maxRecDepth 100000 in
/-- the law at found -/
theorem law_found {p : Program} {l : Launch} {e : Env} {s : State} {m : MethodId} {below : List Frame} {meth : Method} {c : Code} {Q : State → Prop} {b : Nat} {xs : Nat → Int32} {A : Nat → Prop} {H : Heap} {locs : List Loc} {ls : Array Slot} (hl0 : l.stackTraces = false) (dC : Nat → ClassId) (dI : Nat → Nat → Nat) (h : Nat) (aT : Nat) (aV : Nat) (aS : Nat) (aC : Nat) (aO : Nat) (aF : Nat) (aL : Nat) (aR : Nat) (aX : Nat) (ao : Nat) (cL : ClassId) (mo : Nat) (m1 : Nat) (m3 : Nat) (m4 : Nat) (m5 : Nat) (m6 : Nat) (m7 : Nat) (m8 : Nat) (m9 : Nat) (m11 : Nat) (m12 : Nat) (m13 : Nat) (m14 : Nat) (m15 : Nat) (m16 : Nat) (m17 : Nat) (m18 : Nat) (m19 : Nat) (m24 : Nat) (m26 : Nat) (m28 : Nat) (m29 : Nat) (m30 : Nat) (m31 : Nat) (m32 : Nat) (m33 : Nat) (m34 : Nat) (m35 : Nat) (m36 : Nat) (m44 : Nat) (m45 : Nat) (m46 : Nat) (m47 : Nat) (m48 : Nat) (m50 : Nat) (m51 : Nat) (m52 : Nat) (m53 : Nat) (m54 : Nat) (hx : p.tables.exec = Jvm.exec) (hb : c.code = cL_law) (hml : c.maxLocals = 7) (hown : s.vm.findClass RL = some m.cls) (hts : ∀ w ∈ wsL_law, w.before #[Value.ref b] s = true) (hX : va_X b 6 xs s s.heap) (hbl : b < s.heap.size) (hbA : ¬ A b) (hA : ∀ q : Nat, s.heap.size ≤ q → A q) (hZ : tx_St A s) (hl : lv_has ls 7 [(4, .int 0), (3, .ref ao), (2, .ref mo), (1, .ref h), (0, .ref b)]) (hP : va_P (dC, dI) vwCl [(h, .inr (11, [.ref aT, .ref aV, .ref aS, .ref aC, .ref aO, .ref aF, .ref aL, .ref aR, .ref aX, .int 0, .int 0, .int 0])), (ao, .inl (cL, 1, .inr (.inl (fun _ => 0)))), (mo, .inr (12, [.int 0, .ref m1, .int 0, .ref m3, .ref m4, .ref m5, .ref m6, .ref m7, .ref m8, .ref m9, .int 0, .ref m11, .ref m12, .ref m13, .ref m14, .ref m15, .ref m16, .ref m17, .ref m18, .ref m19, .int 0, .int 0, .int 0, .int 0, .ref m24, .int 0, .ref m26, .int 0, .ref m28, .ref m29, .ref m30, .ref m31, .ref m32, .ref m33, .ref m34, .ref m35, .ref m36, .int 0, .int 0, .int 0, .int 0, .int 0, .int (-1), .int 0, .ref m44, .ref m45, .ref m46, .ref m47, .ref m48, .int 0, .ref m50, .ref m51, .ref m52, .ref m53, .ref m54, .int 0, .int 0]))] H) (hD : va_D A [(h, .inr (11, [.ref aT, .ref aV, .ref aS, .ref aC, .ref aO, .ref aF, .ref aL, .ref aR, .ref aX, .int 0, .int 0, .int 0])), (ao, .inl (cL, 1, .inr (.inl (fun _ => 0)))), (mo, .inr (12, [.int 0, .ref m1, .int 0, .ref m3, .ref m4, .ref m5, .ref m6, .ref m7, .ref m8, .ref m9, .int 0, .ref m11, .ref m12, .ref m13, .ref m14, .ref m15, .ref m16, .ref m17, .ref m18, .ref m19, .int 0, .int 0, .int 0, .int 0, .ref m24, .int 0, .ref m26, .int 0, .ref m28, .ref m29, .ref m30, .ref m31, .ref m32, .ref m33, .ref m34, .ref m35, .ref m36, .int 0, .int 0, .int 0, .int 0, .int 0, .int (-1), .int 0, .ref m44, .ref m45, .ref m46, .ref m47, .ref m48, .int 0, .ref m50, .ref m51, .ref m52, .ref m53, .ref m54, .int 0, .int 0]))]) (hK : va_K (dC, dI) vwCl [(cL, .long)] s) (hS : va_S A s.heap H locs)
    (K : ∀ (H : Heap) (locs : List Loc) (ls : Array Slot), va_S A s.heap H locs → lv_has ls 7 [(4, .int 0), (0, .ref b)] → W p l e room_1 s m #[Value.ref b] below meth c H locs 2000 300000 Q (F0 m 1620 ls [])) : W p l e room_1 s m #[Value.ref b] below meth c H locs 1000 200000 Q (F0 m 1384 ls []) := by
  refine lv_aload_n hx hb dL_law_1384 rfl (lv_at hl 3 rfl) ?_
  refine lv_aload_n hx hb dL_law_1385 rfl (lv_at hl 4 rfl) ?_
  refine lv_iload hx hb dL_law_1386 (lv_at hl 0 rfl) ?_
  refine lv_iconst (v := 1) hx hb dL_law_1388 (by decide) ?_
  refine lv_iadd hx hb dL_law_1389 ?_
  refine lv_topi (fun z_1 ez_1 => ?_)
  obtain rfl : z_1 = 1 := ez_1.trans (by decide)
  refine va_sld hx hb hX hbl hbA hS (by unfold vp_in; decide) dL_law_1390 ?_
  refine lv_topi (fun z_2 ez_2 => ?_)
  obtain rfl : z_2 = xs 1 := ez_2.trans (congrArg xs (by decide))
  refine lv_aload_n hx hb dL_law_1391 rfl (lv_at hl 1 rfl) ?_
  refine ct_i (wr := [(mo, .inr (12, [.int 0, .ref m1, .int 0, .ref m3, .ref m4, .ref m5, .ref m6, .ref m7, .ref m8, .ref m9, .int 0, .ref m11, .ref m12, .ref m13, .ref m14, .ref m15, .ref m16, .ref m17, .ref m18, .ref m19, .int 0, .int 0, .int 0, .int 0, .ref m24, .int 0, .ref m26, .int 0, .ref m28, .ref m29, .ref m30, .ref m31, .ref m32, .ref m33, .ref m34, .ref m35, .ref m36, .int 0, .int 0, .int 0, .int 0, .int 0, .int (-1), .int 0, .ref m44, .ref m45, .ref m46, .ref m47, .ref m48, .int 0, .ref m50, .ref m51, .ref m52, .ref m53, .ref m54, .int 0, .int 0]))]) (tyr := []) (vx_runSW (As := [.ref h, .int (xs 1), .ref ao]) (rest := []) ⟨hx, hb, hml, hown, hts⟩ (h_found l hl0 dC dI h aT aV aS aC aO aF aL aR aX (xs 1) ao cL (fun _ => 0) H.size ) (vx_cwSW 3 hts gL_law_L_found rfl rfl rfl (by decide +kernel) ⟨Nat.le_of_ble_eq_true rfl, Nat.le_of_ble_eq_true rfl⟩) (ct_pre hP hD hK hS hA hZ [0, 1] [0] rfl (by decide) rfl) rfl rfl hl.1 rfl (lv_room (Nat.le_of_ble_eq_true rfl)) dL_law_1392 ⟨Nat.le_of_ble_eq_true rfl, Nat.le_of_ble_eq_true rfl⟩) hP hD hK hS hA [0, 1] [2] [] rfl rfl (by decide) (by decide) rfl (fun r_4 u H locs w_5 hP hD hK hS => ?_)
  obtain ⟨o_3, rfl⟩ : ∃ z, z = u := ⟨_, rfl⟩
  try dsimp only at w_5
  have hP : va_P (dC, dI) vwCl [(mo, .inr (12, [.int 0, .ref m1, .int 0, .ref m3, .ref m4, .ref m5, .ref m6, .ref m7, .ref m8, .ref m9, .int 0, .ref m11, .ref m12, .ref m13, .ref m14, .ref m15, .ref m16, .ref m17, .ref m18, .ref m19, .int 0, .int 0, .int 0, .int 0, .ref m24, .int 0, .ref m26, .int 0, .ref m28, .ref m29, .ref m30, .ref m31, .ref m32, .ref m33, .ref m34, .ref m35, .ref m36, .int 0, .int 0, .int 0, .int 0, .int 0, .int (-1), .int 0, .ref m44, .ref m45, .ref m46, .ref m47, .ref m48, .int 0, .ref m50, .ref m51, .ref m52, .ref m53, .ref m54, .int 0, .int 0])), (ao, .inl (cL, 1, .inr (.inl o_3)))] H := hP
  have hD : va_D A [(mo, .inr (12, [.int 0, .ref m1, .int 0, .ref m3, .ref m4, .ref m5, .ref m6, .ref m7, .ref m8, .ref m9, .int 0, .ref m11, .ref m12, .ref m13, .ref m14, .ref m15, .ref m16, .ref m17, .ref m18, .ref m19, .int 0, .int 0, .int 0, .int 0, .ref m24, .int 0, .ref m26, .int 0, .ref m28, .ref m29, .ref m30, .ref m31, .ref m32, .ref m33, .ref m34, .ref m35, .ref m36, .int 0, .int 0, .int 0, .int 0, .int 0, .int (-1), .int 0, .ref m44, .ref m45, .ref m46, .ref m47, .ref m48, .int 0, .ref m50, .ref m51, .ref m52, .ref m53, .ref m54, .int 0, .int 0])), (ao, .inl (cL, 1, .inr (.inl o_3)))] := hD
  have hK : va_K (dC, dI) vwCl [(cL, .long)] s := hK
  refine W.widen (k := 1001) (n := 200006) (Nat.le_of_ble_eq_true rfl) (Nat.le_of_ble_eq_true rfl) ?_
  obtain rfl : r_4 = 1 := w_5
  refine lv_istore (lv' := [(5, .int 1), (4, .int 0), (3, .ref ao), (2, .ref mo), (1, .ref h), (0, .ref b)]) hx hb dL_law_1395 hl (by decide) rfl (fun ls hl => ?_)
  refine lv_aload_n hx hb dL_law_1397 rfl (lv_at hl 3 rfl) ?_
  refine lv_aload_n hx hb dL_law_1398 rfl (lv_at hl 5 rfl) ?_
  refine lv_iload hx hb dL_law_1399 (lv_at hl 1 rfl) ?_
  refine lv_iconst (v := 1) hx hb dL_law_1401 (by decide) ?_
  refine lv_iadd hx hb dL_law_1402 ?_
  refine lv_topi (fun z_6 ez_6 => ?_)
  obtain rfl : z_6 = 1 := ez_6.trans (by decide)
  refine va_sld hx hb hX hbl hbA hS (by unfold vp_in; decide) dL_law_1403 ?_
  refine lv_topi (fun z_7 ez_7 => ?_)
  obtain rfl : z_7 = xs 1 := ez_7.trans (congrArg xs (by decide))
  refine ct_i (wr := [(ao, .inl (cL, 1, .inr (.inl o_3)))]) (tyr := [(cL, .long)]) (va_runV (As := [.int (xs 1)]) (rest := []) ⟨hx, hb, hml, hown, hts⟩ (m_found l hl0 dC dI mo m1 m3 m4 m5 m6 m7 m8 m9 m11 m12 m13 m14 m15 m16 m17 m18 m19 m24 m26 m28 m29 m30 m31 m32 m33 m34 m35 m36 m44 m45 m46 m47 m48 m50 m51 m52 m53 m54 (xs 1) H.size ) (cwV 1 hts gL_law_X12_found rfl rfl rfl (by decide +kernel) ⟨Nat.le_of_ble_eq_true rfl, Nat.le_of_ble_eq_true rfl⟩) (ct_preV (ci := 12) (q0 := 0) hP hD hK hS hA hZ rfl rfl [0] [] rfl (by decide) rfl) rfl rfl hl.1 rfl (lv_room (Nat.le_of_ble_eq_true rfl)) dL_law_1404 ⟨Nat.le_of_ble_eq_true rfl, Nat.le_of_ble_eq_true rfl⟩) hP hD hK hS hA [0] [1] [0] rfl rfl (by decide) (by decide) rfl (fun r_9 u H locs w_10 hP hD hK hS => ?_)
  obtain ⟨o_8, rfl⟩ : ∃ z, z = u := ⟨_, rfl⟩
  try dsimp only at w_10
  have hP : va_P (dC, dI) vwCl [(ao, .inl (cL, 1, .inr (.inl o_3))), (mo, .inr (12, [.int o_8, .ref m1, .int 0, .ref m3, .ref m4, .ref m5, .ref m6, .ref m7, .ref m8, .ref m9, .int 0, .ref m11, .ref m12, .ref m13, .ref m14, .ref m15, .ref m16, .ref m17, .ref m18, .ref m19, .int 0, .int 0, .int 0, .int 0, .ref m24, .int 0, .ref m26, .int 0, .ref m28, .ref m29, .ref m30, .ref m31, .ref m32, .ref m33, .ref m34, .ref m35, .ref m36, .int 0, .int 0, .int 0, .int 0, .int 0, .int (-1), .int 0, .ref m44, .ref m45, .ref m46, .ref m47, .ref m48, .int 0, .ref m50, .ref m51, .ref m52, .ref m53, .ref m54, .int 0, .int 0]))] H := hP
  have hD : va_D A [(ao, .inl (cL, 1, .inr (.inl o_3))), (mo, .inr (12, [.int o_8, .ref m1, .int 0, .ref m3, .ref m4, .ref m5, .ref m6, .ref m7, .ref m8, .ref m9, .int 0, .ref m11, .ref m12, .ref m13, .ref m14, .ref m15, .ref m16, .ref m17, .ref m18, .ref m19, .int 0, .int 0, .int 0, .int 0, .ref m24, .int 0, .ref m26, .int 0, .ref m28, .ref m29, .ref m30, .ref m31, .ref m32, .ref m33, .ref m34, .ref m35, .ref m36, .int 0, .int 0, .int 0, .int 0, .int 0, .int (-1), .int 0, .ref m44, .ref m45, .ref m46, .ref m47, .ref m48, .int 0, .ref m50, .ref m51, .ref m52, .ref m53, .ref m54, .int 0, .int 0]))] := hD
  have hK : va_K (dC, dI) vwCl [(cL, .long)] s := hK
  obtain rfl : o_8 = 1 := w_10
  refine lv_istore (lv' := [(6, .int r_9), (5, .int 1), (4, .int 0), (3, .ref ao), (2, .ref mo), (1, .ref h), (0, .ref b)]) hx hb dL_law_1407 hl (by decide) rfl (fun ls hl => ?_)
  refine lv_aload_n hx hb dL_law_1409 rfl (lv_at hl 4 rfl) ?_
  refine ct_i (wr := [(ao, .inl (cL, 1, .inr (.inl o_3)))]) (tyr := [(cL, .long)]) (va_runV (As := []) (rest := []) ⟨hx, hb, hml, hown, hts⟩ (m_thrown l hl0 dC dI mo m1 m3 m4 m5 m6 m7 m8 m9 m11 m12 m13 m14 m15 m16 m17 m18 m19 m24 m26 m28 m29 m30 m31 m32 m33 m34 m35 m36 m44 m45 m46 m47 m48 m50 m51 m52 m53 m54 1 0 0 0 0 0 0 (-1) 0 H.size ) (cwV 0 hts gL_law_X12_thrown rfl rfl rfl (by decide +kernel) ⟨Nat.le_of_ble_eq_true rfl, Nat.le_of_ble_eq_true rfl⟩) (ct_preV (ci := 12) (q0 := 1) hP hD hK hS hA hZ rfl rfl [1] [] rfl (by decide) rfl) rfl rfl hl.1 rfl (lv_room (Nat.le_of_ble_eq_true rfl)) dL_law_1410 ⟨Nat.le_of_ble_eq_true rfl, Nat.le_of_ble_eq_true rfl⟩) hP hD hK hS hA [1] [0] [0] rfl rfl (by decide) (by decide) rfl (fun r_11 u H locs w_12 hP hD hK hS => ?_)
  try dsimp only at w_12
  have hP : va_P (dC, dI) vwCl [(ao, .inl (cL, 1, .inr (.inl o_3)))] H := hP
  have hD : va_D A [(ao, .inl (cL, 1, .inr (.inl o_3)))] := hD
  have hK : va_K (dC, dI) vwCl [(cL, .long)] s := hK
  obtain rfl : r_11 = 1 := w_12
  refine lv_iload hx hb dL_law_1413 (lv_at hl 1 rfl) ?_
  refine lv_icmp_eq (tgt := 1420) hx hb dL_law_1415 (by decide) (fun _ => ?_) (fun c_13 => absurd c_13 (by decide))
  refine lv_iload hx hb dL_law_1420 (lv_at hl 1 rfl) ?_
  refine lv_if_ne (tgt := 1437) hx hb dL_law_1422 (by decide) (fun _ => ?_) (fun c_14 => absurd c_14 (by decide))
  refine lv_goto (tgt := 1620) hx hb dL_law_1437 (by decide) ?_
  refine W.widen (k := 2000) (n := 300000) (Nat.le_of_ble_eq_true rfl) (Nat.le_of_ble_eq_true rfl) ?_
  exact K _ _ _ hS (lv_sub hl [2, 6] rfl)
