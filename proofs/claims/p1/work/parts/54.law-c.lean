set_option maxHeartbeats 4000000 in
set_option maxRecDepth 100000 in
/-- the law at end -/
theorem law_end {p : Program} {l : Launch} {e : Env} {s : State} {m : MethodId} {below : List Frame} {meth : Method} {c : Code} {Q : State → Prop} {b : Nat} {xs : Nat → Int32} {A : Nat → Prop} {H : Heap} {locs : List Loc} {ls : Array Slot} (hl0 : l.stackTraces = false) (dC : Nat → ClassId) (dI : Nat → Nat → Nat) (h : Nat) (aT : Nat) (aV : Nat) (aS : Nat) (aC : Nat) (aO : Nat) (aF : Nat) (aL : Nat) (aR : Nat) (aX : Nat) (ao : Nat) (cL : ClassId) (mo : Nat) (m1 : Nat) (m3 : Nat) (m4 : Nat) (m5 : Nat) (m6 : Nat) (m7 : Nat) (m8 : Nat) (m9 : Nat) (m11 : Nat) (m12 : Nat) (m13 : Nat) (m14 : Nat) (m15 : Nat) (m16 : Nat) (m17 : Nat) (m18 : Nat) (m19 : Nat) (m24 : Nat) (m26 : Nat) (m28 : Nat) (m29 : Nat) (m30 : Nat) (m31 : Nat) (m32 : Nat) (m33 : Nat) (m34 : Nat) (m35 : Nat) (m36 : Nat) (m44 : Nat) (m45 : Nat) (m46 : Nat) (m47 : Nat) (m48 : Nat) (m50 : Nat) (m51 : Nat) (m52 : Nat) (m53 : Nat) (m54 : Nat) (hx : p.tables.exec = Jvm.exec) (hb : c.code = cL_law) (hml : c.maxLocals = 7) (hown : s.vm.findClass RL = some m.cls) (hts : ∀ w ∈ wsL_law, w.before #[Value.ref b] s = true) (hX : va_X b 6 xs s s.heap) (hbl : b < s.heap.size) (hbA : ¬ A b) (hA : ∀ q : Nat, s.heap.size ≤ q → A q) (hZ : tx_St A s) (hl : lv_has ls 7 [(4, .int 0), (3, .ref ao), (2, .ref mo), (1, .ref h), (0, .ref b)]) (hP : va_P (dC, dI) vwCl [(h, .inr (11, [.ref aT, .ref aV, .ref aS, .ref aC, .ref aO, .ref aF, .ref aL, .ref aR, .ref aX, .int 0, .int 0, .int 0])), (ao, .inl (cL, 1, .inr (.inl (fun _ => 0)))), (mo, .inr (12, [.int 0, .ref m1, .int 0, .ref m3, .ref m4, .ref m5, .ref m6, .ref m7, .ref m8, .ref m9, .int 0, .ref m11, .ref m12, .ref m13, .ref m14, .ref m15, .ref m16, .ref m17, .ref m18, .ref m19, .int 0, .int 0, .int 0, .int 0, .ref m24, .int 0, .ref m26, .int 0, .ref m28, .ref m29, .ref m30, .ref m31, .ref m32, .ref m33, .ref m34, .ref m35, .ref m36, .int 0, .int 0, .int 0, .int 0, .int 0, .int (-1), .int 0, .ref m44, .ref m45, .ref m46, .ref m47, .ref m48, .int 0, .ref m50, .ref m51, .ref m52, .ref m53, .ref m54, .int 0, .int 0]))] H) (hD : va_D A [(h, .inr (11, [.ref aT, .ref aV, .ref aS, .ref aC, .ref aO, .ref aF, .ref aL, .ref aR, .ref aX, .int 0, .int 0, .int 0])), (ao, .inl (cL, 1, .inr (.inl (fun _ => 0)))), (mo, .inr (12, [.int 0, .ref m1, .int 0, .ref m3, .ref m4, .ref m5, .ref m6, .ref m7, .ref m8, .ref m9, .int 0, .ref m11, .ref m12, .ref m13, .ref m14, .ref m15, .ref m16, .ref m17, .ref m18, .ref m19, .int 0, .int 0, .int 0, .int 0, .ref m24, .int 0, .ref m26, .int 0, .ref m28, .ref m29, .ref m30, .ref m31, .ref m32, .ref m33, .ref m34, .ref m35, .ref m36, .int 0, .int 0, .int 0, .int 0, .int 0, .int (-1), .int 0, .ref m44, .ref m45, .ref m46, .ref m47, .ref m48, .int 0, .ref m50, .ref m51, .ref m52, .ref m53, .ref m54, .int 0, .int 0]))]) (hK : va_K (dC, dI) vwCl [(cL, .long)] s) (hS : va_S A s.heap H locs)
    (K : ∀ (H : Heap) (locs : List Loc) (ls : Array Slot), va_S A s.heap H locs → lv_has ls 7 [(4, .int 0), (0, .ref b)] → W p l e room_1 s m #[Value.ref b] below meth c H locs 2000 300000 Q (F0 m 1620 ls [])) : W p l e room_1 s m #[Value.ref b] below meth c H locs 1000 200000 Q (F0 m 248 ls []) := by
  refine lv_aload_n hx hb dL_law_248 rfl (lv_at hl 3 rfl) ?_
  refine lv_aload_n hx hb dL_law_249 rfl (lv_at hl 4 rfl) ?_
  refine lv_iload hx hb dL_law_250 (lv_at hl 0 rfl) ?_
  refine lv_iconst (v := 1) hx hb dL_law_252 (by decide) ?_
  refine lv_iadd hx hb dL_law_253 ?_
  refine lv_topi (fun z_1 ez_1 => ?_)
  obtain rfl : z_1 = 1 := ez_1.trans (by decide)
  refine va_sld hx hb hX hbl hbA hS (by unfold vp_in; decide) dL_law_254 ?_
  refine lv_topi (fun z_2 ez_2 => ?_)
  obtain rfl : z_2 = xs 1 := ez_2.trans (congrArg xs (by decide))
  refine lv_aload_n hx hb dL_law_255 rfl (lv_at hl 1 rfl) ?_
  refine ct_i (wr := [(mo, .inr (12, [.int 0, .ref m1, .int 0, .ref m3, .ref m4, .ref m5, .ref m6, .ref m7, .ref m8, .ref m9, .int 0, .ref m11, .ref m12, .ref m13, .ref m14, .ref m15, .ref m16, .ref m17, .ref m18, .ref m19, .int 0, .int 0, .int 0, .int 0, .ref m24, .int 0, .ref m26, .int 0, .ref m28, .ref m29, .ref m30, .ref m31, .ref m32, .ref m33, .ref m34, .ref m35, .ref m36, .int 0, .int 0, .int 0, .int 0, .int 0, .int (-1), .int 0, .ref m44, .ref m45, .ref m46, .ref m47, .ref m48, .int 0, .ref m50, .ref m51, .ref m52, .ref m53, .ref m54, .int 0, .int 0]))]) (tyr := []) (vx_runSW (As := [.ref h, .int (xs 1), .ref ao]) (rest := []) ⟨hx, hb, hml, hown, hts⟩ (h_end l hl0 dC dI h aT aV aS aC aO aF aL aR aX (xs 1) ao cL (fun _ => 0) H.size ) (vx_cwSW 3 hts gL_law_L_end rfl rfl rfl (by decide +kernel) ⟨Nat.le_of_ble_eq_true rfl, Nat.le_of_ble_eq_true rfl⟩) (ct_pre hP hD hK hS hA hZ [0, 1] [0] rfl (by decide) rfl) rfl rfl hl.1 rfl (lv_room (Nat.le_of_ble_eq_true rfl)) dL_law_256 ⟨Nat.le_of_ble_eq_true rfl, Nat.le_of_ble_eq_true rfl⟩) hP hD hK hS hA [0, 1] [2] [] rfl rfl (by decide) (by decide) rfl (fun r_4 u H locs w_5 hP hD hK hS => ?_)
  obtain ⟨o_3, rfl⟩ : ∃ z, z = u := ⟨_, rfl⟩
  try dsimp only at w_5
  have hP : va_P (dC, dI) vwCl [(mo, .inr (12, [.int 0, .ref m1, .int 0, .ref m3, .ref m4, .ref m5, .ref m6, .ref m7, .ref m8, .ref m9, .int 0, .ref m11, .ref m12, .ref m13, .ref m14, .ref m15, .ref m16, .ref m17, .ref m18, .ref m19, .int 0, .int 0, .int 0, .int 0, .ref m24, .int 0, .ref m26, .int 0, .ref m28, .ref m29, .ref m30, .ref m31, .ref m32, .ref m33, .ref m34, .ref m35, .ref m36, .int 0, .int 0, .int 0, .int 0, .int 0, .int (-1), .int 0, .ref m44, .ref m45, .ref m46, .ref m47, .ref m48, .int 0, .ref m50, .ref m51, .ref m52, .ref m53, .ref m54, .int 0, .int 0])), (ao, .inl (cL, 1, .inr (.inl o_3)))] H := hP
  have hD : va_D A [(mo, .inr (12, [.int 0, .ref m1, .int 0, .ref m3, .ref m4, .ref m5, .ref m6, .ref m7, .ref m8, .ref m9, .int 0, .ref m11, .ref m12, .ref m13, .ref m14, .ref m15, .ref m16, .ref m17, .ref m18, .ref m19, .int 0, .int 0, .int 0, .int 0, .ref m24, .int 0, .ref m26, .int 0, .ref m28, .ref m29, .ref m30, .ref m31, .ref m32, .ref m33, .ref m34, .ref m35, .ref m36, .int 0, .int 0, .int 0, .int 0, .int 0, .int (-1), .int 0, .ref m44, .ref m45, .ref m46, .ref m47, .ref m48, .int 0, .ref m50, .ref m51, .ref m52, .ref m53, .ref m54, .int 0, .int 0])), (ao, .inl (cL, 1, .inr (.inl o_3)))] := hD
  have hK : va_K (dC, dI) vwCl [(cL, .long)] s := hK
  refine W.widen (k := 1001) (n := 200006) (Nat.le_of_ble_eq_true rfl) (Nat.le_of_ble_eq_true rfl) ?_
  rcases w_5 with ⟨rfl, h_6⟩ | ⟨rfl, h_6⟩
  · skip
    refine lv_istore (lv' := [(5, .int 1), (4, .int 0), (3, .ref ao), (2, .ref mo), (1, .ref h), (0, .ref b)]) hx hb dL_law_259 hl (by decide) rfl (fun ls hl => ?_)
    refine lv_aload_n hx hb dL_law_261 rfl (lv_at hl 3 rfl) ?_
    refine lv_aload_n hx hb dL_law_262 rfl (lv_at hl 5 rfl) ?_
    refine lv_iload hx hb dL_law_263 (lv_at hl 1 rfl) ?_
    refine lv_iconst (v := 1) hx hb dL_law_265 (by decide) ?_
    refine lv_iadd hx hb dL_law_266 ?_
    refine lv_topi (fun z_7 ez_7 => ?_)
    obtain rfl : z_7 = 1 := ez_7.trans (by decide)
    refine va_sld hx hb hX hbl hbA hS (by unfold vp_in; decide) dL_law_267 ?_
    refine lv_topi (fun z_8 ez_8 => ?_)
    obtain rfl : z_8 = xs 1 := ez_8.trans (congrArg xs (by decide))
    refine ct_i (wr := [(ao, .inl (cL, 1, .inr (.inl o_3)))]) (tyr := [(cL, .long)]) (va_runV (As := [.int (xs 1)]) (rest := []) ⟨hx, hb, hml, hown, hts⟩ (m_end l hl0 dC dI mo m1 m3 m4 m5 m6 m7 m8 m9 m11 m12 m13 m14 m15 m16 m17 m18 m19 m24 m26 m28 m29 m30 m31 m32 m33 m34 m35 m36 m44 m45 m46 m47 m48 m50 m51 m52 m53 m54 (xs 1) H.size ) (cwV 1 hts gL_law_X12_end rfl rfl rfl (by decide +kernel) ⟨Nat.le_of_ble_eq_true rfl, Nat.le_of_ble_eq_true rfl⟩) (ct_preV (ci := 12) (q0 := 0) hP hD hK hS hA hZ rfl rfl [0] [] rfl (by decide) rfl) rfl rfl hl.1 rfl (lv_room (Nat.le_of_ble_eq_true rfl)) dL_law_268 ⟨Nat.le_of_ble_eq_true rfl, Nat.le_of_ble_eq_true rfl⟩) hP hD hK hS hA [0] [1] [0] rfl rfl (by decide) (by decide) rfl (fun r_11 u H locs w_12 hP hD hK hS => ?_)
    obtain ⟨o_9, o_10⟩ := u
    try dsimp only at w_12
    have hP : va_P (dC, dI) vwCl [(ao, .inl (cL, 1, .inr (.inl o_3))), (mo, .inr (12, [.int o_9, .ref m1, .int o_10, .ref m3, .ref m4, .ref m5, .ref m6, .ref m7, .ref m8, .ref m9, .int 0, .ref m11, .ref m12, .ref m13, .ref m14, .ref m15, .ref m16, .ref m17, .ref m18, .ref m19, .int 0, .int 0, .int 0, .int 0, .ref m24, .int 0, .ref m26, .int 0, .ref m28, .ref m29, .ref m30, .ref m31, .ref m32, .ref m33, .ref m34, .ref m35, .ref m36, .int 0, .int 0, .int 0, .int 0, .int 0, .int (-1), .int 0, .ref m44, .ref m45, .ref m46, .ref m47, .ref m48, .int 0, .ref m50, .ref m51, .ref m52, .ref m53, .ref m54, .int 0, .int 0]))] H := hP
    have hD : va_D A [(ao, .inl (cL, 1, .inr (.inl o_3))), (mo, .inr (12, [.int o_9, .ref m1, .int o_10, .ref m3, .ref m4, .ref m5, .ref m6, .ref m7, .ref m8, .ref m9, .int 0, .ref m11, .ref m12, .ref m13, .ref m14, .ref m15, .ref m16, .ref m17, .ref m18, .ref m19, .int 0, .int 0, .int 0, .int 0, .ref m24, .int 0, .ref m26, .int 0, .ref m28, .ref m29, .ref m30, .ref m31, .ref m32, .ref m33, .ref m34, .ref m35, .ref m36, .int 0, .int 0, .int 0, .int 0, .int 0, .int (-1), .int 0, .ref m44, .ref m45, .ref m46, .ref m47, .ref m48, .int 0, .ref m50, .ref m51, .ref m52, .ref m53, .ref m54, .int 0, .int 0]))] := hD
    have hK : va_K (dC, dI) vwCl [(cL, .long)] s := hK
    rcases w_12 with ⟨rfl, q_13⟩ | ⟨rfl, q_13⟩
    · skip
      refine lv_istore (lv' := [(6, .int r_11), (5, .int 1), (4, .int 0), (3, .ref ao), (2, .ref mo), (1, .ref h), (0, .ref b)]) hx hb dL_law_271 hl (by decide) rfl (fun ls hl => ?_)
      refine lv_aload_n hx hb dL_law_273 rfl (lv_at hl 4 rfl) ?_
      refine ct_i (wr := [(ao, .inl (cL, 1, .inr (.inl o_3)))]) (tyr := [(cL, .long)]) (va_runV (As := []) (rest := []) ⟨hx, hb, hml, hown, hts⟩ (m_thrown l hl0 dC dI mo m1 m3 m4 m5 m6 m7 m8 m9 m11 m12 m13 m14 m15 m16 m17 m18 m19 m24 m26 m28 m29 m30 m31 m32 m33 m34 m35 m36 m44 m45 m46 m47 m48 m50 m51 m52 m53 m54 1 o_10 0 0 0 0 0 (-1) 0 H.size ) (cwV 0 hts gL_law_X12_thrown rfl rfl rfl (by decide +kernel) ⟨Nat.le_of_ble_eq_true rfl, Nat.le_of_ble_eq_true rfl⟩) (ct_preV (ci := 12) (q0 := 1) hP hD hK hS hA hZ rfl rfl [1] [] rfl (by decide) rfl) rfl rfl hl.1 rfl (lv_room (Nat.le_of_ble_eq_true rfl)) dL_law_274 ⟨Nat.le_of_ble_eq_true rfl, Nat.le_of_ble_eq_true rfl⟩) hP hD hK hS hA [1] [0] [0] rfl rfl (by decide) (by decide) rfl (fun r_14 u H locs w_15 hP hD hK hS => ?_)
      try dsimp only at w_15
      have hP : va_P (dC, dI) vwCl [(ao, .inl (cL, 1, .inr (.inl o_3)))] H := hP
      have hD : va_D A [(ao, .inl (cL, 1, .inr (.inl o_3)))] := hD
      have hK : va_K (dC, dI) vwCl [(cL, .long)] s := hK
      obtain rfl : r_14 = 1 := w_15
      refine lv_iload hx hb dL_law_277 (lv_at hl 1 rfl) ?_
      refine lv_icmp_eq (tgt := 284) hx hb dL_law_279 (by decide) (fun _ => ?_) (fun c_16 => absurd c_16 (by decide))
      refine lv_iload hx hb dL_law_284 (lv_at hl 1 rfl) ?_
      refine lv_if_ne (tgt := 301) hx hb dL_law_286 (by decide) (fun _ => ?_) (fun c_17 => absurd c_17 (by decide))
      refine lv_goto (tgt := 1620) hx hb dL_law_301 (by decide) ?_
      refine W.widen (k := 2000) (n := 300000) (Nat.le_of_ble_eq_true rfl) (Nat.le_of_ble_eq_true rfl) ?_
      exact K _ _ _ hS (lv_sub hl [2, 6] rfl)
    · skip
      exact absurd h_6 q_13.1
  · skip
    refine lv_istore (lv' := [(5, .int 0), (4, .int 0), (3, .ref ao), (2, .ref mo), (1, .ref h), (0, .ref b)]) hx hb dL_law_259 hl (by decide) rfl (fun ls hl => ?_)
    refine lv_aload_n hx hb dL_law_261 rfl (lv_at hl 3 rfl) ?_
    refine lv_aload_n hx hb dL_law_262 rfl (lv_at hl 5 rfl) ?_
    refine lv_iload hx hb dL_law_263 (lv_at hl 1 rfl) ?_
    refine lv_iconst (v := 1) hx hb dL_law_265 (by decide) ?_
    refine lv_iadd hx hb dL_law_266 ?_
    refine lv_topi (fun z_18 ez_18 => ?_)
    obtain rfl : z_18 = 1 := ez_18.trans (by decide)
    refine va_sld hx hb hX hbl hbA hS (by unfold vp_in; decide) dL_law_267 ?_
    refine lv_topi (fun z_19 ez_19 => ?_)
    obtain rfl : z_19 = xs 1 := ez_19.trans (congrArg xs (by decide))
    refine ct_i (wr := [(ao, .inl (cL, 1, .inr (.inl o_3)))]) (tyr := [(cL, .long)]) (va_runV (As := [.int (xs 1)]) (rest := []) ⟨hx, hb, hml, hown, hts⟩ (m_end l hl0 dC dI mo m1 m3 m4 m5 m6 m7 m8 m9 m11 m12 m13 m14 m15 m16 m17 m18 m19 m24 m26 m28 m29 m30 m31 m32 m33 m34 m35 m36 m44 m45 m46 m47 m48 m50 m51 m52 m53 m54 (xs 1) H.size ) (cwV 1 hts gL_law_X12_end rfl rfl rfl (by decide +kernel) ⟨Nat.le_of_ble_eq_true rfl, Nat.le_of_ble_eq_true rfl⟩) (ct_preV (ci := 12) (q0 := 0) hP hD hK hS hA hZ rfl rfl [0] [] rfl (by decide) rfl) rfl rfl hl.1 rfl (lv_room (Nat.le_of_ble_eq_true rfl)) dL_law_268 ⟨Nat.le_of_ble_eq_true rfl, Nat.le_of_ble_eq_true rfl⟩) hP hD hK hS hA [0] [1] [0] rfl rfl (by decide) (by decide) rfl (fun r_22 u H locs w_23 hP hD hK hS => ?_)
    obtain ⟨o_20, o_21⟩ := u
    try dsimp only at w_23
    have hP : va_P (dC, dI) vwCl [(ao, .inl (cL, 1, .inr (.inl o_3))), (mo, .inr (12, [.int o_20, .ref m1, .int o_21, .ref m3, .ref m4, .ref m5, .ref m6, .ref m7, .ref m8, .ref m9, .int 0, .ref m11, .ref m12, .ref m13, .ref m14, .ref m15, .ref m16, .ref m17, .ref m18, .ref m19, .int 0, .int 0, .int 0, .int 0, .ref m24, .int 0, .ref m26, .int 0, .ref m28, .ref m29, .ref m30, .ref m31, .ref m32, .ref m33, .ref m34, .ref m35, .ref m36, .int 0, .int 0, .int 0, .int 0, .int 0, .int (-1), .int 0, .ref m44, .ref m45, .ref m46, .ref m47, .ref m48, .int 0, .ref m50, .ref m51, .ref m52, .ref m53, .ref m54, .int 0, .int 0]))] H := hP
    have hD : va_D A [(ao, .inl (cL, 1, .inr (.inl o_3))), (mo, .inr (12, [.int o_20, .ref m1, .int o_21, .ref m3, .ref m4, .ref m5, .ref m6, .ref m7, .ref m8, .ref m9, .int 0, .ref m11, .ref m12, .ref m13, .ref m14, .ref m15, .ref m16, .ref m17, .ref m18, .ref m19, .int 0, .int 0, .int 0, .int 0, .ref m24, .int 0, .ref m26, .int 0, .ref m28, .ref m29, .ref m30, .ref m31, .ref m32, .ref m33, .ref m34, .ref m35, .ref m36, .int 0, .int 0, .int 0, .int 0, .int 0, .int (-1), .int 0, .ref m44, .ref m45, .ref m46, .ref m47, .ref m48, .int 0, .ref m50, .ref m51, .ref m52, .ref m53, .ref m54, .int 0, .int 0]))] := hD
    have hK : va_K (dC, dI) vwCl [(cL, .long)] s := hK
    rcases w_23 with ⟨rfl, q_24⟩ | ⟨rfl, q_24⟩
    · skip
      exact absurd q_24 h_6.1
    · skip
      obtain rfl : (xs 1) = r_22 := q_24.2.symm
      refine lv_istore (lv' := [(6, .int (xs 1)), (5, .int 0), (4, .int 0), (3, .ref ao), (2, .ref mo), (1, .ref h), (0, .ref b)]) hx hb dL_law_271 hl (by decide) rfl (fun ls hl => ?_)
      refine lv_aload_n hx hb dL_law_273 rfl (lv_at hl 4 rfl) ?_
      refine ct_i (wr := [(ao, .inl (cL, 1, .inr (.inl o_3)))]) (tyr := [(cL, .long)]) (va_runV (As := []) (rest := []) ⟨hx, hb, hml, hown, hts⟩ (m_thrown l hl0 dC dI mo m1 m3 m4 m5 m6 m7 m8 m9 m11 m12 m13 m14 m15 m16 m17 m18 m19 m24 m26 m28 m29 m30 m31 m32 m33 m34 m35 m36 m44 m45 m46 m47 m48 m50 m51 m52 m53 m54 0 o_21 0 0 0 0 0 (-1) 0 H.size ) (cwV 0 hts gL_law_X12_thrown rfl rfl rfl (by decide +kernel) ⟨Nat.le_of_ble_eq_true rfl, Nat.le_of_ble_eq_true rfl⟩) (ct_preV (ci := 12) (q0 := 1) hP hD hK hS hA hZ rfl rfl [1] [] rfl (by decide) rfl) rfl rfl hl.1 rfl (lv_room (Nat.le_of_ble_eq_true rfl)) dL_law_274 ⟨Nat.le_of_ble_eq_true rfl, Nat.le_of_ble_eq_true rfl⟩) hP hD hK hS hA [1] [0] [0] rfl rfl (by decide) (by decide) rfl (fun r_25 u H locs w_26 hP hD hK hS => ?_)
      try dsimp only at w_26
      have hP : va_P (dC, dI) vwCl [(ao, .inl (cL, 1, .inr (.inl o_3)))] H := hP
      have hD : va_D A [(ao, .inl (cL, 1, .inr (.inl o_3)))] := hD
      have hK : va_K (dC, dI) vwCl [(cL, .long)] s := hK
      obtain rfl : r_25 = 0 := w_26
      refine lv_iload hx hb dL_law_277 (lv_at hl 1 rfl) ?_
      refine lv_icmp_eq (tgt := 284) hx hb dL_law_279 (by decide) (fun _ => ?_) (fun c_27 => absurd c_27 (by decide))
      refine lv_iload hx hb dL_law_284 (lv_at hl 1 rfl) ?_
      refine lv_if_ne (tgt := 301) hx hb dL_law_286 (by decide) (fun c_28 => absurd c_28 (by decide)) (fun _ => ?_)
      refine lv_aload_n hx hb dL_law_289 rfl (lv_at hl 3 rfl) ?_
      refine lv_iconst (v := 0) hx hb dL_law_290 (by decide) ?_
      refine va_lald hx hb hK hP 0 0 rfl rfl (by unfold vp_in; decide) dL_law_291 ?_
      refine lv_topl (fun y_29 ey_29 => ?_)
      obtain rfl : y_29 = ((xs 1) : Int32).toInt64 := ey_29.trans ((congrArg o_3 (by decide : (0 : Int32).toNatClampNeg = 0)).trans h_6.2)
      refine lv_iload hx hb dL_law_292 (lv_at hl 0 rfl) ?_
      refine lv_i2l (v := ((xs 1) : Int32).toInt64) hx hb dL_law_294 rfl ?_
      refine tx_lcmpE hx hb dL_law_295 ?_
      refine lv_if_eq (tgt := 301) hx hb dL_law_296 (by decide) (fun _ => ?_) (fun c_30 => absurd c_30 (by decide))
      refine lv_goto (tgt := 1620) hx hb dL_law_301 (by decide) ?_
      refine W.widen (k := 2000) (n := 300000) (Nat.le_of_ble_eq_true rfl) (Nat.le_of_ble_eq_true rfl) ?_
      exact K _ _ _ hS (lv_sub hl [2, 6] rfl)

set_option maxHeartbeats 4000000 in
set_option maxRecDepth 100000 in
/-- the law at key -/
theorem law_key {p : Program} {l : Launch} {e : Env} {s : State} {m : MethodId} {below : List Frame} {meth : Method} {c : Code} {Q : State → Prop} {b : Nat} {xs : Nat → Int32} {A : Nat → Prop} {H : Heap} {locs : List Loc} {ls : Array Slot} (hl0 : l.stackTraces = false) (dC : Nat → ClassId) (dI : Nat → Nat → Nat) (h : Nat) (aT : Nat) (aV : Nat) (aS : Nat) (aC : Nat) (aO : Nat) (aF : Nat) (aL : Nat) (aR : Nat) (aX : Nat) (sT : Nat) (sK : Nat) (sH : Nat) (ao : Nat) (cL : ClassId) (mo : Nat) (m1 : Nat) (m3 : Nat) (m4 : Nat) (m5 : Nat) (m6 : Nat) (m7 : Nat) (m8 : Nat) (m9 : Nat) (m11 : Nat) (m12 : Nat) (m13 : Nat) (m14 : Nat) (m15 : Nat) (m16 : Nat) (m17 : Nat) (m18 : Nat) (m19 : Nat) (m24 : Nat) (m26 : Nat) (m28 : Nat) (m29 : Nat) (m30 : Nat) (m31 : Nat) (m32 : Nat) (m33 : Nat) (m34 : Nat) (m35 : Nat) (m36 : Nat) (m44 : Nat) (m45 : Nat) (m46 : Nat) (m47 : Nat) (m48 : Nat) (m50 : Nat) (m51 : Nat) (m52 : Nat) (m53 : Nat) (m54 : Nat) (hx : p.tables.exec = Jvm.exec) (hb : c.code = cL_law) (hml : c.maxLocals = 7) (hown : s.vm.findClass RL = some m.cls) (hts : ∀ w ∈ wsL_law, w.before #[Value.ref b] s = true) (hX : va_X b 6 xs s s.heap) (hbl : b < s.heap.size) (hbA : ¬ A b) (hA : ∀ q : Nat, s.heap.size ≤ q → A q) (hZ : tx_St A s) (hl : lv_has ls 7 [(4, .int 0), (3, .ref ao), (2, .ref mo), (1, .ref h), (0, .ref b)]) (hP : va_P (dC, dI) vwCl [(h, .inr (11, [.ref aT, .ref aV, .ref aS, .ref aC, .ref aO, .ref aF, .ref aL, .ref aR, .ref aX, .int 0, .int 0, .int 0])), (aS, .inr (9, [.ref sT, .ref sK, .ref sH, .int 0, .int 0, .int 0, .int 0, .int 0])), (ao, .inl (cL, 1, .inr (.inl (fun _ => 0)))), (mo, .inr (12, [.int 0, .ref m1, .int 0, .ref m3, .ref m4, .ref m5, .ref m6, .ref m7, .ref m8, .ref m9, .int 0, .ref m11, .ref m12, .ref m13, .ref m14, .ref m15, .ref m16, .ref m17, .ref m18, .ref m19, .int 0, .int 0, .int 0, .int 0, .ref m24, .int 0, .ref m26, .int 0, .ref m28, .ref m29, .ref m30, .ref m31, .ref m32, .ref m33, .ref m34, .ref m35, .ref m36, .int 0, .int 0, .int 0, .int 0, .int 0, .int (-1), .int 0, .ref m44, .ref m45, .ref m46, .ref m47, .ref m48, .int 0, .ref m50, .ref m51, .ref m52, .ref m53, .ref m54, .int 0, .int 0]))] H) (hD : va_D A [(h, .inr (11, [.ref aT, .ref aV, .ref aS, .ref aC, .ref aO, .ref aF, .ref aL, .ref aR, .ref aX, .int 0, .int 0, .int 0])), (aS, .inr (9, [.ref sT, .ref sK, .ref sH, .int 0, .int 0, .int 0, .int 0, .int 0])), (ao, .inl (cL, 1, .inr (.inl (fun _ => 0)))), (mo, .inr (12, [.int 0, .ref m1, .int 0, .ref m3, .ref m4, .ref m5, .ref m6, .ref m7, .ref m8, .ref m9, .int 0, .ref m11, .ref m12, .ref m13, .ref m14, .ref m15, .ref m16, .ref m17, .ref m18, .ref m19, .int 0, .int 0, .int 0, .int 0, .ref m24, .int 0, .ref m26, .int 0, .ref m28, .ref m29, .ref m30, .ref m31, .ref m32, .ref m33, .ref m34, .ref m35, .ref m36, .int 0, .int 0, .int 0, .int 0, .int 0, .int (-1), .int 0, .ref m44, .ref m45, .ref m46, .ref m47, .ref m48, .int 0, .ref m50, .ref m51, .ref m52, .ref m53, .ref m54, .int 0, .int 0]))]) (hK : va_K (dC, dI) vwCl [(cL, .long)] s) (hS : va_S A s.heap H locs)
    (K : ∀ (H : Heap) (locs : List Loc) (ls : Array Slot), va_S A s.heap H locs → lv_has ls 7 [(4, .int 0), (0, .ref b)] → W p l e room_1 s m #[Value.ref b] below meth c H locs 2000 300000 Q (F0 m 1620 ls [])) : W p l e room_1 s m #[Value.ref b] below meth c H locs 1000 200000 Q (F0 m 496 ls []) := by
  refine lv_aload_n hx hb dL_law_496 rfl (lv_at hl 3 rfl) ?_
  refine lv_aload_n hx hb dL_law_497 rfl (lv_at hl 4 rfl) ?_
  refine lv_iload hx hb dL_law_498 (lv_at hl 0 rfl) ?_
  refine lv_iconst (v := 1) hx hb dL_law_500 (by decide) ?_
  refine lv_iadd hx hb dL_law_501 ?_
  refine lv_topi (fun z_1 ez_1 => ?_)
  obtain rfl : z_1 = 1 := ez_1.trans (by decide)
  refine va_sld hx hb hX hbl hbA hS (by unfold vp_in; decide) dL_law_502 ?_
  refine lv_topi (fun z_2 ez_2 => ?_)
  obtain rfl : z_2 = xs 1 := ez_2.trans (congrArg xs (by decide))
  refine lv_aload_n hx hb dL_law_503 rfl (lv_at hl 4 rfl) ?_
  refine lv_iload hx hb dL_law_504 (lv_at hl 0 rfl) ?_
  refine lv_iconst (v := 2) hx hb dL_law_506 (by decide) ?_
  refine lv_iadd hx hb dL_law_507 ?_
  refine lv_topi (fun z_3 ez_3 => ?_)
  obtain rfl : z_3 = 2 := ez_3.trans (by decide)
  refine va_sld hx hb hX hbl hbA hS (by unfold vp_in; decide) dL_law_508 ?_
  refine lv_topi (fun z_4 ez_4 => ?_)
  obtain rfl : z_4 = xs 2 := ez_4.trans (congrArg xs (by decide))
  refine lv_aload_n hx hb dL_law_509 rfl (lv_at hl 1 rfl) ?_
  refine ct_i (wr := [(mo, .inr (12, [.int 0, .ref m1, .int 0, .ref m3, .ref m4, .ref m5, .ref m6, .ref m7, .ref m8, .ref m9, .int 0, .ref m11, .ref m12, .ref m13, .ref m14, .ref m15, .ref m16, .ref m17, .ref m18, .ref m19, .int 0, .int 0, .int 0, .int 0, .ref m24, .int 0, .ref m26, .int 0, .ref m28, .ref m29, .ref m30, .ref m31, .ref m32, .ref m33, .ref m34, .ref m35, .ref m36, .int 0, .int 0, .int 0, .int 0, .int 0, .int (-1), .int 0, .ref m44, .ref m45, .ref m46, .ref m47, .ref m48, .int 0, .ref m50, .ref m51, .ref m52, .ref m53, .ref m54, .int 0, .int 0]))]) (tyr := []) (vx_runSW (As := [.ref h, .int (xs 1), .int (xs 2), .ref ao]) (rest := []) ⟨hx, hb, hml, hown, hts⟩ (h_key l hl0 dC dI h aT aV aS aC aO aF aL aR aX sT sK sH (xs 1) (xs 2) ao cL (fun _ => 0) H.size ) (vx_cwSW 4 hts gL_law_L_key rfl rfl rfl (by decide +kernel) ⟨Nat.le_of_ble_eq_true rfl, Nat.le_of_ble_eq_true rfl⟩) (ct_pre hP hD hK hS hA hZ [0, 1, 2] [0] rfl (by decide) rfl) rfl rfl hl.1 rfl (lv_room (Nat.le_of_ble_eq_true rfl)) dL_law_510 ⟨Nat.le_of_ble_eq_true rfl, Nat.le_of_ble_eq_true rfl⟩) hP hD hK hS hA [0, 1, 2] [3] [] rfl rfl (by decide) (by decide) rfl (fun r_6 u H locs w_7 hP hD hK hS => ?_)
  obtain ⟨o_5, rfl⟩ : ∃ z, z = u := ⟨_, rfl⟩
  try dsimp only at w_7
  have hP : va_P (dC, dI) vwCl [(mo, .inr (12, [.int 0, .ref m1, .int 0, .ref m3, .ref m4, .ref m5, .ref m6, .ref m7, .ref m8, .ref m9, .int 0, .ref m11, .ref m12, .ref m13, .ref m14, .ref m15, .ref m16, .ref m17, .ref m18, .ref m19, .int 0, .int 0, .int 0, .int 0, .ref m24, .int 0, .ref m26, .int 0, .ref m28, .ref m29, .ref m30, .ref m31, .ref m32, .ref m33, .ref m34, .ref m35, .ref m36, .int 0, .int 0, .int 0, .int 0, .int 0, .int (-1), .int 0, .ref m44, .ref m45, .ref m46, .ref m47, .ref m48, .int 0, .ref m50, .ref m51, .ref m52, .ref m53, .ref m54, .int 0, .int 0])), (ao, .inl (cL, 1, .inr (.inl o_5)))] H := hP
  have hD : va_D A [(mo, .inr (12, [.int 0, .ref m1, .int 0, .ref m3, .ref m4, .ref m5, .ref m6, .ref m7, .ref m8, .ref m9, .int 0, .ref m11, .ref m12, .ref m13, .ref m14, .ref m15, .ref m16, .ref m17, .ref m18, .ref m19, .int 0, .int 0, .int 0, .int 0, .ref m24, .int 0, .ref m26, .int 0, .ref m28, .ref m29, .ref m30, .ref m31, .ref m32, .ref m33, .ref m34, .ref m35, .ref m36, .int 0, .int 0, .int 0, .int 0, .int 0, .int (-1), .int 0, .ref m44, .ref m45, .ref m46, .ref m47, .ref m48, .int 0, .ref m50, .ref m51, .ref m52, .ref m53, .ref m54, .int 0, .int 0])), (ao, .inl (cL, 1, .inr (.inl o_5)))] := hD
  have hK : va_K (dC, dI) vwCl [(cL, .long)] s := hK
  refine W.widen (k := 1001) (n := 200006) (Nat.le_of_ble_eq_true rfl) (Nat.le_of_ble_eq_true rfl) ?_
  obtain rfl : r_6 = 1 := w_7
  refine lv_istore (lv' := [(5, .int 1), (4, .int 0), (3, .ref ao), (2, .ref mo), (1, .ref h), (0, .ref b)]) hx hb dL_law_513 hl (by decide) rfl (fun ls hl => ?_)
  refine lv_aload_n hx hb dL_law_515 rfl (lv_at hl 3 rfl) ?_
  refine lv_aload_n hx hb dL_law_516 rfl (lv_at hl 5 rfl) ?_
  refine lv_iload hx hb dL_law_517 (lv_at hl 1 rfl) ?_
  refine lv_iconst (v := 1) hx hb dL_law_519 (by decide) ?_
  refine lv_iadd hx hb dL_law_520 ?_
  refine lv_topi (fun z_8 ez_8 => ?_)
  obtain rfl : z_8 = 1 := ez_8.trans (by decide)
  refine va_sld hx hb hX hbl hbA hS (by unfold vp_in; decide) dL_law_521 ?_
  refine lv_topi (fun z_9 ez_9 => ?_)
  obtain rfl : z_9 = xs 1 := ez_9.trans (congrArg xs (by decide))
  refine lv_aload_n hx hb dL_law_522 rfl (lv_at hl 5 rfl) ?_
  refine lv_iload hx hb dL_law_523 (lv_at hl 1 rfl) ?_
  refine lv_iconst (v := 2) hx hb dL_law_525 (by decide) ?_
  refine lv_iadd hx hb dL_law_526 ?_
  refine lv_topi (fun z_10 ez_10 => ?_)
  obtain rfl : z_10 = 2 := ez_10.trans (by decide)
  refine va_sld hx hb hX hbl hbA hS (by unfold vp_in; decide) dL_law_527 ?_
  refine lv_topi (fun z_11 ez_11 => ?_)
  obtain rfl : z_11 = xs 2 := ez_11.trans (congrArg xs (by decide))
  refine ct_i (wr := [(ao, .inl (cL, 1, .inr (.inl o_5)))]) (tyr := [(cL, .long)]) (va_runV (As := [.int (xs 1), .int (xs 2)]) (rest := []) ⟨hx, hb, hml, hown, hts⟩ (m_key l hl0 dC dI mo m1 m3 m4 m5 m6 m7 m8 m9 m11 m12 m13 m14 m15 m16 m17 m18 m19 m24 m26 m28 m29 m30 m31 m32 m33 m34 m35 m36 m44 m45 m46 m47 m48 m50 m51 m52 m53 m54 (xs 1) (xs 2) H.size ) (cwV 2 hts gL_law_X12_key rfl rfl rfl (by decide +kernel) ⟨Nat.le_of_ble_eq_true rfl, Nat.le_of_ble_eq_true rfl⟩) (ct_preV (ci := 12) (q0 := 0) hP hD hK hS hA hZ rfl rfl [0] [] rfl (by decide) rfl) rfl rfl hl.1 rfl (lv_room (Nat.le_of_ble_eq_true rfl)) dL_law_528 ⟨Nat.le_of_ble_eq_true rfl, Nat.le_of_ble_eq_true rfl⟩) hP hD hK hS hA [0] [1] [0] rfl rfl (by decide) (by decide) rfl (fun r_13 u H locs w_14 hP hD hK hS => ?_)
  obtain ⟨o_12, rfl⟩ : ∃ z, z = u := ⟨_, rfl⟩
  try dsimp only at w_14
  have hP : va_P (dC, dI) vwCl [(ao, .inl (cL, 1, .inr (.inl o_5))), (mo, .inr (12, [.int o_12, .ref m1, .int 0, .ref m3, .ref m4, .ref m5, .ref m6, .ref m7, .ref m8, .ref m9, .int 0, .ref m11, .ref m12, .ref m13, .ref m14, .ref m15, .ref m16, .ref m17, .ref m18, .ref m19, .int 0, .int 0, .int 0, .int 0, .ref m24, .int 0, .ref m26, .int 0, .ref m28, .ref m29, .ref m30, .ref m31, .ref m32, .ref m33, .ref m34, .ref m35, .ref m36, .int 0, .int 0, .int 0, .int 0, .int 0, .int (-1), .int 0, .ref m44, .ref m45, .ref m46, .ref m47, .ref m48, .int 0, .ref m50, .ref m51, .ref m52, .ref m53, .ref m54, .int 0, .int 0]))] H := hP
  have hD : va_D A [(ao, .inl (cL, 1, .inr (.inl o_5))), (mo, .inr (12, [.int o_12, .ref m1, .int 0, .ref m3, .ref m4, .ref m5, .ref m6, .ref m7, .ref m8, .ref m9, .int 0, .ref m11, .ref m12, .ref m13, .ref m14, .ref m15, .ref m16, .ref m17, .ref m18, .ref m19, .int 0, .int 0, .int 0, .int 0, .ref m24, .int 0, .ref m26, .int 0, .ref m28, .ref m29, .ref m30, .ref m31, .ref m32, .ref m33, .ref m34, .ref m35, .ref m36, .int 0, .int 0, .int 0, .int 0, .int 0, .int (-1), .int 0, .ref m44, .ref m45, .ref m46, .ref m47, .ref m48, .int 0, .ref m50, .ref m51, .ref m52, .ref m53, .ref m54, .int 0, .int 0]))] := hD
  have hK : va_K (dC, dI) vwCl [(cL, .long)] s := hK
  obtain rfl : o_12 = 1 := w_14
  refine lv_istore (lv' := [(6, .int r_13), (5, .int 1), (4, .int 0), (3, .ref ao), (2, .ref mo), (1, .ref h), (0, .ref b)]) hx hb dL_law_531 hl (by decide) rfl (fun ls hl => ?_)
  refine lv_aload_n hx hb dL_law_533 rfl (lv_at hl 4 rfl) ?_
  refine ct_i (wr := [(ao, .inl (cL, 1, .inr (.inl o_5)))]) (tyr := [(cL, .long)]) (va_runV (As := []) (rest := []) ⟨hx, hb, hml, hown, hts⟩ (m_thrown l hl0 dC dI mo m1 m3 m4 m5 m6 m7 m8 m9 m11 m12 m13 m14 m15 m16 m17 m18 m19 m24 m26 m28 m29 m30 m31 m32 m33 m34 m35 m36 m44 m45 m46 m47 m48 m50 m51 m52 m53 m54 1 0 0 0 0 0 0 (-1) 0 H.size ) (cwV 0 hts gL_law_X12_thrown rfl rfl rfl (by decide +kernel) ⟨Nat.le_of_ble_eq_true rfl, Nat.le_of_ble_eq_true rfl⟩) (ct_preV (ci := 12) (q0 := 1) hP hD hK hS hA hZ rfl rfl [1] [] rfl (by decide) rfl) rfl rfl hl.1 rfl (lv_room (Nat.le_of_ble_eq_true rfl)) dL_law_534 ⟨Nat.le_of_ble_eq_true rfl, Nat.le_of_ble_eq_true rfl⟩) hP hD hK hS hA [1] [0] [0] rfl rfl (by decide) (by decide) rfl (fun r_15 u H locs w_16 hP hD hK hS => ?_)
  try dsimp only at w_16
  have hP : va_P (dC, dI) vwCl [(ao, .inl (cL, 1, .inr (.inl o_5)))] H := hP
  have hD : va_D A [(ao, .inl (cL, 1, .inr (.inl o_5)))] := hD
  have hK : va_K (dC, dI) vwCl [(cL, .long)] s := hK
  obtain rfl : r_15 = 1 := w_16
  refine lv_iload hx hb dL_law_537 (lv_at hl 1 rfl) ?_
  refine lv_icmp_eq (tgt := 544) hx hb dL_law_539 (by decide) (fun _ => ?_) (fun c_17 => absurd c_17 (by decide))
  refine lv_iload hx hb dL_law_544 (lv_at hl 1 rfl) ?_
  refine lv_if_ne (tgt := 561) hx hb dL_law_546 (by decide) (fun _ => ?_) (fun c_18 => absurd c_18 (by decide))
  refine lv_goto (tgt := 1620) hx hb dL_law_561 (by decide) ?_
  refine W.widen (k := 2000) (n := 300000) (Nat.le_of_ble_eq_true rfl) (Nat.le_of_ble_eq_true rfl) ?_
  exact K _ _ _ hS (lv_sub hl [2, 6] rfl)

set_option maxHeartbeats 4000000 in
set_option maxRecDepth 100000 in
/-- the law at many -/
theorem law_many {p : Program} {l : Launch} {e : Env} {s : State} {m : MethodId} {below : List Frame} {meth : Method} {c : Code} {Q : State → Prop} {b : Nat} {xs : Nat → Int32} {A : Nat → Prop} {H : Heap} {locs : List Loc} {ls : Array Slot} (hl0 : l.stackTraces = false) (dC : Nat → ClassId) (dI : Nat → Nat → Nat) (h : Nat) (aT : Nat) (aV : Nat) (aS : Nat) (aC : Nat) (aO : Nat) (aF : Nat) (aL : Nat) (aR : Nat) (aX : Nat) (sT : Nat) (sK : Nat) (sH : Nat) (ao : Nat) (cL : ClassId) (mo : Nat) (m1 : Nat) (m3 : Nat) (m4 : Nat) (m5 : Nat) (m6 : Nat) (m7 : Nat) (m8 : Nat) (m9 : Nat) (m11 : Nat) (m12 : Nat) (m13 : Nat) (m14 : Nat) (m15 : Nat) (m16 : Nat) (m17 : Nat) (m18 : Nat) (m19 : Nat) (m24 : Nat) (m26 : Nat) (m28 : Nat) (m29 : Nat) (m30 : Nat) (m31 : Nat) (m32 : Nat) (m33 : Nat) (m34 : Nat) (m35 : Nat) (m36 : Nat) (m44 : Nat) (m45 : Nat) (m46 : Nat) (m47 : Nat) (m48 : Nat) (m50 : Nat) (m51 : Nat) (m52 : Nat) (m53 : Nat) (m54 : Nat) (hx : p.tables.exec = Jvm.exec) (hb : c.code = cL_law) (hml : c.maxLocals = 7) (hown : s.vm.findClass RL = some m.cls) (hts : ∀ w ∈ wsL_law, w.before #[Value.ref b] s = true) (hX : va_X b 6 xs s s.heap) (hbl : b < s.heap.size) (hbA : ¬ A b) (hA : ∀ q : Nat, s.heap.size ≤ q → A q) (hZ : tx_St A s) (hl : lv_has ls 7 [(4, .int 0), (3, .ref ao), (2, .ref mo), (1, .ref h), (0, .ref b)]) (hP : va_P (dC, dI) vwCl [(h, .inr (11, [.ref aT, .ref aV, .ref aS, .ref aC, .ref aO, .ref aF, .ref aL, .ref aR, .ref aX, .int 0, .int 0, .int 0])), (aS, .inr (9, [.ref sT, .ref sK, .ref sH, .int 0, .int 0, .int 0, .int 0, .int 0])), (ao, .inl (cL, 1, .inr (.inl (fun _ => 0)))), (mo, .inr (12, [.int 0, .ref m1, .int 0, .ref m3, .ref m4, .ref m5, .ref m6, .ref m7, .ref m8, .ref m9, .int 0, .ref m11, .ref m12, .ref m13, .ref m14, .ref m15, .ref m16, .ref m17, .ref m18, .ref m19, .int 0, .int 0, .int 0, .int 0, .ref m24, .int 0, .ref m26, .int 0, .ref m28, .ref m29, .ref m30, .ref m31, .ref m32, .ref m33, .ref m34, .ref m35, .ref m36, .int 0, .int 0, .int 0, .int 0, .int 0, .int (-1), .int 0, .ref m44, .ref m45, .ref m46, .ref m47, .ref m48, .int 0, .ref m50, .ref m51, .ref m52, .ref m53, .ref m54, .int 0, .int 0]))] H) (hD : va_D A [(h, .inr (11, [.ref aT, .ref aV, .ref aS, .ref aC, .ref aO, .ref aF, .ref aL, .ref aR, .ref aX, .int 0, .int 0, .int 0])), (aS, .inr (9, [.ref sT, .ref sK, .ref sH, .int 0, .int 0, .int 0, .int 0, .int 0])), (ao, .inl (cL, 1, .inr (.inl (fun _ => 0)))), (mo, .inr (12, [.int 0, .ref m1, .int 0, .ref m3, .ref m4, .ref m5, .ref m6, .ref m7, .ref m8, .ref m9, .int 0, .ref m11, .ref m12, .ref m13, .ref m14, .ref m15, .ref m16, .ref m17, .ref m18, .ref m19, .int 0, .int 0, .int 0, .int 0, .ref m24, .int 0, .ref m26, .int 0, .ref m28, .ref m29, .ref m30, .ref m31, .ref m32, .ref m33, .ref m34, .ref m35, .ref m36, .int 0, .int 0, .int 0, .int 0, .int 0, .int (-1), .int 0, .ref m44, .ref m45, .ref m46, .ref m47, .ref m48, .int 0, .ref m50, .ref m51, .ref m52, .ref m53, .ref m54, .int 0, .int 0]))]) (hK : va_K (dC, dI) vwCl [(cL, .long)] s) (hS : va_S A s.heap H locs)
    (K : ∀ (H : Heap) (locs : List Loc) (ls : Array Slot), va_S A s.heap H locs → lv_has ls 7 [(4, .int 0), (0, .ref b)] → W p l e room_1 s m #[Value.ref b] below meth c H locs 2000 300000 Q (F0 m 1620 ls [])) : W p l e room_1 s m #[Value.ref b] below meth c H locs 1000 200000 Q (F0 m 792 ls []) := by
  refine lv_aload_n hx hb dL_law_792 rfl (lv_at hl 3 rfl) ?_
  refine lv_aload_n hx hb dL_law_793 rfl (lv_at hl 4 rfl) ?_
  refine lv_iload hx hb dL_law_794 (lv_at hl 0 rfl) ?_
  refine lv_iconst (v := 1) hx hb dL_law_796 (by decide) ?_
  refine lv_iadd hx hb dL_law_797 ?_
  refine lv_topi (fun z_1 ez_1 => ?_)
  obtain rfl : z_1 = 1 := ez_1.trans (by decide)
  refine va_sld hx hb hX hbl hbA hS (by unfold vp_in; decide) dL_law_798 ?_
  refine lv_topi (fun z_2 ez_2 => ?_)
  obtain rfl : z_2 = xs 1 := ez_2.trans (congrArg xs (by decide))
  refine lv_aload_n hx hb dL_law_799 rfl (lv_at hl 4 rfl) ?_
  refine lv_iload hx hb dL_law_800 (lv_at hl 0 rfl) ?_
  refine lv_iconst (v := 2) hx hb dL_law_802 (by decide) ?_
  refine lv_iadd hx hb dL_law_803 ?_
  refine lv_topi (fun z_3 ez_3 => ?_)
  obtain rfl : z_3 = 2 := ez_3.trans (by decide)
  refine va_sld hx hb hX hbl hbA hS (by unfold vp_in; decide) dL_law_804 ?_
  refine lv_topi (fun z_4 ez_4 => ?_)
  obtain rfl : z_4 = xs 2 := ez_4.trans (congrArg xs (by decide))
  refine lv_aload_n hx hb dL_law_805 rfl (lv_at hl 4 rfl) ?_
  refine lv_iload hx hb dL_law_806 (lv_at hl 0 rfl) ?_
  refine lv_iconst (v := 3) hx hb dL_law_808 (by decide) ?_
  refine lv_iadd hx hb dL_law_809 ?_
  refine lv_topi (fun z_5 ez_5 => ?_)
  obtain rfl : z_5 = 3 := ez_5.trans (by decide)
  refine va_sld hx hb hX hbl hbA hS (by unfold vp_in; decide) dL_law_810 ?_
  refine lv_topi (fun z_6 ez_6 => ?_)
  obtain rfl : z_6 = xs 3 := ez_6.trans (congrArg xs (by decide))
  refine lv_aload_n hx hb dL_law_811 rfl (lv_at hl 1 rfl) ?_
  refine ct_i (wr := [(mo, .inr (12, [.int 0, .ref m1, .int 0, .ref m3, .ref m4, .ref m5, .ref m6, .ref m7, .ref m8, .ref m9, .int 0, .ref m11, .ref m12, .ref m13, .ref m14, .ref m15, .ref m16, .ref m17, .ref m18, .ref m19, .int 0, .int 0, .int 0, .int 0, .ref m24, .int 0, .ref m26, .int 0, .ref m28, .ref m29, .ref m30, .ref m31, .ref m32, .ref m33, .ref m34, .ref m35, .ref m36, .int 0, .int 0, .int 0, .int 0, .int 0, .int (-1), .int 0, .ref m44, .ref m45, .ref m46, .ref m47, .ref m48, .int 0, .ref m50, .ref m51, .ref m52, .ref m53, .ref m54, .int 0, .int 0]))]) (tyr := []) (vx_runSW (As := [.ref h, .int (xs 1), .int (xs 2), .int (xs 3), .ref ao]) (rest := []) ⟨hx, hb, hml, hown, hts⟩ (h_many l hl0 dC dI h aT aV aS aC aO aF aL aR aX sT sK sH (xs 1) (xs 2) (xs 3) ao cL (fun _ => 0) H.size ) (vx_cwSW 5 hts gL_law_L_many rfl rfl rfl (by decide +kernel) ⟨Nat.le_of_ble_eq_true rfl, Nat.le_of_ble_eq_true rfl⟩) (ct_pre hP hD hK hS hA hZ [0, 1, 2] [0] rfl (by decide) rfl) rfl rfl hl.1 rfl (lv_room (Nat.le_of_ble_eq_true rfl)) dL_law_812 ⟨Nat.le_of_ble_eq_true rfl, Nat.le_of_ble_eq_true rfl⟩) hP hD hK hS hA [0, 1, 2] [3] [] rfl rfl (by decide) (by decide) rfl (fun r_8 u H locs w_9 hP hD hK hS => ?_)
  obtain ⟨o_7, rfl⟩ : ∃ z, z = u := ⟨_, rfl⟩
  try dsimp only at w_9
  have hP : va_P (dC, dI) vwCl [(mo, .inr (12, [.int 0, .ref m1, .int 0, .ref m3, .ref m4, .ref m5, .ref m6, .ref m7, .ref m8, .ref m9, .int 0, .ref m11, .ref m12, .ref m13, .ref m14, .ref m15, .ref m16, .ref m17, .ref m18, .ref m19, .int 0, .int 0, .int 0, .int 0, .ref m24, .int 0, .ref m26, .int 0, .ref m28, .ref m29, .ref m30, .ref m31, .ref m32, .ref m33, .ref m34, .ref m35, .ref m36, .int 0, .int 0, .int 0, .int 0, .int 0, .int (-1), .int 0, .ref m44, .ref m45, .ref m46, .ref m47, .ref m48, .int 0, .ref m50, .ref m51, .ref m52, .ref m53, .ref m54, .int 0, .int 0])), (ao, .inl (cL, 1, .inr (.inl o_7)))] H := hP
  have hD : va_D A [(mo, .inr (12, [.int 0, .ref m1, .int 0, .ref m3, .ref m4, .ref m5, .ref m6, .ref m7, .ref m8, .ref m9, .int 0, .ref m11, .ref m12, .ref m13, .ref m14, .ref m15, .ref m16, .ref m17, .ref m18, .ref m19, .int 0, .int 0, .int 0, .int 0, .ref m24, .int 0, .ref m26, .int 0, .ref m28, .ref m29, .ref m30, .ref m31, .ref m32, .ref m33, .ref m34, .ref m35, .ref m36, .int 0, .int 0, .int 0, .int 0, .int 0, .int (-1), .int 0, .ref m44, .ref m45, .ref m46, .ref m47, .ref m48, .int 0, .ref m50, .ref m51, .ref m52, .ref m53, .ref m54, .int 0, .int 0])), (ao, .inl (cL, 1, .inr (.inl o_7)))] := hD
  have hK : va_K (dC, dI) vwCl [(cL, .long)] s := hK
  refine W.widen (k := 1003) (n := 200018) (Nat.le_of_ble_eq_true rfl) (Nat.le_of_ble_eq_true rfl) ?_
  rcases w_9 with ⟨rfl, h_10⟩ | ⟨rfl, h_10⟩
  · skip
    refine lv_istore (lv' := [(5, .int 1), (4, .int 0), (3, .ref ao), (2, .ref mo), (1, .ref h), (0, .ref b)]) hx hb dL_law_815 hl (by decide) rfl (fun ls hl => ?_)
    refine lv_aload_n hx hb dL_law_817 rfl (lv_at hl 3 rfl) ?_
    refine lv_aload_n hx hb dL_law_818 rfl (lv_at hl 5 rfl) ?_
    refine lv_iload hx hb dL_law_819 (lv_at hl 1 rfl) ?_
    refine lv_iconst (v := 1) hx hb dL_law_821 (by decide) ?_
    refine lv_iadd hx hb dL_law_822 ?_
    refine lv_topi (fun z_11 ez_11 => ?_)
    obtain rfl : z_11 = 1 := ez_11.trans (by decide)
    refine va_sld hx hb hX hbl hbA hS (by unfold vp_in; decide) dL_law_823 ?_
    refine lv_topi (fun z_12 ez_12 => ?_)
    obtain rfl : z_12 = xs 1 := ez_12.trans (congrArg xs (by decide))
    refine lv_aload_n hx hb dL_law_824 rfl (lv_at hl 5 rfl) ?_
    refine lv_iload hx hb dL_law_825 (lv_at hl 1 rfl) ?_
    refine lv_iconst (v := 2) hx hb dL_law_827 (by decide) ?_
    refine lv_iadd hx hb dL_law_828 ?_
    refine lv_topi (fun z_13 ez_13 => ?_)
    obtain rfl : z_13 = 2 := ez_13.trans (by decide)
    refine va_sld hx hb hX hbl hbA hS (by unfold vp_in; decide) dL_law_829 ?_
    refine lv_topi (fun z_14 ez_14 => ?_)
    obtain rfl : z_14 = xs 2 := ez_14.trans (congrArg xs (by decide))
    refine lv_aload_n hx hb dL_law_830 rfl (lv_at hl 5 rfl) ?_
    refine lv_iload hx hb dL_law_831 (lv_at hl 1 rfl) ?_
    refine lv_iconst (v := 3) hx hb dL_law_833 (by decide) ?_
    refine lv_iadd hx hb dL_law_834 ?_
    refine lv_topi (fun z_15 ez_15 => ?_)
    obtain rfl : z_15 = 3 := ez_15.trans (by decide)
    refine va_sld hx hb hX hbl hbA hS (by unfold vp_in; decide) dL_law_835 ?_
    refine lv_topi (fun z_16 ez_16 => ?_)
    obtain rfl : z_16 = xs 3 := ez_16.trans (congrArg xs (by decide))
    refine ct_i (wr := [(ao, .inl (cL, 1, .inr (.inl o_7)))]) (tyr := [(cL, .long)]) (va_runV (As := [.int (xs 1), .int (xs 2), .int (xs 3)]) (rest := []) ⟨hx, hb, hml, hown, hts⟩ (m_many l hl0 dC dI mo m1 m3 m4 m5 m6 m7 m8 m9 m11 m12 m13 m14 m15 m16 m17 m18 m19 m24 m26 m28 m29 m30 m31 m32 m33 m34 m35 m36 m44 m45 m46 m47 m48 m50 m51 m52 m53 m54 (xs 1) (xs 2) (xs 3) H.size ) (cwV 3 hts gL_law_X12_many rfl rfl rfl (by decide +kernel) ⟨Nat.le_of_ble_eq_true rfl, Nat.le_of_ble_eq_true rfl⟩) (ct_preV (ci := 12) (q0 := 0) hP hD hK hS hA hZ rfl rfl [0] [] rfl (by decide) rfl) rfl rfl hl.1 rfl (lv_room (Nat.le_of_ble_eq_true rfl)) dL_law_836 ⟨Nat.le_of_ble_eq_true rfl, Nat.le_of_ble_eq_true rfl⟩) hP hD hK hS hA [0] [1] [0] rfl rfl (by decide) (by decide) rfl (fun r_18 u H locs w_19 hP hD hK hS => ?_)
    obtain ⟨o_17, rfl⟩ : ∃ z, z = u := ⟨_, rfl⟩
    try dsimp only at w_19
    have hP : va_P (dC, dI) vwCl [(ao, .inl (cL, 1, .inr (.inl o_7))), (mo, .inr (12, [.int o_17, .ref m1, .int 0, .ref m3, .ref m4, .ref m5, .ref m6, .ref m7, .ref m8, .ref m9, .int 0, .ref m11, .ref m12, .ref m13, .ref m14, .ref m15, .ref m16, .ref m17, .ref m18, .ref m19, .int 0, .int 0, .int 0, .int 0, .ref m24, .int 0, .ref m26, .int 0, .ref m28, .ref m29, .ref m30, .ref m31, .ref m32, .ref m33, .ref m34, .ref m35, .ref m36, .int 0, .int 0, .int 0, .int 0, .int 0, .int (-1), .int 0, .ref m44, .ref m45, .ref m46, .ref m47, .ref m48, .int 0, .ref m50, .ref m51, .ref m52, .ref m53, .ref m54, .int 0, .int 0]))] H := hP
    have hD : va_D A [(ao, .inl (cL, 1, .inr (.inl o_7))), (mo, .inr (12, [.int o_17, .ref m1, .int 0, .ref m3, .ref m4, .ref m5, .ref m6, .ref m7, .ref m8, .ref m9, .int 0, .ref m11, .ref m12, .ref m13, .ref m14, .ref m15, .ref m16, .ref m17, .ref m18, .ref m19, .int 0, .int 0, .int 0, .int 0, .ref m24, .int 0, .ref m26, .int 0, .ref m28, .ref m29, .ref m30, .ref m31, .ref m32, .ref m33, .ref m34, .ref m35, .ref m36, .int 0, .int 0, .int 0, .int 0, .int 0, .int (-1), .int 0, .ref m44, .ref m45, .ref m46, .ref m47, .ref m48, .int 0, .ref m50, .ref m51, .ref m52, .ref m53, .ref m54, .int 0, .int 0]))] := hD
    have hK : va_K (dC, dI) vwCl [(cL, .long)] s := hK
    rcases w_19 with ⟨rfl, q_20⟩ | ⟨rfl, q_20⟩
    · skip
      refine lv_istore (lv' := [(6, .int r_18), (5, .int 1), (4, .int 0), (3, .ref ao), (2, .ref mo), (1, .ref h), (0, .ref b)]) hx hb dL_law_839 hl (by decide) rfl (fun ls hl => ?_)
      refine lv_aload_n hx hb dL_law_841 rfl (lv_at hl 4 rfl) ?_
      refine ct_i (wr := [(ao, .inl (cL, 1, .inr (.inl o_7)))]) (tyr := [(cL, .long)]) (va_runV (As := []) (rest := []) ⟨hx, hb, hml, hown, hts⟩ (m_thrown l hl0 dC dI mo m1 m3 m4 m5 m6 m7 m8 m9 m11 m12 m13 m14 m15 m16 m17 m18 m19 m24 m26 m28 m29 m30 m31 m32 m33 m34 m35 m36 m44 m45 m46 m47 m48 m50 m51 m52 m53 m54 1 0 0 0 0 0 0 (-1) 0 H.size ) (cwV 0 hts gL_law_X12_thrown rfl rfl rfl (by decide +kernel) ⟨Nat.le_of_ble_eq_true rfl, Nat.le_of_ble_eq_true rfl⟩) (ct_preV (ci := 12) (q0 := 1) hP hD hK hS hA hZ rfl rfl [1] [] rfl (by decide) rfl) rfl rfl hl.1 rfl (lv_room (Nat.le_of_ble_eq_true rfl)) dL_law_842 ⟨Nat.le_of_ble_eq_true rfl, Nat.le_of_ble_eq_true rfl⟩) hP hD hK hS hA [1] [0] [0] rfl rfl (by decide) (by decide) rfl (fun r_21 u H locs w_22 hP hD hK hS => ?_)
      try dsimp only at w_22
      have hP : va_P (dC, dI) vwCl [(ao, .inl (cL, 1, .inr (.inl o_7)))] H := hP
      have hD : va_D A [(ao, .inl (cL, 1, .inr (.inl o_7)))] := hD
      have hK : va_K (dC, dI) vwCl [(cL, .long)] s := hK
      obtain rfl : r_21 = 1 := w_22
      refine lv_iload hx hb dL_law_845 (lv_at hl 1 rfl) ?_
      refine lv_icmp_eq (tgt := 852) hx hb dL_law_847 (by decide) (fun _ => ?_) (fun c_23 => absurd c_23 (by decide))
      refine lv_iload hx hb dL_law_852 (lv_at hl 1 rfl) ?_
      refine lv_if_ne (tgt := 869) hx hb dL_law_854 (by decide) (fun _ => ?_) (fun c_24 => absurd c_24 (by decide))
      refine lv_goto (tgt := 1620) hx hb dL_law_869 (by decide) ?_
      refine W.widen (k := 2000) (n := 300000) (Nat.le_of_ble_eq_true rfl) (Nat.le_of_ble_eq_true rfl) ?_
      exact K _ _ _ hS (lv_sub hl [2, 6] rfl)
    · skip
      exact absurd h_10 q_20
  · skip
    refine lv_istore (lv' := [(5, .int 2), (4, .int 0), (3, .ref ao), (2, .ref mo), (1, .ref h), (0, .ref b)]) hx hb dL_law_815 hl (by decide) rfl (fun ls hl => ?_)
    refine lv_aload_n hx hb dL_law_817 rfl (lv_at hl 3 rfl) ?_
    refine lv_aload_n hx hb dL_law_818 rfl (lv_at hl 5 rfl) ?_
    refine lv_iload hx hb dL_law_819 (lv_at hl 1 rfl) ?_
    refine lv_iconst (v := 1) hx hb dL_law_821 (by decide) ?_
    refine lv_iadd hx hb dL_law_822 ?_
    refine lv_topi (fun z_25 ez_25 => ?_)
    obtain rfl : z_25 = 1 := ez_25.trans (by decide)
    refine va_sld hx hb hX hbl hbA hS (by unfold vp_in; decide) dL_law_823 ?_
    refine lv_topi (fun z_26 ez_26 => ?_)
    obtain rfl : z_26 = xs 1 := ez_26.trans (congrArg xs (by decide))
    refine lv_aload_n hx hb dL_law_824 rfl (lv_at hl 5 rfl) ?_
    refine lv_iload hx hb dL_law_825 (lv_at hl 1 rfl) ?_
    refine lv_iconst (v := 2) hx hb dL_law_827 (by decide) ?_
    refine lv_iadd hx hb dL_law_828 ?_
    refine lv_topi (fun z_27 ez_27 => ?_)
    obtain rfl : z_27 = 2 := ez_27.trans (by decide)
    refine va_sld hx hb hX hbl hbA hS (by unfold vp_in; decide) dL_law_829 ?_
    refine lv_topi (fun z_28 ez_28 => ?_)
    obtain rfl : z_28 = xs 2 := ez_28.trans (congrArg xs (by decide))
    refine lv_aload_n hx hb dL_law_830 rfl (lv_at hl 5 rfl) ?_
    refine lv_iload hx hb dL_law_831 (lv_at hl 1 rfl) ?_
    refine lv_iconst (v := 3) hx hb dL_law_833 (by decide) ?_
    refine lv_iadd hx hb dL_law_834 ?_
    refine lv_topi (fun z_29 ez_29 => ?_)
    obtain rfl : z_29 = 3 := ez_29.trans (by decide)
    refine va_sld hx hb hX hbl hbA hS (by unfold vp_in; decide) dL_law_835 ?_
    refine lv_topi (fun z_30 ez_30 => ?_)
    obtain rfl : z_30 = xs 3 := ez_30.trans (congrArg xs (by decide))
    refine ct_i (wr := [(ao, .inl (cL, 1, .inr (.inl o_7)))]) (tyr := [(cL, .long)]) (va_runV (As := [.int (xs 1), .int (xs 2), .int (xs 3)]) (rest := []) ⟨hx, hb, hml, hown, hts⟩ (m_many l hl0 dC dI mo m1 m3 m4 m5 m6 m7 m8 m9 m11 m12 m13 m14 m15 m16 m17 m18 m19 m24 m26 m28 m29 m30 m31 m32 m33 m34 m35 m36 m44 m45 m46 m47 m48 m50 m51 m52 m53 m54 (xs 1) (xs 2) (xs 3) H.size ) (cwV 3 hts gL_law_X12_many rfl rfl rfl (by decide +kernel) ⟨Nat.le_of_ble_eq_true rfl, Nat.le_of_ble_eq_true rfl⟩) (ct_preV (ci := 12) (q0 := 0) hP hD hK hS hA hZ rfl rfl [0] [] rfl (by decide) rfl) rfl rfl hl.1 rfl (lv_room (Nat.le_of_ble_eq_true rfl)) dL_law_836 ⟨Nat.le_of_ble_eq_true rfl, Nat.le_of_ble_eq_true rfl⟩) hP hD hK hS hA [0] [1] [0] rfl rfl (by decide) (by decide) rfl (fun r_32 u H locs w_33 hP hD hK hS => ?_)
    obtain ⟨o_31, rfl⟩ : ∃ z, z = u := ⟨_, rfl⟩
    try dsimp only at w_33
    have hP : va_P (dC, dI) vwCl [(ao, .inl (cL, 1, .inr (.inl o_7))), (mo, .inr (12, [.int o_31, .ref m1, .int 0, .ref m3, .ref m4, .ref m5, .ref m6, .ref m7, .ref m8, .ref m9, .int 0, .ref m11, .ref m12, .ref m13, .ref m14, .ref m15, .ref m16, .ref m17, .ref m18, .ref m19, .int 0, .int 0, .int 0, .int 0, .ref m24, .int 0, .ref m26, .int 0, .ref m28, .ref m29, .ref m30, .ref m31, .ref m32, .ref m33, .ref m34, .ref m35, .ref m36, .int 0, .int 0, .int 0, .int 0, .int 0, .int (-1), .int 0, .ref m44, .ref m45, .ref m46, .ref m47, .ref m48, .int 0, .ref m50, .ref m51, .ref m52, .ref m53, .ref m54, .int 0, .int 0]))] H := hP
    have hD : va_D A [(ao, .inl (cL, 1, .inr (.inl o_7))), (mo, .inr (12, [.int o_31, .ref m1, .int 0, .ref m3, .ref m4, .ref m5, .ref m6, .ref m7, .ref m8, .ref m9, .int 0, .ref m11, .ref m12, .ref m13, .ref m14, .ref m15, .ref m16, .ref m17, .ref m18, .ref m19, .int 0, .int 0, .int 0, .int 0, .ref m24, .int 0, .ref m26, .int 0, .ref m28, .ref m29, .ref m30, .ref m31, .ref m32, .ref m33, .ref m34, .ref m35, .ref m36, .int 0, .int 0, .int 0, .int 0, .int 0, .int (-1), .int 0, .ref m44, .ref m45, .ref m46, .ref m47, .ref m48, .int 0, .ref m50, .ref m51, .ref m52, .ref m53, .ref m54, .int 0, .int 0]))] := hD
    have hK : va_K (dC, dI) vwCl [(cL, .long)] s := hK
    rcases w_33 with ⟨rfl, q_34⟩ | ⟨rfl, q_34⟩
    · skip
      exact absurd q_34 h_10
    · skip
      refine lv_istore (lv' := [(6, .int r_32), (5, .int 2), (4, .int 0), (3, .ref ao), (2, .ref mo), (1, .ref h), (0, .ref b)]) hx hb dL_law_839 hl (by decide) rfl (fun ls hl => ?_)
      refine lv_aload_n hx hb dL_law_841 rfl (lv_at hl 4 rfl) ?_
      refine ct_i (wr := [(ao, .inl (cL, 1, .inr (.inl o_7)))]) (tyr := [(cL, .long)]) (va_runV (As := []) (rest := []) ⟨hx, hb, hml, hown, hts⟩ (m_thrown l hl0 dC dI mo m1 m3 m4 m5 m6 m7 m8 m9 m11 m12 m13 m14 m15 m16 m17 m18 m19 m24 m26 m28 m29 m30 m31 m32 m33 m34 m35 m36 m44 m45 m46 m47 m48 m50 m51 m52 m53 m54 2 0 0 0 0 0 0 (-1) 0 H.size ) (cwV 0 hts gL_law_X12_thrown rfl rfl rfl (by decide +kernel) ⟨Nat.le_of_ble_eq_true rfl, Nat.le_of_ble_eq_true rfl⟩) (ct_preV (ci := 12) (q0 := 1) hP hD hK hS hA hZ rfl rfl [1] [] rfl (by decide) rfl) rfl rfl hl.1 rfl (lv_room (Nat.le_of_ble_eq_true rfl)) dL_law_842 ⟨Nat.le_of_ble_eq_true rfl, Nat.le_of_ble_eq_true rfl⟩) hP hD hK hS hA [1] [0] [0] rfl rfl (by decide) (by decide) rfl (fun r_35 u H locs w_36 hP hD hK hS => ?_)
      try dsimp only at w_36
      have hP : va_P (dC, dI) vwCl [(ao, .inl (cL, 1, .inr (.inl o_7)))] H := hP
      have hD : va_D A [(ao, .inl (cL, 1, .inr (.inl o_7)))] := hD
      have hK : va_K (dC, dI) vwCl [(cL, .long)] s := hK
      obtain rfl : r_35 = 2 := w_36
      refine lv_iload hx hb dL_law_845 (lv_at hl 1 rfl) ?_
      refine lv_icmp_eq (tgt := 852) hx hb dL_law_847 (by decide) (fun _ => ?_) (fun c_37 => absurd c_37 (by decide))
      refine lv_iload hx hb dL_law_852 (lv_at hl 1 rfl) ?_
      refine lv_if_ne (tgt := 869) hx hb dL_law_854 (by decide) (fun _ => ?_) (fun c_38 => absurd c_38 (by decide))
      refine lv_goto (tgt := 1620) hx hb dL_law_869 (by decide) ?_
      refine W.widen (k := 2000) (n := 300000) (Nat.le_of_ble_eq_true rfl) (Nat.le_of_ble_eq_true rfl) ?_
      exact K _ _ _ hS (lv_sub hl [2, 6] rfl)

set_option maxHeartbeats 4000000 in
set_option maxRecDepth 100000 in
/-- the law at fact -/
theorem law_fact {p : Program} {l : Launch} {e : Env} {s : State} {m : MethodId} {below : List Frame} {meth : Method} {c : Code} {Q : State → Prop} {b : Nat} {xs : Nat → Int32} {A : Nat → Prop} {H : Heap} {locs : List Loc} {ls : Array Slot} (hl0 : l.stackTraces = false) (dC : Nat → ClassId) (dI : Nat → Nat → Nat) (h : Nat) (aT : Nat) (aV : Nat) (aS : Nat) (aC : Nat) (aO : Nat) (aF : Nat) (aL : Nat) (aR : Nat) (aX : Nat) (sT : Nat) (sK : Nat) (sH : Nat) (ao : Nat) (cL : ClassId) (mo : Nat) (m1 : Nat) (m3 : Nat) (m4 : Nat) (m5 : Nat) (m6 : Nat) (m7 : Nat) (m8 : Nat) (m9 : Nat) (m11 : Nat) (m12 : Nat) (m13 : Nat) (m14 : Nat) (m15 : Nat) (m16 : Nat) (m17 : Nat) (m18 : Nat) (m19 : Nat) (m24 : Nat) (m26 : Nat) (m28 : Nat) (m29 : Nat) (m30 : Nat) (m31 : Nat) (m32 : Nat) (m33 : Nat) (m34 : Nat) (m35 : Nat) (m36 : Nat) (m44 : Nat) (m45 : Nat) (m46 : Nat) (m47 : Nat) (m48 : Nat) (m50 : Nat) (m51 : Nat) (m52 : Nat) (m53 : Nat) (m54 : Nat) (k11 : ClassId) (hx : p.tables.exec = Jvm.exec) (hb : c.code = cL_law) (hml : c.maxLocals = 7) (hown : s.vm.findClass RL = some m.cls) (hts : ∀ w ∈ wsL_law, w.before #[Value.ref b] s = true) (hX : va_X b 6 xs s s.heap) (hbl : b < s.heap.size) (hbA : ¬ A b) (hA : ∀ q : Nat, s.heap.size ≤ q → A q) (hZ : tx_St A s) (hl : lv_has ls 7 [(4, .int 0), (3, .ref ao), (2, .ref mo), (1, .ref h), (0, .ref b)]) (hP : va_P (dC, dI) vwCl [(h, .inr (11, [.ref aT, .ref aV, .ref aS, .ref aC, .ref aO, .ref aF, .ref aL, .ref aR, .ref aX, .int 0, .int 0, .int 0])), (aS, .inr (9, [.ref sT, .ref sK, .ref sH, .int 0, .int 0, .int 0, .int 0, .int 0])), (ao, .inl (cL, 1, .inr (.inl (fun _ => 0)))), (mo, .inr (12, [.int 0, .ref m1, .int 0, .ref m3, .ref m4, .ref m5, .ref m6, .ref m7, .ref m8, .ref m9, .int 0, .ref m11, .ref m12, .ref m13, .ref m14, .ref m15, .ref m16, .ref m17, .ref m18, .ref m19, .int 0, .int 0, .int 0, .int 0, .ref m24, .int 0, .ref m26, .int 0, .ref m28, .ref m29, .ref m30, .ref m31, .ref m32, .ref m33, .ref m34, .ref m35, .ref m36, .int 0, .int 0, .int 0, .int 0, .int 0, .int (-1), .int 0, .ref m44, .ref m45, .ref m46, .ref m47, .ref m48, .int 0, .ref m50, .ref m51, .ref m52, .ref m53, .ref m54, .int 0, .int 0])), (m11, .inl (k11, 3000, .inl (fun _ => 0)))] H) (hD : va_D A [(h, .inr (11, [.ref aT, .ref aV, .ref aS, .ref aC, .ref aO, .ref aF, .ref aL, .ref aR, .ref aX, .int 0, .int 0, .int 0])), (aS, .inr (9, [.ref sT, .ref sK, .ref sH, .int 0, .int 0, .int 0, .int 0, .int 0])), (ao, .inl (cL, 1, .inr (.inl (fun _ => 0)))), (mo, .inr (12, [.int 0, .ref m1, .int 0, .ref m3, .ref m4, .ref m5, .ref m6, .ref m7, .ref m8, .ref m9, .int 0, .ref m11, .ref m12, .ref m13, .ref m14, .ref m15, .ref m16, .ref m17, .ref m18, .ref m19, .int 0, .int 0, .int 0, .int 0, .ref m24, .int 0, .ref m26, .int 0, .ref m28, .ref m29, .ref m30, .ref m31, .ref m32, .ref m33, .ref m34, .ref m35, .ref m36, .int 0, .int 0, .int 0, .int 0, .int 0, .int (-1), .int 0, .ref m44, .ref m45, .ref m46, .ref m47, .ref m48, .int 0, .ref m50, .ref m51, .ref m52, .ref m53, .ref m54, .int 0, .int 0])), (m11, .inl (k11, 3000, .inl (fun _ => 0)))]) (hK : va_K (dC, dI) vwCl [(cL, .long), (k11, .boolean)] s) (hS : va_S A s.heap H locs)
    (K : ∀ (H : Heap) (locs : List Loc) (ls : Array Slot), va_S A s.heap H locs → lv_has ls 7 [(4, .int 0), (0, .ref b)] → W p l e room_1 s m #[Value.ref b] below meth c H locs 2000 300000 Q (F0 m 1620 ls [])) : W p l e room_1 s m #[Value.ref b] below meth c H locs 1000 200000 Q (F0 m 1064 ls []) := by
  refine lv_aload_n hx hb dL_law_1064 rfl (lv_at hl 3 rfl) ?_
  refine lv_aload_n hx hb dL_law_1065 rfl (lv_at hl 4 rfl) ?_
  refine lv_iload hx hb dL_law_1066 (lv_at hl 0 rfl) ?_
  refine lv_iconst (v := 1) hx hb dL_law_1068 (by decide) ?_
  refine lv_iadd hx hb dL_law_1069 ?_
  refine lv_topi (fun z_1 ez_1 => ?_)
  obtain rfl : z_1 = 1 := ez_1.trans (by decide)
  refine va_sld hx hb hX hbl hbA hS (by unfold vp_in; decide) dL_law_1070 ?_
  refine lv_topi (fun z_2 ez_2 => ?_)
  obtain rfl : z_2 = xs 1 := ez_2.trans (congrArg xs (by decide))
  refine lv_aload_n hx hb dL_law_1071 rfl (lv_at hl 4 rfl) ?_
  refine lv_iload hx hb dL_law_1072 (lv_at hl 0 rfl) ?_
  refine lv_iconst (v := 2) hx hb dL_law_1074 (by decide) ?_
  refine lv_iadd hx hb dL_law_1075 ?_
  refine lv_topi (fun z_3 ez_3 => ?_)
  obtain rfl : z_3 = 2 := ez_3.trans (by decide)
  refine va_sld hx hb hX hbl hbA hS (by unfold vp_in; decide) dL_law_1076 ?_
  refine lv_topi (fun z_4 ez_4 => ?_)
  obtain rfl : z_4 = xs 2 := ez_4.trans (congrArg xs (by decide))
  refine lv_aload_n hx hb dL_law_1077 rfl (lv_at hl 1 rfl) ?_
  refine ct_i (wr := [(mo, .inr (12, [.int 0, .ref m1, .int 0, .ref m3, .ref m4, .ref m5, .ref m6, .ref m7, .ref m8, .ref m9, .int 0, .ref m11, .ref m12, .ref m13, .ref m14, .ref m15, .ref m16, .ref m17, .ref m18, .ref m19, .int 0, .int 0, .int 0, .int 0, .ref m24, .int 0, .ref m26, .int 0, .ref m28, .ref m29, .ref m30, .ref m31, .ref m32, .ref m33, .ref m34, .ref m35, .ref m36, .int 0, .int 0, .int 0, .int 0, .int 0, .int (-1), .int 0, .ref m44, .ref m45, .ref m46, .ref m47, .ref m48, .int 0, .ref m50, .ref m51, .ref m52, .ref m53, .ref m54, .int 0, .int 0])), (m11, .inl (k11, 3000, .inl (fun _ => 0)))]) (tyr := [(k11, .boolean)]) (vx_runSW (As := [.ref h, .int (xs 1), .int (xs 2), .ref ao]) (rest := []) ⟨hx, hb, hml, hown, hts⟩ (h_fact l hl0 dC dI h aT aV aS aC aO aF aL aR aX sT sK sH (xs 1) (xs 2) ao cL (fun _ => 0) H.size ) (vx_cwSW 4 hts gL_law_L_fact rfl rfl rfl (by decide +kernel) ⟨Nat.le_of_ble_eq_true rfl, Nat.le_of_ble_eq_true rfl⟩) (ct_pre hP hD hK hS hA hZ [0, 1, 2] [0] rfl (by decide) rfl) rfl rfl hl.1 rfl (lv_room (Nat.le_of_ble_eq_true rfl)) dL_law_1078 ⟨Nat.le_of_ble_eq_true rfl, Nat.le_of_ble_eq_true rfl⟩) hP hD hK hS hA [0, 1, 2] [3, 4] [1] rfl rfl (by decide) (by decide) rfl (fun r_6 u H locs w_7 hP hD hK hS => ?_)
  obtain ⟨o_5, rfl⟩ : ∃ z, z = u := ⟨_, rfl⟩
  try dsimp only at w_7
  have hP : va_P (dC, dI) vwCl [(mo, .inr (12, [.int 0, .ref m1, .int 0, .ref m3, .ref m4, .ref m5, .ref m6, .ref m7, .ref m8, .ref m9, .int 0, .ref m11, .ref m12, .ref m13, .ref m14, .ref m15, .ref m16, .ref m17, .ref m18, .ref m19, .int 0, .int 0, .int 0, .int 0, .ref m24, .int 0, .ref m26, .int 0, .ref m28, .ref m29, .ref m30, .ref m31, .ref m32, .ref m33, .ref m34, .ref m35, .ref m36, .int 0, .int 0, .int 0, .int 0, .int 0, .int (-1), .int 0, .ref m44, .ref m45, .ref m46, .ref m47, .ref m48, .int 0, .ref m50, .ref m51, .ref m52, .ref m53, .ref m54, .int 0, .int 0])), (m11, .inl (k11, 3000, .inl (fun _ => 0))), (ao, .inl (cL, 1, .inr (.inl o_5)))] H := hP
  have hD : va_D A [(mo, .inr (12, [.int 0, .ref m1, .int 0, .ref m3, .ref m4, .ref m5, .ref m6, .ref m7, .ref m8, .ref m9, .int 0, .ref m11, .ref m12, .ref m13, .ref m14, .ref m15, .ref m16, .ref m17, .ref m18, .ref m19, .int 0, .int 0, .int 0, .int 0, .ref m24, .int 0, .ref m26, .int 0, .ref m28, .ref m29, .ref m30, .ref m31, .ref m32, .ref m33, .ref m34, .ref m35, .ref m36, .int 0, .int 0, .int 0, .int 0, .int 0, .int (-1), .int 0, .ref m44, .ref m45, .ref m46, .ref m47, .ref m48, .int 0, .ref m50, .ref m51, .ref m52, .ref m53, .ref m54, .int 0, .int 0])), (m11, .inl (k11, 3000, .inl (fun _ => 0))), (ao, .inl (cL, 1, .inr (.inl o_5)))] := hD
  have hK : va_K (dC, dI) vwCl [(k11, .boolean), (cL, .long)] s := hK
  refine W.widen (k := 1002) (n := 200012) (Nat.le_of_ble_eq_true rfl) (Nat.le_of_ble_eq_true rfl) ?_
  rcases w_7 with ⟨rfl, h_8⟩ | ⟨rfl, h_8⟩
  · skip
    refine lv_istore (lv' := [(5, .int 1), (4, .int 0), (3, .ref ao), (2, .ref mo), (1, .ref h), (0, .ref b)]) hx hb dL_law_1081 hl (by decide) rfl (fun ls hl => ?_)
    refine lv_aload_n hx hb dL_law_1083 rfl (lv_at hl 3 rfl) ?_
    refine lv_aload_n hx hb dL_law_1084 rfl (lv_at hl 5 rfl) ?_
    refine lv_iload hx hb dL_law_1085 (lv_at hl 1 rfl) ?_
    refine lv_iconst (v := 1) hx hb dL_law_1087 (by decide) ?_
    refine lv_iadd hx hb dL_law_1088 ?_
    refine lv_topi (fun z_9 ez_9 => ?_)
    obtain rfl : z_9 = 1 := ez_9.trans (by decide)
    refine va_sld hx hb hX hbl hbA hS (by unfold vp_in; decide) dL_law_1089 ?_
    refine lv_topi (fun z_10 ez_10 => ?_)
    obtain rfl : z_10 = xs 1 := ez_10.trans (congrArg xs (by decide))
    refine lv_aload_n hx hb dL_law_1090 rfl (lv_at hl 5 rfl) ?_
    refine lv_iload hx hb dL_law_1091 (lv_at hl 1 rfl) ?_
    refine lv_iconst (v := 2) hx hb dL_law_1093 (by decide) ?_
    refine lv_iadd hx hb dL_law_1094 ?_
    refine lv_topi (fun z_11 ez_11 => ?_)
    obtain rfl : z_11 = 2 := ez_11.trans (by decide)
    refine va_sld hx hb hX hbl hbA hS (by unfold vp_in; decide) dL_law_1095 ?_
    refine lv_topi (fun z_12 ez_12 => ?_)
    obtain rfl : z_12 = xs 2 := ez_12.trans (congrArg xs (by decide))
    refine ct_i (wr := [(ao, .inl (cL, 1, .inr (.inl o_5)))]) (tyr := [(cL, .long)]) (va_runV (As := [.int (xs 1), .int (xs 2)]) (rest := []) ⟨hx, hb, hml, hown, hts⟩ (m_fact l hl0 dC dI mo m1 m3 m4 m5 m6 m7 m8 m9 m11 m12 m13 m14 m15 m16 m17 m18 m19 m24 m26 m28 m29 m30 m31 m32 m33 m34 m35 m36 m44 m45 m46 m47 m48 m50 m51 m52 m53 m54 k11 (xs 1) (xs 2) H.size ) (cwV 2 hts gL_law_X12_fact rfl rfl rfl (by decide +kernel) ⟨Nat.le_of_ble_eq_true rfl, Nat.le_of_ble_eq_true rfl⟩) (ct_preV (ci := 12) (q0 := 0) hP hD hK hS hA hZ rfl rfl [0, 1] [0] rfl (by decide) rfl) rfl rfl hl.1 rfl (lv_room (Nat.le_of_ble_eq_true rfl)) dL_law_1096 ⟨Nat.le_of_ble_eq_true rfl, Nat.le_of_ble_eq_true rfl⟩) hP hD hK hS hA [0, 1] [2] [1] rfl rfl (by decide) (by decide) rfl (fun r_14 u H locs w_15 hP hD hK hS => ?_)
    obtain ⟨o_13, rfl⟩ : ∃ z, z = u := ⟨_, rfl⟩
    try dsimp only at w_15
    have hP : va_P (dC, dI) vwCl [(ao, .inl (cL, 1, .inr (.inl o_5))), (mo, .inr (12, [.int o_13, .ref m1, .int 0, .ref m3, .ref m4, .ref m5, .ref m6, .ref m7, .ref m8, .ref m9, .int 0, .ref m11, .ref m12, .ref m13, .ref m14, .ref m15, .ref m16, .ref m17, .ref m18, .ref m19, .int 0, .int 0, .int 0, .int 0, .ref m24, .int 0, .ref m26, .int 0, .ref m28, .ref m29, .ref m30, .ref m31, .ref m32, .ref m33, .ref m34, .ref m35, .ref m36, .int 0, .int 0, .int 0, .int 0, .int 0, .int (-1), .int 0, .ref m44, .ref m45, .ref m46, .ref m47, .ref m48, .int 0, .ref m50, .ref m51, .ref m52, .ref m53, .ref m54, .int 0, .int 0]))] H := hP
    have hD : va_D A [(ao, .inl (cL, 1, .inr (.inl o_5))), (mo, .inr (12, [.int o_13, .ref m1, .int 0, .ref m3, .ref m4, .ref m5, .ref m6, .ref m7, .ref m8, .ref m9, .int 0, .ref m11, .ref m12, .ref m13, .ref m14, .ref m15, .ref m16, .ref m17, .ref m18, .ref m19, .int 0, .int 0, .int 0, .int 0, .ref m24, .int 0, .ref m26, .int 0, .ref m28, .ref m29, .ref m30, .ref m31, .ref m32, .ref m33, .ref m34, .ref m35, .ref m36, .int 0, .int 0, .int 0, .int 0, .int 0, .int (-1), .int 0, .ref m44, .ref m45, .ref m46, .ref m47, .ref m48, .int 0, .ref m50, .ref m51, .ref m52, .ref m53, .ref m54, .int 0, .int 0]))] := hD
    have hK : va_K (dC, dI) vwCl [(cL, .long)] s := hK
    rcases w_15 with ⟨rfl, q_16⟩ | ⟨rfl, q_16⟩
    · skip
      refine lv_istore (lv' := [(6, .int r_14), (5, .int 1), (4, .int 0), (3, .ref ao), (2, .ref mo), (1, .ref h), (0, .ref b)]) hx hb dL_law_1099 hl (by decide) rfl (fun ls hl => ?_)
      refine lv_aload_n hx hb dL_law_1101 rfl (lv_at hl 4 rfl) ?_
      refine ct_i (wr := [(ao, .inl (cL, 1, .inr (.inl o_5)))]) (tyr := [(cL, .long)]) (va_runV (As := []) (rest := []) ⟨hx, hb, hml, hown, hts⟩ (m_thrown l hl0 dC dI mo m1 m3 m4 m5 m6 m7 m8 m9 m11 m12 m13 m14 m15 m16 m17 m18 m19 m24 m26 m28 m29 m30 m31 m32 m33 m34 m35 m36 m44 m45 m46 m47 m48 m50 m51 m52 m53 m54 1 0 0 0 0 0 0 (-1) 0 H.size ) (cwV 0 hts gL_law_X12_thrown rfl rfl rfl (by decide +kernel) ⟨Nat.le_of_ble_eq_true rfl, Nat.le_of_ble_eq_true rfl⟩) (ct_preV (ci := 12) (q0 := 1) hP hD hK hS hA hZ rfl rfl [1] [] rfl (by decide) rfl) rfl rfl hl.1 rfl (lv_room (Nat.le_of_ble_eq_true rfl)) dL_law_1102 ⟨Nat.le_of_ble_eq_true rfl, Nat.le_of_ble_eq_true rfl⟩) hP hD hK hS hA [1] [0] [0] rfl rfl (by decide) (by decide) rfl (fun r_17 u H locs w_18 hP hD hK hS => ?_)
      try dsimp only at w_18
      have hP : va_P (dC, dI) vwCl [(ao, .inl (cL, 1, .inr (.inl o_5)))] H := hP
      have hD : va_D A [(ao, .inl (cL, 1, .inr (.inl o_5)))] := hD
      have hK : va_K (dC, dI) vwCl [(cL, .long)] s := hK
      obtain rfl : r_17 = 1 := w_18
      refine lv_iload hx hb dL_law_1105 (lv_at hl 1 rfl) ?_
      refine lv_icmp_eq (tgt := 1112) hx hb dL_law_1107 (by decide) (fun _ => ?_) (fun c_19 => absurd c_19 (by decide))
      refine lv_iload hx hb dL_law_1112 (lv_at hl 1 rfl) ?_
      refine lv_if_ne (tgt := 1129) hx hb dL_law_1114 (by decide) (fun _ => ?_) (fun c_20 => absurd c_20 (by decide))
      refine lv_goto (tgt := 1620) hx hb dL_law_1129 (by decide) ?_
      refine W.widen (k := 2000) (n := 300000) (Nat.le_of_ble_eq_true rfl) (Nat.le_of_ble_eq_true rfl) ?_
      exact K _ _ _ hS (lv_sub hl [2, 6] rfl)
    · skip
      exact absurd h_8 q_16
  · skip
    refine lv_istore (lv' := [(5, .int 2), (4, .int 0), (3, .ref ao), (2, .ref mo), (1, .ref h), (0, .ref b)]) hx hb dL_law_1081 hl (by decide) rfl (fun ls hl => ?_)
    refine lv_aload_n hx hb dL_law_1083 rfl (lv_at hl 3 rfl) ?_
    refine lv_aload_n hx hb dL_law_1084 rfl (lv_at hl 5 rfl) ?_
    refine lv_iload hx hb dL_law_1085 (lv_at hl 1 rfl) ?_
    refine lv_iconst (v := 1) hx hb dL_law_1087 (by decide) ?_
    refine lv_iadd hx hb dL_law_1088 ?_
    refine lv_topi (fun z_21 ez_21 => ?_)
    obtain rfl : z_21 = 1 := ez_21.trans (by decide)
    refine va_sld hx hb hX hbl hbA hS (by unfold vp_in; decide) dL_law_1089 ?_
    refine lv_topi (fun z_22 ez_22 => ?_)
    obtain rfl : z_22 = xs 1 := ez_22.trans (congrArg xs (by decide))
    refine lv_aload_n hx hb dL_law_1090 rfl (lv_at hl 5 rfl) ?_
    refine lv_iload hx hb dL_law_1091 (lv_at hl 1 rfl) ?_
    refine lv_iconst (v := 2) hx hb dL_law_1093 (by decide) ?_
    refine lv_iadd hx hb dL_law_1094 ?_
    refine lv_topi (fun z_23 ez_23 => ?_)
    obtain rfl : z_23 = 2 := ez_23.trans (by decide)
    refine va_sld hx hb hX hbl hbA hS (by unfold vp_in; decide) dL_law_1095 ?_
    refine lv_topi (fun z_24 ez_24 => ?_)
    obtain rfl : z_24 = xs 2 := ez_24.trans (congrArg xs (by decide))
    refine ct_i (wr := [(ao, .inl (cL, 1, .inr (.inl o_5)))]) (tyr := [(cL, .long)]) (va_runV (As := [.int (xs 1), .int (xs 2)]) (rest := []) ⟨hx, hb, hml, hown, hts⟩ (m_fact l hl0 dC dI mo m1 m3 m4 m5 m6 m7 m8 m9 m11 m12 m13 m14 m15 m16 m17 m18 m19 m24 m26 m28 m29 m30 m31 m32 m33 m34 m35 m36 m44 m45 m46 m47 m48 m50 m51 m52 m53 m54 k11 (xs 1) (xs 2) H.size ) (cwV 2 hts gL_law_X12_fact rfl rfl rfl (by decide +kernel) ⟨Nat.le_of_ble_eq_true rfl, Nat.le_of_ble_eq_true rfl⟩) (ct_preV (ci := 12) (q0 := 0) hP hD hK hS hA hZ rfl rfl [0, 1] [0] rfl (by decide) rfl) rfl rfl hl.1 rfl (lv_room (Nat.le_of_ble_eq_true rfl)) dL_law_1096 ⟨Nat.le_of_ble_eq_true rfl, Nat.le_of_ble_eq_true rfl⟩) hP hD hK hS hA [0, 1] [2] [1] rfl rfl (by decide) (by decide) rfl (fun r_26 u H locs w_27 hP hD hK hS => ?_)
    obtain ⟨o_25, rfl⟩ : ∃ z, z = u := ⟨_, rfl⟩
    try dsimp only at w_27
    have hP : va_P (dC, dI) vwCl [(ao, .inl (cL, 1, .inr (.inl o_5))), (mo, .inr (12, [.int o_25, .ref m1, .int 0, .ref m3, .ref m4, .ref m5, .ref m6, .ref m7, .ref m8, .ref m9, .int 0, .ref m11, .ref m12, .ref m13, .ref m14, .ref m15, .ref m16, .ref m17, .ref m18, .ref m19, .int 0, .int 0, .int 0, .int 0, .ref m24, .int 0, .ref m26, .int 0, .ref m28, .ref m29, .ref m30, .ref m31, .ref m32, .ref m33, .ref m34, .ref m35, .ref m36, .int 0, .int 0, .int 0, .int 0, .int 0, .int (-1), .int 0, .ref m44, .ref m45, .ref m46, .ref m47, .ref m48, .int 0, .ref m50, .ref m51, .ref m52, .ref m53, .ref m54, .int 0, .int 0]))] H := hP
    have hD : va_D A [(ao, .inl (cL, 1, .inr (.inl o_5))), (mo, .inr (12, [.int o_25, .ref m1, .int 0, .ref m3, .ref m4, .ref m5, .ref m6, .ref m7, .ref m8, .ref m9, .int 0, .ref m11, .ref m12, .ref m13, .ref m14, .ref m15, .ref m16, .ref m17, .ref m18, .ref m19, .int 0, .int 0, .int 0, .int 0, .ref m24, .int 0, .ref m26, .int 0, .ref m28, .ref m29, .ref m30, .ref m31, .ref m32, .ref m33, .ref m34, .ref m35, .ref m36, .int 0, .int 0, .int 0, .int 0, .int 0, .int (-1), .int 0, .ref m44, .ref m45, .ref m46, .ref m47, .ref m48, .int 0, .ref m50, .ref m51, .ref m52, .ref m53, .ref m54, .int 0, .int 0]))] := hD
    have hK : va_K (dC, dI) vwCl [(cL, .long)] s := hK
    rcases w_27 with ⟨rfl, q_28⟩ | ⟨rfl, q_28⟩
    · skip
      exact absurd q_28 h_8
    · skip
      refine lv_istore (lv' := [(6, .int r_26), (5, .int 2), (4, .int 0), (3, .ref ao), (2, .ref mo), (1, .ref h), (0, .ref b)]) hx hb dL_law_1099 hl (by decide) rfl (fun ls hl => ?_)
      refine lv_aload_n hx hb dL_law_1101 rfl (lv_at hl 4 rfl) ?_
      refine ct_i (wr := [(ao, .inl (cL, 1, .inr (.inl o_5)))]) (tyr := [(cL, .long)]) (va_runV (As := []) (rest := []) ⟨hx, hb, hml, hown, hts⟩ (m_thrown l hl0 dC dI mo m1 m3 m4 m5 m6 m7 m8 m9 m11 m12 m13 m14 m15 m16 m17 m18 m19 m24 m26 m28 m29 m30 m31 m32 m33 m34 m35 m36 m44 m45 m46 m47 m48 m50 m51 m52 m53 m54 2 0 0 0 0 0 0 (-1) 0 H.size ) (cwV 0 hts gL_law_X12_thrown rfl rfl rfl (by decide +kernel) ⟨Nat.le_of_ble_eq_true rfl, Nat.le_of_ble_eq_true rfl⟩) (ct_preV (ci := 12) (q0 := 1) hP hD hK hS hA hZ rfl rfl [1] [] rfl (by decide) rfl) rfl rfl hl.1 rfl (lv_room (Nat.le_of_ble_eq_true rfl)) dL_law_1102 ⟨Nat.le_of_ble_eq_true rfl, Nat.le_of_ble_eq_true rfl⟩) hP hD hK hS hA [1] [0] [0] rfl rfl (by decide) (by decide) rfl (fun r_29 u H locs w_30 hP hD hK hS => ?_)
      try dsimp only at w_30
      have hP : va_P (dC, dI) vwCl [(ao, .inl (cL, 1, .inr (.inl o_5)))] H := hP
      have hD : va_D A [(ao, .inl (cL, 1, .inr (.inl o_5)))] := hD
      have hK : va_K (dC, dI) vwCl [(cL, .long)] s := hK
      obtain rfl : r_29 = 2 := w_30
      refine lv_iload hx hb dL_law_1105 (lv_at hl 1 rfl) ?_
      refine lv_icmp_eq (tgt := 1112) hx hb dL_law_1107 (by decide) (fun _ => ?_) (fun c_31 => absurd c_31 (by decide))
      refine lv_iload hx hb dL_law_1112 (lv_at hl 1 rfl) ?_
      refine lv_if_ne (tgt := 1129) hx hb dL_law_1114 (by decide) (fun _ => ?_) (fun c_32 => absurd c_32 (by decide))
      refine lv_goto (tgt := 1620) hx hb dL_law_1129 (by decide) ?_
      refine W.widen (k := 2000) (n := 300000) (Nat.le_of_ble_eq_true rfl) (Nat.le_of_ble_eq_true rfl) ?_
      exact K _ _ _ hS (lv_sub hl [2, 6] rfl)

set_option maxHeartbeats 4000000 in
set_option maxRecDepth 100000 in
/-- the law at changes -/
theorem law_changes {p : Program} {l : Launch} {e : Env} {s : State} {m : MethodId} {below : List Frame} {meth : Method} {c : Code} {Q : State → Prop} {b : Nat} {xs : Nat → Int32} {A : Nat → Prop} {H : Heap} {locs : List Loc} {ls : Array Slot} (hl0 : l.stackTraces = false) (dC : Nat → ClassId) (dI : Nat → Nat → Nat) (h : Nat) (aT : Nat) (aV : Nat) (aS : Nat) (aC : Nat) (aO : Nat) (aF : Nat) (aL : Nat) (aR : Nat) (aX : Nat) (sT : Nat) (sK : Nat) (sH : Nat) (ao : Nat) (cL : ClassId) (mo : Nat) (m1 : Nat) (m3 : Nat) (m4 : Nat) (m5 : Nat) (m6 : Nat) (m7 : Nat) (m8 : Nat) (m9 : Nat) (m11 : Nat) (m12 : Nat) (m13 : Nat) (m14 : Nat) (m15 : Nat) (m16 : Nat) (m17 : Nat) (m18 : Nat) (m19 : Nat) (m24 : Nat) (m26 : Nat) (m28 : Nat) (m29 : Nat) (m30 : Nat) (m31 : Nat) (m32 : Nat) (m33 : Nat) (m34 : Nat) (m35 : Nat) (m36 : Nat) (m44 : Nat) (m45 : Nat) (m46 : Nat) (m47 : Nat) (m48 : Nat) (m50 : Nat) (m51 : Nat) (m52 : Nat) (m53 : Nat) (m54 : Nat) (hx : p.tables.exec = Jvm.exec) (hb : c.code = cL_law) (hml : c.maxLocals = 7) (hown : s.vm.findClass RL = some m.cls) (hts : ∀ w ∈ wsL_law, w.before #[Value.ref b] s = true) (hX : va_X b 6 xs s s.heap) (hbl : b < s.heap.size) (hbA : ¬ A b) (hA : ∀ q : Nat, s.heap.size ≤ q → A q) (hZ : tx_St A s) (hl : lv_has ls 7 [(4, .int 0), (3, .ref ao), (2, .ref mo), (1, .ref h), (0, .ref b)]) (hP : va_P (dC, dI) vwCl [(h, .inr (11, [.ref aT, .ref aV, .ref aS, .ref aC, .ref aO, .ref aF, .ref aL, .ref aR, .ref aX, .int 0, .int 0, .int 0])), (aS, .inr (9, [.ref sT, .ref sK, .ref sH, .int 0, .int 0, .int 0, .int 0, .int 0])), (ao, .inl (cL, 1, .inr (.inl (fun _ => 0)))), (mo, .inr (12, [.int 0, .ref m1, .int 0, .ref m3, .ref m4, .ref m5, .ref m6, .ref m7, .ref m8, .ref m9, .int 0, .ref m11, .ref m12, .ref m13, .ref m14, .ref m15, .ref m16, .ref m17, .ref m18, .ref m19, .int 0, .int 0, .int 0, .int 0, .ref m24, .int 0, .ref m26, .int 0, .ref m28, .ref m29, .ref m30, .ref m31, .ref m32, .ref m33, .ref m34, .ref m35, .ref m36, .int 0, .int 0, .int 0, .int 0, .int 0, .int (-1), .int 0, .ref m44, .ref m45, .ref m46, .ref m47, .ref m48, .int 0, .ref m50, .ref m51, .ref m52, .ref m53, .ref m54, .int 0, .int 0]))] H) (hD : va_D A [(h, .inr (11, [.ref aT, .ref aV, .ref aS, .ref aC, .ref aO, .ref aF, .ref aL, .ref aR, .ref aX, .int 0, .int 0, .int 0])), (aS, .inr (9, [.ref sT, .ref sK, .ref sH, .int 0, .int 0, .int 0, .int 0, .int 0])), (ao, .inl (cL, 1, .inr (.inl (fun _ => 0)))), (mo, .inr (12, [.int 0, .ref m1, .int 0, .ref m3, .ref m4, .ref m5, .ref m6, .ref m7, .ref m8, .ref m9, .int 0, .ref m11, .ref m12, .ref m13, .ref m14, .ref m15, .ref m16, .ref m17, .ref m18, .ref m19, .int 0, .int 0, .int 0, .int 0, .ref m24, .int 0, .ref m26, .int 0, .ref m28, .ref m29, .ref m30, .ref m31, .ref m32, .ref m33, .ref m34, .ref m35, .ref m36, .int 0, .int 0, .int 0, .int 0, .int 0, .int (-1), .int 0, .ref m44, .ref m45, .ref m46, .ref m47, .ref m48, .int 0, .ref m50, .ref m51, .ref m52, .ref m53, .ref m54, .int 0, .int 0]))]) (hK : va_K (dC, dI) vwCl [(cL, .long)] s) (hS : va_S A s.heap H locs)
    (K : ∀ (H : Heap) (locs : List Loc) (ls : Array Slot), va_S A s.heap H locs → lv_has ls 7 [(4, .int 0), (0, .ref b)] → W p l e room_1 s m #[Value.ref b] below meth c H locs 2000 300000 Q (F0 m 1620 ls [])) : W p l e room_1 s m #[Value.ref b] below meth c H locs 1000 200000 Q (F0 m 1304 ls []) := by
  refine lv_aload_n hx hb dL_law_1304 rfl (lv_at hl 3 rfl) ?_
  refine lv_aload_n hx hb dL_law_1305 rfl (lv_at hl 4 rfl) ?_
  refine lv_iload hx hb dL_law_1306 (lv_at hl 0 rfl) ?_
  refine lv_iconst (v := 1) hx hb dL_law_1308 (by decide) ?_
  refine lv_iadd hx hb dL_law_1309 ?_
  refine lv_topi (fun z_1 ez_1 => ?_)
  obtain rfl : z_1 = 1 := ez_1.trans (by decide)
  refine va_sld hx hb hX hbl hbA hS (by unfold vp_in; decide) dL_law_1310 ?_
  refine lv_topi (fun z_2 ez_2 => ?_)
  obtain rfl : z_2 = xs 1 := ez_2.trans (congrArg xs (by decide))
  refine lv_aload_n hx hb dL_law_1311 rfl (lv_at hl 4 rfl) ?_
  refine lv_iload hx hb dL_law_1312 (lv_at hl 0 rfl) ?_
  refine lv_iconst (v := 2) hx hb dL_law_1314 (by decide) ?_
  refine lv_iadd hx hb dL_law_1315 ?_
  refine lv_topi (fun z_3 ez_3 => ?_)
  obtain rfl : z_3 = 2 := ez_3.trans (by decide)
  refine va_sld hx hb hX hbl hbA hS (by unfold vp_in; decide) dL_law_1316 ?_
  refine lv_topi (fun z_4 ez_4 => ?_)
  obtain rfl : z_4 = xs 2 := ez_4.trans (congrArg xs (by decide))
  refine lv_aload_n hx hb dL_law_1317 rfl (lv_at hl 4 rfl) ?_
  refine lv_iload hx hb dL_law_1318 (lv_at hl 0 rfl) ?_
  refine lv_iconst (v := 3) hx hb dL_law_1320 (by decide) ?_
  refine lv_iadd hx hb dL_law_1321 ?_
  refine lv_topi (fun z_5 ez_5 => ?_)
  obtain rfl : z_5 = 3 := ez_5.trans (by decide)
  refine va_sld hx hb hX hbl hbA hS (by unfold vp_in; decide) dL_law_1322 ?_
  refine lv_topi (fun z_6 ez_6 => ?_)
  obtain rfl : z_6 = xs 3 := ez_6.trans (congrArg xs (by decide))
  refine lv_aload_n hx hb dL_law_1323 rfl (lv_at hl 1 rfl) ?_
  refine ct_i (wr := [(mo, .inr (12, [.int 0, .ref m1, .int 0, .ref m3, .ref m4, .ref m5, .ref m6, .ref m7, .ref m8, .ref m9, .int 0, .ref m11, .ref m12, .ref m13, .ref m14, .ref m15, .ref m16, .ref m17, .ref m18, .ref m19, .int 0, .int 0, .int 0, .int 0, .ref m24, .int 0, .ref m26, .int 0, .ref m28, .ref m29, .ref m30, .ref m31, .ref m32, .ref m33, .ref m34, .ref m35, .ref m36, .int 0, .int 0, .int 0, .int 0, .int 0, .int (-1), .int 0, .ref m44, .ref m45, .ref m46, .ref m47, .ref m48, .int 0, .ref m50, .ref m51, .ref m52, .ref m53, .ref m54, .int 0, .int 0]))]) (tyr := []) (vx_runSW (As := [.ref h, .int (xs 1), .int (xs 2), .int (xs 3), .ref ao]) (rest := []) ⟨hx, hb, hml, hown, hts⟩ (h_changes l hl0 dC dI h aT aV aS aC aO aF aL aR aX sT sK sH (xs 1) (xs 2) (xs 3) ao cL (fun _ => 0) H.size ) (vx_cwSW 5 hts gL_law_L_changes rfl rfl rfl (by decide +kernel) ⟨Nat.le_of_ble_eq_true rfl, Nat.le_of_ble_eq_true rfl⟩) (ct_pre hP hD hK hS hA hZ [0, 1, 2] [0] rfl (by decide) rfl) rfl rfl hl.1 rfl (lv_room (Nat.le_of_ble_eq_true rfl)) dL_law_1324 ⟨Nat.le_of_ble_eq_true rfl, Nat.le_of_ble_eq_true rfl⟩) hP hD hK hS hA [0, 1, 2] [3] [] rfl rfl (by decide) (by decide) rfl (fun r_8 u H locs w_9 hP hD hK hS => ?_)
  obtain ⟨o_7, rfl⟩ : ∃ z, z = u := ⟨_, rfl⟩
  try dsimp only at w_9
  have hP : va_P (dC, dI) vwCl [(mo, .inr (12, [.int 0, .ref m1, .int 0, .ref m3, .ref m4, .ref m5, .ref m6, .ref m7, .ref m8, .ref m9, .int 0, .ref m11, .ref m12, .ref m13, .ref m14, .ref m15, .ref m16, .ref m17, .ref m18, .ref m19, .int 0, .int 0, .int 0, .int 0, .ref m24, .int 0, .ref m26, .int 0, .ref m28, .ref m29, .ref m30, .ref m31, .ref m32, .ref m33, .ref m34, .ref m35, .ref m36, .int 0, .int 0, .int 0, .int 0, .int 0, .int (-1), .int 0, .ref m44, .ref m45, .ref m46, .ref m47, .ref m48, .int 0, .ref m50, .ref m51, .ref m52, .ref m53, .ref m54, .int 0, .int 0])), (ao, .inl (cL, 1, .inr (.inl o_7)))] H := hP
  have hD : va_D A [(mo, .inr (12, [.int 0, .ref m1, .int 0, .ref m3, .ref m4, .ref m5, .ref m6, .ref m7, .ref m8, .ref m9, .int 0, .ref m11, .ref m12, .ref m13, .ref m14, .ref m15, .ref m16, .ref m17, .ref m18, .ref m19, .int 0, .int 0, .int 0, .int 0, .ref m24, .int 0, .ref m26, .int 0, .ref m28, .ref m29, .ref m30, .ref m31, .ref m32, .ref m33, .ref m34, .ref m35, .ref m36, .int 0, .int 0, .int 0, .int 0, .int 0, .int (-1), .int 0, .ref m44, .ref m45, .ref m46, .ref m47, .ref m48, .int 0, .ref m50, .ref m51, .ref m52, .ref m53, .ref m54, .int 0, .int 0])), (ao, .inl (cL, 1, .inr (.inl o_7)))] := hD
  have hK : va_K (dC, dI) vwCl [(cL, .long)] s := hK
  refine W.widen (k := 1003) (n := 200018) (Nat.le_of_ble_eq_true rfl) (Nat.le_of_ble_eq_true rfl) ?_
  rcases w_9 with ⟨rfl, h_10⟩ | ⟨rfl, h_10⟩
  · skip
    refine lv_istore (lv' := [(5, .int 1), (4, .int 0), (3, .ref ao), (2, .ref mo), (1, .ref h), (0, .ref b)]) hx hb dL_law_1327 hl (by decide) rfl (fun ls hl => ?_)
    refine lv_aload_n hx hb dL_law_1329 rfl (lv_at hl 3 rfl) ?_
    refine lv_aload_n hx hb dL_law_1330 rfl (lv_at hl 5 rfl) ?_
    refine lv_iload hx hb dL_law_1331 (lv_at hl 1 rfl) ?_
    refine lv_iconst (v := 1) hx hb dL_law_1333 (by decide) ?_
    refine lv_iadd hx hb dL_law_1334 ?_
    refine lv_topi (fun z_11 ez_11 => ?_)
    obtain rfl : z_11 = 1 := ez_11.trans (by decide)
    refine va_sld hx hb hX hbl hbA hS (by unfold vp_in; decide) dL_law_1335 ?_
    refine lv_topi (fun z_12 ez_12 => ?_)
    obtain rfl : z_12 = xs 1 := ez_12.trans (congrArg xs (by decide))
    refine lv_aload_n hx hb dL_law_1336 rfl (lv_at hl 5 rfl) ?_
    refine lv_iload hx hb dL_law_1337 (lv_at hl 1 rfl) ?_
    refine lv_iconst (v := 2) hx hb dL_law_1339 (by decide) ?_
    refine lv_iadd hx hb dL_law_1340 ?_
    refine lv_topi (fun z_13 ez_13 => ?_)
    obtain rfl : z_13 = 2 := ez_13.trans (by decide)
    refine va_sld hx hb hX hbl hbA hS (by unfold vp_in; decide) dL_law_1341 ?_
    refine lv_topi (fun z_14 ez_14 => ?_)
    obtain rfl : z_14 = xs 2 := ez_14.trans (congrArg xs (by decide))
    refine lv_aload_n hx hb dL_law_1342 rfl (lv_at hl 5 rfl) ?_
    refine lv_iload hx hb dL_law_1343 (lv_at hl 1 rfl) ?_
    refine lv_iconst (v := 3) hx hb dL_law_1345 (by decide) ?_
    refine lv_iadd hx hb dL_law_1346 ?_
    refine lv_topi (fun z_15 ez_15 => ?_)
    obtain rfl : z_15 = 3 := ez_15.trans (by decide)
    refine va_sld hx hb hX hbl hbA hS (by unfold vp_in; decide) dL_law_1347 ?_
    refine lv_topi (fun z_16 ez_16 => ?_)
    obtain rfl : z_16 = xs 3 := ez_16.trans (congrArg xs (by decide))
    refine ct_i (wr := [(ao, .inl (cL, 1, .inr (.inl o_7)))]) (tyr := [(cL, .long)]) (va_runV (As := [.int (xs 1), .int (xs 2), .int (xs 3)]) (rest := []) ⟨hx, hb, hml, hown, hts⟩ (m_changes l hl0 dC dI mo m1 m3 m4 m5 m6 m7 m8 m9 m11 m12 m13 m14 m15 m16 m17 m18 m19 m24 m26 m28 m29 m30 m31 m32 m33 m34 m35 m36 m44 m45 m46 m47 m48 m50 m51 m52 m53 m54 (xs 1) (xs 2) (xs 3) H.size ) (cwV 3 hts gL_law_X12_changes rfl rfl rfl (by decide +kernel) ⟨Nat.le_of_ble_eq_true rfl, Nat.le_of_ble_eq_true rfl⟩) (ct_preV (ci := 12) (q0 := 0) hP hD hK hS hA hZ rfl rfl [0] [] rfl (by decide) rfl) rfl rfl hl.1 rfl (lv_room (Nat.le_of_ble_eq_true rfl)) dL_law_1348 ⟨Nat.le_of_ble_eq_true rfl, Nat.le_of_ble_eq_true rfl⟩) hP hD hK hS hA [0] [1] [0] rfl rfl (by decide) (by decide) rfl (fun r_18 u H locs w_19 hP hD hK hS => ?_)
    obtain ⟨o_17, rfl⟩ : ∃ z, z = u := ⟨_, rfl⟩
    try dsimp only at w_19
    have hP : va_P (dC, dI) vwCl [(ao, .inl (cL, 1, .inr (.inl o_7))), (mo, .inr (12, [.int o_17, .ref m1, .int 0, .ref m3, .ref m4, .ref m5, .ref m6, .ref m7, .ref m8, .ref m9, .int 0, .ref m11, .ref m12, .ref m13, .ref m14, .ref m15, .ref m16, .ref m17, .ref m18, .ref m19, .int 0, .int 0, .int 0, .int 0, .ref m24, .int 0, .ref m26, .int 0, .ref m28, .ref m29, .ref m30, .ref m31, .ref m32, .ref m33, .ref m34, .ref m35, .ref m36, .int 0, .int 0, .int 0, .int 0, .int 0, .int (-1), .int 0, .ref m44, .ref m45, .ref m46, .ref m47, .ref m48, .int 0, .ref m50, .ref m51, .ref m52, .ref m53, .ref m54, .int 0, .int 0]))] H := hP
    have hD : va_D A [(ao, .inl (cL, 1, .inr (.inl o_7))), (mo, .inr (12, [.int o_17, .ref m1, .int 0, .ref m3, .ref m4, .ref m5, .ref m6, .ref m7, .ref m8, .ref m9, .int 0, .ref m11, .ref m12, .ref m13, .ref m14, .ref m15, .ref m16, .ref m17, .ref m18, .ref m19, .int 0, .int 0, .int 0, .int 0, .ref m24, .int 0, .ref m26, .int 0, .ref m28, .ref m29, .ref m30, .ref m31, .ref m32, .ref m33, .ref m34, .ref m35, .ref m36, .int 0, .int 0, .int 0, .int 0, .int 0, .int (-1), .int 0, .ref m44, .ref m45, .ref m46, .ref m47, .ref m48, .int 0, .ref m50, .ref m51, .ref m52, .ref m53, .ref m54, .int 0, .int 0]))] := hD
    have hK : va_K (dC, dI) vwCl [(cL, .long)] s := hK
    rcases w_19 with ⟨rfl, q_20⟩ | ⟨rfl, q_20⟩
    · skip
      refine lv_istore (lv' := [(6, .int r_18), (5, .int 1), (4, .int 0), (3, .ref ao), (2, .ref mo), (1, .ref h), (0, .ref b)]) hx hb dL_law_1351 hl (by decide) rfl (fun ls hl => ?_)
      refine lv_aload_n hx hb dL_law_1353 rfl (lv_at hl 4 rfl) ?_
      refine ct_i (wr := [(ao, .inl (cL, 1, .inr (.inl o_7)))]) (tyr := [(cL, .long)]) (va_runV (As := []) (rest := []) ⟨hx, hb, hml, hown, hts⟩ (m_thrown l hl0 dC dI mo m1 m3 m4 m5 m6 m7 m8 m9 m11 m12 m13 m14 m15 m16 m17 m18 m19 m24 m26 m28 m29 m30 m31 m32 m33 m34 m35 m36 m44 m45 m46 m47 m48 m50 m51 m52 m53 m54 1 0 0 0 0 0 0 (-1) 0 H.size ) (cwV 0 hts gL_law_X12_thrown rfl rfl rfl (by decide +kernel) ⟨Nat.le_of_ble_eq_true rfl, Nat.le_of_ble_eq_true rfl⟩) (ct_preV (ci := 12) (q0 := 1) hP hD hK hS hA hZ rfl rfl [1] [] rfl (by decide) rfl) rfl rfl hl.1 rfl (lv_room (Nat.le_of_ble_eq_true rfl)) dL_law_1354 ⟨Nat.le_of_ble_eq_true rfl, Nat.le_of_ble_eq_true rfl⟩) hP hD hK hS hA [1] [0] [0] rfl rfl (by decide) (by decide) rfl (fun r_21 u H locs w_22 hP hD hK hS => ?_)
      try dsimp only at w_22
      have hP : va_P (dC, dI) vwCl [(ao, .inl (cL, 1, .inr (.inl o_7)))] H := hP
      have hD : va_D A [(ao, .inl (cL, 1, .inr (.inl o_7)))] := hD
      have hK : va_K (dC, dI) vwCl [(cL, .long)] s := hK
      obtain rfl : r_21 = 1 := w_22
      refine lv_iload hx hb dL_law_1357 (lv_at hl 1 rfl) ?_
      refine lv_icmp_eq (tgt := 1364) hx hb dL_law_1359 (by decide) (fun _ => ?_) (fun c_23 => absurd c_23 (by decide))
      refine lv_iload hx hb dL_law_1364 (lv_at hl 1 rfl) ?_
      refine lv_if_ne (tgt := 1381) hx hb dL_law_1366 (by decide) (fun _ => ?_) (fun c_24 => absurd c_24 (by decide))
      refine lv_goto (tgt := 1620) hx hb dL_law_1381 (by decide) ?_
      refine W.widen (k := 2000) (n := 300000) (Nat.le_of_ble_eq_true rfl) (Nat.le_of_ble_eq_true rfl) ?_
      exact K _ _ _ hS (lv_sub hl [2, 6] rfl)
    · skip
      exact absurd h_10 q_20
  · skip
    refine lv_istore (lv' := [(5, .int 2), (4, .int 0), (3, .ref ao), (2, .ref mo), (1, .ref h), (0, .ref b)]) hx hb dL_law_1327 hl (by decide) rfl (fun ls hl => ?_)
    refine lv_aload_n hx hb dL_law_1329 rfl (lv_at hl 3 rfl) ?_
    refine lv_aload_n hx hb dL_law_1330 rfl (lv_at hl 5 rfl) ?_
    refine lv_iload hx hb dL_law_1331 (lv_at hl 1 rfl) ?_
    refine lv_iconst (v := 1) hx hb dL_law_1333 (by decide) ?_
    refine lv_iadd hx hb dL_law_1334 ?_
    refine lv_topi (fun z_25 ez_25 => ?_)
    obtain rfl : z_25 = 1 := ez_25.trans (by decide)
    refine va_sld hx hb hX hbl hbA hS (by unfold vp_in; decide) dL_law_1335 ?_
    refine lv_topi (fun z_26 ez_26 => ?_)
    obtain rfl : z_26 = xs 1 := ez_26.trans (congrArg xs (by decide))
    refine lv_aload_n hx hb dL_law_1336 rfl (lv_at hl 5 rfl) ?_
    refine lv_iload hx hb dL_law_1337 (lv_at hl 1 rfl) ?_
    refine lv_iconst (v := 2) hx hb dL_law_1339 (by decide) ?_
    refine lv_iadd hx hb dL_law_1340 ?_
    refine lv_topi (fun z_27 ez_27 => ?_)
    obtain rfl : z_27 = 2 := ez_27.trans (by decide)
    refine va_sld hx hb hX hbl hbA hS (by unfold vp_in; decide) dL_law_1341 ?_
    refine lv_topi (fun z_28 ez_28 => ?_)
    obtain rfl : z_28 = xs 2 := ez_28.trans (congrArg xs (by decide))
    refine lv_aload_n hx hb dL_law_1342 rfl (lv_at hl 5 rfl) ?_
    refine lv_iload hx hb dL_law_1343 (lv_at hl 1 rfl) ?_
    refine lv_iconst (v := 3) hx hb dL_law_1345 (by decide) ?_
    refine lv_iadd hx hb dL_law_1346 ?_
    refine lv_topi (fun z_29 ez_29 => ?_)
    obtain rfl : z_29 = 3 := ez_29.trans (by decide)
    refine va_sld hx hb hX hbl hbA hS (by unfold vp_in; decide) dL_law_1347 ?_
    refine lv_topi (fun z_30 ez_30 => ?_)
    obtain rfl : z_30 = xs 3 := ez_30.trans (congrArg xs (by decide))
    refine ct_i (wr := [(ao, .inl (cL, 1, .inr (.inl o_7)))]) (tyr := [(cL, .long)]) (va_runV (As := [.int (xs 1), .int (xs 2), .int (xs 3)]) (rest := []) ⟨hx, hb, hml, hown, hts⟩ (m_changes l hl0 dC dI mo m1 m3 m4 m5 m6 m7 m8 m9 m11 m12 m13 m14 m15 m16 m17 m18 m19 m24 m26 m28 m29 m30 m31 m32 m33 m34 m35 m36 m44 m45 m46 m47 m48 m50 m51 m52 m53 m54 (xs 1) (xs 2) (xs 3) H.size ) (cwV 3 hts gL_law_X12_changes rfl rfl rfl (by decide +kernel) ⟨Nat.le_of_ble_eq_true rfl, Nat.le_of_ble_eq_true rfl⟩) (ct_preV (ci := 12) (q0 := 0) hP hD hK hS hA hZ rfl rfl [0] [] rfl (by decide) rfl) rfl rfl hl.1 rfl (lv_room (Nat.le_of_ble_eq_true rfl)) dL_law_1348 ⟨Nat.le_of_ble_eq_true rfl, Nat.le_of_ble_eq_true rfl⟩) hP hD hK hS hA [0] [1] [0] rfl rfl (by decide) (by decide) rfl (fun r_32 u H locs w_33 hP hD hK hS => ?_)
    obtain ⟨o_31, rfl⟩ : ∃ z, z = u := ⟨_, rfl⟩
    try dsimp only at w_33
    have hP : va_P (dC, dI) vwCl [(ao, .inl (cL, 1, .inr (.inl o_7))), (mo, .inr (12, [.int o_31, .ref m1, .int 0, .ref m3, .ref m4, .ref m5, .ref m6, .ref m7, .ref m8, .ref m9, .int 0, .ref m11, .ref m12, .ref m13, .ref m14, .ref m15, .ref m16, .ref m17, .ref m18, .ref m19, .int 0, .int 0, .int 0, .int 0, .ref m24, .int 0, .ref m26, .int 0, .ref m28, .ref m29, .ref m30, .ref m31, .ref m32, .ref m33, .ref m34, .ref m35, .ref m36, .int 0, .int 0, .int 0, .int 0, .int 0, .int (-1), .int 0, .ref m44, .ref m45, .ref m46, .ref m47, .ref m48, .int 0, .ref m50, .ref m51, .ref m52, .ref m53, .ref m54, .int 0, .int 0]))] H := hP
    have hD : va_D A [(ao, .inl (cL, 1, .inr (.inl o_7))), (mo, .inr (12, [.int o_31, .ref m1, .int 0, .ref m3, .ref m4, .ref m5, .ref m6, .ref m7, .ref m8, .ref m9, .int 0, .ref m11, .ref m12, .ref m13, .ref m14, .ref m15, .ref m16, .ref m17, .ref m18, .ref m19, .int 0, .int 0, .int 0, .int 0, .ref m24, .int 0, .ref m26, .int 0, .ref m28, .ref m29, .ref m30, .ref m31, .ref m32, .ref m33, .ref m34, .ref m35, .ref m36, .int 0, .int 0, .int 0, .int 0, .int 0, .int (-1), .int 0, .ref m44, .ref m45, .ref m46, .ref m47, .ref m48, .int 0, .ref m50, .ref m51, .ref m52, .ref m53, .ref m54, .int 0, .int 0]))] := hD
    have hK : va_K (dC, dI) vwCl [(cL, .long)] s := hK
    rcases w_33 with ⟨rfl, q_34⟩ | ⟨rfl, q_34⟩
    · skip
      exact absurd q_34 h_10
    · skip
      refine lv_istore (lv' := [(6, .int r_32), (5, .int 2), (4, .int 0), (3, .ref ao), (2, .ref mo), (1, .ref h), (0, .ref b)]) hx hb dL_law_1351 hl (by decide) rfl (fun ls hl => ?_)
      refine lv_aload_n hx hb dL_law_1353 rfl (lv_at hl 4 rfl) ?_
      refine ct_i (wr := [(ao, .inl (cL, 1, .inr (.inl o_7)))]) (tyr := [(cL, .long)]) (va_runV (As := []) (rest := []) ⟨hx, hb, hml, hown, hts⟩ (m_thrown l hl0 dC dI mo m1 m3 m4 m5 m6 m7 m8 m9 m11 m12 m13 m14 m15 m16 m17 m18 m19 m24 m26 m28 m29 m30 m31 m32 m33 m34 m35 m36 m44 m45 m46 m47 m48 m50 m51 m52 m53 m54 2 0 0 0 0 0 0 (-1) 0 H.size ) (cwV 0 hts gL_law_X12_thrown rfl rfl rfl (by decide +kernel) ⟨Nat.le_of_ble_eq_true rfl, Nat.le_of_ble_eq_true rfl⟩) (ct_preV (ci := 12) (q0 := 1) hP hD hK hS hA hZ rfl rfl [1] [] rfl (by decide) rfl) rfl rfl hl.1 rfl (lv_room (Nat.le_of_ble_eq_true rfl)) dL_law_1354 ⟨Nat.le_of_ble_eq_true rfl, Nat.le_of_ble_eq_true rfl⟩) hP hD hK hS hA [1] [0] [0] rfl rfl (by decide) (by decide) rfl (fun r_35 u H locs w_36 hP hD hK hS => ?_)
      try dsimp only at w_36
      have hP : va_P (dC, dI) vwCl [(ao, .inl (cL, 1, .inr (.inl o_7)))] H := hP
      have hD : va_D A [(ao, .inl (cL, 1, .inr (.inl o_7)))] := hD
      have hK : va_K (dC, dI) vwCl [(cL, .long)] s := hK
      obtain rfl : r_35 = 2 := w_36
      refine lv_iload hx hb dL_law_1357 (lv_at hl 1 rfl) ?_
      refine lv_icmp_eq (tgt := 1364) hx hb dL_law_1359 (by decide) (fun _ => ?_) (fun c_37 => absurd c_37 (by decide))
      refine lv_iload hx hb dL_law_1364 (lv_at hl 1 rfl) ?_
      refine lv_if_ne (tgt := 1381) hx hb dL_law_1366 (by decide) (fun _ => ?_) (fun c_38 => absurd c_38 (by decide))
      refine lv_goto (tgt := 1620) hx hb dL_law_1381 (by decide) ?_
      refine W.widen (k := 2000) (n := 300000) (Nat.le_of_ble_eq_true rfl) (Nat.le_of_ble_eq_true rfl) ?_
      exact K _ _ _ hS (lv_sub hl [2, 6] rfl)

set_option maxHeartbeats 4000000 in
set_option maxRecDepth 100000 in
/-- the law at count -/
theorem law_count {p : Program} {l : Launch} {e : Env} {s : State} {m : MethodId} {below : List Frame} {meth : Method} {c : Code} {Q : State → Prop} {b : Nat} {xs : Nat → Int32} {A : Nat → Prop} {H : Heap} {locs : List Loc} {ls : Array Slot} (hl0 : l.stackTraces = false) (dC : Nat → ClassId) (dI : Nat → Nat → Nat) (h : Nat) (aT : Nat) (aV : Nat) (aS : Nat) (aC : Nat) (aO : Nat) (aF : Nat) (aL : Nat) (aR : Nat) (aX : Nat) (cO : ClassId) (sT : Nat) (sK : Nat) (sH : Nat) (hF : Nat) (hW : Nat) (hM : Nat) (rG : Nat) (xL : Nat) (xS : Nat) (xK : Nat) (xV : Nat) (xW : Nat) (lK : Nat) (ao : Nat) (cL : ClassId) (mo : Nat) (m1 : Nat) (m3 : Nat) (m4 : Nat) (m5 : Nat) (m6 : Nat) (m7 : Nat) (m8 : Nat) (m9 : Nat) (m11 : Nat) (m12 : Nat) (m13 : Nat) (m14 : Nat) (m15 : Nat) (m16 : Nat) (m17 : Nat) (m18 : Nat) (m19 : Nat) (m24 : Nat) (m26 : Nat) (m28 : Nat) (m29 : Nat) (m30 : Nat) (m31 : Nat) (m32 : Nat) (m33 : Nat) (m34 : Nat) (m35 : Nat) (m36 : Nat) (m44 : Nat) (m45 : Nat) (m46 : Nat) (m47 : Nat) (m48 : Nat) (m50 : Nat) (m51 : Nat) (m52 : Nat) (m53 : Nat) (m54 : Nat) (k28 : ClassId) (hx : p.tables.exec = Jvm.exec) (hb : c.code = cL_law) (hml : c.maxLocals = 7) (hown : s.vm.findClass RL = some m.cls) (hts : ∀ w ∈ wsL_law, w.before #[Value.ref b] s = true) (hX : va_X b 6 xs s s.heap) (hbl : b < s.heap.size) (hbA : ¬ A b) (hA : ∀ q : Nat, s.heap.size ≤ q → A q) (hZ : tx_St A s) (hl : lv_has ls 7 [(4, .int 0), (3, .ref ao), (2, .ref mo), (1, .ref h), (0, .ref b)]) (hP : va_P (dC, dI) vwCl [(h, .inr (11, [.ref aT, .ref aV, .ref aS, .ref aC, .ref aO, .ref aF, .ref aL, .ref aR, .ref aX, .int 0, .int 0, .int 0])), (aO, .inl (cO, 10, .inl (fun _ => 0))), (aS, .inr (9, [.ref sT, .ref sK, .ref sH, .int 0, .int 0, .int 0, .int 0, .int 0])), (sH, .inr (3, [.ref hF, .ref hW, .ref hM, .int 0, .int 0])), (aR, .inr (6, [.ref rG, .int 0, .int 0, .int (-1), .null, .int 0, .int 0, .null])), (aX, .inr (8, [.ref xL, .int 0, .ref xS, .ref xK, .ref xV, .ref xW, .null, .int 0])), (xL, .inr (7, [.ref lK, .int 0, .int 0])), (ao, .inl (cL, 1, .inr (.inl (fun _ => 0)))), (mo, .inr (12, [.int 0, .ref m1, .int 0, .ref m3, .ref m4, .ref m5, .ref m6, .ref m7, .ref m8, .ref m9, .int 0, .ref m11, .ref m12, .ref m13, .ref m14, .ref m15, .ref m16, .ref m17, .ref m18, .ref m19, .int 0, .int 0, .int 0, .int 0, .ref m24, .int 0, .ref m26, .int 0, .ref m28, .ref m29, .ref m30, .ref m31, .ref m32, .ref m33, .ref m34, .ref m35, .ref m36, .int 0, .int 0, .int 0, .int 0, .int 0, .int (-1), .int 0, .ref m44, .ref m45, .ref m46, .ref m47, .ref m48, .int 0, .ref m50, .ref m51, .ref m52, .ref m53, .ref m54, .int 0, .int 0])), (m28, .inl (k28, 10, .inl (fun _ => 0)))] H) (hD : va_D A [(h, .inr (11, [.ref aT, .ref aV, .ref aS, .ref aC, .ref aO, .ref aF, .ref aL, .ref aR, .ref aX, .int 0, .int 0, .int 0])), (aO, .inl (cO, 10, .inl (fun _ => 0))), (aS, .inr (9, [.ref sT, .ref sK, .ref sH, .int 0, .int 0, .int 0, .int 0, .int 0])), (sH, .inr (3, [.ref hF, .ref hW, .ref hM, .int 0, .int 0])), (aR, .inr (6, [.ref rG, .int 0, .int 0, .int (-1), .null, .int 0, .int 0, .null])), (aX, .inr (8, [.ref xL, .int 0, .ref xS, .ref xK, .ref xV, .ref xW, .null, .int 0])), (xL, .inr (7, [.ref lK, .int 0, .int 0])), (ao, .inl (cL, 1, .inr (.inl (fun _ => 0)))), (mo, .inr (12, [.int 0, .ref m1, .int 0, .ref m3, .ref m4, .ref m5, .ref m6, .ref m7, .ref m8, .ref m9, .int 0, .ref m11, .ref m12, .ref m13, .ref m14, .ref m15, .ref m16, .ref m17, .ref m18, .ref m19, .int 0, .int 0, .int 0, .int 0, .ref m24, .int 0, .ref m26, .int 0, .ref m28, .ref m29, .ref m30, .ref m31, .ref m32, .ref m33, .ref m34, .ref m35, .ref m36, .int 0, .int 0, .int 0, .int 0, .int 0, .int (-1), .int 0, .ref m44, .ref m45, .ref m46, .ref m47, .ref m48, .int 0, .ref m50, .ref m51, .ref m52, .ref m53, .ref m54, .int 0, .int 0])), (m28, .inl (k28, 10, .inl (fun _ => 0)))]) (hK : va_K (dC, dI) vwCl [(cO, .boolean), (cL, .long), (k28, .boolean)] s) (hS : va_S A s.heap H locs)
    (K : ∀ (H : Heap) (locs : List Loc) (ls : Array Slot), va_S A s.heap H locs → lv_has ls 7 [(4, .int 0), (0, .ref b)] → W p l e room_1 s m #[Value.ref b] below meth c H locs 2000 300000 Q (F0 m 1620 ls [])) : W p l e room_1 s m #[Value.ref b] below meth c H locs 1000 200000 Q (F0 m 1564 ls []) := by
  refine lv_aload_n hx hb dL_law_1564 rfl (lv_at hl 3 rfl) ?_
  refine lv_aload_n hx hb dL_law_1565 rfl (lv_at hl 4 rfl) ?_
  refine lv_iload hx hb dL_law_1566 (lv_at hl 0 rfl) ?_
  refine lv_iconst (v := 1) hx hb dL_law_1568 (by decide) ?_
  refine lv_iadd hx hb dL_law_1569 ?_
  refine lv_topi (fun z_1 ez_1 => ?_)
  obtain rfl : z_1 = 1 := ez_1.trans (by decide)
  refine va_sld hx hb hX hbl hbA hS (by unfold vp_in; decide) dL_law_1570 ?_
  refine lv_topi (fun z_2 ez_2 => ?_)
  obtain rfl : z_2 = xs 1 := ez_2.trans (congrArg xs (by decide))
  refine lv_aload_n hx hb dL_law_1571 rfl (lv_at hl 1 rfl) ?_
  refine ct_i (wr := [(mo, .inr (12, [.int 0, .ref m1, .int 0, .ref m3, .ref m4, .ref m5, .ref m6, .ref m7, .ref m8, .ref m9, .int 0, .ref m11, .ref m12, .ref m13, .ref m14, .ref m15, .ref m16, .ref m17, .ref m18, .ref m19, .int 0, .int 0, .int 0, .int 0, .ref m24, .int 0, .ref m26, .int 0, .ref m28, .ref m29, .ref m30, .ref m31, .ref m32, .ref m33, .ref m34, .ref m35, .ref m36, .int 0, .int 0, .int 0, .int 0, .int 0, .int (-1), .int 0, .ref m44, .ref m45, .ref m46, .ref m47, .ref m48, .int 0, .ref m50, .ref m51, .ref m52, .ref m53, .ref m54, .int 0, .int 0])), (m28, .inl (k28, 10, .inl (fun _ => 0)))]) (tyr := [(k28, .boolean)]) (vx_runSW (As := [.ref h, .int (xs 1), .ref ao]) (rest := []) ⟨hx, hb, hml, hown, hts⟩ (h_count l hl0 dC dI h aT aV aS aC aO aF aL aR aX sT sK sH hF hW hM rG xL xS xK xV xW lK cO (xs 1) ao cL (fun _ => 0) H.size ) (vx_cwSW 3 hts gL_law_L_count rfl rfl rfl (by decide +kernel) ⟨Nat.le_of_ble_eq_true rfl, Nat.le_of_ble_eq_true rfl⟩) (ct_pre hP hD hK hS hA hZ [0, 1, 2, 3, 4, 5, 6, 7] [0, 1] rfl (by decide) rfl) rfl rfl hl.1 rfl (lv_room (Nat.le_of_ble_eq_true rfl)) dL_law_1572 ⟨Nat.le_of_ble_eq_true rfl, Nat.le_of_ble_eq_true rfl⟩) hP hD hK hS hA [0, 1, 2, 3, 4, 5, 6, 7] [8, 9] [2] rfl rfl (by decide) (by decide) rfl (fun r_4 u H locs w_5 hP hD hK hS => ?_)
  obtain ⟨o_3, rfl⟩ : ∃ z, z = u := ⟨_, rfl⟩
  try dsimp only at w_5
  have hP : va_P (dC, dI) vwCl [(mo, .inr (12, [.int 0, .ref m1, .int 0, .ref m3, .ref m4, .ref m5, .ref m6, .ref m7, .ref m8, .ref m9, .int 0, .ref m11, .ref m12, .ref m13, .ref m14, .ref m15, .ref m16, .ref m17, .ref m18, .ref m19, .int 0, .int 0, .int 0, .int 0, .ref m24, .int 0, .ref m26, .int 0, .ref m28, .ref m29, .ref m30, .ref m31, .ref m32, .ref m33, .ref m34, .ref m35, .ref m36, .int 0, .int 0, .int 0, .int 0, .int 0, .int (-1), .int 0, .ref m44, .ref m45, .ref m46, .ref m47, .ref m48, .int 0, .ref m50, .ref m51, .ref m52, .ref m53, .ref m54, .int 0, .int 0])), (m28, .inl (k28, 10, .inl (fun _ => 0))), (ao, .inl (cL, 1, .inr (.inl o_3)))] H := hP
  have hD : va_D A [(mo, .inr (12, [.int 0, .ref m1, .int 0, .ref m3, .ref m4, .ref m5, .ref m6, .ref m7, .ref m8, .ref m9, .int 0, .ref m11, .ref m12, .ref m13, .ref m14, .ref m15, .ref m16, .ref m17, .ref m18, .ref m19, .int 0, .int 0, .int 0, .int 0, .ref m24, .int 0, .ref m26, .int 0, .ref m28, .ref m29, .ref m30, .ref m31, .ref m32, .ref m33, .ref m34, .ref m35, .ref m36, .int 0, .int 0, .int 0, .int 0, .int 0, .int (-1), .int 0, .ref m44, .ref m45, .ref m46, .ref m47, .ref m48, .int 0, .ref m50, .ref m51, .ref m52, .ref m53, .ref m54, .int 0, .int 0])), (m28, .inl (k28, 10, .inl (fun _ => 0))), (ao, .inl (cL, 1, .inr (.inl o_3)))] := hD
  have hK : va_K (dC, dI) vwCl [(k28, .boolean), (cL, .long)] s := hK
  refine W.widen (k := 1001) (n := 200006) (Nat.le_of_ble_eq_true rfl) (Nat.le_of_ble_eq_true rfl) ?_
  rcases w_5 with ⟨rfl, h_6⟩ | ⟨rfl, h_6⟩
  · skip
    refine lv_istore (lv' := [(5, .int 1), (4, .int 0), (3, .ref ao), (2, .ref mo), (1, .ref h), (0, .ref b)]) hx hb dL_law_1575 hl (by decide) rfl (fun ls hl => ?_)
    refine lv_aload_n hx hb dL_law_1577 rfl (lv_at hl 3 rfl) ?_
    refine lv_aload_n hx hb dL_law_1578 rfl (lv_at hl 5 rfl) ?_
    refine lv_iload hx hb dL_law_1579 (lv_at hl 1 rfl) ?_
    refine lv_iconst (v := 1) hx hb dL_law_1581 (by decide) ?_
    refine lv_iadd hx hb dL_law_1582 ?_
    refine lv_topi (fun z_7 ez_7 => ?_)
    obtain rfl : z_7 = 1 := ez_7.trans (by decide)
    refine va_sld hx hb hX hbl hbA hS (by unfold vp_in; decide) dL_law_1583 ?_
    refine lv_topi (fun z_8 ez_8 => ?_)
    obtain rfl : z_8 = xs 1 := ez_8.trans (congrArg xs (by decide))
    refine ct_i (wr := [(ao, .inl (cL, 1, .inr (.inl o_3)))]) (tyr := [(cL, .long)]) (va_runV (As := [.int (xs 1)]) (rest := []) ⟨hx, hb, hml, hown, hts⟩ (m_count l hl0 dC dI mo m1 m3 m4 m5 m6 m7 m8 m9 m11 m12 m13 m14 m15 m16 m17 m18 m19 m24 m26 m28 m29 m30 m31 m32 m33 m34 m35 m36 m44 m45 m46 m47 m48 m50 m51 m52 m53 m54 k28 (xs 1) H.size ) (cwV 1 hts gL_law_X12_count rfl rfl rfl (by decide +kernel) ⟨Nat.le_of_ble_eq_true rfl, Nat.le_of_ble_eq_true rfl⟩) (ct_preV (ci := 12) (q0 := 0) hP hD hK hS hA hZ rfl rfl [0, 1] [0] rfl (by decide) rfl) rfl rfl hl.1 rfl (lv_room (Nat.le_of_ble_eq_true rfl)) dL_law_1584 ⟨Nat.le_of_ble_eq_true rfl, Nat.le_of_ble_eq_true rfl⟩) hP hD hK hS hA [0, 1] [2] [1] rfl rfl (by decide) (by decide) rfl (fun r_10 u H locs w_11 hP hD hK hS => ?_)
    obtain ⟨o_9, rfl⟩ : ∃ z, z = u := ⟨_, rfl⟩
    try dsimp only at w_11
    have hP : va_P (dC, dI) vwCl [(ao, .inl (cL, 1, .inr (.inl o_3))), (mo, .inr (12, [.int o_9, .ref m1, .int 0, .ref m3, .ref m4, .ref m5, .ref m6, .ref m7, .ref m8, .ref m9, .int 0, .ref m11, .ref m12, .ref m13, .ref m14, .ref m15, .ref m16, .ref m17, .ref m18, .ref m19, .int 0, .int 0, .int 0, .int 0, .ref m24, .int 0, .ref m26, .int 0, .ref m28, .ref m29, .ref m30, .ref m31, .ref m32, .ref m33, .ref m34, .ref m35, .ref m36, .int 0, .int 0, .int 0, .int 0, .int 0, .int (-1), .int 0, .ref m44, .ref m45, .ref m46, .ref m47, .ref m48, .int 0, .ref m50, .ref m51, .ref m52, .ref m53, .ref m54, .int 0, .int 0]))] H := hP
    have hD : va_D A [(ao, .inl (cL, 1, .inr (.inl o_3))), (mo, .inr (12, [.int o_9, .ref m1, .int 0, .ref m3, .ref m4, .ref m5, .ref m6, .ref m7, .ref m8, .ref m9, .int 0, .ref m11, .ref m12, .ref m13, .ref m14, .ref m15, .ref m16, .ref m17, .ref m18, .ref m19, .int 0, .int 0, .int 0, .int 0, .ref m24, .int 0, .ref m26, .int 0, .ref m28, .ref m29, .ref m30, .ref m31, .ref m32, .ref m33, .ref m34, .ref m35, .ref m36, .int 0, .int 0, .int 0, .int 0, .int 0, .int (-1), .int 0, .ref m44, .ref m45, .ref m46, .ref m47, .ref m48, .int 0, .ref m50, .ref m51, .ref m52, .ref m53, .ref m54, .int 0, .int 0]))] := hD
    have hK : va_K (dC, dI) vwCl [(cL, .long)] s := hK
    rcases w_11 with ⟨rfl, q_12⟩ | ⟨rfl, q_12⟩
    · skip
      refine lv_istore (lv' := [(6, .int r_10), (5, .int 1), (4, .int 0), (3, .ref ao), (2, .ref mo), (1, .ref h), (0, .ref b)]) hx hb dL_law_1587 hl (by decide) rfl (fun ls hl => ?_)
      refine lv_aload_n hx hb dL_law_1589 rfl (lv_at hl 4 rfl) ?_
      refine ct_i (wr := [(ao, .inl (cL, 1, .inr (.inl o_3)))]) (tyr := [(cL, .long)]) (va_runV (As := []) (rest := []) ⟨hx, hb, hml, hown, hts⟩ (m_thrown l hl0 dC dI mo m1 m3 m4 m5 m6 m7 m8 m9 m11 m12 m13 m14 m15 m16 m17 m18 m19 m24 m26 m28 m29 m30 m31 m32 m33 m34 m35 m36 m44 m45 m46 m47 m48 m50 m51 m52 m53 m54 1 0 0 0 0 0 0 (-1) 0 H.size ) (cwV 0 hts gL_law_X12_thrown rfl rfl rfl (by decide +kernel) ⟨Nat.le_of_ble_eq_true rfl, Nat.le_of_ble_eq_true rfl⟩) (ct_preV (ci := 12) (q0 := 1) hP hD hK hS hA hZ rfl rfl [1] [] rfl (by decide) rfl) rfl rfl hl.1 rfl (lv_room (Nat.le_of_ble_eq_true rfl)) dL_law_1590 ⟨Nat.le_of_ble_eq_true rfl, Nat.le_of_ble_eq_true rfl⟩) hP hD hK hS hA [1] [0] [0] rfl rfl (by decide) (by decide) rfl (fun r_13 u H locs w_14 hP hD hK hS => ?_)
      try dsimp only at w_14
      have hP : va_P (dC, dI) vwCl [(ao, .inl (cL, 1, .inr (.inl o_3)))] H := hP
      have hD : va_D A [(ao, .inl (cL, 1, .inr (.inl o_3)))] := hD
      have hK : va_K (dC, dI) vwCl [(cL, .long)] s := hK
      obtain rfl : r_13 = 1 := w_14
      refine lv_iload hx hb dL_law_1593 (lv_at hl 1 rfl) ?_
      refine lv_icmp_eq (tgt := 1600) hx hb dL_law_1595 (by decide) (fun _ => ?_) (fun c_15 => absurd c_15 (by decide))
      refine lv_iload hx hb dL_law_1600 (lv_at hl 1 rfl) ?_
      refine lv_if_ne (tgt := 1617) hx hb dL_law_1602 (by decide) (fun _ => ?_) (fun c_16 => absurd c_16 (by decide))
      refine lv_goto (tgt := 1620) hx hb dL_law_1617 (by decide) ?_
      refine W.widen (k := 2000) (n := 300000) (Nat.le_of_ble_eq_true rfl) (Nat.le_of_ble_eq_true rfl) ?_
      exact K _ _ _ hS (lv_sub hl [2, 6] rfl)
    · skip
      exact absurd h_6 q_12.1
  · skip
    refine lv_istore (lv' := [(5, .int 0), (4, .int 0), (3, .ref ao), (2, .ref mo), (1, .ref h), (0, .ref b)]) hx hb dL_law_1575 hl (by decide) rfl (fun ls hl => ?_)
    refine lv_aload_n hx hb dL_law_1577 rfl (lv_at hl 3 rfl) ?_
    refine lv_aload_n hx hb dL_law_1578 rfl (lv_at hl 5 rfl) ?_
    refine lv_iload hx hb dL_law_1579 (lv_at hl 1 rfl) ?_
    refine lv_iconst (v := 1) hx hb dL_law_1581 (by decide) ?_
    refine lv_iadd hx hb dL_law_1582 ?_
    refine lv_topi (fun z_17 ez_17 => ?_)
    obtain rfl : z_17 = 1 := ez_17.trans (by decide)
    refine va_sld hx hb hX hbl hbA hS (by unfold vp_in; decide) dL_law_1583 ?_
    refine lv_topi (fun z_18 ez_18 => ?_)
    obtain rfl : z_18 = xs 1 := ez_18.trans (congrArg xs (by decide))
    refine ct_i (wr := [(ao, .inl (cL, 1, .inr (.inl o_3)))]) (tyr := [(cL, .long)]) (va_runV (As := [.int (xs 1)]) (rest := []) ⟨hx, hb, hml, hown, hts⟩ (m_count l hl0 dC dI mo m1 m3 m4 m5 m6 m7 m8 m9 m11 m12 m13 m14 m15 m16 m17 m18 m19 m24 m26 m28 m29 m30 m31 m32 m33 m34 m35 m36 m44 m45 m46 m47 m48 m50 m51 m52 m53 m54 k28 (xs 1) H.size ) (cwV 1 hts gL_law_X12_count rfl rfl rfl (by decide +kernel) ⟨Nat.le_of_ble_eq_true rfl, Nat.le_of_ble_eq_true rfl⟩) (ct_preV (ci := 12) (q0 := 0) hP hD hK hS hA hZ rfl rfl [0, 1] [0] rfl (by decide) rfl) rfl rfl hl.1 rfl (lv_room (Nat.le_of_ble_eq_true rfl)) dL_law_1584 ⟨Nat.le_of_ble_eq_true rfl, Nat.le_of_ble_eq_true rfl⟩) hP hD hK hS hA [0, 1] [2] [1] rfl rfl (by decide) (by decide) rfl (fun r_20 u H locs w_21 hP hD hK hS => ?_)
    obtain ⟨o_19, rfl⟩ : ∃ z, z = u := ⟨_, rfl⟩
    try dsimp only at w_21
    have hP : va_P (dC, dI) vwCl [(ao, .inl (cL, 1, .inr (.inl o_3))), (mo, .inr (12, [.int o_19, .ref m1, .int 0, .ref m3, .ref m4, .ref m5, .ref m6, .ref m7, .ref m8, .ref m9, .int 0, .ref m11, .ref m12, .ref m13, .ref m14, .ref m15, .ref m16, .ref m17, .ref m18, .ref m19, .int 0, .int 0, .int 0, .int 0, .ref m24, .int 0, .ref m26, .int 0, .ref m28, .ref m29, .ref m30, .ref m31, .ref m32, .ref m33, .ref m34, .ref m35, .ref m36, .int 0, .int 0, .int 0, .int 0, .int 0, .int (-1), .int 0, .ref m44, .ref m45, .ref m46, .ref m47, .ref m48, .int 0, .ref m50, .ref m51, .ref m52, .ref m53, .ref m54, .int 0, .int 0]))] H := hP
    have hD : va_D A [(ao, .inl (cL, 1, .inr (.inl o_3))), (mo, .inr (12, [.int o_19, .ref m1, .int 0, .ref m3, .ref m4, .ref m5, .ref m6, .ref m7, .ref m8, .ref m9, .int 0, .ref m11, .ref m12, .ref m13, .ref m14, .ref m15, .ref m16, .ref m17, .ref m18, .ref m19, .int 0, .int 0, .int 0, .int 0, .ref m24, .int 0, .ref m26, .int 0, .ref m28, .ref m29, .ref m30, .ref m31, .ref m32, .ref m33, .ref m34, .ref m35, .ref m36, .int 0, .int 0, .int 0, .int 0, .int 0, .int (-1), .int 0, .ref m44, .ref m45, .ref m46, .ref m47, .ref m48, .int 0, .ref m50, .ref m51, .ref m52, .ref m53, .ref m54, .int 0, .int 0]))] := hD
    have hK : va_K (dC, dI) vwCl [(cL, .long)] s := hK
    rcases w_21 with ⟨rfl, q_22⟩ | ⟨rfl, q_22⟩
    · skip
      exact absurd q_22 h_6.1
    · skip
      obtain rfl : sp_cnt (xs 1) = r_20 := q_22.2.symm
      refine lv_istore (lv' := [(6, .int (sp_cnt (xs 1))), (5, .int 0), (4, .int 0), (3, .ref ao), (2, .ref mo), (1, .ref h), (0, .ref b)]) hx hb dL_law_1587 hl (by decide) rfl (fun ls hl => ?_)
      refine lv_aload_n hx hb dL_law_1589 rfl (lv_at hl 4 rfl) ?_
      refine ct_i (wr := [(ao, .inl (cL, 1, .inr (.inl o_3)))]) (tyr := [(cL, .long)]) (va_runV (As := []) (rest := []) ⟨hx, hb, hml, hown, hts⟩ (m_thrown l hl0 dC dI mo m1 m3 m4 m5 m6 m7 m8 m9 m11 m12 m13 m14 m15 m16 m17 m18 m19 m24 m26 m28 m29 m30 m31 m32 m33 m34 m35 m36 m44 m45 m46 m47 m48 m50 m51 m52 m53 m54 0 0 0 0 0 0 0 (-1) 0 H.size ) (cwV 0 hts gL_law_X12_thrown rfl rfl rfl (by decide +kernel) ⟨Nat.le_of_ble_eq_true rfl, Nat.le_of_ble_eq_true rfl⟩) (ct_preV (ci := 12) (q0 := 1) hP hD hK hS hA hZ rfl rfl [1] [] rfl (by decide) rfl) rfl rfl hl.1 rfl (lv_room (Nat.le_of_ble_eq_true rfl)) dL_law_1590 ⟨Nat.le_of_ble_eq_true rfl, Nat.le_of_ble_eq_true rfl⟩) hP hD hK hS hA [1] [0] [0] rfl rfl (by decide) (by decide) rfl (fun r_23 u H locs w_24 hP hD hK hS => ?_)
      try dsimp only at w_24
      have hP : va_P (dC, dI) vwCl [(ao, .inl (cL, 1, .inr (.inl o_3)))] H := hP
      have hD : va_D A [(ao, .inl (cL, 1, .inr (.inl o_3)))] := hD
      have hK : va_K (dC, dI) vwCl [(cL, .long)] s := hK
      obtain rfl : r_23 = 0 := w_24
      refine lv_iload hx hb dL_law_1593 (lv_at hl 1 rfl) ?_
      refine lv_icmp_eq (tgt := 1600) hx hb dL_law_1595 (by decide) (fun _ => ?_) (fun c_25 => absurd c_25 (by decide))
      refine lv_iload hx hb dL_law_1600 (lv_at hl 1 rfl) ?_
      refine lv_if_ne (tgt := 1617) hx hb dL_law_1602 (by decide) (fun c_26 => absurd c_26 (by decide)) (fun _ => ?_)
      refine lv_aload_n hx hb dL_law_1605 rfl (lv_at hl 3 rfl) ?_
      refine lv_iconst (v := 0) hx hb dL_law_1606 (by decide) ?_
      refine va_lald hx hb hK hP 0 0 rfl rfl (by unfold vp_in; decide) dL_law_1607 ?_
      refine lv_topl (fun y_27 ey_27 => ?_)
      obtain rfl : y_27 = (sp_cnt (xs 1) : Int32).toInt64 := ey_27.trans ((congrArg o_3 (by decide : (0 : Int32).toNatClampNeg = 0)).trans h_6.2)
      refine lv_iload hx hb dL_law_1608 (lv_at hl 0 rfl) ?_
      refine lv_i2l (v := (sp_cnt (xs 1) : Int32).toInt64) hx hb dL_law_1610 rfl ?_
      refine tx_lcmpE hx hb dL_law_1611 ?_
      refine lv_if_eq (tgt := 1617) hx hb dL_law_1612 (by decide) (fun _ => ?_) (fun c_28 => absurd c_28 (by decide))
      refine lv_goto (tgt := 1620) hx hb dL_law_1617 (by decide) ?_
      refine W.widen (k := 2000) (n := 300000) (Nat.le_of_ble_eq_true rfl) (Nat.le_of_ble_eq_true rfl) ?_
      exact K _ _ _ hS (lv_sub hl [2, 6] rfl)
