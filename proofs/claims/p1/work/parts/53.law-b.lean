set_option maxHeartbeats 4000000 in
set_option maxRecDepth 100000 in
/-- the law at feed -/
theorem law_feed {p : Program} {l : Launch} {e : Env} {s : State} {m : MethodId} {below : List Frame} {meth : Method} {c : Code} {Q : State → Prop} {b : Nat} {xs : Nat → Int32} {A : Nat → Prop} {H : Heap} {locs : List Loc} {ls : Array Slot} (hl0 : l.stackTraces = false) (dC : Nat → ClassId) (dI : Nat → Nat → Nat) (h : Nat) (aT : Nat) (aV : Nat) (aS : Nat) (aC : Nat) (aO : Nat) (aF : Nat) (aL : Nat) (aR : Nat) (aX : Nat) (cB : ClassId) (ao : Nat) (cL : ClassId) (mo : Nat) (m1 : Nat) (m3 : Nat) (m4 : Nat) (m5 : Nat) (m6 : Nat) (m7 : Nat) (m8 : Nat) (m9 : Nat) (m11 : Nat) (m12 : Nat) (m13 : Nat) (m14 : Nat) (m15 : Nat) (m16 : Nat) (m17 : Nat) (m18 : Nat) (m19 : Nat) (m24 : Nat) (m26 : Nat) (m28 : Nat) (m29 : Nat) (m30 : Nat) (m31 : Nat) (m32 : Nat) (m33 : Nat) (m34 : Nat) (m35 : Nat) (m36 : Nat) (m44 : Nat) (m45 : Nat) (m46 : Nat) (m47 : Nat) (m48 : Nat) (m50 : Nat) (m51 : Nat) (m52 : Nat) (m53 : Nat) (m54 : Nat) (k1 : ClassId) (hx : p.tables.exec = Jvm.exec) (hb : c.code = cL_law) (hml : c.maxLocals = 7) (hown : s.vm.findClass RL = some m.cls) (hts : ∀ w ∈ wsL_law, w.before #[Value.ref b] s = true) (hX : va_X b 6 xs s s.heap) (hbl : b < s.heap.size) (hbA : ¬ A b) (hA : ∀ q : Nat, s.heap.size ≤ q → A q) (hZ : tx_St A s) (hl : lv_has ls 7 [(4, .int 0), (3, .ref ao), (2, .ref mo), (1, .ref h), (0, .ref b)]) (hP : va_P (dC, dI) vwCl [(h, .inr (11, [.ref aT, .ref aV, .ref aS, .ref aC, .ref aO, .ref aF, .ref aL, .ref aR, .ref aX, .int 0, .int 0, .int 0])), (aT, .inl (cB, 400, .inl (fun _ => 0))), (ao, .inl (cL, 1, .inr (.inl (fun _ => 0)))), (mo, .inr (12, [.int 0, .ref m1, .int 0, .ref m3, .ref m4, .ref m5, .ref m6, .ref m7, .ref m8, .ref m9, .int 0, .ref m11, .ref m12, .ref m13, .ref m14, .ref m15, .ref m16, .ref m17, .ref m18, .ref m19, .int 0, .int 0, .int 0, .int 0, .ref m24, .int 0, .ref m26, .int 0, .ref m28, .ref m29, .ref m30, .ref m31, .ref m32, .ref m33, .ref m34, .ref m35, .ref m36, .int 0, .int 0, .int 0, .int 0, .int 0, .int (-1), .int 0, .ref m44, .ref m45, .ref m46, .ref m47, .ref m48, .int 0, .ref m50, .ref m51, .ref m52, .ref m53, .ref m54, .int 0, .int 0])), (m1, .inl (k1, 400, .inl (fun _ => 0)))] H) (hD : va_D A [(h, .inr (11, [.ref aT, .ref aV, .ref aS, .ref aC, .ref aO, .ref aF, .ref aL, .ref aR, .ref aX, .int 0, .int 0, .int 0])), (aT, .inl (cB, 400, .inl (fun _ => 0))), (ao, .inl (cL, 1, .inr (.inl (fun _ => 0)))), (mo, .inr (12, [.int 0, .ref m1, .int 0, .ref m3, .ref m4, .ref m5, .ref m6, .ref m7, .ref m8, .ref m9, .int 0, .ref m11, .ref m12, .ref m13, .ref m14, .ref m15, .ref m16, .ref m17, .ref m18, .ref m19, .int 0, .int 0, .int 0, .int 0, .ref m24, .int 0, .ref m26, .int 0, .ref m28, .ref m29, .ref m30, .ref m31, .ref m32, .ref m33, .ref m34, .ref m35, .ref m36, .int 0, .int 0, .int 0, .int 0, .int 0, .int (-1), .int 0, .ref m44, .ref m45, .ref m46, .ref m47, .ref m48, .int 0, .ref m50, .ref m51, .ref m52, .ref m53, .ref m54, .int 0, .int 0])), (m1, .inl (k1, 400, .inl (fun _ => 0)))]) (hK : va_K (dC, dI) vwCl [(cB, .byte), (cL, .long), (k1, .byte)] s) (hS : va_S A s.heap H locs)
    (K : ∀ (H : Heap) (locs : List Loc) (ls : Array Slot), va_S A s.heap H locs → lv_has ls 7 [(4, .int 0), (0, .ref b)] → W p l e room_1 s m #[Value.ref b] below meth c H locs 2000 300000 Q (F0 m 1620 ls [])) : W p l e room_1 s m #[Value.ref b] below meth c H locs 1000 200000 Q (F0 m 144 ls []) := by
  refine lv_aload_n hx hb dL_law_144 rfl (lv_at hl 3 rfl) ?_
  refine lv_aload_n hx hb dL_law_145 rfl (lv_at hl 4 rfl) ?_
  refine lv_iload hx hb dL_law_146 (lv_at hl 0 rfl) ?_
  refine lv_iconst (v := 1) hx hb dL_law_148 (by decide) ?_
  refine lv_iadd hx hb dL_law_149 ?_
  refine lv_topi (fun z_1 ez_1 => ?_)
  obtain rfl : z_1 = 1 := ez_1.trans (by decide)
  refine va_sld hx hb hX hbl hbA hS (by unfold vp_in; decide) dL_law_150 ?_
  refine lv_topi (fun z_2 ez_2 => ?_)
  obtain rfl : z_2 = xs 1 := ez_2.trans (congrArg xs (by decide))
  refine lv_aload_n hx hb dL_law_151 rfl (lv_at hl 4 rfl) ?_
  refine lv_iload hx hb dL_law_152 (lv_at hl 0 rfl) ?_
  refine lv_iconst (v := 2) hx hb dL_law_154 (by decide) ?_
  refine lv_iadd hx hb dL_law_155 ?_
  refine lv_topi (fun z_3 ez_3 => ?_)
  obtain rfl : z_3 = 2 := ez_3.trans (by decide)
  refine va_sld hx hb hX hbl hbA hS (by unfold vp_in; decide) dL_law_156 ?_
  refine lv_topi (fun z_4 ez_4 => ?_)
  obtain rfl : z_4 = xs 2 := ez_4.trans (congrArg xs (by decide))
  refine lv_aload_n hx hb dL_law_157 rfl (lv_at hl 4 rfl) ?_
  refine lv_iload hx hb dL_law_158 (lv_at hl 0 rfl) ?_
  refine lv_iconst (v := 3) hx hb dL_law_160 (by decide) ?_
  refine lv_iadd hx hb dL_law_161 ?_
  refine lv_topi (fun z_5 ez_5 => ?_)
  obtain rfl : z_5 = 3 := ez_5.trans (by decide)
  refine va_sld hx hb hX hbl hbA hS (by unfold vp_in; decide) dL_law_162 ?_
  refine lv_topi (fun z_6 ez_6 => ?_)
  obtain rfl : z_6 = xs 3 := ez_6.trans (congrArg xs (by decide))
  refine lv_aload_n hx hb dL_law_163 rfl (lv_at hl 4 rfl) ?_
  refine lv_iload hx hb dL_law_164 (lv_at hl 0 rfl) ?_
  refine lv_iconst (v := 4) hx hb dL_law_166 (by decide) ?_
  refine lv_iadd hx hb dL_law_167 ?_
  refine lv_topi (fun z_7 ez_7 => ?_)
  obtain rfl : z_7 = 4 := ez_7.trans (by decide)
  refine va_sld hx hb hX hbl hbA hS (by unfold vp_in; decide) dL_law_168 ?_
  refine lv_topi (fun z_8 ez_8 => ?_)
  obtain rfl : z_8 = xs 4 := ez_8.trans (congrArg xs (by decide))
  refine lv_aload_n hx hb dL_law_169 rfl (lv_at hl 4 rfl) ?_
  refine lv_iload hx hb dL_law_170 (lv_at hl 0 rfl) ?_
  refine lv_iconst (v := 5) hx hb dL_law_172 (by decide) ?_
  refine lv_iadd hx hb dL_law_173 ?_
  refine lv_topi (fun z_9 ez_9 => ?_)
  obtain rfl : z_9 = 5 := ez_9.trans (by decide)
  refine va_sld hx hb hX hbl hbA hS (by unfold vp_in; decide) dL_law_174 ?_
  refine lv_topi (fun z_10 ez_10 => ?_)
  obtain rfl : z_10 = xs 5 := ez_10.trans (congrArg xs (by decide))
  refine lv_aload_n hx hb dL_law_175 rfl (lv_at hl 1 rfl) ?_
  refine ct_i (wr := [(mo, .inr (12, [.int 0, .ref m1, .int 0, .ref m3, .ref m4, .ref m5, .ref m6, .ref m7, .ref m8, .ref m9, .int 0, .ref m11, .ref m12, .ref m13, .ref m14, .ref m15, .ref m16, .ref m17, .ref m18, .ref m19, .int 0, .int 0, .int 0, .int 0, .ref m24, .int 0, .ref m26, .int 0, .ref m28, .ref m29, .ref m30, .ref m31, .ref m32, .ref m33, .ref m34, .ref m35, .ref m36, .int 0, .int 0, .int 0, .int 0, .int 0, .int (-1), .int 0, .ref m44, .ref m45, .ref m46, .ref m47, .ref m48, .int 0, .ref m50, .ref m51, .ref m52, .ref m53, .ref m54, .int 0, .int 0])), (m1, .inl (k1, 400, .inl (fun _ => 0)))]) (tyr := [(k1, .byte)]) (vx_runSW (As := [.ref h, .int (xs 1), .int (xs 2), .int (xs 3), .int (xs 4), .int (xs 5), .ref ao]) (rest := []) ⟨hx, hb, hml, hown, hts⟩ (h_feed l hl0 dC dI h aT aV aS aC aO aF aL aR aX cB (xs 1) (xs 2) (xs 3) (xs 4) (xs 5) ao cL (fun _ => 0) H.size ) (vx_cwSW 7 hts gL_law_L_feed rfl rfl rfl (by decide +kernel) ⟨Nat.le_of_ble_eq_true rfl, Nat.le_of_ble_eq_true rfl⟩) (ct_pre hP hD hK hS hA hZ [0, 1, 2] [0, 1] rfl (by decide) rfl) rfl rfl hl.1 rfl (lv_room (Nat.le_of_ble_eq_true rfl)) dL_law_176 ⟨Nat.le_of_ble_eq_true rfl, Nat.le_of_ble_eq_true rfl⟩) hP hD hK hS hA [0, 1, 2] [3, 4] [2] rfl rfl (by decide) (by decide) rfl (fun r_12 u H locs w_13 hP hD hK hS => ?_)
  obtain ⟨o_11, rfl⟩ : ∃ z, z = u := ⟨_, rfl⟩
  try dsimp only at w_13
  have hP : va_P (dC, dI) vwCl [(mo, .inr (12, [.int 0, .ref m1, .int 0, .ref m3, .ref m4, .ref m5, .ref m6, .ref m7, .ref m8, .ref m9, .int 0, .ref m11, .ref m12, .ref m13, .ref m14, .ref m15, .ref m16, .ref m17, .ref m18, .ref m19, .int 0, .int 0, .int 0, .int 0, .ref m24, .int 0, .ref m26, .int 0, .ref m28, .ref m29, .ref m30, .ref m31, .ref m32, .ref m33, .ref m34, .ref m35, .ref m36, .int 0, .int 0, .int 0, .int 0, .int 0, .int (-1), .int 0, .ref m44, .ref m45, .ref m46, .ref m47, .ref m48, .int 0, .ref m50, .ref m51, .ref m52, .ref m53, .ref m54, .int 0, .int 0])), (m1, .inl (k1, 400, .inl (fun _ => 0))), (ao, .inl (cL, 1, .inr (.inl o_11)))] H := hP
  have hD : va_D A [(mo, .inr (12, [.int 0, .ref m1, .int 0, .ref m3, .ref m4, .ref m5, .ref m6, .ref m7, .ref m8, .ref m9, .int 0, .ref m11, .ref m12, .ref m13, .ref m14, .ref m15, .ref m16, .ref m17, .ref m18, .ref m19, .int 0, .int 0, .int 0, .int 0, .ref m24, .int 0, .ref m26, .int 0, .ref m28, .ref m29, .ref m30, .ref m31, .ref m32, .ref m33, .ref m34, .ref m35, .ref m36, .int 0, .int 0, .int 0, .int 0, .int 0, .int (-1), .int 0, .ref m44, .ref m45, .ref m46, .ref m47, .ref m48, .int 0, .ref m50, .ref m51, .ref m52, .ref m53, .ref m54, .int 0, .int 0])), (m1, .inl (k1, 400, .inl (fun _ => 0))), (ao, .inl (cL, 1, .inr (.inl o_11)))] := hD
  have hK : va_K (dC, dI) vwCl [(k1, .byte), (cL, .long)] s := hK
  obtain rfl : r_12 = 0 := w_13.1
  refine lv_istore (lv' := [(5, .int 0), (4, .int 0), (3, .ref ao), (2, .ref mo), (1, .ref h), (0, .ref b)]) hx hb dL_law_179 hl (by decide) rfl (fun ls hl => ?_)
  refine lv_aload_n hx hb dL_law_181 rfl (lv_at hl 3 rfl) ?_
  refine lv_aload_n hx hb dL_law_182 rfl (lv_at hl 5 rfl) ?_
  refine lv_iload hx hb dL_law_183 (lv_at hl 1 rfl) ?_
  refine lv_iconst (v := 1) hx hb dL_law_185 (by decide) ?_
  refine lv_iadd hx hb dL_law_186 ?_
  refine lv_topi (fun z_14 ez_14 => ?_)
  obtain rfl : z_14 = 1 := ez_14.trans (by decide)
  refine va_sld hx hb hX hbl hbA hS (by unfold vp_in; decide) dL_law_187 ?_
  refine lv_topi (fun z_15 ez_15 => ?_)
  obtain rfl : z_15 = xs 1 := ez_15.trans (congrArg xs (by decide))
  refine lv_aload_n hx hb dL_law_188 rfl (lv_at hl 5 rfl) ?_
  refine lv_iload hx hb dL_law_189 (lv_at hl 1 rfl) ?_
  refine lv_iconst (v := 2) hx hb dL_law_191 (by decide) ?_
  refine lv_iadd hx hb dL_law_192 ?_
  refine lv_topi (fun z_16 ez_16 => ?_)
  obtain rfl : z_16 = 2 := ez_16.trans (by decide)
  refine va_sld hx hb hX hbl hbA hS (by unfold vp_in; decide) dL_law_193 ?_
  refine lv_topi (fun z_17 ez_17 => ?_)
  obtain rfl : z_17 = xs 2 := ez_17.trans (congrArg xs (by decide))
  refine lv_aload_n hx hb dL_law_194 rfl (lv_at hl 5 rfl) ?_
  refine lv_iload hx hb dL_law_195 (lv_at hl 1 rfl) ?_
  refine lv_iconst (v := 3) hx hb dL_law_197 (by decide) ?_
  refine lv_iadd hx hb dL_law_198 ?_
  refine lv_topi (fun z_18 ez_18 => ?_)
  obtain rfl : z_18 = 3 := ez_18.trans (by decide)
  refine va_sld hx hb hX hbl hbA hS (by unfold vp_in; decide) dL_law_199 ?_
  refine lv_topi (fun z_19 ez_19 => ?_)
  obtain rfl : z_19 = xs 3 := ez_19.trans (congrArg xs (by decide))
  refine lv_aload_n hx hb dL_law_200 rfl (lv_at hl 5 rfl) ?_
  refine lv_iload hx hb dL_law_201 (lv_at hl 1 rfl) ?_
  refine lv_iconst (v := 4) hx hb dL_law_203 (by decide) ?_
  refine lv_iadd hx hb dL_law_204 ?_
  refine lv_topi (fun z_20 ez_20 => ?_)
  obtain rfl : z_20 = 4 := ez_20.trans (by decide)
  refine va_sld hx hb hX hbl hbA hS (by unfold vp_in; decide) dL_law_205 ?_
  refine lv_topi (fun z_21 ez_21 => ?_)
  obtain rfl : z_21 = xs 4 := ez_21.trans (congrArg xs (by decide))
  refine lv_aload_n hx hb dL_law_206 rfl (lv_at hl 5 rfl) ?_
  refine lv_iload hx hb dL_law_207 (lv_at hl 1 rfl) ?_
  refine lv_iconst (v := 5) hx hb dL_law_209 (by decide) ?_
  refine lv_iadd hx hb dL_law_210 ?_
  refine lv_topi (fun z_22 ez_22 => ?_)
  obtain rfl : z_22 = 5 := ez_22.trans (by decide)
  refine va_sld hx hb hX hbl hbA hS (by unfold vp_in; decide) dL_law_211 ?_
  refine lv_topi (fun z_23 ez_23 => ?_)
  obtain rfl : z_23 = xs 5 := ez_23.trans (congrArg xs (by decide))
  refine ct_i (wr := [(ao, .inl (cL, 1, .inr (.inl o_11)))]) (tyr := [(cL, .long)]) (va_runV (As := [.int (xs 1), .int (xs 2), .int (xs 3), .int (xs 4), .int (xs 5)]) (rest := []) ⟨hx, hb, hml, hown, hts⟩ (m_feed l hl0 dC dI mo m1 m3 m4 m5 m6 m7 m8 m9 m11 m12 m13 m14 m15 m16 m17 m18 m19 m24 m26 m28 m29 m30 m31 m32 m33 m34 m35 m36 m44 m45 m46 m47 m48 m50 m51 m52 m53 m54 k1 (xs 1) (xs 2) (xs 3) (xs 4) (xs 5) H.size ) (cwV 5 hts gL_law_X12_feed rfl rfl rfl (by decide +kernel) ⟨Nat.le_of_ble_eq_true rfl, Nat.le_of_ble_eq_true rfl⟩) (ct_preV (ci := 12) (q0 := 0) hP hD hK hS hA hZ rfl rfl [0, 1] [0] rfl (by decide) rfl) rfl rfl hl.1 rfl (lv_room (Nat.le_of_ble_eq_true rfl)) dL_law_212 ⟨Nat.le_of_ble_eq_true rfl, Nat.le_of_ble_eq_true rfl⟩) hP hD hK hS hA [0, 1] [2] [1] rfl rfl (by decide) (by decide) rfl (fun r_24 u H locs w_25 hP hD hK hS => ?_)
  try dsimp only at w_25
  have hP : va_P (dC, dI) vwCl [(ao, .inl (cL, 1, .inr (.inl o_11))), (mo, .inr (12, [.int 0, .ref m1, .int 20, .ref m3, .ref m4, .ref m5, .ref m6, .ref m7, .ref m8, .ref m9, .int 0, .ref m11, .ref m12, .ref m13, .ref m14, .ref m15, .ref m16, .ref m17, .ref m18, .ref m19, .int 0, .int 0, .int 0, .int 0, .ref m24, .int 0, .ref m26, .int 0, .ref m28, .ref m29, .ref m30, .ref m31, .ref m32, .ref m33, .ref m34, .ref m35, .ref m36, .int 0, .int 0, .int 0, .int 0, .int 0, .int (-1), .int 0, .ref m44, .ref m45, .ref m46, .ref m47, .ref m48, .int 0, .ref m50, .ref m51, .ref m52, .ref m53, .ref m54, .int 0, .int 0]))] H := hP
  have hD : va_D A [(ao, .inl (cL, 1, .inr (.inl o_11))), (mo, .inr (12, [.int 0, .ref m1, .int 20, .ref m3, .ref m4, .ref m5, .ref m6, .ref m7, .ref m8, .ref m9, .int 0, .ref m11, .ref m12, .ref m13, .ref m14, .ref m15, .ref m16, .ref m17, .ref m18, .ref m19, .int 0, .int 0, .int 0, .int 0, .ref m24, .int 0, .ref m26, .int 0, .ref m28, .ref m29, .ref m30, .ref m31, .ref m32, .ref m33, .ref m34, .ref m35, .ref m36, .int 0, .int 0, .int 0, .int 0, .int 0, .int (-1), .int 0, .ref m44, .ref m45, .ref m46, .ref m47, .ref m48, .int 0, .ref m50, .ref m51, .ref m52, .ref m53, .ref m54, .int 0, .int 0]))] := hD
  have hK : va_K (dC, dI) vwCl [(cL, .long)] s := hK
  obtain rfl : r_24 = 20 := w_25
  refine lv_istore (lv' := [(6, .int 20), (5, .int 0), (4, .int 0), (3, .ref ao), (2, .ref mo), (1, .ref h), (0, .ref b)]) hx hb dL_law_215 hl (by decide) rfl (fun ls hl => ?_)
  refine lv_aload_n hx hb dL_law_217 rfl (lv_at hl 4 rfl) ?_
  refine ct_i (wr := [(ao, .inl (cL, 1, .inr (.inl o_11)))]) (tyr := [(cL, .long)]) (va_runV (As := []) (rest := []) ⟨hx, hb, hml, hown, hts⟩ (m_thrown l hl0 dC dI mo m1 m3 m4 m5 m6 m7 m8 m9 m11 m12 m13 m14 m15 m16 m17 m18 m19 m24 m26 m28 m29 m30 m31 m32 m33 m34 m35 m36 m44 m45 m46 m47 m48 m50 m51 m52 m53 m54 0 20 0 0 0 0 0 (-1) 0 H.size ) (cwV 0 hts gL_law_X12_thrown rfl rfl rfl (by decide +kernel) ⟨Nat.le_of_ble_eq_true rfl, Nat.le_of_ble_eq_true rfl⟩) (ct_preV (ci := 12) (q0 := 1) hP hD hK hS hA hZ rfl rfl [1] [] rfl (by decide) rfl) rfl rfl hl.1 rfl (lv_room (Nat.le_of_ble_eq_true rfl)) dL_law_218 ⟨Nat.le_of_ble_eq_true rfl, Nat.le_of_ble_eq_true rfl⟩) hP hD hK hS hA [1] [0] [0] rfl rfl (by decide) (by decide) rfl (fun r_26 u H locs w_27 hP hD hK hS => ?_)
  try dsimp only at w_27
  have hP : va_P (dC, dI) vwCl [(ao, .inl (cL, 1, .inr (.inl o_11)))] H := hP
  have hD : va_D A [(ao, .inl (cL, 1, .inr (.inl o_11)))] := hD
  have hK : va_K (dC, dI) vwCl [(cL, .long)] s := hK
  obtain rfl : r_26 = 0 := w_27
  refine lv_iload hx hb dL_law_221 (lv_at hl 1 rfl) ?_
  refine lv_icmp_eq (tgt := 228) hx hb dL_law_223 (by decide) (fun _ => ?_) (fun c_28 => absurd c_28 (by decide))
  refine lv_iload hx hb dL_law_228 (lv_at hl 1 rfl) ?_
  refine lv_if_ne (tgt := 245) hx hb dL_law_230 (by decide) (fun c_29 => absurd c_29 (by decide)) (fun _ => ?_)
  refine lv_aload_n hx hb dL_law_233 rfl (lv_at hl 3 rfl) ?_
  refine lv_iconst (v := 0) hx hb dL_law_234 (by decide) ?_
  refine va_lald hx hb hK hP 0 0 rfl rfl (by unfold vp_in; decide) dL_law_235 ?_
  refine lv_topl (fun y_30 ey_30 => ?_)
  obtain rfl : y_30 = (20 : Int32).toInt64 := ey_30.trans ((congrArg o_11 (by decide : (0 : Int32).toNatClampNeg = 0)).trans w_13.2)
  refine lv_iload hx hb dL_law_236 (lv_at hl 0 rfl) ?_
  refine lv_i2l (v := (20 : Int32).toInt64) hx hb dL_law_238 rfl ?_
  refine tx_lcmpE hx hb dL_law_239 ?_
  refine lv_if_eq (tgt := 245) hx hb dL_law_240 (by decide) (fun _ => ?_) (fun c_31 => absurd c_31 (by decide))
  refine lv_goto (tgt := 1620) hx hb dL_law_245 (by decide) ?_
  refine W.widen (k := 2000) (n := 300000) (Nat.le_of_ble_eq_true rfl) (Nat.le_of_ble_eq_true rfl) ?_
  exact K _ _ _ hS (lv_sub hl [2, 6] rfl)

set_option maxHeartbeats 4000000 in
set_option maxRecDepth 100000 in
/-- the law at index -/
theorem law_index {p : Program} {l : Launch} {e : Env} {s : State} {m : MethodId} {below : List Frame} {meth : Method} {c : Code} {Q : State → Prop} {b : Nat} {xs : Nat → Int32} {A : Nat → Prop} {H : Heap} {locs : List Loc} {ls : Array Slot} (hl0 : l.stackTraces = false) (dC : Nat → ClassId) (dI : Nat → Nat → Nat) (h : Nat) (aT : Nat) (aV : Nat) (aS : Nat) (aC : Nat) (aO : Nat) (aF : Nat) (aL : Nat) (aR : Nat) (aX : Nat) (sT : Nat) (sK : Nat) (sH : Nat) (ao : Nat) (cL : ClassId) (mo : Nat) (m1 : Nat) (m3 : Nat) (m4 : Nat) (m5 : Nat) (m6 : Nat) (m7 : Nat) (m8 : Nat) (m9 : Nat) (m11 : Nat) (m12 : Nat) (m13 : Nat) (m14 : Nat) (m15 : Nat) (m16 : Nat) (m17 : Nat) (m18 : Nat) (m19 : Nat) (m24 : Nat) (m26 : Nat) (m28 : Nat) (m29 : Nat) (m30 : Nat) (m31 : Nat) (m32 : Nat) (m33 : Nat) (m34 : Nat) (m35 : Nat) (m36 : Nat) (m44 : Nat) (m45 : Nat) (m46 : Nat) (m47 : Nat) (m48 : Nat) (m50 : Nat) (m51 : Nat) (m52 : Nat) (m53 : Nat) (m54 : Nat) (hx : p.tables.exec = Jvm.exec) (hb : c.code = cL_law) (hml : c.maxLocals = 7) (hown : s.vm.findClass RL = some m.cls) (hts : ∀ w ∈ wsL_law, w.before #[Value.ref b] s = true) (hX : va_X b 6 xs s s.heap) (hbl : b < s.heap.size) (hbA : ¬ A b) (hA : ∀ q : Nat, s.heap.size ≤ q → A q) (hZ : tx_St A s) (hl : lv_has ls 7 [(4, .int 0), (3, .ref ao), (2, .ref mo), (1, .ref h), (0, .ref b)]) (hP : va_P (dC, dI) vwCl [(h, .inr (11, [.ref aT, .ref aV, .ref aS, .ref aC, .ref aO, .ref aF, .ref aL, .ref aR, .ref aX, .int 0, .int 0, .int 0])), (aS, .inr (9, [.ref sT, .ref sK, .ref sH, .int 0, .int 0, .int 0, .int 0, .int 0])), (ao, .inl (cL, 1, .inr (.inl (fun _ => 0)))), (mo, .inr (12, [.int 0, .ref m1, .int 0, .ref m3, .ref m4, .ref m5, .ref m6, .ref m7, .ref m8, .ref m9, .int 0, .ref m11, .ref m12, .ref m13, .ref m14, .ref m15, .ref m16, .ref m17, .ref m18, .ref m19, .int 0, .int 0, .int 0, .int 0, .ref m24, .int 0, .ref m26, .int 0, .ref m28, .ref m29, .ref m30, .ref m31, .ref m32, .ref m33, .ref m34, .ref m35, .ref m36, .int 0, .int 0, .int 0, .int 0, .int 0, .int (-1), .int 0, .ref m44, .ref m45, .ref m46, .ref m47, .ref m48, .int 0, .ref m50, .ref m51, .ref m52, .ref m53, .ref m54, .int 0, .int 0]))] H) (hD : va_D A [(h, .inr (11, [.ref aT, .ref aV, .ref aS, .ref aC, .ref aO, .ref aF, .ref aL, .ref aR, .ref aX, .int 0, .int 0, .int 0])), (aS, .inr (9, [.ref sT, .ref sK, .ref sH, .int 0, .int 0, .int 0, .int 0, .int 0])), (ao, .inl (cL, 1, .inr (.inl (fun _ => 0)))), (mo, .inr (12, [.int 0, .ref m1, .int 0, .ref m3, .ref m4, .ref m5, .ref m6, .ref m7, .ref m8, .ref m9, .int 0, .ref m11, .ref m12, .ref m13, .ref m14, .ref m15, .ref m16, .ref m17, .ref m18, .ref m19, .int 0, .int 0, .int 0, .int 0, .ref m24, .int 0, .ref m26, .int 0, .ref m28, .ref m29, .ref m30, .ref m31, .ref m32, .ref m33, .ref m34, .ref m35, .ref m36, .int 0, .int 0, .int 0, .int 0, .int 0, .int (-1), .int 0, .ref m44, .ref m45, .ref m46, .ref m47, .ref m48, .int 0, .ref m50, .ref m51, .ref m52, .ref m53, .ref m54, .int 0, .int 0]))]) (hK : va_K (dC, dI) vwCl [(cL, .long)] s) (hS : va_S A s.heap H locs)
    (K : ∀ (H : Heap) (locs : List Loc) (ls : Array Slot), va_S A s.heap H locs → lv_has ls 7 [(4, .int 0), (0, .ref b)] → W p l e room_1 s m #[Value.ref b] below meth c H locs 2000 300000 Q (F0 m 1620 ls [])) : W p l e room_1 s m #[Value.ref b] below meth c H locs 1000 200000 Q (F0 m 428 ls []) := by
  refine lv_aload_n hx hb dL_law_428 rfl (lv_at hl 3 rfl) ?_
  refine lv_aload_n hx hb dL_law_429 rfl (lv_at hl 4 rfl) ?_
  refine lv_iload hx hb dL_law_430 (lv_at hl 0 rfl) ?_
  refine lv_iconst (v := 1) hx hb dL_law_432 (by decide) ?_
  refine lv_iadd hx hb dL_law_433 ?_
  refine lv_topi (fun z_1 ez_1 => ?_)
  obtain rfl : z_1 = 1 := ez_1.trans (by decide)
  refine va_sld hx hb hX hbl hbA hS (by unfold vp_in; decide) dL_law_434 ?_
  refine lv_topi (fun z_2 ez_2 => ?_)
  obtain rfl : z_2 = xs 1 := ez_2.trans (congrArg xs (by decide))
  refine lv_aload_n hx hb dL_law_435 rfl (lv_at hl 4 rfl) ?_
  refine lv_iload hx hb dL_law_436 (lv_at hl 0 rfl) ?_
  refine lv_iconst (v := 2) hx hb dL_law_438 (by decide) ?_
  refine lv_iadd hx hb dL_law_439 ?_
  refine lv_topi (fun z_3 ez_3 => ?_)
  obtain rfl : z_3 = 2 := ez_3.trans (by decide)
  refine va_sld hx hb hX hbl hbA hS (by unfold vp_in; decide) dL_law_440 ?_
  refine lv_topi (fun z_4 ez_4 => ?_)
  obtain rfl : z_4 = xs 2 := ez_4.trans (congrArg xs (by decide))
  refine lv_aload_n hx hb dL_law_441 rfl (lv_at hl 1 rfl) ?_
  refine ct_i (wr := [(mo, .inr (12, [.int 0, .ref m1, .int 0, .ref m3, .ref m4, .ref m5, .ref m6, .ref m7, .ref m8, .ref m9, .int 0, .ref m11, .ref m12, .ref m13, .ref m14, .ref m15, .ref m16, .ref m17, .ref m18, .ref m19, .int 0, .int 0, .int 0, .int 0, .ref m24, .int 0, .ref m26, .int 0, .ref m28, .ref m29, .ref m30, .ref m31, .ref m32, .ref m33, .ref m34, .ref m35, .ref m36, .int 0, .int 0, .int 0, .int 0, .int 0, .int (-1), .int 0, .ref m44, .ref m45, .ref m46, .ref m47, .ref m48, .int 0, .ref m50, .ref m51, .ref m52, .ref m53, .ref m54, .int 0, .int 0]))]) (tyr := []) (vx_runSW (As := [.ref h, .int (xs 1), .int (xs 2), .ref ao]) (rest := []) ⟨hx, hb, hml, hown, hts⟩ (h_index l hl0 dC dI h aT aV aS aC aO aF aL aR aX sT sK sH (xs 1) (xs 2) ao cL (fun _ => 0) H.size ) (vx_cwSW 4 hts gL_law_L_index rfl rfl rfl (by decide +kernel) ⟨Nat.le_of_ble_eq_true rfl, Nat.le_of_ble_eq_true rfl⟩) (ct_pre hP hD hK hS hA hZ [0, 1, 2] [0] rfl (by decide) rfl) rfl rfl hl.1 rfl (lv_room (Nat.le_of_ble_eq_true rfl)) dL_law_442 ⟨Nat.le_of_ble_eq_true rfl, Nat.le_of_ble_eq_true rfl⟩) hP hD hK hS hA [0, 1, 2] [3] [] rfl rfl (by decide) (by decide) rfl (fun r_6 u H locs w_7 hP hD hK hS => ?_)
  obtain ⟨o_5, rfl⟩ : ∃ z, z = u := ⟨_, rfl⟩
  try dsimp only at w_7
  have hP : va_P (dC, dI) vwCl [(mo, .inr (12, [.int 0, .ref m1, .int 0, .ref m3, .ref m4, .ref m5, .ref m6, .ref m7, .ref m8, .ref m9, .int 0, .ref m11, .ref m12, .ref m13, .ref m14, .ref m15, .ref m16, .ref m17, .ref m18, .ref m19, .int 0, .int 0, .int 0, .int 0, .ref m24, .int 0, .ref m26, .int 0, .ref m28, .ref m29, .ref m30, .ref m31, .ref m32, .ref m33, .ref m34, .ref m35, .ref m36, .int 0, .int 0, .int 0, .int 0, .int 0, .int (-1), .int 0, .ref m44, .ref m45, .ref m46, .ref m47, .ref m48, .int 0, .ref m50, .ref m51, .ref m52, .ref m53, .ref m54, .int 0, .int 0])), (ao, .inl (cL, 1, .inr (.inl o_5)))] H := hP
  have hD : va_D A [(mo, .inr (12, [.int 0, .ref m1, .int 0, .ref m3, .ref m4, .ref m5, .ref m6, .ref m7, .ref m8, .ref m9, .int 0, .ref m11, .ref m12, .ref m13, .ref m14, .ref m15, .ref m16, .ref m17, .ref m18, .ref m19, .int 0, .int 0, .int 0, .int 0, .ref m24, .int 0, .ref m26, .int 0, .ref m28, .ref m29, .ref m30, .ref m31, .ref m32, .ref m33, .ref m34, .ref m35, .ref m36, .int 0, .int 0, .int 0, .int 0, .int 0, .int (-1), .int 0, .ref m44, .ref m45, .ref m46, .ref m47, .ref m48, .int 0, .ref m50, .ref m51, .ref m52, .ref m53, .ref m54, .int 0, .int 0])), (ao, .inl (cL, 1, .inr (.inl o_5)))] := hD
  have hK : va_K (dC, dI) vwCl [(cL, .long)] s := hK
  refine W.widen (k := 1001) (n := 200006) (Nat.le_of_ble_eq_true rfl) (Nat.le_of_ble_eq_true rfl) ?_
  obtain rfl : r_6 = 1 := w_7
  refine lv_istore (lv' := [(5, .int 1), (4, .int 0), (3, .ref ao), (2, .ref mo), (1, .ref h), (0, .ref b)]) hx hb dL_law_445 hl (by decide) rfl (fun ls hl => ?_)
  refine lv_aload_n hx hb dL_law_447 rfl (lv_at hl 3 rfl) ?_
  refine lv_aload_n hx hb dL_law_448 rfl (lv_at hl 5 rfl) ?_
  refine lv_iload hx hb dL_law_449 (lv_at hl 1 rfl) ?_
  refine lv_iconst (v := 1) hx hb dL_law_451 (by decide) ?_
  refine lv_iadd hx hb dL_law_452 ?_
  refine lv_topi (fun z_8 ez_8 => ?_)
  obtain rfl : z_8 = 1 := ez_8.trans (by decide)
  refine va_sld hx hb hX hbl hbA hS (by unfold vp_in; decide) dL_law_453 ?_
  refine lv_topi (fun z_9 ez_9 => ?_)
  obtain rfl : z_9 = xs 1 := ez_9.trans (congrArg xs (by decide))
  refine lv_aload_n hx hb dL_law_454 rfl (lv_at hl 5 rfl) ?_
  refine lv_iload hx hb dL_law_455 (lv_at hl 1 rfl) ?_
  refine lv_iconst (v := 2) hx hb dL_law_457 (by decide) ?_
  refine lv_iadd hx hb dL_law_458 ?_
  refine lv_topi (fun z_10 ez_10 => ?_)
  obtain rfl : z_10 = 2 := ez_10.trans (by decide)
  refine va_sld hx hb hX hbl hbA hS (by unfold vp_in; decide) dL_law_459 ?_
  refine lv_topi (fun z_11 ez_11 => ?_)
  obtain rfl : z_11 = xs 2 := ez_11.trans (congrArg xs (by decide))
  refine ct_i (wr := [(ao, .inl (cL, 1, .inr (.inl o_5)))]) (tyr := [(cL, .long)]) (va_runV (As := [.int (xs 1), .int (xs 2)]) (rest := []) ⟨hx, hb, hml, hown, hts⟩ (m_index l hl0 dC dI mo m1 m3 m4 m5 m6 m7 m8 m9 m11 m12 m13 m14 m15 m16 m17 m18 m19 m24 m26 m28 m29 m30 m31 m32 m33 m34 m35 m36 m44 m45 m46 m47 m48 m50 m51 m52 m53 m54 (xs 1) (xs 2) H.size ) (cwV 2 hts gL_law_X12_index rfl rfl rfl (by decide +kernel) ⟨Nat.le_of_ble_eq_true rfl, Nat.le_of_ble_eq_true rfl⟩) (ct_preV (ci := 12) (q0 := 0) hP hD hK hS hA hZ rfl rfl [0] [] rfl (by decide) rfl) rfl rfl hl.1 rfl (lv_room (Nat.le_of_ble_eq_true rfl)) dL_law_460 ⟨Nat.le_of_ble_eq_true rfl, Nat.le_of_ble_eq_true rfl⟩) hP hD hK hS hA [0] [1] [0] rfl rfl (by decide) (by decide) rfl (fun r_13 u H locs w_14 hP hD hK hS => ?_)
  obtain ⟨o_12, rfl⟩ : ∃ z, z = u := ⟨_, rfl⟩
  try dsimp only at w_14
  have hP : va_P (dC, dI) vwCl [(ao, .inl (cL, 1, .inr (.inl o_5))), (mo, .inr (12, [.int o_12, .ref m1, .int 0, .ref m3, .ref m4, .ref m5, .ref m6, .ref m7, .ref m8, .ref m9, .int 0, .ref m11, .ref m12, .ref m13, .ref m14, .ref m15, .ref m16, .ref m17, .ref m18, .ref m19, .int 0, .int 0, .int 0, .int 0, .ref m24, .int 0, .ref m26, .int 0, .ref m28, .ref m29, .ref m30, .ref m31, .ref m32, .ref m33, .ref m34, .ref m35, .ref m36, .int 0, .int 0, .int 0, .int 0, .int 0, .int (-1), .int 0, .ref m44, .ref m45, .ref m46, .ref m47, .ref m48, .int 0, .ref m50, .ref m51, .ref m52, .ref m53, .ref m54, .int 0, .int 0]))] H := hP
  have hD : va_D A [(ao, .inl (cL, 1, .inr (.inl o_5))), (mo, .inr (12, [.int o_12, .ref m1, .int 0, .ref m3, .ref m4, .ref m5, .ref m6, .ref m7, .ref m8, .ref m9, .int 0, .ref m11, .ref m12, .ref m13, .ref m14, .ref m15, .ref m16, .ref m17, .ref m18, .ref m19, .int 0, .int 0, .int 0, .int 0, .ref m24, .int 0, .ref m26, .int 0, .ref m28, .ref m29, .ref m30, .ref m31, .ref m32, .ref m33, .ref m34, .ref m35, .ref m36, .int 0, .int 0, .int 0, .int 0, .int 0, .int (-1), .int 0, .ref m44, .ref m45, .ref m46, .ref m47, .ref m48, .int 0, .ref m50, .ref m51, .ref m52, .ref m53, .ref m54, .int 0, .int 0]))] := hD
  have hK : va_K (dC, dI) vwCl [(cL, .long)] s := hK
  obtain rfl : o_12 = 1 := w_14
  refine lv_istore (lv' := [(6, .int r_13), (5, .int 1), (4, .int 0), (3, .ref ao), (2, .ref mo), (1, .ref h), (0, .ref b)]) hx hb dL_law_463 hl (by decide) rfl (fun ls hl => ?_)
  refine lv_aload_n hx hb dL_law_465 rfl (lv_at hl 4 rfl) ?_
  refine ct_i (wr := [(ao, .inl (cL, 1, .inr (.inl o_5)))]) (tyr := [(cL, .long)]) (va_runV (As := []) (rest := []) ⟨hx, hb, hml, hown, hts⟩ (m_thrown l hl0 dC dI mo m1 m3 m4 m5 m6 m7 m8 m9 m11 m12 m13 m14 m15 m16 m17 m18 m19 m24 m26 m28 m29 m30 m31 m32 m33 m34 m35 m36 m44 m45 m46 m47 m48 m50 m51 m52 m53 m54 1 0 0 0 0 0 0 (-1) 0 H.size ) (cwV 0 hts gL_law_X12_thrown rfl rfl rfl (by decide +kernel) ⟨Nat.le_of_ble_eq_true rfl, Nat.le_of_ble_eq_true rfl⟩) (ct_preV (ci := 12) (q0 := 1) hP hD hK hS hA hZ rfl rfl [1] [] rfl (by decide) rfl) rfl rfl hl.1 rfl (lv_room (Nat.le_of_ble_eq_true rfl)) dL_law_466 ⟨Nat.le_of_ble_eq_true rfl, Nat.le_of_ble_eq_true rfl⟩) hP hD hK hS hA [1] [0] [0] rfl rfl (by decide) (by decide) rfl (fun r_15 u H locs w_16 hP hD hK hS => ?_)
  try dsimp only at w_16
  have hP : va_P (dC, dI) vwCl [(ao, .inl (cL, 1, .inr (.inl o_5)))] H := hP
  have hD : va_D A [(ao, .inl (cL, 1, .inr (.inl o_5)))] := hD
  have hK : va_K (dC, dI) vwCl [(cL, .long)] s := hK
  obtain rfl : r_15 = 1 := w_16
  refine lv_iload hx hb dL_law_469 (lv_at hl 1 rfl) ?_
  refine lv_icmp_eq (tgt := 476) hx hb dL_law_471 (by decide) (fun _ => ?_) (fun c_17 => absurd c_17 (by decide))
  refine lv_iload hx hb dL_law_476 (lv_at hl 1 rfl) ?_
  refine lv_if_ne (tgt := 493) hx hb dL_law_478 (by decide) (fun _ => ?_) (fun c_18 => absurd c_18 (by decide))
  refine lv_goto (tgt := 1620) hx hb dL_law_493 (by decide) ?_
  refine W.widen (k := 2000) (n := 300000) (Nat.le_of_ble_eq_true rfl) (Nat.le_of_ble_eq_true rfl) ?_
  exact K _ _ _ hS (lv_sub hl [2, 6] rfl)

set_option maxHeartbeats 4000000 in
set_option maxRecDepth 100000 in
/-- the law at find -/
theorem law_find {p : Program} {l : Launch} {e : Env} {s : State} {m : MethodId} {below : List Frame} {meth : Method} {c : Code} {Q : State → Prop} {b : Nat} {xs : Nat → Int32} {A : Nat → Prop} {H : Heap} {locs : List Loc} {ls : Array Slot} (hl0 : l.stackTraces = false) (dC : Nat → ClassId) (dI : Nat → Nat → Nat) (h : Nat) (aT : Nat) (aV : Nat) (aS : Nat) (aC : Nat) (aO : Nat) (aF : Nat) (aL : Nat) (aR : Nat) (aX : Nat) (sT : Nat) (sK : Nat) (sH : Nat) (ao : Nat) (cL : ClassId) (mo : Nat) (m1 : Nat) (m3 : Nat) (m4 : Nat) (m5 : Nat) (m6 : Nat) (m7 : Nat) (m8 : Nat) (m9 : Nat) (m11 : Nat) (m12 : Nat) (m13 : Nat) (m14 : Nat) (m15 : Nat) (m16 : Nat) (m17 : Nat) (m18 : Nat) (m19 : Nat) (m24 : Nat) (m26 : Nat) (m28 : Nat) (m29 : Nat) (m30 : Nat) (m31 : Nat) (m32 : Nat) (m33 : Nat) (m34 : Nat) (m35 : Nat) (m36 : Nat) (m44 : Nat) (m45 : Nat) (m46 : Nat) (m47 : Nat) (m48 : Nat) (m50 : Nat) (m51 : Nat) (m52 : Nat) (m53 : Nat) (m54 : Nat) (hx : p.tables.exec = Jvm.exec) (hb : c.code = cL_law) (hml : c.maxLocals = 7) (hown : s.vm.findClass RL = some m.cls) (hts : ∀ w ∈ wsL_law, w.before #[Value.ref b] s = true) (hX : va_X b 6 xs s s.heap) (hbl : b < s.heap.size) (hbA : ¬ A b) (hA : ∀ q : Nat, s.heap.size ≤ q → A q) (hZ : tx_St A s) (hl : lv_has ls 7 [(4, .int 0), (3, .ref ao), (2, .ref mo), (1, .ref h), (0, .ref b)]) (hP : va_P (dC, dI) vwCl [(h, .inr (11, [.ref aT, .ref aV, .ref aS, .ref aC, .ref aO, .ref aF, .ref aL, .ref aR, .ref aX, .int 0, .int 0, .int 0])), (aS, .inr (9, [.ref sT, .ref sK, .ref sH, .int 0, .int 0, .int 0, .int 0, .int 0])), (ao, .inl (cL, 1, .inr (.inl (fun _ => 0)))), (mo, .inr (12, [.int 0, .ref m1, .int 0, .ref m3, .ref m4, .ref m5, .ref m6, .ref m7, .ref m8, .ref m9, .int 0, .ref m11, .ref m12, .ref m13, .ref m14, .ref m15, .ref m16, .ref m17, .ref m18, .ref m19, .int 0, .int 0, .int 0, .int 0, .ref m24, .int 0, .ref m26, .int 0, .ref m28, .ref m29, .ref m30, .ref m31, .ref m32, .ref m33, .ref m34, .ref m35, .ref m36, .int 0, .int 0, .int 0, .int 0, .int 0, .int (-1), .int 0, .ref m44, .ref m45, .ref m46, .ref m47, .ref m48, .int 0, .ref m50, .ref m51, .ref m52, .ref m53, .ref m54, .int 0, .int 0]))] H) (hD : va_D A [(h, .inr (11, [.ref aT, .ref aV, .ref aS, .ref aC, .ref aO, .ref aF, .ref aL, .ref aR, .ref aX, .int 0, .int 0, .int 0])), (aS, .inr (9, [.ref sT, .ref sK, .ref sH, .int 0, .int 0, .int 0, .int 0, .int 0])), (ao, .inl (cL, 1, .inr (.inl (fun _ => 0)))), (mo, .inr (12, [.int 0, .ref m1, .int 0, .ref m3, .ref m4, .ref m5, .ref m6, .ref m7, .ref m8, .ref m9, .int 0, .ref m11, .ref m12, .ref m13, .ref m14, .ref m15, .ref m16, .ref m17, .ref m18, .ref m19, .int 0, .int 0, .int 0, .int 0, .ref m24, .int 0, .ref m26, .int 0, .ref m28, .ref m29, .ref m30, .ref m31, .ref m32, .ref m33, .ref m34, .ref m35, .ref m36, .int 0, .int 0, .int 0, .int 0, .int 0, .int (-1), .int 0, .ref m44, .ref m45, .ref m46, .ref m47, .ref m48, .int 0, .ref m50, .ref m51, .ref m52, .ref m53, .ref m54, .int 0, .int 0]))]) (hK : va_K (dC, dI) vwCl [(cL, .long)] s) (hS : va_S A s.heap H locs)
    (K : ∀ (H : Heap) (locs : List Loc) (ls : Array Slot), va_S A s.heap H locs → lv_has ls 7 [(4, .int 0), (0, .ref b)] → W p l e room_1 s m #[Value.ref b] below meth c H locs 2000 300000 Q (F0 m 1620 ls [])) : W p l e room_1 s m #[Value.ref b] below meth c H locs 1000 200000 Q (F0 m 712 ls []) := by
  refine lv_aload_n hx hb dL_law_712 rfl (lv_at hl 3 rfl) ?_
  refine lv_aload_n hx hb dL_law_713 rfl (lv_at hl 4 rfl) ?_
  refine lv_iload hx hb dL_law_714 (lv_at hl 0 rfl) ?_
  refine lv_iconst (v := 1) hx hb dL_law_716 (by decide) ?_
  refine lv_iadd hx hb dL_law_717 ?_
  refine lv_topi (fun z_1 ez_1 => ?_)
  obtain rfl : z_1 = 1 := ez_1.trans (by decide)
  refine va_sld hx hb hX hbl hbA hS (by unfold vp_in; decide) dL_law_718 ?_
  refine lv_topi (fun z_2 ez_2 => ?_)
  obtain rfl : z_2 = xs 1 := ez_2.trans (congrArg xs (by decide))
  refine lv_aload_n hx hb dL_law_719 rfl (lv_at hl 4 rfl) ?_
  refine lv_iload hx hb dL_law_720 (lv_at hl 0 rfl) ?_
  refine lv_iconst (v := 2) hx hb dL_law_722 (by decide) ?_
  refine lv_iadd hx hb dL_law_723 ?_
  refine lv_topi (fun z_3 ez_3 => ?_)
  obtain rfl : z_3 = 2 := ez_3.trans (by decide)
  refine va_sld hx hb hX hbl hbA hS (by unfold vp_in; decide) dL_law_724 ?_
  refine lv_topi (fun z_4 ez_4 => ?_)
  obtain rfl : z_4 = xs 2 := ez_4.trans (congrArg xs (by decide))
  refine lv_aload_n hx hb dL_law_725 rfl (lv_at hl 4 rfl) ?_
  refine lv_iload hx hb dL_law_726 (lv_at hl 0 rfl) ?_
  refine lv_iconst (v := 3) hx hb dL_law_728 (by decide) ?_
  refine lv_iadd hx hb dL_law_729 ?_
  refine lv_topi (fun z_5 ez_5 => ?_)
  obtain rfl : z_5 = 3 := ez_5.trans (by decide)
  refine va_sld hx hb hX hbl hbA hS (by unfold vp_in; decide) dL_law_730 ?_
  refine lv_topi (fun z_6 ez_6 => ?_)
  obtain rfl : z_6 = xs 3 := ez_6.trans (congrArg xs (by decide))
  refine lv_aload_n hx hb dL_law_731 rfl (lv_at hl 1 rfl) ?_
  refine ct_i (wr := [(mo, .inr (12, [.int 0, .ref m1, .int 0, .ref m3, .ref m4, .ref m5, .ref m6, .ref m7, .ref m8, .ref m9, .int 0, .ref m11, .ref m12, .ref m13, .ref m14, .ref m15, .ref m16, .ref m17, .ref m18, .ref m19, .int 0, .int 0, .int 0, .int 0, .ref m24, .int 0, .ref m26, .int 0, .ref m28, .ref m29, .ref m30, .ref m31, .ref m32, .ref m33, .ref m34, .ref m35, .ref m36, .int 0, .int 0, .int 0, .int 0, .int 0, .int (-1), .int 0, .ref m44, .ref m45, .ref m46, .ref m47, .ref m48, .int 0, .ref m50, .ref m51, .ref m52, .ref m53, .ref m54, .int 0, .int 0]))]) (tyr := []) (vx_runSW (As := [.ref h, .int (xs 1), .int (xs 2), .int (xs 3), .ref ao]) (rest := []) ⟨hx, hb, hml, hown, hts⟩ (h_find l hl0 dC dI h aT aV aS aC aO aF aL aR aX sT sK sH (xs 1) (xs 2) (xs 3) ao cL (fun _ => 0) H.size ) (vx_cwSW 5 hts gL_law_L_find rfl rfl rfl (by decide +kernel) ⟨Nat.le_of_ble_eq_true rfl, Nat.le_of_ble_eq_true rfl⟩) (ct_pre hP hD hK hS hA hZ [0, 1, 2] [0] rfl (by decide) rfl) rfl rfl hl.1 rfl (lv_room (Nat.le_of_ble_eq_true rfl)) dL_law_732 ⟨Nat.le_of_ble_eq_true rfl, Nat.le_of_ble_eq_true rfl⟩) hP hD hK hS hA [0, 1, 2] [3] [] rfl rfl (by decide) (by decide) rfl (fun r_8 u H locs w_9 hP hD hK hS => ?_)
  obtain ⟨o_7, rfl⟩ : ∃ z, z = u := ⟨_, rfl⟩
  try dsimp only at w_9
  have hP : va_P (dC, dI) vwCl [(mo, .inr (12, [.int 0, .ref m1, .int 0, .ref m3, .ref m4, .ref m5, .ref m6, .ref m7, .ref m8, .ref m9, .int 0, .ref m11, .ref m12, .ref m13, .ref m14, .ref m15, .ref m16, .ref m17, .ref m18, .ref m19, .int 0, .int 0, .int 0, .int 0, .ref m24, .int 0, .ref m26, .int 0, .ref m28, .ref m29, .ref m30, .ref m31, .ref m32, .ref m33, .ref m34, .ref m35, .ref m36, .int 0, .int 0, .int 0, .int 0, .int 0, .int (-1), .int 0, .ref m44, .ref m45, .ref m46, .ref m47, .ref m48, .int 0, .ref m50, .ref m51, .ref m52, .ref m53, .ref m54, .int 0, .int 0])), (ao, .inl (cL, 1, .inr (.inl o_7)))] H := hP
  have hD : va_D A [(mo, .inr (12, [.int 0, .ref m1, .int 0, .ref m3, .ref m4, .ref m5, .ref m6, .ref m7, .ref m8, .ref m9, .int 0, .ref m11, .ref m12, .ref m13, .ref m14, .ref m15, .ref m16, .ref m17, .ref m18, .ref m19, .int 0, .int 0, .int 0, .int 0, .ref m24, .int 0, .ref m26, .int 0, .ref m28, .ref m29, .ref m30, .ref m31, .ref m32, .ref m33, .ref m34, .ref m35, .ref m36, .int 0, .int 0, .int 0, .int 0, .int 0, .int (-1), .int 0, .ref m44, .ref m45, .ref m46, .ref m47, .ref m48, .int 0, .ref m50, .ref m51, .ref m52, .ref m53, .ref m54, .int 0, .int 0])), (ao, .inl (cL, 1, .inr (.inl o_7)))] := hD
  have hK : va_K (dC, dI) vwCl [(cL, .long)] s := hK
  refine W.widen (k := 1003) (n := 200018) (Nat.le_of_ble_eq_true rfl) (Nat.le_of_ble_eq_true rfl) ?_
  rcases w_9 with ⟨rfl, h_10⟩ | ⟨rfl, h_10⟩
  · skip
    refine lv_istore (lv' := [(5, .int 1), (4, .int 0), (3, .ref ao), (2, .ref mo), (1, .ref h), (0, .ref b)]) hx hb dL_law_735 hl (by decide) rfl (fun ls hl => ?_)
    refine lv_aload_n hx hb dL_law_737 rfl (lv_at hl 3 rfl) ?_
    refine lv_aload_n hx hb dL_law_738 rfl (lv_at hl 5 rfl) ?_
    refine lv_iload hx hb dL_law_739 (lv_at hl 1 rfl) ?_
    refine lv_iconst (v := 1) hx hb dL_law_741 (by decide) ?_
    refine lv_iadd hx hb dL_law_742 ?_
    refine lv_topi (fun z_11 ez_11 => ?_)
    obtain rfl : z_11 = 1 := ez_11.trans (by decide)
    refine va_sld hx hb hX hbl hbA hS (by unfold vp_in; decide) dL_law_743 ?_
    refine lv_topi (fun z_12 ez_12 => ?_)
    obtain rfl : z_12 = xs 1 := ez_12.trans (congrArg xs (by decide))
    refine lv_aload_n hx hb dL_law_744 rfl (lv_at hl 5 rfl) ?_
    refine lv_iload hx hb dL_law_745 (lv_at hl 1 rfl) ?_
    refine lv_iconst (v := 2) hx hb dL_law_747 (by decide) ?_
    refine lv_iadd hx hb dL_law_748 ?_
    refine lv_topi (fun z_13 ez_13 => ?_)
    obtain rfl : z_13 = 2 := ez_13.trans (by decide)
    refine va_sld hx hb hX hbl hbA hS (by unfold vp_in; decide) dL_law_749 ?_
    refine lv_topi (fun z_14 ez_14 => ?_)
    obtain rfl : z_14 = xs 2 := ez_14.trans (congrArg xs (by decide))
    refine lv_aload_n hx hb dL_law_750 rfl (lv_at hl 5 rfl) ?_
    refine lv_iload hx hb dL_law_751 (lv_at hl 1 rfl) ?_
    refine lv_iconst (v := 3) hx hb dL_law_753 (by decide) ?_
    refine lv_iadd hx hb dL_law_754 ?_
    refine lv_topi (fun z_15 ez_15 => ?_)
    obtain rfl : z_15 = 3 := ez_15.trans (by decide)
    refine va_sld hx hb hX hbl hbA hS (by unfold vp_in; decide) dL_law_755 ?_
    refine lv_topi (fun z_16 ez_16 => ?_)
    obtain rfl : z_16 = xs 3 := ez_16.trans (congrArg xs (by decide))
    refine ct_i (wr := [(ao, .inl (cL, 1, .inr (.inl o_7)))]) (tyr := [(cL, .long)]) (va_runV (As := [.int (xs 1), .int (xs 2), .int (xs 3)]) (rest := []) ⟨hx, hb, hml, hown, hts⟩ (m_find l hl0 dC dI mo m1 m3 m4 m5 m6 m7 m8 m9 m11 m12 m13 m14 m15 m16 m17 m18 m19 m24 m26 m28 m29 m30 m31 m32 m33 m34 m35 m36 m44 m45 m46 m47 m48 m50 m51 m52 m53 m54 (xs 1) (xs 2) (xs 3) H.size ) (cwV 3 hts gL_law_X12_find rfl rfl rfl (by decide +kernel) ⟨Nat.le_of_ble_eq_true rfl, Nat.le_of_ble_eq_true rfl⟩) (ct_preV (ci := 12) (q0 := 0) hP hD hK hS hA hZ rfl rfl [0] [] rfl (by decide) rfl) rfl rfl hl.1 rfl (lv_room (Nat.le_of_ble_eq_true rfl)) dL_law_756 ⟨Nat.le_of_ble_eq_true rfl, Nat.le_of_ble_eq_true rfl⟩) hP hD hK hS hA [0] [1] [0] rfl rfl (by decide) (by decide) rfl (fun r_18 u H locs w_19 hP hD hK hS => ?_)
    obtain ⟨o_17, rfl⟩ : ∃ z, z = u := ⟨_, rfl⟩
    try dsimp only at w_19
    have hP : va_P (dC, dI) vwCl [(ao, .inl (cL, 1, .inr (.inl o_7))), (mo, .inr (12, [.int o_17, .ref m1, .int 0, .ref m3, .ref m4, .ref m5, .ref m6, .ref m7, .ref m8, .ref m9, .int 0, .ref m11, .ref m12, .ref m13, .ref m14, .ref m15, .ref m16, .ref m17, .ref m18, .ref m19, .int 0, .int 0, .int 0, .int 0, .ref m24, .int 0, .ref m26, .int 0, .ref m28, .ref m29, .ref m30, .ref m31, .ref m32, .ref m33, .ref m34, .ref m35, .ref m36, .int 0, .int 0, .int 0, .int 0, .int 0, .int (-1), .int 0, .ref m44, .ref m45, .ref m46, .ref m47, .ref m48, .int 0, .ref m50, .ref m51, .ref m52, .ref m53, .ref m54, .int 0, .int 0]))] H := hP
    have hD : va_D A [(ao, .inl (cL, 1, .inr (.inl o_7))), (mo, .inr (12, [.int o_17, .ref m1, .int 0, .ref m3, .ref m4, .ref m5, .ref m6, .ref m7, .ref m8, .ref m9, .int 0, .ref m11, .ref m12, .ref m13, .ref m14, .ref m15, .ref m16, .ref m17, .ref m18, .ref m19, .int 0, .int 0, .int 0, .int 0, .ref m24, .int 0, .ref m26, .int 0, .ref m28, .ref m29, .ref m30, .ref m31, .ref m32, .ref m33, .ref m34, .ref m35, .ref m36, .int 0, .int 0, .int 0, .int 0, .int 0, .int (-1), .int 0, .ref m44, .ref m45, .ref m46, .ref m47, .ref m48, .int 0, .ref m50, .ref m51, .ref m52, .ref m53, .ref m54, .int 0, .int 0]))] := hD
    have hK : va_K (dC, dI) vwCl [(cL, .long)] s := hK
    rcases w_19 with ⟨rfl, q_20⟩ | ⟨rfl, q_20⟩
    · skip
      refine lv_istore (lv' := [(6, .int r_18), (5, .int 1), (4, .int 0), (3, .ref ao), (2, .ref mo), (1, .ref h), (0, .ref b)]) hx hb dL_law_759 hl (by decide) rfl (fun ls hl => ?_)
      refine lv_aload_n hx hb dL_law_761 rfl (lv_at hl 4 rfl) ?_
      refine ct_i (wr := [(ao, .inl (cL, 1, .inr (.inl o_7)))]) (tyr := [(cL, .long)]) (va_runV (As := []) (rest := []) ⟨hx, hb, hml, hown, hts⟩ (m_thrown l hl0 dC dI mo m1 m3 m4 m5 m6 m7 m8 m9 m11 m12 m13 m14 m15 m16 m17 m18 m19 m24 m26 m28 m29 m30 m31 m32 m33 m34 m35 m36 m44 m45 m46 m47 m48 m50 m51 m52 m53 m54 1 0 0 0 0 0 0 (-1) 0 H.size ) (cwV 0 hts gL_law_X12_thrown rfl rfl rfl (by decide +kernel) ⟨Nat.le_of_ble_eq_true rfl, Nat.le_of_ble_eq_true rfl⟩) (ct_preV (ci := 12) (q0 := 1) hP hD hK hS hA hZ rfl rfl [1] [] rfl (by decide) rfl) rfl rfl hl.1 rfl (lv_room (Nat.le_of_ble_eq_true rfl)) dL_law_762 ⟨Nat.le_of_ble_eq_true rfl, Nat.le_of_ble_eq_true rfl⟩) hP hD hK hS hA [1] [0] [0] rfl rfl (by decide) (by decide) rfl (fun r_21 u H locs w_22 hP hD hK hS => ?_)
      try dsimp only at w_22
      have hP : va_P (dC, dI) vwCl [(ao, .inl (cL, 1, .inr (.inl o_7)))] H := hP
      have hD : va_D A [(ao, .inl (cL, 1, .inr (.inl o_7)))] := hD
      have hK : va_K (dC, dI) vwCl [(cL, .long)] s := hK
      obtain rfl : r_21 = 1 := w_22
      refine lv_iload hx hb dL_law_765 (lv_at hl 1 rfl) ?_
      refine lv_icmp_eq (tgt := 772) hx hb dL_law_767 (by decide) (fun _ => ?_) (fun c_23 => absurd c_23 (by decide))
      refine lv_iload hx hb dL_law_772 (lv_at hl 1 rfl) ?_
      refine lv_if_ne (tgt := 789) hx hb dL_law_774 (by decide) (fun _ => ?_) (fun c_24 => absurd c_24 (by decide))
      refine lv_goto (tgt := 1620) hx hb dL_law_789 (by decide) ?_
      refine W.widen (k := 2000) (n := 300000) (Nat.le_of_ble_eq_true rfl) (Nat.le_of_ble_eq_true rfl) ?_
      exact K _ _ _ hS (lv_sub hl [2, 6] rfl)
    · skip
      exact absurd h_10 q_20
  · skip
    refine lv_istore (lv' := [(5, .int 2), (4, .int 0), (3, .ref ao), (2, .ref mo), (1, .ref h), (0, .ref b)]) hx hb dL_law_735 hl (by decide) rfl (fun ls hl => ?_)
    refine lv_aload_n hx hb dL_law_737 rfl (lv_at hl 3 rfl) ?_
    refine lv_aload_n hx hb dL_law_738 rfl (lv_at hl 5 rfl) ?_
    refine lv_iload hx hb dL_law_739 (lv_at hl 1 rfl) ?_
    refine lv_iconst (v := 1) hx hb dL_law_741 (by decide) ?_
    refine lv_iadd hx hb dL_law_742 ?_
    refine lv_topi (fun z_25 ez_25 => ?_)
    obtain rfl : z_25 = 1 := ez_25.trans (by decide)
    refine va_sld hx hb hX hbl hbA hS (by unfold vp_in; decide) dL_law_743 ?_
    refine lv_topi (fun z_26 ez_26 => ?_)
    obtain rfl : z_26 = xs 1 := ez_26.trans (congrArg xs (by decide))
    refine lv_aload_n hx hb dL_law_744 rfl (lv_at hl 5 rfl) ?_
    refine lv_iload hx hb dL_law_745 (lv_at hl 1 rfl) ?_
    refine lv_iconst (v := 2) hx hb dL_law_747 (by decide) ?_
    refine lv_iadd hx hb dL_law_748 ?_
    refine lv_topi (fun z_27 ez_27 => ?_)
    obtain rfl : z_27 = 2 := ez_27.trans (by decide)
    refine va_sld hx hb hX hbl hbA hS (by unfold vp_in; decide) dL_law_749 ?_
    refine lv_topi (fun z_28 ez_28 => ?_)
    obtain rfl : z_28 = xs 2 := ez_28.trans (congrArg xs (by decide))
    refine lv_aload_n hx hb dL_law_750 rfl (lv_at hl 5 rfl) ?_
    refine lv_iload hx hb dL_law_751 (lv_at hl 1 rfl) ?_
    refine lv_iconst (v := 3) hx hb dL_law_753 (by decide) ?_
    refine lv_iadd hx hb dL_law_754 ?_
    refine lv_topi (fun z_29 ez_29 => ?_)
    obtain rfl : z_29 = 3 := ez_29.trans (by decide)
    refine va_sld hx hb hX hbl hbA hS (by unfold vp_in; decide) dL_law_755 ?_
    refine lv_topi (fun z_30 ez_30 => ?_)
    obtain rfl : z_30 = xs 3 := ez_30.trans (congrArg xs (by decide))
    refine ct_i (wr := [(ao, .inl (cL, 1, .inr (.inl o_7)))]) (tyr := [(cL, .long)]) (va_runV (As := [.int (xs 1), .int (xs 2), .int (xs 3)]) (rest := []) ⟨hx, hb, hml, hown, hts⟩ (m_find l hl0 dC dI mo m1 m3 m4 m5 m6 m7 m8 m9 m11 m12 m13 m14 m15 m16 m17 m18 m19 m24 m26 m28 m29 m30 m31 m32 m33 m34 m35 m36 m44 m45 m46 m47 m48 m50 m51 m52 m53 m54 (xs 1) (xs 2) (xs 3) H.size ) (cwV 3 hts gL_law_X12_find rfl rfl rfl (by decide +kernel) ⟨Nat.le_of_ble_eq_true rfl, Nat.le_of_ble_eq_true rfl⟩) (ct_preV (ci := 12) (q0 := 0) hP hD hK hS hA hZ rfl rfl [0] [] rfl (by decide) rfl) rfl rfl hl.1 rfl (lv_room (Nat.le_of_ble_eq_true rfl)) dL_law_756 ⟨Nat.le_of_ble_eq_true rfl, Nat.le_of_ble_eq_true rfl⟩) hP hD hK hS hA [0] [1] [0] rfl rfl (by decide) (by decide) rfl (fun r_32 u H locs w_33 hP hD hK hS => ?_)
    obtain ⟨o_31, rfl⟩ : ∃ z, z = u := ⟨_, rfl⟩
    try dsimp only at w_33
    have hP : va_P (dC, dI) vwCl [(ao, .inl (cL, 1, .inr (.inl o_7))), (mo, .inr (12, [.int o_31, .ref m1, .int 0, .ref m3, .ref m4, .ref m5, .ref m6, .ref m7, .ref m8, .ref m9, .int 0, .ref m11, .ref m12, .ref m13, .ref m14, .ref m15, .ref m16, .ref m17, .ref m18, .ref m19, .int 0, .int 0, .int 0, .int 0, .ref m24, .int 0, .ref m26, .int 0, .ref m28, .ref m29, .ref m30, .ref m31, .ref m32, .ref m33, .ref m34, .ref m35, .ref m36, .int 0, .int 0, .int 0, .int 0, .int 0, .int (-1), .int 0, .ref m44, .ref m45, .ref m46, .ref m47, .ref m48, .int 0, .ref m50, .ref m51, .ref m52, .ref m53, .ref m54, .int 0, .int 0]))] H := hP
    have hD : va_D A [(ao, .inl (cL, 1, .inr (.inl o_7))), (mo, .inr (12, [.int o_31, .ref m1, .int 0, .ref m3, .ref m4, .ref m5, .ref m6, .ref m7, .ref m8, .ref m9, .int 0, .ref m11, .ref m12, .ref m13, .ref m14, .ref m15, .ref m16, .ref m17, .ref m18, .ref m19, .int 0, .int 0, .int 0, .int 0, .ref m24, .int 0, .ref m26, .int 0, .ref m28, .ref m29, .ref m30, .ref m31, .ref m32, .ref m33, .ref m34, .ref m35, .ref m36, .int 0, .int 0, .int 0, .int 0, .int 0, .int (-1), .int 0, .ref m44, .ref m45, .ref m46, .ref m47, .ref m48, .int 0, .ref m50, .ref m51, .ref m52, .ref m53, .ref m54, .int 0, .int 0]))] := hD
    have hK : va_K (dC, dI) vwCl [(cL, .long)] s := hK
    rcases w_33 with ⟨rfl, q_34⟩ | ⟨rfl, q_34⟩
    · skip
      exact absurd q_34 h_10
    · skip
      refine lv_istore (lv' := [(6, .int r_32), (5, .int 2), (4, .int 0), (3, .ref ao), (2, .ref mo), (1, .ref h), (0, .ref b)]) hx hb dL_law_759 hl (by decide) rfl (fun ls hl => ?_)
      refine lv_aload_n hx hb dL_law_761 rfl (lv_at hl 4 rfl) ?_
      refine ct_i (wr := [(ao, .inl (cL, 1, .inr (.inl o_7)))]) (tyr := [(cL, .long)]) (va_runV (As := []) (rest := []) ⟨hx, hb, hml, hown, hts⟩ (m_thrown l hl0 dC dI mo m1 m3 m4 m5 m6 m7 m8 m9 m11 m12 m13 m14 m15 m16 m17 m18 m19 m24 m26 m28 m29 m30 m31 m32 m33 m34 m35 m36 m44 m45 m46 m47 m48 m50 m51 m52 m53 m54 2 0 0 0 0 0 0 (-1) 0 H.size ) (cwV 0 hts gL_law_X12_thrown rfl rfl rfl (by decide +kernel) ⟨Nat.le_of_ble_eq_true rfl, Nat.le_of_ble_eq_true rfl⟩) (ct_preV (ci := 12) (q0 := 1) hP hD hK hS hA hZ rfl rfl [1] [] rfl (by decide) rfl) rfl rfl hl.1 rfl (lv_room (Nat.le_of_ble_eq_true rfl)) dL_law_762 ⟨Nat.le_of_ble_eq_true rfl, Nat.le_of_ble_eq_true rfl⟩) hP hD hK hS hA [1] [0] [0] rfl rfl (by decide) (by decide) rfl (fun r_35 u H locs w_36 hP hD hK hS => ?_)
      try dsimp only at w_36
      have hP : va_P (dC, dI) vwCl [(ao, .inl (cL, 1, .inr (.inl o_7)))] H := hP
      have hD : va_D A [(ao, .inl (cL, 1, .inr (.inl o_7)))] := hD
      have hK : va_K (dC, dI) vwCl [(cL, .long)] s := hK
      obtain rfl : r_35 = 2 := w_36
      refine lv_iload hx hb dL_law_765 (lv_at hl 1 rfl) ?_
      refine lv_icmp_eq (tgt := 772) hx hb dL_law_767 (by decide) (fun _ => ?_) (fun c_37 => absurd c_37 (by decide))
      refine lv_iload hx hb dL_law_772 (lv_at hl 1 rfl) ?_
      refine lv_if_ne (tgt := 789) hx hb dL_law_774 (by decide) (fun _ => ?_) (fun c_38 => absurd c_38 (by decide))
      refine lv_goto (tgt := 1620) hx hb dL_law_789 (by decide) ?_
      refine W.widen (k := 2000) (n := 300000) (Nat.le_of_ble_eq_true rfl) (Nat.le_of_ble_eq_true rfl) ?_
      exact K _ _ _ hS (lv_sub hl [2, 6] rfl)

set_option maxHeartbeats 4000000 in
set_option maxRecDepth 100000 in
/-- the law at close -/
theorem law_close {p : Program} {l : Launch} {e : Env} {s : State} {m : MethodId} {below : List Frame} {meth : Method} {c : Code} {Q : State → Prop} {b : Nat} {xs : Nat → Int32} {A : Nat → Prop} {H : Heap} {locs : List Loc} {ls : Array Slot} (hl0 : l.stackTraces = false) (dC : Nat → ClassId) (dI : Nat → Nat → Nat) (h : Nat) (aT : Nat) (aV : Nat) (aS : Nat) (aC : Nat) (aO : Nat) (aF : Nat) (aL : Nat) (aR : Nat) (aX : Nat) (cO : ClassId) (ao : Nat) (cL : ClassId) (mo : Nat) (m1 : Nat) (m3 : Nat) (m4 : Nat) (m5 : Nat) (m6 : Nat) (m7 : Nat) (m8 : Nat) (m9 : Nat) (m11 : Nat) (m12 : Nat) (m13 : Nat) (m14 : Nat) (m15 : Nat) (m16 : Nat) (m17 : Nat) (m18 : Nat) (m19 : Nat) (m24 : Nat) (m26 : Nat) (m28 : Nat) (m29 : Nat) (m30 : Nat) (m31 : Nat) (m32 : Nat) (m33 : Nat) (m34 : Nat) (m35 : Nat) (m36 : Nat) (m44 : Nat) (m45 : Nat) (m46 : Nat) (m47 : Nat) (m48 : Nat) (m50 : Nat) (m51 : Nat) (m52 : Nat) (m53 : Nat) (m54 : Nat) (k28 : ClassId) (hx : p.tables.exec = Jvm.exec) (hb : c.code = cL_law) (hml : c.maxLocals = 7) (hown : s.vm.findClass RL = some m.cls) (hts : ∀ w ∈ wsL_law, w.before #[Value.ref b] s = true) (hX : va_X b 6 xs s s.heap) (hbl : b < s.heap.size) (hbA : ¬ A b) (hA : ∀ q : Nat, s.heap.size ≤ q → A q) (hZ : tx_St A s) (hl : lv_has ls 7 [(4, .int 0), (3, .ref ao), (2, .ref mo), (1, .ref h), (0, .ref b)]) (hP : va_P (dC, dI) vwCl [(h, .inr (11, [.ref aT, .ref aV, .ref aS, .ref aC, .ref aO, .ref aF, .ref aL, .ref aR, .ref aX, .int 0, .int 0, .int 0])), (aO, .inl (cO, 10, .inl (fun _ => 0))), (ao, .inl (cL, 1, .inr (.inl (fun _ => 0)))), (mo, .inr (12, [.int 0, .ref m1, .int 0, .ref m3, .ref m4, .ref m5, .ref m6, .ref m7, .ref m8, .ref m9, .int 0, .ref m11, .ref m12, .ref m13, .ref m14, .ref m15, .ref m16, .ref m17, .ref m18, .ref m19, .int 0, .int 0, .int 0, .int 0, .ref m24, .int 0, .ref m26, .int 0, .ref m28, .ref m29, .ref m30, .ref m31, .ref m32, .ref m33, .ref m34, .ref m35, .ref m36, .int 0, .int 0, .int 0, .int 0, .int 0, .int (-1), .int 0, .ref m44, .ref m45, .ref m46, .ref m47, .ref m48, .int 0, .ref m50, .ref m51, .ref m52, .ref m53, .ref m54, .int 0, .int 0])), (m28, .inl (k28, 10, .inl (fun _ => 0)))] H) (hD : va_D A [(h, .inr (11, [.ref aT, .ref aV, .ref aS, .ref aC, .ref aO, .ref aF, .ref aL, .ref aR, .ref aX, .int 0, .int 0, .int 0])), (aO, .inl (cO, 10, .inl (fun _ => 0))), (ao, .inl (cL, 1, .inr (.inl (fun _ => 0)))), (mo, .inr (12, [.int 0, .ref m1, .int 0, .ref m3, .ref m4, .ref m5, .ref m6, .ref m7, .ref m8, .ref m9, .int 0, .ref m11, .ref m12, .ref m13, .ref m14, .ref m15, .ref m16, .ref m17, .ref m18, .ref m19, .int 0, .int 0, .int 0, .int 0, .ref m24, .int 0, .ref m26, .int 0, .ref m28, .ref m29, .ref m30, .ref m31, .ref m32, .ref m33, .ref m34, .ref m35, .ref m36, .int 0, .int 0, .int 0, .int 0, .int 0, .int (-1), .int 0, .ref m44, .ref m45, .ref m46, .ref m47, .ref m48, .int 0, .ref m50, .ref m51, .ref m52, .ref m53, .ref m54, .int 0, .int 0])), (m28, .inl (k28, 10, .inl (fun _ => 0)))]) (hK : va_K (dC, dI) vwCl [(cO, .boolean), (cL, .long), (k28, .boolean)] s) (hS : va_S A s.heap H locs)
    (K : ∀ (H : Heap) (locs : List Loc) (ls : Array Slot), va_S A s.heap H locs → lv_has ls 7 [(4, .int 0), (0, .ref b)] → W p l e room_1 s m #[Value.ref b] below meth c H locs 2000 300000 Q (F0 m 1620 ls [])) : W p l e room_1 s m #[Value.ref b] below meth c H locs 1000 200000 Q (F0 m 1008 ls []) := by
  refine lv_aload_n hx hb dL_law_1008 rfl (lv_at hl 3 rfl) ?_
  refine lv_aload_n hx hb dL_law_1009 rfl (lv_at hl 4 rfl) ?_
  refine lv_iload hx hb dL_law_1010 (lv_at hl 0 rfl) ?_
  refine lv_iconst (v := 1) hx hb dL_law_1012 (by decide) ?_
  refine lv_iadd hx hb dL_law_1013 ?_
  refine lv_topi (fun z_1 ez_1 => ?_)
  obtain rfl : z_1 = 1 := ez_1.trans (by decide)
  refine va_sld hx hb hX hbl hbA hS (by unfold vp_in; decide) dL_law_1014 ?_
  refine lv_topi (fun z_2 ez_2 => ?_)
  obtain rfl : z_2 = xs 1 := ez_2.trans (congrArg xs (by decide))
  refine lv_aload_n hx hb dL_law_1015 rfl (lv_at hl 1 rfl) ?_
  refine ct_i (wr := [(mo, .inr (12, [.int 0, .ref m1, .int 0, .ref m3, .ref m4, .ref m5, .ref m6, .ref m7, .ref m8, .ref m9, .int 0, .ref m11, .ref m12, .ref m13, .ref m14, .ref m15, .ref m16, .ref m17, .ref m18, .ref m19, .int 0, .int 0, .int 0, .int 0, .ref m24, .int 0, .ref m26, .int 0, .ref m28, .ref m29, .ref m30, .ref m31, .ref m32, .ref m33, .ref m34, .ref m35, .ref m36, .int 0, .int 0, .int 0, .int 0, .int 0, .int (-1), .int 0, .ref m44, .ref m45, .ref m46, .ref m47, .ref m48, .int 0, .ref m50, .ref m51, .ref m52, .ref m53, .ref m54, .int 0, .int 0])), (m28, .inl (k28, 10, .inl (fun _ => 0)))]) (tyr := [(k28, .boolean)]) (vx_runSW (As := [.ref h, .int (xs 1), .ref ao]) (rest := []) ⟨hx, hb, hml, hown, hts⟩ (h_close l hl0 dC dI h aT aV aS aC aO aF aL aR aX cO (xs 1) ao cL (fun _ => 0) H.size ) (vx_cwSW 3 hts gL_law_L_close rfl rfl rfl (by decide +kernel) ⟨Nat.le_of_ble_eq_true rfl, Nat.le_of_ble_eq_true rfl⟩) (ct_pre hP hD hK hS hA hZ [0, 1, 2] [0, 1] rfl (by decide) rfl) rfl rfl hl.1 rfl (lv_room (Nat.le_of_ble_eq_true rfl)) dL_law_1016 ⟨Nat.le_of_ble_eq_true rfl, Nat.le_of_ble_eq_true rfl⟩) hP hD hK hS hA [0, 1, 2] [3, 4] [2] rfl rfl (by decide) (by decide) rfl (fun r_4 u H locs w_5 hP hD hK hS => ?_)
  obtain ⟨o_3, rfl⟩ : ∃ z, z = u := ⟨_, rfl⟩
  try dsimp only at w_5
  have hP : va_P (dC, dI) vwCl [(mo, .inr (12, [.int 0, .ref m1, .int 0, .ref m3, .ref m4, .ref m5, .ref m6, .ref m7, .ref m8, .ref m9, .int 0, .ref m11, .ref m12, .ref m13, .ref m14, .ref m15, .ref m16, .ref m17, .ref m18, .ref m19, .int 0, .int 0, .int 0, .int 0, .ref m24, .int 0, .ref m26, .int 0, .ref m28, .ref m29, .ref m30, .ref m31, .ref m32, .ref m33, .ref m34, .ref m35, .ref m36, .int 0, .int 0, .int 0, .int 0, .int 0, .int (-1), .int 0, .ref m44, .ref m45, .ref m46, .ref m47, .ref m48, .int 0, .ref m50, .ref m51, .ref m52, .ref m53, .ref m54, .int 0, .int 0])), (m28, .inl (k28, 10, .inl (fun _ => 0))), (ao, .inl (cL, 1, .inr (.inl o_3)))] H := hP
  have hD : va_D A [(mo, .inr (12, [.int 0, .ref m1, .int 0, .ref m3, .ref m4, .ref m5, .ref m6, .ref m7, .ref m8, .ref m9, .int 0, .ref m11, .ref m12, .ref m13, .ref m14, .ref m15, .ref m16, .ref m17, .ref m18, .ref m19, .int 0, .int 0, .int 0, .int 0, .ref m24, .int 0, .ref m26, .int 0, .ref m28, .ref m29, .ref m30, .ref m31, .ref m32, .ref m33, .ref m34, .ref m35, .ref m36, .int 0, .int 0, .int 0, .int 0, .int 0, .int (-1), .int 0, .ref m44, .ref m45, .ref m46, .ref m47, .ref m48, .int 0, .ref m50, .ref m51, .ref m52, .ref m53, .ref m54, .int 0, .int 0])), (m28, .inl (k28, 10, .inl (fun _ => 0))), (ao, .inl (cL, 1, .inr (.inl o_3)))] := hD
  have hK : va_K (dC, dI) vwCl [(k28, .boolean), (cL, .long)] s := hK
  refine W.widen (k := 1002) (n := 200012) (Nat.le_of_ble_eq_true rfl) (Nat.le_of_ble_eq_true rfl) ?_
  rcases w_5 with ⟨rfl, h_6⟩ | ⟨rfl, h_6⟩
  · skip
    refine lv_istore (lv' := [(5, .int 1), (4, .int 0), (3, .ref ao), (2, .ref mo), (1, .ref h), (0, .ref b)]) hx hb dL_law_1019 hl (by decide) rfl (fun ls hl => ?_)
    refine lv_aload_n hx hb dL_law_1021 rfl (lv_at hl 3 rfl) ?_
    refine lv_aload_n hx hb dL_law_1022 rfl (lv_at hl 5 rfl) ?_
    refine lv_iload hx hb dL_law_1023 (lv_at hl 1 rfl) ?_
    refine lv_iconst (v := 1) hx hb dL_law_1025 (by decide) ?_
    refine lv_iadd hx hb dL_law_1026 ?_
    refine lv_topi (fun z_7 ez_7 => ?_)
    obtain rfl : z_7 = 1 := ez_7.trans (by decide)
    refine va_sld hx hb hX hbl hbA hS (by unfold vp_in; decide) dL_law_1027 ?_
    refine lv_topi (fun z_8 ez_8 => ?_)
    obtain rfl : z_8 = xs 1 := ez_8.trans (congrArg xs (by decide))
    refine ct_i (wr := [(ao, .inl (cL, 1, .inr (.inl o_3)))]) (tyr := [(cL, .long)]) (va_runV (As := [.int (xs 1)]) (rest := []) ⟨hx, hb, hml, hown, hts⟩ (m_close l hl0 dC dI mo m1 m3 m4 m5 m6 m7 m8 m9 m11 m12 m13 m14 m15 m16 m17 m18 m19 m24 m26 m28 m29 m30 m31 m32 m33 m34 m35 m36 m44 m45 m46 m47 m48 m50 m51 m52 m53 m54 k28 (xs 1) H.size ) (cwV 1 hts gL_law_X12_close rfl rfl rfl (by decide +kernel) ⟨Nat.le_of_ble_eq_true rfl, Nat.le_of_ble_eq_true rfl⟩) (ct_preV (ci := 12) (q0 := 0) hP hD hK hS hA hZ rfl rfl [0, 1] [0] rfl (by decide) rfl) rfl rfl hl.1 rfl (lv_room (Nat.le_of_ble_eq_true rfl)) dL_law_1028 ⟨Nat.le_of_ble_eq_true rfl, Nat.le_of_ble_eq_true rfl⟩) hP hD hK hS hA [0, 1] [2] [1] rfl rfl (by decide) (by decide) rfl (fun r_10 u H locs w_11 hP hD hK hS => ?_)
    obtain ⟨o_9, rfl⟩ : ∃ z, z = u := ⟨_, rfl⟩
    try dsimp only at w_11
    have hP : va_P (dC, dI) vwCl [(ao, .inl (cL, 1, .inr (.inl o_3))), (mo, .inr (12, [.int o_9, .ref m1, .int 0, .ref m3, .ref m4, .ref m5, .ref m6, .ref m7, .ref m8, .ref m9, .int 0, .ref m11, .ref m12, .ref m13, .ref m14, .ref m15, .ref m16, .ref m17, .ref m18, .ref m19, .int 0, .int 0, .int 0, .int 0, .ref m24, .int 0, .ref m26, .int 0, .ref m28, .ref m29, .ref m30, .ref m31, .ref m32, .ref m33, .ref m34, .ref m35, .ref m36, .int 0, .int 0, .int 0, .int 0, .int 0, .int (-1), .int 0, .ref m44, .ref m45, .ref m46, .ref m47, .ref m48, .int 0, .ref m50, .ref m51, .ref m52, .ref m53, .ref m54, .int 0, .int 0]))] H := hP
    have hD : va_D A [(ao, .inl (cL, 1, .inr (.inl o_3))), (mo, .inr (12, [.int o_9, .ref m1, .int 0, .ref m3, .ref m4, .ref m5, .ref m6, .ref m7, .ref m8, .ref m9, .int 0, .ref m11, .ref m12, .ref m13, .ref m14, .ref m15, .ref m16, .ref m17, .ref m18, .ref m19, .int 0, .int 0, .int 0, .int 0, .ref m24, .int 0, .ref m26, .int 0, .ref m28, .ref m29, .ref m30, .ref m31, .ref m32, .ref m33, .ref m34, .ref m35, .ref m36, .int 0, .int 0, .int 0, .int 0, .int 0, .int (-1), .int 0, .ref m44, .ref m45, .ref m46, .ref m47, .ref m48, .int 0, .ref m50, .ref m51, .ref m52, .ref m53, .ref m54, .int 0, .int 0]))] := hD
    have hK : va_K (dC, dI) vwCl [(cL, .long)] s := hK
    rcases w_11 with ⟨rfl, q_12⟩ | ⟨rfl, q_12⟩
    · skip
      refine lv_istore (lv' := [(6, .int r_10), (5, .int 1), (4, .int 0), (3, .ref ao), (2, .ref mo), (1, .ref h), (0, .ref b)]) hx hb dL_law_1031 hl (by decide) rfl (fun ls hl => ?_)
      refine lv_aload_n hx hb dL_law_1033 rfl (lv_at hl 4 rfl) ?_
      refine ct_i (wr := [(ao, .inl (cL, 1, .inr (.inl o_3)))]) (tyr := [(cL, .long)]) (va_runV (As := []) (rest := []) ⟨hx, hb, hml, hown, hts⟩ (m_thrown l hl0 dC dI mo m1 m3 m4 m5 m6 m7 m8 m9 m11 m12 m13 m14 m15 m16 m17 m18 m19 m24 m26 m28 m29 m30 m31 m32 m33 m34 m35 m36 m44 m45 m46 m47 m48 m50 m51 m52 m53 m54 1 0 0 0 0 0 0 (-1) 0 H.size ) (cwV 0 hts gL_law_X12_thrown rfl rfl rfl (by decide +kernel) ⟨Nat.le_of_ble_eq_true rfl, Nat.le_of_ble_eq_true rfl⟩) (ct_preV (ci := 12) (q0 := 1) hP hD hK hS hA hZ rfl rfl [1] [] rfl (by decide) rfl) rfl rfl hl.1 rfl (lv_room (Nat.le_of_ble_eq_true rfl)) dL_law_1034 ⟨Nat.le_of_ble_eq_true rfl, Nat.le_of_ble_eq_true rfl⟩) hP hD hK hS hA [1] [0] [0] rfl rfl (by decide) (by decide) rfl (fun r_13 u H locs w_14 hP hD hK hS => ?_)
      try dsimp only at w_14
      have hP : va_P (dC, dI) vwCl [(ao, .inl (cL, 1, .inr (.inl o_3)))] H := hP
      have hD : va_D A [(ao, .inl (cL, 1, .inr (.inl o_3)))] := hD
      have hK : va_K (dC, dI) vwCl [(cL, .long)] s := hK
      obtain rfl : r_13 = 1 := w_14
      refine lv_iload hx hb dL_law_1037 (lv_at hl 1 rfl) ?_
      refine lv_icmp_eq (tgt := 1044) hx hb dL_law_1039 (by decide) (fun _ => ?_) (fun c_15 => absurd c_15 (by decide))
      refine lv_iload hx hb dL_law_1044 (lv_at hl 1 rfl) ?_
      refine lv_if_ne (tgt := 1061) hx hb dL_law_1046 (by decide) (fun _ => ?_) (fun c_16 => absurd c_16 (by decide))
      refine lv_goto (tgt := 1620) hx hb dL_law_1061 (by decide) ?_
      refine W.widen (k := 2000) (n := 300000) (Nat.le_of_ble_eq_true rfl) (Nat.le_of_ble_eq_true rfl) ?_
      exact K _ _ _ hS (lv_sub hl [2, 6] rfl)
    · skip
      exact absurd h_6 q_12
  · skip
    refine lv_istore (lv' := [(5, .int 2), (4, .int 0), (3, .ref ao), (2, .ref mo), (1, .ref h), (0, .ref b)]) hx hb dL_law_1019 hl (by decide) rfl (fun ls hl => ?_)
    refine lv_aload_n hx hb dL_law_1021 rfl (lv_at hl 3 rfl) ?_
    refine lv_aload_n hx hb dL_law_1022 rfl (lv_at hl 5 rfl) ?_
    refine lv_iload hx hb dL_law_1023 (lv_at hl 1 rfl) ?_
    refine lv_iconst (v := 1) hx hb dL_law_1025 (by decide) ?_
    refine lv_iadd hx hb dL_law_1026 ?_
    refine lv_topi (fun z_17 ez_17 => ?_)
    obtain rfl : z_17 = 1 := ez_17.trans (by decide)
    refine va_sld hx hb hX hbl hbA hS (by unfold vp_in; decide) dL_law_1027 ?_
    refine lv_topi (fun z_18 ez_18 => ?_)
    obtain rfl : z_18 = xs 1 := ez_18.trans (congrArg xs (by decide))
    refine ct_i (wr := [(ao, .inl (cL, 1, .inr (.inl o_3)))]) (tyr := [(cL, .long)]) (va_runV (As := [.int (xs 1)]) (rest := []) ⟨hx, hb, hml, hown, hts⟩ (m_close l hl0 dC dI mo m1 m3 m4 m5 m6 m7 m8 m9 m11 m12 m13 m14 m15 m16 m17 m18 m19 m24 m26 m28 m29 m30 m31 m32 m33 m34 m35 m36 m44 m45 m46 m47 m48 m50 m51 m52 m53 m54 k28 (xs 1) H.size ) (cwV 1 hts gL_law_X12_close rfl rfl rfl (by decide +kernel) ⟨Nat.le_of_ble_eq_true rfl, Nat.le_of_ble_eq_true rfl⟩) (ct_preV (ci := 12) (q0 := 0) hP hD hK hS hA hZ rfl rfl [0, 1] [0] rfl (by decide) rfl) rfl rfl hl.1 rfl (lv_room (Nat.le_of_ble_eq_true rfl)) dL_law_1028 ⟨Nat.le_of_ble_eq_true rfl, Nat.le_of_ble_eq_true rfl⟩) hP hD hK hS hA [0, 1] [2] [1] rfl rfl (by decide) (by decide) rfl (fun r_20 u H locs w_21 hP hD hK hS => ?_)
    obtain ⟨o_19, rfl⟩ : ∃ z, z = u := ⟨_, rfl⟩
    try dsimp only at w_21
    have hP : va_P (dC, dI) vwCl [(ao, .inl (cL, 1, .inr (.inl o_3))), (mo, .inr (12, [.int o_19, .ref m1, .int 0, .ref m3, .ref m4, .ref m5, .ref m6, .ref m7, .ref m8, .ref m9, .int 0, .ref m11, .ref m12, .ref m13, .ref m14, .ref m15, .ref m16, .ref m17, .ref m18, .ref m19, .int 0, .int 0, .int 0, .int 0, .ref m24, .int 0, .ref m26, .int 0, .ref m28, .ref m29, .ref m30, .ref m31, .ref m32, .ref m33, .ref m34, .ref m35, .ref m36, .int 0, .int 0, .int 0, .int 0, .int 0, .int (-1), .int 0, .ref m44, .ref m45, .ref m46, .ref m47, .ref m48, .int 0, .ref m50, .ref m51, .ref m52, .ref m53, .ref m54, .int 0, .int 0]))] H := hP
    have hD : va_D A [(ao, .inl (cL, 1, .inr (.inl o_3))), (mo, .inr (12, [.int o_19, .ref m1, .int 0, .ref m3, .ref m4, .ref m5, .ref m6, .ref m7, .ref m8, .ref m9, .int 0, .ref m11, .ref m12, .ref m13, .ref m14, .ref m15, .ref m16, .ref m17, .ref m18, .ref m19, .int 0, .int 0, .int 0, .int 0, .ref m24, .int 0, .ref m26, .int 0, .ref m28, .ref m29, .ref m30, .ref m31, .ref m32, .ref m33, .ref m34, .ref m35, .ref m36, .int 0, .int 0, .int 0, .int 0, .int 0, .int (-1), .int 0, .ref m44, .ref m45, .ref m46, .ref m47, .ref m48, .int 0, .ref m50, .ref m51, .ref m52, .ref m53, .ref m54, .int 0, .int 0]))] := hD
    have hK : va_K (dC, dI) vwCl [(cL, .long)] s := hK
    rcases w_21 with ⟨rfl, q_22⟩ | ⟨rfl, q_22⟩
    · skip
      exact absurd q_22 h_6
    · skip
      refine lv_istore (lv' := [(6, .int r_20), (5, .int 2), (4, .int 0), (3, .ref ao), (2, .ref mo), (1, .ref h), (0, .ref b)]) hx hb dL_law_1031 hl (by decide) rfl (fun ls hl => ?_)
      refine lv_aload_n hx hb dL_law_1033 rfl (lv_at hl 4 rfl) ?_
      refine ct_i (wr := [(ao, .inl (cL, 1, .inr (.inl o_3)))]) (tyr := [(cL, .long)]) (va_runV (As := []) (rest := []) ⟨hx, hb, hml, hown, hts⟩ (m_thrown l hl0 dC dI mo m1 m3 m4 m5 m6 m7 m8 m9 m11 m12 m13 m14 m15 m16 m17 m18 m19 m24 m26 m28 m29 m30 m31 m32 m33 m34 m35 m36 m44 m45 m46 m47 m48 m50 m51 m52 m53 m54 2 0 0 0 0 0 0 (-1) 0 H.size ) (cwV 0 hts gL_law_X12_thrown rfl rfl rfl (by decide +kernel) ⟨Nat.le_of_ble_eq_true rfl, Nat.le_of_ble_eq_true rfl⟩) (ct_preV (ci := 12) (q0 := 1) hP hD hK hS hA hZ rfl rfl [1] [] rfl (by decide) rfl) rfl rfl hl.1 rfl (lv_room (Nat.le_of_ble_eq_true rfl)) dL_law_1034 ⟨Nat.le_of_ble_eq_true rfl, Nat.le_of_ble_eq_true rfl⟩) hP hD hK hS hA [1] [0] [0] rfl rfl (by decide) (by decide) rfl (fun r_23 u H locs w_24 hP hD hK hS => ?_)
      try dsimp only at w_24
      have hP : va_P (dC, dI) vwCl [(ao, .inl (cL, 1, .inr (.inl o_3)))] H := hP
      have hD : va_D A [(ao, .inl (cL, 1, .inr (.inl o_3)))] := hD
      have hK : va_K (dC, dI) vwCl [(cL, .long)] s := hK
      obtain rfl : r_23 = 2 := w_24
      refine lv_iload hx hb dL_law_1037 (lv_at hl 1 rfl) ?_
      refine lv_icmp_eq (tgt := 1044) hx hb dL_law_1039 (by decide) (fun _ => ?_) (fun c_25 => absurd c_25 (by decide))
      refine lv_iload hx hb dL_law_1044 (lv_at hl 1 rfl) ?_
      refine lv_if_ne (tgt := 1061) hx hb dL_law_1046 (by decide) (fun _ => ?_) (fun c_26 => absurd c_26 (by decide))
      refine lv_goto (tgt := 1620) hx hb dL_law_1061 (by decide) ?_
      refine W.widen (k := 2000) (n := 300000) (Nat.le_of_ble_eq_true rfl) (Nat.le_of_ble_eq_true rfl) ?_
      exact K _ _ _ hS (lv_sub hl [2, 6] rfl)

set_option maxHeartbeats 4000000 in
set_option maxRecDepth 100000 in
/-- the law at purge -/
theorem law_purge {p : Program} {l : Launch} {e : Env} {s : State} {m : MethodId} {below : List Frame} {meth : Method} {c : Code} {Q : State → Prop} {b : Nat} {xs : Nat → Int32} {A : Nat → Prop} {H : Heap} {locs : List Loc} {ls : Array Slot} (hl0 : l.stackTraces = false) (dC : Nat → ClassId) (dI : Nat → Nat → Nat) (h : Nat) (aT : Nat) (aV : Nat) (aS : Nat) (aC : Nat) (aO : Nat) (aF : Nat) (aL : Nat) (aR : Nat) (aX : Nat) (cO : ClassId) (sT : Nat) (sK : Nat) (sH : Nat) (hF : Nat) (hW : Nat) (hM : Nat) (ao : Nat) (cL : ClassId) (mo : Nat) (m1 : Nat) (m3 : Nat) (m4 : Nat) (m5 : Nat) (m6 : Nat) (m7 : Nat) (m8 : Nat) (m9 : Nat) (m11 : Nat) (m12 : Nat) (m13 : Nat) (m14 : Nat) (m15 : Nat) (m16 : Nat) (m17 : Nat) (m18 : Nat) (m19 : Nat) (m24 : Nat) (m26 : Nat) (m28 : Nat) (m29 : Nat) (m30 : Nat) (m31 : Nat) (m32 : Nat) (m33 : Nat) (m34 : Nat) (m35 : Nat) (m36 : Nat) (m44 : Nat) (m45 : Nat) (m46 : Nat) (m47 : Nat) (m48 : Nat) (m50 : Nat) (m51 : Nat) (m52 : Nat) (m53 : Nat) (m54 : Nat) (k11 : ClassId) (k28 : ClassId) (hx : p.tables.exec = Jvm.exec) (hb : c.code = cL_law) (hml : c.maxLocals = 7) (hown : s.vm.findClass RL = some m.cls) (hts : ∀ w ∈ wsL_law, w.before #[Value.ref b] s = true) (hX : va_X b 6 xs s s.heap) (hbl : b < s.heap.size) (hbA : ¬ A b) (hA : ∀ q : Nat, s.heap.size ≤ q → A q) (hZ : tx_St A s) (hl : lv_has ls 7 [(4, .int 0), (3, .ref ao), (2, .ref mo), (1, .ref h), (0, .ref b)]) (hP : va_P (dC, dI) vwCl [(h, .inr (11, [.ref aT, .ref aV, .ref aS, .ref aC, .ref aO, .ref aF, .ref aL, .ref aR, .ref aX, .int 0, .int 0, .int 0])), (aO, .inl (cO, 10, .inl (fun _ => 0))), (aS, .inr (9, [.ref sT, .ref sK, .ref sH, .int 0, .int 0, .int 0, .int 0, .int 0])), (sH, .inr (3, [.ref hF, .ref hW, .ref hM, .int 0, .int 0])), (ao, .inl (cL, 1, .inr (.inl (fun _ => 0)))), (mo, .inr (12, [.int 0, .ref m1, .int 0, .ref m3, .ref m4, .ref m5, .ref m6, .ref m7, .ref m8, .ref m9, .int 0, .ref m11, .ref m12, .ref m13, .ref m14, .ref m15, .ref m16, .ref m17, .ref m18, .ref m19, .int 0, .int 0, .int 0, .int 0, .ref m24, .int 0, .ref m26, .int 0, .ref m28, .ref m29, .ref m30, .ref m31, .ref m32, .ref m33, .ref m34, .ref m35, .ref m36, .int 0, .int 0, .int 0, .int 0, .int 0, .int (-1), .int 0, .ref m44, .ref m45, .ref m46, .ref m47, .ref m48, .int 0, .ref m50, .ref m51, .ref m52, .ref m53, .ref m54, .int 0, .int 0])), (m11, .inl (k11, 3000, .inl (fun _ => 0))), (m28, .inl (k28, 10, .inl (fun _ => 0)))] H) (hD : va_D A [(h, .inr (11, [.ref aT, .ref aV, .ref aS, .ref aC, .ref aO, .ref aF, .ref aL, .ref aR, .ref aX, .int 0, .int 0, .int 0])), (aO, .inl (cO, 10, .inl (fun _ => 0))), (aS, .inr (9, [.ref sT, .ref sK, .ref sH, .int 0, .int 0, .int 0, .int 0, .int 0])), (sH, .inr (3, [.ref hF, .ref hW, .ref hM, .int 0, .int 0])), (ao, .inl (cL, 1, .inr (.inl (fun _ => 0)))), (mo, .inr (12, [.int 0, .ref m1, .int 0, .ref m3, .ref m4, .ref m5, .ref m6, .ref m7, .ref m8, .ref m9, .int 0, .ref m11, .ref m12, .ref m13, .ref m14, .ref m15, .ref m16, .ref m17, .ref m18, .ref m19, .int 0, .int 0, .int 0, .int 0, .ref m24, .int 0, .ref m26, .int 0, .ref m28, .ref m29, .ref m30, .ref m31, .ref m32, .ref m33, .ref m34, .ref m35, .ref m36, .int 0, .int 0, .int 0, .int 0, .int 0, .int (-1), .int 0, .ref m44, .ref m45, .ref m46, .ref m47, .ref m48, .int 0, .ref m50, .ref m51, .ref m52, .ref m53, .ref m54, .int 0, .int 0])), (m11, .inl (k11, 3000, .inl (fun _ => 0))), (m28, .inl (k28, 10, .inl (fun _ => 0)))]) (hK : va_K (dC, dI) vwCl [(cO, .boolean), (cL, .long), (k11, .boolean), (k28, .boolean)] s) (hS : va_S A s.heap H locs)
    (K : ∀ (H : Heap) (locs : List Loc) (ls : Array Slot), va_S A s.heap H locs → lv_has ls 7 [(4, .int 0), (0, .ref b)] → W p l e room_1 s m #[Value.ref b] below meth c H locs 2000 300000 Q (F0 m 1620 ls [])) : W p l e room_1 s m #[Value.ref b] below meth c H locs 1000 200000 Q (F0 m 1248 ls []) := by
  refine lv_aload_n hx hb dL_law_1248 rfl (lv_at hl 3 rfl) ?_
  refine lv_aload_n hx hb dL_law_1249 rfl (lv_at hl 4 rfl) ?_
  refine lv_iload hx hb dL_law_1250 (lv_at hl 0 rfl) ?_
  refine lv_iconst (v := 1) hx hb dL_law_1252 (by decide) ?_
  refine lv_iadd hx hb dL_law_1253 ?_
  refine lv_topi (fun z_1 ez_1 => ?_)
  obtain rfl : z_1 = 1 := ez_1.trans (by decide)
  refine va_sld hx hb hX hbl hbA hS (by unfold vp_in; decide) dL_law_1254 ?_
  refine lv_topi (fun z_2 ez_2 => ?_)
  obtain rfl : z_2 = xs 1 := ez_2.trans (congrArg xs (by decide))
  refine lv_aload_n hx hb dL_law_1255 rfl (lv_at hl 1 rfl) ?_
  refine ct_i (wr := [(mo, .inr (12, [.int 0, .ref m1, .int 0, .ref m3, .ref m4, .ref m5, .ref m6, .ref m7, .ref m8, .ref m9, .int 0, .ref m11, .ref m12, .ref m13, .ref m14, .ref m15, .ref m16, .ref m17, .ref m18, .ref m19, .int 0, .int 0, .int 0, .int 0, .ref m24, .int 0, .ref m26, .int 0, .ref m28, .ref m29, .ref m30, .ref m31, .ref m32, .ref m33, .ref m34, .ref m35, .ref m36, .int 0, .int 0, .int 0, .int 0, .int 0, .int (-1), .int 0, .ref m44, .ref m45, .ref m46, .ref m47, .ref m48, .int 0, .ref m50, .ref m51, .ref m52, .ref m53, .ref m54, .int 0, .int 0])), (m11, .inl (k11, 3000, .inl (fun _ => 0))), (m28, .inl (k28, 10, .inl (fun _ => 0)))]) (tyr := [(k11, .boolean), (k28, .boolean)]) (vx_runSW (As := [.ref h, .int (xs 1), .ref ao]) (rest := []) ⟨hx, hb, hml, hown, hts⟩ (h_purge l hl0 dC dI h aT aV aS aC aO aF aL aR aX sT sK sH hF hW hM cO (xs 1) ao cL (fun _ => 0) H.size ) (vx_cwSW 3 hts gL_law_L_purge rfl rfl rfl (by decide +kernel) ⟨Nat.le_of_ble_eq_true rfl, Nat.le_of_ble_eq_true rfl⟩) (ct_pre hP hD hK hS hA hZ [0, 1, 2, 3, 4] [0, 1] rfl (by decide) rfl) rfl rfl hl.1 rfl (lv_room (Nat.le_of_ble_eq_true rfl)) dL_law_1256 ⟨Nat.le_of_ble_eq_true rfl, Nat.le_of_ble_eq_true rfl⟩) hP hD hK hS hA [0, 1, 2, 3, 4] [5, 6, 7] [2, 3] rfl rfl (by decide) (by decide) rfl (fun r_4 u H locs w_5 hP hD hK hS => ?_)
  obtain ⟨o_3, rfl⟩ : ∃ z, z = u := ⟨_, rfl⟩
  try dsimp only at w_5
  have hP : va_P (dC, dI) vwCl [(mo, .inr (12, [.int 0, .ref m1, .int 0, .ref m3, .ref m4, .ref m5, .ref m6, .ref m7, .ref m8, .ref m9, .int 0, .ref m11, .ref m12, .ref m13, .ref m14, .ref m15, .ref m16, .ref m17, .ref m18, .ref m19, .int 0, .int 0, .int 0, .int 0, .ref m24, .int 0, .ref m26, .int 0, .ref m28, .ref m29, .ref m30, .ref m31, .ref m32, .ref m33, .ref m34, .ref m35, .ref m36, .int 0, .int 0, .int 0, .int 0, .int 0, .int (-1), .int 0, .ref m44, .ref m45, .ref m46, .ref m47, .ref m48, .int 0, .ref m50, .ref m51, .ref m52, .ref m53, .ref m54, .int 0, .int 0])), (m11, .inl (k11, 3000, .inl (fun _ => 0))), (m28, .inl (k28, 10, .inl (fun _ => 0))), (ao, .inl (cL, 1, .inr (.inl o_3)))] H := hP
  have hD : va_D A [(mo, .inr (12, [.int 0, .ref m1, .int 0, .ref m3, .ref m4, .ref m5, .ref m6, .ref m7, .ref m8, .ref m9, .int 0, .ref m11, .ref m12, .ref m13, .ref m14, .ref m15, .ref m16, .ref m17, .ref m18, .ref m19, .int 0, .int 0, .int 0, .int 0, .ref m24, .int 0, .ref m26, .int 0, .ref m28, .ref m29, .ref m30, .ref m31, .ref m32, .ref m33, .ref m34, .ref m35, .ref m36, .int 0, .int 0, .int 0, .int 0, .int 0, .int (-1), .int 0, .ref m44, .ref m45, .ref m46, .ref m47, .ref m48, .int 0, .ref m50, .ref m51, .ref m52, .ref m53, .ref m54, .int 0, .int 0])), (m11, .inl (k11, 3000, .inl (fun _ => 0))), (m28, .inl (k28, 10, .inl (fun _ => 0))), (ao, .inl (cL, 1, .inr (.inl o_3)))] := hD
  have hK : va_K (dC, dI) vwCl [(k11, .boolean), (k28, .boolean), (cL, .long)] s := hK
  refine W.widen (k := 1001) (n := 200006) (Nat.le_of_ble_eq_true rfl) (Nat.le_of_ble_eq_true rfl) ?_
  rcases w_5 with ⟨rfl, h_6⟩ | ⟨rfl, h_6⟩
  · skip
    refine lv_istore (lv' := [(5, .int 1), (4, .int 0), (3, .ref ao), (2, .ref mo), (1, .ref h), (0, .ref b)]) hx hb dL_law_1259 hl (by decide) rfl (fun ls hl => ?_)
    refine lv_aload_n hx hb dL_law_1261 rfl (lv_at hl 3 rfl) ?_
    refine lv_aload_n hx hb dL_law_1262 rfl (lv_at hl 5 rfl) ?_
    refine lv_iload hx hb dL_law_1263 (lv_at hl 1 rfl) ?_
    refine lv_iconst (v := 1) hx hb dL_law_1265 (by decide) ?_
    refine lv_iadd hx hb dL_law_1266 ?_
    refine lv_topi (fun z_7 ez_7 => ?_)
    obtain rfl : z_7 = 1 := ez_7.trans (by decide)
    refine va_sld hx hb hX hbl hbA hS (by unfold vp_in; decide) dL_law_1267 ?_
    refine lv_topi (fun z_8 ez_8 => ?_)
    obtain rfl : z_8 = xs 1 := ez_8.trans (congrArg xs (by decide))
    refine ct_i (wr := [(ao, .inl (cL, 1, .inr (.inl o_3)))]) (tyr := [(cL, .long)]) (va_runV (As := [.int (xs 1)]) (rest := []) ⟨hx, hb, hml, hown, hts⟩ (m_purge l hl0 dC dI mo m1 m3 m4 m5 m6 m7 m8 m9 m11 m12 m13 m14 m15 m16 m17 m18 m19 m24 m26 m28 m29 m30 m31 m32 m33 m34 m35 m36 m44 m45 m46 m47 m48 m50 m51 m52 m53 m54 k11 k28 (xs 1) H.size ) (cwV 1 hts gL_law_X12_purge rfl rfl rfl (by decide +kernel) ⟨Nat.le_of_ble_eq_true rfl, Nat.le_of_ble_eq_true rfl⟩) (ct_preV (ci := 12) (q0 := 0) hP hD hK hS hA hZ rfl rfl [0, 1, 2] [0, 1] rfl (by decide) rfl) rfl rfl hl.1 rfl (lv_room (Nat.le_of_ble_eq_true rfl)) dL_law_1268 ⟨Nat.le_of_ble_eq_true rfl, Nat.le_of_ble_eq_true rfl⟩) hP hD hK hS hA [0, 1, 2] [3] [2] rfl rfl (by decide) (by decide) rfl (fun r_10 u H locs w_11 hP hD hK hS => ?_)
    obtain ⟨o_9, rfl⟩ : ∃ z, z = u := ⟨_, rfl⟩
    try dsimp only at w_11
    have hP : va_P (dC, dI) vwCl [(ao, .inl (cL, 1, .inr (.inl o_3))), (mo, .inr (12, [.int o_9, .ref m1, .int 0, .ref m3, .ref m4, .ref m5, .ref m6, .ref m7, .ref m8, .ref m9, .int 0, .ref m11, .ref m12, .ref m13, .ref m14, .ref m15, .ref m16, .ref m17, .ref m18, .ref m19, .int 0, .int 0, .int 0, .int 0, .ref m24, .int 0, .ref m26, .int 0, .ref m28, .ref m29, .ref m30, .ref m31, .ref m32, .ref m33, .ref m34, .ref m35, .ref m36, .int 0, .int 0, .int 0, .int 0, .int 0, .int (-1), .int 0, .ref m44, .ref m45, .ref m46, .ref m47, .ref m48, .int 0, .ref m50, .ref m51, .ref m52, .ref m53, .ref m54, .int 0, .int 0]))] H := hP
    have hD : va_D A [(ao, .inl (cL, 1, .inr (.inl o_3))), (mo, .inr (12, [.int o_9, .ref m1, .int 0, .ref m3, .ref m4, .ref m5, .ref m6, .ref m7, .ref m8, .ref m9, .int 0, .ref m11, .ref m12, .ref m13, .ref m14, .ref m15, .ref m16, .ref m17, .ref m18, .ref m19, .int 0, .int 0, .int 0, .int 0, .ref m24, .int 0, .ref m26, .int 0, .ref m28, .ref m29, .ref m30, .ref m31, .ref m32, .ref m33, .ref m34, .ref m35, .ref m36, .int 0, .int 0, .int 0, .int 0, .int 0, .int (-1), .int 0, .ref m44, .ref m45, .ref m46, .ref m47, .ref m48, .int 0, .ref m50, .ref m51, .ref m52, .ref m53, .ref m54, .int 0, .int 0]))] := hD
    have hK : va_K (dC, dI) vwCl [(cL, .long)] s := hK
    rcases w_11 with ⟨rfl, q_12⟩ | ⟨rfl, q_12⟩
    · skip
      refine lv_istore (lv' := [(6, .int r_10), (5, .int 1), (4, .int 0), (3, .ref ao), (2, .ref mo), (1, .ref h), (0, .ref b)]) hx hb dL_law_1271 hl (by decide) rfl (fun ls hl => ?_)
      refine lv_aload_n hx hb dL_law_1273 rfl (lv_at hl 4 rfl) ?_
      refine ct_i (wr := [(ao, .inl (cL, 1, .inr (.inl o_3)))]) (tyr := [(cL, .long)]) (va_runV (As := []) (rest := []) ⟨hx, hb, hml, hown, hts⟩ (m_thrown l hl0 dC dI mo m1 m3 m4 m5 m6 m7 m8 m9 m11 m12 m13 m14 m15 m16 m17 m18 m19 m24 m26 m28 m29 m30 m31 m32 m33 m34 m35 m36 m44 m45 m46 m47 m48 m50 m51 m52 m53 m54 1 0 0 0 0 0 0 (-1) 0 H.size ) (cwV 0 hts gL_law_X12_thrown rfl rfl rfl (by decide +kernel) ⟨Nat.le_of_ble_eq_true rfl, Nat.le_of_ble_eq_true rfl⟩) (ct_preV (ci := 12) (q0 := 1) hP hD hK hS hA hZ rfl rfl [1] [] rfl (by decide) rfl) rfl rfl hl.1 rfl (lv_room (Nat.le_of_ble_eq_true rfl)) dL_law_1274 ⟨Nat.le_of_ble_eq_true rfl, Nat.le_of_ble_eq_true rfl⟩) hP hD hK hS hA [1] [0] [0] rfl rfl (by decide) (by decide) rfl (fun r_13 u H locs w_14 hP hD hK hS => ?_)
      try dsimp only at w_14
      have hP : va_P (dC, dI) vwCl [(ao, .inl (cL, 1, .inr (.inl o_3)))] H := hP
      have hD : va_D A [(ao, .inl (cL, 1, .inr (.inl o_3)))] := hD
      have hK : va_K (dC, dI) vwCl [(cL, .long)] s := hK
      obtain rfl : r_13 = 1 := w_14
      refine lv_iload hx hb dL_law_1277 (lv_at hl 1 rfl) ?_
      refine lv_icmp_eq (tgt := 1284) hx hb dL_law_1279 (by decide) (fun _ => ?_) (fun c_15 => absurd c_15 (by decide))
      refine lv_iload hx hb dL_law_1284 (lv_at hl 1 rfl) ?_
      refine lv_if_ne (tgt := 1301) hx hb dL_law_1286 (by decide) (fun _ => ?_) (fun c_16 => absurd c_16 (by decide))
      refine lv_goto (tgt := 1620) hx hb dL_law_1301 (by decide) ?_
      refine W.widen (k := 2000) (n := 300000) (Nat.le_of_ble_eq_true rfl) (Nat.le_of_ble_eq_true rfl) ?_
      exact K _ _ _ hS (lv_sub hl [2, 6] rfl)
    · skip
      exact absurd h_6 q_12.1
  · skip
    refine lv_istore (lv' := [(5, .int 0), (4, .int 0), (3, .ref ao), (2, .ref mo), (1, .ref h), (0, .ref b)]) hx hb dL_law_1259 hl (by decide) rfl (fun ls hl => ?_)
    refine lv_aload_n hx hb dL_law_1261 rfl (lv_at hl 3 rfl) ?_
    refine lv_aload_n hx hb dL_law_1262 rfl (lv_at hl 5 rfl) ?_
    refine lv_iload hx hb dL_law_1263 (lv_at hl 1 rfl) ?_
    refine lv_iconst (v := 1) hx hb dL_law_1265 (by decide) ?_
    refine lv_iadd hx hb dL_law_1266 ?_
    refine lv_topi (fun z_17 ez_17 => ?_)
    obtain rfl : z_17 = 1 := ez_17.trans (by decide)
    refine va_sld hx hb hX hbl hbA hS (by unfold vp_in; decide) dL_law_1267 ?_
    refine lv_topi (fun z_18 ez_18 => ?_)
    obtain rfl : z_18 = xs 1 := ez_18.trans (congrArg xs (by decide))
    refine ct_i (wr := [(ao, .inl (cL, 1, .inr (.inl o_3)))]) (tyr := [(cL, .long)]) (va_runV (As := [.int (xs 1)]) (rest := []) ⟨hx, hb, hml, hown, hts⟩ (m_purge l hl0 dC dI mo m1 m3 m4 m5 m6 m7 m8 m9 m11 m12 m13 m14 m15 m16 m17 m18 m19 m24 m26 m28 m29 m30 m31 m32 m33 m34 m35 m36 m44 m45 m46 m47 m48 m50 m51 m52 m53 m54 k11 k28 (xs 1) H.size ) (cwV 1 hts gL_law_X12_purge rfl rfl rfl (by decide +kernel) ⟨Nat.le_of_ble_eq_true rfl, Nat.le_of_ble_eq_true rfl⟩) (ct_preV (ci := 12) (q0 := 0) hP hD hK hS hA hZ rfl rfl [0, 1, 2] [0, 1] rfl (by decide) rfl) rfl rfl hl.1 rfl (lv_room (Nat.le_of_ble_eq_true rfl)) dL_law_1268 ⟨Nat.le_of_ble_eq_true rfl, Nat.le_of_ble_eq_true rfl⟩) hP hD hK hS hA [0, 1, 2] [3] [2] rfl rfl (by decide) (by decide) rfl (fun r_20 u H locs w_21 hP hD hK hS => ?_)
    obtain ⟨o_19, rfl⟩ : ∃ z, z = u := ⟨_, rfl⟩
    try dsimp only at w_21
    have hP : va_P (dC, dI) vwCl [(ao, .inl (cL, 1, .inr (.inl o_3))), (mo, .inr (12, [.int o_19, .ref m1, .int 0, .ref m3, .ref m4, .ref m5, .ref m6, .ref m7, .ref m8, .ref m9, .int 0, .ref m11, .ref m12, .ref m13, .ref m14, .ref m15, .ref m16, .ref m17, .ref m18, .ref m19, .int 0, .int 0, .int 0, .int 0, .ref m24, .int 0, .ref m26, .int 0, .ref m28, .ref m29, .ref m30, .ref m31, .ref m32, .ref m33, .ref m34, .ref m35, .ref m36, .int 0, .int 0, .int 0, .int 0, .int 0, .int (-1), .int 0, .ref m44, .ref m45, .ref m46, .ref m47, .ref m48, .int 0, .ref m50, .ref m51, .ref m52, .ref m53, .ref m54, .int 0, .int 0]))] H := hP
    have hD : va_D A [(ao, .inl (cL, 1, .inr (.inl o_3))), (mo, .inr (12, [.int o_19, .ref m1, .int 0, .ref m3, .ref m4, .ref m5, .ref m6, .ref m7, .ref m8, .ref m9, .int 0, .ref m11, .ref m12, .ref m13, .ref m14, .ref m15, .ref m16, .ref m17, .ref m18, .ref m19, .int 0, .int 0, .int 0, .int 0, .ref m24, .int 0, .ref m26, .int 0, .ref m28, .ref m29, .ref m30, .ref m31, .ref m32, .ref m33, .ref m34, .ref m35, .ref m36, .int 0, .int 0, .int 0, .int 0, .int 0, .int (-1), .int 0, .ref m44, .ref m45, .ref m46, .ref m47, .ref m48, .int 0, .ref m50, .ref m51, .ref m52, .ref m53, .ref m54, .int 0, .int 0]))] := hD
    have hK : va_K (dC, dI) vwCl [(cL, .long)] s := hK
    rcases w_21 with ⟨rfl, q_22⟩ | ⟨rfl, q_22⟩
    · skip
      exact absurd q_22 h_6.1
    · skip
      obtain rfl : 0 = r_20 := q_22.2.symm
      refine lv_istore (lv' := [(6, .int 0), (5, .int 0), (4, .int 0), (3, .ref ao), (2, .ref mo), (1, .ref h), (0, .ref b)]) hx hb dL_law_1271 hl (by decide) rfl (fun ls hl => ?_)
      refine lv_aload_n hx hb dL_law_1273 rfl (lv_at hl 4 rfl) ?_
      refine ct_i (wr := [(ao, .inl (cL, 1, .inr (.inl o_3)))]) (tyr := [(cL, .long)]) (va_runV (As := []) (rest := []) ⟨hx, hb, hml, hown, hts⟩ (m_thrown l hl0 dC dI mo m1 m3 m4 m5 m6 m7 m8 m9 m11 m12 m13 m14 m15 m16 m17 m18 m19 m24 m26 m28 m29 m30 m31 m32 m33 m34 m35 m36 m44 m45 m46 m47 m48 m50 m51 m52 m53 m54 0 0 0 0 0 0 0 (-1) 0 H.size ) (cwV 0 hts gL_law_X12_thrown rfl rfl rfl (by decide +kernel) ⟨Nat.le_of_ble_eq_true rfl, Nat.le_of_ble_eq_true rfl⟩) (ct_preV (ci := 12) (q0 := 1) hP hD hK hS hA hZ rfl rfl [1] [] rfl (by decide) rfl) rfl rfl hl.1 rfl (lv_room (Nat.le_of_ble_eq_true rfl)) dL_law_1274 ⟨Nat.le_of_ble_eq_true rfl, Nat.le_of_ble_eq_true rfl⟩) hP hD hK hS hA [1] [0] [0] rfl rfl (by decide) (by decide) rfl (fun r_23 u H locs w_24 hP hD hK hS => ?_)
      try dsimp only at w_24
      have hP : va_P (dC, dI) vwCl [(ao, .inl (cL, 1, .inr (.inl o_3)))] H := hP
      have hD : va_D A [(ao, .inl (cL, 1, .inr (.inl o_3)))] := hD
      have hK : va_K (dC, dI) vwCl [(cL, .long)] s := hK
      obtain rfl : r_23 = 0 := w_24
      refine lv_iload hx hb dL_law_1277 (lv_at hl 1 rfl) ?_
      refine lv_icmp_eq (tgt := 1284) hx hb dL_law_1279 (by decide) (fun _ => ?_) (fun c_25 => absurd c_25 (by decide))
      refine lv_iload hx hb dL_law_1284 (lv_at hl 1 rfl) ?_
      refine lv_if_ne (tgt := 1301) hx hb dL_law_1286 (by decide) (fun c_26 => absurd c_26 (by decide)) (fun _ => ?_)
      refine lv_aload_n hx hb dL_law_1289 rfl (lv_at hl 3 rfl) ?_
      refine lv_iconst (v := 0) hx hb dL_law_1290 (by decide) ?_
      refine va_lald hx hb hK hP 0 0 rfl rfl (by unfold vp_in; decide) dL_law_1291 ?_
      refine lv_topl (fun y_27 ey_27 => ?_)
      obtain rfl : y_27 = (0 : Int32).toInt64 := ey_27.trans ((congrArg o_3 (by decide : (0 : Int32).toNatClampNeg = 0)).trans h_6.2)
      refine lv_iload hx hb dL_law_1292 (lv_at hl 0 rfl) ?_
      refine lv_i2l (v := (0 : Int32).toInt64) hx hb dL_law_1294 rfl ?_
      refine tx_lcmpE hx hb dL_law_1295 ?_
      refine lv_if_eq (tgt := 1301) hx hb dL_law_1296 (by decide) (fun _ => ?_) (fun c_28 => absurd c_28 (by decide))
      refine lv_goto (tgt := 1620) hx hb dL_law_1301 (by decide) ?_
      refine W.widen (k := 2000) (n := 300000) (Nat.le_of_ble_eq_true rfl) (Nat.le_of_ble_eq_true rfl) ?_
      exact K _ _ _ hS (lv_sub hl [2, 6] rfl)

set_option maxHeartbeats 4000000 in
set_option maxRecDepth 100000 in
/-- the law at solution -/
theorem law_solution {p : Program} {l : Launch} {e : Env} {s : State} {m : MethodId} {below : List Frame} {meth : Method} {c : Code} {Q : State → Prop} {b : Nat} {xs : Nat → Int32} {A : Nat → Prop} {H : Heap} {locs : List Loc} {ls : Array Slot} (hl0 : l.stackTraces = false) (dC : Nat → ClassId) (dI : Nat → Nat → Nat) (h : Nat) (aT : Nat) (aV : Nat) (aS : Nat) (aC : Nat) (aO : Nat) (aF : Nat) (aL : Nat) (aR : Nat) (aX : Nat) (xL : Nat) (xS : Nat) (xK : Nat) (xV : Nat) (xW : Nat) (lK : Nat) (ao : Nat) (cL : ClassId) (mo : Nat) (m1 : Nat) (m3 : Nat) (m4 : Nat) (m5 : Nat) (m6 : Nat) (m7 : Nat) (m8 : Nat) (m9 : Nat) (m11 : Nat) (m12 : Nat) (m13 : Nat) (m14 : Nat) (m15 : Nat) (m16 : Nat) (m17 : Nat) (m18 : Nat) (m19 : Nat) (m24 : Nat) (m26 : Nat) (m28 : Nat) (m29 : Nat) (m30 : Nat) (m31 : Nat) (m32 : Nat) (m33 : Nat) (m34 : Nat) (m35 : Nat) (m36 : Nat) (m44 : Nat) (m45 : Nat) (m46 : Nat) (m47 : Nat) (m48 : Nat) (m50 : Nat) (m51 : Nat) (m52 : Nat) (m53 : Nat) (m54 : Nat) (hx : p.tables.exec = Jvm.exec) (hb : c.code = cL_law) (hml : c.maxLocals = 7) (hown : s.vm.findClass RL = some m.cls) (hts : ∀ w ∈ wsL_law, w.before #[Value.ref b] s = true) (hX : va_X b 6 xs s s.heap) (hbl : b < s.heap.size) (hbA : ¬ A b) (hA : ∀ q : Nat, s.heap.size ≤ q → A q) (hZ : tx_St A s) (hl : lv_has ls 7 [(4, .int 0), (3, .ref ao), (2, .ref mo), (1, .ref h), (0, .ref b)]) (hP : va_P (dC, dI) vwCl [(h, .inr (11, [.ref aT, .ref aV, .ref aS, .ref aC, .ref aO, .ref aF, .ref aL, .ref aR, .ref aX, .int 0, .int 0, .int 0])), (aX, .inr (8, [.ref xL, .int 0, .ref xS, .ref xK, .ref xV, .ref xW, .null, .int 0])), (xL, .inr (7, [.ref lK, .int 0, .int 0])), (ao, .inl (cL, 1, .inr (.inl (fun _ => 0)))), (mo, .inr (12, [.int 0, .ref m1, .int 0, .ref m3, .ref m4, .ref m5, .ref m6, .ref m7, .ref m8, .ref m9, .int 0, .ref m11, .ref m12, .ref m13, .ref m14, .ref m15, .ref m16, .ref m17, .ref m18, .ref m19, .int 0, .int 0, .int 0, .int 0, .ref m24, .int 0, .ref m26, .int 0, .ref m28, .ref m29, .ref m30, .ref m31, .ref m32, .ref m33, .ref m34, .ref m35, .ref m36, .int 0, .int 0, .int 0, .int 0, .int 0, .int (-1), .int 0, .ref m44, .ref m45, .ref m46, .ref m47, .ref m48, .int 0, .ref m50, .ref m51, .ref m52, .ref m53, .ref m54, .int 0, .int 0]))] H) (hD : va_D A [(h, .inr (11, [.ref aT, .ref aV, .ref aS, .ref aC, .ref aO, .ref aF, .ref aL, .ref aR, .ref aX, .int 0, .int 0, .int 0])), (aX, .inr (8, [.ref xL, .int 0, .ref xS, .ref xK, .ref xV, .ref xW, .null, .int 0])), (xL, .inr (7, [.ref lK, .int 0, .int 0])), (ao, .inl (cL, 1, .inr (.inl (fun _ => 0)))), (mo, .inr (12, [.int 0, .ref m1, .int 0, .ref m3, .ref m4, .ref m5, .ref m6, .ref m7, .ref m8, .ref m9, .int 0, .ref m11, .ref m12, .ref m13, .ref m14, .ref m15, .ref m16, .ref m17, .ref m18, .ref m19, .int 0, .int 0, .int 0, .int 0, .ref m24, .int 0, .ref m26, .int 0, .ref m28, .ref m29, .ref m30, .ref m31, .ref m32, .ref m33, .ref m34, .ref m35, .ref m36, .int 0, .int 0, .int 0, .int 0, .int 0, .int (-1), .int 0, .ref m44, .ref m45, .ref m46, .ref m47, .ref m48, .int 0, .ref m50, .ref m51, .ref m52, .ref m53, .ref m54, .int 0, .int 0]))]) (hK : va_K (dC, dI) vwCl [(cL, .long)] s) (hS : va_S A s.heap H locs)
    (K : ∀ (H : Heap) (locs : List Loc) (ls : Array Slot), va_S A s.heap H locs → lv_has ls 7 [(4, .int 0), (0, .ref b)] → W p l e room_1 s m #[Value.ref b] below meth c H locs 2000 300000 Q (F0 m 1620 ls [])) : W p l e room_1 s m #[Value.ref b] below meth c H locs 1000 200000 Q (F0 m 1496 ls []) := by
  refine lv_aload_n hx hb dL_law_1496 rfl (lv_at hl 3 rfl) ?_
  refine lv_aload_n hx hb dL_law_1497 rfl (lv_at hl 4 rfl) ?_
  refine lv_iload hx hb dL_law_1498 (lv_at hl 0 rfl) ?_
  refine lv_iconst (v := 1) hx hb dL_law_1500 (by decide) ?_
  refine lv_iadd hx hb dL_law_1501 ?_
  refine lv_topi (fun z_1 ez_1 => ?_)
  obtain rfl : z_1 = 1 := ez_1.trans (by decide)
  refine va_sld hx hb hX hbl hbA hS (by unfold vp_in; decide) dL_law_1502 ?_
  refine lv_topi (fun z_2 ez_2 => ?_)
  obtain rfl : z_2 = xs 1 := ez_2.trans (congrArg xs (by decide))
  refine lv_aload_n hx hb dL_law_1503 rfl (lv_at hl 4 rfl) ?_
  refine lv_iload hx hb dL_law_1504 (lv_at hl 0 rfl) ?_
  refine lv_iconst (v := 2) hx hb dL_law_1506 (by decide) ?_
  refine lv_iadd hx hb dL_law_1507 ?_
  refine lv_topi (fun z_3 ez_3 => ?_)
  obtain rfl : z_3 = 2 := ez_3.trans (by decide)
  refine va_sld hx hb hX hbl hbA hS (by unfold vp_in; decide) dL_law_1508 ?_
  refine lv_topi (fun z_4 ez_4 => ?_)
  obtain rfl : z_4 = xs 2 := ez_4.trans (congrArg xs (by decide))
  refine lv_aload_n hx hb dL_law_1509 rfl (lv_at hl 1 rfl) ?_
  refine ct_i (wr := [(mo, .inr (12, [.int 0, .ref m1, .int 0, .ref m3, .ref m4, .ref m5, .ref m6, .ref m7, .ref m8, .ref m9, .int 0, .ref m11, .ref m12, .ref m13, .ref m14, .ref m15, .ref m16, .ref m17, .ref m18, .ref m19, .int 0, .int 0, .int 0, .int 0, .ref m24, .int 0, .ref m26, .int 0, .ref m28, .ref m29, .ref m30, .ref m31, .ref m32, .ref m33, .ref m34, .ref m35, .ref m36, .int 0, .int 0, .int 0, .int 0, .int 0, .int (-1), .int 0, .ref m44, .ref m45, .ref m46, .ref m47, .ref m48, .int 0, .ref m50, .ref m51, .ref m52, .ref m53, .ref m54, .int 0, .int 0]))]) (tyr := []) (vx_runSW (As := [.ref h, .int (xs 1), .int (xs 2), .ref ao]) (rest := []) ⟨hx, hb, hml, hown, hts⟩ (h_solution l hl0 dC dI h aT aV aS aC aO aF aL aR aX xL xS xK xV xW lK (xs 1) (xs 2) ao cL (fun _ => 0) H.size ) (vx_cwSW 4 hts gL_law_L_solution rfl rfl rfl (by decide +kernel) ⟨Nat.le_of_ble_eq_true rfl, Nat.le_of_ble_eq_true rfl⟩) (ct_pre hP hD hK hS hA hZ [0, 1, 2, 3] [0] rfl (by decide) rfl) rfl rfl hl.1 rfl (lv_room (Nat.le_of_ble_eq_true rfl)) dL_law_1510 ⟨Nat.le_of_ble_eq_true rfl, Nat.le_of_ble_eq_true rfl⟩) hP hD hK hS hA [0, 1, 2, 3] [4] [] rfl rfl (by decide) (by decide) rfl (fun r_6 u H locs w_7 hP hD hK hS => ?_)
  obtain ⟨o_5, rfl⟩ : ∃ z, z = u := ⟨_, rfl⟩
  try dsimp only at w_7
  have hP : va_P (dC, dI) vwCl [(mo, .inr (12, [.int 0, .ref m1, .int 0, .ref m3, .ref m4, .ref m5, .ref m6, .ref m7, .ref m8, .ref m9, .int 0, .ref m11, .ref m12, .ref m13, .ref m14, .ref m15, .ref m16, .ref m17, .ref m18, .ref m19, .int 0, .int 0, .int 0, .int 0, .ref m24, .int 0, .ref m26, .int 0, .ref m28, .ref m29, .ref m30, .ref m31, .ref m32, .ref m33, .ref m34, .ref m35, .ref m36, .int 0, .int 0, .int 0, .int 0, .int 0, .int (-1), .int 0, .ref m44, .ref m45, .ref m46, .ref m47, .ref m48, .int 0, .ref m50, .ref m51, .ref m52, .ref m53, .ref m54, .int 0, .int 0])), (ao, .inl (cL, 1, .inr (.inl o_5)))] H := hP
  have hD : va_D A [(mo, .inr (12, [.int 0, .ref m1, .int 0, .ref m3, .ref m4, .ref m5, .ref m6, .ref m7, .ref m8, .ref m9, .int 0, .ref m11, .ref m12, .ref m13, .ref m14, .ref m15, .ref m16, .ref m17, .ref m18, .ref m19, .int 0, .int 0, .int 0, .int 0, .ref m24, .int 0, .ref m26, .int 0, .ref m28, .ref m29, .ref m30, .ref m31, .ref m32, .ref m33, .ref m34, .ref m35, .ref m36, .int 0, .int 0, .int 0, .int 0, .int 0, .int (-1), .int 0, .ref m44, .ref m45, .ref m46, .ref m47, .ref m48, .int 0, .ref m50, .ref m51, .ref m52, .ref m53, .ref m54, .int 0, .int 0])), (ao, .inl (cL, 1, .inr (.inl o_5)))] := hD
  have hK : va_K (dC, dI) vwCl [(cL, .long)] s := hK
  refine W.widen (k := 1002) (n := 200012) (Nat.le_of_ble_eq_true rfl) (Nat.le_of_ble_eq_true rfl) ?_
  rcases w_7 with ⟨rfl, h_8⟩ | ⟨rfl, h_8⟩
  · skip
    refine lv_istore (lv' := [(5, .int 1), (4, .int 0), (3, .ref ao), (2, .ref mo), (1, .ref h), (0, .ref b)]) hx hb dL_law_1513 hl (by decide) rfl (fun ls hl => ?_)
    refine lv_aload_n hx hb dL_law_1515 rfl (lv_at hl 3 rfl) ?_
    refine lv_aload_n hx hb dL_law_1516 rfl (lv_at hl 5 rfl) ?_
    refine lv_iload hx hb dL_law_1517 (lv_at hl 1 rfl) ?_
    refine lv_iconst (v := 1) hx hb dL_law_1519 (by decide) ?_
    refine lv_iadd hx hb dL_law_1520 ?_
    refine lv_topi (fun z_9 ez_9 => ?_)
    obtain rfl : z_9 = 1 := ez_9.trans (by decide)
    refine va_sld hx hb hX hbl hbA hS (by unfold vp_in; decide) dL_law_1521 ?_
    refine lv_topi (fun z_10 ez_10 => ?_)
    obtain rfl : z_10 = xs 1 := ez_10.trans (congrArg xs (by decide))
    refine lv_aload_n hx hb dL_law_1522 rfl (lv_at hl 5 rfl) ?_
    refine lv_iload hx hb dL_law_1523 (lv_at hl 1 rfl) ?_
    refine lv_iconst (v := 2) hx hb dL_law_1525 (by decide) ?_
    refine lv_iadd hx hb dL_law_1526 ?_
    refine lv_topi (fun z_11 ez_11 => ?_)
    obtain rfl : z_11 = 2 := ez_11.trans (by decide)
    refine va_sld hx hb hX hbl hbA hS (by unfold vp_in; decide) dL_law_1527 ?_
    refine lv_topi (fun z_12 ez_12 => ?_)
    obtain rfl : z_12 = xs 2 := ez_12.trans (congrArg xs (by decide))
    refine ct_i (wr := [(ao, .inl (cL, 1, .inr (.inl o_5)))]) (tyr := [(cL, .long)]) (va_runV (As := [.int (xs 1), .int (xs 2)]) (rest := []) ⟨hx, hb, hml, hown, hts⟩ (m_solution l hl0 dC dI mo m1 m3 m4 m5 m6 m7 m8 m9 m11 m12 m13 m14 m15 m16 m17 m18 m19 m24 m26 m28 m29 m30 m31 m32 m33 m34 m35 m36 m44 m45 m46 m47 m48 m50 m51 m52 m53 m54 (xs 1) (xs 2) H.size ) (cwV 2 hts gL_law_X12_solution rfl rfl rfl (by decide +kernel) ⟨Nat.le_of_ble_eq_true rfl, Nat.le_of_ble_eq_true rfl⟩) (ct_preV (ci := 12) (q0 := 0) hP hD hK hS hA hZ rfl rfl [0] [] rfl (by decide) rfl) rfl rfl hl.1 rfl (lv_room (Nat.le_of_ble_eq_true rfl)) dL_law_1528 ⟨Nat.le_of_ble_eq_true rfl, Nat.le_of_ble_eq_true rfl⟩) hP hD hK hS hA [0] [1] [0] rfl rfl (by decide) (by decide) rfl (fun r_14 u H locs w_15 hP hD hK hS => ?_)
    obtain ⟨o_13, rfl⟩ : ∃ z, z = u := ⟨_, rfl⟩
    try dsimp only at w_15
    have hP : va_P (dC, dI) vwCl [(ao, .inl (cL, 1, .inr (.inl o_5))), (mo, .inr (12, [.int o_13, .ref m1, .int 0, .ref m3, .ref m4, .ref m5, .ref m6, .ref m7, .ref m8, .ref m9, .int 0, .ref m11, .ref m12, .ref m13, .ref m14, .ref m15, .ref m16, .ref m17, .ref m18, .ref m19, .int 0, .int 0, .int 0, .int 0, .ref m24, .int 0, .ref m26, .int 0, .ref m28, .ref m29, .ref m30, .ref m31, .ref m32, .ref m33, .ref m34, .ref m35, .ref m36, .int 0, .int 0, .int 0, .int 0, .int 0, .int (-1), .int 0, .ref m44, .ref m45, .ref m46, .ref m47, .ref m48, .int 0, .ref m50, .ref m51, .ref m52, .ref m53, .ref m54, .int 0, .int 0]))] H := hP
    have hD : va_D A [(ao, .inl (cL, 1, .inr (.inl o_5))), (mo, .inr (12, [.int o_13, .ref m1, .int 0, .ref m3, .ref m4, .ref m5, .ref m6, .ref m7, .ref m8, .ref m9, .int 0, .ref m11, .ref m12, .ref m13, .ref m14, .ref m15, .ref m16, .ref m17, .ref m18, .ref m19, .int 0, .int 0, .int 0, .int 0, .ref m24, .int 0, .ref m26, .int 0, .ref m28, .ref m29, .ref m30, .ref m31, .ref m32, .ref m33, .ref m34, .ref m35, .ref m36, .int 0, .int 0, .int 0, .int 0, .int 0, .int (-1), .int 0, .ref m44, .ref m45, .ref m46, .ref m47, .ref m48, .int 0, .ref m50, .ref m51, .ref m52, .ref m53, .ref m54, .int 0, .int 0]))] := hD
    have hK : va_K (dC, dI) vwCl [(cL, .long)] s := hK
    rcases w_15 with ⟨rfl, q_16⟩ | ⟨rfl, q_16⟩
    · skip
      refine lv_istore (lv' := [(6, .int r_14), (5, .int 1), (4, .int 0), (3, .ref ao), (2, .ref mo), (1, .ref h), (0, .ref b)]) hx hb dL_law_1531 hl (by decide) rfl (fun ls hl => ?_)
      refine lv_aload_n hx hb dL_law_1533 rfl (lv_at hl 4 rfl) ?_
      refine ct_i (wr := [(ao, .inl (cL, 1, .inr (.inl o_5)))]) (tyr := [(cL, .long)]) (va_runV (As := []) (rest := []) ⟨hx, hb, hml, hown, hts⟩ (m_thrown l hl0 dC dI mo m1 m3 m4 m5 m6 m7 m8 m9 m11 m12 m13 m14 m15 m16 m17 m18 m19 m24 m26 m28 m29 m30 m31 m32 m33 m34 m35 m36 m44 m45 m46 m47 m48 m50 m51 m52 m53 m54 1 0 0 0 0 0 0 (-1) 0 H.size ) (cwV 0 hts gL_law_X12_thrown rfl rfl rfl (by decide +kernel) ⟨Nat.le_of_ble_eq_true rfl, Nat.le_of_ble_eq_true rfl⟩) (ct_preV (ci := 12) (q0 := 1) hP hD hK hS hA hZ rfl rfl [1] [] rfl (by decide) rfl) rfl rfl hl.1 rfl (lv_room (Nat.le_of_ble_eq_true rfl)) dL_law_1534 ⟨Nat.le_of_ble_eq_true rfl, Nat.le_of_ble_eq_true rfl⟩) hP hD hK hS hA [1] [0] [0] rfl rfl (by decide) (by decide) rfl (fun r_17 u H locs w_18 hP hD hK hS => ?_)
      try dsimp only at w_18
      have hP : va_P (dC, dI) vwCl [(ao, .inl (cL, 1, .inr (.inl o_5)))] H := hP
      have hD : va_D A [(ao, .inl (cL, 1, .inr (.inl o_5)))] := hD
      have hK : va_K (dC, dI) vwCl [(cL, .long)] s := hK
      obtain rfl : r_17 = 1 := w_18
      refine lv_iload hx hb dL_law_1537 (lv_at hl 1 rfl) ?_
      refine lv_icmp_eq (tgt := 1544) hx hb dL_law_1539 (by decide) (fun _ => ?_) (fun c_19 => absurd c_19 (by decide))
      refine lv_iload hx hb dL_law_1544 (lv_at hl 1 rfl) ?_
      refine lv_if_ne (tgt := 1561) hx hb dL_law_1546 (by decide) (fun _ => ?_) (fun c_20 => absurd c_20 (by decide))
      refine lv_goto (tgt := 1620) hx hb dL_law_1561 (by decide) ?_
      refine W.widen (k := 2000) (n := 300000) (Nat.le_of_ble_eq_true rfl) (Nat.le_of_ble_eq_true rfl) ?_
      exact K _ _ _ hS (lv_sub hl [2, 6] rfl)
    · skip
      exact absurd h_8 q_16
  · skip
    refine lv_istore (lv' := [(5, .int 2), (4, .int 0), (3, .ref ao), (2, .ref mo), (1, .ref h), (0, .ref b)]) hx hb dL_law_1513 hl (by decide) rfl (fun ls hl => ?_)
    refine lv_aload_n hx hb dL_law_1515 rfl (lv_at hl 3 rfl) ?_
    refine lv_aload_n hx hb dL_law_1516 rfl (lv_at hl 5 rfl) ?_
    refine lv_iload hx hb dL_law_1517 (lv_at hl 1 rfl) ?_
    refine lv_iconst (v := 1) hx hb dL_law_1519 (by decide) ?_
    refine lv_iadd hx hb dL_law_1520 ?_
    refine lv_topi (fun z_21 ez_21 => ?_)
    obtain rfl : z_21 = 1 := ez_21.trans (by decide)
    refine va_sld hx hb hX hbl hbA hS (by unfold vp_in; decide) dL_law_1521 ?_
    refine lv_topi (fun z_22 ez_22 => ?_)
    obtain rfl : z_22 = xs 1 := ez_22.trans (congrArg xs (by decide))
    refine lv_aload_n hx hb dL_law_1522 rfl (lv_at hl 5 rfl) ?_
    refine lv_iload hx hb dL_law_1523 (lv_at hl 1 rfl) ?_
    refine lv_iconst (v := 2) hx hb dL_law_1525 (by decide) ?_
    refine lv_iadd hx hb dL_law_1526 ?_
    refine lv_topi (fun z_23 ez_23 => ?_)
    obtain rfl : z_23 = 2 := ez_23.trans (by decide)
    refine va_sld hx hb hX hbl hbA hS (by unfold vp_in; decide) dL_law_1527 ?_
    refine lv_topi (fun z_24 ez_24 => ?_)
    obtain rfl : z_24 = xs 2 := ez_24.trans (congrArg xs (by decide))
    refine ct_i (wr := [(ao, .inl (cL, 1, .inr (.inl o_5)))]) (tyr := [(cL, .long)]) (va_runV (As := [.int (xs 1), .int (xs 2)]) (rest := []) ⟨hx, hb, hml, hown, hts⟩ (m_solution l hl0 dC dI mo m1 m3 m4 m5 m6 m7 m8 m9 m11 m12 m13 m14 m15 m16 m17 m18 m19 m24 m26 m28 m29 m30 m31 m32 m33 m34 m35 m36 m44 m45 m46 m47 m48 m50 m51 m52 m53 m54 (xs 1) (xs 2) H.size ) (cwV 2 hts gL_law_X12_solution rfl rfl rfl (by decide +kernel) ⟨Nat.le_of_ble_eq_true rfl, Nat.le_of_ble_eq_true rfl⟩) (ct_preV (ci := 12) (q0 := 0) hP hD hK hS hA hZ rfl rfl [0] [] rfl (by decide) rfl) rfl rfl hl.1 rfl (lv_room (Nat.le_of_ble_eq_true rfl)) dL_law_1528 ⟨Nat.le_of_ble_eq_true rfl, Nat.le_of_ble_eq_true rfl⟩) hP hD hK hS hA [0] [1] [0] rfl rfl (by decide) (by decide) rfl (fun r_26 u H locs w_27 hP hD hK hS => ?_)
    obtain ⟨o_25, rfl⟩ : ∃ z, z = u := ⟨_, rfl⟩
    try dsimp only at w_27
    have hP : va_P (dC, dI) vwCl [(ao, .inl (cL, 1, .inr (.inl o_5))), (mo, .inr (12, [.int o_25, .ref m1, .int 0, .ref m3, .ref m4, .ref m5, .ref m6, .ref m7, .ref m8, .ref m9, .int 0, .ref m11, .ref m12, .ref m13, .ref m14, .ref m15, .ref m16, .ref m17, .ref m18, .ref m19, .int 0, .int 0, .int 0, .int 0, .ref m24, .int 0, .ref m26, .int 0, .ref m28, .ref m29, .ref m30, .ref m31, .ref m32, .ref m33, .ref m34, .ref m35, .ref m36, .int 0, .int 0, .int 0, .int 0, .int 0, .int (-1), .int 0, .ref m44, .ref m45, .ref m46, .ref m47, .ref m48, .int 0, .ref m50, .ref m51, .ref m52, .ref m53, .ref m54, .int 0, .int 0]))] H := hP
    have hD : va_D A [(ao, .inl (cL, 1, .inr (.inl o_5))), (mo, .inr (12, [.int o_25, .ref m1, .int 0, .ref m3, .ref m4, .ref m5, .ref m6, .ref m7, .ref m8, .ref m9, .int 0, .ref m11, .ref m12, .ref m13, .ref m14, .ref m15, .ref m16, .ref m17, .ref m18, .ref m19, .int 0, .int 0, .int 0, .int 0, .ref m24, .int 0, .ref m26, .int 0, .ref m28, .ref m29, .ref m30, .ref m31, .ref m32, .ref m33, .ref m34, .ref m35, .ref m36, .int 0, .int 0, .int 0, .int 0, .int 0, .int (-1), .int 0, .ref m44, .ref m45, .ref m46, .ref m47, .ref m48, .int 0, .ref m50, .ref m51, .ref m52, .ref m53, .ref m54, .int 0, .int 0]))] := hD
    have hK : va_K (dC, dI) vwCl [(cL, .long)] s := hK
    rcases w_27 with ⟨rfl, q_28⟩ | ⟨rfl, q_28⟩
    · skip
      exact absurd q_28 h_8
    · skip
      refine lv_istore (lv' := [(6, .int r_26), (5, .int 2), (4, .int 0), (3, .ref ao), (2, .ref mo), (1, .ref h), (0, .ref b)]) hx hb dL_law_1531 hl (by decide) rfl (fun ls hl => ?_)
      refine lv_aload_n hx hb dL_law_1533 rfl (lv_at hl 4 rfl) ?_
      refine ct_i (wr := [(ao, .inl (cL, 1, .inr (.inl o_5)))]) (tyr := [(cL, .long)]) (va_runV (As := []) (rest := []) ⟨hx, hb, hml, hown, hts⟩ (m_thrown l hl0 dC dI mo m1 m3 m4 m5 m6 m7 m8 m9 m11 m12 m13 m14 m15 m16 m17 m18 m19 m24 m26 m28 m29 m30 m31 m32 m33 m34 m35 m36 m44 m45 m46 m47 m48 m50 m51 m52 m53 m54 2 0 0 0 0 0 0 (-1) 0 H.size ) (cwV 0 hts gL_law_X12_thrown rfl rfl rfl (by decide +kernel) ⟨Nat.le_of_ble_eq_true rfl, Nat.le_of_ble_eq_true rfl⟩) (ct_preV (ci := 12) (q0 := 1) hP hD hK hS hA hZ rfl rfl [1] [] rfl (by decide) rfl) rfl rfl hl.1 rfl (lv_room (Nat.le_of_ble_eq_true rfl)) dL_law_1534 ⟨Nat.le_of_ble_eq_true rfl, Nat.le_of_ble_eq_true rfl⟩) hP hD hK hS hA [1] [0] [0] rfl rfl (by decide) (by decide) rfl (fun r_29 u H locs w_30 hP hD hK hS => ?_)
      try dsimp only at w_30
      have hP : va_P (dC, dI) vwCl [(ao, .inl (cL, 1, .inr (.inl o_5)))] H := hP
      have hD : va_D A [(ao, .inl (cL, 1, .inr (.inl o_5)))] := hD
      have hK : va_K (dC, dI) vwCl [(cL, .long)] s := hK
      obtain rfl : r_29 = 2 := w_30
      refine lv_iload hx hb dL_law_1537 (lv_at hl 1 rfl) ?_
      refine lv_icmp_eq (tgt := 1544) hx hb dL_law_1539 (by decide) (fun _ => ?_) (fun c_31 => absurd c_31 (by decide))
      refine lv_iload hx hb dL_law_1544 (lv_at hl 1 rfl) ?_
      refine lv_if_ne (tgt := 1561) hx hb dL_law_1546 (by decide) (fun _ => ?_) (fun c_32 => absurd c_32 (by decide))
      refine lv_goto (tgt := 1620) hx hb dL_law_1561 (by decide) ?_
      refine W.widen (k := 2000) (n := 300000) (Nat.le_of_ble_eq_true rfl) (Nat.le_of_ble_eq_true rfl) ?_
      exact K _ _ _ hS (lv_sub hl [2, 6] rfl)
