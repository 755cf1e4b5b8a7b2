set_option maxHeartbeats 4000000 in
set_option maxRecDepth 100000 in
/-- feed of the law -/
theorem L_feed (l : Launch) (hl : l.stackTraces = false) (D : va_G) (cA : Nat → ClassId) {o ao N : Nat} {a : AS} {f : Nat → Int64} {a1 : Int32} {a2 : Int32} {a3 : Int32} {a4 : Int32} {a5 : Int32} {x : HS} (hk : KZ o (N + 1) a x) (hW : AVW a) : HY l yL_feed wsL_feed 7 115 D cA ao f [.q (some o), .i a1, .i a2, .i a3, .i a4, .i a5, .q (some ao)] x (fun r f2 u => HQ (OK_feed a a1 a2 a3 a4 a5) r f2 ∧ KZ o N (nx_feed a a1 a2 a3 a4 a5) u) := by
  refine HY.of (cc := cL_feed) (maxL := 8) (hh := [(0, 16, 19, 13)]) (by decide) rfl rfl (fun p e s m args below meth c A ls hx hb hml hown hts hr hlk htb hP hD hK hA hZ hl9 hAe => ?_)
  have hlv : lv_has ls 8 [(0, .ref o), (1, .int a1), (2, .int a2), (3, .int a3), (4, .int a4), (5, .int a5), (6, .ref ao)] := hl9
  have hown : s.vm.findClass RL = some m.cls := hown
  obtain ⟨ho1, ho2⟩ := KZ_o hk
  refine lv_aload hx hb dL_feed_0 (lv_at hlv 6 rfl) ?_
  refine lv_iconst (v := 0) hx hb dL_feed_2 (by decide) ?_
  refine lv_aload_n hx hb dL_feed_3 rfl (lv_at hlv 0 rfl) ?_
  refine lv_iload_n hx hb dL_feed_4 rfl (lv_at hlv 1 rfl) ?_
  refine lv_iload_n hx hb dL_feed_5 rfl (lv_at hlv 2 rfl) ?_
  refine lv_iload_n hx hb dL_feed_6 rfl (lv_at hlv 3 rfl) ?_
  refine lv_iload hx hb dL_feed_7 (lv_at hlv 4 rfl) ?_
  refine lv_iload hx hb dL_feed_9 (lv_at hlv 5 rfl) ?_
  refine h_run (x := x) (rest := [.int 0, .ref ao]) (vy_runV (C := RX11) (b := o) (As := [.int a1, .int a2, .int a3, .int a4, .int a5]) (rest := [.int 0, .ref ao]) (n := 5) ⟨hx, hb, hml, hown, hts⟩ (T_X11_feed l hl D cA (kz_feed hk hW a1 a2 a3 a4 a5) s.heap.size) (cwV 5 hts gL_feed_X11_feed rfl rfl rfl (by decide +kernel) ⟨Nat.le_of_ble_eq_true rfl, Nat.le_of_ble_eq_true rfl⟩) (hg_recv hK (sp_cons.mp hP).2 (sd_cons.mp hD).2.1 va_S.rf hA hZ ho1 ho2 (by decide) rfl) rfl rfl hlv.1 rfl (lv_room (Nat.le_of_ble_eq_true rfl)) dL_feed_11 ⟨Nat.le_of_eq (Nat.zero_add _), Nat.le_of_eq (Nat.zero_add _)⟩) hP hD va_S.rf hA (fun mc ms E u ce q9 H1 locs1 hE hc hz hP1 hD1 hS1 hce hcv hcl => ?_) (fun mc ms r u H1 locs1 hQ9 hc hz hP1 hD1 hS1 => ?_)
  · obtain ⟨hE0, hE⟩ := hE
    obtain ⟨rfl, hok⟩ := hE0
    refine vx_catch (own := RL) (name := eIB) (pc := 11) hown [] ⟨0, 16, 19, 13⟩ [] htb (fun z hz => absurd hz (List.not_mem_nil)) (by decide) (by decide) (hts (.classLink RL 13 "java/lang/IndexOutOfBoundsException") (by decide +kernel)) (va_Nw.use rfl hZ.2.2.2.1.2.2.2.1) hce hcv hcl ?_
    refine W.eq (g2 := F0 m 19 ls [.ref q9]) rfl ?_
    refine lv_astore (lv' := [(7, .ref q9), (0, .ref o), (1, .int a1), (2, .int a2), (3, .int a3), (4, .int a4), (5, .int a5), (6, .ref ao)]) hx hb dL_feed_19 hlv (by decide) rfl (fun ls hl => ?_)
    refine lv_iconst (v := 1) hx hb dL_feed_21 (by decide) ?_
    exact h_iret hx hb hr hlk hAe ⟨Or.inr ⟨by decide, hok⟩, hE⟩ (by omega) (by omega) hP1 hD1 hK hS1 dL_feed_22
  · refine h_out hx hb hK hP1 hD1 hS1 dL_feed_14 rfl dL_feed_15 (fun H2 locs2 hP2 hD2 hS2 => ?_)
    refine lv_goto (tgt := 23) hx hb dL_feed_16 (by decide) ?_
    refine lv_iconst (v := 0) hx hb dL_feed_23 (by decide) ?_
    exact h_iret hx hb hr hlk hAe ⟨Or.inl ⟨rfl, r, if_pos rfl, hQ9.1⟩, hQ9.2⟩ (by omega) (by omega) hP2 hD2 hK hS2 dL_feed_24

set_option maxHeartbeats 4000000 in
set_option maxRecDepth 100000 in
/-- index of the law -/
theorem L_index (l : Launch) (hl : l.stackTraces = false) (D : va_G) (cA : Nat → ClassId) {o ao N : Nat} {a : AS} {f : Nat → Int64} {a1 : Int32} {a2 : Int32} {x : HS} (hk : KZ o (N + 1) a x) (hW : AVW a) : HY l yL_index wsL_index 8 135 D cA ao f [.q (some o), .i a1, .i a2, .q (some ao)] x (fun r f2 u => HQ (OK_index a a1 a2) r f2 ∧ KZ o N (nx_index a a1 a2) u) := by
  refine HY.of (cc := cL_index) (maxL := 5) (hh := [(0, 10, 13, 33), (0, 10, 17, 19)]) (by decide) rfl rfl (fun p e s m args below meth c A ls hx hb hml hown hts hr hlk htb hP hD hK hA hZ hl9 hAe => ?_)
  have hlv : lv_has ls 5 [(0, .ref o), (1, .int a1), (2, .int a2), (3, .ref ao)] := hl9
  have hown : s.vm.findClass RL = some m.cls := hown
  obtain ⟨ho1, ho2⟩ := KZ_o hk
  refine lv_aload_n hx hb dL_index_0 rfl (lv_at hlv 3 rfl) ?_
  refine lv_iconst (v := 0) hx hb dL_index_1 (by decide) ?_
  refine lv_aload_n hx hb dL_index_2 rfl (lv_at hlv 0 rfl) ?_
  refine lv_iload_n hx hb dL_index_3 rfl (lv_at hlv 1 rfl) ?_
  refine lv_iload_n hx hb dL_index_4 rfl (lv_at hlv 2 rfl) ?_
  refine h_run (x := x) (rest := [.int 0, .ref ao]) (vy_runV (C := RX11) (b := o) (As := [.int a1, .int a2]) (rest := [.int 0, .ref ao]) (n := 2) ⟨hx, hb, hml, hown, hts⟩ (T_X11_index l hl D cA (kz_index hk hW a1 a2) s.heap.size) (cwV 2 hts gL_index_X11_index rfl rfl rfl (by decide +kernel) ⟨Nat.le_of_ble_eq_true rfl, Nat.le_of_ble_eq_true rfl⟩) (hg_recv hK (sp_cons.mp hP).2 (sd_cons.mp hD).2.1 va_S.rf hA hZ ho1 ho2 (by decide) rfl) rfl rfl hlv.1 rfl (lv_room (Nat.le_of_ble_eq_true rfl)) dL_index_5 ⟨Nat.le_of_eq (Nat.zero_add _), Nat.le_of_eq (Nat.zero_add _)⟩) hP hD va_S.rf hA (fun mc ms E u ce q9 H1 locs1 hE hc hz hP1 hD1 hS1 hce hcv hcl => ?_) (fun mc ms r u H1 locs1 hQ9 hc hz hP1 hD1 hS1 => ?_)
  · obtain ⟨hE0, hE⟩ := hE
    rcases hE0 with ⟨rfl, hok⟩ | ⟨rfl, hok⟩
    · skip
      refine vx_catch (own := RL) (name := eIA) (pc := 5) hown [⟨0, 10, 13, 33⟩] ⟨0, 10, 17, 19⟩ [] htb (fun z hz => by
        simp only [List.mem_cons, List.not_mem_nil, or_false] at hz
        rcases hz with rfl
        · exact Or.inr ⟨(by decide), eNE, hts (.classLink RL 33 "java/util/NoSuchElementException") (by decide +kernel), hZ.2.2.2.2.2.1.2.2.2.1⟩) (by decide) (by decide) (hts (.classLink RL 19 "java/lang/IllegalArgumentException") (by decide +kernel)) (va_Nw.use rfl hZ.2.2.2.1.1) hce hcv hcl ?_
      refine W.eq (g2 := F0 m 17 ls [.ref q9]) rfl ?_
      refine lv_astore (lv' := [(4, .ref q9), (0, .ref o), (1, .int a1), (2, .int a2), (3, .ref ao)]) hx hb dL_index_17 hlv (by decide) rfl (fun ls hl => ?_)
      refine lv_iconst (v := 2) hx hb dL_index_19 (by decide) ?_
      exact h_iret hx hb hr hlk hAe ⟨Or.inr ⟨by decide, hok⟩, hE⟩ (by omega) (by omega) hP1 hD1 hK hS1 dL_index_20
    · skip
      refine vx_catch (own := RL) (name := eNE) (pc := 5) hown [] ⟨0, 10, 13, 33⟩ [⟨0, 10, 17, 19⟩] htb (fun z hz => absurd hz (List.not_mem_nil)) (by decide) (by decide) (hts (.classLink RL 33 "java/util/NoSuchElementException") (by decide +kernel)) (va_Nw.use rfl hZ.2.2.2.1.2.1) hce hcv hcl ?_
      refine W.eq (g2 := F0 m 13 ls [.ref q9]) rfl ?_
      refine lv_astore (lv' := [(4, .ref q9), (0, .ref o), (1, .int a1), (2, .int a2), (3, .ref ao)]) hx hb dL_index_13 hlv (by decide) rfl (fun ls hl => ?_)
      refine lv_iconst (v := 1) hx hb dL_index_15 (by decide) ?_
      exact h_iret hx hb hr hlk hAe ⟨Or.inr ⟨by decide, hok⟩, hE⟩ (by omega) (by omega) hP1 hD1 hK hS1 dL_index_16
  · refine h_out hx hb hK hP1 hD1 hS1 dL_index_8 rfl dL_index_9 (fun H2 locs2 hP2 hD2 hS2 => ?_)
    refine lv_goto (tgt := 21) hx hb dL_index_10 (by decide) ?_
    refine lv_iconst (v := 0) hx hb dL_index_21 (by decide) ?_
    exact h_iret hx hb hr hlk hAe ⟨Or.inl ⟨rfl, r, if_pos rfl, hQ9.1⟩, hQ9.2⟩ (by omega) (by omega) hP2 hD2 hK hS2 dL_index_22

set_option maxHeartbeats 4000000 in
set_option maxRecDepth 100000 in
/-- find of the law -/
theorem L_find (l : Launch) (hl : l.stackTraces = false) (D : va_G) (cA : Nat → ClassId) {o ao N : Nat} {a : AS} {f : Nat → Int64} {a1 : Int32} {a2 : Int32} {a3 : Int32} {x : HS} (hk : KZ o (N + 1) a x) (hW : AVW a) : HY l yL_find wsL_find 11 204 D cA ao f [.q (some o), .i a1, .i a2, .i a3, .q (some ao)] x (fun r f2 u => HQ (OK_find a a1 a2 a3) r f2 ∧ KZ o N (nx_find a a1 a2 a3) u) := by
  refine HY.of (cc := cL_find) (maxL := 6) (hh := [(0, 12, 15, 19), (0, 12, 19, 33)]) (by decide) rfl rfl (fun p e s m args below meth c A ls hx hb hml hown hts hr hlk htb hP hD hK hA hZ hl9 hAe => ?_)
  have hlv : lv_has ls 6 [(0, .ref o), (1, .int a1), (2, .int a2), (3, .int a3), (4, .ref ao)] := hl9
  have hown : s.vm.findClass RL = some m.cls := hown
  obtain ⟨ho1, ho2⟩ := KZ_o hk
  refine lv_aload hx hb dL_find_0 (lv_at hlv 4 rfl) ?_
  refine lv_iconst (v := 0) hx hb dL_find_2 (by decide) ?_
  refine lv_aload_n hx hb dL_find_3 rfl (lv_at hlv 0 rfl) ?_
  refine lv_iload_n hx hb dL_find_4 rfl (lv_at hlv 1 rfl) ?_
  refine lv_iload_n hx hb dL_find_5 rfl (lv_at hlv 2 rfl) ?_
  refine lv_iload_n hx hb dL_find_6 rfl (lv_at hlv 3 rfl) ?_
  refine h_run (x := x) (rest := [.int 0, .ref ao]) (vy_runV (C := RX11) (b := o) (As := [.int a1, .int a2, .int a3]) (rest := [.int 0, .ref ao]) (n := 3) ⟨hx, hb, hml, hown, hts⟩ (T_X11_find l hl D cA (kz_find hk hW a1 a2 a3) s.heap.size) (cwV 3 hts gL_find_X11_find rfl rfl rfl (by decide +kernel) ⟨Nat.le_of_ble_eq_true rfl, Nat.le_of_ble_eq_true rfl⟩) (hg_recv hK (sp_cons.mp hP).2 (sd_cons.mp hD).2.1 va_S.rf hA hZ ho1 ho2 (by decide) rfl) rfl rfl hlv.1 rfl (lv_room (Nat.le_of_ble_eq_true rfl)) dL_find_7 ⟨Nat.le_of_eq (Nat.zero_add _), Nat.le_of_eq (Nat.zero_add _)⟩) hP hD va_S.rf hA (fun mc ms E u ce q9 H1 locs1 hE hc hz hP1 hD1 hS1 hce hcv hcl => ?_) (fun mc ms r u H1 locs1 hQ9 hc hz hP1 hD1 hS1 => ?_)
  · obtain ⟨hE0, hE⟩ := hE
    rcases hE0 with ⟨rfl, hok⟩ | ⟨rfl, hok⟩
    · skip
      refine vx_catch (own := RL) (name := eIA) (pc := 7) hown [] ⟨0, 12, 15, 19⟩ [⟨0, 12, 19, 33⟩] htb (fun z hz => absurd hz (List.not_mem_nil)) (by decide) (by decide) (hts (.classLink RL 19 "java/lang/IllegalArgumentException") (by decide +kernel)) (va_Nw.use rfl hZ.2.2.2.1.1) hce hcv hcl ?_
      refine W.eq (g2 := F0 m 15 ls [.ref q9]) rfl ?_
      refine lv_astore (lv' := [(5, .ref q9), (0, .ref o), (1, .int a1), (2, .int a2), (3, .int a3), (4, .ref ao)]) hx hb dL_find_15 hlv (by decide) rfl (fun ls hl => ?_)
      refine lv_iconst (v := 1) hx hb dL_find_17 (by decide) ?_
      exact h_iret hx hb hr hlk hAe ⟨Or.inr ⟨by decide, hok⟩, hE⟩ (by omega) (by omega) hP1 hD1 hK hS1 dL_find_18
    · skip
      refine vx_catch (own := RL) (name := eNE) (pc := 7) hown [⟨0, 12, 15, 19⟩] ⟨0, 12, 19, 33⟩ [] htb (fun z hz => by
        simp only [List.mem_cons, List.not_mem_nil, or_false] at hz
        rcases hz with rfl
        · exact Or.inr ⟨(by decide), eIA, hts (.classLink RL 19 "java/lang/IllegalArgumentException") (by decide +kernel), hZ.2.2.2.2.2.1.1⟩) (by decide) (by decide) (hts (.classLink RL 33 "java/util/NoSuchElementException") (by decide +kernel)) (va_Nw.use rfl hZ.2.2.2.1.2.1) hce hcv hcl ?_
      refine W.eq (g2 := F0 m 19 ls [.ref q9]) rfl ?_
      refine lv_astore (lv' := [(5, .ref q9), (0, .ref o), (1, .int a1), (2, .int a2), (3, .int a3), (4, .ref ao)]) hx hb dL_find_19 hlv (by decide) rfl (fun ls hl => ?_)
      refine lv_iconst (v := 2) hx hb dL_find_21 (by decide) ?_
      exact h_iret hx hb hr hlk hAe ⟨Or.inr ⟨by decide, hok⟩, hE⟩ (by omega) (by omega) hP1 hD1 hK hS1 dL_find_22
  · refine h_out hx hb hK hP1 hD1 hS1 dL_find_10 rfl dL_find_11 (fun H2 locs2 hP2 hD2 hS2 => ?_)
    refine lv_goto (tgt := 23) hx hb dL_find_12 (by decide) ?_
    refine lv_iconst (v := 0) hx hb dL_find_23 (by decide) ?_
    exact h_iret hx hb hr hlk hAe ⟨Or.inl ⟨rfl, r, if_pos rfl, hQ9.1⟩, hQ9.2⟩ (by omega) (by omega) hP2 hD2 hK hS2 dL_find_24

set_option maxHeartbeats 4000000 in
set_option maxRecDepth 100000 in
/-- close of the law -/
theorem L_close (l : Launch) (hl : l.stackTraces = false) (D : va_G) (cA : Nat → ClassId) {o ao N : Nat} {a : AS} {f : Nat → Int64} {a1 : Int32} {x : HS} (hk : KZ o (N + 1) a x) (hW : AVW a) : HY l yL_close wsL_close 9 154 D cA ao f [.q (some o), .i a1, .q (some ao)] x (fun r f2 u => HQ (OK_close a a1) r f2 ∧ KZ o N (nx_close a a1) u) := by
  refine HY.of (cc := cL_close) (maxL := 4) (hh := [(0, 9, 12, 19), (0, 9, 15, 33)]) (by decide) rfl rfl (fun p e s m args below meth c A ls hx hb hml hown hts hr hlk htb hP hD hK hA hZ hl9 hAe => ?_)
  have hlv : lv_has ls 4 [(0, .ref o), (1, .int a1), (2, .ref ao)] := hl9
  have hown : s.vm.findClass RL = some m.cls := hown
  obtain ⟨ho1, ho2⟩ := KZ_o hk
  refine lv_aload_n hx hb dL_close_0 rfl (lv_at hlv 2 rfl) ?_
  refine lv_iconst (v := 0) hx hb dL_close_1 (by decide) ?_
  refine lv_aload_n hx hb dL_close_2 rfl (lv_at hlv 0 rfl) ?_
  refine lv_iload_n hx hb dL_close_3 rfl (lv_at hlv 1 rfl) ?_
  refine h_run (x := x) (rest := [.int 0, .ref ao]) (vy_runV (C := RX11) (b := o) (As := [.int a1]) (rest := [.int 0, .ref ao]) (n := 1) ⟨hx, hb, hml, hown, hts⟩ (T_X11_close l hl D cA (kz_close hk hW a1) s.heap.size) (cwV 1 hts gL_close_X11_close rfl rfl rfl (by decide +kernel) ⟨Nat.le_of_ble_eq_true rfl, Nat.le_of_ble_eq_true rfl⟩) (hg_recv hK (sp_cons.mp hP).2 (sd_cons.mp hD).2.1 va_S.rf hA hZ ho1 ho2 (by decide) rfl) rfl rfl hlv.1 rfl (lv_room (Nat.le_of_ble_eq_true rfl)) dL_close_4 ⟨Nat.le_of_eq (Nat.zero_add _), Nat.le_of_eq (Nat.zero_add _)⟩) hP hD va_S.rf hA (fun mc ms E u ce q9 H1 locs1 hE hc hz hP1 hD1 hS1 hce hcv hcl => ?_) (fun mc ms r u H1 locs1 hQ9 hc hz hP1 hD1 hS1 => ?_)
  · obtain ⟨hE0, hE⟩ := hE
    rcases hE0 with ⟨rfl, hok⟩ | ⟨rfl, hok⟩
    · skip
      refine vx_catch (own := RL) (name := eIA) (pc := 4) hown [] ⟨0, 9, 12, 19⟩ [⟨0, 9, 15, 33⟩] htb (fun z hz => absurd hz (List.not_mem_nil)) (by decide) (by decide) (hts (.classLink RL 19 "java/lang/IllegalArgumentException") (by decide +kernel)) (va_Nw.use rfl hZ.2.2.2.1.1) hce hcv hcl ?_
      refine W.eq (g2 := F0 m 12 ls [.ref q9]) rfl ?_
      refine lv_astore_n (lv' := [(3, .ref q9), (0, .ref o), (1, .int a1), (2, .ref ao)]) hx hb dL_close_12 rfl hlv (by decide) rfl (fun ls hl => ?_)
      refine lv_iconst (v := 1) hx hb dL_close_13 (by decide) ?_
      exact h_iret hx hb hr hlk hAe ⟨Or.inr ⟨by decide, hok⟩, hE⟩ (by omega) (by omega) hP1 hD1 hK hS1 dL_close_14
    · skip
      refine vx_catch (own := RL) (name := eNE) (pc := 4) hown [⟨0, 9, 12, 19⟩] ⟨0, 9, 15, 33⟩ [] htb (fun z hz => by
        simp only [List.mem_cons, List.not_mem_nil, or_false] at hz
        rcases hz with rfl
        · exact Or.inr ⟨(by decide), eIA, hts (.classLink RL 19 "java/lang/IllegalArgumentException") (by decide +kernel), hZ.2.2.2.2.2.1.1⟩) (by decide) (by decide) (hts (.classLink RL 33 "java/util/NoSuchElementException") (by decide +kernel)) (va_Nw.use rfl hZ.2.2.2.1.2.1) hce hcv hcl ?_
      refine W.eq (g2 := F0 m 15 ls [.ref q9]) rfl ?_
      refine lv_astore_n (lv' := [(3, .ref q9), (0, .ref o), (1, .int a1), (2, .ref ao)]) hx hb dL_close_15 rfl hlv (by decide) rfl (fun ls hl => ?_)
      refine lv_iconst (v := 2) hx hb dL_close_16 (by decide) ?_
      exact h_iret hx hb hr hlk hAe ⟨Or.inr ⟨by decide, hok⟩, hE⟩ (by omega) (by omega) hP1 hD1 hK hS1 dL_close_17
  · refine h_out hx hb hK hP1 hD1 hS1 dL_close_7 rfl dL_close_8 (fun H2 locs2 hP2 hD2 hS2 => ?_)
    refine lv_goto (tgt := 18) hx hb dL_close_9 (by decide) ?_
    refine lv_iconst (v := 0) hx hb dL_close_18 (by decide) ?_
    exact h_iret hx hb hr hlk hAe ⟨Or.inl ⟨rfl, r, if_pos rfl, hQ9.1⟩, hQ9.2⟩ (by omega) (by omega) hP2 hD2 hK hS2 dL_close_19

set_option maxHeartbeats 4000000 in
set_option maxRecDepth 100000 in
/-- purge of the law -/
theorem L_purge (l : Launch) (hl : l.stackTraces = false) (D : va_G) (cA : Nat → ClassId) {o ao N : Nat} {a : AS} {f : Nat → Int64} {a1 : Int32} {x : HS} (hk : KZ o (N + 1) a x) (hW : AVW a) : HY l yL_purge wsL_purge 9 156 D cA ao f [.q (some o), .i a1, .q (some ao)] x (fun r f2 u => HQ (OK_purge a a1) r f2 ∧ KZ o N (nx_purge a a1) u) := by
  refine HY.of (cc := cL_purge) (maxL := 4) (hh := [(0, 9, 12, 19), (0, 9, 15, 28)]) (by decide) rfl rfl (fun p e s m args below meth c A ls hx hb hml hown hts hr hlk htb hP hD hK hA hZ hl9 hAe => ?_)
  have hlv : lv_has ls 4 [(0, .ref o), (1, .int a1), (2, .ref ao)] := hl9
  have hown : s.vm.findClass RL = some m.cls := hown
  obtain ⟨ho1, ho2⟩ := KZ_o hk
  refine lv_aload_n hx hb dL_purge_0 rfl (lv_at hlv 2 rfl) ?_
  refine lv_iconst (v := 0) hx hb dL_purge_1 (by decide) ?_
  refine lv_aload_n hx hb dL_purge_2 rfl (lv_at hlv 0 rfl) ?_
  refine lv_iload_n hx hb dL_purge_3 rfl (lv_at hlv 1 rfl) ?_
  refine h_run (x := x) (rest := [.int 0, .ref ao]) (vy_runV (C := RX11) (b := o) (As := [.int a1]) (rest := [.int 0, .ref ao]) (n := 1) ⟨hx, hb, hml, hown, hts⟩ (T_X11_purge l hl D cA (kz_purge hk hW a1) s.heap.size) (cwV 1 hts gL_purge_X11_purge rfl rfl rfl (by decide +kernel) ⟨Nat.le_of_ble_eq_true rfl, Nat.le_of_ble_eq_true rfl⟩) (hg_recv hK (sp_cons.mp hP).2 (sd_cons.mp hD).2.1 va_S.rf hA hZ ho1 ho2 (by decide) rfl) rfl rfl hlv.1 rfl (lv_room (Nat.le_of_ble_eq_true rfl)) dL_purge_4 ⟨Nat.le_of_eq (Nat.zero_add _), Nat.le_of_eq (Nat.zero_add _)⟩) hP hD va_S.rf hA (fun mc ms E u ce q9 H1 locs1 hE hc hz hP1 hD1 hS1 hce hcv hcl => ?_) (fun mc ms r u H1 locs1 hQ9 hc hz hP1 hD1 hS1 => ?_)
  · obtain ⟨hE0, hE⟩ := hE
    rcases hE0 with ⟨rfl, hok⟩ | ⟨rfl, hok⟩
    · skip
      refine vx_catch (own := RL) (name := eIA) (pc := 4) hown [] ⟨0, 9, 12, 19⟩ [⟨0, 9, 15, 28⟩] htb (fun z hz => absurd hz (List.not_mem_nil)) (by decide) (by decide) (hts (.classLink RL 19 "java/lang/IllegalArgumentException") (by decide +kernel)) (va_Nw.use rfl hZ.2.2.2.1.1) hce hcv hcl ?_
      refine W.eq (g2 := F0 m 12 ls [.ref q9]) rfl ?_
      refine lv_astore_n (lv' := [(3, .ref q9), (0, .ref o), (1, .int a1), (2, .ref ao)]) hx hb dL_purge_12 rfl hlv (by decide) rfl (fun ls hl => ?_)
      refine lv_iconst (v := 1) hx hb dL_purge_13 (by decide) ?_
      exact h_iret hx hb hr hlk hAe ⟨Or.inr ⟨by decide, hok⟩, hE⟩ (by omega) (by omega) hP1 hD1 hK hS1 dL_purge_14
    · skip
      refine vx_catch (own := RL) (name := eIS) (pc := 4) hown [⟨0, 9, 12, 19⟩] ⟨0, 9, 15, 28⟩ [] htb (fun z hz => by
        simp only [List.mem_cons, List.not_mem_nil, or_false] at hz
        rcases hz with rfl
        · exact Or.inr ⟨(by decide), eIA, hts (.classLink RL 19 "java/lang/IllegalArgumentException") (by decide +kernel), hZ.2.2.2.2.2.1.2.2.2.2.2.1⟩) (by decide) (by decide) (hts (.classLink RL 28 "java/lang/IllegalStateException") (by decide +kernel)) (va_Nw.use rfl hZ.2.2.2.1.2.2.1) hce hcv hcl ?_
      refine W.eq (g2 := F0 m 15 ls [.ref q9]) rfl ?_
      refine lv_astore_n (lv' := [(3, .ref q9), (0, .ref o), (1, .int a1), (2, .ref ao)]) hx hb dL_purge_15 rfl hlv (by decide) rfl (fun ls hl => ?_)
      refine lv_iconst (v := 2) hx hb dL_purge_16 (by decide) ?_
      exact h_iret hx hb hr hlk hAe ⟨Or.inr ⟨by decide, hok⟩, hE⟩ (by omega) (by omega) hP1 hD1 hK hS1 dL_purge_17
  · refine h_out hx hb hK hP1 hD1 hS1 dL_purge_7 rfl dL_purge_8 (fun H2 locs2 hP2 hD2 hS2 => ?_)
    refine lv_goto (tgt := 18) hx hb dL_purge_9 (by decide) ?_
    refine lv_iconst (v := 0) hx hb dL_purge_18 (by decide) ?_
    exact h_iret hx hb hr hlk hAe ⟨Or.inl ⟨rfl, r, if_pos rfl, hQ9.1⟩, hQ9.2⟩ (by omega) (by omega) hP2 hD2 hK hS2 dL_purge_19

set_option maxHeartbeats 4000000 in
set_option maxRecDepth 100000 in
/-- solution of the law -/
theorem L_solution (l : Launch) (hl : l.stackTraces = false) (D : va_G) (cA : Nat → ClassId) {o ao N : Nat} {a : AS} {f : Nat → Int64} {a1 : Int32} {a2 : Int32} {x : HS} (hk : KZ o (N + 1) a x) (hW : AVW a) : HY l yL_solution wsL_solution 8 135 D cA ao f [.q (some o), .i a1, .i a2, .q (some ao)] x (fun r f2 u => HQ (OK_solution a a1 a2) r f2 ∧ KZ o N (nx_solution a a1 a2) u) := by
  refine HY.of (cc := cL_solution) (maxL := 5) (hh := [(0, 10, 13, 19), (0, 10, 17, 13)]) (by decide) rfl rfl (fun p e s m args below meth c A ls hx hb hml hown hts hr hlk htb hP hD hK hA hZ hl9 hAe => ?_)
  have hlv : lv_has ls 5 [(0, .ref o), (1, .int a1), (2, .int a2), (3, .ref ao)] := hl9
  have hown : s.vm.findClass RL = some m.cls := hown
  obtain ⟨ho1, ho2⟩ := KZ_o hk
  refine lv_aload_n hx hb dL_solution_0 rfl (lv_at hlv 3 rfl) ?_
  refine lv_iconst (v := 0) hx hb dL_solution_1 (by decide) ?_
  refine lv_aload_n hx hb dL_solution_2 rfl (lv_at hlv 0 rfl) ?_
  refine lv_iload_n hx hb dL_solution_3 rfl (lv_at hlv 1 rfl) ?_
  refine lv_iload_n hx hb dL_solution_4 rfl (lv_at hlv 2 rfl) ?_
  refine h_run (x := x) (rest := [.int 0, .ref ao]) (vy_runV (C := RX11) (b := o) (As := [.int a1, .int a2]) (rest := [.int 0, .ref ao]) (n := 2) ⟨hx, hb, hml, hown, hts⟩ (T_X11_solution l hl D cA (kz_solution hk hW a1 a2) s.heap.size) (cwV 2 hts gL_solution_X11_solution rfl rfl rfl (by decide +kernel) ⟨Nat.le_of_ble_eq_true rfl, Nat.le_of_ble_eq_true rfl⟩) (hg_recv hK (sp_cons.mp hP).2 (sd_cons.mp hD).2.1 va_S.rf hA hZ ho1 ho2 (by decide) rfl) rfl rfl hlv.1 rfl (lv_room (Nat.le_of_ble_eq_true rfl)) dL_solution_5 ⟨Nat.le_of_eq (Nat.zero_add _), Nat.le_of_eq (Nat.zero_add _)⟩) hP hD va_S.rf hA (fun mc ms E u ce q9 H1 locs1 hE hc hz hP1 hD1 hS1 hce hcv hcl => ?_) (fun mc ms r u H1 locs1 hQ9 hc hz hP1 hD1 hS1 => ?_)
  · obtain ⟨hE0, hE⟩ := hE
    rcases hE0 with ⟨rfl, hok⟩ | ⟨rfl, hok⟩
    · skip
      refine vx_catch (own := RL) (name := eIA) (pc := 5) hown [] ⟨0, 10, 13, 19⟩ [⟨0, 10, 17, 13⟩] htb (fun z hz => absurd hz (List.not_mem_nil)) (by decide) (by decide) (hts (.classLink RL 19 "java/lang/IllegalArgumentException") (by decide +kernel)) (va_Nw.use rfl hZ.2.2.2.1.1) hce hcv hcl ?_
      refine W.eq (g2 := F0 m 13 ls [.ref q9]) rfl ?_
      refine lv_astore (lv' := [(4, .ref q9), (0, .ref o), (1, .int a1), (2, .int a2), (3, .ref ao)]) hx hb dL_solution_13 hlv (by decide) rfl (fun ls hl => ?_)
      refine lv_iconst (v := 1) hx hb dL_solution_15 (by decide) ?_
      exact h_iret hx hb hr hlk hAe ⟨Or.inr ⟨by decide, hok⟩, hE⟩ (by omega) (by omega) hP1 hD1 hK hS1 dL_solution_16
    · skip
      refine vx_catch (own := RL) (name := eIB) (pc := 5) hown [⟨0, 10, 13, 19⟩] ⟨0, 10, 17, 13⟩ [] htb (fun z hz => by
        simp only [List.mem_cons, List.not_mem_nil, or_false] at hz
        rcases hz with rfl
        · exact Or.inr ⟨(by decide), eIA, hts (.classLink RL 19 "java/lang/IllegalArgumentException") (by decide +kernel), hZ.2.2.2.2.2.1.2.2.1⟩) (by decide) (by decide) (hts (.classLink RL 13 "java/lang/IndexOutOfBoundsException") (by decide +kernel)) (va_Nw.use rfl hZ.2.2.2.1.2.2.2.1) hce hcv hcl ?_
      refine W.eq (g2 := F0 m 17 ls [.ref q9]) rfl ?_
      refine lv_astore (lv' := [(4, .ref q9), (0, .ref o), (1, .int a1), (2, .int a2), (3, .ref ao)]) hx hb dL_solution_17 hlv (by decide) rfl (fun ls hl => ?_)
      refine lv_iconst (v := 2) hx hb dL_solution_19 (by decide) ?_
      exact h_iret hx hb hr hlk hAe ⟨Or.inr ⟨by decide, hok⟩, hE⟩ (by omega) (by omega) hP1 hD1 hK hS1 dL_solution_20
  · refine h_out hx hb hK hP1 hD1 hS1 dL_solution_8 rfl dL_solution_9 (fun H2 locs2 hP2 hD2 hS2 => ?_)
    refine lv_goto (tgt := 21) hx hb dL_solution_10 (by decide) ?_
    refine lv_iconst (v := 0) hx hb dL_solution_21 (by decide) ?_
    exact h_iret hx hb hr hlk hAe ⟨Or.inl ⟨rfl, r, if_pos rfl, hQ9.1⟩, hQ9.2⟩ (by omega) (by omega) hP2 hD2 hK hS2 dL_solution_22
