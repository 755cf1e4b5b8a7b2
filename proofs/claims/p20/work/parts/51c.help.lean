set_option maxHeartbeats 4000000 in
set_option maxRecDepth 100000 in
/-- value of the law -/
theorem L_value (l : Launch) (hl : l.stackTraces = false) (D : va_G) (cA : Nat → ClassId) {o ao N : Nat} {a : AS} {f : Nat → Int64} {a1 : Int32} {a2 : Int32} {x : HS} (hk : KZ o (N + 1) a x) (hW : AVW a) : HY l yL_value wsL_value 8 135 D cA ao f [.q (some o), .i a1, .i a2, .q (some ao)] x (fun r f2 u => HQ (OK_value a a1 a2) r f2 ∧ KZ o N (nx_value a a1 a2) u) := by
  refine HY.of (cc := cL_value) (maxL := 5) (hh := [(0, 10, 13, 19)]) (by decide) rfl rfl (fun p e s m args below meth c A ls hx hb hml hown hts hr hlk htb hP hD hK hA hZ hl9 hAe => ?_)
  have hlv : lv_has ls 5 [(0, .ref o), (1, .int a1), (2, .int a2), (3, .ref ao)] := hl9
  have hown : s.vm.findClass RL = some m.cls := hown
  obtain ⟨ho1, ho2⟩ := KZ_o hk
  refine lv_aload_n hx hb dL_value_0 rfl (lv_at hlv 3 rfl) ?_
  refine lv_iconst (v := 0) hx hb dL_value_1 (by decide) ?_
  refine lv_aload_n hx hb dL_value_2 rfl (lv_at hlv 0 rfl) ?_
  refine lv_iload_n hx hb dL_value_3 rfl (lv_at hlv 1 rfl) ?_
  refine lv_iload_n hx hb dL_value_4 rfl (lv_at hlv 2 rfl) ?_
  refine h_run (x := x) (rest := [.int 0, .ref ao]) (vy_runV (C := RX11) (b := o) (As := [.int a1, .int a2]) (rest := [.int 0, .ref ao]) (n := 2) ⟨hx, hb, hml, hown, hts⟩ (T_X11_value l hl D cA (kz_value hk hW a1 a2) s.heap.size) (cwV 2 hts gL_value_X11_value rfl rfl rfl (by decide +kernel) ⟨Nat.le_of_ble_eq_true rfl, Nat.le_of_ble_eq_true rfl⟩) (hg_recv hK (sp_cons.mp hP).2 (sd_cons.mp hD).2.1 va_S.rf hA hZ ho1 ho2 (by decide) rfl) rfl rfl hlv.1 rfl (lv_room (Nat.le_of_ble_eq_true rfl)) dL_value_5 ⟨Nat.le_of_eq (Nat.zero_add _), Nat.le_of_eq (Nat.zero_add _)⟩) hP hD va_S.rf hA (fun mc ms E u ce q9 H1 locs1 hE hc hz hP1 hD1 hS1 hce hcv hcl => ?_) (fun mc ms r u H1 locs1 hQ9 hc hz hP1 hD1 hS1 => ?_)
  · obtain ⟨hE0, hE⟩ := hE
    obtain ⟨rfl, hok⟩ := hE0
    refine vx_catch (own := RL) (name := eIA) (pc := 5) hown [] ⟨0, 10, 13, 19⟩ [] htb (fun z hz => absurd hz (List.not_mem_nil)) (by decide) (by decide) (hts (.classLink RL 19 "java/lang/IllegalArgumentException") (by decide +kernel)) (va_Nw.use rfl hZ.2.2.2.1.1) hce hcv hcl ?_
    refine W.eq (g2 := F0 m 13 ls [.ref q9]) rfl ?_
    refine lv_astore (lv' := [(4, .ref q9), (0, .ref o), (1, .int a1), (2, .int a2), (3, .ref ao)]) hx hb dL_value_13 hlv (by decide) rfl (fun ls hl => ?_)
    refine lv_iconst (v := 1) hx hb dL_value_15 (by decide) ?_
    exact h_iret hx hb hr hlk hAe ⟨Or.inr ⟨by decide, hok⟩, hE⟩ (by omega) (by omega) hP1 hD1 hK hS1 dL_value_16
  · refine h_out hx hb hK hP1 hD1 hS1 dL_value_8 rfl dL_value_9 (fun H2 locs2 hP2 hD2 hS2 => ?_)
    refine lv_goto (tgt := 17) hx hb dL_value_10 (by decide) ?_
    refine lv_iconst (v := 0) hx hb dL_value_17 (by decide) ?_
    exact h_iret hx hb hr hlk hAe ⟨Or.inl ⟨rfl, r, if_pos rfl, hQ9.1⟩, hQ9.2⟩ (by omega) (by omega) hP2 hD2 hK hS2 dL_value_18

set_option maxHeartbeats 4000000 in
set_option maxRecDepth 100000 in
/-- add of the law -/
theorem L_add (l : Launch) (hl : l.stackTraces = false) (D : va_G) (cA : Nat → ClassId) {o ao N : Nat} {a : AS} {f : Nat → Int64} {a1 : Int32} {a2 : Int32} {x : HS} (hk : KZ o (N + 1) a x) (hW : AVW a) : HY l yL_add wsL_add 8 136 D cA ao f [.q (some o), .i a1, .i a2, .q (some ao)] x (fun r f2 u => HQ (OK_add a a1 a2) r f2 ∧ KZ o N (nx_add a a1 a2) u) := by
  refine HY.of (cc := cL_add) (maxL := 5) (hh := [(0, 10, 13, 19), (0, 10, 17, 33), (0, 10, 21, 41), (0, 10, 25, 28)]) (by decide) rfl rfl (fun p e s m args below meth c A ls hx hb hml hown hts hr hlk htb hP hD hK hA hZ hl9 hAe => ?_)
  have hlv : lv_has ls 5 [(0, .ref o), (1, .int a1), (2, .int a2), (3, .ref ao)] := hl9
  have hown : s.vm.findClass RL = some m.cls := hown
  obtain ⟨ho1, ho2⟩ := KZ_o hk
  refine lv_aload_n hx hb dL_add_0 rfl (lv_at hlv 3 rfl) ?_
  refine lv_iconst (v := 0) hx hb dL_add_1 (by decide) ?_
  refine lv_aload_n hx hb dL_add_2 rfl (lv_at hlv 0 rfl) ?_
  refine lv_iload_n hx hb dL_add_3 rfl (lv_at hlv 1 rfl) ?_
  refine lv_iload_n hx hb dL_add_4 rfl (lv_at hlv 2 rfl) ?_
  refine h_run (x := x) (rest := [.int 0, .ref ao]) (vy_runV (C := RX11) (b := o) (As := [.int a1, .int a2]) (rest := [.int 0, .ref ao]) (n := 2) ⟨hx, hb, hml, hown, hts⟩ (T_X11_add l hl D cA (kz_add hk hW a1 a2) s.heap.size) (cwV 2 hts gL_add_X11_add rfl rfl rfl (by decide +kernel) ⟨Nat.le_of_ble_eq_true rfl, Nat.le_of_ble_eq_true rfl⟩) (hg_recv hK (sp_cons.mp hP).2 (sd_cons.mp hD).2.1 va_S.rf hA hZ ho1 ho2 (by decide) rfl) rfl rfl hlv.1 rfl (lv_room (Nat.le_of_ble_eq_true rfl)) dL_add_5 ⟨Nat.le_of_eq (Nat.zero_add _), Nat.le_of_eq (Nat.zero_add _)⟩) hP hD va_S.rf hA (fun mc ms E u ce q9 H1 locs1 hE hc hz hP1 hD1 hS1 hce hcv hcl => ?_) (fun mc ms r u H1 locs1 hQ9 hc hz hP1 hD1 hS1 => ?_)
  · obtain ⟨hE0, hE⟩ := hE
    rcases hE0 with ⟨rfl, hok⟩ | ⟨rfl, hok⟩ | ⟨rfl, hok⟩ | ⟨rfl, hok⟩
    · skip
      refine vx_catch (own := RL) (name := eIA) (pc := 5) hown [] ⟨0, 10, 13, 19⟩ [⟨0, 10, 17, 33⟩, ⟨0, 10, 21, 41⟩, ⟨0, 10, 25, 28⟩] htb (fun z hz => absurd hz (List.not_mem_nil)) (by decide) (by decide) (hts (.classLink RL 19 "java/lang/IllegalArgumentException") (by decide +kernel)) (va_Nw.use rfl hZ.2.2.2.1.1) hce hcv hcl ?_
      refine W.eq (g2 := F0 m 13 ls [.ref q9]) rfl ?_
      refine lv_astore (lv' := [(4, .ref q9), (0, .ref o), (1, .int a1), (2, .int a2), (3, .ref ao)]) hx hb dL_add_13 hlv (by decide) rfl (fun ls hl => ?_)
      refine lv_iconst (v := 1) hx hb dL_add_15 (by decide) ?_
      exact h_iret hx hb hr hlk hAe ⟨Or.inr ⟨by decide, hok⟩, hE⟩ (by omega) (by omega) hP1 hD1 hK hS1 dL_add_16
    · skip
      refine vx_catch (own := RL) (name := eNE) (pc := 5) hown [⟨0, 10, 13, 19⟩] ⟨0, 10, 17, 33⟩ [⟨0, 10, 21, 41⟩, ⟨0, 10, 25, 28⟩] htb (fun z hz => by
        simp only [List.mem_cons, List.not_mem_nil, or_false] at hz
        rcases hz with rfl
        · exact Or.inr ⟨(by decide), eIA, hts (.classLink RL 19 "java/lang/IllegalArgumentException") (by decide +kernel), hZ.2.2.2.2.2.1.1⟩) (by decide) (by decide) (hts (.classLink RL 33 "java/util/NoSuchElementException") (by decide +kernel)) (va_Nw.use rfl hZ.2.2.2.1.2.1) hce hcv hcl ?_
      refine W.eq (g2 := F0 m 17 ls [.ref q9]) rfl ?_
      refine lv_astore (lv' := [(4, .ref q9), (0, .ref o), (1, .int a1), (2, .int a2), (3, .ref ao)]) hx hb dL_add_17 hlv (by decide) rfl (fun ls hl => ?_)
      refine lv_iconst (v := 2) hx hb dL_add_19 (by decide) ?_
      exact h_iret hx hb hr hlk hAe ⟨Or.inr ⟨by decide, hok⟩, hE⟩ (by omega) (by omega) hP1 hD1 hK hS1 dL_add_20
    · skip
      refine vx_catch (own := RL) (name := eUO) (pc := 5) hown [⟨0, 10, 13, 19⟩, ⟨0, 10, 17, 33⟩] ⟨0, 10, 21, 41⟩ [⟨0, 10, 25, 28⟩] htb (fun z hz => by
        simp only [List.mem_cons, List.not_mem_nil, or_false] at hz
        rcases hz with rfl | rfl
        · exact Or.inr ⟨(by decide), eIA, hts (.classLink RL 19 "java/lang/IllegalArgumentException") (by decide +kernel), hZ.2.2.2.2.2.1.2.1⟩
        · exact Or.inr ⟨(by decide), eNE, hts (.classLink RL 33 "java/util/NoSuchElementException") (by decide +kernel), hZ.2.2.2.2.2.1.2.2.2.2.2.2.2.2.1⟩) (by decide) (by decide) (hts (.classLink RL 41 "java/lang/UnsupportedOperationException") (by decide +kernel)) (va_Nw.use rfl hZ.2.2.2.1.2.2.2.2.1) hce hcv hcl ?_
      refine W.eq (g2 := F0 m 21 ls [.ref q9]) rfl ?_
      refine lv_astore (lv' := [(4, .ref q9), (0, .ref o), (1, .int a1), (2, .int a2), (3, .ref ao)]) hx hb dL_add_21 hlv (by decide) rfl (fun ls hl => ?_)
      refine lv_iconst (v := 3) hx hb dL_add_23 (by decide) ?_
      exact h_iret hx hb hr hlk hAe ⟨Or.inr ⟨by decide, hok⟩, hE⟩ (by omega) (by omega) hP1 hD1 hK hS1 dL_add_24
    · skip
      refine vx_catch (own := RL) (name := eIS) (pc := 5) hown [⟨0, 10, 13, 19⟩, ⟨0, 10, 17, 33⟩, ⟨0, 10, 21, 41⟩] ⟨0, 10, 25, 28⟩ [] htb (fun z hz => by
        simp only [List.mem_cons, List.not_mem_nil, or_false] at hz
        rcases hz with rfl | rfl | rfl
        · exact Or.inr ⟨(by decide), eIA, hts (.classLink RL 19 "java/lang/IllegalArgumentException") (by decide +kernel), hZ.2.2.2.2.2.1.2.2.2.2.2.1⟩
        · exact Or.inr ⟨(by decide), eNE, hts (.classLink RL 33 "java/util/NoSuchElementException") (by decide +kernel), hZ.2.2.2.2.2.1.2.2.2.2.1⟩
        · exact Or.inr ⟨(by decide), eUO, hts (.classLink RL 41 "java/lang/UnsupportedOperationException") (by decide +kernel), hZ.2.2.2.2.2.1.2.2.2.2.2.2.2.2.2.1⟩) (by decide) (by decide) (hts (.classLink RL 28 "java/lang/IllegalStateException") (by decide +kernel)) (va_Nw.use rfl hZ.2.2.2.1.2.2.1) hce hcv hcl ?_
      refine W.eq (g2 := F0 m 25 ls [.ref q9]) rfl ?_
      refine lv_astore (lv' := [(4, .ref q9), (0, .ref o), (1, .int a1), (2, .int a2), (3, .ref ao)]) hx hb dL_add_25 hlv (by decide) rfl (fun ls hl => ?_)
      refine lv_iconst (v := 4) hx hb dL_add_27 (by decide) ?_
      exact h_iret hx hb hr hlk hAe ⟨Or.inr ⟨by decide, hok⟩, hE⟩ (by omega) (by omega) hP1 hD1 hK hS1 dL_add_28
  · refine h_out hx hb hK hP1 hD1 hS1 dL_add_8 rfl dL_add_9 (fun H2 locs2 hP2 hD2 hS2 => ?_)
    refine lv_goto (tgt := 29) hx hb dL_add_10 (by decide) ?_
    refine lv_iconst (v := 0) hx hb dL_add_29 (by decide) ?_
    exact h_iret hx hb hr hlk hAe ⟨Or.inl ⟨rfl, r, if_pos rfl, hQ9.1⟩, hQ9.2⟩ (by omega) (by omega) hP2 hD2 hK hS2 dL_add_30

set_option maxHeartbeats 4000000 in
set_option maxRecDepth 100000 in
/-- open of the law -/
theorem L_open (l : Launch) (hl : l.stackTraces = false) (D : va_G) (cA : Nat → ClassId) {o ao N : Nat} {a : AS} {f : Nat → Int64} {a1 : Int32} {a2 : Int32} {a3 : Int32} {x : HS} (hk : KZ o (N + 1) a x) (hW : AVW a) : HY l yL_open wsL_open 11 204 D cA ao f [.q (some o), .i a1, .i a2, .i a3, .q (some ao)] x (fun r f2 u => HQ (OK_open a a1 a2 a3) r f2 ∧ KZ o N (nx_open a a1 a2 a3) u) := by
  refine HY.of (cc := cL_open) (maxL := 6) (hh := [(0, 12, 15, 19), (0, 12, 19, 33), (0, 12, 23, 28)]) (by decide) rfl rfl (fun p e s m args below meth c A ls hx hb hml hown hts hr hlk htb hP hD hK hA hZ hl9 hAe => ?_)
  have hlv : lv_has ls 6 [(0, .ref o), (1, .int a1), (2, .int a2), (3, .int a3), (4, .ref ao)] := hl9
  have hown : s.vm.findClass RL = some m.cls := hown
  obtain ⟨ho1, ho2⟩ := KZ_o hk
  refine lv_aload hx hb dL_open_0 (lv_at hlv 4 rfl) ?_
  refine lv_iconst (v := 0) hx hb dL_open_2 (by decide) ?_
  refine lv_aload_n hx hb dL_open_3 rfl (lv_at hlv 0 rfl) ?_
  refine lv_iload_n hx hb dL_open_4 rfl (lv_at hlv 1 rfl) ?_
  refine lv_iload_n hx hb dL_open_5 rfl (lv_at hlv 2 rfl) ?_
  refine lv_iload_n hx hb dL_open_6 rfl (lv_at hlv 3 rfl) ?_
  refine h_run (x := x) (rest := [.int 0, .ref ao]) (vy_runV (C := RX11) (b := o) (As := [.int a1, .int a2, .int a3]) (rest := [.int 0, .ref ao]) (n := 3) ⟨hx, hb, hml, hown, hts⟩ (T_X11_open l hl D cA (kz_open hk hW a1 a2 a3) s.heap.size) (cwV 3 hts gL_open_X11_open rfl rfl rfl (by decide +kernel) ⟨Nat.le_of_ble_eq_true rfl, Nat.le_of_ble_eq_true rfl⟩) (hg_recv hK (sp_cons.mp hP).2 (sd_cons.mp hD).2.1 va_S.rf hA hZ ho1 ho2 (by decide) rfl) rfl rfl hlv.1 rfl (lv_room (Nat.le_of_ble_eq_true rfl)) dL_open_7 ⟨Nat.le_of_eq (Nat.zero_add _), Nat.le_of_eq (Nat.zero_add _)⟩) hP hD va_S.rf hA (fun mc ms E u ce q9 H1 locs1 hE hc hz hP1 hD1 hS1 hce hcv hcl => ?_) (fun mc ms r u H1 locs1 hQ9 hc hz hP1 hD1 hS1 => ?_)
  · obtain ⟨hE0, hE⟩ := hE
    rcases hE0 with ⟨rfl, hok⟩ | ⟨rfl, hok⟩ | ⟨rfl, hok⟩
    · skip
      refine vx_catch (own := RL) (name := eIA) (pc := 7) hown [] ⟨0, 12, 15, 19⟩ [⟨0, 12, 19, 33⟩, ⟨0, 12, 23, 28⟩] htb (fun z hz => absurd hz (List.not_mem_nil)) (by decide) (by decide) (hts (.classLink RL 19 "java/lang/IllegalArgumentException") (by decide +kernel)) (va_Nw.use rfl hZ.2.2.2.1.1) hce hcv hcl ?_
      refine W.eq (g2 := F0 m 15 ls [.ref q9]) rfl ?_
      refine lv_astore (lv' := [(5, .ref q9), (0, .ref o), (1, .int a1), (2, .int a2), (3, .int a3), (4, .ref ao)]) hx hb dL_open_15 hlv (by decide) rfl (fun ls hl => ?_)
      refine lv_iconst (v := 1) hx hb dL_open_17 (by decide) ?_
      exact h_iret hx hb hr hlk hAe ⟨Or.inr ⟨by decide, hok⟩, hE⟩ (by omega) (by omega) hP1 hD1 hK hS1 dL_open_18
    · skip
      refine vx_catch (own := RL) (name := eNE) (pc := 7) hown [⟨0, 12, 15, 19⟩] ⟨0, 12, 19, 33⟩ [⟨0, 12, 23, 28⟩] htb (fun z hz => by
        simp only [List.mem_cons, List.not_mem_nil, or_false] at hz
        rcases hz with rfl
        · exact Or.inr ⟨(by decide), eIA, hts (.classLink RL 19 "java/lang/IllegalArgumentException") (by decide +kernel), hZ.2.2.2.2.2.1.1⟩) (by decide) (by decide) (hts (.classLink RL 33 "java/util/NoSuchElementException") (by decide +kernel)) (va_Nw.use rfl hZ.2.2.2.1.2.1) hce hcv hcl ?_
      refine W.eq (g2 := F0 m 19 ls [.ref q9]) rfl ?_
      refine lv_astore (lv' := [(5, .ref q9), (0, .ref o), (1, .int a1), (2, .int a2), (3, .int a3), (4, .ref ao)]) hx hb dL_open_19 hlv (by decide) rfl (fun ls hl => ?_)
      refine lv_iconst (v := 2) hx hb dL_open_21 (by decide) ?_
      exact h_iret hx hb hr hlk hAe ⟨Or.inr ⟨by decide, hok⟩, hE⟩ (by omega) (by omega) hP1 hD1 hK hS1 dL_open_22
    · skip
      refine vx_catch (own := RL) (name := eIS) (pc := 7) hown [⟨0, 12, 15, 19⟩, ⟨0, 12, 19, 33⟩] ⟨0, 12, 23, 28⟩ [] htb (fun z hz => by
        simp only [List.mem_cons, List.not_mem_nil, or_false] at hz
        rcases hz with rfl | rfl
        · exact Or.inr ⟨(by decide), eIA, hts (.classLink RL 19 "java/lang/IllegalArgumentException") (by decide +kernel), hZ.2.2.2.2.2.1.2.2.2.2.2.1⟩
        · exact Or.inr ⟨(by decide), eNE, hts (.classLink RL 33 "java/util/NoSuchElementException") (by decide +kernel), hZ.2.2.2.2.2.1.2.2.2.2.1⟩) (by decide) (by decide) (hts (.classLink RL 28 "java/lang/IllegalStateException") (by decide +kernel)) (va_Nw.use rfl hZ.2.2.2.1.2.2.1) hce hcv hcl ?_
      refine W.eq (g2 := F0 m 23 ls [.ref q9]) rfl ?_
      refine lv_astore (lv' := [(5, .ref q9), (0, .ref o), (1, .int a1), (2, .int a2), (3, .int a3), (4, .ref ao)]) hx hb dL_open_23 hlv (by decide) rfl (fun ls hl => ?_)
      refine lv_iconst (v := 3) hx hb dL_open_25 (by decide) ?_
      exact h_iret hx hb hr hlk hAe ⟨Or.inr ⟨by decide, hok⟩, hE⟩ (by omega) (by omega) hP1 hD1 hK hS1 dL_open_26
  · refine h_out hx hb hK hP1 hD1 hS1 dL_open_10 rfl dL_open_11 (fun H2 locs2 hP2 hD2 hS2 => ?_)
    refine lv_goto (tgt := 27) hx hb dL_open_12 (by decide) ?_
    refine lv_iconst (v := 0) hx hb dL_open_27 (by decide) ?_
    exact h_iret hx hb hr hlk hAe ⟨Or.inl ⟨rfl, r, if_pos rfl, hQ9.1⟩, hQ9.2⟩ (by omega) (by omega) hP2 hD2 hK hS2 dL_open_28

set_option maxHeartbeats 4000000 in
set_option maxRecDepth 100000 in
/-- mark of the law -/
theorem L_mark (l : Launch) (hl : l.stackTraces = false) (D : va_G) (cA : Nat → ClassId) {o ao N : Nat} {a : AS} {f : Nat → Int64} {x : HS} (hk : KZ o (N + 1) a x) (hW : AVW a) : HY l yL_mark wsL_mark 7 110 D cA ao f [.q (some o), .q (some ao)] x (fun r f2 u => HQ (OK_mark a) r f2 ∧ KZ o N (nx_mark a) u) := by
  refine HY.of (cc := cL_mark) (maxL := 3) (hh := [(0, 8, 11, 28)]) (by decide) rfl rfl (fun p e s m args below meth c A ls hx hb hml hown hts hr hlk htb hP hD hK hA hZ hl9 hAe => ?_)
  have hlv : lv_has ls 3 [(0, .ref o), (1, .ref ao)] := hl9
  have hown : s.vm.findClass RL = some m.cls := hown
  obtain ⟨ho1, ho2⟩ := KZ_o hk
  refine lv_aload_n hx hb dL_mark_0 rfl (lv_at hlv 1 rfl) ?_
  refine lv_iconst (v := 0) hx hb dL_mark_1 (by decide) ?_
  refine lv_aload_n hx hb dL_mark_2 rfl (lv_at hlv 0 rfl) ?_
  refine h_run (x := x) (rest := [.int 0, .ref ao]) (vy_runV (C := RX11) (b := o) (As := []) (rest := [.int 0, .ref ao]) (n := 0) ⟨hx, hb, hml, hown, hts⟩ (T_X11_mark l hl D cA (kz_mark hk hW) s.heap.size) (cwV 0 hts gL_mark_X11_mark rfl rfl rfl (by decide +kernel) ⟨Nat.le_of_ble_eq_true rfl, Nat.le_of_ble_eq_true rfl⟩) (hg_recv hK (sp_cons.mp hP).2 (sd_cons.mp hD).2.1 va_S.rf hA hZ ho1 ho2 (by decide) rfl) rfl rfl hlv.1 rfl (lv_room (Nat.le_of_ble_eq_true rfl)) dL_mark_3 ⟨Nat.le_of_eq (Nat.zero_add _), Nat.le_of_eq (Nat.zero_add _)⟩) hP hD va_S.rf hA (fun mc ms E u ce q9 H1 locs1 hE hc hz hP1 hD1 hS1 hce hcv hcl => ?_) (fun mc ms r u H1 locs1 hQ9 hc hz hP1 hD1 hS1 => ?_)
  · obtain ⟨hE0, hE⟩ := hE
    obtain ⟨rfl, hok⟩ := hE0
    refine vx_catch (own := RL) (name := eIS) (pc := 3) hown [] ⟨0, 8, 11, 28⟩ [] htb (fun z hz => absurd hz (List.not_mem_nil)) (by decide) (by decide) (hts (.classLink RL 28 "java/lang/IllegalStateException") (by decide +kernel)) (va_Nw.use rfl hZ.2.2.2.1.2.2.1) hce hcv hcl ?_
    refine W.eq (g2 := F0 m 11 ls [.ref q9]) rfl ?_
    refine lv_astore_n (lv' := [(2, .ref q9), (0, .ref o), (1, .ref ao)]) hx hb dL_mark_11 rfl hlv (by decide) rfl (fun ls hl => ?_)
    refine lv_iconst (v := 1) hx hb dL_mark_12 (by decide) ?_
    exact h_iret hx hb hr hlk hAe ⟨Or.inr ⟨by decide, hok⟩, hE⟩ (by omega) (by omega) hP1 hD1 hK hS1 dL_mark_13
  · refine h_out hx hb hK hP1 hD1 hS1 dL_mark_6 rfl dL_mark_7 (fun H2 locs2 hP2 hD2 hS2 => ?_)
    refine lv_goto (tgt := 14) hx hb dL_mark_8 (by decide) ?_
    refine lv_iconst (v := 0) hx hb dL_mark_14 (by decide) ?_
    exact h_iret hx hb hr hlk hAe ⟨Or.inl ⟨rfl, r, if_pos rfl, hQ9.1⟩, hQ9.2⟩ (by omega) (by omega) hP2 hD2 hK hS2 dL_mark_15

set_option maxHeartbeats 4000000 in
set_option maxRecDepth 100000 in
/-- found of the law -/
theorem L_found (l : Launch) (hl : l.stackTraces = false) (D : va_G) (cA : Nat → ClassId) {o ao N : Nat} {a : AS} {f : Nat → Int64} {a1 : Int32} {x : HS} (hk : KZ o (N + 1) a x) (hW : AVW a) : HY l yL_found wsL_found 7 111 D cA ao f [.q (some o), .i a1, .q (some ao)] x (fun r f2 u => HQ (OK_found a a1) r f2 ∧ KZ o N (nx_found a a1) u) := by
  refine HY.of (cc := cL_found) (maxL := 4) (hh := [(0, 9, 12, 13)]) (by decide) rfl rfl (fun p e s m args below meth c A ls hx hb hml hown hts hr hlk htb hP hD hK hA hZ hl9 hAe => ?_)
  have hlv : lv_has ls 4 [(0, .ref o), (1, .int a1), (2, .ref ao)] := hl9
  have hown : s.vm.findClass RL = some m.cls := hown
  obtain ⟨ho1, ho2⟩ := KZ_o hk
  refine lv_aload_n hx hb dL_found_0 rfl (lv_at hlv 2 rfl) ?_
  refine lv_iconst (v := 0) hx hb dL_found_1 (by decide) ?_
  refine lv_aload_n hx hb dL_found_2 rfl (lv_at hlv 0 rfl) ?_
  refine lv_iload_n hx hb dL_found_3 rfl (lv_at hlv 1 rfl) ?_
  refine h_run (x := x) (rest := [.int 0, .ref ao]) (vy_runV (C := RX11) (b := o) (As := [.int a1]) (rest := [.int 0, .ref ao]) (n := 1) ⟨hx, hb, hml, hown, hts⟩ (T_X11_found l hl D cA (kz_found hk hW a1) s.heap.size) (cwV 1 hts gL_found_X11_found rfl rfl rfl (by decide +kernel) ⟨Nat.le_of_ble_eq_true rfl, Nat.le_of_ble_eq_true rfl⟩) (hg_recv hK (sp_cons.mp hP).2 (sd_cons.mp hD).2.1 va_S.rf hA hZ ho1 ho2 (by decide) rfl) rfl rfl hlv.1 rfl (lv_room (Nat.le_of_ble_eq_true rfl)) dL_found_4 ⟨Nat.le_of_eq (Nat.zero_add _), Nat.le_of_eq (Nat.zero_add _)⟩) hP hD va_S.rf hA (fun mc ms E u ce q9 H1 locs1 hE hc hz hP1 hD1 hS1 hce hcv hcl => ?_) (fun mc ms r u H1 locs1 hQ9 hc hz hP1 hD1 hS1 => ?_)
  · obtain ⟨hE0, hE⟩ := hE
    obtain ⟨rfl, hok⟩ := hE0
    refine vx_catch (own := RL) (name := eIB) (pc := 4) hown [] ⟨0, 9, 12, 13⟩ [] htb (fun z hz => absurd hz (List.not_mem_nil)) (by decide) (by decide) (hts (.classLink RL 13 "java/lang/IndexOutOfBoundsException") (by decide +kernel)) (va_Nw.use rfl hZ.2.2.2.1.2.2.2.1) hce hcv hcl ?_
    refine W.eq (g2 := F0 m 12 ls [.ref q9]) rfl ?_
    refine lv_astore_n (lv' := [(3, .ref q9), (0, .ref o), (1, .int a1), (2, .ref ao)]) hx hb dL_found_12 rfl hlv (by decide) rfl (fun ls hl => ?_)
    refine lv_iconst (v := 1) hx hb dL_found_13 (by decide) ?_
    exact h_iret hx hb hr hlk hAe ⟨Or.inr ⟨by decide, hok⟩, hE⟩ (by omega) (by omega) hP1 hD1 hK hS1 dL_found_14
  · refine h_out hx hb hK hP1 hD1 hS1 dL_found_7 rfl dL_found_8 (fun H2 locs2 hP2 hD2 hS2 => ?_)
    refine lv_goto (tgt := 15) hx hb dL_found_9 (by decide) ?_
    refine lv_iconst (v := 0) hx hb dL_found_15 (by decide) ?_
    exact h_iret hx hb hr hlk hAe ⟨Or.inl ⟨rfl, r, if_pos rfl, hQ9.1⟩, hQ9.2⟩ (by omega) (by omega) hP2 hD2 hK hS2 dL_found_16
