set_option maxHeartbeats 4000000 in
set_option maxRecDepth 100000 in
/-- table of the law -/
theorem L_table (l : Launch) (hl : l.stackTraces = false) (D : va_G) (cA : Nat → ClassId) {o ao N : Nat} {a : AS} {f : Nat → Int64} {a1 : Int32} {x : HS} (hk : KZ o (N + 1) a x) (hW : AVW a) : HY l yL_table wsL_table 8 134 D cA ao f [.q (some o), .i a1, .q (some ao)] x (fun r f2 u => HQ (OK_table a a1) r f2 ∧ KZ o N (nx_table a a1) u) := by
  refine HY.of (cc := cL_table) (maxL := 4) (hh := [(0, 9, 12, 19), (0, 9, 15, 28)]) (by decide) rfl rfl (fun p e s m args below meth c A ls hx hb hml hown hts hr hlk htb hP hD hK hA hZ hl9 hAe => ?_)
  have hlv : lv_has ls 4 [(0, .ref o), (1, .int a1), (2, .ref ao)] := hl9
  have hown : s.vm.findClass RL = some m.cls := hown
  obtain ⟨ho1, ho2⟩ := KZ_o hk
  refine lv_aload_n hx hb dL_table_0 rfl (lv_at hlv 2 rfl) ?_
  refine lv_iconst (v := 0) hx hb dL_table_1 (by decide) ?_
  refine lv_aload_n hx hb dL_table_2 rfl (lv_at hlv 0 rfl) ?_
  refine lv_iload_n hx hb dL_table_3 rfl (lv_at hlv 1 rfl) ?_
  refine h_run (x := x) (rest := [.int 0, .ref ao]) (vy_runV (C := RX11) (b := o) (As := [.int a1]) (rest := [.int 0, .ref ao]) (n := 1) ⟨hx, hb, hml, hown, hts⟩ (T_X11_table l hl D cA (kz_table hk hW a1) s.heap.size) (cwV 1 hts gL_table_X11_table rfl rfl rfl (by decide +kernel) ⟨Nat.le_of_ble_eq_true rfl, Nat.le_of_ble_eq_true rfl⟩) (hg_recv hK (sp_cons.mp hP).2 (sd_cons.mp hD).2.1 va_S.rf hA hZ ho1 ho2 (by decide) rfl) rfl rfl hlv.1 rfl (lv_room (Nat.le_of_ble_eq_true rfl)) dL_table_4 ⟨Nat.le_of_eq (Nat.zero_add _), Nat.le_of_eq (Nat.zero_add _)⟩) hP hD va_S.rf hA (fun mc ms E u ce q9 H1 locs1 hE hc hz hP1 hD1 hS1 hce hcv hcl => ?_) (fun mc ms r u H1 locs1 hQ9 hc hz hP1 hD1 hS1 => ?_)
  · obtain ⟨hE0, hE⟩ := hE
    rcases hE0 with ⟨rfl, hok⟩ | ⟨rfl, hok⟩
    · skip
      refine vx_catch (own := RL) (name := eIA) (pc := 4) hown [] ⟨0, 9, 12, 19⟩ [⟨0, 9, 15, 28⟩] htb (fun z hz => absurd hz (List.not_mem_nil)) (by decide) (by decide) (hts (.classLink RL 19 "java/lang/IllegalArgumentException") (by decide +kernel)) (va_Nw.use rfl hZ.2.2.2.1.1) hce hcv hcl ?_
      refine W.eq (g2 := F0 m 12 ls [.ref q9]) rfl ?_
      refine lv_astore_n (lv' := [(3, .ref q9), (0, .ref o), (1, .int a1), (2, .ref ao)]) hx hb dL_table_12 rfl hlv (by decide) rfl (fun ls hl => ?_)
      refine lv_iconst (v := 1) hx hb dL_table_13 (by decide) ?_
      exact h_iret hx hb hr hlk hAe ⟨Or.inr ⟨by decide, hok⟩, hE⟩ (by omega) (by omega) hP1 hD1 hK hS1 dL_table_14
    · skip
      refine vx_catch (own := RL) (name := eIS) (pc := 4) hown [⟨0, 9, 12, 19⟩] ⟨0, 9, 15, 28⟩ [] htb (fun z hz => by
        simp only [List.mem_cons, List.not_mem_nil, or_false] at hz
        rcases hz with rfl
        · exact Or.inr ⟨(by decide), eIA, hts (.classLink RL 19 "java/lang/IllegalArgumentException") (by decide +kernel), hZ.2.2.2.2.2.1.2.2.2.2.2.1⟩) (by decide) (by decide) (hts (.classLink RL 28 "java/lang/IllegalStateException") (by decide +kernel)) (va_Nw.use rfl hZ.2.2.2.1.2.2.1) hce hcv hcl ?_
      refine W.eq (g2 := F0 m 15 ls [.ref q9]) rfl ?_
      refine lv_astore_n (lv' := [(3, .ref q9), (0, .ref o), (1, .int a1), (2, .ref ao)]) hx hb dL_table_15 rfl hlv (by decide) rfl (fun ls hl => ?_)
      refine lv_iconst (v := 2) hx hb dL_table_16 (by decide) ?_
      exact h_iret hx hb hr hlk hAe ⟨Or.inr ⟨by decide, hok⟩, hE⟩ (by omega) (by omega) hP1 hD1 hK hS1 dL_table_17
  · refine h_out hx hb hK hP1 hD1 hS1 dL_table_7 rfl dL_table_8 (fun H2 locs2 hP2 hD2 hS2 => ?_)
    refine lv_goto (tgt := 18) hx hb dL_table_9 (by decide) ?_
    refine lv_iconst (v := 0) hx hb dL_table_18 (by decide) ?_
    exact h_iret hx hb hr hlk hAe ⟨Or.inl ⟨rfl, r, if_pos rfl, hQ9.1⟩, hQ9.2⟩ (by omega) (by omega) hP2 hD2 hK hS2 dL_table_19

set_option maxHeartbeats 4000000 in
set_option maxRecDepth 100000 in
/-- remove of the law -/
theorem L_remove (l : Launch) (hl : l.stackTraces = false) (D : va_G) (cA : Nat → ClassId) {o ao N : Nat} {a : AS} {f : Nat → Int64} {a1 : Int32} {a2 : Int32} {a3 : Int32} {x : HS} (hk : KZ o (N + 1) a x) (hW : AVW a) : HY l yL_remove wsL_remove 11 204 D cA ao f [.q (some o), .i a1, .i a2, .i a3, .q (some ao)] x (fun r f2 u => HQ (OK_remove a a1 a2 a3) r f2 ∧ KZ o N (nx_remove a a1 a2 a3) u) := by
  refine HY.of (cc := cL_remove) (maxL := 6) (hh := [(0, 12, 15, 19), (0, 12, 19, 33)]) (by decide) rfl rfl (fun p e s m args below meth c A ls hx hb hml hown hts hr hlk htb hP hD hK hA hZ hl9 hAe => ?_)
  have hlv : lv_has ls 6 [(0, .ref o), (1, .int a1), (2, .int a2), (3, .int a3), (4, .ref ao)] := hl9
  have hown : s.vm.findClass RL = some m.cls := hown
  obtain ⟨ho1, ho2⟩ := KZ_o hk
  refine lv_aload hx hb dL_remove_0 (lv_at hlv 4 rfl) ?_
  refine lv_iconst (v := 0) hx hb dL_remove_2 (by decide) ?_
  refine lv_aload_n hx hb dL_remove_3 rfl (lv_at hlv 0 rfl) ?_
  refine lv_iload_n hx hb dL_remove_4 rfl (lv_at hlv 1 rfl) ?_
  refine lv_iload_n hx hb dL_remove_5 rfl (lv_at hlv 2 rfl) ?_
  refine lv_iload_n hx hb dL_remove_6 rfl (lv_at hlv 3 rfl) ?_
  refine h_run (x := x) (rest := [.int 0, .ref ao]) (vy_runV (C := RX11) (b := o) (As := [.int a1, .int a2, .int a3]) (rest := [.int 0, .ref ao]) (n := 3) ⟨hx, hb, hml, hown, hts⟩ (T_X11_remove l hl D cA (kz_remove hk hW a1 a2 a3) s.heap.size) (cwV 3 hts gL_remove_X11_remove rfl rfl rfl (by decide +kernel) ⟨Nat.le_of_ble_eq_true rfl, Nat.le_of_ble_eq_true rfl⟩) (hg_recv hK (sp_cons.mp hP).2 (sd_cons.mp hD).2.1 va_S.rf hA hZ ho1 ho2 (by decide) rfl) rfl rfl hlv.1 rfl (lv_room (Nat.le_of_ble_eq_true rfl)) dL_remove_7 ⟨Nat.le_of_eq (Nat.zero_add _), Nat.le_of_eq (Nat.zero_add _)⟩) hP hD va_S.rf hA (fun mc ms E u ce q9 H1 locs1 hE hc hz hP1 hD1 hS1 hce hcv hcl => ?_) (fun mc ms r u H1 locs1 hQ9 hc hz hP1 hD1 hS1 => ?_)
  · obtain ⟨hE0, hE⟩ := hE
    rcases hE0 with ⟨rfl, hok⟩ | ⟨rfl, hok⟩
    · skip
      refine vx_catch (own := RL) (name := eIA) (pc := 7) hown [] ⟨0, 12, 15, 19⟩ [⟨0, 12, 19, 33⟩] htb (fun z hz => absurd hz (List.not_mem_nil)) (by decide) (by decide) (hts (.classLink RL 19 "java/lang/IllegalArgumentException") (by decide +kernel)) (va_Nw.use rfl hZ.2.2.2.1.1) hce hcv hcl ?_
      refine W.eq (g2 := F0 m 15 ls [.ref q9]) rfl ?_
      refine lv_astore (lv' := [(5, .ref q9), (0, .ref o), (1, .int a1), (2, .int a2), (3, .int a3), (4, .ref ao)]) hx hb dL_remove_15 hlv (by decide) rfl (fun ls hl => ?_)
      refine lv_iconst (v := 1) hx hb dL_remove_17 (by decide) ?_
      exact h_iret hx hb hr hlk hAe ⟨Or.inr ⟨by decide, hok⟩, hE⟩ (by omega) (by omega) hP1 hD1 hK hS1 dL_remove_18
    · skip
      refine vx_catch (own := RL) (name := eNE) (pc := 7) hown [⟨0, 12, 15, 19⟩] ⟨0, 12, 19, 33⟩ [] htb (fun z hz => by
        simp only [List.mem_cons, List.not_mem_nil, or_false] at hz
        rcases hz with rfl
        · exact Or.inr ⟨(by decide), eIA, hts (.classLink RL 19 "java/lang/IllegalArgumentException") (by decide +kernel), hZ.2.2.2.2.2.1.1⟩) (by decide) (by decide) (hts (.classLink RL 33 "java/util/NoSuchElementException") (by decide +kernel)) (va_Nw.use rfl hZ.2.2.2.1.2.1) hce hcv hcl ?_
      refine W.eq (g2 := F0 m 19 ls [.ref q9]) rfl ?_
      refine lv_astore (lv' := [(5, .ref q9), (0, .ref o), (1, .int a1), (2, .int a2), (3, .int a3), (4, .ref ao)]) hx hb dL_remove_19 hlv (by decide) rfl (fun ls hl => ?_)
      refine lv_iconst (v := 2) hx hb dL_remove_21 (by decide) ?_
      exact h_iret hx hb hr hlk hAe ⟨Or.inr ⟨by decide, hok⟩, hE⟩ (by omega) (by omega) hP1 hD1 hK hS1 dL_remove_22
  · refine h_out hx hb hK hP1 hD1 hS1 dL_remove_10 rfl dL_remove_11 (fun H2 locs2 hP2 hD2 hS2 => ?_)
    refine lv_goto (tgt := 23) hx hb dL_remove_12 (by decide) ?_
    refine lv_iconst (v := 0) hx hb dL_remove_23 (by decide) ?_
    exact h_iret hx hb hr hlk hAe ⟨Or.inl ⟨rfl, r, if_pos rfl, hQ9.1⟩, hQ9.2⟩ (by omega) (by omega) hP2 hD2 hK hS2 dL_remove_24

set_option maxHeartbeats 4000000 in
set_option maxRecDepth 100000 in
/-- next of the law -/
theorem L_next (l : Launch) (hl : l.stackTraces = false) (D : va_G) (cA : Nat → ClassId) {o ao N : Nat} {a : AS} {f : Nat → Int64} {a1 : Int32} {x : HS} (hk : KZ o (N + 1) a x) (hW : AVW a) : HY l yL_next wsL_next 9 155 D cA ao f [.q (some o), .i a1, .q (some ao)] x (fun r f2 u => HQ (OK_next a a1) r f2 ∧ KZ o N (nx_next a a1) u) := by
  refine HY.of (cc := cL_next) (maxL := 4) (hh := [(0, 9, 12, 19), (0, 9, 15, 33)]) (by decide) rfl rfl (fun p e s m args below meth c A ls hx hb hml hown hts hr hlk htb hP hD hK hA hZ hl9 hAe => ?_)
  have hlv : lv_has ls 4 [(0, .ref o), (1, .int a1), (2, .ref ao)] := hl9
  have hown : s.vm.findClass RL = some m.cls := hown
  obtain ⟨ho1, ho2⟩ := KZ_o hk
  refine lv_aload_n hx hb dL_next_0 rfl (lv_at hlv 2 rfl) ?_
  refine lv_iconst (v := 0) hx hb dL_next_1 (by decide) ?_
  refine lv_aload_n hx hb dL_next_2 rfl (lv_at hlv 0 rfl) ?_
  refine lv_iload_n hx hb dL_next_3 rfl (lv_at hlv 1 rfl) ?_
  refine h_run (x := x) (rest := [.int 0, .ref ao]) (vy_runV (C := RX11) (b := o) (As := [.int a1]) (rest := [.int 0, .ref ao]) (n := 1) ⟨hx, hb, hml, hown, hts⟩ (T_X11_next l hl D cA (kz_next hk hW a1) s.heap.size) (cwV 1 hts gL_next_X11_next rfl rfl rfl (by decide +kernel) ⟨Nat.le_of_ble_eq_true rfl, Nat.le_of_ble_eq_true rfl⟩) (hg_recv hK (sp_cons.mp hP).2 (sd_cons.mp hD).2.1 va_S.rf hA hZ ho1 ho2 (by decide) rfl) rfl rfl hlv.1 rfl (lv_room (Nat.le_of_ble_eq_true rfl)) dL_next_4 ⟨Nat.le_of_eq (Nat.zero_add _), Nat.le_of_eq (Nat.zero_add _)⟩) hP hD va_S.rf hA (fun mc ms E u ce q9 H1 locs1 hE hc hz hP1 hD1 hS1 hce hcv hcl => ?_) (fun mc ms r u H1 locs1 hQ9 hc hz hP1 hD1 hS1 => ?_)
  · obtain ⟨hE0, hE⟩ := hE
    rcases hE0 with ⟨rfl, hok⟩ | ⟨rfl, hok⟩
    · skip
      refine vx_catch (own := RL) (name := eIA) (pc := 4) hown [] ⟨0, 9, 12, 19⟩ [⟨0, 9, 15, 33⟩] htb (fun z hz => absurd hz (List.not_mem_nil)) (by decide) (by decide) (hts (.classLink RL 19 "java/lang/IllegalArgumentException") (by decide +kernel)) (va_Nw.use rfl hZ.2.2.2.1.1) hce hcv hcl ?_
      refine W.eq (g2 := F0 m 12 ls [.ref q9]) rfl ?_
      refine lv_astore_n (lv' := [(3, .ref q9), (0, .ref o), (1, .int a1), (2, .ref ao)]) hx hb dL_next_12 rfl hlv (by decide) rfl (fun ls hl => ?_)
      refine lv_iconst (v := 1) hx hb dL_next_13 (by decide) ?_
      exact h_iret hx hb hr hlk hAe ⟨Or.inr ⟨by decide, hok⟩, hE⟩ (by omega) (by omega) hP1 hD1 hK hS1 dL_next_14
    · skip
      refine vx_catch (own := RL) (name := eNE) (pc := 4) hown [⟨0, 9, 12, 19⟩] ⟨0, 9, 15, 33⟩ [] htb (fun z hz => by
        simp only [List.mem_cons, List.not_mem_nil, or_false] at hz
        rcases hz with rfl
        · exact Or.inr ⟨(by decide), eIA, hts (.classLink RL 19 "java/lang/IllegalArgumentException") (by decide +kernel), hZ.2.2.2.2.2.1.1⟩) (by decide) (by decide) (hts (.classLink RL 33 "java/util/NoSuchElementException") (by decide +kernel)) (va_Nw.use rfl hZ.2.2.2.1.2.1) hce hcv hcl ?_
      refine W.eq (g2 := F0 m 15 ls [.ref q9]) rfl ?_
      refine lv_astore_n (lv' := [(3, .ref q9), (0, .ref o), (1, .int a1), (2, .ref ao)]) hx hb dL_next_15 rfl hlv (by decide) rfl (fun ls hl => ?_)
      refine lv_iconst (v := 2) hx hb dL_next_16 (by decide) ?_
      exact h_iret hx hb hr hlk hAe ⟨Or.inr ⟨by decide, hok⟩, hE⟩ (by omega) (by omega) hP1 hD1 hK hS1 dL_next_17
  · refine h_out hx hb hK hP1 hD1 hS1 dL_next_7 rfl dL_next_8 (fun H2 locs2 hP2 hD2 hS2 => ?_)
    refine lv_goto (tgt := 18) hx hb dL_next_9 (by decide) ?_
    refine lv_iconst (v := 0) hx hb dL_next_18 (by decide) ?_
    exact h_iret hx hb hr hlk hAe ⟨Or.inl ⟨rfl, r, if_pos rfl, hQ9.1⟩, hQ9.2⟩ (by omega) (by omega) hP2 hD2 hK hS2 dL_next_19

set_option maxHeartbeats 4000000 in
set_option maxRecDepth 100000 in
/-- back of the law -/
theorem L_back (l : Launch) (hl : l.stackTraces = false) (D : va_G) (cA : Nat → ClassId) {o ao N : Nat} {a : AS} {f : Nat → Int64} {a1 : Int32} {x : HS} (hk : KZ o (N + 1) a x) (hW : AVW a) : HY l yL_back wsL_back 7 151 D cA ao f [.q (some o), .i a1, .q (some ao)] x (fun r f2 u => HQ (OK_back a a1) r f2 ∧ KZ o N (nx_back a a1) u) := by
  refine HY.of (cc := cL_back) (maxL := 4) (hh := [(0, 9, 12, 28)]) (by decide) rfl rfl (fun p e s m args below meth c A ls hx hb hml hown hts hr hlk htb hP hD hK hA hZ hl9 hAe => ?_)
  have hlv : lv_has ls 4 [(0, .ref o), (1, .int a1), (2, .ref ao)] := hl9
  have hown : s.vm.findClass RL = some m.cls := hown
  obtain ⟨ho1, ho2⟩ := KZ_o hk
  refine lv_aload_n hx hb dL_back_0 rfl (lv_at hlv 2 rfl) ?_
  refine lv_iconst (v := 0) hx hb dL_back_1 (by decide) ?_
  refine lv_aload_n hx hb dL_back_2 rfl (lv_at hlv 0 rfl) ?_
  refine lv_iload_n hx hb dL_back_3 rfl (lv_at hlv 1 rfl) ?_
  refine h_run (x := x) (rest := [.int 0, .ref ao]) (vy_runV (C := RX11) (b := o) (As := [.int a1]) (rest := [.int 0, .ref ao]) (n := 1) ⟨hx, hb, hml, hown, hts⟩ (T_X11_back l hl D cA (kz_back hk hW a1) s.heap.size) (cwV 1 hts gL_back_X11_back rfl rfl rfl (by decide +kernel) ⟨Nat.le_of_ble_eq_true rfl, Nat.le_of_ble_eq_true rfl⟩) (hg_recv hK (sp_cons.mp hP).2 (sd_cons.mp hD).2.1 va_S.rf hA hZ ho1 ho2 (by decide) rfl) rfl rfl hlv.1 rfl (lv_room (Nat.le_of_ble_eq_true rfl)) dL_back_4 ⟨Nat.le_of_eq (Nat.zero_add _), Nat.le_of_eq (Nat.zero_add _)⟩) hP hD va_S.rf hA (fun mc ms E u ce q9 H1 locs1 hE hc hz hP1 hD1 hS1 hce hcv hcl => ?_) (fun mc ms r u H1 locs1 hQ9 hc hz hP1 hD1 hS1 => ?_)
  · obtain ⟨hE0, hE⟩ := hE
    obtain ⟨rfl, hok⟩ := hE0
    refine vx_catch (own := RL) (name := eIS) (pc := 4) hown [] ⟨0, 9, 12, 28⟩ [] htb (fun z hz => absurd hz (List.not_mem_nil)) (by decide) (by decide) (hts (.classLink RL 28 "java/lang/IllegalStateException") (by decide +kernel)) (va_Nw.use rfl hZ.2.2.2.1.2.2.1) hce hcv hcl ?_
    refine W.eq (g2 := F0 m 12 ls [.ref q9]) rfl ?_
    refine lv_astore_n (lv' := [(3, .ref q9), (0, .ref o), (1, .int a1), (2, .ref ao)]) hx hb dL_back_12 rfl hlv (by decide) rfl (fun ls hl => ?_)
    refine lv_iconst (v := 1) hx hb dL_back_13 (by decide) ?_
    exact h_iret hx hb hr hlk hAe ⟨Or.inr ⟨by decide, hok⟩, hE⟩ (by omega) (by omega) hP1 hD1 hK hS1 dL_back_14
  · refine h_out hx hb hK hP1 hD1 hS1 dL_back_7 rfl dL_back_8 (fun H2 locs2 hP2 hD2 hS2 => ?_)
    refine lv_goto (tgt := 15) hx hb dL_back_9 (by decide) ?_
    refine lv_iconst (v := 0) hx hb dL_back_15 (by decide) ?_
    exact h_iret hx hb hr hlk hAe ⟨Or.inl ⟨rfl, r, if_pos rfl, hQ9.1⟩, hQ9.2⟩ (by omega) (by omega) hP2 hD2 hK hS2 dL_back_16

set_option maxHeartbeats 4000000 in
set_option maxRecDepth 100000 in
/-- question of the law -/
theorem L_question (l : Launch) (hl : l.stackTraces = false) (D : va_G) (cA : Nat → ClassId) {o ao N : Nat} {a : AS} {f : Nat → Int64} {a1 : Int32} {x : HS} (hk : KZ o (N + 1) a x) (hW : AVW a) : HY l yL_question wsL_question 47 1908 D cA ao f [.q (some o), .i a1, .q (some ao)] x (fun r f2 u => HQ (OK_question a a1) r f2 ∧ KZ o N (nx_question a a1) u) := by
  refine HY.of (cc := cL_question) (maxL := 4) (hh := [(0, 9, 12, 19), (0, 9, 15, 41), (0, 9, 18, 85)]) (by decide) rfl rfl (fun p e s m args below meth c A ls hx hb hml hown hts hr hlk htb hP hD hK hA hZ hl9 hAe => ?_)
  have hlv : lv_has ls 4 [(0, .ref o), (1, .int a1), (2, .ref ao)] := hl9
  have hown : s.vm.findClass RL = some m.cls := hown
  obtain ⟨ho1, ho2⟩ := KZ_o hk
  refine lv_aload_n hx hb dL_question_0 rfl (lv_at hlv 2 rfl) ?_
  refine lv_iconst (v := 0) hx hb dL_question_1 (by decide) ?_
  refine lv_aload_n hx hb dL_question_2 rfl (lv_at hlv 0 rfl) ?_
  refine lv_iload_n hx hb dL_question_3 rfl (lv_at hlv 1 rfl) ?_
  refine h_run (x := x) (rest := [.int 0, .ref ao]) (vy_runV (C := RX11) (b := o) (As := [.int a1]) (rest := [.int 0, .ref ao]) (n := 1) ⟨hx, hb, hml, hown, hts⟩ (T_X11_question l hl D cA (kz_question hk hW a1) s.heap.size) (cwV 1 hts gL_question_X11_question rfl rfl rfl (by decide +kernel) ⟨Nat.le_of_ble_eq_true rfl, Nat.le_of_ble_eq_true rfl⟩) (hg_recv hK (sp_cons.mp hP).2 (sd_cons.mp hD).2.1 va_S.rf hA hZ ho1 ho2 (by decide) rfl) rfl rfl hlv.1 rfl (lv_room (Nat.le_of_ble_eq_true rfl)) dL_question_4 ⟨Nat.le_of_eq (Nat.zero_add _), Nat.le_of_eq (Nat.zero_add _)⟩) hP hD va_S.rf hA (fun mc ms E u ce q9 H1 locs1 hE hc hz hP1 hD1 hS1 hce hcv hcl => ?_) (fun mc ms r u H1 locs1 hQ9 hc hz hP1 hD1 hS1 => ?_)
  · obtain ⟨hE0, hE⟩ := hE
    rcases hE0 with ⟨rfl, hok⟩ | ⟨rfl, hok⟩ | ⟨rfl, hok⟩
    · skip
      refine vx_catch (own := RL) (name := eIA) (pc := 4) hown [] ⟨0, 9, 12, 19⟩ [⟨0, 9, 15, 41⟩, ⟨0, 9, 18, 85⟩] htb (fun z hz => absurd hz (List.not_mem_nil)) (by decide) (by decide) (hts (.classLink RL 19 "java/lang/IllegalArgumentException") (by decide +kernel)) (va_Nw.use rfl hZ.2.2.2.1.1) hce hcv hcl ?_
      refine W.eq (g2 := F0 m 12 ls [.ref q9]) rfl ?_
      refine lv_astore_n (lv' := [(3, .ref q9), (0, .ref o), (1, .int a1), (2, .ref ao)]) hx hb dL_question_12 rfl hlv (by decide) rfl (fun ls hl => ?_)
      refine lv_iconst (v := 1) hx hb dL_question_13 (by decide) ?_
      exact h_iret hx hb hr hlk hAe ⟨Or.inr ⟨by decide, hok⟩, hE⟩ (by omega) (by omega) hP1 hD1 hK hS1 dL_question_14
    · skip
      refine vx_catch (own := RL) (name := eUO) (pc := 4) hown [⟨0, 9, 12, 19⟩] ⟨0, 9, 15, 41⟩ [⟨0, 9, 18, 85⟩] htb (fun z hz => by
        simp only [List.mem_cons, List.not_mem_nil, or_false] at hz
        rcases hz with rfl
        · exact Or.inr ⟨(by decide), eIA, hts (.classLink RL 19 "java/lang/IllegalArgumentException") (by decide +kernel), hZ.2.2.2.2.2.1.2.1⟩) (by decide) (by decide) (hts (.classLink RL 41 "java/lang/UnsupportedOperationException") (by decide +kernel)) (va_Nw.use rfl hZ.2.2.2.1.2.2.2.2.1) hce hcv hcl ?_
      refine W.eq (g2 := F0 m 15 ls [.ref q9]) rfl ?_
      refine lv_astore_n (lv' := [(3, .ref q9), (0, .ref o), (1, .int a1), (2, .ref ao)]) hx hb dL_question_15 rfl hlv (by decide) rfl (fun ls hl => ?_)
      refine lv_iconst (v := 2) hx hb dL_question_16 (by decide) ?_
      exact h_iret hx hb hr hlk hAe ⟨Or.inr ⟨by decide, hok⟩, hE⟩ (by omega) (by omega) hP1 hD1 hK hS1 dL_question_17
    · skip
      refine vx_catch (own := RL) (name := eAE) (pc := 4) hown [⟨0, 9, 12, 19⟩, ⟨0, 9, 15, 41⟩] ⟨0, 9, 18, 85⟩ [] htb (fun z hz => by
        simp only [List.mem_cons, List.not_mem_nil, or_false] at hz
        rcases hz with rfl | rfl
        · exact Or.inr ⟨(by decide), eIA, hts (.classLink RL 19 "java/lang/IllegalArgumentException") (by decide +kernel), hZ.2.2.2.2.2.1.2.2.2.2.2.2.2.2.2.2.1⟩
        · exact Or.inr ⟨(by decide), eUO, hts (.classLink RL 41 "java/lang/UnsupportedOperationException") (by decide +kernel), hZ.2.2.2.2.2.1.2.2.2.2.2.2.2.2.2.2.2⟩) (by decide) (by decide) (hts (.classLink RL 85 "java/lang/ArithmeticException") (by decide +kernel)) (va_Nw.use rfl hZ.2.2.2.1.2.2.2.2.2) hce hcv hcl ?_
      refine W.eq (g2 := F0 m 18 ls [.ref q9]) rfl ?_
      refine lv_astore_n (lv' := [(3, .ref q9), (0, .ref o), (1, .int a1), (2, .ref ao)]) hx hb dL_question_18 rfl hlv (by decide) rfl (fun ls hl => ?_)
      refine lv_iconst (v := 3) hx hb dL_question_19 (by decide) ?_
      exact h_iret hx hb hr hlk hAe ⟨Or.inr ⟨by decide, hok⟩, hE⟩ (by omega) (by omega) hP1 hD1 hK hS1 dL_question_20
  · refine h_out hx hb hK hP1 hD1 hS1 dL_question_7 rfl dL_question_8 (fun H2 locs2 hP2 hD2 hS2 => ?_)
    refine lv_goto (tgt := 21) hx hb dL_question_9 (by decide) ?_
    refine lv_iconst (v := 0) hx hb dL_question_21 (by decide) ?_
    exact h_iret hx hb hr hlk hAe ⟨Or.inl ⟨rfl, r, if_pos rfl, hQ9.1⟩, hQ9.2⟩ (by omega) (by omega) hP2 hD2 hK hS2 dL_question_22
