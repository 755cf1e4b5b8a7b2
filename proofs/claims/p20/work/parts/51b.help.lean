set_option maxHeartbeats 4000000 in
set_option maxRecDepth 100000 in
/-- end of the law -/
theorem L_end (l : Launch) (hl : l.stackTraces = false) (D : va_G) (cA : Nat → ClassId) {o ao N : Nat} {a : AS} {f : Nat → Int64} {a1 : Int32} {x : HS} (hk : KZ o (N + 1) a x) (hW : AVW a) : HY l yL_end wsL_end 8 133 D cA ao f [.q (some o), .i a1, .q (some ao)] x (fun r f2 u => HQ (OK_end a a1) r f2 ∧ KZ o N (nx_end a a1) u) := by
  refine HY.of (cc := cL_end) (maxL := 4) (hh := [(0, 9, 12, 19)]) (by decide) rfl rfl (fun p e s m args below meth c A ls hx hb hml hown hts hr hlk htb hP hD hK hA hZ hl9 hAe => ?_)
  have hlv : lv_has ls 4 [(0, .ref o), (1, .int a1), (2, .ref ao)] := hl9
  have hown : s.vm.findClass RL = some m.cls := hown
  obtain ⟨ho1, ho2⟩ := KZ_o hk
  refine lv_aload_n hx hb dL_end_0 rfl (lv_at hlv 2 rfl) ?_
  refine lv_iconst (v := 0) hx hb dL_end_1 (by decide) ?_
  refine lv_aload_n hx hb dL_end_2 rfl (lv_at hlv 0 rfl) ?_
  refine lv_iload_n hx hb dL_end_3 rfl (lv_at hlv 1 rfl) ?_
  refine h_run (x := x) (rest := [.int 0, .ref ao]) (vy_runV (C := RX11) (b := o) (As := [.int a1]) (rest := [.int 0, .ref ao]) (n := 1) ⟨hx, hb, hml, hown, hts⟩ (T_X11_end l hl D cA (kz_end hk hW a1) s.heap.size) (cwV 1 hts gL_end_X11_end rfl rfl rfl (by decide +kernel) ⟨Nat.le_of_ble_eq_true rfl, Nat.le_of_ble_eq_true rfl⟩) (hg_recv hK (sp_cons.mp hP).2 (sd_cons.mp hD).2.1 va_S.rf hA hZ ho1 ho2 (by decide) rfl) rfl rfl hlv.1 rfl (lv_room (Nat.le_of_ble_eq_true rfl)) dL_end_4 ⟨Nat.le_of_eq (Nat.zero_add _), Nat.le_of_eq (Nat.zero_add _)⟩) hP hD va_S.rf hA (fun mc ms E u ce q9 H1 locs1 hE hc hz hP1 hD1 hS1 hce hcv hcl => ?_) (fun mc ms r u H1 locs1 hQ9 hc hz hP1 hD1 hS1 => ?_)
  · obtain ⟨hE0, hE⟩ := hE
    obtain ⟨rfl, hok⟩ := hE0
    refine vx_catch (own := RL) (name := eIA) (pc := 4) hown [] ⟨0, 9, 12, 19⟩ [] htb (fun z hz => absurd hz (List.not_mem_nil)) (by decide) (by decide) (hts (.classLink RL 19 "java/lang/IllegalArgumentException") (by decide +kernel)) (va_Nw.use rfl hZ.2.2.2.1.1) hce hcv hcl ?_
    refine W.eq (g2 := F0 m 12 ls [.ref q9]) rfl ?_
    refine lv_astore_n (lv' := [(3, .ref q9), (0, .ref o), (1, .int a1), (2, .ref ao)]) hx hb dL_end_12 rfl hlv (by decide) rfl (fun ls hl => ?_)
    refine lv_iconst (v := 1) hx hb dL_end_13 (by decide) ?_
    exact h_iret hx hb hr hlk hAe ⟨Or.inr ⟨by decide, hok⟩, hE⟩ (by omega) (by omega) hP1 hD1 hK hS1 dL_end_14
  · refine h_out hx hb hK hP1 hD1 hS1 dL_end_7 rfl dL_end_8 (fun H2 locs2 hP2 hD2 hS2 => ?_)
    refine lv_goto (tgt := 15) hx hb dL_end_9 (by decide) ?_
    refine lv_iconst (v := 0) hx hb dL_end_15 (by decide) ?_
    exact h_iret hx hb hr hlk hAe ⟨Or.inl ⟨rfl, r, if_pos rfl, hQ9.1⟩, hQ9.2⟩ (by omega) (by omega) hP2 hD2 hK hS2 dL_end_16

set_option maxHeartbeats 4000000 in
set_option maxRecDepth 100000 in
/-- key of the law -/
theorem L_key (l : Launch) (hl : l.stackTraces = false) (D : va_G) (cA : Nat → ClassId) {o ao N : Nat} {a : AS} {f : Nat → Int64} {a1 : Int32} {a2 : Int32} {x : HS} (hk : KZ o (N + 1) a x) (hW : AVW a) : HY l yL_key wsL_key 8 135 D cA ao f [.q (some o), .i a1, .i a2, .q (some ao)] x (fun r f2 u => HQ (OK_key a a1 a2) r f2 ∧ KZ o N (nx_key a a1 a2) u) := by
  refine HY.of (cc := cL_key) (maxL := 5) (hh := [(0, 10, 13, 33), (0, 10, 17, 19), (0, 10, 21, 28), (0, 10, 25, 13)]) (by decide) rfl rfl (fun p e s m args below meth c A ls hx hb hml hown hts hr hlk htb hP hD hK hA hZ hl9 hAe => ?_)
  have hlv : lv_has ls 5 [(0, .ref o), (1, .int a1), (2, .int a2), (3, .ref ao)] := hl9
  have hown : s.vm.findClass RL = some m.cls := hown
  obtain ⟨ho1, ho2⟩ := KZ_o hk
  refine lv_aload_n hx hb dL_key_0 rfl (lv_at hlv 3 rfl) ?_
  refine lv_iconst (v := 0) hx hb dL_key_1 (by decide) ?_
  refine lv_aload_n hx hb dL_key_2 rfl (lv_at hlv 0 rfl) ?_
  refine lv_iload_n hx hb dL_key_3 rfl (lv_at hlv 1 rfl) ?_
  refine lv_iload_n hx hb dL_key_4 rfl (lv_at hlv 2 rfl) ?_
  refine h_run (x := x) (rest := [.int 0, .ref ao]) (vy_runV (C := RX11) (b := o) (As := [.int a1, .int a2]) (rest := [.int 0, .ref ao]) (n := 2) ⟨hx, hb, hml, hown, hts⟩ (T_X11_key l hl D cA (kz_key hk hW a1 a2) s.heap.size) (cwV 2 hts gL_key_X11_key rfl rfl rfl (by decide +kernel) ⟨Nat.le_of_ble_eq_true rfl, Nat.le_of_ble_eq_true rfl⟩) (hg_recv hK (sp_cons.mp hP).2 (sd_cons.mp hD).2.1 va_S.rf hA hZ ho1 ho2 (by decide) rfl) rfl rfl hlv.1 rfl (lv_room (Nat.le_of_ble_eq_true rfl)) dL_key_5 ⟨Nat.le_of_eq (Nat.zero_add _), Nat.le_of_eq (Nat.zero_add _)⟩) hP hD va_S.rf hA (fun mc ms E u ce q9 H1 locs1 hE hc hz hP1 hD1 hS1 hce hcv hcl => ?_) (fun mc ms r u H1 locs1 hQ9 hc hz hP1 hD1 hS1 => ?_)
  · obtain ⟨hE0, hE⟩ := hE
    rcases hE0 with ⟨rfl, hok⟩ | ⟨rfl, hok⟩ | ⟨rfl, hok⟩ | ⟨rfl, hok⟩
    · skip
      refine vx_catch (own := RL) (name := eIA) (pc := 5) hown [⟨0, 10, 13, 33⟩] ⟨0, 10, 17, 19⟩ [⟨0, 10, 21, 28⟩, ⟨0, 10, 25, 13⟩] htb (fun z hz => by
        simp only [List.mem_cons, List.not_mem_nil, or_false] at hz
        rcases hz with rfl
        · exact Or.inr ⟨(by decide), eNE, hts (.classLink RL 33 "java/util/NoSuchElementException") (by decide +kernel), hZ.2.2.2.2.2.1.2.2.2.1⟩) (by decide) (by decide) (hts (.classLink RL 19 "java/lang/IllegalArgumentException") (by decide +kernel)) (va_Nw.use rfl hZ.2.2.2.1.1) hce hcv hcl ?_
      refine W.eq (g2 := F0 m 17 ls [.ref q9]) rfl ?_
      refine lv_astore (lv' := [(4, .ref q9), (0, .ref o), (1, .int a1), (2, .int a2), (3, .ref ao)]) hx hb dL_key_17 hlv (by decide) rfl (fun ls hl => ?_)
      refine lv_iconst (v := 2) hx hb dL_key_19 (by decide) ?_
      exact h_iret hx hb hr hlk hAe ⟨Or.inr ⟨by decide, hok⟩, hE⟩ (by omega) (by omega) hP1 hD1 hK hS1 dL_key_20
    · skip
      refine vx_catch (own := RL) (name := eNE) (pc := 5) hown [] ⟨0, 10, 13, 33⟩ [⟨0, 10, 17, 19⟩, ⟨0, 10, 21, 28⟩, ⟨0, 10, 25, 13⟩] htb (fun z hz => absurd hz (List.not_mem_nil)) (by decide) (by decide) (hts (.classLink RL 33 "java/util/NoSuchElementException") (by decide +kernel)) (va_Nw.use rfl hZ.2.2.2.1.2.1) hce hcv hcl ?_
      refine W.eq (g2 := F0 m 13 ls [.ref q9]) rfl ?_
      refine lv_astore (lv' := [(4, .ref q9), (0, .ref o), (1, .int a1), (2, .int a2), (3, .ref ao)]) hx hb dL_key_13 hlv (by decide) rfl (fun ls hl => ?_)
      refine lv_iconst (v := 1) hx hb dL_key_15 (by decide) ?_
      exact h_iret hx hb hr hlk hAe ⟨Or.inr ⟨by decide, hok⟩, hE⟩ (by omega) (by omega) hP1 hD1 hK hS1 dL_key_16
    · skip
      refine vx_catch (own := RL) (name := eIS) (pc := 5) hown [⟨0, 10, 13, 33⟩, ⟨0, 10, 17, 19⟩] ⟨0, 10, 21, 28⟩ [⟨0, 10, 25, 13⟩] htb (fun z hz => by
        simp only [List.mem_cons, List.not_mem_nil, or_false] at hz
        rcases hz with rfl | rfl
        · exact Or.inr ⟨(by decide), eNE, hts (.classLink RL 33 "java/util/NoSuchElementException") (by decide +kernel), hZ.2.2.2.2.2.1.2.2.2.2.1⟩
        · exact Or.inr ⟨(by decide), eIA, hts (.classLink RL 19 "java/lang/IllegalArgumentException") (by decide +kernel), hZ.2.2.2.2.2.1.2.2.2.2.2.1⟩) (by decide) (by decide) (hts (.classLink RL 28 "java/lang/IllegalStateException") (by decide +kernel)) (va_Nw.use rfl hZ.2.2.2.1.2.2.1) hce hcv hcl ?_
      refine W.eq (g2 := F0 m 21 ls [.ref q9]) rfl ?_
      refine lv_astore (lv' := [(4, .ref q9), (0, .ref o), (1, .int a1), (2, .int a2), (3, .ref ao)]) hx hb dL_key_21 hlv (by decide) rfl (fun ls hl => ?_)
      refine lv_iconst (v := 3) hx hb dL_key_23 (by decide) ?_
      exact h_iret hx hb hr hlk hAe ⟨Or.inr ⟨by decide, hok⟩, hE⟩ (by omega) (by omega) hP1 hD1 hK hS1 dL_key_24
    · skip
      refine vx_catch (own := RL) (name := eIB) (pc := 5) hown [⟨0, 10, 13, 33⟩, ⟨0, 10, 17, 19⟩, ⟨0, 10, 21, 28⟩] ⟨0, 10, 25, 13⟩ [] htb (fun z hz => by
        simp only [List.mem_cons, List.not_mem_nil, or_false] at hz
        rcases hz with rfl | rfl | rfl
        · exact Or.inr ⟨(by decide), eNE, hts (.classLink RL 33 "java/util/NoSuchElementException") (by decide +kernel), hZ.2.2.2.2.2.1.2.2.2.2.2.2.1⟩
        · exact Or.inr ⟨(by decide), eIA, hts (.classLink RL 19 "java/lang/IllegalArgumentException") (by decide +kernel), hZ.2.2.2.2.2.1.2.2.1⟩
        · exact Or.inr ⟨(by decide), eIS, hts (.classLink RL 28 "java/lang/IllegalStateException") (by decide +kernel), hZ.2.2.2.2.2.1.2.2.2.2.2.2.2.1⟩) (by decide) (by decide) (hts (.classLink RL 13 "java/lang/IndexOutOfBoundsException") (by decide +kernel)) (va_Nw.use rfl hZ.2.2.2.1.2.2.2.1) hce hcv hcl ?_
      refine W.eq (g2 := F0 m 25 ls [.ref q9]) rfl ?_
      refine lv_astore (lv' := [(4, .ref q9), (0, .ref o), (1, .int a1), (2, .int a2), (3, .ref ao)]) hx hb dL_key_25 hlv (by decide) rfl (fun ls hl => ?_)
      refine lv_iconst (v := 4) hx hb dL_key_27 (by decide) ?_
      exact h_iret hx hb hr hlk hAe ⟨Or.inr ⟨by decide, hok⟩, hE⟩ (by omega) (by omega) hP1 hD1 hK hS1 dL_key_28
  · refine h_out hx hb hK hP1 hD1 hS1 dL_key_8 rfl dL_key_9 (fun H2 locs2 hP2 hD2 hS2 => ?_)
    refine lv_goto (tgt := 29) hx hb dL_key_10 (by decide) ?_
    refine lv_iconst (v := 0) hx hb dL_key_29 (by decide) ?_
    exact h_iret hx hb hr hlk hAe ⟨Or.inl ⟨rfl, r, if_pos rfl, hQ9.1⟩, hQ9.2⟩ (by omega) (by omega) hP2 hD2 hK hS2 dL_key_30

set_option maxHeartbeats 4000000 in
set_option maxRecDepth 100000 in
/-- many of the law -/
theorem L_many (l : Launch) (hl : l.stackTraces = false) (D : va_G) (cA : Nat → ClassId) {o ao N : Nat} {a : AS} {f : Nat → Int64} {a1 : Int32} {a2 : Int32} {a3 : Int32} {x : HS} (hk : KZ o (N + 1) a x) (hW : AVW a) : HY l yL_many wsL_many 11 204 D cA ao f [.q (some o), .i a1, .i a2, .i a3, .q (some ao)] x (fun r f2 u => HQ (OK_many a a1 a2 a3) r f2 ∧ KZ o N (nx_many a a1 a2 a3) u) := by
  refine HY.of (cc := cL_many) (maxL := 6) (hh := [(0, 12, 15, 19), (0, 12, 19, 33)]) (by decide) rfl rfl (fun p e s m args below meth c A ls hx hb hml hown hts hr hlk htb hP hD hK hA hZ hl9 hAe => ?_)
  have hlv : lv_has ls 6 [(0, .ref o), (1, .int a1), (2, .int a2), (3, .int a3), (4, .ref ao)] := hl9
  have hown : s.vm.findClass RL = some m.cls := hown
  obtain ⟨ho1, ho2⟩ := KZ_o hk
  refine lv_aload hx hb dL_many_0 (lv_at hlv 4 rfl) ?_
  refine lv_iconst (v := 0) hx hb dL_many_2 (by decide) ?_
  refine lv_aload_n hx hb dL_many_3 rfl (lv_at hlv 0 rfl) ?_
  refine lv_iload_n hx hb dL_many_4 rfl (lv_at hlv 1 rfl) ?_
  refine lv_iload_n hx hb dL_many_5 rfl (lv_at hlv 2 rfl) ?_
  refine lv_iload_n hx hb dL_many_6 rfl (lv_at hlv 3 rfl) ?_
  refine h_run (x := x) (rest := [.int 0, .ref ao]) (vy_runV (C := RX11) (b := o) (As := [.int a1, .int a2, .int a3]) (rest := [.int 0, .ref ao]) (n := 3) ⟨hx, hb, hml, hown, hts⟩ (T_X11_many l hl D cA (kz_many hk hW a1 a2 a3) s.heap.size) (cwV 3 hts gL_many_X11_many rfl rfl rfl (by decide +kernel) ⟨Nat.le_of_ble_eq_true rfl, Nat.le_of_ble_eq_true rfl⟩) (hg_recv hK (sp_cons.mp hP).2 (sd_cons.mp hD).2.1 va_S.rf hA hZ ho1 ho2 (by decide) rfl) rfl rfl hlv.1 rfl (lv_room (Nat.le_of_ble_eq_true rfl)) dL_many_7 ⟨Nat.le_of_eq (Nat.zero_add _), Nat.le_of_eq (Nat.zero_add _)⟩) hP hD va_S.rf hA (fun mc ms E u ce q9 H1 locs1 hE hc hz hP1 hD1 hS1 hce hcv hcl => ?_) (fun mc ms r u H1 locs1 hQ9 hc hz hP1 hD1 hS1 => ?_)
  · obtain ⟨hE0, hE⟩ := hE
    rcases hE0 with ⟨rfl, hok⟩ | ⟨rfl, hok⟩
    · skip
      refine vx_catch (own := RL) (name := eIA) (pc := 7) hown [] ⟨0, 12, 15, 19⟩ [⟨0, 12, 19, 33⟩] htb (fun z hz => absurd hz (List.not_mem_nil)) (by decide) (by decide) (hts (.classLink RL 19 "java/lang/IllegalArgumentException") (by decide +kernel)) (va_Nw.use rfl hZ.2.2.2.1.1) hce hcv hcl ?_
      refine W.eq (g2 := F0 m 15 ls [.ref q9]) rfl ?_
      refine lv_astore (lv' := [(5, .ref q9), (0, .ref o), (1, .int a1), (2, .int a2), (3, .int a3), (4, .ref ao)]) hx hb dL_many_15 hlv (by decide) rfl (fun ls hl => ?_)
      refine lv_iconst (v := 1) hx hb dL_many_17 (by decide) ?_
      exact h_iret hx hb hr hlk hAe ⟨Or.inr ⟨by decide, hok⟩, hE⟩ (by omega) (by omega) hP1 hD1 hK hS1 dL_many_18
    · skip
      refine vx_catch (own := RL) (name := eNE) (pc := 7) hown [⟨0, 12, 15, 19⟩] ⟨0, 12, 19, 33⟩ [] htb (fun z hz => by
        simp only [List.mem_cons, List.not_mem_nil, or_false] at hz
        rcases hz with rfl
        · exact Or.inr ⟨(by decide), eIA, hts (.classLink RL 19 "java/lang/IllegalArgumentException") (by decide +kernel), hZ.2.2.2.2.2.1.1⟩) (by decide) (by decide) (hts (.classLink RL 33 "java/util/NoSuchElementException") (by decide +kernel)) (va_Nw.use rfl hZ.2.2.2.1.2.1) hce hcv hcl ?_
      refine W.eq (g2 := F0 m 19 ls [.ref q9]) rfl ?_
      refine lv_astore (lv' := [(5, .ref q9), (0, .ref o), (1, .int a1), (2, .int a2), (3, .int a3), (4, .ref ao)]) hx hb dL_many_19 hlv (by decide) rfl (fun ls hl => ?_)
      refine lv_iconst (v := 2) hx hb dL_many_21 (by decide) ?_
      exact h_iret hx hb hr hlk hAe ⟨Or.inr ⟨by decide, hok⟩, hE⟩ (by omega) (by omega) hP1 hD1 hK hS1 dL_many_22
  · refine h_out hx hb hK hP1 hD1 hS1 dL_many_10 rfl dL_many_11 (fun H2 locs2 hP2 hD2 hS2 => ?_)
    refine lv_goto (tgt := 23) hx hb dL_many_12 (by decide) ?_
    refine lv_iconst (v := 0) hx hb dL_many_23 (by decide) ?_
    exact h_iret hx hb hr hlk hAe ⟨Or.inl ⟨rfl, r, if_pos rfl, hQ9.1⟩, hQ9.2⟩ (by omega) (by omega) hP2 hD2 hK hS2 dL_many_24

set_option maxHeartbeats 4000000 in
set_option maxRecDepth 100000 in
/-- fact of the law -/
theorem L_fact (l : Launch) (hl : l.stackTraces = false) (D : va_G) (cA : Nat → ClassId) {o ao N : Nat} {a : AS} {f : Nat → Int64} {a1 : Int32} {a2 : Int32} {x : HS} (hk : KZ o (N + 1) a x) (hW : AVW a) : HY l yL_fact wsL_fact 8 135 D cA ao f [.q (some o), .i a1, .i a2, .q (some ao)] x (fun r f2 u => HQ (OK_fact a a1 a2) r f2 ∧ KZ o N (nx_fact a a1 a2) u) := by
  refine HY.of (cc := cL_fact) (maxL := 5) (hh := [(0, 10, 13, 19), (0, 10, 17, 33)]) (by decide) rfl rfl (fun p e s m args below meth c A ls hx hb hml hown hts hr hlk htb hP hD hK hA hZ hl9 hAe => ?_)
  have hlv : lv_has ls 5 [(0, .ref o), (1, .int a1), (2, .int a2), (3, .ref ao)] := hl9
  have hown : s.vm.findClass RL = some m.cls := hown
  obtain ⟨ho1, ho2⟩ := KZ_o hk
  refine lv_aload_n hx hb dL_fact_0 rfl (lv_at hlv 3 rfl) ?_
  refine lv_iconst (v := 0) hx hb dL_fact_1 (by decide) ?_
  refine lv_aload_n hx hb dL_fact_2 rfl (lv_at hlv 0 rfl) ?_
  refine lv_iload_n hx hb dL_fact_3 rfl (lv_at hlv 1 rfl) ?_
  refine lv_iload_n hx hb dL_fact_4 rfl (lv_at hlv 2 rfl) ?_
  refine h_run (x := x) (rest := [.int 0, .ref ao]) (vy_runV (C := RX11) (b := o) (As := [.int a1, .int a2]) (rest := [.int 0, .ref ao]) (n := 2) ⟨hx, hb, hml, hown, hts⟩ (T_X11_fact l hl D cA (kz_fact hk hW a1 a2) s.heap.size) (cwV 2 hts gL_fact_X11_fact rfl rfl rfl (by decide +kernel) ⟨Nat.le_of_ble_eq_true rfl, Nat.le_of_ble_eq_true rfl⟩) (hg_recv hK (sp_cons.mp hP).2 (sd_cons.mp hD).2.1 va_S.rf hA hZ ho1 ho2 (by decide) rfl) rfl rfl hlv.1 rfl (lv_room (Nat.le_of_ble_eq_true rfl)) dL_fact_5 ⟨Nat.le_of_eq (Nat.zero_add _), Nat.le_of_eq (Nat.zero_add _)⟩) hP hD va_S.rf hA (fun mc ms E u ce q9 H1 locs1 hE hc hz hP1 hD1 hS1 hce hcv hcl => ?_) (fun mc ms r u H1 locs1 hQ9 hc hz hP1 hD1 hS1 => ?_)
  · obtain ⟨hE0, hE⟩ := hE
    rcases hE0 with ⟨rfl, hok⟩ | ⟨rfl, hok⟩
    · skip
      refine vx_catch (own := RL) (name := eIA) (pc := 5) hown [] ⟨0, 10, 13, 19⟩ [⟨0, 10, 17, 33⟩] htb (fun z hz => absurd hz (List.not_mem_nil)) (by decide) (by decide) (hts (.classLink RL 19 "java/lang/IllegalArgumentException") (by decide +kernel)) (va_Nw.use rfl hZ.2.2.2.1.1) hce hcv hcl ?_
      refine W.eq (g2 := F0 m 13 ls [.ref q9]) rfl ?_
      refine lv_astore (lv' := [(4, .ref q9), (0, .ref o), (1, .int a1), (2, .int a2), (3, .ref ao)]) hx hb dL_fact_13 hlv (by decide) rfl (fun ls hl => ?_)
      refine lv_iconst (v := 1) hx hb dL_fact_15 (by decide) ?_
      exact h_iret hx hb hr hlk hAe ⟨Or.inr ⟨by decide, hok⟩, hE⟩ (by omega) (by omega) hP1 hD1 hK hS1 dL_fact_16
    · skip
      refine vx_catch (own := RL) (name := eNE) (pc := 5) hown [⟨0, 10, 13, 19⟩] ⟨0, 10, 17, 33⟩ [] htb (fun z hz => by
        simp only [List.mem_cons, List.not_mem_nil, or_false] at hz
        rcases hz with rfl
        · exact Or.inr ⟨(by decide), eIA, hts (.classLink RL 19 "java/lang/IllegalArgumentException") (by decide +kernel), hZ.2.2.2.2.2.1.1⟩) (by decide) (by decide) (hts (.classLink RL 33 "java/util/NoSuchElementException") (by decide +kernel)) (va_Nw.use rfl hZ.2.2.2.1.2.1) hce hcv hcl ?_
      refine W.eq (g2 := F0 m 17 ls [.ref q9]) rfl ?_
      refine lv_astore (lv' := [(4, .ref q9), (0, .ref o), (1, .int a1), (2, .int a2), (3, .ref ao)]) hx hb dL_fact_17 hlv (by decide) rfl (fun ls hl => ?_)
      refine lv_iconst (v := 2) hx hb dL_fact_19 (by decide) ?_
      exact h_iret hx hb hr hlk hAe ⟨Or.inr ⟨by decide, hok⟩, hE⟩ (by omega) (by omega) hP1 hD1 hK hS1 dL_fact_20
  · refine h_out hx hb hK hP1 hD1 hS1 dL_fact_8 rfl dL_fact_9 (fun H2 locs2 hP2 hD2 hS2 => ?_)
    refine lv_goto (tgt := 21) hx hb dL_fact_10 (by decide) ?_
    refine lv_iconst (v := 0) hx hb dL_fact_21 (by decide) ?_
    exact h_iret hx hb hr hlk hAe ⟨Or.inl ⟨rfl, r, if_pos rfl, hQ9.1⟩, hQ9.2⟩ (by omega) (by omega) hP2 hD2 hK hS2 dL_fact_22

set_option maxHeartbeats 4000000 in
set_option maxRecDepth 100000 in
/-- changes of the law -/
theorem L_changes (l : Launch) (hl : l.stackTraces = false) (D : va_G) (cA : Nat → ClassId) {o ao N : Nat} {a : AS} {f : Nat → Int64} {a1 : Int32} {a2 : Int32} {a3 : Int32} {x : HS} (hk : KZ o (N + 1) a x) (hW : AVW a) : HY l yL_changes wsL_changes 9 160 D cA ao f [.q (some o), .i a1, .i a2, .i a3, .q (some ao)] x (fun r f2 u => HQ (OK_changes a a1 a2 a3) r f2 ∧ KZ o N (nx_changes a a1 a2 a3) u) := by
  refine HY.of (cc := cL_changes) (maxL := 6) (hh := [(0, 12, 15, 19), (0, 12, 19, 33)]) (by decide) rfl rfl (fun p e s m args below meth c A ls hx hb hml hown hts hr hlk htb hP hD hK hA hZ hl9 hAe => ?_)
  have hlv : lv_has ls 6 [(0, .ref o), (1, .int a1), (2, .int a2), (3, .int a3), (4, .ref ao)] := hl9
  have hown : s.vm.findClass RL = some m.cls := hown
  obtain ⟨ho1, ho2⟩ := KZ_o hk
  refine lv_aload hx hb dL_changes_0 (lv_at hlv 4 rfl) ?_
  refine lv_iconst (v := 0) hx hb dL_changes_2 (by decide) ?_
  refine lv_aload_n hx hb dL_changes_3 rfl (lv_at hlv 0 rfl) ?_
  refine lv_iload_n hx hb dL_changes_4 rfl (lv_at hlv 1 rfl) ?_
  refine lv_iload_n hx hb dL_changes_5 rfl (lv_at hlv 2 rfl) ?_
  refine lv_iload_n hx hb dL_changes_6 rfl (lv_at hlv 3 rfl) ?_
  refine h_run (x := x) (rest := [.int 0, .ref ao]) (vy_runV (C := RX11) (b := o) (As := [.int a1, .int a2, .int a3]) (rest := [.int 0, .ref ao]) (n := 3) ⟨hx, hb, hml, hown, hts⟩ (T_X11_changes l hl D cA (kz_changes hk hW a1 a2 a3) s.heap.size) (cwV 3 hts gL_changes_X11_changes rfl rfl rfl (by decide +kernel) ⟨Nat.le_of_ble_eq_true rfl, Nat.le_of_ble_eq_true rfl⟩) (hg_recv hK (sp_cons.mp hP).2 (sd_cons.mp hD).2.1 va_S.rf hA hZ ho1 ho2 (by decide) rfl) rfl rfl hlv.1 rfl (lv_room (Nat.le_of_ble_eq_true rfl)) dL_changes_7 ⟨Nat.le_of_eq (Nat.zero_add _), Nat.le_of_eq (Nat.zero_add _)⟩) hP hD va_S.rf hA (fun mc ms E u ce q9 H1 locs1 hE hc hz hP1 hD1 hS1 hce hcv hcl => ?_) (fun mc ms r u H1 locs1 hQ9 hc hz hP1 hD1 hS1 => ?_)
  · obtain ⟨hE0, hE⟩ := hE
    rcases hE0 with ⟨rfl, hok⟩ | ⟨rfl, hok⟩
    · skip
      refine vx_catch (own := RL) (name := eIA) (pc := 7) hown [] ⟨0, 12, 15, 19⟩ [⟨0, 12, 19, 33⟩] htb (fun z hz => absurd hz (List.not_mem_nil)) (by decide) (by decide) (hts (.classLink RL 19 "java/lang/IllegalArgumentException") (by decide +kernel)) (va_Nw.use rfl hZ.2.2.2.1.1) hce hcv hcl ?_
      refine W.eq (g2 := F0 m 15 ls [.ref q9]) rfl ?_
      refine lv_astore (lv' := [(5, .ref q9), (0, .ref o), (1, .int a1), (2, .int a2), (3, .int a3), (4, .ref ao)]) hx hb dL_changes_15 hlv (by decide) rfl (fun ls hl => ?_)
      refine lv_iconst (v := 1) hx hb dL_changes_17 (by decide) ?_
      exact h_iret hx hb hr hlk hAe ⟨Or.inr ⟨by decide, hok⟩, hE⟩ (by omega) (by omega) hP1 hD1 hK hS1 dL_changes_18
    · skip
      refine vx_catch (own := RL) (name := eNE) (pc := 7) hown [⟨0, 12, 15, 19⟩] ⟨0, 12, 19, 33⟩ [] htb (fun z hz => by
        simp only [List.mem_cons, List.not_mem_nil, or_false] at hz
        rcases hz with rfl
        · exact Or.inr ⟨(by decide), eIA, hts (.classLink RL 19 "java/lang/IllegalArgumentException") (by decide +kernel), hZ.2.2.2.2.2.1.1⟩) (by decide) (by decide) (hts (.classLink RL 33 "java/util/NoSuchElementException") (by decide +kernel)) (va_Nw.use rfl hZ.2.2.2.1.2.1) hce hcv hcl ?_
      refine W.eq (g2 := F0 m 19 ls [.ref q9]) rfl ?_
      refine lv_astore (lv' := [(5, .ref q9), (0, .ref o), (1, .int a1), (2, .int a2), (3, .int a3), (4, .ref ao)]) hx hb dL_changes_19 hlv (by decide) rfl (fun ls hl => ?_)
      refine lv_iconst (v := 2) hx hb dL_changes_21 (by decide) ?_
      exact h_iret hx hb hr hlk hAe ⟨Or.inr ⟨by decide, hok⟩, hE⟩ (by omega) (by omega) hP1 hD1 hK hS1 dL_changes_22
  · refine h_out hx hb hK hP1 hD1 hS1 dL_changes_10 rfl dL_changes_11 (fun H2 locs2 hP2 hD2 hS2 => ?_)
    refine lv_goto (tgt := 23) hx hb dL_changes_12 (by decide) ?_
    refine lv_iconst (v := 0) hx hb dL_changes_23 (by decide) ?_
    exact h_iret hx hb hr hlk hAe ⟨Or.inl ⟨rfl, r, if_pos rfl, hQ9.1⟩, hQ9.2⟩ (by omega) (by omega) hP2 hD2 hK hS2 dL_changes_24

set_option maxHeartbeats 4000000 in
set_option maxRecDepth 100000 in
/-- count of the law -/
theorem L_count (l : Launch) (hl : l.stackTraces = false) (D : va_G) (cA : Nat → ClassId) {o ao N : Nat} {a : AS} {f : Nat → Int64} {a1 : Int32} {x : HS} (hk : KZ o (N + 1) a x) (hW : AVW a) : HY l yL_count wsL_count 8 133 D cA ao f [.q (some o), .i a1, .q (some ao)] x (fun r f2 u => HQ (OK_count a a1) r f2 ∧ KZ o N (nx_count a a1) u) := by
  refine HY.of (cc := cL_count) (maxL := 4) (hh := [(0, 9, 12, 19)]) (by decide) rfl rfl (fun p e s m args below meth c A ls hx hb hml hown hts hr hlk htb hP hD hK hA hZ hl9 hAe => ?_)
  have hlv : lv_has ls 4 [(0, .ref o), (1, .int a1), (2, .ref ao)] := hl9
  have hown : s.vm.findClass RL = some m.cls := hown
  obtain ⟨ho1, ho2⟩ := KZ_o hk
  refine lv_aload_n hx hb dL_count_0 rfl (lv_at hlv 2 rfl) ?_
  refine lv_iconst (v := 0) hx hb dL_count_1 (by decide) ?_
  refine lv_aload_n hx hb dL_count_2 rfl (lv_at hlv 0 rfl) ?_
  refine lv_iload_n hx hb dL_count_3 rfl (lv_at hlv 1 rfl) ?_
  refine h_run (x := x) (rest := [.int 0, .ref ao]) (vy_runV (C := RX11) (b := o) (As := [.int a1]) (rest := [.int 0, .ref ao]) (n := 1) ⟨hx, hb, hml, hown, hts⟩ (T_X11_count l hl D cA (kz_count hk hW a1) s.heap.size) (cwV 1 hts gL_count_X11_count rfl rfl rfl (by decide +kernel) ⟨Nat.le_of_ble_eq_true rfl, Nat.le_of_ble_eq_true rfl⟩) (hg_recv hK (sp_cons.mp hP).2 (sd_cons.mp hD).2.1 va_S.rf hA hZ ho1 ho2 (by decide) rfl) rfl rfl hlv.1 rfl (lv_room (Nat.le_of_ble_eq_true rfl)) dL_count_4 ⟨Nat.le_of_eq (Nat.zero_add _), Nat.le_of_eq (Nat.zero_add _)⟩) hP hD va_S.rf hA (fun mc ms E u ce q9 H1 locs1 hE hc hz hP1 hD1 hS1 hce hcv hcl => ?_) (fun mc ms r u H1 locs1 hQ9 hc hz hP1 hD1 hS1 => ?_)
  · obtain ⟨hE0, hE⟩ := hE
    obtain ⟨rfl, hok⟩ := hE0
    refine vx_catch (own := RL) (name := eIA) (pc := 4) hown [] ⟨0, 9, 12, 19⟩ [] htb (fun z hz => absurd hz (List.not_mem_nil)) (by decide) (by decide) (hts (.classLink RL 19 "java/lang/IllegalArgumentException") (by decide +kernel)) (va_Nw.use rfl hZ.2.2.2.1.1) hce hcv hcl ?_
    refine W.eq (g2 := F0 m 12 ls [.ref q9]) rfl ?_
    refine lv_astore_n (lv' := [(3, .ref q9), (0, .ref o), (1, .int a1), (2, .ref ao)]) hx hb dL_count_12 rfl hlv (by decide) rfl (fun ls hl => ?_)
    refine lv_iconst (v := 1) hx hb dL_count_13 (by decide) ?_
    exact h_iret hx hb hr hlk hAe ⟨Or.inr ⟨by decide, hok⟩, hE⟩ (by omega) (by omega) hP1 hD1 hK hS1 dL_count_14
  · refine h_out hx hb hK hP1 hD1 hS1 dL_count_7 rfl dL_count_8 (fun H2 locs2 hP2 hD2 hS2 => ?_)
    refine lv_goto (tgt := 15) hx hb dL_count_9 (by decide) ?_
    refine lv_iconst (v := 0) hx hb dL_count_15 (by decide) ?_
    exact h_iret hx hb hr hlk hAe ⟨Or.inl ⟨rfl, r, if_pos rfl, hQ9.1⟩, hQ9.2⟩ (by omega) (by omega) hP2 hD2 hK hS2 dL_count_16
