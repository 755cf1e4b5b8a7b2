/-! contracts out of the words (reader), laid by wip/p4/y/gen5.py -/
set_option linter.unusedVariables false
theorem dX6_init_0 : decode cX6_init 0 = .ok (.aload_n 0, 1) := by decide +kernel
theorem dX6_init_1 : decode cX6_init 1 = .ok (.invokespecial 3, 3) := by decide +kernel
theorem dX6_init_4 : decode cX6_init 4 = .ok (.aload_n 0, 1) := by decide +kernel
theorem dX6_init_5 : decode cX6_init 5 = .ok (.bipush 10, 2) := by decide +kernel
theorem dX6_init_7 : decode cX6_init 7 = .ok (.anewarray 9, 3) := by decide +kernel
theorem dX6_init_10 : decode cX6_init 10 = .ok (.putfield 11, 3) := by decide +kernel
theorem dX6_init_13 : decode cX6_init 13 = .ok (.aload_n 0, 1) := by decide +kernel
theorem dX6_init_14 : decode cX6_init 14 = .ok (.iconst (-1), 1) := by decide +kernel
theorem dX6_init_15 : decode cX6_init 15 = .ok (.putfield 17, 3) := by decide +kernel
theorem dX6_init_18 : decode cX6_init 18 = .ok (.iconst 0, 1) := by decide +kernel
theorem dX6_init_19 : decode cX6_init 19 = .ok (.istore_n 1, 1) := by decide +kernel
theorem dX6_init_20 : decode cX6_init 20 = .ok (.iload_n 1, 1) := by decide +kernel
theorem dX6_init_21 : decode cX6_init 21 = .ok (.bipush 10, 2) := by decide +kernel
theorem dX6_init_23 : decode cX6_init 23 = .ok (.if_icmp .ge 22, 3) := by decide +kernel
theorem dX6_init_26 : decode cX6_init 26 = .ok (.aload_n 0, 1) := by decide +kernel
theorem dX6_init_27 : decode cX6_init 27 = .ok (.getfield 11, 3) := by decide +kernel
theorem dX6_init_30 : decode cX6_init 30 = .ok (.iload_n 1, 1) := by decide +kernel
theorem dX6_init_31 : decode cX6_init 31 = .ok (.new 9, 3) := by decide +kernel
theorem dX6_init_34 : decode cX6_init 34 = .ok (.dup, 1) := by decide +kernel
theorem dX6_init_35 : decode cX6_init 35 = .ok (.invokespecial 21, 3) := by decide +kernel
theorem dX6_init_38 : decode cX6_init 38 = .ok (.aastore, 1) := by decide +kernel
theorem dX6_init_39 : decode cX6_init 39 = .ok (.iinc 1 1, 3) := by decide +kernel
theorem dX6_init_42 : decode cX6_init 42 = .ok (.goto (-22), 3) := by decide +kernel
theorem dX6_init_45 : decode cX6_init 45 = .ok (.return_, 1) := by decide +kernel
theorem i9wsX6_init_0 : ∀ w ∈ ([.methodLink RX6 3 objectInit, .instanceMethod objectInit, .code objectInit ⟨#[0xb1]⟩ 1 none, .classLink RX6 9 RX2, .fieldLink RX6 11 "FactKeeper$Reader" "goals" "[LFactKeeper$Goal;", .fieldLink RX6 17 "FactKeeper$Reader" "place" "I", .instantiable RX2 6, .initialized RX2, .instanceMethod yX2_init, .code yX2_init cX2_init 1 none, .methodLink RX2 3 objectInit, .arrayClass .int, .fieldLink RX2 9 "FactKeeper$Goal" "kinds" "[I", .fieldLink RX2 15 "FactKeeper$Goal" "args" "[I"] : List Cond), w ∈ wsX6_init := fun _ h => (List.mem_cons_of_mem _ (List.mem_append_left _ (List.mem_append_left _ h)))
theorem i9wsX6_init_2 : ∀ w ∈ wsX20, w ∈ wsX6_init := fun _ h => (List.mem_cons_of_mem _ (List.mem_append_right _ h))
set_option maxRecDepth 20000 in
theorem ggX6_init_X2_init : GoodIn wsX6_init wsX2_init := (gin_c (mem_at i9wsX6_init_0 9 rfl) rfl (goodIn_app (gin_c (mem_at i9wsX6_init_0 10 rfl) rfl (gin_c (mem_at i9wsX6_init_0 1 rfl) rfl (gin_c (mem_at i9wsX6_init_0 2 rfl) rfl (gin_c (mem_at i9wsX6_init_0 11 rfl) rfl (gin_c (mem_at i9wsX6_init_0 12 rfl) rfl (gin_c (mem_at i9wsX6_init_0 13 rfl) rfl gin_n)))))) (goodIn_sub i9wsX6_init_2 g9_6)))
set_option maxRecDepth 20000 in
theorem gX6_init_X2_init_n21 : GoodIn wsX6_init (wsX2_init) := ggX6_init_X2_init
set_option maxHeartbeats 4000000 in
set_option maxRecDepth 100000 in
theorem T_X6_init (l : Launch) (hl : l.stackTraces = false) (D : va_G) (cA : Nat → ClassId) {l0 : Option Nat} {x : HS} {Q : HS → Prop} {X : String → HS → Prop} (h : w_X6_init l0 x Q X) : YV l yX6_init wsX6_init 2 32 D cA [.q l0] x Q X := by
  refine YV.of (cc := cX6_init) (maxL := 2) (ret := none) hl (by decide) rfl rfl (fun g B fr => ?_)
  have o := B.o
  have hb := B.hb
  have hts := B.hts
  have hown : g.s.vm.findClass RX6 = some g.m.cls := B.hown
  have in2 : ∀ w ∈ u_ws RX2 TX2 6, w ∈ wsX6_init := fun w h => (List.mem_cons_of_mem _ (List.mem_append_right _ h))
  have in6 : ∀ w ∈ u_ws RX6 TX6 8, w ∈ wsX6_init := fun w h => (List.mem_cons_of_mem _ (List.mem_append_left _ (List.mem_append_right _ h)))
  unfold w_X6_init at h
  show KW g 2 0 [(0, .q l0)] [] x
  refine k_aload_n o hb dX6_init_0 rfl 0 rfl ?_
  refine k_objInit o hb B.hml hown (hts (.methodLink RX6 3 objectInit) (by decide +kernel)) (hts (.instanceMethod objectInit) (by decide +kernel)) (hts (.code objectInit ⟨#[0xb1]⟩ 1 none) (by decide +kernel)) (yle B.hR1 rfl) (yle B.hR2 rfl) dX6_init_1 h.1 ?_
  have h := h.2
  refine k_aload_n o hb dX6_init_4 rfl 0 rfl ?_
  refine k_bipush (v := 10) o hb dX6_init_5 (by decide) ?_
  refine k_newG (kd := 27) (t0 := 6) o hb hown (hts (.classLink RX6 9 RX2) (by decide +kernel)) o.hZ.2.2.2.2.1.2.2.2.1 (by decide) rfl dX6_init_7 h (fun q1 x2 h => ?_)
  refine k_putFF (C := RX6) (T := TX6) (N := 8) (ty := (tyX6 0)) o hb hts in6 tyX6 tyX6_ok nmX6 hown rfl (by decide) 0 (by decide) rfl (hts (.fieldLink RX6 11 "FactKeeper$Reader" "goals" "[LFactKeeper$Goal;") (by decide +kernel)) (fun _ h9 => h9) rfl B.hnm rfl (by decide +kernel) (fun r => by cases r <;> rfl) (fun r => by cases r <;> rfl) dX6_init_10 h (fun x3 h => ?_)
  refine k_aload_n o hb dX6_init_13 rfl 0 rfl ?_
  refine k_iconst (v := (-1)) o hb dX6_init_14 (by decide) ?_
  refine k_putI (C := RX6) (T := TX6) (N := 8) (ty := .int) o hb hts in6 tyX6 tyX6_ok nmX6 hown rfl (by decide) 3 (by decide) rfl (hts (.fieldLink RX6 17 "FactKeeper$Reader" "place" "I") (by decide +kernel)) (fun _ h9 => h9) rfl (by decide +kernel) (fun _ => rfl) (fun _ => rfl) dX6_init_15 h (fun x4 h => ?_)
  refine k_iconst (v := 0) o hb dX6_init_18 (by decide) ?_
  refine k_istore_n o hb dX6_init_19 rfl rfl ?_
  refine KW.sub [1, 0] rfl ?_
  refine wLoop_elim (M := fun (v8 : Int32) (x7 : HS) => KW g 2 20 [(0, .q l0), (1, .i v8)] [] x7) h ?_
  intro v8 x7 again5 ih6 h
  refine k_iload_n o hb dX6_init_20 rfl 1 rfl ?_
  refine k_bipush (v := 10) o hb dX6_init_21 (by decide) ?_
  refine k_icmp_ge (tgt := 45) o hb dX6_init_23 (by decide) h (fun h => ?_) (fun h => ?_)
  · skip
    exact k_vret o hb B.hr fr dX6_init_45 h
  · skip
    refine k_aload_n o hb dX6_init_26 rfl 0 rfl ?_
    refine k_getF (C := RX6) (T := TX6) (N := 8) o hb hts in6 hown rfl (by decide) 0 (by decide) rfl (hts (.fieldLink RX6 11 "FactKeeper$Reader" "goals" "[LFactKeeper$Goal;") (by decide +kernel)) (fun _ h9 => h9) dX6_init_27 h (fun v9 h => ?_)
    refine k_iload_n o hb dX6_init_30 rfl 1 rfl ?_
    refine k_new (C := RX2) (T := TX2) (N := 6) o hb hts in2 tyX2 tyX2_ok hown (hts (.classLink RX6 9 RX2) (by decide +kernel)) (hts (.instantiable RX2 6) (by decide +kernel)) (hts (.initialized RX2) (by decide +kernel)) rfl (by decide) (fun j hj => by rcases (show j = 0 ∨ j = 1 ∨ j = 2 ∨ j = 3 ∨ j = 4 ∨ j = 5 by omega) with rfl | rfl | rfl | rfl | rfl | rfl <;> rfl) dX6_init_31 h (fun q10 x11 h => ?_)
    refine k_dup o hb dX6_init_34 ?_
    refine k_run_v o (fun _ _ q => q.elim) (k_runIN (host := RX11) o hb B.hml hown hts (T_X2_init g.l o.hl g.D g.cA h) yX_no ⟨va_cnB 0 hts gX6_init_X2_init_n21 rfl rfl rfl o.hZ.2.2.1.2.2.2.1 (hts (.initialized RX2) (by decide +kernel)) (by decide +kernel) ⟨yle B.hR1 rfl, yle B.hR2 rfl⟩, rfl, hts (.instanceMethod yX2_init) (by decide +kernel)⟩ rfl rfl (Nat.le_of_ble_eq_true rfl) dX6_init_35) (fun x12 h => ?_)
    refine k_aast (kd := 27) (ci := 2) (t0 := 6) (rc := (RX2, TX2, 6)) o hb rfl (by decide) (by decide) rfl dX6_init_38 h (fun x14 h => ?_)
    refine k_iinc (w := 1) o hb dX6_init_39 1 rfl (by decide) rfl ?_
    refine k_goto (tgt := 20) o hb dX6_init_42 (by decide) ?_
    exact KW.sub [1, 0] rfl (ih6 (v8 + 1) x14 h)
theorem dX6_here_0 : decode cX6_here 0 = .ok (.aload_n 0, 1) := by decide +kernel
theorem dX6_here_1 : decode cX6_here 1 = .ok (.getfield 33, 3) := by decide +kernel
theorem dX6_here_4 : decode cX6_here 4 = .ok (.ifCond .lt 26, 3) := by decide +kernel
theorem dX6_here_7 : decode cX6_here 7 = .ok (.aload_n 0, 1) := by decide +kernel
theorem dX6_here_8 : decode cX6_here 8 = .ok (.getfield 33, 3) := by decide +kernel
theorem dX6_here_11 : decode cX6_here 11 = .ok (.aload_n 0, 1) := by decide +kernel
theorem dX6_here_12 : decode cX6_here 12 = .ok (.getfield 26, 3) := by decide +kernel
theorem dX6_here_15 : decode cX6_here 15 = .ok (.if_icmp .ge 15, 3) := by decide +kernel
theorem dX6_here_18 : decode cX6_here 18 = .ok (.aload_n 0, 1) := by decide +kernel
theorem dX6_here_19 : decode cX6_here 19 = .ok (.getfield 33, 3) := by decide +kernel
theorem dX6_here_22 : decode cX6_here 22 = .ok (.aload_n 0, 1) := by decide +kernel
theorem dX6_here_23 : decode cX6_here 23 = .ok (.getfield 22, 3) := by decide +kernel
theorem dX6_here_26 : decode cX6_here 26 = .ok (.arraylength, 1) := by decide +kernel
theorem dX6_here_27 : decode cX6_here 27 = .ok (.if_icmp .lt 7, 3) := by decide +kernel
theorem dX6_here_30 : decode cX6_here 30 = .ok (.iconst (-1), 1) := by decide +kernel
theorem dX6_here_31 : decode cX6_here 31 = .ok (.goto 16, 3) := by decide +kernel
theorem dX6_here_34 : decode cX6_here 34 = .ok (.aload_n 0, 1) := by decide +kernel
theorem dX6_here_35 : decode cX6_here 35 = .ok (.getfield 22, 3) := by decide +kernel
theorem dX6_here_38 : decode cX6_here 38 = .ok (.aload_n 0, 1) := by decide +kernel
theorem dX6_here_39 : decode cX6_here 39 = .ok (.getfield 33, 3) := by decide +kernel
theorem dX6_here_42 : decode cX6_here 42 = .ok (.baload, 1) := by decide +kernel
theorem dX6_here_43 : decode cX6_here 43 = .ok (.sipush 255, 3) := by decide +kernel
theorem dX6_here_46 : decode cX6_here 46 = .ok (.iand, 1) := by decide +kernel
theorem dX6_here_47 : decode cX6_here 47 = .ok (.ireturn, 1) := by decide +kernel
set_option maxHeartbeats 4000000 in
set_option maxRecDepth 100000 in
theorem T_X6_here (l : Launch) (hl : l.stackTraces = false) (D : va_G) (cA : Nat → ClassId) {l0 : Option Nat} {x : HS} {Q : Int32 → HS → Prop} {X : String → HS → Prop} (h : w_X6_here l0 x Q X) : YI l yX6_here wsX6_here 0 0 D cA [.q l0] x Q X := by
  refine YI.of (cc := cX6_here) (maxL := 1) (ret := (some .int)) hl (by decide) rfl rfl (fun g B fr => ?_)
  have o := B.o
  have hb := B.hb
  have hts := B.hts
  have hown : g.s.vm.findClass RX6 = some g.m.cls := B.hown
  have in6 : ∀ w ∈ u_ws RX6 TX6 8, w ∈ wsX6_here := fun w h => (List.mem_cons_of_mem _ (List.mem_append_right _ h))
  unfold w_X6_here at h
  show KW g 1 0 [(0, .q l0)] [] x
  refine k_aload_n o hb dX6_here_0 rfl 0 rfl ?_
  refine k_getI (C := RX6) (T := TX6) (N := 8) o hb hts in6 hown rfl (by decide) 6 (by decide) rfl (hts (.fieldLink RX6 33 "FactKeeper$Reader" "at" "I") (by decide +kernel)) (fun _ h9 => h9) dX6_here_1 h (fun v1 h => ?_)
  refine wJoin_elim (M := fun K => ∀ (v4 : Int32) (x3 : HS), K v4 x3 → KW g 1 47 [] [.i v4] x3) h ?_ (fun j2 hj2 h => ?_)
  · skip
    intro v4 x3 h
    exact k_iret o hb B.hr fr dX6_here_47 h
  · skip
    refine wJoin_elim (M := fun K => ∀  (x6 : HS), K  x6 → KW g 1 30 [] [] x6) h ?_ (fun j5 hj5 h => ?_)
    · skip
      intro  x6 h
      refine k_iconst (v := (-1)) o hb dX6_here_30 (by decide) ?_
      refine k_goto (tgt := 47) o hb dX6_here_31 (by decide) ?_
      exact KW.sub [] rfl (hj2 (-1) x6 h)
    · skip
      refine k_if_lt (tgt := 30) o hb dX6_here_4 (by decide) h (fun h => ?_) (fun h => ?_)
      · skip
        exact KW.sub [] rfl (hj5 x h)
      · skip
        refine k_aload_n o hb dX6_here_7 rfl 0 rfl ?_
        refine k_getI (C := RX6) (T := TX6) (N := 8) o hb hts in6 hown rfl (by decide) 6 (by decide) rfl (hts (.fieldLink RX6 33 "FactKeeper$Reader" "at" "I") (by decide +kernel)) (fun _ h9 => h9) dX6_here_8 h (fun v7 h => ?_)
        refine k_aload_n o hb dX6_here_11 rfl 0 rfl ?_
        refine k_getI (C := RX6) (T := TX6) (N := 8) o hb hts in6 hown rfl (by decide) 5 (by decide) rfl (hts (.fieldLink RX6 26 "FactKeeper$Reader" "length" "I") (by decide +kernel)) (fun _ h9 => h9) dX6_here_12 h (fun v8 h => ?_)
        refine k_icmp_ge (tgt := 30) o hb dX6_here_15 (by decide) h (fun h => ?_) (fun h => ?_)
        · skip
          exact KW.sub [] rfl (hj5 x h)
        · skip
          refine k_aload_n o hb dX6_here_18 rfl 0 rfl ?_
          refine k_getI (C := RX6) (T := TX6) (N := 8) o hb hts in6 hown rfl (by decide) 6 (by decide) rfl (hts (.fieldLink RX6 33 "FactKeeper$Reader" "at" "I") (by decide +kernel)) (fun _ h9 => h9) dX6_here_19 h (fun v9 h => ?_)
          refine k_aload_n o hb dX6_here_22 rfl 0 rfl ?_
          refine k_getF (C := RX6) (T := TX6) (N := 8) o hb hts in6 hown rfl (by decide) 4 (by decide) rfl (hts (.fieldLink RX6 22 "FactKeeper$Reader" "text" "[B") (by decide +kernel)) (fun _ h9 => h9) dX6_here_23 h (fun v10 h => ?_)
          refine k_alen (kd := 21) (t0 := 1) o hb (by decide) rfl dX6_here_26 h (fun v11 h => ?_)
          refine k_icmp_lt (tgt := 34) o hb dX6_here_27 (by decide) h (fun h => ?_) (fun h => ?_)
          · skip
            refine k_aload_n o hb dX6_here_34 rfl 0 rfl ?_
            refine k_getF (C := RX6) (T := TX6) (N := 8) o hb hts in6 hown rfl (by decide) 4 (by decide) rfl (hts (.fieldLink RX6 22 "FactKeeper$Reader" "text" "[B") (by decide +kernel)) (fun _ h9 => h9) dX6_here_35 h (fun v12 h => ?_)
            refine k_aload_n o hb dX6_here_38 rfl 0 rfl ?_
            refine k_getI (C := RX6) (T := TX6) (N := 8) o hb hts in6 hown rfl (by decide) 6 (by decide) rfl (hts (.fieldLink RX6 33 "FactKeeper$Reader" "at" "I") (by decide +kernel)) (fun _ h9 => h9) dX6_here_39 h (fun v13 h => ?_)
            refine k_bald o hb dX6_here_42 h (fun v14 h => ?_)
            refine k_sipush (v := 255) o hb dX6_here_43 (by decide) ?_
            refine k_iand o hb dX6_here_46 ?_
            exact KW.sub [] rfl (hj2 (v14 &&& 255) x h)
          · skip
            exact KW.sub [] rfl (hj5 x h)
theorem dX6_skipBlanks_0 : decode cX6_skipBlanks 0 = .ok (.aload_n 0, 1) := by decide +kernel
theorem dX6_skipBlanks_1 : decode cX6_skipBlanks 1 = .ok (.getfield 33, 3) := by decide +kernel
theorem dX6_skipBlanks_4 : decode cX6_skipBlanks 4 = .ok (.aload_n 0, 1) := by decide +kernel
theorem dX6_skipBlanks_5 : decode cX6_skipBlanks 5 = .ok (.getfield 26, 3) := by decide +kernel
theorem dX6_skipBlanks_8 : decode cX6_skipBlanks 8 = .ok (.if_icmp .ge 25, 3) := by decide +kernel
theorem dX6_skipBlanks_11 : decode cX6_skipBlanks 11 = .ok (.aload_n 0, 1) := by decide +kernel
theorem dX6_skipBlanks_12 : decode cX6_skipBlanks 12 = .ok (.invokevirtual 42, 3) := by decide +kernel
theorem dX6_skipBlanks_15 : decode cX6_skipBlanks 15 = .ok (.bipush 32, 2) := by decide +kernel
theorem dX6_skipBlanks_17 : decode cX6_skipBlanks 17 = .ok (.if_icmp .ne 16, 3) := by decide +kernel
theorem dX6_skipBlanks_20 : decode cX6_skipBlanks 20 = .ok (.aload_n 0, 1) := by decide +kernel
theorem dX6_skipBlanks_21 : decode cX6_skipBlanks 21 = .ok (.dup, 1) := by decide +kernel
theorem dX6_skipBlanks_22 : decode cX6_skipBlanks 22 = .ok (.getfield 33, 3) := by decide +kernel
theorem dX6_skipBlanks_25 : decode cX6_skipBlanks 25 = .ok (.iconst 1, 1) := by decide +kernel
theorem dX6_skipBlanks_26 : decode cX6_skipBlanks 26 = .ok (.iadd, 1) := by decide +kernel
theorem dX6_skipBlanks_27 : decode cX6_skipBlanks 27 = .ok (.putfield 33, 3) := by decide +kernel
theorem dX6_skipBlanks_30 : decode cX6_skipBlanks 30 = .ok (.goto (-30), 3) := by decide +kernel
theorem dX6_skipBlanks_33 : decode cX6_skipBlanks 33 = .ok (.return_, 1) := by decide +kernel
theorem i9wsX6_skipBlanks_0 : ∀ w ∈ ([.fieldLink RX6 33 "FactKeeper$Reader" "at" "I", .fieldLink RX6 26 "FactKeeper$Reader" "length" "I", .methodLink RX6 42 yX6_here, .instanceMethod yX6_here, .selects RX6 yX6_here yX6_here, .initialized RX6, .code yX6_here cX6_here 1 (some .int), .fieldLink RX6 22 "FactKeeper$Reader" "text" "[B"] : List Cond), w ∈ wsX6_skipBlanks := fun _ h => (List.mem_cons_of_mem _ (List.mem_append_left _ h))
theorem i9wsX6_skipBlanks_1 : ∀ w ∈ wsX60, w ∈ wsX6_skipBlanks := fun _ h => (List.mem_cons_of_mem _ (List.mem_append_right _ h))
set_option maxRecDepth 20000 in
theorem ggX6_skipBlanks_X6_here : GoodIn wsX6_skipBlanks wsX6_here := (gin_c (mem_at i9wsX6_skipBlanks_0 6 rfl) rfl (goodIn_app (gin_c (mem_at i9wsX6_skipBlanks_0 0 rfl) rfl (gin_c (mem_at i9wsX6_skipBlanks_0 1 rfl) rfl (gin_c (mem_at i9wsX6_skipBlanks_0 7 rfl) rfl gin_n))) (goodIn_sub i9wsX6_skipBlanks_1 g9_7)))
set_option maxRecDepth 20000 in
theorem gX6_skipBlanks_X6_here : GoodIn wsX6_skipBlanks (wsV RX6 42 RX6 yX6_here wsX6_here) := goodIn_app (gin_c (mem_at i9wsX6_skipBlanks_0 2 rfl) rfl (gin_c (mem_at i9wsX6_skipBlanks_0 3 rfl) rfl (gin_c (mem_at i9wsX6_skipBlanks_0 4 rfl) rfl (gin_c (mem_at i9wsX6_skipBlanks_0 5 rfl) rfl gin_n)))) ggX6_skipBlanks_X6_here
set_option maxHeartbeats 4000000 in
set_option maxRecDepth 100000 in
theorem T_X6_skipBlanks (l : Launch) (hl : l.stackTraces = false) (D : va_G) (cA : Nat → ClassId) {l0 : Option Nat} {x : HS} {Q : HS → Prop} {X : String → HS → Prop} (h : w_X6_skipBlanks l0 x Q X) : YV l yX6_skipBlanks wsX6_skipBlanks 1 20 D cA [.q l0] x Q X := by
  refine YV.of (cc := cX6_skipBlanks) (maxL := 1) (ret := none) hl (by decide) rfl rfl (fun g B fr => ?_)
  have o := B.o
  have hb := B.hb
  have hts := B.hts
  have hown : g.s.vm.findClass RX6 = some g.m.cls := B.hown
  have in6 : ∀ w ∈ u_ws RX6 TX6 8, w ∈ wsX6_skipBlanks := fun w h => (List.mem_cons_of_mem _ (List.mem_append_right _ h))
  unfold w_X6_skipBlanks at h
  show KW g 1 0 [(0, .q l0)] [] x
  refine KW.sub [0] rfl ?_
  refine wLoop_elim (M := fun (v4 : Unit) (x3 : HS) => KW g 1 0 [(0, .q l0)] [] x3) h ?_
  intro v4 x3 again1 ih2 h
  refine k_aload_n o hb dX6_skipBlanks_0 rfl 0 rfl ?_
  refine k_getI (C := RX6) (T := TX6) (N := 8) o hb hts in6 hown rfl (by decide) 6 (by decide) rfl (hts (.fieldLink RX6 33 "FactKeeper$Reader" "at" "I") (by decide +kernel)) (fun _ h9 => h9) dX6_skipBlanks_1 h (fun v5 h => ?_)
  refine k_aload_n o hb dX6_skipBlanks_4 rfl 0 rfl ?_
  refine k_getI (C := RX6) (T := TX6) (N := 8) o hb hts in6 hown rfl (by decide) 5 (by decide) rfl (hts (.fieldLink RX6 26 "FactKeeper$Reader" "length" "I") (by decide +kernel)) (fun _ h9 => h9) dX6_skipBlanks_5 h (fun v6 h => ?_)
  refine wJoin_elim (M := fun K => ∀  (x8 : HS), K  x8 → KW g 1 33 [] [] x8) h ?_ (fun j7 hj7 h => ?_)
  · skip
    intro  x8 h
    exact k_vret o hb B.hr fr dX6_skipBlanks_33 h
  · skip
    refine k_icmp_ge (tgt := 33) o hb dX6_skipBlanks_8 (by decide) h (fun h => ?_) (fun h => ?_)
    · skip
      exact KW.sub [] rfl (hj7 x3 h)
    · skip
      refine k_aload_n o hb dX6_skipBlanks_11 rfl 0 rfl ?_
      refine k_run_i o (fun _ _ q => q) (k_runV (ci := 6) (rc := (RX6, TX6, 8)) o hb B.hml hown hts rfl (by decide) (T_X6_here g.l o.hl g.D g.cA h.2) (cwV 0 hts gX6_skipBlanks_X6_here rfl rfl rfl (by decide +kernel) ⟨yle B.hR1 rfl, yle B.hR2 rfl⟩) h.1 rfl rfl (Nat.le_of_ble_eq_true rfl) dX6_skipBlanks_12) (fun v10 x9 h => ?_)
      refine k_bipush (v := 32) o hb dX6_skipBlanks_15 (by decide) ?_
      refine k_icmp_ne (tgt := 33) o hb dX6_skipBlanks_17 (by decide) h (fun h => ?_) (fun h => ?_)
      · skip
        refine k_aload_n o hb dX6_skipBlanks_20 rfl 0 rfl ?_
        refine k_dup o hb dX6_skipBlanks_21 ?_
        refine k_getI (C := RX6) (T := TX6) (N := 8) o hb hts in6 hown rfl (by decide) 6 (by decide) rfl (hts (.fieldLink RX6 33 "FactKeeper$Reader" "at" "I") (by decide +kernel)) (fun _ h9 => h9) dX6_skipBlanks_22 h (fun v11 h => ?_)
        refine k_iconst (v := 1) o hb dX6_skipBlanks_25 (by decide) ?_
        refine k_iadd o hb dX6_skipBlanks_26 ?_
        refine k_putI (C := RX6) (T := TX6) (N := 8) (ty := .int) o hb hts in6 tyX6 tyX6_ok nmX6 hown rfl (by decide) 6 (by decide) rfl (hts (.fieldLink RX6 33 "FactKeeper$Reader" "at" "I") (by decide +kernel)) (fun _ h9 => h9) rfl (by decide +kernel) (fun _ => rfl) (fun _ => rfl) dX6_skipBlanks_27 h (fun x12 h => ?_)
        refine k_goto (tgt := 0) o hb dX6_skipBlanks_30 (by decide) ?_
        exact KW.sub [0] rfl (ih2 () x12 h)
      · skip
        exact KW.sub [] rfl (hj7 x9 h)
theorem dX6_refuse_0 : decode cX6_refuse 0 = .ok (.aload_n 0, 1) := by decide +kernel
theorem dX6_refuse_1 : decode cX6_refuse 1 = .ok (.iload_n 1, 1) := by decide +kernel
theorem dX6_refuse_2 : decode cX6_refuse 2 = .ok (.putfield 17, 3) := by decide +kernel
theorem dX6_refuse_5 : decode cX6_refuse 5 = .ok (.new 131, 3) := by decide +kernel
theorem dX6_refuse_8 : decode cX6_refuse 8 = .ok (.dup, 1) := by decide +kernel
theorem dX6_refuse_9 : decode cX6_refuse 9 = .ok (.ldc 133, 2) := by decide +kernel
theorem dX6_refuse_11 : decode cX6_refuse 11 = .ok (.invokespecial 135, 3) := by decide +kernel
theorem dX6_refuse_14 : decode cX6_refuse 14 = .ok (.athrow, 1) := by decide +kernel
set_option maxHeartbeats 4000000 in
set_option maxRecDepth 100000 in
theorem T_X6_refuse (l : Launch) (hl : l.stackTraces = false) (D : va_G) (cA : Nat → ClassId) {l0 : Option Nat} {l1 : Int32} {x : HS} {Q : HS → Prop} {X : String → HS → Prop} (h : w_X6_refuse l0 l1 x Q X) : YV l yX6_refuse wsX6_refuse 6 90 D cA [.q l0, .i l1] x Q X := by
  refine YV.of (cc := cX6_refuse) (maxL := 2) (ret := none) hl (by decide) rfl rfl (fun g B fr => ?_)
  have o := B.o
  have hb := B.hb
  have hts := B.hts
  have hown : g.s.vm.findClass RX6 = some g.m.cls := B.hown
  have in6 : ∀ w ∈ u_ws RX6 TX6 8, w ∈ wsX6_refuse := fun w h => (List.mem_cons_of_mem _ (List.mem_append_left _ (List.mem_append_right _ h)))
  unfold w_X6_refuse at h
  show KW g 2 0 [(0, .q l0), (1, .i l1)] [] x
  refine k_aload_n o hb dX6_refuse_0 rfl 0 rfl ?_
  refine k_iload_n o hb dX6_refuse_1 rfl 1 rfl ?_
  refine k_putI (C := RX6) (T := TX6) (N := 8) (ty := .int) o hb hts in6 tyX6 tyX6_ok nmX6 hown rfl (by decide) 3 (by decide) rfl (hts (.fieldLink RX6 17 "FactKeeper$Reader" "place" "I") (by decide +kernel)) (fun _ h9 => h9) rfl (by decide +kernel) (fun _ => rfl) (fun _ => rfl) dX6_refuse_2 h (fun x1 h => ?_)
  refine k_throw (E := eUO) o (fun H locs cells slots mc ms ls XC hls hS hc1 hs1 hc2 hs2 hx9 => ?_) h
  obtain ⟨sa, hsa⟩ := o.hZ.2.2.2.2.2.2.1.2.2.2.2.2.2.2.2.2.2.2.2.2.2.2.1
  exact vx_throwS (cls := eUO) (names := eSup) (A := g.A) o.hx hb o.hl hown (by decide +kernel) (by decide +kernel) (hts (.classLink RX6 131 "java/lang/UnsupportedOperationException") (by decide +kernel)) (hts (.initialized "java/lang/UnsupportedOperationException") (by decide +kernel)) hsa (tx_at hts (fun w h => (List.mem_cons_of_mem _ (List.mem_append_right _ h))) (by decide +kernel) o.hZ.2.2.2.1.2.2.2.2.1 o.hZ.2.2.2.2.2.2.2) (by decide +kernel) o.hZ.1 o.hZ.2.1 hS (hls.trans B.hml.symm) dX6_refuse_5 dX6_refuse_8 dX6_refuse_9 dX6_refuse_11 dX6_refuse_14 (fun x h => (o.htb x h).elim) (ylt B.hR1 rfl) (by rw [lq_cats]; exact yle B.hR2 rfl) hc1 hs1 o.hlk (fun t ha h1 h2 => hx9 t ha h1 h2) hS.2.2 hc2 hs2
theorem dX6_take_0 : decode cX6_take 0 = .ok (.aload_n 0, 1) := by decide +kernel
theorem dX6_take_1 : decode cX6_take 1 = .ok (.invokevirtual 42, 3) := by decide +kernel
theorem dX6_take_4 : decode cX6_take 4 = .ok (.iload_n 1, 1) := by decide +kernel
theorem dX6_take_5 : decode cX6_take 5 = .ok (.if_icmp .eq 11, 3) := by decide +kernel
theorem dX6_take_8 : decode cX6_take 8 = .ok (.aload_n 0, 1) := by decide +kernel
theorem dX6_take_9 : decode cX6_take 9 = .ok (.aload_n 0, 1) := by decide +kernel
theorem dX6_take_10 : decode cX6_take 10 = .ok (.getfield 33, 3) := by decide +kernel
theorem dX6_take_13 : decode cX6_take 13 = .ok (.invokevirtual 60, 3) := by decide +kernel
theorem dX6_take_16 : decode cX6_take 16 = .ok (.aload_n 0, 1) := by decide +kernel
theorem dX6_take_17 : decode cX6_take 17 = .ok (.dup, 1) := by decide +kernel
theorem dX6_take_18 : decode cX6_take 18 = .ok (.getfield 33, 3) := by decide +kernel
theorem dX6_take_21 : decode cX6_take 21 = .ok (.iconst 1, 1) := by decide +kernel
theorem dX6_take_22 : decode cX6_take 22 = .ok (.iadd, 1) := by decide +kernel
theorem dX6_take_23 : decode cX6_take 23 = .ok (.putfield 33, 3) := by decide +kernel
theorem dX6_take_26 : decode cX6_take 26 = .ok (.return_, 1) := by decide +kernel
theorem i9wsX6_take_0 : ∀ w ∈ ([.fieldLink RX6 33 "FactKeeper$Reader" "at" "I", .methodLink RX6 42 yX6_here, .instanceMethod yX6_here, .selects RX6 yX6_here yX6_here, .initialized RX6, .code yX6_here cX6_here 1 (some .int), .fieldLink RX6 26 "FactKeeper$Reader" "length" "I", .fieldLink RX6 22 "FactKeeper$Reader" "text" "[B", .methodLink RX6 60 yX6_refuse, .instanceMethod yX6_refuse, .selects RX6 yX6_refuse yX6_refuse, .code yX6_refuse cX6_refuse 2 none, .classLink RX6 131 "java/lang/UnsupportedOperationException", .initialized "java/lang/UnsupportedOperationException", .fieldLink RX6 17 "FactKeeper$Reader" "place" "I"] : List Cond), w ∈ wsX6_take := fun _ h => (List.mem_cons_of_mem _ (List.mem_append_left _ (List.mem_append_left _ h)))
theorem i9wsX6_take_1 : ∀ w ∈ wsX60, w ∈ wsX6_take := fun _ h => (List.mem_cons_of_mem _ (List.mem_append_left _ (List.mem_append_right _ h)))
set_option maxRecDepth 20000 in
theorem ggX6_take_X6_here : GoodIn wsX6_take wsX6_here := (gin_c (mem_at i9wsX6_take_0 5 rfl) rfl (goodIn_app (gin_c (mem_at i9wsX6_take_0 0 rfl) rfl (gin_c (mem_at i9wsX6_take_0 6 rfl) rfl (gin_c (mem_at i9wsX6_take_0 7 rfl) rfl gin_n))) (goodIn_sub i9wsX6_take_1 g9_7)))
set_option maxRecDepth 20000 in
theorem gX6_take_X6_here : GoodIn wsX6_take (wsV RX6 42 RX6 yX6_here wsX6_here) := goodIn_app (gin_c (mem_at i9wsX6_take_0 1 rfl) rfl (gin_c (mem_at i9wsX6_take_0 2 rfl) rfl (gin_c (mem_at i9wsX6_take_0 3 rfl) rfl (gin_c (mem_at i9wsX6_take_0 4 rfl) rfl gin_n)))) ggX6_take_X6_here
theorem i9wsX6_take_2 : ∀ w ∈ ((vx_atS RX6 135 "java/lang/UnsupportedOperationException" ["java/lang/RuntimeException", "java/lang/Exception"]).filter goodWord), w ∈ wsX6_take := fun _ h => (List.mem_cons_of_mem _ (List.mem_append_right _ h))
set_option maxRecDepth 20000 in
theorem ggX6_take_X6_refuse : GoodIn wsX6_take wsX6_refuse := (gin_c (mem_at i9wsX6_take_0 11 rfl) rfl (goodIn_app (goodIn_app (gin_c (mem_at i9wsX6_take_0 12 rfl) rfl (gin_c (mem_at i9wsX6_take_0 13 rfl) rfl (gin_c (mem_at i9wsX6_take_0 14 rfl) rfl gin_n))) (goodIn_sub i9wsX6_take_1 g9_7)) (goodIn_sub i9wsX6_take_2 g9_8)))
set_option maxRecDepth 20000 in
theorem gX6_take_X6_refuse : GoodIn wsX6_take (wsV RX6 60 RX6 yX6_refuse wsX6_refuse) := goodIn_app (gin_c (mem_at i9wsX6_take_0 8 rfl) rfl (gin_c (mem_at i9wsX6_take_0 9 rfl) rfl (gin_c (mem_at i9wsX6_take_0 10 rfl) rfl (gin_c (mem_at i9wsX6_take_0 4 rfl) rfl gin_n)))) ggX6_take_X6_refuse
set_option maxHeartbeats 4000000 in
set_option maxRecDepth 100000 in
theorem T_X6_take (l : Launch) (hl : l.stackTraces = false) (D : va_G) (cA : Nat → ClassId) {l0 : Option Nat} {l1 : Int32} {x : HS} {Q : HS → Prop} {X : String → HS → Prop} (h : w_X6_take l0 l1 x Q X) : YV l yX6_take wsX6_take 7 111 D cA [.q l0, .i l1] x Q X := by
  refine YV.of (cc := cX6_take) (maxL := 2) (ret := none) hl (by decide) rfl rfl (fun g B fr => ?_)
  have o := B.o
  have hb := B.hb
  have hts := B.hts
  have hown : g.s.vm.findClass RX6 = some g.m.cls := B.hown
  have in6 : ∀ w ∈ u_ws RX6 TX6 8, w ∈ wsX6_take := fun w h => (List.mem_cons_of_mem _ (List.mem_append_left _ (List.mem_append_right _ h)))
  unfold w_X6_take at h
  show KW g 2 0 [(0, .q l0), (1, .i l1)] [] x
  refine k_aload_n o hb dX6_take_0 rfl 0 rfl ?_
  refine k_run_i o (fun _ _ q => q) (k_runV (ci := 6) (rc := (RX6, TX6, 8)) o hb B.hml hown hts rfl (by decide) (T_X6_here g.l o.hl g.D g.cA h.2) (cwV 0 hts gX6_take_X6_here rfl rfl rfl (by decide +kernel) ⟨yle B.hR1 rfl, yle B.hR2 rfl⟩) h.1 rfl rfl (Nat.le_of_ble_eq_true rfl) dX6_take_1) (fun v2 x1 h => ?_)
  refine k_iload_n o hb dX6_take_4 rfl 1 rfl ?_
  refine wJoin_elim (M := fun K => ∀  (x4 : HS), K  x4 → KW g 2 16 [(0, .q l0)] [] x4) h ?_ (fun j3 hj3 h => ?_)
  · skip
    intro  x4 h
    refine k_aload_n o hb dX6_take_16 rfl 0 rfl ?_
    refine k_dup o hb dX6_take_17 ?_
    refine k_getI (C := RX6) (T := TX6) (N := 8) o hb hts in6 hown rfl (by decide) 6 (by decide) rfl (hts (.fieldLink RX6 33 "FactKeeper$Reader" "at" "I") (by decide +kernel)) (fun _ h9 => h9) dX6_take_18 h (fun v5 h => ?_)
    refine k_iconst (v := 1) o hb dX6_take_21 (by decide) ?_
    refine k_iadd o hb dX6_take_22 ?_
    refine k_putI (C := RX6) (T := TX6) (N := 8) (ty := .int) o hb hts in6 tyX6 tyX6_ok nmX6 hown rfl (by decide) 6 (by decide) rfl (hts (.fieldLink RX6 33 "FactKeeper$Reader" "at" "I") (by decide +kernel)) (fun _ h9 => h9) rfl (by decide +kernel) (fun _ => rfl) (fun _ => rfl) dX6_take_23 h (fun x6 h => ?_)
    exact k_vret o hb B.hr fr dX6_take_26 h
  · skip
    refine k_icmp_eq (tgt := 16) o hb dX6_take_5 (by decide) h (fun h => ?_) (fun h => ?_)
    · skip
      exact KW.sub [0] rfl (hj3 x1 h)
    · skip
      refine k_aload_n o hb dX6_take_8 rfl 0 rfl ?_
      refine k_aload_n o hb dX6_take_9 rfl 0 rfl ?_
      refine k_getI (C := RX6) (T := TX6) (N := 8) o hb hts in6 hown rfl (by decide) 6 (by decide) rfl (hts (.fieldLink RX6 33 "FactKeeper$Reader" "at" "I") (by decide +kernel)) (fun _ h9 => h9) dX6_take_10 h (fun v7 h => ?_)
      refine k_run_v o (fun _ _ q => q) (k_runV (ci := 6) (rc := (RX6, TX6, 8)) o hb B.hml hown hts rfl (by decide) (T_X6_refuse g.l o.hl g.D g.cA h.2) (cwV 1 hts gX6_take_X6_refuse rfl rfl rfl (by decide +kernel) ⟨yle B.hR1 rfl, yle B.hR2 rfl⟩) h.1 rfl rfl (Nat.le_of_ble_eq_true rfl) dX6_take_13) (fun x8 h => ?_)
      exact KW.sub [0] rfl (hj3 x8 h)
theorem dX6_readDigits_0 : decode cX6_readDigits 0 = .ok (.iconst 0, 1) := by decide +kernel
theorem dX6_readDigits_1 : decode cX6_readDigits 1 = .ok (.istore_n 1, 1) := by decide +kernel
theorem dX6_readDigits_2 : decode cX6_readDigits 2 = .ok (.aload_n 0, 1) := by decide +kernel
theorem dX6_readDigits_3 : decode cX6_readDigits 3 = .ok (.getfield 33, 3) := by decide +kernel
theorem dX6_readDigits_6 : decode cX6_readDigits 6 = .ok (.aload_n 0, 1) := by decide +kernel
theorem dX6_readDigits_7 : decode cX6_readDigits 7 = .ok (.getfield 26, 3) := by decide +kernel
theorem dX6_readDigits_10 : decode cX6_readDigits 10 = .ok (.if_icmp .ge 62, 3) := by decide +kernel
theorem dX6_readDigits_13 : decode cX6_readDigits 13 = .ok (.aload_n 0, 1) := by decide +kernel
theorem dX6_readDigits_14 : decode cX6_readDigits 14 = .ok (.getfield 22, 3) := by decide +kernel
theorem dX6_readDigits_17 : decode cX6_readDigits 17 = .ok (.aload_n 0, 1) := by decide +kernel
theorem dX6_readDigits_18 : decode cX6_readDigits 18 = .ok (.getfield 33, 3) := by decide +kernel
theorem dX6_readDigits_21 : decode cX6_readDigits 21 = .ok (.baload, 1) := by decide +kernel
theorem dX6_readDigits_22 : decode cX6_readDigits 22 = .ok (.bipush 48, 2) := by decide +kernel
theorem dX6_readDigits_24 : decode cX6_readDigits 24 = .ok (.if_icmp .lt 48, 3) := by decide +kernel
theorem dX6_readDigits_27 : decode cX6_readDigits 27 = .ok (.aload_n 0, 1) := by decide +kernel
theorem dX6_readDigits_28 : decode cX6_readDigits 28 = .ok (.getfield 22, 3) := by decide +kernel
theorem dX6_readDigits_31 : decode cX6_readDigits 31 = .ok (.aload_n 0, 1) := by decide +kernel
theorem dX6_readDigits_32 : decode cX6_readDigits 32 = .ok (.getfield 33, 3) := by decide +kernel
theorem dX6_readDigits_35 : decode cX6_readDigits 35 = .ok (.baload, 1) := by decide +kernel
theorem dX6_readDigits_36 : decode cX6_readDigits 36 = .ok (.bipush 57, 2) := by decide +kernel
theorem dX6_readDigits_38 : decode cX6_readDigits 38 = .ok (.if_icmp .gt 34, 3) := by decide +kernel
theorem dX6_readDigits_41 : decode cX6_readDigits 41 = .ok (.iload_n 1, 1) := by decide +kernel
theorem dX6_readDigits_42 : decode cX6_readDigits 42 = .ok (.bipush 10, 2) := by decide +kernel
theorem dX6_readDigits_44 : decode cX6_readDigits 44 = .ok (.imul, 1) := by decide +kernel
theorem dX6_readDigits_45 : decode cX6_readDigits 45 = .ok (.aload_n 0, 1) := by decide +kernel
theorem dX6_readDigits_46 : decode cX6_readDigits 46 = .ok (.getfield 22, 3) := by decide +kernel
theorem dX6_readDigits_49 : decode cX6_readDigits 49 = .ok (.aload_n 0, 1) := by decide +kernel
theorem dX6_readDigits_50 : decode cX6_readDigits 50 = .ok (.getfield 33, 3) := by decide +kernel
theorem dX6_readDigits_53 : decode cX6_readDigits 53 = .ok (.baload, 1) := by decide +kernel
theorem dX6_readDigits_54 : decode cX6_readDigits 54 = .ok (.iadd, 1) := by decide +kernel
theorem dX6_readDigits_55 : decode cX6_readDigits 55 = .ok (.bipush 48, 2) := by decide +kernel
theorem dX6_readDigits_57 : decode cX6_readDigits 57 = .ok (.isub, 1) := by decide +kernel
theorem dX6_readDigits_58 : decode cX6_readDigits 58 = .ok (.istore_n 1, 1) := by decide +kernel
theorem dX6_readDigits_59 : decode cX6_readDigits 59 = .ok (.aload_n 0, 1) := by decide +kernel
theorem dX6_readDigits_60 : decode cX6_readDigits 60 = .ok (.dup, 1) := by decide +kernel
theorem dX6_readDigits_61 : decode cX6_readDigits 61 = .ok (.getfield 33, 3) := by decide +kernel
theorem dX6_readDigits_64 : decode cX6_readDigits 64 = .ok (.iconst 1, 1) := by decide +kernel
theorem dX6_readDigits_65 : decode cX6_readDigits 65 = .ok (.iadd, 1) := by decide +kernel
theorem dX6_readDigits_66 : decode cX6_readDigits 66 = .ok (.putfield 33, 3) := by decide +kernel
theorem dX6_readDigits_69 : decode cX6_readDigits 69 = .ok (.goto (-67), 3) := by decide +kernel
theorem dX6_readDigits_72 : decode cX6_readDigits 72 = .ok (.iload_n 1, 1) := by decide +kernel
theorem dX6_readDigits_73 : decode cX6_readDigits 73 = .ok (.ireturn, 1) := by decide +kernel
set_option maxHeartbeats 4000000 in
set_option maxRecDepth 100000 in
theorem T_X6_readDigits (l : Launch) (hl : l.stackTraces = false) (D : va_G) (cA : Nat → ClassId) {l0 : Option Nat} {x : HS} {Q : Int32 → HS → Prop} {X : String → HS → Prop} (h : w_X6_readDigits l0 x Q X) : YI l yX6_readDigits wsX6_readDigits 0 0 D cA [.q l0] x Q X := by
  refine YI.of (cc := cX6_readDigits) (maxL := 2) (ret := (some .int)) hl (by decide) rfl rfl (fun g B fr => ?_)
  have o := B.o
  have hb := B.hb
  have hts := B.hts
  have hown : g.s.vm.findClass RX6 = some g.m.cls := B.hown
  have in6 : ∀ w ∈ u_ws RX6 TX6 8, w ∈ wsX6_readDigits := fun w h => (List.mem_cons_of_mem _ (List.mem_append_right _ h))
  unfold w_X6_readDigits at h
  show KW g 2 0 [(0, .q l0)] [] x
  refine k_iconst (v := 0) o hb dX6_readDigits_0 (by decide) ?_
  refine k_istore_n o hb dX6_readDigits_1 rfl rfl ?_
  refine KW.sub [1, 0] rfl ?_
  refine wLoop_elim (M := fun (v4 : Int32) (x3 : HS) => KW g 2 2 [(0, .q l0), (1, .i v4)] [] x3) h ?_
  intro v4 x3 again1 ih2 h
  refine k_aload_n o hb dX6_readDigits_2 rfl 0 rfl ?_
  refine k_getI (C := RX6) (T := TX6) (N := 8) o hb hts in6 hown rfl (by decide) 6 (by decide) rfl (hts (.fieldLink RX6 33 "FactKeeper$Reader" "at" "I") (by decide +kernel)) (fun _ h9 => h9) dX6_readDigits_3 h (fun v5 h => ?_)
  refine k_aload_n o hb dX6_readDigits_6 rfl 0 rfl ?_
  refine k_getI (C := RX6) (T := TX6) (N := 8) o hb hts in6 hown rfl (by decide) 5 (by decide) rfl (hts (.fieldLink RX6 26 "FactKeeper$Reader" "length" "I") (by decide +kernel)) (fun _ h9 => h9) dX6_readDigits_7 h (fun v6 h => ?_)
  refine wJoin_elim (M := fun K => ∀  (x8 : HS), K  x8 → KW g 2 72 [(1, .i v4)] [] x8) h ?_ (fun j7 hj7 h => ?_)
  · skip
    intro  x8 h
    refine k_iload_n o hb dX6_readDigits_72 rfl 0 rfl ?_
    exact k_iret o hb B.hr fr dX6_readDigits_73 h
  · skip
    refine k_icmp_ge (tgt := 72) o hb dX6_readDigits_10 (by decide) h (fun h => ?_) (fun h => ?_)
    · skip
      exact KW.sub [1] rfl (hj7 x3 h)
    · skip
      refine k_aload_n o hb dX6_readDigits_13 rfl 0 rfl ?_
      refine k_getF (C := RX6) (T := TX6) (N := 8) o hb hts in6 hown rfl (by decide) 4 (by decide) rfl (hts (.fieldLink RX6 22 "FactKeeper$Reader" "text" "[B") (by decide +kernel)) (fun _ h9 => h9) dX6_readDigits_14 h (fun v9 h => ?_)
      refine k_aload_n o hb dX6_readDigits_17 rfl 0 rfl ?_
      refine k_getI (C := RX6) (T := TX6) (N := 8) o hb hts in6 hown rfl (by decide) 6 (by decide) rfl (hts (.fieldLink RX6 33 "FactKeeper$Reader" "at" "I") (by decide +kernel)) (fun _ h9 => h9) dX6_readDigits_18 h (fun v10 h => ?_)
      refine k_bald o hb dX6_readDigits_21 h (fun v11 h => ?_)
      refine k_bipush (v := 48) o hb dX6_readDigits_22 (by decide) ?_
      refine k_icmp_lt (tgt := 72) o hb dX6_readDigits_24 (by decide) h (fun h => ?_) (fun h => ?_)
      · skip
        exact KW.sub [1] rfl (hj7 x3 h)
      · skip
        refine k_aload_n o hb dX6_readDigits_27 rfl 0 rfl ?_
        refine k_getF (C := RX6) (T := TX6) (N := 8) o hb hts in6 hown rfl (by decide) 4 (by decide) rfl (hts (.fieldLink RX6 22 "FactKeeper$Reader" "text" "[B") (by decide +kernel)) (fun _ h9 => h9) dX6_readDigits_28 h (fun v12 h => ?_)
        refine k_aload_n o hb dX6_readDigits_31 rfl 0 rfl ?_
        refine k_getI (C := RX6) (T := TX6) (N := 8) o hb hts in6 hown rfl (by decide) 6 (by decide) rfl (hts (.fieldLink RX6 33 "FactKeeper$Reader" "at" "I") (by decide +kernel)) (fun _ h9 => h9) dX6_readDigits_32 h (fun v13 h => ?_)
        refine k_bald o hb dX6_readDigits_35 h (fun v14 h => ?_)
        refine k_bipush (v := 57) o hb dX6_readDigits_36 (by decide) ?_
        refine k_icmp_gt (tgt := 72) o hb dX6_readDigits_38 (by decide) h (fun h => ?_) (fun h => ?_)
        · skip
          exact KW.sub [1] rfl (hj7 x3 h)
        · skip
          refine k_iload_n o hb dX6_readDigits_41 rfl 1 rfl ?_
          refine k_bipush (v := 10) o hb dX6_readDigits_42 (by decide) ?_
          refine k_imul o hb dX6_readDigits_44 ?_
          refine k_aload_n o hb dX6_readDigits_45 rfl 0 rfl ?_
          refine k_getF (C := RX6) (T := TX6) (N := 8) o hb hts in6 hown rfl (by decide) 4 (by decide) rfl (hts (.fieldLink RX6 22 "FactKeeper$Reader" "text" "[B") (by decide +kernel)) (fun _ h9 => h9) dX6_readDigits_46 h (fun v15 h => ?_)
          refine k_aload_n o hb dX6_readDigits_49 rfl 0 rfl ?_
          refine k_getI (C := RX6) (T := TX6) (N := 8) o hb hts in6 hown rfl (by decide) 6 (by decide) rfl (hts (.fieldLink RX6 33 "FactKeeper$Reader" "at" "I") (by decide +kernel)) (fun _ h9 => h9) dX6_readDigits_50 h (fun v16 h => ?_)
          refine k_bald o hb dX6_readDigits_53 h (fun v17 h => ?_)
          refine k_iadd o hb dX6_readDigits_54 ?_
          refine k_bipush (v := 48) o hb dX6_readDigits_55 (by decide) ?_
          refine k_isub o hb dX6_readDigits_57 ?_
          refine k_istore_n o hb dX6_readDigits_58 rfl rfl ?_
          refine k_aload_n o hb dX6_readDigits_59 rfl 1 rfl ?_
          refine k_dup o hb dX6_readDigits_60 ?_
          refine k_getI (C := RX6) (T := TX6) (N := 8) o hb hts in6 hown rfl (by decide) 6 (by decide) rfl (hts (.fieldLink RX6 33 "FactKeeper$Reader" "at" "I") (by decide +kernel)) (fun _ h9 => h9) dX6_readDigits_61 h (fun v18 h => ?_)
          refine k_iconst (v := 1) o hb dX6_readDigits_64 (by decide) ?_
          refine k_iadd o hb dX6_readDigits_65 ?_
          refine k_putI (C := RX6) (T := TX6) (N := 8) (ty := .int) o hb hts in6 tyX6 tyX6_ok nmX6 hown rfl (by decide) 6 (by decide) rfl (hts (.fieldLink RX6 33 "FactKeeper$Reader" "at" "I") (by decide +kernel)) (fun _ h9 => h9) rfl (by decide +kernel) (fun _ => rfl) (fun _ => rfl) dX6_readDigits_66 h (fun x19 h => ?_)
          refine k_goto (tgt := 2) o hb dX6_readDigits_69 (by decide) ?_
          exact KW.sub [1, 0] rfl (ih2 (((v4 * 10) + v17) - 48) x19 h)
theorem dX6_readTable_0 : decode cX6_readTable 0 = .ok (.aload_n 0, 1) := by decide +kernel
theorem dX6_readTable_1 : decode cX6_readTable 1 = .ok (.getfield 33, 3) := by decide +kernel
theorem dX6_readTable_4 : decode cX6_readTable 4 = .ok (.istore_n 1, 1) := by decide +kernel
theorem dX6_readTable_5 : decode cX6_readTable 5 = .ok (.aload_n 0, 1) := by decide +kernel
theorem dX6_readTable_6 : decode cX6_readTable 6 = .ok (.bipush 116, 2) := by decide +kernel
theorem dX6_readTable_8 : decode cX6_readTable 8 = .ok (.invokevirtual 56, 3) := by decide +kernel
theorem dX6_readTable_11 : decode cX6_readTable 11 = .ok (.aload_n 0, 1) := by decide +kernel
theorem dX6_readTable_12 : decode cX6_readTable 12 = .ok (.getfield 33, 3) := by decide +kernel
theorem dX6_readTable_15 : decode cX6_readTable 15 = .ok (.istore_n 2, 1) := by decide +kernel
theorem dX6_readTable_16 : decode cX6_readTable 16 = .ok (.aload_n 0, 1) := by decide +kernel
theorem dX6_readTable_17 : decode cX6_readTable 17 = .ok (.invokevirtual 93, 3) := by decide +kernel
theorem dX6_readTable_20 : decode cX6_readTable 20 = .ok (.istore_n 3, 1) := by decide +kernel
theorem dX6_readTable_21 : decode cX6_readTable 21 = .ok (.aload_n 0, 1) := by decide +kernel
theorem dX6_readTable_22 : decode cX6_readTable 22 = .ok (.getfield 33, 3) := by decide +kernel
theorem dX6_readTable_25 : decode cX6_readTable 25 = .ok (.iload_n 2, 1) := by decide +kernel
theorem dX6_readTable_26 : decode cX6_readTable 26 = .ok (.if_icmp .eq 14, 3) := by decide +kernel
theorem dX6_readTable_29 : decode cX6_readTable 29 = .ok (.aload_n 0, 1) := by decide +kernel
theorem dX6_readTable_30 : decode cX6_readTable 30 = .ok (.getfield 33, 3) := by decide +kernel
theorem dX6_readTable_33 : decode cX6_readTable 33 = .ok (.iload_n 2, 1) := by decide +kernel
theorem dX6_readTable_34 : decode cX6_readTable 34 = .ok (.isub, 1) := by decide +kernel
theorem dX6_readTable_35 : decode cX6_readTable 35 = .ok (.bipush 9, 2) := by decide +kernel
theorem dX6_readTable_37 : decode cX6_readTable 37 = .ok (.if_icmp .le 8, 3) := by decide +kernel
theorem dX6_readTable_40 : decode cX6_readTable 40 = .ok (.aload_n 0, 1) := by decide +kernel
theorem dX6_readTable_41 : decode cX6_readTable 41 = .ok (.iload_n 2, 1) := by decide +kernel
theorem dX6_readTable_42 : decode cX6_readTable 42 = .ok (.invokevirtual 60, 3) := by decide +kernel
theorem dX6_readTable_45 : decode cX6_readTable 45 = .ok (.aload_n 0, 1) := by decide +kernel
theorem dX6_readTable_46 : decode cX6_readTable 46 = .ok (.getfield 29, 3) := by decide +kernel
theorem dX6_readTable_49 : decode cX6_readTable 49 = .ok (.iload_n 3, 1) := by decide +kernel
theorem dX6_readTable_50 : decode cX6_readTable 50 = .ok (.invokevirtual 96, 3) := by decide +kernel
theorem dX6_readTable_53 : decode cX6_readTable 53 = .ok (.astore 4, 2) := by decide +kernel
theorem dX6_readTable_55 : decode cX6_readTable 55 = .ok (.aload 4, 2) := by decide +kernel
theorem dX6_readTable_57 : decode cX6_readTable 57 = .ok (.ifnonnull 8, 3) := by decide +kernel
theorem dX6_readTable_60 : decode cX6_readTable 60 = .ok (.aload_n 0, 1) := by decide +kernel
theorem dX6_readTable_61 : decode cX6_readTable 61 = .ok (.iload_n 1, 1) := by decide +kernel
theorem dX6_readTable_62 : decode cX6_readTable 62 = .ok (.invokevirtual 60, 3) := by decide +kernel
theorem dX6_readTable_65 : decode cX6_readTable 65 = .ok (.aload 4, 2) := by decide +kernel
theorem dX6_readTable_67 : decode cX6_readTable 67 = .ok (.areturn, 1) := by decide +kernel
theorem i9wsX6_readTable_0 : ∀ w ∈ wsX6_readTable_r1, w ∈ wsX6_readTable := fun _ h => (List.mem_cons_of_mem _ (List.mem_append_left _ (List.mem_append_left _ (List.mem_append_left _ (List.mem_append_left _ h)))))
theorem i9wsX6_readTable_2 : ∀ w ∈ wsX60, w ∈ wsX6_readTable := fun _ h => (List.mem_cons_of_mem _ (List.mem_append_left _ (List.mem_append_left _ (List.mem_append_right _ h))))
theorem i9wsX6_readTable_4 : ∀ w ∈ ((vx_atS RX6 135 "java/lang/UnsupportedOperationException" ["java/lang/RuntimeException", "java/lang/Exception"]).filter goodWord), w ∈ wsX6_readTable := fun _ h => (List.mem_cons_of_mem _ (List.mem_append_right _ h))
set_option maxRecDepth 20000 in
theorem ggX6_readTable_X6_take : GoodIn wsX6_readTable wsX6_take := (gin_c (mem_at i9wsX6_readTable_0 6 rfl) rfl (goodIn_app (goodIn_app (gin_c (mem_at i9wsX6_readTable_0 0 rfl) rfl (gin_c (mem_at i9wsX6_readTable_0 7 rfl) rfl (gin_c (mem_at i9wsX6_readTable_0 8 rfl) rfl (gin_c (mem_at i9wsX6_readTable_0 9 rfl) rfl (gin_c (mem_at i9wsX6_readTable_0 5 rfl) rfl (gin_c (mem_at i9wsX6_readTable_0 10 rfl) rfl (gin_c (mem_at i9wsX6_readTable_0 11 rfl) rfl (gin_c (mem_at i9wsX6_readTable_0 12 rfl) rfl (gin_c (mem_at i9wsX6_readTable_0 13 rfl) rfl (gin_c (mem_at i9wsX6_readTable_0 14 rfl) rfl (gin_c (mem_at i9wsX6_readTable_0 15 rfl) rfl (gin_c (mem_at i9wsX6_readTable_0 16 rfl) rfl (gin_c (mem_at i9wsX6_readTable_0 17 rfl) rfl (gin_c (mem_at i9wsX6_readTable_0 18 rfl) rfl (gin_c (mem_at i9wsX6_readTable_0 19 rfl) rfl gin_n))))))))))))))) (goodIn_sub i9wsX6_readTable_2 g9_7)) (goodIn_sub i9wsX6_readTable_4 g9_8)))
set_option maxRecDepth 20000 in
theorem gX6_readTable_X6_take : GoodIn wsX6_readTable (wsV RX6 56 RX6 yX6_take wsX6_take) := goodIn_app (gin_c (mem_at i9wsX6_readTable_0 2 rfl) rfl (gin_c (mem_at i9wsX6_readTable_0 3 rfl) rfl (gin_c (mem_at i9wsX6_readTable_0 4 rfl) rfl (gin_c (mem_at i9wsX6_readTable_0 5 rfl) rfl gin_n)))) ggX6_readTable_X6_take
set_option maxRecDepth 20000 in
theorem ggX6_readTable_X6_readDigits : GoodIn wsX6_readTable wsX6_readDigits := (gin_c (mem_at i9wsX6_readTable_0 23 rfl) rfl (goodIn_app (gin_c (mem_at i9wsX6_readTable_0 0 rfl) rfl (gin_c (mem_at i9wsX6_readTable_0 11 rfl) rfl (gin_c (mem_at i9wsX6_readTable_0 12 rfl) rfl gin_n))) (goodIn_sub i9wsX6_readTable_2 g9_7)))
set_option maxRecDepth 20000 in
theorem gX6_readTable_X6_readDigits : GoodIn wsX6_readTable (wsV RX6 93 RX6 yX6_readDigits wsX6_readDigits) := goodIn_app (gin_c (mem_at i9wsX6_readTable_0 20 rfl) rfl (gin_c (mem_at i9wsX6_readTable_0 21 rfl) rfl (gin_c (mem_at i9wsX6_readTable_0 22 rfl) rfl (gin_c (mem_at i9wsX6_readTable_0 5 rfl) rfl gin_n)))) ggX6_readTable_X6_readDigits
set_option maxRecDepth 20000 in
theorem ggX6_readTable_X6_refuse : GoodIn wsX6_readTable wsX6_refuse := (gin_c (mem_at i9wsX6_readTable_0 16 rfl) rfl (goodIn_app (goodIn_app (gin_c (mem_at i9wsX6_readTable_0 17 rfl) rfl (gin_c (mem_at i9wsX6_readTable_0 18 rfl) rfl (gin_c (mem_at i9wsX6_readTable_0 19 rfl) rfl gin_n))) (goodIn_sub i9wsX6_readTable_2 g9_7)) (goodIn_sub i9wsX6_readTable_4 g9_8)))
set_option maxRecDepth 20000 in
theorem gX6_readTable_X6_refuse : GoodIn wsX6_readTable (wsV RX6 60 RX6 yX6_refuse wsX6_refuse) := goodIn_app (gin_c (mem_at i9wsX6_readTable_0 13 rfl) rfl (gin_c (mem_at i9wsX6_readTable_0 14 rfl) rfl (gin_c (mem_at i9wsX6_readTable_0 15 rfl) rfl (gin_c (mem_at i9wsX6_readTable_0 5 rfl) rfl gin_n)))) ggX6_readTable_X6_refuse
theorem i9wsX6_readTable_1 : ∀ w ∈ wsX6_readTable_r2, w ∈ wsX6_readTable := fun _ h => (List.mem_cons_of_mem _ (List.mem_append_left _ (List.mem_append_left _ (List.mem_append_left _ (List.mem_append_right _ h)))))
theorem i9wsX6_readTable_3 : ∀ w ∈ wsX90, w ∈ wsX6_readTable := fun _ h => (List.mem_cons_of_mem _ (List.mem_append_left _ (List.mem_append_right _ h)))
set_option maxRecDepth 20000 in
theorem ggX6_readTable_X9_tableAt : GoodIn wsX6_readTable wsX9_tableAt := (gin_c (mem_at i9wsX6_readTable_1 4 rfl) rfl (goodIn_app (gin_c (mem_at i9wsX6_readTable_1 5 rfl) rfl (gin_c (mem_at i9wsX6_readTable_1 6 rfl) rfl gin_n)) (goodIn_sub i9wsX6_readTable_3 g9_5)))
set_option maxRecDepth 20000 in
theorem gX6_readTable_X9_tableAt : GoodIn wsX6_readTable (wsV RX6 96 RX9 yX9_tableAt wsX9_tableAt) := goodIn_app (gin_c (mem_at i9wsX6_readTable_1 0 rfl) rfl (gin_c (mem_at i9wsX6_readTable_1 1 rfl) rfl (gin_c (mem_at i9wsX6_readTable_1 2 rfl) rfl (gin_c (mem_at i9wsX6_readTable_1 3 rfl) rfl gin_n)))) ggX6_readTable_X9_tableAt
set_option maxHeartbeats 4000000 in
set_option maxRecDepth 100000 in
theorem T_X6_readTable (l : Launch) (hl : l.stackTraces = false) (D : va_G) (cA : Nat → ClassId) {l0 : Option Nat} {x : HS} {Q : Option Nat → HS → Prop} {X : String → HS → Prop} (h : w_X6_readTable l0 x Q X) : YQ l yX6_readTable wsX6_readTable 8 132 D cA [.q l0] x Q X := by
  refine YQ.of (cc := cX6_readTable) (maxL := 5) (ret := (some (.object "FactKeeper$Table"))) hl (by decide) rfl rfl (fun g B fr => ?_)
  have o := B.o
  have hb := B.hb
  have hts := B.hts
  have hown : g.s.vm.findClass RX6 = some g.m.cls := B.hown
  have in6 : ∀ w ∈ u_ws RX6 TX6 8, w ∈ wsX6_readTable := fun w h => (List.mem_cons_of_mem _ (List.mem_append_left _ (List.mem_append_left _ (List.mem_append_right _ h))))
  unfold w_X6_readTable at h
  show KW g 5 0 [(0, .q l0)] [] x
  refine k_aload_n o hb dX6_readTable_0 rfl 0 rfl ?_
  refine k_getI (C := RX6) (T := TX6) (N := 8) o hb hts in6 hown rfl (by decide) 6 (by decide) rfl (hts (.fieldLink RX6 33 "FactKeeper$Reader" "at" "I") (by decide +kernel)) (fun _ h9 => h9) dX6_readTable_1 h (fun v1 h => ?_)
  refine k_istore_n o hb dX6_readTable_4 rfl rfl ?_
  refine k_aload_n o hb dX6_readTable_5 rfl 1 rfl ?_
  refine k_bipush (v := 116) o hb dX6_readTable_6 (by decide) ?_
  refine k_run_v o (fun _ _ q => q) (k_runV (ci := 6) (rc := (RX6, TX6, 8)) o hb B.hml hown hts rfl (by decide) (T_X6_take g.l o.hl g.D g.cA h.2) (cwV 1 hts gX6_readTable_X6_take rfl rfl rfl (by decide +kernel) ⟨yle B.hR1 rfl, yle B.hR2 rfl⟩) h.1 rfl rfl (Nat.le_of_ble_eq_true rfl) dX6_readTable_8) (fun x2 h => ?_)
  refine k_aload_n o hb dX6_readTable_11 rfl 1 rfl ?_
  refine k_getI (C := RX6) (T := TX6) (N := 8) o hb hts in6 hown rfl (by decide) 6 (by decide) rfl (hts (.fieldLink RX6 33 "FactKeeper$Reader" "at" "I") (by decide +kernel)) (fun _ h9 => h9) dX6_readTable_12 h (fun v4 h => ?_)
  refine k_istore_n o hb dX6_readTable_15 rfl rfl ?_
  refine k_aload_n o hb dX6_readTable_16 rfl 2 rfl ?_
  refine k_run_i o (fun _ _ q => q) (k_runV (ci := 6) (rc := (RX6, TX6, 8)) o hb B.hml hown hts rfl (by decide) (T_X6_readDigits g.l o.hl g.D g.cA h.2) (cwV 0 hts gX6_readTable_X6_readDigits rfl rfl rfl (by decide +kernel) ⟨yle B.hR1 rfl, yle B.hR2 rfl⟩) h.1 rfl rfl (Nat.le_of_ble_eq_true rfl) dX6_readTable_17) (fun v6 x5 h => ?_)
  refine k_istore_n o hb dX6_readTable_20 rfl rfl ?_
  refine k_aload_n o hb dX6_readTable_21 rfl 3 rfl ?_
  refine k_getI (C := RX6) (T := TX6) (N := 8) o hb hts in6 hown rfl (by decide) 6 (by decide) rfl (hts (.fieldLink RX6 33 "FactKeeper$Reader" "at" "I") (by decide +kernel)) (fun _ h9 => h9) dX6_readTable_22 h (fun v7 h => ?_)
  refine k_iload_n o hb dX6_readTable_25 rfl 1 rfl ?_
  refine wJoin_elim (M := fun K => ∀  (x9 : HS), K  x9 → KW g 5 45 [(0, .q l0), (1, .i v1), (3, .i v6)] [] x9) h ?_ (fun j8 hj8 h => ?_)
  · skip
    intro  x9 h
    refine k_aload_n o hb dX6_readTable_45 rfl 0 rfl ?_
    refine k_getF (C := RX6) (T := TX6) (N := 8) o hb hts in6 hown rfl (by decide) 7 (by decide) rfl (hts (.fieldLink RX6 29 "FactKeeper$Reader" "store" "LFactKeeper$Store;") (by decide +kernel)) (fun _ h9 => h9) dX6_readTable_46 h (fun v10 h => ?_)
    refine k_iload_n o hb dX6_readTable_49 rfl 2 rfl ?_
    refine k_run_q o (fun _ _ q => q) (k_runV (ci := 9) (rc := (RX9, TX9, 8)) o hb B.hml hown hts rfl (by decide) (T_X9_tableAt g.l o.hl g.D g.cA h.2) (cwV 1 hts gX6_readTable_X9_tableAt rfl rfl rfl (by decide +kernel) ⟨yle B.hR1 rfl, yle B.hR2 rfl⟩) h.1 rfl rfl (Nat.le_of_ble_eq_true rfl) dX6_readTable_50) (fun v12 x11 h => ?_)
    refine k_astore o hb dX6_readTable_53 rfl ?_
    refine k_aload o hb dX6_readTable_55 0 rfl ?_
    refine wJoin_elim (M := fun K => ∀  (x14 : HS), K  x14 → KW g 5 65 [(4, .q v12)] [] x14) h ?_ (fun j13 hj13 h => ?_)
    · skip
      intro  x14 h
      refine k_aload o hb dX6_readTable_65 0 rfl ?_
      exact k_aret o hb B.hr (Or.inl ⟨_, rfl⟩) fr dX6_readTable_67 h
    · skip
      refine k_ifnonnull (tgt := 65) o hb dX6_readTable_57 (by decide) h (fun h => ?_) (fun h => ?_)
      · skip
        refine k_aload_n o hb dX6_readTable_60 rfl 1 rfl ?_
        refine k_iload_n o hb dX6_readTable_61 rfl 2 rfl ?_
        refine k_run_v o (fun _ _ q => q) (k_runV (ci := 6) (rc := (RX6, TX6, 8)) o hb B.hml hown hts rfl (by decide) (T_X6_refuse g.l o.hl g.D g.cA h.2) (cwV 1 hts gX6_readTable_X6_refuse rfl rfl rfl (by decide +kernel) ⟨yle B.hR1 rfl, yle B.hR2 rfl⟩) h.1 rfl rfl (Nat.le_of_ble_eq_true rfl) dX6_readTable_62) (fun x15 h => ?_)
        exact KW.sub [0] rfl (hj13 x15 h)
      · skip
        exact KW.sub [0] rfl (hj13 x11 h)
  · skip
    refine wJoin_elim (M := fun K => ∀  (x18 : HS), K  x18 → KW g 5 40 [(0, .q l0), (1, .i v1), (2, .i v4), (3, .i v6)] [] x18) h ?_ (fun j17 hj17 h => ?_)
    · skip
      intro  x18 h
      refine k_aload_n o hb dX6_readTable_40 rfl 0 rfl ?_
      refine k_iload_n o hb dX6_readTable_41 rfl 2 rfl ?_
      refine k_run_v o (fun _ _ q => q) (k_runV (ci := 6) (rc := (RX6, TX6, 8)) o hb B.hml hown hts rfl (by decide) (T_X6_refuse g.l o.hl g.D g.cA h.2) (cwV 1 hts gX6_readTable_X6_refuse rfl rfl rfl (by decide +kernel) ⟨yle B.hR1 rfl, yle B.hR2 rfl⟩) h.1 rfl rfl (Nat.le_of_ble_eq_true rfl) dX6_readTable_42) (fun x19 h => ?_)
      exact KW.sub [0, 1, 3] rfl (hj8 x19 h)
    · skip
      refine k_icmp_eq (tgt := 40) o hb dX6_readTable_26 (by decide) h (fun h => ?_) (fun h => ?_)
      · skip
        exact KW.sub [3, 2, 1, 0] rfl (hj17 x5 h)
      · skip
        refine k_aload_n o hb dX6_readTable_29 rfl 3 rfl ?_
        refine k_getI (C := RX6) (T := TX6) (N := 8) o hb hts in6 hown rfl (by decide) 6 (by decide) rfl (hts (.fieldLink RX6 33 "FactKeeper$Reader" "at" "I") (by decide +kernel)) (fun _ h9 => h9) dX6_readTable_30 h (fun v21 h => ?_)
        refine k_iload_n o hb dX6_readTable_33 rfl 1 rfl ?_
        refine k_isub o hb dX6_readTable_34 ?_
        refine k_bipush (v := 9) o hb dX6_readTable_35 (by decide) ?_
        refine k_icmp_le (tgt := 45) o hb dX6_readTable_37 (by decide) h (fun h => ?_) (fun h => ?_)
        · skip
          exact KW.sub [3, 2, 0] rfl (hj8 x5 h)
        · skip
          exact KW.sub [3, 2, 1, 0] rfl (hj17 x5 h)
theorem dX6_readNumber_0 : decode cX6_readNumber 0 = .ok (.aload_n 0, 1) := by decide +kernel
theorem dX6_readNumber_1 : decode cX6_readNumber 1 = .ok (.getfield 33, 3) := by decide +kernel
theorem dX6_readNumber_4 : decode cX6_readNumber 4 = .ok (.istore_n 1, 1) := by decide +kernel
theorem dX6_readNumber_5 : decode cX6_readNumber 5 = .ok (.aload_n 0, 1) := by decide +kernel
theorem dX6_readNumber_6 : decode cX6_readNumber 6 = .ok (.invokevirtual 42, 3) := by decide +kernel
theorem dX6_readNumber_9 : decode cX6_readNumber 9 = .ok (.bipush 45, 2) := by decide +kernel
theorem dX6_readNumber_11 : decode cX6_readNumber 11 = .ok (.if_icmp .ne 7, 3) := by decide +kernel
theorem dX6_readNumber_14 : decode cX6_readNumber 14 = .ok (.iconst 1, 1) := by decide +kernel
theorem dX6_readNumber_15 : decode cX6_readNumber 15 = .ok (.goto 4, 3) := by decide +kernel
theorem dX6_readNumber_18 : decode cX6_readNumber 18 = .ok (.iconst 0, 1) := by decide +kernel
theorem dX6_readNumber_19 : decode cX6_readNumber 19 = .ok (.istore_n 2, 1) := by decide +kernel
theorem dX6_readNumber_20 : decode cX6_readNumber 20 = .ok (.iload_n 2, 1) := by decide +kernel
theorem dX6_readNumber_21 : decode cX6_readNumber 21 = .ok (.ifCond .eq 13, 3) := by decide +kernel
theorem dX6_readNumber_24 : decode cX6_readNumber 24 = .ok (.aload_n 0, 1) := by decide +kernel
theorem dX6_readNumber_25 : decode cX6_readNumber 25 = .ok (.dup, 1) := by decide +kernel
theorem dX6_readNumber_26 : decode cX6_readNumber 26 = .ok (.getfield 33, 3) := by decide +kernel
theorem dX6_readNumber_29 : decode cX6_readNumber 29 = .ok (.iconst 1, 1) := by decide +kernel
theorem dX6_readNumber_30 : decode cX6_readNumber 30 = .ok (.iadd, 1) := by decide +kernel
theorem dX6_readNumber_31 : decode cX6_readNumber 31 = .ok (.putfield 33, 3) := by decide +kernel
theorem dX6_readNumber_34 : decode cX6_readNumber 34 = .ok (.aload_n 0, 1) := by decide +kernel
theorem dX6_readNumber_35 : decode cX6_readNumber 35 = .ok (.getfield 33, 3) := by decide +kernel
theorem dX6_readNumber_38 : decode cX6_readNumber 38 = .ok (.istore_n 3, 1) := by decide +kernel
theorem dX6_readNumber_39 : decode cX6_readNumber 39 = .ok (.aload_n 0, 1) := by decide +kernel
theorem dX6_readNumber_40 : decode cX6_readNumber 40 = .ok (.invokevirtual 93, 3) := by decide +kernel
theorem dX6_readNumber_43 : decode cX6_readNumber 43 = .ok (.istore 4, 2) := by decide +kernel
theorem dX6_readNumber_45 : decode cX6_readNumber 45 = .ok (.aload_n 0, 1) := by decide +kernel
theorem dX6_readNumber_46 : decode cX6_readNumber 46 = .ok (.getfield 33, 3) := by decide +kernel
theorem dX6_readNumber_49 : decode cX6_readNumber 49 = .ok (.iload_n 3, 1) := by decide +kernel
theorem dX6_readNumber_50 : decode cX6_readNumber 50 = .ok (.if_icmp .eq 14, 3) := by decide +kernel
theorem dX6_readNumber_53 : decode cX6_readNumber 53 = .ok (.aload_n 0, 1) := by decide +kernel
theorem dX6_readNumber_54 : decode cX6_readNumber 54 = .ok (.getfield 33, 3) := by decide +kernel
theorem dX6_readNumber_57 : decode cX6_readNumber 57 = .ok (.iload_n 3, 1) := by decide +kernel
theorem dX6_readNumber_58 : decode cX6_readNumber 58 = .ok (.isub, 1) := by decide +kernel
theorem dX6_readNumber_59 : decode cX6_readNumber 59 = .ok (.bipush 9, 2) := by decide +kernel
theorem dX6_readNumber_61 : decode cX6_readNumber 61 = .ok (.if_icmp .le 8, 3) := by decide +kernel
theorem dX6_readNumber_64 : decode cX6_readNumber 64 = .ok (.aload_n 0, 1) := by decide +kernel
theorem dX6_readNumber_65 : decode cX6_readNumber 65 = .ok (.iload_n 1, 1) := by decide +kernel
theorem dX6_readNumber_66 : decode cX6_readNumber 66 = .ok (.invokevirtual 60, 3) := by decide +kernel
theorem dX6_readNumber_69 : decode cX6_readNumber 69 = .ok (.iload_n 2, 1) := by decide +kernel
theorem dX6_readNumber_70 : decode cX6_readNumber 70 = .ok (.ifCond .eq 9, 3) := by decide +kernel
theorem dX6_readNumber_73 : decode cX6_readNumber 73 = .ok (.iload 4, 2) := by decide +kernel
theorem dX6_readNumber_75 : decode cX6_readNumber 75 = .ok (.ineg, 1) := by decide +kernel
theorem dX6_readNumber_76 : decode cX6_readNumber 76 = .ok (.goto 5, 3) := by decide +kernel
theorem dX6_readNumber_79 : decode cX6_readNumber 79 = .ok (.iload 4, 2) := by decide +kernel
theorem dX6_readNumber_81 : decode cX6_readNumber 81 = .ok (.ireturn, 1) := by decide +kernel
theorem i9wsX6_readNumber_0 : ∀ w ∈ ([.fieldLink RX6 33 "FactKeeper$Reader" "at" "I", .methodLink RX6 42 yX6_here, .instanceMethod yX6_here, .selects RX6 yX6_here yX6_here, .initialized RX6, .code yX6_here cX6_here 1 (some .int), .fieldLink RX6 26 "FactKeeper$Reader" "length" "I", .fieldLink RX6 22 "FactKeeper$Reader" "text" "[B", .methodLink RX6 93 yX6_readDigits, .instanceMethod yX6_readDigits, .selects RX6 yX6_readDigits yX6_readDigits, .code yX6_readDigits cX6_readDigits 2 (some .int), .methodLink RX6 60 yX6_refuse, .instanceMethod yX6_refuse, .selects RX6 yX6_refuse yX6_refuse, .code yX6_refuse cX6_refuse 2 none, .classLink RX6 131 "java/lang/UnsupportedOperationException", .initialized "java/lang/UnsupportedOperationException", .fieldLink RX6 17 "FactKeeper$Reader" "place" "I"] : List Cond), w ∈ wsX6_readNumber := fun _ h => (List.mem_cons_of_mem _ (List.mem_append_left _ (List.mem_append_left _ h)))
theorem i9wsX6_readNumber_1 : ∀ w ∈ wsX60, w ∈ wsX6_readNumber := fun _ h => (List.mem_cons_of_mem _ (List.mem_append_left _ (List.mem_append_right _ h)))
set_option maxRecDepth 20000 in
theorem ggX6_readNumber_X6_here : GoodIn wsX6_readNumber wsX6_here := (gin_c (mem_at i9wsX6_readNumber_0 5 rfl) rfl (goodIn_app (gin_c (mem_at i9wsX6_readNumber_0 0 rfl) rfl (gin_c (mem_at i9wsX6_readNumber_0 6 rfl) rfl (gin_c (mem_at i9wsX6_readNumber_0 7 rfl) rfl gin_n))) (goodIn_sub i9wsX6_readNumber_1 g9_7)))
set_option maxRecDepth 20000 in
theorem gX6_readNumber_X6_here : GoodIn wsX6_readNumber (wsV RX6 42 RX6 yX6_here wsX6_here) := goodIn_app (gin_c (mem_at i9wsX6_readNumber_0 1 rfl) rfl (gin_c (mem_at i9wsX6_readNumber_0 2 rfl) rfl (gin_c (mem_at i9wsX6_readNumber_0 3 rfl) rfl (gin_c (mem_at i9wsX6_readNumber_0 4 rfl) rfl gin_n)))) ggX6_readNumber_X6_here
set_option maxRecDepth 20000 in
theorem ggX6_readNumber_X6_readDigits : GoodIn wsX6_readNumber wsX6_readDigits := (gin_c (mem_at i9wsX6_readNumber_0 11 rfl) rfl (goodIn_app (gin_c (mem_at i9wsX6_readNumber_0 0 rfl) rfl (gin_c (mem_at i9wsX6_readNumber_0 6 rfl) rfl (gin_c (mem_at i9wsX6_readNumber_0 7 rfl) rfl gin_n))) (goodIn_sub i9wsX6_readNumber_1 g9_7)))
set_option maxRecDepth 20000 in
theorem gX6_readNumber_X6_readDigits : GoodIn wsX6_readNumber (wsV RX6 93 RX6 yX6_readDigits wsX6_readDigits) := goodIn_app (gin_c (mem_at i9wsX6_readNumber_0 8 rfl) rfl (gin_c (mem_at i9wsX6_readNumber_0 9 rfl) rfl (gin_c (mem_at i9wsX6_readNumber_0 10 rfl) rfl (gin_c (mem_at i9wsX6_readNumber_0 4 rfl) rfl gin_n)))) ggX6_readNumber_X6_readDigits
theorem i9wsX6_readNumber_2 : ∀ w ∈ ((vx_atS RX6 135 "java/lang/UnsupportedOperationException" ["java/lang/RuntimeException", "java/lang/Exception"]).filter goodWord), w ∈ wsX6_readNumber := fun _ h => (List.mem_cons_of_mem _ (List.mem_append_right _ h))
set_option maxRecDepth 20000 in
theorem ggX6_readNumber_X6_refuse : GoodIn wsX6_readNumber wsX6_refuse := (gin_c (mem_at i9wsX6_readNumber_0 15 rfl) rfl (goodIn_app (goodIn_app (gin_c (mem_at i9wsX6_readNumber_0 16 rfl) rfl (gin_c (mem_at i9wsX6_readNumber_0 17 rfl) rfl (gin_c (mem_at i9wsX6_readNumber_0 18 rfl) rfl gin_n))) (goodIn_sub i9wsX6_readNumber_1 g9_7)) (goodIn_sub i9wsX6_readNumber_2 g9_8)))
set_option maxRecDepth 20000 in
theorem gX6_readNumber_X6_refuse : GoodIn wsX6_readNumber (wsV RX6 60 RX6 yX6_refuse wsX6_refuse) := goodIn_app (gin_c (mem_at i9wsX6_readNumber_0 12 rfl) rfl (gin_c (mem_at i9wsX6_readNumber_0 13 rfl) rfl (gin_c (mem_at i9wsX6_readNumber_0 14 rfl) rfl (gin_c (mem_at i9wsX6_readNumber_0 4 rfl) rfl gin_n)))) ggX6_readNumber_X6_refuse
set_option maxHeartbeats 4000000 in
set_option maxRecDepth 100000 in
theorem T_X6_readNumber (l : Launch) (hl : l.stackTraces = false) (D : va_G) (cA : Nat → ClassId) {l0 : Option Nat} {x : HS} {Q : Int32 → HS → Prop} {X : String → HS → Prop} (h : w_X6_readNumber l0 x Q X) : YI l yX6_readNumber wsX6_readNumber 7 111 D cA [.q l0] x Q X := by
  refine YI.of (cc := cX6_readNumber) (maxL := 5) (ret := (some .int)) hl (by decide) rfl rfl (fun g B fr => ?_)
  have o := B.o
  have hb := B.hb
  have hts := B.hts
  have hown : g.s.vm.findClass RX6 = some g.m.cls := B.hown
  have in6 : ∀ w ∈ u_ws RX6 TX6 8, w ∈ wsX6_readNumber := fun w h => (List.mem_cons_of_mem _ (List.mem_append_left _ (List.mem_append_right _ h)))
  unfold w_X6_readNumber at h
  show KW g 5 0 [(0, .q l0)] [] x
  refine k_aload_n o hb dX6_readNumber_0 rfl 0 rfl ?_
  refine k_getI (C := RX6) (T := TX6) (N := 8) o hb hts in6 hown rfl (by decide) 6 (by decide) rfl (hts (.fieldLink RX6 33 "FactKeeper$Reader" "at" "I") (by decide +kernel)) (fun _ h9 => h9) dX6_readNumber_1 h (fun v1 h => ?_)
  refine k_istore_n o hb dX6_readNumber_4 rfl rfl ?_
  refine k_aload_n o hb dX6_readNumber_5 rfl 1 rfl ?_
  refine k_run_i o (fun _ _ q => q) (k_runV (ci := 6) (rc := (RX6, TX6, 8)) o hb B.hml hown hts rfl (by decide) (T_X6_here g.l o.hl g.D g.cA h.2) (cwV 0 hts gX6_readNumber_X6_here rfl rfl rfl (by decide +kernel) ⟨yle B.hR1 rfl, yle B.hR2 rfl⟩) h.1 rfl rfl (Nat.le_of_ble_eq_true rfl) dX6_readNumber_6) (fun v3 x2 h => ?_)
  refine k_bipush (v := 45) o hb dX6_readNumber_9 (by decide) ?_
  refine wJoin_elim (M := fun K => ∀ (v6 : Int32) (x5 : HS), K v6 x5 → KW g 5 19 [(0, .q l0), (1, .i v1)] [.i v6] x5) h ?_ (fun j4 hj4 h => ?_)
  · skip
    intro v6 x5 h
    refine k_istore_n o hb dX6_readNumber_19 rfl rfl ?_
    refine k_iload_n o hb dX6_readNumber_20 rfl 0 rfl ?_
    refine wJoin_elim (M := fun K => ∀  (x8 : HS), K  x8 → KW g 5 34 [(0, .q l0), (1, .i v1), (2, .i v6)] [] x8) h ?_ (fun j7 hj7 h => ?_)
    · skip
      intro  x8 h
      refine k_aload_n o hb dX6_readNumber_34 rfl 0 rfl ?_
      refine k_getI (C := RX6) (T := TX6) (N := 8) o hb hts in6 hown rfl (by decide) 6 (by decide) rfl (hts (.fieldLink RX6 33 "FactKeeper$Reader" "at" "I") (by decide +kernel)) (fun _ h9 => h9) dX6_readNumber_35 h (fun v9 h => ?_)
      refine k_istore_n o hb dX6_readNumber_38 rfl rfl ?_
      refine k_aload_n o hb dX6_readNumber_39 rfl 1 rfl ?_
      refine k_run_i o (fun _ _ q => q) (k_runV (ci := 6) (rc := (RX6, TX6, 8)) o hb B.hml hown hts rfl (by decide) (T_X6_readDigits g.l o.hl g.D g.cA h.2) (cwV 0 hts gX6_readNumber_X6_readDigits rfl rfl rfl (by decide +kernel) ⟨yle B.hR1 rfl, yle B.hR2 rfl⟩) h.1 rfl rfl (Nat.le_of_ble_eq_true rfl) dX6_readNumber_40) (fun v11 x10 h => ?_)
      refine k_istore o hb dX6_readNumber_43 rfl ?_
      refine k_aload_n o hb dX6_readNumber_45 rfl 2 rfl ?_
      refine k_getI (C := RX6) (T := TX6) (N := 8) o hb hts in6 hown rfl (by decide) 6 (by decide) rfl (hts (.fieldLink RX6 33 "FactKeeper$Reader" "at" "I") (by decide +kernel)) (fun _ h9 => h9) dX6_readNumber_46 h (fun v12 h => ?_)
      refine k_iload_n o hb dX6_readNumber_49 rfl 1 rfl ?_
      refine wJoin_elim (M := fun K => ∀  (x14 : HS), K  x14 → KW g 5 69 [(2, .i v6), (4, .i v11)] [] x14) h ?_ (fun j13 hj13 h => ?_)
      · skip
        intro  x14 h
        refine k_iload_n o hb dX6_readNumber_69 rfl 0 rfl ?_
        refine wJoin_elim (M := fun K => ∀ (v17 : Int32) (x16 : HS), K v17 x16 → KW g 5 81 [] [.i v17] x16) h ?_ (fun j15 hj15 h => ?_)
        · skip
          intro v17 x16 h
          exact k_iret o hb B.hr fr dX6_readNumber_81 h
        · skip
          refine k_if_eq (tgt := 79) o hb dX6_readNumber_70 (by decide) h (fun h => ?_) (fun h => ?_)
          · skip
            refine k_iload o hb dX6_readNumber_79 1 rfl ?_
            exact KW.sub [] rfl (hj15 v11 x14 h)
          · skip
            refine k_iload o hb dX6_readNumber_73 1 rfl ?_
            refine k_ineg o hb dX6_readNumber_75 ?_
            refine k_goto (tgt := 81) o hb dX6_readNumber_76 (by decide) ?_
            exact KW.sub [] rfl (hj15 (-v11) x14 h)
      · skip
        refine wJoin_elim (M := fun K => ∀  (x19 : HS), K  x19 → KW g 5 64 [(0, .q l0), (1, .i v1), (2, .i v6), (4, .i v11)] [] x19) h ?_ (fun j18 hj18 h => ?_)
        · skip
          intro  x19 h
          refine k_aload_n o hb dX6_readNumber_64 rfl 0 rfl ?_
          refine k_iload_n o hb dX6_readNumber_65 rfl 1 rfl ?_
          refine k_run_v o (fun _ _ q => q) (k_runV (ci := 6) (rc := (RX6, TX6, 8)) o hb B.hml hown hts rfl (by decide) (T_X6_refuse g.l o.hl g.D g.cA h.2) (cwV 1 hts gX6_readNumber_X6_refuse rfl rfl rfl (by decide +kernel) ⟨yle B.hR1 rfl, yle B.hR2 rfl⟩) h.1 rfl rfl (Nat.le_of_ble_eq_true rfl) dX6_readNumber_66) (fun x20 h => ?_)
          exact KW.sub [2, 3] rfl (hj13 x20 h)
        · skip
          refine k_icmp_eq (tgt := 64) o hb dX6_readNumber_50 (by decide) h (fun h => ?_) (fun h => ?_)
          · skip
            exact KW.sub [2, 3, 4, 0] rfl (hj18 x10 h)
          · skip
            refine k_aload_n o hb dX6_readNumber_53 rfl 2 rfl ?_
            refine k_getI (C := RX6) (T := TX6) (N := 8) o hb hts in6 hown rfl (by decide) 6 (by decide) rfl (hts (.fieldLink RX6 33 "FactKeeper$Reader" "at" "I") (by decide +kernel)) (fun _ h9 => h9) dX6_readNumber_54 h (fun v22 h => ?_)
            refine k_iload_n o hb dX6_readNumber_57 rfl 1 rfl ?_
            refine k_isub o hb dX6_readNumber_58 ?_
            refine k_bipush (v := 9) o hb dX6_readNumber_59 (by decide) ?_
            refine k_icmp_le (tgt := 69) o hb dX6_readNumber_61 (by decide) h (fun h => ?_) (fun h => ?_)
            · skip
              exact KW.sub [4, 0] rfl (hj13 x10 h)
            · skip
              exact KW.sub [2, 3, 4, 0] rfl (hj18 x10 h)
    · skip
      refine k_if_eq (tgt := 34) o hb dX6_readNumber_21 (by decide) h (fun h => ?_) (fun h => ?_)
      · skip
        exact KW.sub [1, 2, 0] rfl (hj7 x5 h)
      · skip
        refine k_aload_n o hb dX6_readNumber_24 rfl 1 rfl ?_
        refine k_dup o hb dX6_readNumber_25 ?_
        refine k_getI (C := RX6) (T := TX6) (N := 8) o hb hts in6 hown rfl (by decide) 6 (by decide) rfl (hts (.fieldLink RX6 33 "FactKeeper$Reader" "at" "I") (by decide +kernel)) (fun _ h9 => h9) dX6_readNumber_26 h (fun v23 h => ?_)
        refine k_iconst (v := 1) o hb dX6_readNumber_29 (by decide) ?_
        refine k_iadd o hb dX6_readNumber_30 ?_
        refine k_putI (C := RX6) (T := TX6) (N := 8) (ty := .int) o hb hts in6 tyX6 tyX6_ok nmX6 hown rfl (by decide) 6 (by decide) rfl (hts (.fieldLink RX6 33 "FactKeeper$Reader" "at" "I") (by decide +kernel)) (fun _ h9 => h9) rfl (by decide +kernel) (fun _ => rfl) (fun _ => rfl) dX6_readNumber_31 h (fun x24 h => ?_)
        exact KW.sub [1, 2, 0] rfl (hj7 x24 h)
  · skip
    refine k_icmp_ne (tgt := 18) o hb dX6_readNumber_11 (by decide) h (fun h => ?_) (fun h => ?_)
    · skip
      refine k_iconst (v := 1) o hb dX6_readNumber_14 (by decide) ?_
      refine k_goto (tgt := 19) o hb dX6_readNumber_15 (by decide) ?_
      exact KW.sub [1, 0] rfl (hj4 1 x2 h)
    · skip
      refine k_iconst (v := 0) o hb dX6_readNumber_18 (by decide) ?_
      exact KW.sub [1, 0] rfl (hj4 0 x2 h)
theorem dX6_readArg_0 : decode cX6_readArg 0 = .ok (.aload_n 0, 1) := by decide +kernel
theorem dX6_readArg_1 : decode cX6_readArg 1 = .ok (.invokevirtual 42, 3) := by decide +kernel
theorem dX6_readArg_4 : decode cX6_readArg 4 = .ok (.istore 4, 2) := by decide +kernel
theorem dX6_readArg_6 : decode cX6_readArg 6 = .ok (.iload 4, 2) := by decide +kernel
theorem dX6_readArg_8 : decode cX6_readArg 8 = .ok (.bipush 65, 2) := by decide +kernel
theorem dX6_readArg_10 : decode cX6_readArg 10 = .ok (.if_icmp .lt 41, 3) := by decide +kernel
theorem dX6_readArg_13 : decode cX6_readArg 13 = .ok (.iload 4, 2) := by decide +kernel
theorem dX6_readArg_15 : decode cX6_readArg 15 = .ok (.bipush 73, 2) := by decide +kernel
theorem dX6_readArg_17 : decode cX6_readArg 17 = .ok (.if_icmp .ge 34, 3) := by decide +kernel
theorem dX6_readArg_20 : decode cX6_readArg 20 = .ok (.aload_n 1, 1) := by decide +kernel
theorem dX6_readArg_21 : decode cX6_readArg 21 = .ok (.getfield 102, 3) := by decide +kernel
theorem dX6_readArg_24 : decode cX6_readArg 24 = .ok (.iload_n 2, 1) := by decide +kernel
theorem dX6_readArg_25 : decode cX6_readArg 25 = .ok (.iconst 2, 1) := by decide +kernel
theorem dX6_readArg_26 : decode cX6_readArg 26 = .ok (.iastore, 1) := by decide +kernel
theorem dX6_readArg_27 : decode cX6_readArg 27 = .ok (.aload_n 1, 1) := by decide +kernel
theorem dX6_readArg_28 : decode cX6_readArg 28 = .ok (.getfield 106, 3) := by decide +kernel
theorem dX6_readArg_31 : decode cX6_readArg 31 = .ok (.iload_n 2, 1) := by decide +kernel
theorem dX6_readArg_32 : decode cX6_readArg 32 = .ok (.iload 4, 2) := by decide +kernel
theorem dX6_readArg_34 : decode cX6_readArg 34 = .ok (.bipush 65, 2) := by decide +kernel
theorem dX6_readArg_36 : decode cX6_readArg 36 = .ok (.isub, 1) := by decide +kernel
theorem dX6_readArg_37 : decode cX6_readArg 37 = .ok (.iastore, 1) := by decide +kernel
theorem dX6_readArg_38 : decode cX6_readArg 38 = .ok (.aload_n 0, 1) := by decide +kernel
theorem dX6_readArg_39 : decode cX6_readArg 39 = .ok (.dup, 1) := by decide +kernel
theorem dX6_readArg_40 : decode cX6_readArg 40 = .ok (.getfield 33, 3) := by decide +kernel
theorem dX6_readArg_43 : decode cX6_readArg 43 = .ok (.iconst 1, 1) := by decide +kernel
theorem dX6_readArg_44 : decode cX6_readArg 44 = .ok (.iadd, 1) := by decide +kernel
theorem dX6_readArg_45 : decode cX6_readArg 45 = .ok (.putfield 33, 3) := by decide +kernel
theorem dX6_readArg_48 : decode cX6_readArg 48 = .ok (.goto 51, 3) := by decide +kernel
theorem dX6_readArg_51 : decode cX6_readArg 51 = .ok (.iload 4, 2) := by decide +kernel
theorem dX6_readArg_53 : decode cX6_readArg 53 = .ok (.bipush 95, 2) := by decide +kernel
theorem dX6_readArg_55 : decode cX6_readArg 55 = .ok (.if_icmp .ne 27, 3) := by decide +kernel
theorem dX6_readArg_58 : decode cX6_readArg 58 = .ok (.iload_n 3, 1) := by decide +kernel
theorem dX6_readArg_59 : decode cX6_readArg 59 = .ok (.ifCond .eq 23, 3) := by decide +kernel
theorem dX6_readArg_62 : decode cX6_readArg 62 = .ok (.aload_n 1, 1) := by decide +kernel
theorem dX6_readArg_63 : decode cX6_readArg 63 = .ok (.getfield 102, 3) := by decide +kernel
theorem dX6_readArg_66 : decode cX6_readArg 66 = .ok (.iload_n 2, 1) := by decide +kernel
theorem dX6_readArg_67 : decode cX6_readArg 67 = .ok (.iconst 4, 1) := by decide +kernel
theorem dX6_readArg_68 : decode cX6_readArg 68 = .ok (.iastore, 1) := by decide +kernel
theorem dX6_readArg_69 : decode cX6_readArg 69 = .ok (.aload_n 0, 1) := by decide +kernel
theorem dX6_readArg_70 : decode cX6_readArg 70 = .ok (.dup, 1) := by decide +kernel
theorem dX6_readArg_71 : decode cX6_readArg 71 = .ok (.getfield 33, 3) := by decide +kernel
theorem dX6_readArg_74 : decode cX6_readArg 74 = .ok (.iconst 1, 1) := by decide +kernel
theorem dX6_readArg_75 : decode cX6_readArg 75 = .ok (.iadd, 1) := by decide +kernel
theorem dX6_readArg_76 : decode cX6_readArg 76 = .ok (.putfield 33, 3) := by decide +kernel
theorem dX6_readArg_79 : decode cX6_readArg 79 = .ok (.goto 20, 3) := by decide +kernel
theorem dX6_readArg_82 : decode cX6_readArg 82 = .ok (.aload_n 1, 1) := by decide +kernel
theorem dX6_readArg_83 : decode cX6_readArg 83 = .ok (.getfield 102, 3) := by decide +kernel
theorem dX6_readArg_86 : decode cX6_readArg 86 = .ok (.iload_n 2, 1) := by decide +kernel
theorem dX6_readArg_87 : decode cX6_readArg 87 = .ok (.iconst 0, 1) := by decide +kernel
theorem dX6_readArg_88 : decode cX6_readArg 88 = .ok (.iastore, 1) := by decide +kernel
theorem dX6_readArg_89 : decode cX6_readArg 89 = .ok (.aload_n 1, 1) := by decide +kernel
theorem dX6_readArg_90 : decode cX6_readArg 90 = .ok (.getfield 106, 3) := by decide +kernel
theorem dX6_readArg_93 : decode cX6_readArg 93 = .ok (.iload_n 2, 1) := by decide +kernel
theorem dX6_readArg_94 : decode cX6_readArg 94 = .ok (.aload_n 0, 1) := by decide +kernel
theorem dX6_readArg_95 : decode cX6_readArg 95 = .ok (.invokevirtual 128, 3) := by decide +kernel
theorem dX6_readArg_98 : decode cX6_readArg 98 = .ok (.iastore, 1) := by decide +kernel
theorem dX6_readArg_99 : decode cX6_readArg 99 = .ok (.return_, 1) := by decide +kernel
theorem i9wsX6_readArg_0 : ∀ w ∈ wsX6_readArg_r1, w ∈ wsX6_readArg := fun _ h => (List.mem_cons_of_mem _ (List.mem_append_left _ (List.mem_append_left _ (List.mem_append_left _ (List.mem_append_left _ h)))))
theorem i9wsX6_readArg_3 : ∀ w ∈ wsX60, w ∈ wsX6_readArg := fun _ h => (List.mem_cons_of_mem _ (List.mem_append_left _ (List.mem_append_right _ h)))
set_option maxRecDepth 20000 in
theorem ggX6_readArg_X6_here : GoodIn wsX6_readArg wsX6_here := (gin_c (mem_at i9wsX6_readArg_0 7 rfl) rfl (goodIn_app (gin_c (mem_at i9wsX6_readArg_0 2 rfl) rfl (gin_c (mem_at i9wsX6_readArg_0 8 rfl) rfl (gin_c (mem_at i9wsX6_readArg_0 9 rfl) rfl gin_n))) (goodIn_sub i9wsX6_readArg_3 g9_7)))
set_option maxRecDepth 20000 in
theorem gX6_readArg_X6_here : GoodIn wsX6_readArg (wsV RX6 42 RX6 yX6_here wsX6_here) := goodIn_app (gin_c (mem_at i9wsX6_readArg_0 3 rfl) rfl (gin_c (mem_at i9wsX6_readArg_0 4 rfl) rfl (gin_c (mem_at i9wsX6_readArg_0 5 rfl) rfl (gin_c (mem_at i9wsX6_readArg_0 6 rfl) rfl gin_n)))) ggX6_readArg_X6_here
theorem i9wsX6_readArg_1 : ∀ w ∈ wsX6_readArg_r2, w ∈ wsX6_readArg := fun _ h => (List.mem_cons_of_mem _ (List.mem_append_left _ (List.mem_append_left _ (List.mem_append_left _ (List.mem_append_right _ h)))))
theorem i9wsX6_readArg_4 : ∀ w ∈ ((vx_atS RX6 135 "java/lang/UnsupportedOperationException" ["java/lang/RuntimeException", "java/lang/Exception"]).filter goodWord), w ∈ wsX6_readArg := fun _ h => (List.mem_cons_of_mem _ (List.mem_append_right _ h))
set_option maxRecDepth 20000 in
theorem ggX6_readArg_X6_readNumber : GoodIn wsX6_readArg wsX6_readNumber := (gin_c (mem_at i9wsX6_readArg_0 13 rfl) rfl (goodIn_app (goodIn_app (gin_c (mem_at i9wsX6_readArg_0 2 rfl) rfl (gin_c (mem_at i9wsX6_readArg_0 3 rfl) rfl (gin_c (mem_at i9wsX6_readArg_0 4 rfl) rfl (gin_c (mem_at i9wsX6_readArg_0 5 rfl) rfl (gin_c (mem_at i9wsX6_readArg_0 6 rfl) rfl (gin_c (mem_at i9wsX6_readArg_0 7 rfl) rfl (gin_c (mem_at i9wsX6_readArg_0 8 rfl) rfl (gin_c (mem_at i9wsX6_readArg_0 9 rfl) rfl (gin_c (mem_at i9wsX6_readArg_0 14 rfl) rfl (gin_c (mem_at i9wsX6_readArg_0 15 rfl) rfl (gin_c (mem_at i9wsX6_readArg_0 16 rfl) rfl (gin_c (mem_at i9wsX6_readArg_0 17 rfl) rfl (gin_c (mem_at i9wsX6_readArg_0 18 rfl) rfl (gin_c (mem_at i9wsX6_readArg_0 19 rfl) rfl (gin_c (mem_at i9wsX6_readArg_0 20 rfl) rfl (gin_c (mem_at i9wsX6_readArg_0 21 rfl) rfl (gin_c (mem_at i9wsX6_readArg_0 22 rfl) rfl (gin_c (mem_at i9wsX6_readArg_0 23 rfl) rfl (gin_c (mem_at i9wsX6_readArg_1 0 rfl) rfl gin_n))))))))))))))))))) (goodIn_sub i9wsX6_readArg_3 g9_7)) (goodIn_sub i9wsX6_readArg_4 g9_8)))
set_option maxRecDepth 20000 in
theorem gX6_readArg_X6_readNumber : GoodIn wsX6_readArg (wsV RX6 128 RX6 yX6_readNumber wsX6_readNumber) := goodIn_app (gin_c (mem_at i9wsX6_readArg_0 10 rfl) rfl (gin_c (mem_at i9wsX6_readArg_0 11 rfl) rfl (gin_c (mem_at i9wsX6_readArg_0 12 rfl) rfl (gin_c (mem_at i9wsX6_readArg_0 6 rfl) rfl gin_n)))) ggX6_readArg_X6_readNumber
set_option maxHeartbeats 4000000 in
set_option maxRecDepth 100000 in
theorem T_X6_readArg (l : Launch) (hl : l.stackTraces = false) (D : va_G) (cA : Nat → ClassId) {l0 : Option Nat} {l1 : Option Nat} {l2 : Int32} {l3 : Int32} {x : HS} {Q : HS → Prop} {X : String → HS → Prop} (h : w_X6_readArg l0 l1 l2 l3 x Q X) : YV l yX6_readArg wsX6_readArg 8 135 D cA [.q l0, .q l1, .i l2, .i l3] x Q X := by
  refine YV.of (cc := cX6_readArg) (maxL := 5) (ret := none) hl (by decide) rfl rfl (fun g B fr => ?_)
  have o := B.o
  have hb := B.hb
  have hts := B.hts
  have hown : g.s.vm.findClass RX6 = some g.m.cls := B.hown
  have in2 : ∀ w ∈ u_ws RX2 TX2 6, w ∈ wsX6_readArg := fun w h => (List.mem_cons_of_mem _ (List.mem_append_left _ (List.mem_append_left _ (List.mem_append_right _ h))))
  have in6 : ∀ w ∈ u_ws RX6 TX6 8, w ∈ wsX6_readArg := fun w h => (List.mem_cons_of_mem _ (List.mem_append_left _ (List.mem_append_right _ h)))
  unfold w_X6_readArg at h
  show KW g 5 0 [(0, .q l0), (1, .q l1), (2, .i l2), (3, .i l3)] [] x
  refine k_aload_n o hb dX6_readArg_0 rfl 0 rfl ?_
  refine k_run_i o (fun _ _ q => q) (k_runV (ci := 6) (rc := (RX6, TX6, 8)) o hb B.hml hown hts rfl (by decide) (T_X6_here g.l o.hl g.D g.cA h.2) (cwV 0 hts gX6_readArg_X6_here rfl rfl rfl (by decide +kernel) ⟨yle B.hR1 rfl, yle B.hR2 rfl⟩) h.1 rfl rfl (Nat.le_of_ble_eq_true rfl) dX6_readArg_1) (fun v2 x1 h => ?_)
  refine k_istore o hb dX6_readArg_4 rfl ?_
  refine k_iload o hb dX6_readArg_6 0 rfl ?_
  refine k_bipush (v := 65) o hb dX6_readArg_8 (by decide) ?_
  refine wJoin_elim (M := fun K => ∀  (x4 : HS), K  x4 → KW g 5 99 [] [] x4) h ?_ (fun j3 hj3 h => ?_)
  · skip
    intro  x4 h
    exact k_vret o hb B.hr fr dX6_readArg_99 h
  · skip
    refine wJoin_elim (M := fun K => ∀  (x6 : HS), K  x6 → KW g 5 51 [(0, .q l0), (1, .q l1), (2, .i l2), (3, .i l3), (4, .i v2)] [] x6) h ?_ (fun j5 hj5 h => ?_)
    · skip
      intro  x6 h
      refine k_iload o hb dX6_readArg_51 4 rfl ?_
      refine k_bipush (v := 95) o hb dX6_readArg_53 (by decide) ?_
      refine wJoin_elim (M := fun K => ∀  (x8 : HS), K  x8 → KW g 5 82 [(0, .q l0), (1, .q l1), (2, .i l2)] [] x8) h ?_ (fun j7 hj7 h => ?_)
      · skip
        intro  x8 h
        refine k_aload_n o hb dX6_readArg_82 rfl 1 rfl ?_
        refine k_getF (C := RX2) (T := TX2) (N := 6) o hb hts in2 hown rfl (by decide) 0 (by decide) rfl (hts (.fieldLink RX6 102 "FactKeeper$Goal" "kinds" "[I") (by decide +kernel)) (fun _ h9 => h9) dX6_readArg_83 h (fun v9 h => ?_)
        refine k_iload_n o hb dX6_readArg_86 rfl 2 rfl ?_
        refine k_iconst (v := 0) o hb dX6_readArg_87 (by decide) ?_
        refine k_iast o hb dX6_readArg_88 h (fun x10 h => ?_)
        refine k_aload_n o hb dX6_readArg_89 rfl 1 rfl ?_
        refine k_getF (C := RX2) (T := TX2) (N := 6) o hb hts in2 hown rfl (by decide) 1 (by decide) rfl (hts (.fieldLink RX6 106 "FactKeeper$Goal" "args" "[I") (by decide +kernel)) (fun _ h9 => h9) dX6_readArg_90 h (fun v11 h => ?_)
        refine k_iload_n o hb dX6_readArg_93 rfl 2 rfl ?_
        refine k_aload_n o hb dX6_readArg_94 rfl 0 rfl ?_
        refine k_run_i o (fun _ _ q => q) (k_runV (ci := 6) (rc := (RX6, TX6, 8)) o hb B.hml hown hts rfl (by decide) (T_X6_readNumber g.l o.hl g.D g.cA h.2) (cwV 0 hts gX6_readArg_X6_readNumber rfl rfl rfl (by decide +kernel) ⟨yle B.hR1 rfl, yle B.hR2 rfl⟩) h.1 rfl rfl (Nat.le_of_ble_eq_true rfl) dX6_readArg_95) (fun v13 x12 h => ?_)
        refine k_iast o hb dX6_readArg_98 h (fun x14 h => ?_)
        exact KW.sub [] rfl (hj3 x14 h)
      · skip
        refine k_icmp_ne (tgt := 82) o hb dX6_readArg_55 (by decide) h (fun h => ?_) (fun h => ?_)
        · skip
          refine k_iload_n o hb dX6_readArg_58 rfl 3 rfl ?_
          refine k_if_eq (tgt := 82) o hb dX6_readArg_59 (by decide) h (fun h => ?_) (fun h => ?_)
          · skip
            exact KW.sub [0, 1, 2] rfl (hj7 x6 h)
          · skip
            refine k_aload_n o hb dX6_readArg_62 rfl 1 rfl ?_
            refine k_getF (C := RX2) (T := TX2) (N := 6) o hb hts in2 hown rfl (by decide) 0 (by decide) rfl (hts (.fieldLink RX6 102 "FactKeeper$Goal" "kinds" "[I") (by decide +kernel)) (fun _ h9 => h9) dX6_readArg_63 h (fun v15 h => ?_)
            refine k_iload_n o hb dX6_readArg_66 rfl 2 rfl ?_
            refine k_iconst (v := 4) o hb dX6_readArg_67 (by decide) ?_
            refine k_iast o hb dX6_readArg_68 h (fun x16 h => ?_)
            refine k_aload_n o hb dX6_readArg_69 rfl 0 rfl ?_
            refine k_dup o hb dX6_readArg_70 ?_
            refine k_getI (C := RX6) (T := TX6) (N := 8) o hb hts in6 hown rfl (by decide) 6 (by decide) rfl (hts (.fieldLink RX6 33 "FactKeeper$Reader" "at" "I") (by decide +kernel)) (fun _ h9 => h9) dX6_readArg_71 h (fun v17 h => ?_)
            refine k_iconst (v := 1) o hb dX6_readArg_74 (by decide) ?_
            refine k_iadd o hb dX6_readArg_75 ?_
            refine k_putI (C := RX6) (T := TX6) (N := 8) (ty := .int) o hb hts in6 tyX6 tyX6_ok nmX6 hown rfl (by decide) 6 (by decide) rfl (hts (.fieldLink RX6 33 "FactKeeper$Reader" "at" "I") (by decide +kernel)) (fun _ h9 => h9) rfl (by decide +kernel) (fun _ => rfl) (fun _ => rfl) dX6_readArg_76 h (fun x18 h => ?_)
            refine k_goto (tgt := 99) o hb dX6_readArg_79 (by decide) ?_
            exact KW.sub [] rfl (hj3 x18 h)
        · skip
          exact KW.sub [0, 1, 2] rfl (hj7 x6 h)
    · skip
      refine k_icmp_lt (tgt := 51) o hb dX6_readArg_10 (by decide) h (fun h => ?_) (fun h => ?_)
      · skip
        exact KW.sub [1, 2, 3, 4, 0] rfl (hj5 x1 h)
      · skip
        refine k_iload o hb dX6_readArg_13 0 rfl ?_
        refine k_bipush (v := 73) o hb dX6_readArg_15 (by decide) ?_
        refine k_icmp_ge (tgt := 51) o hb dX6_readArg_17 (by decide) h (fun h => ?_) (fun h => ?_)
        · skip
          exact KW.sub [1, 2, 3, 4, 0] rfl (hj5 x1 h)
        · skip
          refine k_aload_n o hb dX6_readArg_20 rfl 2 rfl ?_
          refine k_getF (C := RX2) (T := TX2) (N := 6) o hb hts in2 hown rfl (by decide) 0 (by decide) rfl (hts (.fieldLink RX6 102 "FactKeeper$Goal" "kinds" "[I") (by decide +kernel)) (fun _ h9 => h9) dX6_readArg_21 h (fun v19 h => ?_)
          refine k_iload_n o hb dX6_readArg_24 rfl 3 rfl ?_
          refine k_iconst (v := 2) o hb dX6_readArg_25 (by decide) ?_
          refine k_iast o hb dX6_readArg_26 h (fun x20 h => ?_)
          refine k_aload_n o hb dX6_readArg_27 rfl 2 rfl ?_
          refine k_getF (C := RX2) (T := TX2) (N := 6) o hb hts in2 hown rfl (by decide) 1 (by decide) rfl (hts (.fieldLink RX6 106 "FactKeeper$Goal" "args" "[I") (by decide +kernel)) (fun _ h9 => h9) dX6_readArg_28 h (fun v21 h => ?_)
          refine k_iload_n o hb dX6_readArg_31 rfl 3 rfl ?_
          refine k_iload o hb dX6_readArg_32 0 rfl ?_
          refine k_bipush (v := 65) o hb dX6_readArg_34 (by decide) ?_
          refine k_isub o hb dX6_readArg_36 ?_
          refine k_iast o hb dX6_readArg_37 h (fun x22 h => ?_)
          refine k_aload_n o hb dX6_readArg_38 rfl 1 rfl ?_
          refine k_dup o hb dX6_readArg_39 ?_
          refine k_getI (C := RX6) (T := TX6) (N := 8) o hb hts in6 hown rfl (by decide) 6 (by decide) rfl (hts (.fieldLink RX6 33 "FactKeeper$Reader" "at" "I") (by decide +kernel)) (fun _ h9 => h9) dX6_readArg_40 h (fun v23 h => ?_)
          refine k_iconst (v := 1) o hb dX6_readArg_43 (by decide) ?_
          refine k_iadd o hb dX6_readArg_44 ?_
          refine k_putI (C := RX6) (T := TX6) (N := 8) (ty := .int) o hb hts in6 tyX6 tyX6_ok nmX6 hown rfl (by decide) 6 (by decide) rfl (hts (.fieldLink RX6 33 "FactKeeper$Reader" "at" "I") (by decide +kernel)) (fun _ h9 => h9) rfl (by decide +kernel) (fun _ => rfl) (fun _ => rfl) dX6_readArg_45 h (fun x24 h => ?_)
          refine k_goto (tgt := 99) o hb dX6_readArg_48 (by decide) ?_
          exact KW.sub [] rfl (hj3 x24 h)
theorem dX6_sortTableArg_0 : decode cX6_sortTableArg 0 = .ok (.iconst 0, 1) := by decide +kernel
theorem dX6_sortTableArg_1 : decode cX6_sortTableArg 1 = .ok (.istore 4, 2) := by decide +kernel
theorem dX6_sortTableArg_3 : decode cX6_sortTableArg 3 = .ok (.aload_n 1, 1) := by decide +kernel
theorem dX6_sortTableArg_4 : decode cX6_sortTableArg 4 = .ok (.getfield 102, 3) := by decide +kernel
theorem dX6_sortTableArg_7 : decode cX6_sortTableArg 7 = .ok (.iload_n 2, 1) := by decide +kernel
theorem dX6_sortTableArg_8 : decode cX6_sortTableArg 8 = .ok (.iaload, 1) := by decide +kernel
theorem dX6_sortTableArg_9 : decode cX6_sortTableArg 9 = .ok (.iconst 2, 1) := by decide +kernel
theorem dX6_sortTableArg_10 : decode cX6_sortTableArg 10 = .ok (.if_icmp .ne 62, 3) := by decide +kernel
theorem dX6_sortTableArg_13 : decode cX6_sortTableArg 13 = .ok (.aload_n 0, 1) := by decide +kernel
theorem dX6_sortTableArg_14 : decode cX6_sortTableArg 14 = .ok (.getfield 36, 3) := by decide +kernel
theorem dX6_sortTableArg_17 : decode cX6_sortTableArg 17 = .ok (.aload_n 1, 1) := by decide +kernel
theorem dX6_sortTableArg_18 : decode cX6_sortTableArg 18 = .ok (.getfield 106, 3) := by decide +kernel
theorem dX6_sortTableArg_21 : decode cX6_sortTableArg 21 = .ok (.iload_n 2, 1) := by decide +kernel
theorem dX6_sortTableArg_22 : decode cX6_sortTableArg 22 = .ok (.iaload, 1) := by decide +kernel
theorem dX6_sortTableArg_23 : decode cX6_sortTableArg 23 = .ok (.invokestatic 109, 3) := by decide +kernel
theorem dX6_sortTableArg_26 : decode cX6_sortTableArg 26 = .ok (.ifCond .eq 13, 3) := by decide +kernel
theorem dX6_sortTableArg_29 : decode cX6_sortTableArg 29 = .ok (.aload_n 1, 1) := by decide +kernel
theorem dX6_sortTableArg_30 : decode cX6_sortTableArg 30 = .ok (.getfield 102, 3) := by decide +kernel
theorem dX6_sortTableArg_33 : decode cX6_sortTableArg 33 = .ok (.iload_n 2, 1) := by decide +kernel
theorem dX6_sortTableArg_34 : decode cX6_sortTableArg 34 = .ok (.iconst 1, 1) := by decide +kernel
theorem dX6_sortTableArg_35 : decode cX6_sortTableArg 35 = .ok (.iastore, 1) := by decide +kernel
theorem dX6_sortTableArg_36 : decode cX6_sortTableArg 36 = .ok (.goto 36, 3) := by decide +kernel
theorem dX6_sortTableArg_39 : decode cX6_sortTableArg 39 = .ok (.iload_n 3, 1) := by decide +kernel
theorem dX6_sortTableArg_40 : decode cX6_sortTableArg 40 = .ok (.aload_n 1, 1) := by decide +kernel
theorem dX6_sortTableArg_41 : decode cX6_sortTableArg 41 = .ok (.getfield 106, 3) := by decide +kernel
theorem dX6_sortTableArg_44 : decode cX6_sortTableArg 44 = .ok (.iload_n 2, 1) := by decide +kernel
theorem dX6_sortTableArg_45 : decode cX6_sortTableArg 45 = .ok (.iaload, 1) := by decide +kernel
theorem dX6_sortTableArg_46 : decode cX6_sortTableArg 46 = .ok (.invokestatic 109, 3) := by decide +kernel
theorem dX6_sortTableArg_49 : decode cX6_sortTableArg 49 = .ok (.ifCond .eq 13, 3) := by decide +kernel
theorem dX6_sortTableArg_52 : decode cX6_sortTableArg 52 = .ok (.aload_n 1, 1) := by decide +kernel
theorem dX6_sortTableArg_53 : decode cX6_sortTableArg 53 = .ok (.getfield 102, 3) := by decide +kernel
theorem dX6_sortTableArg_56 : decode cX6_sortTableArg 56 = .ok (.iload_n 2, 1) := by decide +kernel
theorem dX6_sortTableArg_57 : decode cX6_sortTableArg 57 = .ok (.iconst 3, 1) := by decide +kernel
theorem dX6_sortTableArg_58 : decode cX6_sortTableArg 58 = .ok (.iastore, 1) := by decide +kernel
theorem dX6_sortTableArg_59 : decode cX6_sortTableArg 59 = .ok (.goto 13, 3) := by decide +kernel
theorem dX6_sortTableArg_62 : decode cX6_sortTableArg 62 = .ok (.iconst 1, 1) := by decide +kernel
theorem dX6_sortTableArg_63 : decode cX6_sortTableArg 63 = .ok (.aload_n 1, 1) := by decide +kernel
theorem dX6_sortTableArg_64 : decode cX6_sortTableArg 64 = .ok (.getfield 106, 3) := by decide +kernel
theorem dX6_sortTableArg_67 : decode cX6_sortTableArg 67 = .ok (.iload_n 2, 1) := by decide +kernel
theorem dX6_sortTableArg_68 : decode cX6_sortTableArg 68 = .ok (.iaload, 1) := by decide +kernel
theorem dX6_sortTableArg_69 : decode cX6_sortTableArg 69 = .ok (.ishl, 1) := by decide +kernel
theorem dX6_sortTableArg_70 : decode cX6_sortTableArg 70 = .ok (.istore 4, 2) := by decide +kernel
theorem dX6_sortTableArg_72 : decode cX6_sortTableArg 72 = .ok (.aload_n 1, 1) := by decide +kernel
theorem dX6_sortTableArg_73 : decode cX6_sortTableArg 73 = .ok (.getfield 102, 3) := by decide +kernel
theorem dX6_sortTableArg_76 : decode cX6_sortTableArg 76 = .ok (.iload_n 2, 1) := by decide +kernel
theorem dX6_sortTableArg_77 : decode cX6_sortTableArg 77 = .ok (.iaload, 1) := by decide +kernel
theorem dX6_sortTableArg_78 : decode cX6_sortTableArg 78 = .ok (.iconst 1, 1) := by decide +kernel
theorem dX6_sortTableArg_79 : decode cX6_sortTableArg 79 = .ok (.if_icmp .eq 12, 3) := by decide +kernel
theorem dX6_sortTableArg_82 : decode cX6_sortTableArg 82 = .ok (.aload_n 1, 1) := by decide +kernel
theorem dX6_sortTableArg_83 : decode cX6_sortTableArg 83 = .ok (.getfield 102, 3) := by decide +kernel
theorem dX6_sortTableArg_86 : decode cX6_sortTableArg 86 = .ok (.iload_n 2, 1) := by decide +kernel
theorem dX6_sortTableArg_87 : decode cX6_sortTableArg 87 = .ok (.iaload, 1) := by decide +kernel
theorem dX6_sortTableArg_88 : decode cX6_sortTableArg 88 = .ok (.ifCond .ne 15, 3) := by decide +kernel
theorem dX6_sortTableArg_91 : decode cX6_sortTableArg 91 = .ok (.aload_n 1, 1) := by decide +kernel
theorem dX6_sortTableArg_92 : decode cX6_sortTableArg 92 = .ok (.dup, 1) := by decide +kernel
theorem dX6_sortTableArg_93 : decode cX6_sortTableArg 93 = .ok (.getfield 74, 3) := by decide +kernel
theorem dX6_sortTableArg_96 : decode cX6_sortTableArg 96 = .ok (.iconst 1, 1) := by decide +kernel
theorem dX6_sortTableArg_97 : decode cX6_sortTableArg 97 = .ok (.iload_n 2, 1) := by decide +kernel
theorem dX6_sortTableArg_98 : decode cX6_sortTableArg 98 = .ok (.ishl, 1) := by decide +kernel
theorem dX6_sortTableArg_99 : decode cX6_sortTableArg 99 = .ok (.ior, 1) := by decide +kernel
theorem dX6_sortTableArg_100 : decode cX6_sortTableArg 100 = .ok (.putfield 74, 3) := by decide +kernel
theorem dX6_sortTableArg_103 : decode cX6_sortTableArg 103 = .ok (.iload 4, 2) := by decide +kernel
theorem dX6_sortTableArg_105 : decode cX6_sortTableArg 105 = .ok (.ireturn, 1) := by decide +kernel
theorem i9wsX6_sortTableArg_0 : ∀ w ∈ ([.fieldLink RX6 102 "FactKeeper$Goal" "kinds" "[I", .fieldLink RX6 36 "FactKeeper$Reader" "known" "I", .fieldLink RX6 106 "FactKeeper$Goal" "args" "[I", .fieldLink RX6 74 "FactKeeper$Goal" "mask" "I", .static yX11_isIn, .initialized RX11, .code yX11_isIn cX11_isIn 2 (some .boolean)] : List Cond), w ∈ wsX6_sortTableArg := fun _ h => (List.mem_cons_of_mem _ (List.mem_append_left _ (List.mem_append_left _ h)))
set_option maxRecDepth 20000 in
theorem ggX6_sortTableArg_X11_isIn : GoodIn wsX6_sortTableArg wsX11_isIn := (gin_c (mem_at i9wsX6_sortTableArg_0 6 rfl) rfl gin_n)
set_option maxRecDepth 20000 in
theorem gX6_sortTableArg_X11_isIn_n109 : GoodIn wsX6_sortTableArg (wsX11_isIn) := ggX6_sortTableArg_X11_isIn
set_option maxHeartbeats 4000000 in
set_option maxRecDepth 100000 in
theorem T_X6_sortTableArg (l : Launch) (hl : l.stackTraces = false) (D : va_G) (cA : Nat → ClassId) {l0 : Option Nat} {l1 : Option Nat} {l2 : Int32} {l3 : Int32} {x : HS} {Q : Int32 → HS → Prop} {X : String → HS → Prop} (h : w_X6_sortTableArg l0 l1 l2 l3 x Q X) : YI l yX6_sortTableArg wsX6_sortTableArg 1 21 D cA [.q l0, .q l1, .i l2, .i l3] x Q X := by
  refine YI.of (cc := cX6_sortTableArg) (maxL := 5) (ret := (some .int)) hl (by decide) rfl rfl (fun g B fr => ?_)
  have o := B.o
  have hb := B.hb
  have hts := B.hts
  have hown : g.s.vm.findClass RX6 = some g.m.cls := B.hown
  have in2 : ∀ w ∈ u_ws RX2 TX2 6, w ∈ wsX6_sortTableArg := fun w h => (List.mem_cons_of_mem _ (List.mem_append_left _ (List.mem_append_right _ h)))
  have in6 : ∀ w ∈ u_ws RX6 TX6 8, w ∈ wsX6_sortTableArg := fun w h => (List.mem_cons_of_mem _ (List.mem_append_right _ h))
  unfold w_X6_sortTableArg at h
  show KW g 5 0 [(0, .q l0), (1, .q l1), (2, .i l2), (3, .i l3)] [] x
  refine k_iconst (v := 0) o hb dX6_sortTableArg_0 (by decide) ?_
  refine k_istore o hb dX6_sortTableArg_1 rfl ?_
  refine k_aload_n o hb dX6_sortTableArg_3 rfl 2 rfl ?_
  refine k_getF (C := RX2) (T := TX2) (N := 6) o hb hts in2 hown rfl (by decide) 0 (by decide) rfl (hts (.fieldLink RX6 102 "FactKeeper$Goal" "kinds" "[I") (by decide +kernel)) (fun _ h9 => h9) dX6_sortTableArg_4 h (fun v1 h => ?_)
  refine k_iload_n o hb dX6_sortTableArg_7 rfl 3 rfl ?_
  refine k_iald o hb dX6_sortTableArg_8 h (fun v2 h => ?_)
  refine k_iconst (v := 2) o hb dX6_sortTableArg_9 (by decide) ?_
  refine wJoin_elim (M := fun K => ∀ (v5 : Int32) (x4 : HS), K v5 x4 → KW g 5 72 [(1, .q l1), (2, .i l2), (4, .i v5)] [] x4) h ?_ (fun j3 hj3 h => ?_)
  · skip
    intro v5 x4 h
    refine k_aload_n o hb dX6_sortTableArg_72 rfl 0 rfl ?_
    refine k_getF (C := RX2) (T := TX2) (N := 6) o hb hts in2 hown rfl (by decide) 0 (by decide) rfl (hts (.fieldLink RX6 102 "FactKeeper$Goal" "kinds" "[I") (by decide +kernel)) (fun _ h9 => h9) dX6_sortTableArg_73 h (fun v6 h => ?_)
    refine k_iload_n o hb dX6_sortTableArg_76 rfl 1 rfl ?_
    refine k_iald o hb dX6_sortTableArg_77 h (fun v7 h => ?_)
    refine k_iconst (v := 1) o hb dX6_sortTableArg_78 (by decide) ?_
    refine wJoin_elim (M := fun K => ∀  (x9 : HS), K  x9 → KW g 5 103 [(4, .i v5)] [] x9) h ?_ (fun j8 hj8 h => ?_)
    · skip
      intro  x9 h
      refine k_iload o hb dX6_sortTableArg_103 0 rfl ?_
      exact k_iret o hb B.hr fr dX6_sortTableArg_105 h
    · skip
      refine wJoin_elim (M := fun K => ∀  (x11 : HS), K  x11 → KW g 5 91 [(1, .q l1), (2, .i l2), (4, .i v5)] [] x11) h ?_ (fun j10 hj10 h => ?_)
      · skip
        intro  x11 h
        refine k_aload_n o hb dX6_sortTableArg_91 rfl 0 rfl ?_
        refine k_dup o hb dX6_sortTableArg_92 ?_
        refine k_getI (C := RX2) (T := TX2) (N := 6) o hb hts in2 hown rfl (by decide) 4 (by decide) rfl (hts (.fieldLink RX6 74 "FactKeeper$Goal" "mask" "I") (by decide +kernel)) (fun _ h9 => h9) dX6_sortTableArg_93 h (fun v12 h => ?_)
        refine k_iconst (v := 1) o hb dX6_sortTableArg_96 (by decide) ?_
        refine k_iload_n o hb dX6_sortTableArg_97 rfl 1 rfl ?_
        refine k_ishl o hb dX6_sortTableArg_98 ?_
        refine k_ior o hb dX6_sortTableArg_99 ?_
        refine k_putI (C := RX2) (T := TX2) (N := 6) (ty := .int) o hb hts in2 tyX2 tyX2_ok nmX2 hown rfl (by decide) 4 (by decide) rfl (hts (.fieldLink RX6 74 "FactKeeper$Goal" "mask" "I") (by decide +kernel)) (fun _ h9 => h9) rfl (by decide +kernel) (fun _ => rfl) (fun _ => rfl) dX6_sortTableArg_100 h (fun x13 h => ?_)
        exact KW.sub [2] rfl (hj8 x13 h)
      · skip
        refine k_icmp_eq (tgt := 91) o hb dX6_sortTableArg_79 (by decide) h (fun h => ?_) (fun h => ?_)
        · skip
          exact KW.sub [0, 1, 2] rfl (hj10 x4 h)
        · skip
          refine k_aload_n o hb dX6_sortTableArg_82 rfl 0 rfl ?_
          refine k_getF (C := RX2) (T := TX2) (N := 6) o hb hts in2 hown rfl (by decide) 0 (by decide) rfl (hts (.fieldLink RX6 102 "FactKeeper$Goal" "kinds" "[I") (by decide +kernel)) (fun _ h9 => h9) dX6_sortTableArg_83 h (fun v14 h => ?_)
          refine k_iload_n o hb dX6_sortTableArg_86 rfl 1 rfl ?_
          refine k_iald o hb dX6_sortTableArg_87 h (fun v15 h => ?_)
          refine k_if_ne (tgt := 103) o hb dX6_sortTableArg_88 (by decide) h (fun h => ?_) (fun h => ?_)
          · skip
            exact KW.sub [0, 1, 2] rfl (hj10 x4 h)
          · skip
            exact KW.sub [2] rfl (hj8 x4 h)
  · skip
    refine k_icmp_ne (tgt := 72) o hb dX6_sortTableArg_10 (by decide) h (fun h => ?_) (fun h => ?_)
    · skip
      refine k_aload_n o hb dX6_sortTableArg_13 rfl 1 rfl ?_
      refine k_getI (C := RX6) (T := TX6) (N := 8) o hb hts in6 hown rfl (by decide) 2 (by decide) rfl (hts (.fieldLink RX6 36 "FactKeeper$Reader" "known" "I") (by decide +kernel)) (fun _ h9 => h9) dX6_sortTableArg_14 h (fun v16 h => ?_)
      refine k_aload_n o hb dX6_sortTableArg_17 rfl 2 rfl ?_
      refine k_getF (C := RX2) (T := TX2) (N := 6) o hb hts in2 hown rfl (by decide) 1 (by decide) rfl (hts (.fieldLink RX6 106 "FactKeeper$Goal" "args" "[I") (by decide +kernel)) (fun _ h9 => h9) dX6_sortTableArg_18 h (fun v17 h => ?_)
      refine k_iload_n o hb dX6_sortTableArg_21 rfl 3 rfl ?_
      refine k_iald o hb dX6_sortTableArg_22 h (fun v18 h => ?_)
      refine k_run_i o (fun _ _ q => q.elim) (k_runSN (host := RX11) o hb B.hml hown hts (T_X11_isIn g.l o.hl g.D g.cA h) yX_no ⟨va_cnB 2 hts gX6_sortTableArg_X11_isIn_n109 rfl rfl rfl o.hZ.2.2.1.2.2.2.2.2.2.2.2.2.1 (hts (.initialized RX11) (by decide +kernel)) (by decide +kernel) ⟨yle B.hR1 rfl, yle B.hR2 rfl⟩, hts (.static yX11_isIn) (by decide +kernel), trivial⟩ rfl rfl (Nat.le_of_ble_eq_true rfl) dX6_sortTableArg_23) (fun v20 x19 h => ?_)
      refine k_if_eq (tgt := 39) o hb dX6_sortTableArg_26 (by decide) h (fun h => ?_) (fun h => ?_)
      · skip
        refine k_iload_n o hb dX6_sortTableArg_39 rfl 4 rfl ?_
        refine k_aload_n o hb dX6_sortTableArg_40 rfl 2 rfl ?_
        refine k_getF (C := RX2) (T := TX2) (N := 6) o hb hts in2 hown rfl (by decide) 1 (by decide) rfl (hts (.fieldLink RX6 106 "FactKeeper$Goal" "args" "[I") (by decide +kernel)) (fun _ h9 => h9) dX6_sortTableArg_41 h (fun v21 h => ?_)
        refine k_iload_n o hb dX6_sortTableArg_44 rfl 3 rfl ?_
        refine k_iald o hb dX6_sortTableArg_45 h (fun v22 h => ?_)
        refine k_run_i o (fun _ _ q => q.elim) (k_runSN (host := RX11) o hb B.hml hown hts (T_X11_isIn g.l o.hl g.D g.cA h) yX_no ⟨va_cnB 2 hts gX6_sortTableArg_X11_isIn_n109 rfl rfl rfl o.hZ.2.2.1.2.2.2.2.2.2.2.2.2.1 (hts (.initialized RX11) (by decide +kernel)) (by decide +kernel) ⟨yle B.hR1 rfl, yle B.hR2 rfl⟩, hts (.static yX11_isIn) (by decide +kernel), trivial⟩ rfl rfl (Nat.le_of_ble_eq_true rfl) dX6_sortTableArg_46) (fun v24 x23 h => ?_)
        refine k_if_eq (tgt := 62) o hb dX6_sortTableArg_49 (by decide) h (fun h => ?_) (fun h => ?_)
        · skip
          refine k_iconst (v := 1) o hb dX6_sortTableArg_62 (by decide) ?_
          refine k_aload_n o hb dX6_sortTableArg_63 rfl 2 rfl ?_
          refine k_getF (C := RX2) (T := TX2) (N := 6) o hb hts in2 hown rfl (by decide) 1 (by decide) rfl (hts (.fieldLink RX6 106 "FactKeeper$Goal" "args" "[I") (by decide +kernel)) (fun _ h9 => h9) dX6_sortTableArg_64 h (fun v25 h => ?_)
          refine k_iload_n o hb dX6_sortTableArg_67 rfl 3 rfl ?_
          refine k_iald o hb dX6_sortTableArg_68 h (fun v26 h => ?_)
          refine k_ishl o hb dX6_sortTableArg_69 ?_
          refine k_istore o hb dX6_sortTableArg_70 rfl ?_
          exact KW.sub [2, 3, 0] rfl (hj3 ((1 : Int32) <<< (v26 &&& 31)) x23 h)
        · skip
          refine k_aload_n o hb dX6_sortTableArg_52 rfl 2 rfl ?_
          refine k_getF (C := RX2) (T := TX2) (N := 6) o hb hts in2 hown rfl (by decide) 0 (by decide) rfl (hts (.fieldLink RX6 102 "FactKeeper$Goal" "kinds" "[I") (by decide +kernel)) (fun _ h9 => h9) dX6_sortTableArg_53 h (fun v27 h => ?_)
          refine k_iload_n o hb dX6_sortTableArg_56 rfl 3 rfl ?_
          refine k_iconst (v := 3) o hb dX6_sortTableArg_57 (by decide) ?_
          refine k_iast o hb dX6_sortTableArg_58 h (fun x28 h => ?_)
          refine k_goto (tgt := 72) o hb dX6_sortTableArg_59 (by decide) ?_
          exact KW.sub [2, 3, 0] rfl (hj3 0 x28 h)
      · skip
        refine k_aload_n o hb dX6_sortTableArg_29 rfl 2 rfl ?_
        refine k_getF (C := RX2) (T := TX2) (N := 6) o hb hts in2 hown rfl (by decide) 0 (by decide) rfl (hts (.fieldLink RX6 102 "FactKeeper$Goal" "kinds" "[I") (by decide +kernel)) (fun _ h9 => h9) dX6_sortTableArg_30 h (fun v29 h => ?_)
        refine k_iload_n o hb dX6_sortTableArg_33 rfl 3 rfl ?_
        refine k_iconst (v := 1) o hb dX6_sortTableArg_34 (by decide) ?_
        refine k_iast o hb dX6_sortTableArg_35 h (fun x30 h => ?_)
        refine k_goto (tgt := 72) o hb dX6_sortTableArg_36 (by decide) ?_
        exact KW.sub [2, 3, 0] rfl (hj3 0 x30 h)
    · skip
      exact KW.sub [2, 3, 0] rfl (hj3 0 x h)
theorem dX6_refuseArgTooMuch_0 : decode cX6_refuseArgTooMuch 0 = .ok (.aload_n 0, 1) := by decide +kernel
theorem dX6_refuseArgTooMuch_1 : decode cX6_refuseArgTooMuch 1 = .ok (.invokevirtual 42, 3) := by decide +kernel
theorem dX6_refuseArgTooMuch_4 : decode cX6_refuseArgTooMuch 4 = .ok (.bipush 44, 2) := by decide +kernel
theorem dX6_refuseArgTooMuch_6 : decode cX6_refuseArgTooMuch 6 = .ok (.if_icmp .ne 25, 3) := by decide +kernel
theorem dX6_refuseArgTooMuch_9 : decode cX6_refuseArgTooMuch 9 = .ok (.aload_n 0, 1) := by decide +kernel
theorem dX6_refuseArgTooMuch_10 : decode cX6_refuseArgTooMuch 10 = .ok (.dup, 1) := by decide +kernel
theorem dX6_refuseArgTooMuch_11 : decode cX6_refuseArgTooMuch 11 = .ok (.getfield 33, 3) := by decide +kernel
theorem dX6_refuseArgTooMuch_14 : decode cX6_refuseArgTooMuch 14 = .ok (.iconst 1, 1) := by decide +kernel
theorem dX6_refuseArgTooMuch_15 : decode cX6_refuseArgTooMuch 15 = .ok (.iadd, 1) := by decide +kernel
theorem dX6_refuseArgTooMuch_16 : decode cX6_refuseArgTooMuch 16 = .ok (.putfield 33, 3) := by decide +kernel
theorem dX6_refuseArgTooMuch_19 : decode cX6_refuseArgTooMuch 19 = .ok (.aload_n 0, 1) := by decide +kernel
theorem dX6_refuseArgTooMuch_20 : decode cX6_refuseArgTooMuch 20 = .ok (.invokevirtual 39, 3) := by decide +kernel
theorem dX6_refuseArgTooMuch_23 : decode cX6_refuseArgTooMuch 23 = .ok (.aload_n 0, 1) := by decide +kernel
theorem dX6_refuseArgTooMuch_24 : decode cX6_refuseArgTooMuch 24 = .ok (.aload_n 0, 1) := by decide +kernel
theorem dX6_refuseArgTooMuch_25 : decode cX6_refuseArgTooMuch 25 = .ok (.getfield 33, 3) := by decide +kernel
theorem dX6_refuseArgTooMuch_28 : decode cX6_refuseArgTooMuch 28 = .ok (.invokevirtual 60, 3) := by decide +kernel
theorem dX6_refuseArgTooMuch_31 : decode cX6_refuseArgTooMuch 31 = .ok (.return_, 1) := by decide +kernel
theorem i9wsX6_refuseArgTooMuch_0 : ∀ w ∈ ([.fieldLink RX6 33 "FactKeeper$Reader" "at" "I", .methodLink RX6 42 yX6_here, .instanceMethod yX6_here, .selects RX6 yX6_here yX6_here, .initialized RX6, .code yX6_here cX6_here 1 (some .int), .fieldLink RX6 26 "FactKeeper$Reader" "length" "I", .fieldLink RX6 22 "FactKeeper$Reader" "text" "[B", .methodLink RX6 39 yX6_skipBlanks, .instanceMethod yX6_skipBlanks, .selects RX6 yX6_skipBlanks yX6_skipBlanks, .code yX6_skipBlanks cX6_skipBlanks 1 none, .methodLink RX6 60 yX6_refuse, .instanceMethod yX6_refuse, .selects RX6 yX6_refuse yX6_refuse, .code yX6_refuse cX6_refuse 2 none, .classLink RX6 131 "java/lang/UnsupportedOperationException", .initialized "java/lang/UnsupportedOperationException", .fieldLink RX6 17 "FactKeeper$Reader" "place" "I"] : List Cond), w ∈ wsX6_refuseArgTooMuch := fun _ h => (List.mem_cons_of_mem _ (List.mem_append_left _ (List.mem_append_left _ h)))
theorem i9wsX6_refuseArgTooMuch_1 : ∀ w ∈ wsX60, w ∈ wsX6_refuseArgTooMuch := fun _ h => (List.mem_cons_of_mem _ (List.mem_append_left _ (List.mem_append_right _ h)))
set_option maxRecDepth 20000 in
theorem ggX6_refuseArgTooMuch_X6_here : GoodIn wsX6_refuseArgTooMuch wsX6_here := (gin_c (mem_at i9wsX6_refuseArgTooMuch_0 5 rfl) rfl (goodIn_app (gin_c (mem_at i9wsX6_refuseArgTooMuch_0 0 rfl) rfl (gin_c (mem_at i9wsX6_refuseArgTooMuch_0 6 rfl) rfl (gin_c (mem_at i9wsX6_refuseArgTooMuch_0 7 rfl) rfl gin_n))) (goodIn_sub i9wsX6_refuseArgTooMuch_1 g9_7)))
set_option maxRecDepth 20000 in
theorem gX6_refuseArgTooMuch_X6_here : GoodIn wsX6_refuseArgTooMuch (wsV RX6 42 RX6 yX6_here wsX6_here) := goodIn_app (gin_c (mem_at i9wsX6_refuseArgTooMuch_0 1 rfl) rfl (gin_c (mem_at i9wsX6_refuseArgTooMuch_0 2 rfl) rfl (gin_c (mem_at i9wsX6_refuseArgTooMuch_0 3 rfl) rfl (gin_c (mem_at i9wsX6_refuseArgTooMuch_0 4 rfl) rfl gin_n)))) ggX6_refuseArgTooMuch_X6_here
set_option maxRecDepth 20000 in
theorem ggX6_refuseArgTooMuch_X6_skipBlanks : GoodIn wsX6_refuseArgTooMuch wsX6_skipBlanks := (gin_c (mem_at i9wsX6_refuseArgTooMuch_0 11 rfl) rfl (goodIn_app (gin_c (mem_at i9wsX6_refuseArgTooMuch_0 0 rfl) rfl (gin_c (mem_at i9wsX6_refuseArgTooMuch_0 6 rfl) rfl (gin_c (mem_at i9wsX6_refuseArgTooMuch_0 1 rfl) rfl (gin_c (mem_at i9wsX6_refuseArgTooMuch_0 2 rfl) rfl (gin_c (mem_at i9wsX6_refuseArgTooMuch_0 3 rfl) rfl (gin_c (mem_at i9wsX6_refuseArgTooMuch_0 4 rfl) rfl (gin_c (mem_at i9wsX6_refuseArgTooMuch_0 5 rfl) rfl (gin_c (mem_at i9wsX6_refuseArgTooMuch_0 7 rfl) rfl gin_n)))))))) (goodIn_sub i9wsX6_refuseArgTooMuch_1 g9_7)))
set_option maxRecDepth 20000 in
theorem gX6_refuseArgTooMuch_X6_skipBlanks : GoodIn wsX6_refuseArgTooMuch (wsV RX6 39 RX6 yX6_skipBlanks wsX6_skipBlanks) := goodIn_app (gin_c (mem_at i9wsX6_refuseArgTooMuch_0 8 rfl) rfl (gin_c (mem_at i9wsX6_refuseArgTooMuch_0 9 rfl) rfl (gin_c (mem_at i9wsX6_refuseArgTooMuch_0 10 rfl) rfl (gin_c (mem_at i9wsX6_refuseArgTooMuch_0 4 rfl) rfl gin_n)))) ggX6_refuseArgTooMuch_X6_skipBlanks
theorem i9wsX6_refuseArgTooMuch_2 : ∀ w ∈ ((vx_atS RX6 135 "java/lang/UnsupportedOperationException" ["java/lang/RuntimeException", "java/lang/Exception"]).filter goodWord), w ∈ wsX6_refuseArgTooMuch := fun _ h => (List.mem_cons_of_mem _ (List.mem_append_right _ h))
set_option maxRecDepth 20000 in
theorem ggX6_refuseArgTooMuch_X6_refuse : GoodIn wsX6_refuseArgTooMuch wsX6_refuse := (gin_c (mem_at i9wsX6_refuseArgTooMuch_0 15 rfl) rfl (goodIn_app (goodIn_app (gin_c (mem_at i9wsX6_refuseArgTooMuch_0 16 rfl) rfl (gin_c (mem_at i9wsX6_refuseArgTooMuch_0 17 rfl) rfl (gin_c (mem_at i9wsX6_refuseArgTooMuch_0 18 rfl) rfl gin_n))) (goodIn_sub i9wsX6_refuseArgTooMuch_1 g9_7)) (goodIn_sub i9wsX6_refuseArgTooMuch_2 g9_8)))
set_option maxRecDepth 20000 in
theorem gX6_refuseArgTooMuch_X6_refuse : GoodIn wsX6_refuseArgTooMuch (wsV RX6 60 RX6 yX6_refuse wsX6_refuse) := goodIn_app (gin_c (mem_at i9wsX6_refuseArgTooMuch_0 12 rfl) rfl (gin_c (mem_at i9wsX6_refuseArgTooMuch_0 13 rfl) rfl (gin_c (mem_at i9wsX6_refuseArgTooMuch_0 14 rfl) rfl (gin_c (mem_at i9wsX6_refuseArgTooMuch_0 4 rfl) rfl gin_n)))) ggX6_refuseArgTooMuch_X6_refuse
set_option maxHeartbeats 4000000 in
set_option maxRecDepth 100000 in
theorem T_X6_refuseArgTooMuch (l : Launch) (hl : l.stackTraces = false) (D : va_G) (cA : Nat → ClassId) {l0 : Option Nat} {x : HS} {Q : HS → Prop} {X : String → HS → Prop} (h : w_X6_refuseArgTooMuch l0 x Q X) : YV l yX6_refuseArgTooMuch wsX6_refuseArgTooMuch 7 111 D cA [.q l0] x Q X := by
  refine YV.of (cc := cX6_refuseArgTooMuch) (maxL := 1) (ret := none) hl (by decide) rfl rfl (fun g B fr => ?_)
  have o := B.o
  have hb := B.hb
  have hts := B.hts
  have hown : g.s.vm.findClass RX6 = some g.m.cls := B.hown
  have in6 : ∀ w ∈ u_ws RX6 TX6 8, w ∈ wsX6_refuseArgTooMuch := fun w h => (List.mem_cons_of_mem _ (List.mem_append_left _ (List.mem_append_right _ h)))
  unfold w_X6_refuseArgTooMuch at h
  show KW g 1 0 [(0, .q l0)] [] x
  refine k_aload_n o hb dX6_refuseArgTooMuch_0 rfl 0 rfl ?_
  refine k_run_i o (fun _ _ q => q) (k_runV (ci := 6) (rc := (RX6, TX6, 8)) o hb B.hml hown hts rfl (by decide) (T_X6_here g.l o.hl g.D g.cA h.2) (cwV 0 hts gX6_refuseArgTooMuch_X6_here rfl rfl rfl (by decide +kernel) ⟨yle B.hR1 rfl, yle B.hR2 rfl⟩) h.1 rfl rfl (Nat.le_of_ble_eq_true rfl) dX6_refuseArgTooMuch_1) (fun v2 x1 h => ?_)
  refine k_bipush (v := 44) o hb dX6_refuseArgTooMuch_4 (by decide) ?_
  refine wJoin_elim (M := fun K => ∀  (x4 : HS), K  x4 → KW g 1 31 [] [] x4) h ?_ (fun j3 hj3 h => ?_)
  · skip
    intro  x4 h
    exact k_vret o hb B.hr fr dX6_refuseArgTooMuch_31 h
  · skip
    refine k_icmp_ne (tgt := 31) o hb dX6_refuseArgTooMuch_6 (by decide) h (fun h => ?_) (fun h => ?_)
    · skip
      refine k_aload_n o hb dX6_refuseArgTooMuch_9 rfl 0 rfl ?_
      refine k_dup o hb dX6_refuseArgTooMuch_10 ?_
      refine k_getI (C := RX6) (T := TX6) (N := 8) o hb hts in6 hown rfl (by decide) 6 (by decide) rfl (hts (.fieldLink RX6 33 "FactKeeper$Reader" "at" "I") (by decide +kernel)) (fun _ h9 => h9) dX6_refuseArgTooMuch_11 h (fun v5 h => ?_)
      refine k_iconst (v := 1) o hb dX6_refuseArgTooMuch_14 (by decide) ?_
      refine k_iadd o hb dX6_refuseArgTooMuch_15 ?_
      refine k_putI (C := RX6) (T := TX6) (N := 8) (ty := .int) o hb hts in6 tyX6 tyX6_ok nmX6 hown rfl (by decide) 6 (by decide) rfl (hts (.fieldLink RX6 33 "FactKeeper$Reader" "at" "I") (by decide +kernel)) (fun _ h9 => h9) rfl (by decide +kernel) (fun _ => rfl) (fun _ => rfl) dX6_refuseArgTooMuch_16 h (fun x6 h => ?_)
      refine k_aload_n o hb dX6_refuseArgTooMuch_19 rfl 0 rfl ?_
      refine k_run_v o (fun _ _ q => q) (k_runV (ci := 6) (rc := (RX6, TX6, 8)) o hb B.hml hown hts rfl (by decide) (T_X6_skipBlanks g.l o.hl g.D g.cA h.2) (cwV 0 hts gX6_refuseArgTooMuch_X6_skipBlanks rfl rfl rfl (by decide +kernel) ⟨yle B.hR1 rfl, yle B.hR2 rfl⟩) h.1 rfl rfl (Nat.le_of_ble_eq_true rfl) dX6_refuseArgTooMuch_20) (fun x7 h => ?_)
      refine k_aload_n o hb dX6_refuseArgTooMuch_23 rfl 0 rfl ?_
      refine k_aload_n o hb dX6_refuseArgTooMuch_24 rfl 0 rfl ?_
      refine k_getI (C := RX6) (T := TX6) (N := 8) o hb hts in6 hown rfl (by decide) 6 (by decide) rfl (hts (.fieldLink RX6 33 "FactKeeper$Reader" "at" "I") (by decide +kernel)) (fun _ h9 => h9) dX6_refuseArgTooMuch_25 h (fun v9 h => ?_)
      refine k_run_v o (fun _ _ q => q) (k_runV (ci := 6) (rc := (RX6, TX6, 8)) o hb B.hml hown hts rfl (by decide) (T_X6_refuse g.l o.hl g.D g.cA h.2) (cwV 1 hts gX6_refuseArgTooMuch_X6_refuse rfl rfl rfl (by decide +kernel) ⟨yle B.hR1 rfl, yle B.hR2 rfl⟩) h.1 rfl rfl (Nat.le_of_ble_eq_true rfl) dX6_refuseArgTooMuch_28) (fun x10 h => ?_)
      exact KW.sub [] rfl (hj3 x10 h)
    · skip
      exact KW.sub [] rfl (hj3 x1 h)
theorem dX6_readTableGoal_0 : decode cX6_readTableGoal 0 = .ok (.aload_n 1, 1) := by decide +kernel
theorem dX6_readTableGoal_1 : decode cX6_readTableGoal 1 = .ok (.aload_n 0, 1) := by decide +kernel
theorem dX6_readTableGoal_2 : decode cX6_readTableGoal 2 = .ok (.invokevirtual 42, 3) := by decide +kernel
theorem dX6_readTableGoal_5 : decode cX6_readTableGoal 5 = .ok (.putfield 63, 3) := by decide +kernel
theorem dX6_readTableGoal_8 : decode cX6_readTableGoal 8 = .ok (.aload_n 1, 1) := by decide +kernel
theorem dX6_readTableGoal_9 : decode cX6_readTableGoal 9 = .ok (.getfield 63, 3) := by decide +kernel
theorem dX6_readTableGoal_12 : decode cX6_readTableGoal 12 = .ok (.bipush 33, 2) := by decide +kernel
theorem dX6_readTableGoal_14 : decode cX6_readTableGoal 14 = .ok (.if_icmp .ne 17, 3) := by decide +kernel
theorem dX6_readTableGoal_17 : decode cX6_readTableGoal 17 = .ok (.aload_n 0, 1) := by decide +kernel
theorem dX6_readTableGoal_18 : decode cX6_readTableGoal 18 = .ok (.dup, 1) := by decide +kernel
theorem dX6_readTableGoal_19 : decode cX6_readTableGoal 19 = .ok (.getfield 33, 3) := by decide +kernel
theorem dX6_readTableGoal_22 : decode cX6_readTableGoal 22 = .ok (.iconst 1, 1) := by decide +kernel
theorem dX6_readTableGoal_23 : decode cX6_readTableGoal 23 = .ok (.iadd, 1) := by decide +kernel
theorem dX6_readTableGoal_24 : decode cX6_readTableGoal 24 = .ok (.putfield 33, 3) := by decide +kernel
theorem dX6_readTableGoal_27 : decode cX6_readTableGoal 27 = .ok (.aload_n 0, 1) := by decide +kernel
theorem dX6_readTableGoal_28 : decode cX6_readTableGoal 28 = .ok (.invokevirtual 39, 3) := by decide +kernel
theorem dX6_readTableGoal_31 : decode cX6_readTableGoal 31 = .ok (.aload_n 1, 1) := by decide +kernel
theorem dX6_readTableGoal_32 : decode cX6_readTableGoal 32 = .ok (.aload_n 0, 1) := by decide +kernel
theorem dX6_readTableGoal_33 : decode cX6_readTableGoal 33 = .ok (.invokevirtual 66, 3) := by decide +kernel
theorem dX6_readTableGoal_36 : decode cX6_readTableGoal 36 = .ok (.putfield 70, 3) := by decide +kernel
theorem dX6_readTableGoal_39 : decode cX6_readTableGoal 39 = .ok (.aload_n 1, 1) := by decide +kernel
theorem dX6_readTableGoal_40 : decode cX6_readTableGoal 40 = .ok (.iconst 0, 1) := by decide +kernel
theorem dX6_readTableGoal_41 : decode cX6_readTableGoal 41 = .ok (.putfield 74, 3) := by decide +kernel
theorem dX6_readTableGoal_44 : decode cX6_readTableGoal 44 = .ok (.aload_n 0, 1) := by decide +kernel
theorem dX6_readTableGoal_45 : decode cX6_readTableGoal 45 = .ok (.invokevirtual 39, 3) := by decide +kernel
theorem dX6_readTableGoal_48 : decode cX6_readTableGoal 48 = .ok (.aload_n 0, 1) := by decide +kernel
theorem dX6_readTableGoal_49 : decode cX6_readTableGoal 49 = .ok (.bipush 40, 2) := by decide +kernel
theorem dX6_readTableGoal_51 : decode cX6_readTableGoal 51 = .ok (.invokevirtual 56, 3) := by decide +kernel
theorem dX6_readTableGoal_54 : decode cX6_readTableGoal 54 = .ok (.iconst 0, 1) := by decide +kernel
theorem dX6_readTableGoal_55 : decode cX6_readTableGoal 55 = .ok (.istore_n 2, 1) := by decide +kernel
theorem dX6_readTableGoal_56 : decode cX6_readTableGoal 56 = .ok (.iconst 0, 1) := by decide +kernel
theorem dX6_readTableGoal_57 : decode cX6_readTableGoal 57 = .ok (.istore_n 3, 1) := by decide +kernel
theorem dX6_readTableGoal_58 : decode cX6_readTableGoal 58 = .ok (.iload_n 3, 1) := by decide +kernel
theorem dX6_readTableGoal_59 : decode cX6_readTableGoal 59 = .ok (.aload_n 1, 1) := by decide +kernel
theorem dX6_readTableGoal_60 : decode cX6_readTableGoal 60 = .ok (.getfield 70, 3) := by decide +kernel
theorem dX6_readTableGoal_63 : decode cX6_readTableGoal 63 = .ok (.getfield 77, 3) := by decide +kernel
theorem dX6_readTableGoal_66 : decode cX6_readTableGoal 66 = .ok (.if_icmp .ge 44, 3) := by decide +kernel
theorem dX6_readTableGoal_69 : decode cX6_readTableGoal 69 = .ok (.iload_n 3, 1) := by decide +kernel
theorem dX6_readTableGoal_70 : decode cX6_readTableGoal 70 = .ok (.ifCond .le 9, 3) := by decide +kernel
theorem dX6_readTableGoal_73 : decode cX6_readTableGoal 73 = .ok (.aload_n 0, 1) := by decide +kernel
theorem dX6_readTableGoal_74 : decode cX6_readTableGoal 74 = .ok (.bipush 44, 2) := by decide +kernel
theorem dX6_readTableGoal_76 : decode cX6_readTableGoal 76 = .ok (.invokevirtual 56, 3) := by decide +kernel
theorem dX6_readTableGoal_79 : decode cX6_readTableGoal 79 = .ok (.aload_n 0, 1) := by decide +kernel
theorem dX6_readTableGoal_80 : decode cX6_readTableGoal 80 = .ok (.invokevirtual 39, 3) := by decide +kernel
theorem dX6_readTableGoal_83 : decode cX6_readTableGoal 83 = .ok (.aload_n 0, 1) := by decide +kernel
theorem dX6_readTableGoal_84 : decode cX6_readTableGoal 84 = .ok (.aload_n 1, 1) := by decide +kernel
theorem dX6_readTableGoal_85 : decode cX6_readTableGoal 85 = .ok (.iload_n 3, 1) := by decide +kernel
theorem dX6_readTableGoal_86 : decode cX6_readTableGoal 86 = .ok (.iconst 1, 1) := by decide +kernel
theorem dX6_readTableGoal_87 : decode cX6_readTableGoal 87 = .ok (.invokevirtual 82, 3) := by decide +kernel
theorem dX6_readTableGoal_90 : decode cX6_readTableGoal 90 = .ok (.iload_n 2, 1) := by decide +kernel
theorem dX6_readTableGoal_91 : decode cX6_readTableGoal 91 = .ok (.aload_n 0, 1) := by decide +kernel
theorem dX6_readTableGoal_92 : decode cX6_readTableGoal 92 = .ok (.aload_n 1, 1) := by decide +kernel
theorem dX6_readTableGoal_93 : decode cX6_readTableGoal 93 = .ok (.iload_n 3, 1) := by decide +kernel
theorem dX6_readTableGoal_94 : decode cX6_readTableGoal 94 = .ok (.iload_n 2, 1) := by decide +kernel
theorem dX6_readTableGoal_95 : decode cX6_readTableGoal 95 = .ok (.invokevirtual 86, 3) := by decide +kernel
theorem dX6_readTableGoal_98 : decode cX6_readTableGoal 98 = .ok (.ior, 1) := by decide +kernel
theorem dX6_readTableGoal_99 : decode cX6_readTableGoal 99 = .ok (.istore_n 2, 1) := by decide +kernel
theorem dX6_readTableGoal_100 : decode cX6_readTableGoal 100 = .ok (.aload_n 0, 1) := by decide +kernel
theorem dX6_readTableGoal_101 : decode cX6_readTableGoal 101 = .ok (.invokevirtual 39, 3) := by decide +kernel
theorem dX6_readTableGoal_104 : decode cX6_readTableGoal 104 = .ok (.iinc 3 1, 3) := by decide +kernel
theorem dX6_readTableGoal_107 : decode cX6_readTableGoal 107 = .ok (.goto (-49), 3) := by decide +kernel
theorem dX6_readTableGoal_110 : decode cX6_readTableGoal 110 = .ok (.aload_n 0, 1) := by decide +kernel
theorem dX6_readTableGoal_111 : decode cX6_readTableGoal 111 = .ok (.invokevirtual 90, 3) := by decide +kernel
theorem dX6_readTableGoal_114 : decode cX6_readTableGoal 114 = .ok (.aload_n 0, 1) := by decide +kernel
theorem dX6_readTableGoal_115 : decode cX6_readTableGoal 115 = .ok (.bipush 41, 2) := by decide +kernel
theorem dX6_readTableGoal_117 : decode cX6_readTableGoal 117 = .ok (.invokevirtual 56, 3) := by decide +kernel
theorem dX6_readTableGoal_120 : decode cX6_readTableGoal 120 = .ok (.aload_n 1, 1) := by decide +kernel
theorem dX6_readTableGoal_121 : decode cX6_readTableGoal 121 = .ok (.getfield 63, 3) := by decide +kernel
theorem dX6_readTableGoal_124 : decode cX6_readTableGoal 124 = .ok (.bipush 116, 2) := by decide +kernel
theorem dX6_readTableGoal_126 : decode cX6_readTableGoal 126 = .ok (.if_icmp .ne 13, 3) := by decide +kernel
theorem dX6_readTableGoal_129 : decode cX6_readTableGoal 129 = .ok (.aload_n 0, 1) := by decide +kernel
theorem dX6_readTableGoal_130 : decode cX6_readTableGoal 130 = .ok (.dup, 1) := by decide +kernel
theorem dX6_readTableGoal_131 : decode cX6_readTableGoal 131 = .ok (.getfield 36, 3) := by decide +kernel
theorem dX6_readTableGoal_134 : decode cX6_readTableGoal 134 = .ok (.iload_n 2, 1) := by decide +kernel
theorem dX6_readTableGoal_135 : decode cX6_readTableGoal 135 = .ok (.ior, 1) := by decide +kernel
theorem dX6_readTableGoal_136 : decode cX6_readTableGoal 136 = .ok (.putfield 36, 3) := by decide +kernel
theorem dX6_readTableGoal_139 : decode cX6_readTableGoal 139 = .ok (.return_, 1) := by decide +kernel
theorem i9wsX6_readTableGoal_0 : ∀ w ∈ wsX6_readTableGoal_r1, w ∈ wsX6_readTableGoal := fun _ h => (List.mem_cons_of_mem _ (List.mem_append_left _ (List.mem_append_left _ (List.mem_append_left _ (List.mem_append_left _ (List.mem_append_left _ (List.mem_append_left _ h)))))))
theorem i9wsX6_readTableGoal_4 : ∀ w ∈ wsX60, w ∈ wsX6_readTableGoal := fun _ h => (List.mem_cons_of_mem _ (List.mem_append_left _ (List.mem_append_left _ (List.mem_append_left _ (List.mem_append_right _ h)))))
set_option maxRecDepth 20000 in
theorem ggX6_readTableGoal_X6_here : GoodIn wsX6_readTableGoal wsX6_here := (gin_c (mem_at i9wsX6_readTableGoal_0 10 rfl) rfl (goodIn_app (gin_c (mem_at i9wsX6_readTableGoal_0 1 rfl) rfl (gin_c (mem_at i9wsX6_readTableGoal_0 11 rfl) rfl (gin_c (mem_at i9wsX6_readTableGoal_0 12 rfl) rfl gin_n))) (goodIn_sub i9wsX6_readTableGoal_4 g9_7)))
set_option maxRecDepth 20000 in
theorem gX6_readTableGoal_X6_here : GoodIn wsX6_readTableGoal (wsV RX6 42 RX6 yX6_here wsX6_here) := goodIn_app (gin_c (mem_at i9wsX6_readTableGoal_0 6 rfl) rfl (gin_c (mem_at i9wsX6_readTableGoal_0 7 rfl) rfl (gin_c (mem_at i9wsX6_readTableGoal_0 8 rfl) rfl (gin_c (mem_at i9wsX6_readTableGoal_0 9 rfl) rfl gin_n)))) ggX6_readTableGoal_X6_here
set_option maxRecDepth 20000 in
theorem ggX6_readTableGoal_X6_skipBlanks : GoodIn wsX6_readTableGoal wsX6_skipBlanks := (gin_c (mem_at i9wsX6_readTableGoal_0 16 rfl) rfl (goodIn_app (gin_c (mem_at i9wsX6_readTableGoal_0 1 rfl) rfl (gin_c (mem_at i9wsX6_readTableGoal_0 11 rfl) rfl (gin_c (mem_at i9wsX6_readTableGoal_0 6 rfl) rfl (gin_c (mem_at i9wsX6_readTableGoal_0 7 rfl) rfl (gin_c (mem_at i9wsX6_readTableGoal_0 8 rfl) rfl (gin_c (mem_at i9wsX6_readTableGoal_0 9 rfl) rfl (gin_c (mem_at i9wsX6_readTableGoal_0 10 rfl) rfl (gin_c (mem_at i9wsX6_readTableGoal_0 12 rfl) rfl gin_n)))))))) (goodIn_sub i9wsX6_readTableGoal_4 g9_7)))
set_option maxRecDepth 20000 in
theorem gX6_readTableGoal_X6_skipBlanks : GoodIn wsX6_readTableGoal (wsV RX6 39 RX6 yX6_skipBlanks wsX6_skipBlanks) := goodIn_app (gin_c (mem_at i9wsX6_readTableGoal_0 13 rfl) rfl (gin_c (mem_at i9wsX6_readTableGoal_0 14 rfl) rfl (gin_c (mem_at i9wsX6_readTableGoal_0 15 rfl) rfl (gin_c (mem_at i9wsX6_readTableGoal_0 9 rfl) rfl gin_n)))) ggX6_readTableGoal_X6_skipBlanks
theorem i9wsX6_readTableGoal_1 : ∀ w ∈ wsX6_readTableGoal_r2, w ∈ wsX6_readTableGoal := fun _ h => (List.mem_cons_of_mem _ (List.mem_append_left _ (List.mem_append_left _ (List.mem_append_left _ (List.mem_append_left _ (List.mem_append_left _ (List.mem_append_right _ (List.mem_append_left _ h))))))))
theorem i9wsX6_readTableGoal_6 : ∀ w ∈ wsX90, w ∈ wsX6_readTableGoal := fun _ h => (List.mem_cons_of_mem _ (List.mem_append_left _ (List.mem_append_right _ h)))
theorem i9wsX6_readTableGoal_7 : ∀ w ∈ ((vx_atS RX6 135 "java/lang/UnsupportedOperationException" ["java/lang/RuntimeException", "java/lang/Exception"]).filter goodWord), w ∈ wsX6_readTableGoal := fun _ h => (List.mem_cons_of_mem _ (List.mem_append_right _ h))
set_option maxRecDepth 20000 in
theorem ggX6_readTableGoal_X6_readTable : GoodIn wsX6_readTableGoal wsX6_readTable := (gin_c (mem_at i9wsX6_readTableGoal_0 20 rfl) rfl (goodIn_app (goodIn_app (goodIn_app (goodIn_app (gin_c (mem_at i9wsX6_readTableGoal_0 1 rfl) rfl (gin_c (mem_at i9wsX6_readTableGoal_0 21 rfl) rfl (gin_c (mem_at i9wsX6_readTableGoal_0 22 rfl) rfl (gin_c (mem_at i9wsX6_readTableGoal_0 23 rfl) rfl (gin_c (mem_at i9wsX6_readTableGoal_1 0 rfl) rfl (gin_c (mem_at i9wsX6_readTableGoal_0 9 rfl) rfl (gin_c (mem_at i9wsX6_readTableGoal_1 1 rfl) rfl (gin_c (mem_at i9wsX6_readTableGoal_0 6 rfl) rfl (gin_c (mem_at i9wsX6_readTableGoal_0 7 rfl) rfl (gin_c (mem_at i9wsX6_readTableGoal_0 8 rfl) rfl (gin_c (mem_at i9wsX6_readTableGoal_0 10 rfl) rfl (gin_c (mem_at i9wsX6_readTableGoal_0 11 rfl) rfl (gin_c (mem_at i9wsX6_readTableGoal_0 12 rfl) rfl (gin_c (mem_at i9wsX6_readTableGoal_1 2 rfl) rfl (gin_c (mem_at i9wsX6_readTableGoal_1 3 rfl) rfl (gin_c (mem_at i9wsX6_readTableGoal_1 4 rfl) rfl (gin_c (mem_at i9wsX6_readTableGoal_1 5 rfl) rfl (gin_c (mem_at i9wsX6_readTableGoal_1 6 rfl) rfl (gin_c (mem_at i9wsX6_readTableGoal_1 7 rfl) rfl (gin_c (mem_at i9wsX6_readTableGoal_1 8 rfl) rfl (gin_c (mem_at i9wsX6_readTableGoal_1 9 rfl) rfl (gin_c (mem_at i9wsX6_readTableGoal_1 10 rfl) rfl (gin_c (mem_at i9wsX6_readTableGoal_1 11 rfl) rfl (gin_c (mem_at i9wsX6_readTableGoal_1 12 rfl) rfl gin_n)))))))))))))))))))))))) (gin_c (mem_at i9wsX6_readTableGoal_1 13 rfl) rfl (gin_c (mem_at i9wsX6_readTableGoal_1 14 rfl) rfl (gin_c (mem_at i9wsX6_readTableGoal_1 15 rfl) rfl (gin_c (mem_at i9wsX6_readTableGoal_1 16 rfl) rfl (gin_c (mem_at i9wsX6_readTableGoal_1 17 rfl) rfl (gin_c (mem_at i9wsX6_readTableGoal_1 18 rfl) rfl (gin_c (mem_at i9wsX6_readTableGoal_1 19 rfl) rfl gin_n)))))))) (goodIn_sub i9wsX6_readTableGoal_4 g9_7)) (goodIn_sub i9wsX6_readTableGoal_6 g9_5)) (goodIn_sub i9wsX6_readTableGoal_7 g9_8)))
set_option maxRecDepth 20000 in
theorem gX6_readTableGoal_X6_readTable : GoodIn wsX6_readTableGoal (wsV RX6 66 RX6 yX6_readTable wsX6_readTable) := goodIn_app (gin_c (mem_at i9wsX6_readTableGoal_0 17 rfl) rfl (gin_c (mem_at i9wsX6_readTableGoal_0 18 rfl) rfl (gin_c (mem_at i9wsX6_readTableGoal_0 19 rfl) rfl (gin_c (mem_at i9wsX6_readTableGoal_0 9 rfl) rfl gin_n)))) ggX6_readTableGoal_X6_readTable
set_option maxRecDepth 20000 in
theorem ggX6_readTableGoal_X6_take : GoodIn wsX6_readTableGoal wsX6_take := (gin_c (mem_at i9wsX6_readTableGoal_1 1 rfl) rfl (goodIn_app (goodIn_app (gin_c (mem_at i9wsX6_readTableGoal_0 1 rfl) rfl (gin_c (mem_at i9wsX6_readTableGoal_0 6 rfl) rfl (gin_c (mem_at i9wsX6_readTableGoal_0 7 rfl) rfl (gin_c (mem_at i9wsX6_readTableGoal_0 8 rfl) rfl (gin_c (mem_at i9wsX6_readTableGoal_0 9 rfl) rfl (gin_c (mem_at i9wsX6_readTableGoal_0 10 rfl) rfl (gin_c (mem_at i9wsX6_readTableGoal_0 11 rfl) rfl (gin_c (mem_at i9wsX6_readTableGoal_0 12 rfl) rfl (gin_c (mem_at i9wsX6_readTableGoal_1 2 rfl) rfl (gin_c (mem_at i9wsX6_readTableGoal_1 3 rfl) rfl (gin_c (mem_at i9wsX6_readTableGoal_1 4 rfl) rfl (gin_c (mem_at i9wsX6_readTableGoal_1 5 rfl) rfl (gin_c (mem_at i9wsX6_readTableGoal_1 6 rfl) rfl (gin_c (mem_at i9wsX6_readTableGoal_1 7 rfl) rfl (gin_c (mem_at i9wsX6_readTableGoal_1 8 rfl) rfl gin_n))))))))))))))) (goodIn_sub i9wsX6_readTableGoal_4 g9_7)) (goodIn_sub i9wsX6_readTableGoal_7 g9_8)))
set_option maxRecDepth 20000 in
theorem gX6_readTableGoal_X6_take : GoodIn wsX6_readTableGoal (wsV RX6 56 RX6 yX6_take wsX6_take) := goodIn_app (gin_c (mem_at i9wsX6_readTableGoal_0 22 rfl) rfl (gin_c (mem_at i9wsX6_readTableGoal_0 23 rfl) rfl (gin_c (mem_at i9wsX6_readTableGoal_1 0 rfl) rfl (gin_c (mem_at i9wsX6_readTableGoal_0 9 rfl) rfl gin_n)))) ggX6_readTableGoal_X6_take
theorem i9wsX6_readTableGoal_2 : ∀ w ∈ wsX6_readTableGoal_r3, w ∈ wsX6_readTableGoal := fun _ h => (List.mem_cons_of_mem _ (List.mem_append_left _ (List.mem_append_left _ (List.mem_append_left _ (List.mem_append_left _ (List.mem_append_left _ (List.mem_append_right _ (List.mem_append_right _ h))))))))
theorem i9wsX6_readTableGoal_3 : ∀ w ∈ wsX20, w ∈ wsX6_readTableGoal := fun _ h => (List.mem_cons_of_mem _ (List.mem_append_left _ (List.mem_append_left _ (List.mem_append_left _ (List.mem_append_left _ (List.mem_append_right _ h))))))
set_option maxRecDepth 20000 in
theorem ggX6_readTableGoal_X6_readArg : GoodIn wsX6_readTableGoal wsX6_readArg := (gin_c (mem_at i9wsX6_readTableGoal_1 23 rfl) rfl (goodIn_app (goodIn_app (goodIn_app (goodIn_app (gin_c (mem_at i9wsX6_readTableGoal_2 0 rfl) rfl (gin_c (mem_at i9wsX6_readTableGoal_2 1 rfl) rfl (gin_c (mem_at i9wsX6_readTableGoal_0 1 rfl) rfl (gin_c (mem_at i9wsX6_readTableGoal_0 6 rfl) rfl (gin_c (mem_at i9wsX6_readTableGoal_0 7 rfl) rfl (gin_c (mem_at i9wsX6_readTableGoal_0 8 rfl) rfl (gin_c (mem_at i9wsX6_readTableGoal_0 9 rfl) rfl (gin_c (mem_at i9wsX6_readTableGoal_0 10 rfl) rfl (gin_c (mem_at i9wsX6_readTableGoal_0 11 rfl) rfl (gin_c (mem_at i9wsX6_readTableGoal_0 12 rfl) rfl (gin_c (mem_at i9wsX6_readTableGoal_2 2 rfl) rfl (gin_c (mem_at i9wsX6_readTableGoal_2 3 rfl) rfl (gin_c (mem_at i9wsX6_readTableGoal_2 4 rfl) rfl (gin_c (mem_at i9wsX6_readTableGoal_2 5 rfl) rfl (gin_c (mem_at i9wsX6_readTableGoal_1 9 rfl) rfl (gin_c (mem_at i9wsX6_readTableGoal_1 10 rfl) rfl (gin_c (mem_at i9wsX6_readTableGoal_1 11 rfl) rfl (gin_c (mem_at i9wsX6_readTableGoal_1 12 rfl) rfl (gin_c (mem_at i9wsX6_readTableGoal_1 2 rfl) rfl (gin_c (mem_at i9wsX6_readTableGoal_1 3 rfl) rfl (gin_c (mem_at i9wsX6_readTableGoal_1 4 rfl) rfl (gin_c (mem_at i9wsX6_readTableGoal_1 5 rfl) rfl (gin_c (mem_at i9wsX6_readTableGoal_1 6 rfl) rfl (gin_c (mem_at i9wsX6_readTableGoal_1 7 rfl) rfl gin_n)))))))))))))))))))))))) (gin_c (mem_at i9wsX6_readTableGoal_1 8 rfl) rfl gin_n)) (goodIn_sub i9wsX6_readTableGoal_3 g9_6)) (goodIn_sub i9wsX6_readTableGoal_4 g9_7)) (goodIn_sub i9wsX6_readTableGoal_7 g9_8)))
set_option maxRecDepth 20000 in
theorem gX6_readTableGoal_X6_readArg : GoodIn wsX6_readTableGoal (wsV RX6 82 RX6 yX6_readArg wsX6_readArg) := goodIn_app (gin_c (mem_at i9wsX6_readTableGoal_1 20 rfl) rfl (gin_c (mem_at i9wsX6_readTableGoal_1 21 rfl) rfl (gin_c (mem_at i9wsX6_readTableGoal_1 22 rfl) rfl (gin_c (mem_at i9wsX6_readTableGoal_0 9 rfl) rfl gin_n)))) ggX6_readTableGoal_X6_readArg
set_option maxRecDepth 20000 in
theorem ggX6_readTableGoal_X6_sortTableArg : GoodIn wsX6_readTableGoal wsX6_sortTableArg := (gin_c (mem_at i9wsX6_readTableGoal_2 9 rfl) rfl (goodIn_app (goodIn_app (gin_c (mem_at i9wsX6_readTableGoal_2 0 rfl) rfl (gin_c (mem_at i9wsX6_readTableGoal_0 5 rfl) rfl (gin_c (mem_at i9wsX6_readTableGoal_2 1 rfl) rfl (gin_c (mem_at i9wsX6_readTableGoal_0 3 rfl) rfl (gin_c (mem_at i9wsX6_readTableGoal_2 10 rfl) rfl (gin_c (mem_at i9wsX6_readTableGoal_2 11 rfl) rfl (gin_c (mem_at i9wsX6_readTableGoal_2 12 rfl) rfl gin_n))))))) (goodIn_sub i9wsX6_readTableGoal_3 g9_6)) (goodIn_sub i9wsX6_readTableGoal_4 g9_7)))
set_option maxRecDepth 20000 in
theorem gX6_readTableGoal_X6_sortTableArg : GoodIn wsX6_readTableGoal (wsV RX6 86 RX6 yX6_sortTableArg wsX6_sortTableArg) := goodIn_app (gin_c (mem_at i9wsX6_readTableGoal_2 6 rfl) rfl (gin_c (mem_at i9wsX6_readTableGoal_2 7 rfl) rfl (gin_c (mem_at i9wsX6_readTableGoal_2 8 rfl) rfl (gin_c (mem_at i9wsX6_readTableGoal_0 9 rfl) rfl gin_n)))) ggX6_readTableGoal_X6_sortTableArg
set_option maxRecDepth 20000 in
theorem ggX6_readTableGoal_X6_refuseArgTooMuch : GoodIn wsX6_readTableGoal wsX6_refuseArgTooMuch := (gin_c (mem_at i9wsX6_readTableGoal_2 16 rfl) rfl (goodIn_app (goodIn_app (gin_c (mem_at i9wsX6_readTableGoal_0 1 rfl) rfl (gin_c (mem_at i9wsX6_readTableGoal_0 6 rfl) rfl (gin_c (mem_at i9wsX6_readTableGoal_0 7 rfl) rfl (gin_c (mem_at i9wsX6_readTableGoal_0 8 rfl) rfl (gin_c (mem_at i9wsX6_readTableGoal_0 9 rfl) rfl (gin_c (mem_at i9wsX6_readTableGoal_0 10 rfl) rfl (gin_c (mem_at i9wsX6_readTableGoal_0 11 rfl) rfl (gin_c (mem_at i9wsX6_readTableGoal_0 12 rfl) rfl (gin_c (mem_at i9wsX6_readTableGoal_0 13 rfl) rfl (gin_c (mem_at i9wsX6_readTableGoal_0 14 rfl) rfl (gin_c (mem_at i9wsX6_readTableGoal_0 15 rfl) rfl (gin_c (mem_at i9wsX6_readTableGoal_0 16 rfl) rfl (gin_c (mem_at i9wsX6_readTableGoal_1 2 rfl) rfl (gin_c (mem_at i9wsX6_readTableGoal_1 3 rfl) rfl (gin_c (mem_at i9wsX6_readTableGoal_1 4 rfl) rfl (gin_c (mem_at i9wsX6_readTableGoal_1 5 rfl) rfl (gin_c (mem_at i9wsX6_readTableGoal_1 6 rfl) rfl (gin_c (mem_at i9wsX6_readTableGoal_1 7 rfl) rfl (gin_c (mem_at i9wsX6_readTableGoal_1 8 rfl) rfl gin_n))))))))))))))))))) (goodIn_sub i9wsX6_readTableGoal_4 g9_7)) (goodIn_sub i9wsX6_readTableGoal_7 g9_8)))
set_option maxRecDepth 20000 in
theorem gX6_readTableGoal_X6_refuseArgTooMuch : GoodIn wsX6_readTableGoal (wsV RX6 90 RX6 yX6_refuseArgTooMuch wsX6_refuseArgTooMuch) := goodIn_app (gin_c (mem_at i9wsX6_readTableGoal_2 13 rfl) rfl (gin_c (mem_at i9wsX6_readTableGoal_2 14 rfl) rfl (gin_c (mem_at i9wsX6_readTableGoal_2 15 rfl) rfl (gin_c (mem_at i9wsX6_readTableGoal_0 9 rfl) rfl gin_n)))) ggX6_readTableGoal_X6_refuseArgTooMuch
set_option maxHeartbeats 4000000 in
set_option maxRecDepth 100000 in
theorem T_X6_readTableGoal (l : Launch) (hl : l.stackTraces = false) (D : va_G) (cA : Nat → ClassId) {l0 : Option Nat} {l1 : Option Nat} {x : HS} {Q : HS → Prop} {X : String → HS → Prop} (h : w_X6_readTableGoal l0 l1 x Q X) : YV l yX6_readTableGoal wsX6_readTableGoal 9 159 D cA [.q l0, .q l1] x Q X := by
  refine YV.of (cc := cX6_readTableGoal) (maxL := 4) (ret := none) hl (by decide) rfl rfl (fun g B fr => ?_)
  have o := B.o
  have hb := B.hb
  have hts := B.hts
  have hown : g.s.vm.findClass RX6 = some g.m.cls := B.hown
  have in2 : ∀ w ∈ u_ws RX2 TX2 6, w ∈ wsX6_readTableGoal := fun w h => (List.mem_cons_of_mem _ (List.mem_append_left _ (List.mem_append_left _ (List.mem_append_left _ (List.mem_append_left _ (List.mem_append_right _ h))))))
  have in6 : ∀ w ∈ u_ws RX6 TX6 8, w ∈ wsX6_readTableGoal := fun w h => (List.mem_cons_of_mem _ (List.mem_append_left _ (List.mem_append_left _ (List.mem_append_left _ (List.mem_append_right _ h)))))
  have in10 : ∀ w ∈ u_ws RX10 TX10 6, w ∈ wsX6_readTableGoal := fun w h => (List.mem_cons_of_mem _ (List.mem_append_left _ (List.mem_append_left _ (List.mem_append_right _ h))))
  unfold w_X6_readTableGoal at h
  show KW g 4 0 [(0, .q l0), (1, .q l1)] [] x
  refine k_aload_n o hb dX6_readTableGoal_0 rfl 1 rfl ?_
  refine k_aload_n o hb dX6_readTableGoal_1 rfl 0 rfl ?_
  refine k_run_i o (fun _ _ q => q) (k_runV (ci := 6) (rc := (RX6, TX6, 8)) o hb B.hml hown hts rfl (by decide) (T_X6_here g.l o.hl g.D g.cA h.2) (cwV 0 hts gX6_readTableGoal_X6_here rfl rfl rfl (by decide +kernel) ⟨yle B.hR1 rfl, yle B.hR2 rfl⟩) h.1 rfl rfl (Nat.le_of_ble_eq_true rfl) dX6_readTableGoal_2) (fun v2 x1 h => ?_)
  refine k_putI (C := RX2) (T := TX2) (N := 6) (ty := .int) o hb hts in2 tyX2 tyX2_ok nmX2 hown rfl (by decide) 2 (by decide) rfl (hts (.fieldLink RX6 63 "FactKeeper$Goal" "sign" "I") (by decide +kernel)) (fun _ h9 => h9) rfl (by decide +kernel) (fun _ => rfl) (fun _ => rfl) dX6_readTableGoal_5 h (fun x3 h => ?_)
  refine k_aload_n o hb dX6_readTableGoal_8 rfl 1 rfl ?_
  refine k_getI (C := RX2) (T := TX2) (N := 6) o hb hts in2 hown rfl (by decide) 2 (by decide) rfl (hts (.fieldLink RX6 63 "FactKeeper$Goal" "sign" "I") (by decide +kernel)) (fun _ h9 => h9) dX6_readTableGoal_9 h (fun v4 h => ?_)
  refine k_bipush (v := 33) o hb dX6_readTableGoal_12 (by decide) ?_
  refine wJoin_elim (M := fun K => ∀  (x6 : HS), K  x6 → KW g 4 31 [(0, .q l0), (1, .q l1)] [] x6) h ?_ (fun j5 hj5 h => ?_)
  · skip
    intro  x6 h
    refine k_aload_n o hb dX6_readTableGoal_31 rfl 1 rfl ?_
    refine k_aload_n o hb dX6_readTableGoal_32 rfl 0 rfl ?_
    refine k_run_q o (fun _ _ q => q) (k_runV (ci := 6) (rc := (RX6, TX6, 8)) o hb B.hml hown hts rfl (by decide) (T_X6_readTable g.l o.hl g.D g.cA h.2) (cwV 0 hts gX6_readTableGoal_X6_readTable rfl rfl rfl (by decide +kernel) ⟨yle B.hR1 rfl, yle B.hR2 rfl⟩) h.1 rfl rfl (Nat.le_of_ble_eq_true rfl) dX6_readTableGoal_33) (fun v8 x7 h => ?_)
    refine k_putF (C := RX2) (T := TX2) (N := 6) (ty := (tyX2 3)) o hb hts in2 tyX2 tyX2_ok nmX2 hown rfl (by decide) 3 (by decide) rfl (hts (.fieldLink RX6 70 "FactKeeper$Goal" "table" "LFactKeeper$Table;") (by decide +kernel)) (fun _ h9 => h9) rfl (by decide +kernel) (fun r => by cases r <;> rfl) (fun r => by cases r <;> rfl) dX6_readTableGoal_36 h (fun x9 h => ?_)
    refine k_aload_n o hb dX6_readTableGoal_39 rfl 1 rfl ?_
    refine k_iconst (v := 0) o hb dX6_readTableGoal_40 (by decide) ?_
    refine k_putI (C := RX2) (T := TX2) (N := 6) (ty := .int) o hb hts in2 tyX2 tyX2_ok nmX2 hown rfl (by decide) 4 (by decide) rfl (hts (.fieldLink RX6 74 "FactKeeper$Goal" "mask" "I") (by decide +kernel)) (fun _ h9 => h9) rfl (by decide +kernel) (fun _ => rfl) (fun _ => rfl) dX6_readTableGoal_41 h (fun x10 h => ?_)
    refine k_aload_n o hb dX6_readTableGoal_44 rfl 0 rfl ?_
    refine k_run_v o (fun _ _ q => q) (k_runV (ci := 6) (rc := (RX6, TX6, 8)) o hb B.hml hown hts rfl (by decide) (T_X6_skipBlanks g.l o.hl g.D g.cA h.2) (cwV 0 hts gX6_readTableGoal_X6_skipBlanks rfl rfl rfl (by decide +kernel) ⟨yle B.hR1 rfl, yle B.hR2 rfl⟩) h.1 rfl rfl (Nat.le_of_ble_eq_true rfl) dX6_readTableGoal_45) (fun x11 h => ?_)
    refine k_aload_n o hb dX6_readTableGoal_48 rfl 0 rfl ?_
    refine k_bipush (v := 40) o hb dX6_readTableGoal_49 (by decide) ?_
    refine k_run_v o (fun _ _ q => q) (k_runV (ci := 6) (rc := (RX6, TX6, 8)) o hb B.hml hown hts rfl (by decide) (T_X6_take g.l o.hl g.D g.cA h.2) (cwV 1 hts gX6_readTableGoal_X6_take rfl rfl rfl (by decide +kernel) ⟨yle B.hR1 rfl, yle B.hR2 rfl⟩) h.1 rfl rfl (Nat.le_of_ble_eq_true rfl) dX6_readTableGoal_51) (fun x13 h => ?_)
    refine k_iconst (v := 0) o hb dX6_readTableGoal_54 (by decide) ?_
    refine k_istore_n o hb dX6_readTableGoal_55 rfl rfl ?_
    refine k_iconst (v := 0) o hb dX6_readTableGoal_56 (by decide) ?_
    refine k_istore_n o hb dX6_readTableGoal_57 rfl rfl ?_
    refine KW.sub [2, 3, 1, 0] rfl ?_
    refine wLoop_elim (M := fun (v18 : Int32 × Int32) (x17 : HS) => KW g 4 58 [(0, .q l0), (1, .q l1), (2, .i v18.1), (3, .i v18.2)] [] x17) h ?_
    intro v18 x17 again15 ih16 h
    refine k_iload_n o hb dX6_readTableGoal_58 rfl 3 rfl ?_
    refine k_aload_n o hb dX6_readTableGoal_59 rfl 1 rfl ?_
    refine k_getF (C := RX2) (T := TX2) (N := 6) o hb hts in2 hown rfl (by decide) 3 (by decide) rfl (hts (.fieldLink RX6 70 "FactKeeper$Goal" "table" "LFactKeeper$Table;") (by decide +kernel)) (fun _ h9 => h9) dX6_readTableGoal_60 h (fun v19 h => ?_)
    refine k_getI (C := RX10) (T := TX10) (N := 6) o hb hts in10 hown rfl (by decide) 1 (by decide) rfl (hts (.fieldLink RX6 77 "FactKeeper$Table" "columns" "I") (by decide +kernel)) (fun _ h9 => h9) dX6_readTableGoal_63 h (fun v20 h => ?_)
    refine k_icmp_ge (tgt := 110) o hb dX6_readTableGoal_66 (by decide) h (fun h => ?_) (fun h => ?_)
    · skip
      refine k_aload_n o hb dX6_readTableGoal_110 rfl 0 rfl ?_
      refine k_run_v o (fun _ _ q => q) (k_runV (ci := 6) (rc := (RX6, TX6, 8)) o hb B.hml hown hts rfl (by decide) (T_X6_refuseArgTooMuch g.l o.hl g.D g.cA h.2) (cwV 0 hts gX6_readTableGoal_X6_refuseArgTooMuch rfl rfl rfl (by decide +kernel) ⟨yle B.hR1 rfl, yle B.hR2 rfl⟩) h.1 rfl rfl (Nat.le_of_ble_eq_true rfl) dX6_readTableGoal_111) (fun x21 h => ?_)
      refine k_aload_n o hb dX6_readTableGoal_114 rfl 0 rfl ?_
      refine k_bipush (v := 41) o hb dX6_readTableGoal_115 (by decide) ?_
      refine k_run_v o (fun _ _ q => q) (k_runV (ci := 6) (rc := (RX6, TX6, 8)) o hb B.hml hown hts rfl (by decide) (T_X6_take g.l o.hl g.D g.cA h.2) (cwV 1 hts gX6_readTableGoal_X6_take rfl rfl rfl (by decide +kernel) ⟨yle B.hR1 rfl, yle B.hR2 rfl⟩) h.1 rfl rfl (Nat.le_of_ble_eq_true rfl) dX6_readTableGoal_117) (fun x23 h => ?_)
      refine k_aload_n o hb dX6_readTableGoal_120 rfl 1 rfl ?_
      refine k_getI (C := RX2) (T := TX2) (N := 6) o hb hts in2 hown rfl (by decide) 2 (by decide) rfl (hts (.fieldLink RX6 63 "FactKeeper$Goal" "sign" "I") (by decide +kernel)) (fun _ h9 => h9) dX6_readTableGoal_121 h (fun v25 h => ?_)
      refine k_bipush (v := 116) o hb dX6_readTableGoal_124 (by decide) ?_
      refine wJoin_elim (M := fun K => ∀  (x27 : HS), K  x27 → KW g 4 139 [] [] x27) h ?_ (fun j26 hj26 h => ?_)
      · skip
        intro  x27 h
        exact k_vret o hb B.hr fr dX6_readTableGoal_139 h
      · skip
        refine k_icmp_ne (tgt := 139) o hb dX6_readTableGoal_126 (by decide) h (fun h => ?_) (fun h => ?_)
        · skip
          refine k_aload_n o hb dX6_readTableGoal_129 rfl 0 rfl ?_
          refine k_dup o hb dX6_readTableGoal_130 ?_
          refine k_getI (C := RX6) (T := TX6) (N := 8) o hb hts in6 hown rfl (by decide) 2 (by decide) rfl (hts (.fieldLink RX6 36 "FactKeeper$Reader" "known" "I") (by decide +kernel)) (fun _ h9 => h9) dX6_readTableGoal_131 h (fun v28 h => ?_)
          refine k_iload_n o hb dX6_readTableGoal_134 rfl 2 rfl ?_
          refine k_ior o hb dX6_readTableGoal_135 ?_
          refine k_putI (C := RX6) (T := TX6) (N := 8) (ty := .int) o hb hts in6 tyX6 tyX6_ok nmX6 hown rfl (by decide) 2 (by decide) rfl (hts (.fieldLink RX6 36 "FactKeeper$Reader" "known" "I") (by decide +kernel)) (fun _ h9 => h9) rfl (by decide +kernel) (fun _ => rfl) (fun _ => rfl) dX6_readTableGoal_136 h (fun x29 h => ?_)
          exact KW.sub [] rfl (hj26 x29 h)
        · skip
          exact KW.sub [] rfl (hj26 x23 h)
    · skip
      refine k_iload_n o hb dX6_readTableGoal_69 rfl 3 rfl ?_
      refine wJoin_elim (M := fun K => ∀  (x31 : HS), K  x31 → KW g 4 79 [(0, .q l0), (1, .q l1), (2, .i v18.1), (3, .i v18.2)] [] x31) h ?_ (fun j30 hj30 h => ?_)
      · skip
        intro  x31 h
        refine k_aload_n o hb dX6_readTableGoal_79 rfl 0 rfl ?_
        refine k_run_v o (fun _ _ q => q) (k_runV (ci := 6) (rc := (RX6, TX6, 8)) o hb B.hml hown hts rfl (by decide) (T_X6_skipBlanks g.l o.hl g.D g.cA h.2) (cwV 0 hts gX6_readTableGoal_X6_skipBlanks rfl rfl rfl (by decide +kernel) ⟨yle B.hR1 rfl, yle B.hR2 rfl⟩) h.1 rfl rfl (Nat.le_of_ble_eq_true rfl) dX6_readTableGoal_80) (fun x32 h => ?_)
        refine k_aload_n o hb dX6_readTableGoal_83 rfl 0 rfl ?_
        refine k_aload_n o hb dX6_readTableGoal_84 rfl 1 rfl ?_
        refine k_iload_n o hb dX6_readTableGoal_85 rfl 3 rfl ?_
        refine k_iconst (v := 1) o hb dX6_readTableGoal_86 (by decide) ?_
        refine k_run_v o (fun _ _ q => q) (k_runV (ci := 6) (rc := (RX6, TX6, 8)) o hb B.hml hown hts rfl (by decide) (T_X6_readArg g.l o.hl g.D g.cA h.2) (cwV 3 hts gX6_readTableGoal_X6_readArg rfl rfl rfl (by decide +kernel) ⟨yle B.hR1 rfl, yle B.hR2 rfl⟩) h.1 rfl rfl (Nat.le_of_ble_eq_true rfl) dX6_readTableGoal_87) (fun x34 h => ?_)
        refine k_iload_n o hb dX6_readTableGoal_90 rfl 2 rfl ?_
        refine k_aload_n o hb dX6_readTableGoal_91 rfl 0 rfl ?_
        refine k_aload_n o hb dX6_readTableGoal_92 rfl 1 rfl ?_
        refine k_iload_n o hb dX6_readTableGoal_93 rfl 3 rfl ?_
        refine k_iload_n o hb dX6_readTableGoal_94 rfl 2 rfl ?_
        refine k_run_i o (fun _ _ q => q) (k_runV (ci := 6) (rc := (RX6, TX6, 8)) o hb B.hml hown hts rfl (by decide) (T_X6_sortTableArg g.l o.hl g.D g.cA h.2) (cwV 3 hts gX6_readTableGoal_X6_sortTableArg rfl rfl rfl (by decide +kernel) ⟨yle B.hR1 rfl, yle B.hR2 rfl⟩) h.1 rfl rfl (Nat.le_of_ble_eq_true rfl) dX6_readTableGoal_95) (fun v37 x36 h => ?_)
        refine k_ior o hb dX6_readTableGoal_98 ?_
        refine k_istore_n o hb dX6_readTableGoal_99 rfl rfl ?_
        refine k_aload_n o hb dX6_readTableGoal_100 rfl 1 rfl ?_
        refine k_run_v o (fun _ _ q => q) (k_runV (ci := 6) (rc := (RX6, TX6, 8)) o hb B.hml hown hts rfl (by decide) (T_X6_skipBlanks g.l o.hl g.D g.cA h.2) (cwV 0 hts gX6_readTableGoal_X6_skipBlanks rfl rfl rfl (by decide +kernel) ⟨yle B.hR1 rfl, yle B.hR2 rfl⟩) h.1 rfl rfl (Nat.le_of_ble_eq_true rfl) dX6_readTableGoal_101) (fun x38 h => ?_)
        refine k_iinc (w := 1) o hb dX6_readTableGoal_104 3 rfl (by decide) rfl ?_
        refine k_goto (tgt := 58) o hb dX6_readTableGoal_107 (by decide) ?_
        exact KW.sub [2, 3, 1, 0] rfl (ih16 ((v18.1 ||| v37), (v18.2 + 1)) x38 h)
      · skip
        refine k_if_le (tgt := 79) o hb dX6_readTableGoal_70 (by decide) h (fun h => ?_) (fun h => ?_)
        · skip
          exact KW.sub [0, 1, 2, 3] rfl (hj30 x17 h)
        · skip
          refine k_aload_n o hb dX6_readTableGoal_73 rfl 0 rfl ?_
          refine k_bipush (v := 44) o hb dX6_readTableGoal_74 (by decide) ?_
          refine k_run_v o (fun _ _ q => q) (k_runV (ci := 6) (rc := (RX6, TX6, 8)) o hb B.hml hown hts rfl (by decide) (T_X6_take g.l o.hl g.D g.cA h.2) (cwV 1 hts gX6_readTableGoal_X6_take rfl rfl rfl (by decide +kernel) ⟨yle B.hR1 rfl, yle B.hR2 rfl⟩) h.1 rfl rfl (Nat.le_of_ble_eq_true rfl) dX6_readTableGoal_76) (fun x40 h => ?_)
          exact KW.sub [0, 1, 2, 3] rfl (hj30 x40 h)
  · skip
    refine k_icmp_ne (tgt := 31) o hb dX6_readTableGoal_14 (by decide) h (fun h => ?_) (fun h => ?_)
    · skip
      refine k_aload_n o hb dX6_readTableGoal_17 rfl 0 rfl ?_
      refine k_dup o hb dX6_readTableGoal_18 ?_
      refine k_getI (C := RX6) (T := TX6) (N := 8) o hb hts in6 hown rfl (by decide) 6 (by decide) rfl (hts (.fieldLink RX6 33 "FactKeeper$Reader" "at" "I") (by decide +kernel)) (fun _ h9 => h9) dX6_readTableGoal_19 h (fun v42 h => ?_)
      refine k_iconst (v := 1) o hb dX6_readTableGoal_22 (by decide) ?_
      refine k_iadd o hb dX6_readTableGoal_23 ?_
      refine k_putI (C := RX6) (T := TX6) (N := 8) (ty := .int) o hb hts in6 tyX6 tyX6_ok nmX6 hown rfl (by decide) 6 (by decide) rfl (hts (.fieldLink RX6 33 "FactKeeper$Reader" "at" "I") (by decide +kernel)) (fun _ h9 => h9) rfl (by decide +kernel) (fun _ => rfl) (fun _ => rfl) dX6_readTableGoal_24 h (fun x43 h => ?_)
      refine k_aload_n o hb dX6_readTableGoal_27 rfl 0 rfl ?_
      refine k_run_v o (fun _ _ q => q) (k_runV (ci := 6) (rc := (RX6, TX6, 8)) o hb B.hml hown hts rfl (by decide) (T_X6_skipBlanks g.l o.hl g.D g.cA h.2) (cwV 0 hts gX6_readTableGoal_X6_skipBlanks rfl rfl rfl (by decide +kernel) ⟨yle B.hR1 rfl, yle B.hR2 rfl⟩) h.1 rfl rfl (Nat.le_of_ble_eq_true rfl) dX6_readTableGoal_28) (fun x44 h => ?_)
      exact KW.sub [0, 1] rfl (hj5 x44 h)
    · skip
      exact KW.sub [0, 1] rfl (hj5 x3 h)
theorem dX6_requireKnown_0 : decode cX6_requireKnown 0 = .ok (.aload_n 1, 1) := by decide +kernel
theorem dX6_requireKnown_1 : decode cX6_requireKnown 1 = .ok (.getfield 102, 3) := by decide +kernel
theorem dX6_requireKnown_4 : decode cX6_requireKnown 4 = .ok (.iload_n 2, 1) := by decide +kernel
theorem dX6_requireKnown_5 : decode cX6_requireKnown 5 = .ok (.iaload, 1) := by decide +kernel
theorem dX6_requireKnown_6 : decode cX6_requireKnown 6 = .ok (.iconst 2, 1) := by decide +kernel
theorem dX6_requireKnown_7 : decode cX6_requireKnown 7 = .ok (.if_icmp .ne 31, 3) := by decide +kernel
theorem dX6_requireKnown_10 : decode cX6_requireKnown 10 = .ok (.aload_n 0, 1) := by decide +kernel
theorem dX6_requireKnown_11 : decode cX6_requireKnown 11 = .ok (.getfield 36, 3) := by decide +kernel
theorem dX6_requireKnown_14 : decode cX6_requireKnown 14 = .ok (.aload_n 1, 1) := by decide +kernel
theorem dX6_requireKnown_15 : decode cX6_requireKnown 15 = .ok (.getfield 106, 3) := by decide +kernel
theorem dX6_requireKnown_18 : decode cX6_requireKnown 18 = .ok (.iload_n 2, 1) := by decide +kernel
theorem dX6_requireKnown_19 : decode cX6_requireKnown 19 = .ok (.iaload, 1) := by decide +kernel
theorem dX6_requireKnown_20 : decode cX6_requireKnown 20 = .ok (.invokestatic 109, 3) := by decide +kernel
theorem dX6_requireKnown_23 : decode cX6_requireKnown 23 = .ok (.ifCond .ne 8, 3) := by decide +kernel
theorem dX6_requireKnown_26 : decode cX6_requireKnown 26 = .ok (.aload_n 0, 1) := by decide +kernel
theorem dX6_requireKnown_27 : decode cX6_requireKnown 27 = .ok (.iload_n 3, 1) := by decide +kernel
theorem dX6_requireKnown_28 : decode cX6_requireKnown 28 = .ok (.invokevirtual 60, 3) := by decide +kernel
theorem dX6_requireKnown_31 : decode cX6_requireKnown 31 = .ok (.aload_n 1, 1) := by decide +kernel
theorem dX6_requireKnown_32 : decode cX6_requireKnown 32 = .ok (.getfield 102, 3) := by decide +kernel
theorem dX6_requireKnown_35 : decode cX6_requireKnown 35 = .ok (.iload_n 2, 1) := by decide +kernel
theorem dX6_requireKnown_36 : decode cX6_requireKnown 36 = .ok (.iconst 1, 1) := by decide +kernel
theorem dX6_requireKnown_37 : decode cX6_requireKnown 37 = .ok (.iastore, 1) := by decide +kernel
theorem dX6_requireKnown_38 : decode cX6_requireKnown 38 = .ok (.return_, 1) := by decide +kernel
theorem i9wsX6_requireKnown_0 : ∀ w ∈ ([.fieldLink RX6 102 "FactKeeper$Goal" "kinds" "[I", .fieldLink RX6 36 "FactKeeper$Reader" "known" "I", .fieldLink RX6 106 "FactKeeper$Goal" "args" "[I", .static yX11_isIn, .initialized RX11, .code yX11_isIn cX11_isIn 2 (some .boolean), .methodLink RX6 60 yX6_refuse, .instanceMethod yX6_refuse, .selects RX6 yX6_refuse yX6_refuse, .initialized RX6, .code yX6_refuse cX6_refuse 2 none, .classLink RX6 131 "java/lang/UnsupportedOperationException", .initialized "java/lang/UnsupportedOperationException", .fieldLink RX6 17 "FactKeeper$Reader" "place" "I"] : List Cond), w ∈ wsX6_requireKnown := fun _ h => (List.mem_cons_of_mem _ (List.mem_append_left _ (List.mem_append_left _ (List.mem_append_left _ h))))
set_option maxRecDepth 20000 in
theorem ggX6_requireKnown_X11_isIn : GoodIn wsX6_requireKnown wsX11_isIn := (gin_c (mem_at i9wsX6_requireKnown_0 5 rfl) rfl gin_n)
set_option maxRecDepth 20000 in
theorem gX6_requireKnown_X11_isIn_n109 : GoodIn wsX6_requireKnown (wsX11_isIn) := ggX6_requireKnown_X11_isIn
theorem i9wsX6_requireKnown_2 : ∀ w ∈ wsX60, w ∈ wsX6_requireKnown := fun _ h => (List.mem_cons_of_mem _ (List.mem_append_left _ (List.mem_append_right _ h)))
theorem i9wsX6_requireKnown_3 : ∀ w ∈ ((vx_atS RX6 135 "java/lang/UnsupportedOperationException" ["java/lang/RuntimeException", "java/lang/Exception"]).filter goodWord), w ∈ wsX6_requireKnown := fun _ h => (List.mem_cons_of_mem _ (List.mem_append_right _ h))
set_option maxRecDepth 20000 in
theorem ggX6_requireKnown_X6_refuse : GoodIn wsX6_requireKnown wsX6_refuse := (gin_c (mem_at i9wsX6_requireKnown_0 10 rfl) rfl (goodIn_app (goodIn_app (gin_c (mem_at i9wsX6_requireKnown_0 11 rfl) rfl (gin_c (mem_at i9wsX6_requireKnown_0 12 rfl) rfl (gin_c (mem_at i9wsX6_requireKnown_0 13 rfl) rfl gin_n))) (goodIn_sub i9wsX6_requireKnown_2 g9_7)) (goodIn_sub i9wsX6_requireKnown_3 g9_8)))
set_option maxRecDepth 20000 in
theorem gX6_requireKnown_X6_refuse : GoodIn wsX6_requireKnown (wsV RX6 60 RX6 yX6_refuse wsX6_refuse) := goodIn_app (gin_c (mem_at i9wsX6_requireKnown_0 6 rfl) rfl (gin_c (mem_at i9wsX6_requireKnown_0 7 rfl) rfl (gin_c (mem_at i9wsX6_requireKnown_0 8 rfl) rfl (gin_c (mem_at i9wsX6_requireKnown_0 9 rfl) rfl gin_n)))) ggX6_requireKnown_X6_refuse
set_option maxHeartbeats 4000000 in
set_option maxRecDepth 100000 in
theorem T_X6_requireKnown (l : Launch) (hl : l.stackTraces = false) (D : va_G) (cA : Nat → ClassId) {l0 : Option Nat} {l1 : Option Nat} {l2 : Int32} {l3 : Int32} {x : HS} {Q : HS → Prop} {X : String → HS → Prop} (h : w_X6_requireKnown l0 l1 l2 l3 x Q X) : YV l yX6_requireKnown wsX6_requireKnown 7 111 D cA [.q l0, .q l1, .i l2, .i l3] x Q X := by
  refine YV.of (cc := cX6_requireKnown) (maxL := 4) (ret := none) hl (by decide) rfl rfl (fun g B fr => ?_)
  have o := B.o
  have hb := B.hb
  have hts := B.hts
  have hown : g.s.vm.findClass RX6 = some g.m.cls := B.hown
  have in2 : ∀ w ∈ u_ws RX2 TX2 6, w ∈ wsX6_requireKnown := fun w h => (List.mem_cons_of_mem _ (List.mem_append_left _ (List.mem_append_left _ (List.mem_append_right _ h))))
  have in6 : ∀ w ∈ u_ws RX6 TX6 8, w ∈ wsX6_requireKnown := fun w h => (List.mem_cons_of_mem _ (List.mem_append_left _ (List.mem_append_right _ h)))
  unfold w_X6_requireKnown at h
  show KW g 4 0 [(0, .q l0), (1, .q l1), (2, .i l2), (3, .i l3)] [] x
  refine k_aload_n o hb dX6_requireKnown_0 rfl 1 rfl ?_
  refine k_getF (C := RX2) (T := TX2) (N := 6) o hb hts in2 hown rfl (by decide) 0 (by decide) rfl (hts (.fieldLink RX6 102 "FactKeeper$Goal" "kinds" "[I") (by decide +kernel)) (fun _ h9 => h9) dX6_requireKnown_1 h (fun v1 h => ?_)
  refine k_iload_n o hb dX6_requireKnown_4 rfl 2 rfl ?_
  refine k_iald o hb dX6_requireKnown_5 h (fun v2 h => ?_)
  refine k_iconst (v := 2) o hb dX6_requireKnown_6 (by decide) ?_
  refine wJoin_elim (M := fun K => ∀  (x4 : HS), K  x4 → KW g 4 38 [] [] x4) h ?_ (fun j3 hj3 h => ?_)
  · skip
    intro  x4 h
    exact k_vret o hb B.hr fr dX6_requireKnown_38 h
  · skip
    refine k_icmp_ne (tgt := 38) o hb dX6_requireKnown_7 (by decide) h (fun h => ?_) (fun h => ?_)
    · skip
      refine k_aload_n o hb dX6_requireKnown_10 rfl 0 rfl ?_
      refine k_getI (C := RX6) (T := TX6) (N := 8) o hb hts in6 hown rfl (by decide) 2 (by decide) rfl (hts (.fieldLink RX6 36 "FactKeeper$Reader" "known" "I") (by decide +kernel)) (fun _ h9 => h9) dX6_requireKnown_11 h (fun v5 h => ?_)
      refine k_aload_n o hb dX6_requireKnown_14 rfl 1 rfl ?_
      refine k_getF (C := RX2) (T := TX2) (N := 6) o hb hts in2 hown rfl (by decide) 1 (by decide) rfl (hts (.fieldLink RX6 106 "FactKeeper$Goal" "args" "[I") (by decide +kernel)) (fun _ h9 => h9) dX6_requireKnown_15 h (fun v6 h => ?_)
      refine k_iload_n o hb dX6_requireKnown_18 rfl 2 rfl ?_
      refine k_iald o hb dX6_requireKnown_19 h (fun v7 h => ?_)
      refine k_run_i o (fun _ _ q => q.elim) (k_runSN (host := RX11) o hb B.hml hown hts (T_X11_isIn g.l o.hl g.D g.cA h) yX_no ⟨va_cnB 2 hts gX6_requireKnown_X11_isIn_n109 rfl rfl rfl o.hZ.2.2.1.2.2.2.2.2.2.2.2.2.1 (hts (.initialized RX11) (by decide +kernel)) (by decide +kernel) ⟨yle B.hR1 rfl, yle B.hR2 rfl⟩, hts (.static yX11_isIn) (by decide +kernel), trivial⟩ rfl rfl (Nat.le_of_ble_eq_true rfl) dX6_requireKnown_20) (fun v9 x8 h => ?_)
      refine wJoin_elim (M := fun K => ∀  (x11 : HS), K  x11 → KW g 4 31 [(1, .q l1), (2, .i l2)] [] x11) h ?_ (fun j10 hj10 h => ?_)
      · skip
        intro  x11 h
        refine k_aload_n o hb dX6_requireKnown_31 rfl 0 rfl ?_
        refine k_getF (C := RX2) (T := TX2) (N := 6) o hb hts in2 hown rfl (by decide) 0 (by decide) rfl (hts (.fieldLink RX6 102 "FactKeeper$Goal" "kinds" "[I") (by decide +kernel)) (fun _ h9 => h9) dX6_requireKnown_32 h (fun v12 h => ?_)
        refine k_iload_n o hb dX6_requireKnown_35 rfl 1 rfl ?_
        refine k_iconst (v := 1) o hb dX6_requireKnown_36 (by decide) ?_
        refine k_iast o hb dX6_requireKnown_37 h (fun x13 h => ?_)
        exact KW.sub [] rfl (hj3 x13 h)
      · skip
        refine k_if_ne (tgt := 31) o hb dX6_requireKnown_23 (by decide) h (fun h => ?_) (fun h => ?_)
        · skip
          refine k_aload_n o hb dX6_requireKnown_26 rfl 0 rfl ?_
          refine k_iload_n o hb dX6_requireKnown_27 rfl 3 rfl ?_
          refine k_run_v o (fun _ _ q => q) (k_runV (ci := 6) (rc := (RX6, TX6, 8)) o hb B.hml hown hts rfl (by decide) (T_X6_refuse g.l o.hl g.D g.cA h.2) (cwV 1 hts gX6_requireKnown_X6_refuse rfl rfl rfl (by decide +kernel) ⟨yle B.hR1 rfl, yle B.hR2 rfl⟩) h.1 rfl rfl (Nat.le_of_ble_eq_true rfl) dX6_requireKnown_28) (fun x14 h => ?_)
          exact KW.sub [1, 2] rfl (hj10 x14 h)
        · skip
          exact KW.sub [1, 2] rfl (hj10 x8 h)
    · skip
      exact KW.sub [] rfl (hj3 x h)
theorem dX6_readKnownArg_0 : decode cX6_readKnownArg 0 = .ok (.aload_n 0, 1) := by decide +kernel
theorem dX6_readKnownArg_1 : decode cX6_readKnownArg 1 = .ok (.invokevirtual 39, 3) := by decide +kernel
theorem dX6_readKnownArg_4 : decode cX6_readKnownArg 4 = .ok (.aload_n 0, 1) := by decide +kernel
theorem dX6_readKnownArg_5 : decode cX6_readKnownArg 5 = .ok (.getfield 33, 3) := by decide +kernel
theorem dX6_readKnownArg_8 : decode cX6_readKnownArg 8 = .ok (.istore_n 3, 1) := by decide +kernel
theorem dX6_readKnownArg_9 : decode cX6_readKnownArg 9 = .ok (.aload_n 0, 1) := by decide +kernel
theorem dX6_readKnownArg_10 : decode cX6_readKnownArg 10 = .ok (.aload_n 1, 1) := by decide +kernel
theorem dX6_readKnownArg_11 : decode cX6_readKnownArg 11 = .ok (.iload_n 2, 1) := by decide +kernel
theorem dX6_readKnownArg_12 : decode cX6_readKnownArg 12 = .ok (.iconst 0, 1) := by decide +kernel
theorem dX6_readKnownArg_13 : decode cX6_readKnownArg 13 = .ok (.invokevirtual 82, 3) := by decide +kernel
theorem dX6_readKnownArg_16 : decode cX6_readKnownArg 16 = .ok (.aload_n 0, 1) := by decide +kernel
theorem dX6_readKnownArg_17 : decode cX6_readKnownArg 17 = .ok (.aload_n 1, 1) := by decide +kernel
theorem dX6_readKnownArg_18 : decode cX6_readKnownArg 18 = .ok (.iload_n 2, 1) := by decide +kernel
theorem dX6_readKnownArg_19 : decode cX6_readKnownArg 19 = .ok (.iload_n 3, 1) := by decide +kernel
theorem dX6_readKnownArg_20 : decode cX6_readKnownArg 20 = .ok (.invokevirtual 124, 3) := by decide +kernel
theorem dX6_readKnownArg_23 : decode cX6_readKnownArg 23 = .ok (.return_, 1) := by decide +kernel
theorem i9wsX6_readKnownArg_0 : ∀ w ∈ wsX6_readKnownArg_r1, w ∈ wsX6_readKnownArg := fun _ h => (List.mem_cons_of_mem _ (List.mem_append_left _ (List.mem_append_left _ (List.mem_append_left _ (List.mem_append_left _ h)))))
theorem i9wsX6_readKnownArg_2 : ∀ w ∈ wsX60, w ∈ wsX6_readKnownArg := fun _ h => (List.mem_cons_of_mem _ (List.mem_append_left _ (List.mem_append_left _ (List.mem_append_right _ h))))
set_option maxRecDepth 20000 in
theorem ggX6_readKnownArg_X6_skipBlanks : GoodIn wsX6_readKnownArg wsX6_skipBlanks := (gin_c (mem_at i9wsX6_readKnownArg_0 5 rfl) rfl (goodIn_app (gin_c (mem_at i9wsX6_readKnownArg_0 0 rfl) rfl (gin_c (mem_at i9wsX6_readKnownArg_0 6 rfl) rfl (gin_c (mem_at i9wsX6_readKnownArg_0 7 rfl) rfl (gin_c (mem_at i9wsX6_readKnownArg_0 8 rfl) rfl (gin_c (mem_at i9wsX6_readKnownArg_0 9 rfl) rfl (gin_c (mem_at i9wsX6_readKnownArg_0 4 rfl) rfl (gin_c (mem_at i9wsX6_readKnownArg_0 10 rfl) rfl (gin_c (mem_at i9wsX6_readKnownArg_0 11 rfl) rfl gin_n)))))))) (goodIn_sub i9wsX6_readKnownArg_2 g9_7)))
set_option maxRecDepth 20000 in
theorem gX6_readKnownArg_X6_skipBlanks : GoodIn wsX6_readKnownArg (wsV RX6 39 RX6 yX6_skipBlanks wsX6_skipBlanks) := goodIn_app (gin_c (mem_at i9wsX6_readKnownArg_0 1 rfl) rfl (gin_c (mem_at i9wsX6_readKnownArg_0 2 rfl) rfl (gin_c (mem_at i9wsX6_readKnownArg_0 3 rfl) rfl (gin_c (mem_at i9wsX6_readKnownArg_0 4 rfl) rfl gin_n)))) ggX6_readKnownArg_X6_skipBlanks
theorem i9wsX6_readKnownArg_1 : ∀ w ∈ wsX6_readKnownArg_r2, w ∈ wsX6_readKnownArg := fun _ h => (List.mem_cons_of_mem _ (List.mem_append_left _ (List.mem_append_left _ (List.mem_append_left _ (List.mem_append_right _ h)))))
theorem i9wsX6_readKnownArg_3 : ∀ w ∈ wsX20, w ∈ wsX6_readKnownArg := fun _ h => (List.mem_cons_of_mem _ (List.mem_append_left _ (List.mem_append_right _ h)))
theorem i9wsX6_readKnownArg_4 : ∀ w ∈ ((vx_atS RX6 135 "java/lang/UnsupportedOperationException" ["java/lang/RuntimeException", "java/lang/Exception"]).filter goodWord), w ∈ wsX6_readKnownArg := fun _ h => (List.mem_cons_of_mem _ (List.mem_append_right _ h))
set_option maxRecDepth 20000 in
theorem ggX6_readKnownArg_X6_readArg : GoodIn wsX6_readKnownArg wsX6_readArg := (gin_c (mem_at i9wsX6_readKnownArg_0 15 rfl) rfl (goodIn_app (goodIn_app (goodIn_app (goodIn_app (gin_c (mem_at i9wsX6_readKnownArg_0 16 rfl) rfl (gin_c (mem_at i9wsX6_readKnownArg_0 17 rfl) rfl (gin_c (mem_at i9wsX6_readKnownArg_0 0 rfl) rfl (gin_c (mem_at i9wsX6_readKnownArg_0 7 rfl) rfl (gin_c (mem_at i9wsX6_readKnownArg_0 8 rfl) rfl (gin_c (mem_at i9wsX6_readKnownArg_0 9 rfl) rfl (gin_c (mem_at i9wsX6_readKnownArg_0 4 rfl) rfl (gin_c (mem_at i9wsX6_readKnownArg_0 10 rfl) rfl (gin_c (mem_at i9wsX6_readKnownArg_0 6 rfl) rfl (gin_c (mem_at i9wsX6_readKnownArg_0 11 rfl) rfl (gin_c (mem_at i9wsX6_readKnownArg_0 18 rfl) rfl (gin_c (mem_at i9wsX6_readKnownArg_0 19 rfl) rfl (gin_c (mem_at i9wsX6_readKnownArg_0 20 rfl) rfl (gin_c (mem_at i9wsX6_readKnownArg_0 21 rfl) rfl (gin_c (mem_at i9wsX6_readKnownArg_0 22 rfl) rfl (gin_c (mem_at i9wsX6_readKnownArg_0 23 rfl) rfl (gin_c (mem_at i9wsX6_readKnownArg_1 0 rfl) rfl (gin_c (mem_at i9wsX6_readKnownArg_1 1 rfl) rfl (gin_c (mem_at i9wsX6_readKnownArg_1 2 rfl) rfl (gin_c (mem_at i9wsX6_readKnownArg_1 3 rfl) rfl (gin_c (mem_at i9wsX6_readKnownArg_1 4 rfl) rfl (gin_c (mem_at i9wsX6_readKnownArg_1 5 rfl) rfl (gin_c (mem_at i9wsX6_readKnownArg_1 6 rfl) rfl (gin_c (mem_at i9wsX6_readKnownArg_1 7 rfl) rfl gin_n)))))))))))))))))))))))) (gin_c (mem_at i9wsX6_readKnownArg_1 8 rfl) rfl gin_n)) (goodIn_sub i9wsX6_readKnownArg_3 g9_6)) (goodIn_sub i9wsX6_readKnownArg_2 g9_7)) (goodIn_sub i9wsX6_readKnownArg_4 g9_8)))
set_option maxRecDepth 20000 in
theorem gX6_readKnownArg_X6_readArg : GoodIn wsX6_readKnownArg (wsV RX6 82 RX6 yX6_readArg wsX6_readArg) := goodIn_app (gin_c (mem_at i9wsX6_readKnownArg_0 12 rfl) rfl (gin_c (mem_at i9wsX6_readKnownArg_0 13 rfl) rfl (gin_c (mem_at i9wsX6_readKnownArg_0 14 rfl) rfl (gin_c (mem_at i9wsX6_readKnownArg_0 4 rfl) rfl gin_n)))) ggX6_readKnownArg_X6_readArg
set_option maxRecDepth 20000 in
theorem ggX6_readKnownArg_X6_requireKnown : GoodIn wsX6_readKnownArg wsX6_requireKnown := (gin_c (mem_at i9wsX6_readKnownArg_1 12 rfl) rfl (goodIn_app (goodIn_app (goodIn_app (gin_c (mem_at i9wsX6_readKnownArg_0 16 rfl) rfl (gin_c (mem_at i9wsX6_readKnownArg_1 13 rfl) rfl (gin_c (mem_at i9wsX6_readKnownArg_0 17 rfl) rfl (gin_c (mem_at i9wsX6_readKnownArg_1 14 rfl) rfl (gin_c (mem_at i9wsX6_readKnownArg_1 15 rfl) rfl (gin_c (mem_at i9wsX6_readKnownArg_1 16 rfl) rfl (gin_c (mem_at i9wsX6_readKnownArg_1 2 rfl) rfl (gin_c (mem_at i9wsX6_readKnownArg_1 3 rfl) rfl (gin_c (mem_at i9wsX6_readKnownArg_1 4 rfl) rfl (gin_c (mem_at i9wsX6_readKnownArg_0 4 rfl) rfl (gin_c (mem_at i9wsX6_readKnownArg_1 5 rfl) rfl (gin_c (mem_at i9wsX6_readKnownArg_1 6 rfl) rfl (gin_c (mem_at i9wsX6_readKnownArg_1 7 rfl) rfl (gin_c (mem_at i9wsX6_readKnownArg_1 8 rfl) rfl gin_n)))))))))))))) (goodIn_sub i9wsX6_readKnownArg_3 g9_6)) (goodIn_sub i9wsX6_readKnownArg_2 g9_7)) (goodIn_sub i9wsX6_readKnownArg_4 g9_8)))
set_option maxRecDepth 20000 in
theorem gX6_readKnownArg_X6_requireKnown : GoodIn wsX6_readKnownArg (wsV RX6 124 RX6 yX6_requireKnown wsX6_requireKnown) := goodIn_app (gin_c (mem_at i9wsX6_readKnownArg_1 9 rfl) rfl (gin_c (mem_at i9wsX6_readKnownArg_1 10 rfl) rfl (gin_c (mem_at i9wsX6_readKnownArg_1 11 rfl) rfl (gin_c (mem_at i9wsX6_readKnownArg_0 4 rfl) rfl gin_n)))) ggX6_readKnownArg_X6_requireKnown
set_option maxHeartbeats 4000000 in
set_option maxRecDepth 100000 in
theorem T_X6_readKnownArg (l : Launch) (hl : l.stackTraces = false) (D : va_G) (cA : Nat → ClassId) {l0 : Option Nat} {l1 : Option Nat} {l2 : Int32} {x : HS} {Q : HS → Prop} {X : String → HS → Prop} (h : w_X6_readKnownArg l0 l1 l2 x Q X) : YV l yX6_readKnownArg wsX6_readKnownArg 9 159 D cA [.q l0, .q l1, .i l2] x Q X := by
  refine YV.of (cc := cX6_readKnownArg) (maxL := 4) (ret := none) hl (by decide) rfl rfl (fun g B fr => ?_)
  have o := B.o
  have hb := B.hb
  have hts := B.hts
  have hown : g.s.vm.findClass RX6 = some g.m.cls := B.hown
  have in6 : ∀ w ∈ u_ws RX6 TX6 8, w ∈ wsX6_readKnownArg := fun w h => (List.mem_cons_of_mem _ (List.mem_append_left _ (List.mem_append_left _ (List.mem_append_right _ h))))
  unfold w_X6_readKnownArg at h
  show KW g 4 0 [(0, .q l0), (1, .q l1), (2, .i l2)] [] x
  refine k_aload_n o hb dX6_readKnownArg_0 rfl 0 rfl ?_
  refine k_run_v o (fun _ _ q => q) (k_runV (ci := 6) (rc := (RX6, TX6, 8)) o hb B.hml hown hts rfl (by decide) (T_X6_skipBlanks g.l o.hl g.D g.cA h.2) (cwV 0 hts gX6_readKnownArg_X6_skipBlanks rfl rfl rfl (by decide +kernel) ⟨yle B.hR1 rfl, yle B.hR2 rfl⟩) h.1 rfl rfl (Nat.le_of_ble_eq_true rfl) dX6_readKnownArg_1) (fun x1 h => ?_)
  refine k_aload_n o hb dX6_readKnownArg_4 rfl 0 rfl ?_
  refine k_getI (C := RX6) (T := TX6) (N := 8) o hb hts in6 hown rfl (by decide) 6 (by decide) rfl (hts (.fieldLink RX6 33 "FactKeeper$Reader" "at" "I") (by decide +kernel)) (fun _ h9 => h9) dX6_readKnownArg_5 h (fun v3 h => ?_)
  refine k_istore_n o hb dX6_readKnownArg_8 rfl rfl ?_
  refine k_aload_n o hb dX6_readKnownArg_9 rfl 1 rfl ?_
  refine k_aload_n o hb dX6_readKnownArg_10 rfl 2 rfl ?_
  refine k_iload_n o hb dX6_readKnownArg_11 rfl 3 rfl ?_
  refine k_iconst (v := 0) o hb dX6_readKnownArg_12 (by decide) ?_
  refine k_run_v o (fun _ _ q => q) (k_runV (ci := 6) (rc := (RX6, TX6, 8)) o hb B.hml hown hts rfl (by decide) (T_X6_readArg g.l o.hl g.D g.cA h.2) (cwV 3 hts gX6_readKnownArg_X6_readArg rfl rfl rfl (by decide +kernel) ⟨yle B.hR1 rfl, yle B.hR2 rfl⟩) h.1 rfl rfl (Nat.le_of_ble_eq_true rfl) dX6_readKnownArg_13) (fun x4 h => ?_)
  refine k_aload_n o hb dX6_readKnownArg_16 rfl 1 rfl ?_
  refine k_aload_n o hb dX6_readKnownArg_17 rfl 2 rfl ?_
  refine k_iload_n o hb dX6_readKnownArg_18 rfl 3 rfl ?_
  refine k_iload_n o hb dX6_readKnownArg_19 rfl 0 rfl ?_
  refine k_run_v o (fun _ _ q => q) (k_runV (ci := 6) (rc := (RX6, TX6, 8)) o hb B.hml hown hts rfl (by decide) (T_X6_requireKnown g.l o.hl g.D g.cA h.2) (cwV 3 hts gX6_readKnownArg_X6_requireKnown rfl rfl rfl (by decide +kernel) ⟨yle B.hR1 rfl, yle B.hR2 rfl⟩) h.1 rfl rfl (Nat.le_of_ble_eq_true rfl) dX6_readKnownArg_20) (fun x6 h => ?_)
  exact k_vret o hb B.hr fr dX6_readKnownArg_23 h
theorem dX6_readSign_0 : decode cX6_readSign 0 = .ok (.aload_n 0, 1) := by decide +kernel
theorem dX6_readSign_1 : decode cX6_readSign 1 = .ok (.invokevirtual 42, 3) := by decide +kernel
theorem dX6_readSign_4 : decode cX6_readSign 4 = .ok (.istore 4, 2) := by decide +kernel
theorem dX6_readSign_6 : decode cX6_readSign 6 = .ok (.iload 4, 2) := by decide +kernel
theorem dX6_readSign_8 : decode cX6_readSign 8 = .ok (.iload_n 1, 1) := by decide +kernel
theorem dX6_readSign_9 : decode cX6_readSign 9 = .ok (.if_icmp .eq 23, 3) := by decide +kernel
theorem dX6_readSign_12 : decode cX6_readSign 12 = .ok (.iload 4, 2) := by decide +kernel
theorem dX6_readSign_14 : decode cX6_readSign 14 = .ok (.iload_n 2, 1) := by decide +kernel
theorem dX6_readSign_15 : decode cX6_readSign 15 = .ok (.if_icmp .eq 17, 3) := by decide +kernel
theorem dX6_readSign_18 : decode cX6_readSign 18 = .ok (.iload 4, 2) := by decide +kernel
theorem dX6_readSign_20 : decode cX6_readSign 20 = .ok (.iload_n 3, 1) := by decide +kernel
theorem dX6_readSign_21 : decode cX6_readSign 21 = .ok (.if_icmp .eq 11, 3) := by decide +kernel
theorem dX6_readSign_24 : decode cX6_readSign 24 = .ok (.aload_n 0, 1) := by decide +kernel
theorem dX6_readSign_25 : decode cX6_readSign 25 = .ok (.aload_n 0, 1) := by decide +kernel
theorem dX6_readSign_26 : decode cX6_readSign 26 = .ok (.getfield 33, 3) := by decide +kernel
theorem dX6_readSign_29 : decode cX6_readSign 29 = .ok (.invokevirtual 60, 3) := by decide +kernel
theorem dX6_readSign_32 : decode cX6_readSign 32 = .ok (.aload_n 0, 1) := by decide +kernel
theorem dX6_readSign_33 : decode cX6_readSign 33 = .ok (.dup, 1) := by decide +kernel
theorem dX6_readSign_34 : decode cX6_readSign 34 = .ok (.getfield 33, 3) := by decide +kernel
theorem dX6_readSign_37 : decode cX6_readSign 37 = .ok (.iconst 1, 1) := by decide +kernel
theorem dX6_readSign_38 : decode cX6_readSign 38 = .ok (.iadd, 1) := by decide +kernel
theorem dX6_readSign_39 : decode cX6_readSign 39 = .ok (.putfield 33, 3) := by decide +kernel
theorem dX6_readSign_42 : decode cX6_readSign 42 = .ok (.iload 4, 2) := by decide +kernel
theorem dX6_readSign_44 : decode cX6_readSign 44 = .ok (.ireturn, 1) := by decide +kernel
theorem i9wsX6_readSign_0 : ∀ w ∈ ([.fieldLink RX6 33 "FactKeeper$Reader" "at" "I", .methodLink RX6 42 yX6_here, .instanceMethod yX6_here, .selects RX6 yX6_here yX6_here, .initialized RX6, .code yX6_here cX6_here 1 (some .int), .fieldLink RX6 26 "FactKeeper$Reader" "length" "I", .fieldLink RX6 22 "FactKeeper$Reader" "text" "[B", .methodLink RX6 60 yX6_refuse, .instanceMethod yX6_refuse, .selects RX6 yX6_refuse yX6_refuse, .code yX6_refuse cX6_refuse 2 none, .classLink RX6 131 "java/lang/UnsupportedOperationException", .initialized "java/lang/UnsupportedOperationException", .fieldLink RX6 17 "FactKeeper$Reader" "place" "I"] : List Cond), w ∈ wsX6_readSign := fun _ h => (List.mem_cons_of_mem _ (List.mem_append_left _ (List.mem_append_left _ h)))
theorem i9wsX6_readSign_1 : ∀ w ∈ wsX60, w ∈ wsX6_readSign := fun _ h => (List.mem_cons_of_mem _ (List.mem_append_left _ (List.mem_append_right _ h)))
set_option maxRecDepth 20000 in
theorem ggX6_readSign_X6_here : GoodIn wsX6_readSign wsX6_here := (gin_c (mem_at i9wsX6_readSign_0 5 rfl) rfl (goodIn_app (gin_c (mem_at i9wsX6_readSign_0 0 rfl) rfl (gin_c (mem_at i9wsX6_readSign_0 6 rfl) rfl (gin_c (mem_at i9wsX6_readSign_0 7 rfl) rfl gin_n))) (goodIn_sub i9wsX6_readSign_1 g9_7)))
set_option maxRecDepth 20000 in
theorem gX6_readSign_X6_here : GoodIn wsX6_readSign (wsV RX6 42 RX6 yX6_here wsX6_here) := goodIn_app (gin_c (mem_at i9wsX6_readSign_0 1 rfl) rfl (gin_c (mem_at i9wsX6_readSign_0 2 rfl) rfl (gin_c (mem_at i9wsX6_readSign_0 3 rfl) rfl (gin_c (mem_at i9wsX6_readSign_0 4 rfl) rfl gin_n)))) ggX6_readSign_X6_here
theorem i9wsX6_readSign_2 : ∀ w ∈ ((vx_atS RX6 135 "java/lang/UnsupportedOperationException" ["java/lang/RuntimeException", "java/lang/Exception"]).filter goodWord), w ∈ wsX6_readSign := fun _ h => (List.mem_cons_of_mem _ (List.mem_append_right _ h))
set_option maxRecDepth 20000 in
theorem ggX6_readSign_X6_refuse : GoodIn wsX6_readSign wsX6_refuse := (gin_c (mem_at i9wsX6_readSign_0 11 rfl) rfl (goodIn_app (goodIn_app (gin_c (mem_at i9wsX6_readSign_0 12 rfl) rfl (gin_c (mem_at i9wsX6_readSign_0 13 rfl) rfl (gin_c (mem_at i9wsX6_readSign_0 14 rfl) rfl gin_n))) (goodIn_sub i9wsX6_readSign_1 g9_7)) (goodIn_sub i9wsX6_readSign_2 g9_8)))
set_option maxRecDepth 20000 in
theorem gX6_readSign_X6_refuse : GoodIn wsX6_readSign (wsV RX6 60 RX6 yX6_refuse wsX6_refuse) := goodIn_app (gin_c (mem_at i9wsX6_readSign_0 8 rfl) rfl (gin_c (mem_at i9wsX6_readSign_0 9 rfl) rfl (gin_c (mem_at i9wsX6_readSign_0 10 rfl) rfl (gin_c (mem_at i9wsX6_readSign_0 4 rfl) rfl gin_n)))) ggX6_readSign_X6_refuse
set_option maxHeartbeats 4000000 in
set_option maxRecDepth 100000 in
theorem T_X6_readSign (l : Launch) (hl : l.stackTraces = false) (D : va_G) (cA : Nat → ClassId) {l0 : Option Nat} {l1 : Int32} {l2 : Int32} {l3 : Int32} {x : HS} {Q : Int32 → HS → Prop} {X : String → HS → Prop} (h : w_X6_readSign l0 l1 l2 l3 x Q X) : YI l yX6_readSign wsX6_readSign 7 111 D cA [.q l0, .i l1, .i l2, .i l3] x Q X := by
  refine YI.of (cc := cX6_readSign) (maxL := 5) (ret := (some .int)) hl (by decide) rfl rfl (fun g B fr => ?_)
  have o := B.o
  have hb := B.hb
  have hts := B.hts
  have hown : g.s.vm.findClass RX6 = some g.m.cls := B.hown
  have in6 : ∀ w ∈ u_ws RX6 TX6 8, w ∈ wsX6_readSign := fun w h => (List.mem_cons_of_mem _ (List.mem_append_left _ (List.mem_append_right _ h)))
  unfold w_X6_readSign at h
  show KW g 5 0 [(0, .q l0), (1, .i l1), (2, .i l2), (3, .i l3)] [] x
  refine k_aload_n o hb dX6_readSign_0 rfl 0 rfl ?_
  refine k_run_i o (fun _ _ q => q) (k_runV (ci := 6) (rc := (RX6, TX6, 8)) o hb B.hml hown hts rfl (by decide) (T_X6_here g.l o.hl g.D g.cA h.2) (cwV 0 hts gX6_readSign_X6_here rfl rfl rfl (by decide +kernel) ⟨yle B.hR1 rfl, yle B.hR2 rfl⟩) h.1 rfl rfl (Nat.le_of_ble_eq_true rfl) dX6_readSign_1) (fun v2 x1 h => ?_)
  refine k_istore o hb dX6_readSign_4 rfl ?_
  refine k_iload o hb dX6_readSign_6 0 rfl ?_
  refine k_iload_n o hb dX6_readSign_8 rfl 2 rfl ?_
  refine wJoin_elim (M := fun K => ∀  (x4 : HS), K  x4 → KW g 5 32 [(0, .q l0), (4, .i v2)] [] x4) h ?_ (fun j3 hj3 h => ?_)
  · skip
    intro  x4 h
    refine k_aload_n o hb dX6_readSign_32 rfl 0 rfl ?_
    refine k_dup o hb dX6_readSign_33 ?_
    refine k_getI (C := RX6) (T := TX6) (N := 8) o hb hts in6 hown rfl (by decide) 6 (by decide) rfl (hts (.fieldLink RX6 33 "FactKeeper$Reader" "at" "I") (by decide +kernel)) (fun _ h9 => h9) dX6_readSign_34 h (fun v5 h => ?_)
    refine k_iconst (v := 1) o hb dX6_readSign_37 (by decide) ?_
    refine k_iadd o hb dX6_readSign_38 ?_
    refine k_putI (C := RX6) (T := TX6) (N := 8) (ty := .int) o hb hts in6 tyX6 tyX6_ok nmX6 hown rfl (by decide) 6 (by decide) rfl (hts (.fieldLink RX6 33 "FactKeeper$Reader" "at" "I") (by decide +kernel)) (fun _ h9 => h9) rfl (by decide +kernel) (fun _ => rfl) (fun _ => rfl) dX6_readSign_39 h (fun x6 h => ?_)
    refine k_iload o hb dX6_readSign_42 1 rfl ?_
    exact k_iret o hb B.hr fr dX6_readSign_44 h
  · skip
    refine k_icmp_eq (tgt := 32) o hb dX6_readSign_9 (by decide) h (fun h => ?_) (fun h => ?_)
    · skip
      exact KW.sub [1, 0] rfl (hj3 x1 h)
    · skip
      refine k_iload o hb dX6_readSign_12 0 rfl ?_
      refine k_iload_n o hb dX6_readSign_14 rfl 3 rfl ?_
      refine k_icmp_eq (tgt := 32) o hb dX6_readSign_15 (by decide) h (fun h => ?_) (fun h => ?_)
      · skip
        exact KW.sub [1, 0] rfl (hj3 x1 h)
      · skip
        refine k_iload o hb dX6_readSign_18 0 rfl ?_
        refine k_iload_n o hb dX6_readSign_20 rfl 4 rfl ?_
        refine k_icmp_eq (tgt := 32) o hb dX6_readSign_21 (by decide) h (fun h => ?_) (fun h => ?_)
        · skip
          exact KW.sub [1, 0] rfl (hj3 x1 h)
        · skip
          refine k_aload_n o hb dX6_readSign_24 rfl 1 rfl ?_
          refine k_aload_n o hb dX6_readSign_25 rfl 1 rfl ?_
          refine k_getI (C := RX6) (T := TX6) (N := 8) o hb hts in6 hown rfl (by decide) 6 (by decide) rfl (hts (.fieldLink RX6 33 "FactKeeper$Reader" "at" "I") (by decide +kernel)) (fun _ h9 => h9) dX6_readSign_26 h (fun v7 h => ?_)
          refine k_run_v o (fun _ _ q => q) (k_runV (ci := 6) (rc := (RX6, TX6, 8)) o hb B.hml hown hts rfl (by decide) (T_X6_refuse g.l o.hl g.D g.cA h.2) (cwV 1 hts gX6_readSign_X6_refuse rfl rfl rfl (by decide +kernel) ⟨yle B.hR1 rfl, yle B.hR2 rfl⟩) h.1 rfl rfl (Nat.le_of_ble_eq_true rfl) dX6_readSign_29) (fun x8 h => ?_)
          exact KW.sub [1, 0] rfl (hj3 x8 h)
theorem dX6_readSignGoal_0 : decode cX6_readSignGoal 0 = .ok (.aload_n 0, 1) := by decide +kernel
theorem dX6_readSignGoal_1 : decode cX6_readSignGoal 1 = .ok (.getfield 33, 3) := by decide +kernel
theorem dX6_readSignGoal_4 : decode cX6_readSignGoal 4 = .ok (.istore_n 2, 1) := by decide +kernel
theorem dX6_readSignGoal_5 : decode cX6_readSignGoal 5 = .ok (.iconst 0, 1) := by decide +kernel
theorem dX6_readSignGoal_6 : decode cX6_readSignGoal 6 = .ok (.istore_n 3, 1) := by decide +kernel
theorem dX6_readSignGoal_7 : decode cX6_readSignGoal 7 = .ok (.aload_n 0, 1) := by decide +kernel
theorem dX6_readSignGoal_8 : decode cX6_readSignGoal 8 = .ok (.aload_n 1, 1) := by decide +kernel
theorem dX6_readSignGoal_9 : decode cX6_readSignGoal 9 = .ok (.iconst 0, 1) := by decide +kernel
theorem dX6_readSignGoal_10 : decode cX6_readSignGoal 10 = .ok (.iconst 0, 1) := by decide +kernel
theorem dX6_readSignGoal_11 : decode cX6_readSignGoal 11 = .ok (.invokevirtual 82, 3) := by decide +kernel
theorem dX6_readSignGoal_14 : decode cX6_readSignGoal 14 = .ok (.aload_n 0, 1) := by decide +kernel
theorem dX6_readSignGoal_15 : decode cX6_readSignGoal 15 = .ok (.invokevirtual 39, 3) := by decide +kernel
theorem dX6_readSignGoal_18 : decode cX6_readSignGoal 18 = .ok (.aload_n 0, 1) := by decide +kernel
theorem dX6_readSignGoal_19 : decode cX6_readSignGoal 19 = .ok (.invokevirtual 42, 3) := by decide +kernel
theorem dX6_readSignGoal_22 : decode cX6_readSignGoal 22 = .ok (.bipush 58, 2) := by decide +kernel
theorem dX6_readSignGoal_24 : decode cX6_readSignGoal 24 = .ok (.if_icmp .ne 81, 3) := by decide +kernel
theorem dX6_readSignGoal_27 : decode cX6_readSignGoal 27 = .ok (.aload_n 1, 1) := by decide +kernel
theorem dX6_readSignGoal_28 : decode cX6_readSignGoal 28 = .ok (.getfield 102, 3) := by decide +kernel
theorem dX6_readSignGoal_31 : decode cX6_readSignGoal 31 = .ok (.iconst 0, 1) := by decide +kernel
theorem dX6_readSignGoal_32 : decode cX6_readSignGoal 32 = .ok (.iaload, 1) := by decide +kernel
theorem dX6_readSignGoal_33 : decode cX6_readSignGoal 33 = .ok (.iconst 2, 1) := by decide +kernel
theorem dX6_readSignGoal_34 : decode cX6_readSignGoal 34 = .ok (.if_icmp .ne 71, 3) := by decide +kernel
theorem dX6_readSignGoal_37 : decode cX6_readSignGoal 37 = .ok (.aload_n 1, 1) := by decide +kernel
theorem dX6_readSignGoal_38 : decode cX6_readSignGoal 38 = .ok (.aload_n 1, 1) := by decide +kernel
theorem dX6_readSignGoal_39 : decode cX6_readSignGoal 39 = .ok (.getfield 106, 3) := by decide +kernel
theorem dX6_readSignGoal_42 : decode cX6_readSignGoal 42 = .ok (.iconst 0, 1) := by decide +kernel
theorem dX6_readSignGoal_43 : decode cX6_readSignGoal 43 = .ok (.iaload, 1) := by decide +kernel
theorem dX6_readSignGoal_44 : decode cX6_readSignGoal 44 = .ok (.putfield 113, 3) := by decide +kernel
theorem dX6_readSignGoal_47 : decode cX6_readSignGoal 47 = .ok (.iconst 1, 1) := by decide +kernel
theorem dX6_readSignGoal_48 : decode cX6_readSignGoal 48 = .ok (.aload_n 1, 1) := by decide +kernel
theorem dX6_readSignGoal_49 : decode cX6_readSignGoal 49 = .ok (.getfield 113, 3) := by decide +kernel
theorem dX6_readSignGoal_52 : decode cX6_readSignGoal 52 = .ok (.ishl, 1) := by decide +kernel
theorem dX6_readSignGoal_53 : decode cX6_readSignGoal 53 = .ok (.istore_n 3, 1) := by decide +kernel
theorem dX6_readSignGoal_54 : decode cX6_readSignGoal 54 = .ok (.aload_n 0, 1) := by decide +kernel
theorem dX6_readSignGoal_55 : decode cX6_readSignGoal 55 = .ok (.getfield 36, 3) := by decide +kernel
theorem dX6_readSignGoal_58 : decode cX6_readSignGoal 58 = .ok (.iload_n 3, 1) := by decide +kernel
theorem dX6_readSignGoal_59 : decode cX6_readSignGoal 59 = .ok (.iand, 1) := by decide +kernel
theorem dX6_readSignGoal_60 : decode cX6_readSignGoal 60 = .ok (.ifCond .eq 8, 3) := by decide +kernel
theorem dX6_readSignGoal_63 : decode cX6_readSignGoal 63 = .ok (.aload_n 0, 1) := by decide +kernel
theorem dX6_readSignGoal_64 : decode cX6_readSignGoal 64 = .ok (.iload_n 2, 1) := by decide +kernel
theorem dX6_readSignGoal_65 : decode cX6_readSignGoal 65 = .ok (.invokevirtual 60, 3) := by decide +kernel
theorem dX6_readSignGoal_68 : decode cX6_readSignGoal 68 = .ok (.aload_n 0, 1) := by decide +kernel
theorem dX6_readSignGoal_69 : decode cX6_readSignGoal 69 = .ok (.dup, 1) := by decide +kernel
theorem dX6_readSignGoal_70 : decode cX6_readSignGoal 70 = .ok (.getfield 33, 3) := by decide +kernel
theorem dX6_readSignGoal_73 : decode cX6_readSignGoal 73 = .ok (.iconst 1, 1) := by decide +kernel
theorem dX6_readSignGoal_74 : decode cX6_readSignGoal 74 = .ok (.iadd, 1) := by decide +kernel
theorem dX6_readSignGoal_75 : decode cX6_readSignGoal 75 = .ok (.putfield 33, 3) := by decide +kernel
theorem dX6_readSignGoal_78 : decode cX6_readSignGoal 78 = .ok (.aload_n 0, 1) := by decide +kernel
theorem dX6_readSignGoal_79 : decode cX6_readSignGoal 79 = .ok (.aload_n 1, 1) := by decide +kernel
theorem dX6_readSignGoal_80 : decode cX6_readSignGoal 80 = .ok (.iconst 0, 1) := by decide +kernel
theorem dX6_readSignGoal_81 : decode cX6_readSignGoal 81 = .ok (.invokevirtual 116, 3) := by decide +kernel
theorem dX6_readSignGoal_84 : decode cX6_readSignGoal 84 = .ok (.aload_n 0, 1) := by decide +kernel
theorem dX6_readSignGoal_85 : decode cX6_readSignGoal 85 = .ok (.invokevirtual 39, 3) := by decide +kernel
theorem dX6_readSignGoal_88 : decode cX6_readSignGoal 88 = .ok (.aload_n 1, 1) := by decide +kernel
theorem dX6_readSignGoal_89 : decode cX6_readSignGoal 89 = .ok (.aload_n 0, 1) := by decide +kernel
theorem dX6_readSignGoal_90 : decode cX6_readSignGoal 90 = .ok (.bipush 43, 2) := by decide +kernel
theorem dX6_readSignGoal_92 : decode cX6_readSignGoal 92 = .ok (.bipush 45, 2) := by decide +kernel
theorem dX6_readSignGoal_94 : decode cX6_readSignGoal 94 = .ok (.bipush 42, 2) := by decide +kernel
theorem dX6_readSignGoal_96 : decode cX6_readSignGoal 96 = .ok (.invokevirtual 120, 3) := by decide +kernel
theorem dX6_readSignGoal_99 : decode cX6_readSignGoal 99 = .ok (.putfield 63, 3) := by decide +kernel
theorem dX6_readSignGoal_102 : decode cX6_readSignGoal 102 = .ok (.goto 24, 3) := by decide +kernel
theorem dX6_readSignGoal_105 : decode cX6_readSignGoal 105 = .ok (.aload_n 1, 1) := by decide +kernel
theorem dX6_readSignGoal_106 : decode cX6_readSignGoal 106 = .ok (.aload_n 0, 1) := by decide +kernel
theorem dX6_readSignGoal_107 : decode cX6_readSignGoal 107 = .ok (.bipush 60, 2) := by decide +kernel
theorem dX6_readSignGoal_109 : decode cX6_readSignGoal 109 = .ok (.bipush 61, 2) := by decide +kernel
theorem dX6_readSignGoal_111 : decode cX6_readSignGoal 111 = .ok (.bipush 35, 2) := by decide +kernel
theorem dX6_readSignGoal_113 : decode cX6_readSignGoal 113 = .ok (.invokevirtual 120, 3) := by decide +kernel
theorem dX6_readSignGoal_116 : decode cX6_readSignGoal 116 = .ok (.putfield 63, 3) := by decide +kernel
theorem dX6_readSignGoal_119 : decode cX6_readSignGoal 119 = .ok (.aload_n 0, 1) := by decide +kernel
theorem dX6_readSignGoal_120 : decode cX6_readSignGoal 120 = .ok (.aload_n 1, 1) := by decide +kernel
theorem dX6_readSignGoal_121 : decode cX6_readSignGoal 121 = .ok (.iconst 0, 1) := by decide +kernel
theorem dX6_readSignGoal_122 : decode cX6_readSignGoal 122 = .ok (.iload_n 2, 1) := by decide +kernel
theorem dX6_readSignGoal_123 : decode cX6_readSignGoal 123 = .ok (.invokevirtual 124, 3) := by decide +kernel
theorem dX6_readSignGoal_126 : decode cX6_readSignGoal 126 = .ok (.aload_n 0, 1) := by decide +kernel
theorem dX6_readSignGoal_127 : decode cX6_readSignGoal 127 = .ok (.aload_n 1, 1) := by decide +kernel
theorem dX6_readSignGoal_128 : decode cX6_readSignGoal 128 = .ok (.iconst 1, 1) := by decide +kernel
theorem dX6_readSignGoal_129 : decode cX6_readSignGoal 129 = .ok (.invokevirtual 116, 3) := by decide +kernel
theorem dX6_readSignGoal_132 : decode cX6_readSignGoal 132 = .ok (.aload_n 0, 1) := by decide +kernel
theorem dX6_readSignGoal_133 : decode cX6_readSignGoal 133 = .ok (.dup, 1) := by decide +kernel
theorem dX6_readSignGoal_134 : decode cX6_readSignGoal 134 = .ok (.getfield 36, 3) := by decide +kernel
theorem dX6_readSignGoal_137 : decode cX6_readSignGoal 137 = .ok (.iload_n 3, 1) := by decide +kernel
theorem dX6_readSignGoal_138 : decode cX6_readSignGoal 138 = .ok (.ior, 1) := by decide +kernel
theorem dX6_readSignGoal_139 : decode cX6_readSignGoal 139 = .ok (.putfield 36, 3) := by decide +kernel
theorem dX6_readSignGoal_142 : decode cX6_readSignGoal 142 = .ok (.return_, 1) := by decide +kernel
theorem i9wsX6_readSignGoal_0 : ∀ w ∈ wsX6_readSignGoal_r1, w ∈ wsX6_readSignGoal := fun _ h => (List.mem_cons_of_mem _ (List.mem_append_left _ (List.mem_append_left _ (List.mem_append_left _ (List.mem_append_left _ h)))))
theorem i9wsX6_readSignGoal_1 : ∀ w ∈ wsX6_readSignGoal_r2, w ∈ wsX6_readSignGoal := fun _ h => (List.mem_cons_of_mem _ (List.mem_append_left _ (List.mem_append_left _ (List.mem_append_left _ (List.mem_append_right _ (List.mem_append_left _ h))))))
theorem i9wsX6_readSignGoal_4 : ∀ w ∈ wsX20, w ∈ wsX6_readSignGoal := fun _ h => (List.mem_cons_of_mem _ (List.mem_append_left _ (List.mem_append_right _ h)))
theorem i9wsX6_readSignGoal_3 : ∀ w ∈ wsX60, w ∈ wsX6_readSignGoal := fun _ h => (List.mem_cons_of_mem _ (List.mem_append_left _ (List.mem_append_left _ (List.mem_append_right _ h))))
theorem i9wsX6_readSignGoal_5 : ∀ w ∈ ((vx_atS RX6 135 "java/lang/UnsupportedOperationException" ["java/lang/RuntimeException", "java/lang/Exception"]).filter goodWord), w ∈ wsX6_readSignGoal := fun _ h => (List.mem_cons_of_mem _ (List.mem_append_right _ h))
set_option maxRecDepth 20000 in
theorem ggX6_readSignGoal_X6_readArg : GoodIn wsX6_readSignGoal wsX6_readArg := (gin_c (mem_at i9wsX6_readSignGoal_0 10 rfl) rfl (goodIn_app (goodIn_app (goodIn_app (goodIn_app (gin_c (mem_at i9wsX6_readSignGoal_0 1 rfl) rfl (gin_c (mem_at i9wsX6_readSignGoal_0 2 rfl) rfl (gin_c (mem_at i9wsX6_readSignGoal_0 0 rfl) rfl (gin_c (mem_at i9wsX6_readSignGoal_0 11 rfl) rfl (gin_c (mem_at i9wsX6_readSignGoal_0 12 rfl) rfl (gin_c (mem_at i9wsX6_readSignGoal_0 13 rfl) rfl (gin_c (mem_at i9wsX6_readSignGoal_0 9 rfl) rfl (gin_c (mem_at i9wsX6_readSignGoal_0 14 rfl) rfl (gin_c (mem_at i9wsX6_readSignGoal_0 15 rfl) rfl (gin_c (mem_at i9wsX6_readSignGoal_0 16 rfl) rfl (gin_c (mem_at i9wsX6_readSignGoal_0 17 rfl) rfl (gin_c (mem_at i9wsX6_readSignGoal_0 18 rfl) rfl (gin_c (mem_at i9wsX6_readSignGoal_0 19 rfl) rfl (gin_c (mem_at i9wsX6_readSignGoal_0 20 rfl) rfl (gin_c (mem_at i9wsX6_readSignGoal_0 21 rfl) rfl (gin_c (mem_at i9wsX6_readSignGoal_0 22 rfl) rfl (gin_c (mem_at i9wsX6_readSignGoal_0 23 rfl) rfl (gin_c (mem_at i9wsX6_readSignGoal_1 0 rfl) rfl (gin_c (mem_at i9wsX6_readSignGoal_1 1 rfl) rfl (gin_c (mem_at i9wsX6_readSignGoal_1 2 rfl) rfl (gin_c (mem_at i9wsX6_readSignGoal_1 3 rfl) rfl (gin_c (mem_at i9wsX6_readSignGoal_1 4 rfl) rfl (gin_c (mem_at i9wsX6_readSignGoal_1 5 rfl) rfl (gin_c (mem_at i9wsX6_readSignGoal_1 6 rfl) rfl gin_n)))))))))))))))))))))))) (gin_c (mem_at i9wsX6_readSignGoal_1 7 rfl) rfl gin_n)) (goodIn_sub i9wsX6_readSignGoal_4 g9_6)) (goodIn_sub i9wsX6_readSignGoal_3 g9_7)) (goodIn_sub i9wsX6_readSignGoal_5 g9_8)))
set_option maxRecDepth 20000 in
theorem gX6_readSignGoal_X6_readArg : GoodIn wsX6_readSignGoal (wsV RX6 82 RX6 yX6_readArg wsX6_readArg) := goodIn_app (gin_c (mem_at i9wsX6_readSignGoal_0 6 rfl) rfl (gin_c (mem_at i9wsX6_readSignGoal_0 7 rfl) rfl (gin_c (mem_at i9wsX6_readSignGoal_0 8 rfl) rfl (gin_c (mem_at i9wsX6_readSignGoal_0 9 rfl) rfl gin_n)))) ggX6_readSignGoal_X6_readArg
set_option maxRecDepth 20000 in
theorem ggX6_readSignGoal_X6_skipBlanks : GoodIn wsX6_readSignGoal wsX6_skipBlanks := (gin_c (mem_at i9wsX6_readSignGoal_1 11 rfl) rfl (goodIn_app (gin_c (mem_at i9wsX6_readSignGoal_0 0 rfl) rfl (gin_c (mem_at i9wsX6_readSignGoal_0 15 rfl) rfl (gin_c (mem_at i9wsX6_readSignGoal_0 11 rfl) rfl (gin_c (mem_at i9wsX6_readSignGoal_0 12 rfl) rfl (gin_c (mem_at i9wsX6_readSignGoal_0 13 rfl) rfl (gin_c (mem_at i9wsX6_readSignGoal_0 9 rfl) rfl (gin_c (mem_at i9wsX6_readSignGoal_0 14 rfl) rfl (gin_c (mem_at i9wsX6_readSignGoal_0 16 rfl) rfl gin_n)))))))) (goodIn_sub i9wsX6_readSignGoal_3 g9_7)))
set_option maxRecDepth 20000 in
theorem gX6_readSignGoal_X6_skipBlanks : GoodIn wsX6_readSignGoal (wsV RX6 39 RX6 yX6_skipBlanks wsX6_skipBlanks) := goodIn_app (gin_c (mem_at i9wsX6_readSignGoal_1 8 rfl) rfl (gin_c (mem_at i9wsX6_readSignGoal_1 9 rfl) rfl (gin_c (mem_at i9wsX6_readSignGoal_1 10 rfl) rfl (gin_c (mem_at i9wsX6_readSignGoal_0 9 rfl) rfl gin_n)))) ggX6_readSignGoal_X6_skipBlanks
set_option maxRecDepth 20000 in
theorem ggX6_readSignGoal_X6_here : GoodIn wsX6_readSignGoal wsX6_here := (gin_c (mem_at i9wsX6_readSignGoal_0 14 rfl) rfl (goodIn_app (gin_c (mem_at i9wsX6_readSignGoal_0 0 rfl) rfl (gin_c (mem_at i9wsX6_readSignGoal_0 15 rfl) rfl (gin_c (mem_at i9wsX6_readSignGoal_0 16 rfl) rfl gin_n))) (goodIn_sub i9wsX6_readSignGoal_3 g9_7)))
set_option maxRecDepth 20000 in
theorem gX6_readSignGoal_X6_here : GoodIn wsX6_readSignGoal (wsV RX6 42 RX6 yX6_here wsX6_here) := goodIn_app (gin_c (mem_at i9wsX6_readSignGoal_0 11 rfl) rfl (gin_c (mem_at i9wsX6_readSignGoal_0 12 rfl) rfl (gin_c (mem_at i9wsX6_readSignGoal_0 13 rfl) rfl (gin_c (mem_at i9wsX6_readSignGoal_0 9 rfl) rfl gin_n)))) ggX6_readSignGoal_X6_here
set_option maxRecDepth 20000 in
theorem ggX6_readSignGoal_X6_refuse : GoodIn wsX6_readSignGoal wsX6_refuse := (gin_c (mem_at i9wsX6_readSignGoal_1 4 rfl) rfl (goodIn_app (goodIn_app (gin_c (mem_at i9wsX6_readSignGoal_1 5 rfl) rfl (gin_c (mem_at i9wsX6_readSignGoal_1 6 rfl) rfl (gin_c (mem_at i9wsX6_readSignGoal_1 7 rfl) rfl gin_n))) (goodIn_sub i9wsX6_readSignGoal_3 g9_7)) (goodIn_sub i9wsX6_readSignGoal_5 g9_8)))
set_option maxRecDepth 20000 in
theorem gX6_readSignGoal_X6_refuse : GoodIn wsX6_readSignGoal (wsV RX6 60 RX6 yX6_refuse wsX6_refuse) := goodIn_app (gin_c (mem_at i9wsX6_readSignGoal_1 1 rfl) rfl (gin_c (mem_at i9wsX6_readSignGoal_1 2 rfl) rfl (gin_c (mem_at i9wsX6_readSignGoal_1 3 rfl) rfl (gin_c (mem_at i9wsX6_readSignGoal_0 9 rfl) rfl gin_n)))) ggX6_readSignGoal_X6_refuse
set_option maxRecDepth 20000 in
theorem ggX6_readSignGoal_X6_readKnownArg : GoodIn wsX6_readSignGoal wsX6_readKnownArg := (gin_c (mem_at i9wsX6_readSignGoal_1 15 rfl) rfl (goodIn_app (goodIn_app (goodIn_app (goodIn_app (gin_c (mem_at i9wsX6_readSignGoal_0 0 rfl) rfl (gin_c (mem_at i9wsX6_readSignGoal_1 8 rfl) rfl (gin_c (mem_at i9wsX6_readSignGoal_1 9 rfl) rfl (gin_c (mem_at i9wsX6_readSignGoal_1 10 rfl) rfl (gin_c (mem_at i9wsX6_readSignGoal_0 9 rfl) rfl (gin_c (mem_at i9wsX6_readSignGoal_1 11 rfl) rfl (gin_c (mem_at i9wsX6_readSignGoal_0 15 rfl) rfl (gin_c (mem_at i9wsX6_readSignGoal_0 11 rfl) rfl (gin_c (mem_at i9wsX6_readSignGoal_0 12 rfl) rfl (gin_c (mem_at i9wsX6_readSignGoal_0 13 rfl) rfl (gin_c (mem_at i9wsX6_readSignGoal_0 14 rfl) rfl (gin_c (mem_at i9wsX6_readSignGoal_0 16 rfl) rfl (gin_c (mem_at i9wsX6_readSignGoal_0 6 rfl) rfl (gin_c (mem_at i9wsX6_readSignGoal_0 7 rfl) rfl (gin_c (mem_at i9wsX6_readSignGoal_0 8 rfl) rfl (gin_c (mem_at i9wsX6_readSignGoal_0 10 rfl) rfl (gin_c (mem_at i9wsX6_readSignGoal_0 1 rfl) rfl (gin_c (mem_at i9wsX6_readSignGoal_0 2 rfl) rfl (gin_c (mem_at i9wsX6_readSignGoal_0 17 rfl) rfl (gin_c (mem_at i9wsX6_readSignGoal_0 18 rfl) rfl (gin_c (mem_at i9wsX6_readSignGoal_0 19 rfl) rfl (gin_c (mem_at i9wsX6_readSignGoal_0 20 rfl) rfl (gin_c (mem_at i9wsX6_readSignGoal_0 21 rfl) rfl (gin_c (mem_at i9wsX6_readSignGoal_0 22 rfl) rfl gin_n)))))))))))))))))))))))) (gin_c (mem_at i9wsX6_readSignGoal_0 23 rfl) rfl (gin_c (mem_at i9wsX6_readSignGoal_1 0 rfl) rfl (gin_c (mem_at i9wsX6_readSignGoal_1 1 rfl) rfl (gin_c (mem_at i9wsX6_readSignGoal_1 2 rfl) rfl (gin_c (mem_at i9wsX6_readSignGoal_1 3 rfl) rfl (gin_c (mem_at i9wsX6_readSignGoal_1 4 rfl) rfl (gin_c (mem_at i9wsX6_readSignGoal_1 5 rfl) rfl (gin_c (mem_at i9wsX6_readSignGoal_1 6 rfl) rfl (gin_c (mem_at i9wsX6_readSignGoal_1 7 rfl) rfl (gin_c (mem_at i9wsX6_readSignGoal_1 16 rfl) rfl (gin_c (mem_at i9wsX6_readSignGoal_1 17 rfl) rfl (gin_c (mem_at i9wsX6_readSignGoal_1 18 rfl) rfl (gin_c (mem_at i9wsX6_readSignGoal_1 19 rfl) rfl (gin_c (mem_at i9wsX6_readSignGoal_0 4 rfl) rfl (gin_c (mem_at i9wsX6_readSignGoal_1 20 rfl) rfl (gin_c (mem_at i9wsX6_readSignGoal_1 21 rfl) rfl (gin_c (mem_at i9wsX6_readSignGoal_1 22 rfl) rfl gin_n)))))))))))))))))) (goodIn_sub i9wsX6_readSignGoal_3 g9_7)) (goodIn_sub i9wsX6_readSignGoal_4 g9_6)) (goodIn_sub i9wsX6_readSignGoal_5 g9_8)))
set_option maxRecDepth 20000 in
theorem gX6_readSignGoal_X6_readKnownArg : GoodIn wsX6_readSignGoal (wsV RX6 116 RX6 yX6_readKnownArg wsX6_readKnownArg) := goodIn_app (gin_c (mem_at i9wsX6_readSignGoal_1 12 rfl) rfl (gin_c (mem_at i9wsX6_readSignGoal_1 13 rfl) rfl (gin_c (mem_at i9wsX6_readSignGoal_1 14 rfl) rfl (gin_c (mem_at i9wsX6_readSignGoal_0 9 rfl) rfl gin_n)))) ggX6_readSignGoal_X6_readKnownArg
theorem i9wsX6_readSignGoal_2 : ∀ w ∈ wsX6_readSignGoal_r3, w ∈ wsX6_readSignGoal := fun _ h => (List.mem_cons_of_mem _ (List.mem_append_left _ (List.mem_append_left _ (List.mem_append_left _ (List.mem_append_right _ (List.mem_append_right _ h))))))
set_option maxRecDepth 20000 in
theorem ggX6_readSignGoal_X6_readSign : GoodIn wsX6_readSignGoal wsX6_readSign := (gin_c (mem_at i9wsX6_readSignGoal_2 2 rfl) rfl (goodIn_app (goodIn_app (gin_c (mem_at i9wsX6_readSignGoal_0 0 rfl) rfl (gin_c (mem_at i9wsX6_readSignGoal_0 11 rfl) rfl (gin_c (mem_at i9wsX6_readSignGoal_0 12 rfl) rfl (gin_c (mem_at i9wsX6_readSignGoal_0 13 rfl) rfl (gin_c (mem_at i9wsX6_readSignGoal_0 9 rfl) rfl (gin_c (mem_at i9wsX6_readSignGoal_0 14 rfl) rfl (gin_c (mem_at i9wsX6_readSignGoal_0 15 rfl) rfl (gin_c (mem_at i9wsX6_readSignGoal_0 16 rfl) rfl (gin_c (mem_at i9wsX6_readSignGoal_1 1 rfl) rfl (gin_c (mem_at i9wsX6_readSignGoal_1 2 rfl) rfl (gin_c (mem_at i9wsX6_readSignGoal_1 3 rfl) rfl (gin_c (mem_at i9wsX6_readSignGoal_1 4 rfl) rfl (gin_c (mem_at i9wsX6_readSignGoal_1 5 rfl) rfl (gin_c (mem_at i9wsX6_readSignGoal_1 6 rfl) rfl (gin_c (mem_at i9wsX6_readSignGoal_1 7 rfl) rfl gin_n))))))))))))))) (goodIn_sub i9wsX6_readSignGoal_3 g9_7)) (goodIn_sub i9wsX6_readSignGoal_5 g9_8)))
set_option maxRecDepth 20000 in
theorem gX6_readSignGoal_X6_readSign : GoodIn wsX6_readSignGoal (wsV RX6 120 RX6 yX6_readSign wsX6_readSign) := goodIn_app (gin_c (mem_at i9wsX6_readSignGoal_1 23 rfl) rfl (gin_c (mem_at i9wsX6_readSignGoal_2 0 rfl) rfl (gin_c (mem_at i9wsX6_readSignGoal_2 1 rfl) rfl (gin_c (mem_at i9wsX6_readSignGoal_0 9 rfl) rfl gin_n)))) ggX6_readSignGoal_X6_readSign
set_option maxRecDepth 20000 in
theorem ggX6_readSignGoal_X6_requireKnown : GoodIn wsX6_readSignGoal wsX6_requireKnown := (gin_c (mem_at i9wsX6_readSignGoal_1 19 rfl) rfl (goodIn_app (goodIn_app (goodIn_app (gin_c (mem_at i9wsX6_readSignGoal_0 1 rfl) rfl (gin_c (mem_at i9wsX6_readSignGoal_0 4 rfl) rfl (gin_c (mem_at i9wsX6_readSignGoal_0 2 rfl) rfl (gin_c (mem_at i9wsX6_readSignGoal_1 20 rfl) rfl (gin_c (mem_at i9wsX6_readSignGoal_1 21 rfl) rfl (gin_c (mem_at i9wsX6_readSignGoal_1 22 rfl) rfl (gin_c (mem_at i9wsX6_readSignGoal_1 1 rfl) rfl (gin_c (mem_at i9wsX6_readSignGoal_1 2 rfl) rfl (gin_c (mem_at i9wsX6_readSignGoal_1 3 rfl) rfl (gin_c (mem_at i9wsX6_readSignGoal_0 9 rfl) rfl (gin_c (mem_at i9wsX6_readSignGoal_1 4 rfl) rfl (gin_c (mem_at i9wsX6_readSignGoal_1 5 rfl) rfl (gin_c (mem_at i9wsX6_readSignGoal_1 6 rfl) rfl (gin_c (mem_at i9wsX6_readSignGoal_1 7 rfl) rfl gin_n)))))))))))))) (goodIn_sub i9wsX6_readSignGoal_4 g9_6)) (goodIn_sub i9wsX6_readSignGoal_3 g9_7)) (goodIn_sub i9wsX6_readSignGoal_5 g9_8)))
set_option maxRecDepth 20000 in
theorem gX6_readSignGoal_X6_requireKnown : GoodIn wsX6_readSignGoal (wsV RX6 124 RX6 yX6_requireKnown wsX6_requireKnown) := goodIn_app (gin_c (mem_at i9wsX6_readSignGoal_1 16 rfl) rfl (gin_c (mem_at i9wsX6_readSignGoal_1 17 rfl) rfl (gin_c (mem_at i9wsX6_readSignGoal_1 18 rfl) rfl (gin_c (mem_at i9wsX6_readSignGoal_0 9 rfl) rfl gin_n)))) ggX6_readSignGoal_X6_requireKnown
set_option maxHeartbeats 4000000 in
set_option maxRecDepth 100000 in
theorem T_X6_readSignGoal (l : Launch) (hl : l.stackTraces = false) (D : va_G) (cA : Nat → ClassId) {l0 : Option Nat} {l1 : Option Nat} {x : HS} {Q : HS → Prop} {X : String → HS → Prop} (h : w_X6_readSignGoal l0 l1 x Q X) : YV l yX6_readSignGoal wsX6_readSignGoal 10 182 D cA [.q l0, .q l1] x Q X := by
  refine YV.of (cc := cX6_readSignGoal) (maxL := 4) (ret := none) hl (by decide) rfl rfl (fun g B fr => ?_)
  have o := B.o
  have hb := B.hb
  have hts := B.hts
  have hown : g.s.vm.findClass RX6 = some g.m.cls := B.hown
  have in2 : ∀ w ∈ u_ws RX2 TX2 6, w ∈ wsX6_readSignGoal := fun w h => (List.mem_cons_of_mem _ (List.mem_append_left _ (List.mem_append_right _ h)))
  have in6 : ∀ w ∈ u_ws RX6 TX6 8, w ∈ wsX6_readSignGoal := fun w h => (List.mem_cons_of_mem _ (List.mem_append_left _ (List.mem_append_left _ (List.mem_append_right _ h))))
  unfold w_X6_readSignGoal at h
  show KW g 4 0 [(0, .q l0), (1, .q l1)] [] x
  refine k_aload_n o hb dX6_readSignGoal_0 rfl 0 rfl ?_
  refine k_getI (C := RX6) (T := TX6) (N := 8) o hb hts in6 hown rfl (by decide) 6 (by decide) rfl (hts (.fieldLink RX6 33 "FactKeeper$Reader" "at" "I") (by decide +kernel)) (fun _ h9 => h9) dX6_readSignGoal_1 h (fun v1 h => ?_)
  refine k_istore_n o hb dX6_readSignGoal_4 rfl rfl ?_
  refine k_iconst (v := 0) o hb dX6_readSignGoal_5 (by decide) ?_
  refine k_istore_n o hb dX6_readSignGoal_6 rfl rfl ?_
  refine k_aload_n o hb dX6_readSignGoal_7 rfl 2 rfl ?_
  refine k_aload_n o hb dX6_readSignGoal_8 rfl 3 rfl ?_
  refine k_iconst (v := 0) o hb dX6_readSignGoal_9 (by decide) ?_
  refine k_iconst (v := 0) o hb dX6_readSignGoal_10 (by decide) ?_
  refine k_run_v o (fun _ _ q => q) (k_runV (ci := 6) (rc := (RX6, TX6, 8)) o hb B.hml hown hts rfl (by decide) (T_X6_readArg g.l o.hl g.D g.cA h.2) (cwV 3 hts gX6_readSignGoal_X6_readArg rfl rfl rfl (by decide +kernel) ⟨yle B.hR1 rfl, yle B.hR2 rfl⟩) h.1 rfl rfl (Nat.le_of_ble_eq_true rfl) dX6_readSignGoal_11) (fun x2 h => ?_)
  refine k_aload_n o hb dX6_readSignGoal_14 rfl 2 rfl ?_
  refine k_run_v o (fun _ _ q => q) (k_runV (ci := 6) (rc := (RX6, TX6, 8)) o hb B.hml hown hts rfl (by decide) (T_X6_skipBlanks g.l o.hl g.D g.cA h.2) (cwV 0 hts gX6_readSignGoal_X6_skipBlanks rfl rfl rfl (by decide +kernel) ⟨yle B.hR1 rfl, yle B.hR2 rfl⟩) h.1 rfl rfl (Nat.le_of_ble_eq_true rfl) dX6_readSignGoal_15) (fun x4 h => ?_)
  refine k_aload_n o hb dX6_readSignGoal_18 rfl 2 rfl ?_
  refine k_run_i o (fun _ _ q => q) (k_runV (ci := 6) (rc := (RX6, TX6, 8)) o hb B.hml hown hts rfl (by decide) (T_X6_here g.l o.hl g.D g.cA h.2) (cwV 0 hts gX6_readSignGoal_X6_here rfl rfl rfl (by decide +kernel) ⟨yle B.hR1 rfl, yle B.hR2 rfl⟩) h.1 rfl rfl (Nat.le_of_ble_eq_true rfl) dX6_readSignGoal_19) (fun v7 x6 h => ?_)
  refine k_bipush (v := 58) o hb dX6_readSignGoal_22 (by decide) ?_
  refine wJoin_elim (M := fun K => ∀ (v10 : Int32) (x9 : HS), K v10 x9 → KW g 4 126 [(0, .q l0), (1, .q l1), (3, .i v10)] [] x9) h ?_ (fun j8 hj8 h => ?_)
  · skip
    intro v10 x9 h
    refine k_aload_n o hb dX6_readSignGoal_126 rfl 0 rfl ?_
    refine k_aload_n o hb dX6_readSignGoal_127 rfl 1 rfl ?_
    refine k_iconst (v := 1) o hb dX6_readSignGoal_128 (by decide) ?_
    refine k_run_v o (fun _ _ q => q) (k_runV (ci := 6) (rc := (RX6, TX6, 8)) o hb B.hml hown hts rfl (by decide) (T_X6_readKnownArg g.l o.hl g.D g.cA h.2) (cwV 2 hts gX6_readSignGoal_X6_readKnownArg rfl rfl rfl (by decide +kernel) ⟨yle B.hR1 rfl, yle B.hR2 rfl⟩) h.1 rfl rfl (Nat.le_of_ble_eq_true rfl) dX6_readSignGoal_129) (fun x11 h => ?_)
    refine k_aload_n o hb dX6_readSignGoal_132 rfl 0 rfl ?_
    refine k_dup o hb dX6_readSignGoal_133 ?_
    refine k_getI (C := RX6) (T := TX6) (N := 8) o hb hts in6 hown rfl (by decide) 2 (by decide) rfl (hts (.fieldLink RX6 36 "FactKeeper$Reader" "known" "I") (by decide +kernel)) (fun _ h9 => h9) dX6_readSignGoal_134 h (fun v13 h => ?_)
    refine k_iload_n o hb dX6_readSignGoal_137 rfl 2 rfl ?_
    refine k_ior o hb dX6_readSignGoal_138 ?_
    refine k_putI (C := RX6) (T := TX6) (N := 8) (ty := .int) o hb hts in6 tyX6 tyX6_ok nmX6 hown rfl (by decide) 2 (by decide) rfl (hts (.fieldLink RX6 36 "FactKeeper$Reader" "known" "I") (by decide +kernel)) (fun _ h9 => h9) rfl (by decide +kernel) (fun _ => rfl) (fun _ => rfl) dX6_readSignGoal_139 h (fun x14 h => ?_)
    exact k_vret o hb B.hr fr dX6_readSignGoal_142 h
  · skip
    refine wJoin_elim (M := fun K => ∀  (x16 : HS), K  x16 → KW g 4 105 [(0, .q l0), (1, .q l1), (2, .i v1), (3, .i 0)] [] x16) h ?_ (fun j15 hj15 h => ?_)
    · skip
      intro  x16 h
      refine k_aload_n o hb dX6_readSignGoal_105 rfl 1 rfl ?_
      refine k_aload_n o hb dX6_readSignGoal_106 rfl 0 rfl ?_
      refine k_bipush (v := 60) o hb dX6_readSignGoal_107 (by decide) ?_
      refine k_bipush (v := 61) o hb dX6_readSignGoal_109 (by decide) ?_
      refine k_bipush (v := 35) o hb dX6_readSignGoal_111 (by decide) ?_
      refine k_run_i o (fun _ _ q => q) (k_runV (ci := 6) (rc := (RX6, TX6, 8)) o hb B.hml hown hts rfl (by decide) (T_X6_readSign g.l o.hl g.D g.cA h.2) (cwV 3 hts gX6_readSignGoal_X6_readSign rfl rfl rfl (by decide +kernel) ⟨yle B.hR1 rfl, yle B.hR2 rfl⟩) h.1 rfl rfl (Nat.le_of_ble_eq_true rfl) dX6_readSignGoal_113) (fun v18 x17 h => ?_)
      refine k_putI (C := RX2) (T := TX2) (N := 6) (ty := .int) o hb hts in2 tyX2 tyX2_ok nmX2 hown rfl (by decide) 2 (by decide) rfl (hts (.fieldLink RX6 63 "FactKeeper$Goal" "sign" "I") (by decide +kernel)) (fun _ h9 => h9) rfl (by decide +kernel) (fun _ => rfl) (fun _ => rfl) dX6_readSignGoal_116 h (fun x19 h => ?_)
      refine k_aload_n o hb dX6_readSignGoal_119 rfl 0 rfl ?_
      refine k_aload_n o hb dX6_readSignGoal_120 rfl 1 rfl ?_
      refine k_iconst (v := 0) o hb dX6_readSignGoal_121 (by decide) ?_
      refine k_iload_n o hb dX6_readSignGoal_122 rfl 2 rfl ?_
      refine k_run_v o (fun _ _ q => q) (k_runV (ci := 6) (rc := (RX6, TX6, 8)) o hb B.hml hown hts rfl (by decide) (T_X6_requireKnown g.l o.hl g.D g.cA h.2) (cwV 3 hts gX6_readSignGoal_X6_requireKnown rfl rfl rfl (by decide +kernel) ⟨yle B.hR1 rfl, yle B.hR2 rfl⟩) h.1 rfl rfl (Nat.le_of_ble_eq_true rfl) dX6_readSignGoal_123) (fun x20 h => ?_)
      exact KW.sub [0, 1, 3] rfl (hj8 0 x20 h)
    · skip
      refine k_icmp_ne (tgt := 105) o hb dX6_readSignGoal_24 (by decide) h (fun h => ?_) (fun h => ?_)
      · skip
        refine k_aload_n o hb dX6_readSignGoal_27 rfl 3 rfl ?_
        refine k_getF (C := RX2) (T := TX2) (N := 6) o hb hts in2 hown rfl (by decide) 0 (by decide) rfl (hts (.fieldLink RX6 102 "FactKeeper$Goal" "kinds" "[I") (by decide +kernel)) (fun _ h9 => h9) dX6_readSignGoal_28 h (fun v22 h => ?_)
        refine k_iconst (v := 0) o hb dX6_readSignGoal_31 (by decide) ?_
        refine k_iald o hb dX6_readSignGoal_32 h (fun v23 h => ?_)
        refine k_iconst (v := 2) o hb dX6_readSignGoal_33 (by decide) ?_
        refine k_icmp_ne (tgt := 105) o hb dX6_readSignGoal_34 (by decide) h (fun h => ?_) (fun h => ?_)
        · skip
          refine k_aload_n o hb dX6_readSignGoal_37 rfl 3 rfl ?_
          refine k_aload_n o hb dX6_readSignGoal_38 rfl 3 rfl ?_
          refine k_getF (C := RX2) (T := TX2) (N := 6) o hb hts in2 hown rfl (by decide) 1 (by decide) rfl (hts (.fieldLink RX6 106 "FactKeeper$Goal" "args" "[I") (by decide +kernel)) (fun _ h9 => h9) dX6_readSignGoal_39 h (fun v24 h => ?_)
          refine k_iconst (v := 0) o hb dX6_readSignGoal_42 (by decide) ?_
          refine k_iald o hb dX6_readSignGoal_43 h (fun v25 h => ?_)
          refine k_putI (C := RX2) (T := TX2) (N := 6) (ty := .int) o hb hts in2 tyX2 tyX2_ok nmX2 hown rfl (by decide) 5 (by decide) rfl (hts (.fieldLink RX6 113 "FactKeeper$Goal" "target" "I") (by decide +kernel)) (fun _ h9 => h9) rfl (by decide +kernel) (fun _ => rfl) (fun _ => rfl) dX6_readSignGoal_44 h (fun x26 h => ?_)
          refine k_iconst (v := 1) o hb dX6_readSignGoal_47 (by decide) ?_
          refine k_aload_n o hb dX6_readSignGoal_48 rfl 3 rfl ?_
          refine k_getI (C := RX2) (T := TX2) (N := 6) o hb hts in2 hown rfl (by decide) 5 (by decide) rfl (hts (.fieldLink RX6 113 "FactKeeper$Goal" "target" "I") (by decide +kernel)) (fun _ h9 => h9) dX6_readSignGoal_49 h (fun v27 h => ?_)
          refine k_ishl o hb dX6_readSignGoal_52 ?_
          refine k_istore_n o hb dX6_readSignGoal_53 rfl rfl ?_
          refine k_aload_n o hb dX6_readSignGoal_54 rfl 2 rfl ?_
          refine k_getI (C := RX6) (T := TX6) (N := 8) o hb hts in6 hown rfl (by decide) 2 (by decide) rfl (hts (.fieldLink RX6 36 "FactKeeper$Reader" "known" "I") (by decide +kernel)) (fun _ h9 => h9) dX6_readSignGoal_55 h (fun v28 h => ?_)
          refine k_iload_n o hb dX6_readSignGoal_58 rfl 0 rfl ?_
          refine k_iand o hb dX6_readSignGoal_59 ?_
          refine wJoin_elim (M := fun K => ∀  (x30 : HS), K  x30 → KW g 4 68 [(0, .q l0), (1, .q l1), (3, .i ((1 : Int32) <<< (v27 &&& 31)))] [] x30) h ?_ (fun j29 hj29 h => ?_)
          · skip
            intro  x30 h
            refine k_aload_n o hb dX6_readSignGoal_68 rfl 0 rfl ?_
            refine k_dup o hb dX6_readSignGoal_69 ?_
            refine k_getI (C := RX6) (T := TX6) (N := 8) o hb hts in6 hown rfl (by decide) 6 (by decide) rfl (hts (.fieldLink RX6 33 "FactKeeper$Reader" "at" "I") (by decide +kernel)) (fun _ h9 => h9) dX6_readSignGoal_70 h (fun v31 h => ?_)
            refine k_iconst (v := 1) o hb dX6_readSignGoal_73 (by decide) ?_
            refine k_iadd o hb dX6_readSignGoal_74 ?_
            refine k_putI (C := RX6) (T := TX6) (N := 8) (ty := .int) o hb hts in6 tyX6 tyX6_ok nmX6 hown rfl (by decide) 6 (by decide) rfl (hts (.fieldLink RX6 33 "FactKeeper$Reader" "at" "I") (by decide +kernel)) (fun _ h9 => h9) rfl (by decide +kernel) (fun _ => rfl) (fun _ => rfl) dX6_readSignGoal_75 h (fun x32 h => ?_)
            refine k_aload_n o hb dX6_readSignGoal_78 rfl 0 rfl ?_
            refine k_aload_n o hb dX6_readSignGoal_79 rfl 1 rfl ?_
            refine k_iconst (v := 0) o hb dX6_readSignGoal_80 (by decide) ?_
            refine k_run_v o (fun _ _ q => q) (k_runV (ci := 6) (rc := (RX6, TX6, 8)) o hb B.hml hown hts rfl (by decide) (T_X6_readKnownArg g.l o.hl g.D g.cA h.2) (cwV 2 hts gX6_readSignGoal_X6_readKnownArg rfl rfl rfl (by decide +kernel) ⟨yle B.hR1 rfl, yle B.hR2 rfl⟩) h.1 rfl rfl (Nat.le_of_ble_eq_true rfl) dX6_readSignGoal_81) (fun x33 h => ?_)
            refine k_aload_n o hb dX6_readSignGoal_84 rfl 0 rfl ?_
            refine k_run_v o (fun _ _ q => q) (k_runV (ci := 6) (rc := (RX6, TX6, 8)) o hb B.hml hown hts rfl (by decide) (T_X6_skipBlanks g.l o.hl g.D g.cA h.2) (cwV 0 hts gX6_readSignGoal_X6_skipBlanks rfl rfl rfl (by decide +kernel) ⟨yle B.hR1 rfl, yle B.hR2 rfl⟩) h.1 rfl rfl (Nat.le_of_ble_eq_true rfl) dX6_readSignGoal_85) (fun x35 h => ?_)
            refine k_aload_n o hb dX6_readSignGoal_88 rfl 1 rfl ?_
            refine k_aload_n o hb dX6_readSignGoal_89 rfl 0 rfl ?_
            refine k_bipush (v := 43) o hb dX6_readSignGoal_90 (by decide) ?_
            refine k_bipush (v := 45) o hb dX6_readSignGoal_92 (by decide) ?_
            refine k_bipush (v := 42) o hb dX6_readSignGoal_94 (by decide) ?_
            refine k_run_i o (fun _ _ q => q) (k_runV (ci := 6) (rc := (RX6, TX6, 8)) o hb B.hml hown hts rfl (by decide) (T_X6_readSign g.l o.hl g.D g.cA h.2) (cwV 3 hts gX6_readSignGoal_X6_readSign rfl rfl rfl (by decide +kernel) ⟨yle B.hR1 rfl, yle B.hR2 rfl⟩) h.1 rfl rfl (Nat.le_of_ble_eq_true rfl) dX6_readSignGoal_96) (fun v38 x37 h => ?_)
            refine k_putI (C := RX2) (T := TX2) (N := 6) (ty := .int) o hb hts in2 tyX2 tyX2_ok nmX2 hown rfl (by decide) 2 (by decide) rfl (hts (.fieldLink RX6 63 "FactKeeper$Goal" "sign" "I") (by decide +kernel)) (fun _ h9 => h9) rfl (by decide +kernel) (fun _ => rfl) (fun _ => rfl) dX6_readSignGoal_99 h (fun x39 h => ?_)
            refine k_goto (tgt := 126) o hb dX6_readSignGoal_102 (by decide) ?_
            exact KW.sub [0, 1, 2] rfl (hj8 ((1 : Int32) <<< (v27 &&& 31)) x39 h)
          · skip
            refine k_if_eq (tgt := 68) o hb dX6_readSignGoal_60 (by decide) h (fun h => ?_) (fun h => ?_)
            · skip
              exact KW.sub [2, 3, 0] rfl (hj29 x26 h)
            · skip
              refine k_aload_n o hb dX6_readSignGoal_63 rfl 2 rfl ?_
              refine k_iload_n o hb dX6_readSignGoal_64 rfl 1 rfl ?_
              refine k_run_v o (fun _ _ q => q) (k_runV (ci := 6) (rc := (RX6, TX6, 8)) o hb B.hml hown hts rfl (by decide) (T_X6_refuse g.l o.hl g.D g.cA h.2) (cwV 1 hts gX6_readSignGoal_X6_refuse rfl rfl rfl (by decide +kernel) ⟨yle B.hR1 rfl, yle B.hR2 rfl⟩) h.1 rfl rfl (Nat.le_of_ble_eq_true rfl) dX6_readSignGoal_65) (fun x40 h => ?_)
              exact KW.sub [2, 3, 0] rfl (hj29 x40 h)
        · skip
          exact KW.sub [2, 3, 1, 0] rfl (hj15 x6 h)
      · skip
        exact KW.sub [2, 3, 1, 0] rfl (hj15 x6 h)
theorem dX6_readQuestion_0 : decode cX6_readQuestion 0 = .ok (.aload_n 0, 1) := by decide +kernel
theorem dX6_readQuestion_1 : decode cX6_readQuestion 1 = .ok (.aload_n 1, 1) := by decide +kernel
theorem dX6_readQuestion_2 : decode cX6_readQuestion 2 = .ok (.putfield 22, 3) := by decide +kernel
theorem dX6_readQuestion_5 : decode cX6_readQuestion 5 = .ok (.aload_n 0, 1) := by decide +kernel
theorem dX6_readQuestion_6 : decode cX6_readQuestion 6 = .ok (.iload_n 2, 1) := by decide +kernel
theorem dX6_readQuestion_7 : decode cX6_readQuestion 7 = .ok (.putfield 26, 3) := by decide +kernel
theorem dX6_readQuestion_10 : decode cX6_readQuestion 10 = .ok (.aload_n 0, 1) := by decide +kernel
theorem dX6_readQuestion_11 : decode cX6_readQuestion 11 = .ok (.aload_n 3, 1) := by decide +kernel
theorem dX6_readQuestion_12 : decode cX6_readQuestion 12 = .ok (.putfield 29, 3) := by decide +kernel
theorem dX6_readQuestion_15 : decode cX6_readQuestion 15 = .ok (.aload_n 0, 1) := by decide +kernel
theorem dX6_readQuestion_16 : decode cX6_readQuestion 16 = .ok (.iconst 0, 1) := by decide +kernel
theorem dX6_readQuestion_17 : decode cX6_readQuestion 17 = .ok (.putfield 33, 3) := by decide +kernel
theorem dX6_readQuestion_20 : decode cX6_readQuestion 20 = .ok (.aload_n 0, 1) := by decide +kernel
theorem dX6_readQuestion_21 : decode cX6_readQuestion 21 = .ok (.iconst 0, 1) := by decide +kernel
theorem dX6_readQuestion_22 : decode cX6_readQuestion 22 = .ok (.putfield 36, 3) := by decide +kernel
theorem dX6_readQuestion_25 : decode cX6_readQuestion 25 = .ok (.iconst 0, 1) := by decide +kernel
theorem dX6_readQuestion_26 : decode cX6_readQuestion 26 = .ok (.istore 4, 2) := by decide +kernel
theorem dX6_readQuestion_28 : decode cX6_readQuestion 28 = .ok (.iload 4, 2) := by decide +kernel
theorem dX6_readQuestion_30 : decode cX6_readQuestion 30 = .ok (.bipush 10, 2) := by decide +kernel
theorem dX6_readQuestion_32 : decode cX6_readQuestion 32 = .ok (.if_icmp .ge 86, 3) := by decide +kernel
theorem dX6_readQuestion_35 : decode cX6_readQuestion 35 = .ok (.aload_n 0, 1) := by decide +kernel
theorem dX6_readQuestion_36 : decode cX6_readQuestion 36 = .ok (.invokevirtual 39, 3) := by decide +kernel
theorem dX6_readQuestion_39 : decode cX6_readQuestion 39 = .ok (.aload_n 0, 1) := by decide +kernel
theorem dX6_readQuestion_40 : decode cX6_readQuestion 40 = .ok (.invokevirtual 42, 3) := by decide +kernel
theorem dX6_readQuestion_43 : decode cX6_readQuestion 43 = .ok (.bipush 116, 2) := by decide +kernel
theorem dX6_readQuestion_45 : decode cX6_readQuestion 45 = .ok (.if_icmp .eq 12, 3) := by decide +kernel
theorem dX6_readQuestion_48 : decode cX6_readQuestion 48 = .ok (.aload_n 0, 1) := by decide +kernel
theorem dX6_readQuestion_49 : decode cX6_readQuestion 49 = .ok (.invokevirtual 42, 3) := by decide +kernel
theorem dX6_readQuestion_52 : decode cX6_readQuestion 52 = .ok (.bipush 33, 2) := by decide +kernel
theorem dX6_readQuestion_54 : decode cX6_readQuestion 54 = .ok (.if_icmp .ne 17, 3) := by decide +kernel
theorem dX6_readQuestion_57 : decode cX6_readQuestion 57 = .ok (.aload_n 0, 1) := by decide +kernel
theorem dX6_readQuestion_58 : decode cX6_readQuestion 58 = .ok (.aload_n 0, 1) := by decide +kernel
theorem dX6_readQuestion_59 : decode cX6_readQuestion 59 = .ok (.getfield 11, 3) := by decide +kernel
theorem dX6_readQuestion_62 : decode cX6_readQuestion 62 = .ok (.iload 4, 2) := by decide +kernel
theorem dX6_readQuestion_64 : decode cX6_readQuestion 64 = .ok (.aaload, 1) := by decide +kernel
theorem dX6_readQuestion_65 : decode cX6_readQuestion 65 = .ok (.invokevirtual 46, 3) := by decide +kernel
theorem dX6_readQuestion_68 : decode cX6_readQuestion 68 = .ok (.goto 14, 3) := by decide +kernel
theorem dX6_readQuestion_71 : decode cX6_readQuestion 71 = .ok (.aload_n 0, 1) := by decide +kernel
theorem dX6_readQuestion_72 : decode cX6_readQuestion 72 = .ok (.aload_n 0, 1) := by decide +kernel
theorem dX6_readQuestion_73 : decode cX6_readQuestion 73 = .ok (.getfield 11, 3) := by decide +kernel
theorem dX6_readQuestion_76 : decode cX6_readQuestion 76 = .ok (.iload 4, 2) := by decide +kernel
theorem dX6_readQuestion_78 : decode cX6_readQuestion 78 = .ok (.aaload, 1) := by decide +kernel
theorem dX6_readQuestion_79 : decode cX6_readQuestion 79 = .ok (.invokevirtual 50, 3) := by decide +kernel
theorem dX6_readQuestion_82 : decode cX6_readQuestion 82 = .ok (.aload_n 0, 1) := by decide +kernel
theorem dX6_readQuestion_83 : decode cX6_readQuestion 83 = .ok (.iload 4, 2) := by decide +kernel
theorem dX6_readQuestion_85 : decode cX6_readQuestion 85 = .ok (.iconst 1, 1) := by decide +kernel
theorem dX6_readQuestion_86 : decode cX6_readQuestion 86 = .ok (.iadd, 1) := by decide +kernel
theorem dX6_readQuestion_87 : decode cX6_readQuestion 87 = .ok (.putfield 53, 3) := by decide +kernel
theorem dX6_readQuestion_90 : decode cX6_readQuestion 90 = .ok (.aload_n 0, 1) := by decide +kernel
theorem dX6_readQuestion_91 : decode cX6_readQuestion 91 = .ok (.invokevirtual 39, 3) := by decide +kernel
theorem dX6_readQuestion_94 : decode cX6_readQuestion 94 = .ok (.aload_n 0, 1) := by decide +kernel
theorem dX6_readQuestion_95 : decode cX6_readQuestion 95 = .ok (.getfield 33, 3) := by decide +kernel
theorem dX6_readQuestion_98 : decode cX6_readQuestion 98 = .ok (.aload_n 0, 1) := by decide +kernel
theorem dX6_readQuestion_99 : decode cX6_readQuestion 99 = .ok (.getfield 26, 3) := by decide +kernel
theorem dX6_readQuestion_102 : decode cX6_readQuestion 102 = .ok (.if_icmp .lt 4, 3) := by decide +kernel
theorem dX6_readQuestion_105 : decode cX6_readQuestion 105 = .ok (.return_, 1) := by decide +kernel
theorem dX6_readQuestion_106 : decode cX6_readQuestion 106 = .ok (.aload_n 0, 1) := by decide +kernel
theorem dX6_readQuestion_107 : decode cX6_readQuestion 107 = .ok (.bipush 44, 2) := by decide +kernel
theorem dX6_readQuestion_109 : decode cX6_readQuestion 109 = .ok (.invokevirtual 56, 3) := by decide +kernel
theorem dX6_readQuestion_112 : decode cX6_readQuestion 112 = .ok (.iinc 4 1, 3) := by decide +kernel
theorem dX6_readQuestion_115 : decode cX6_readQuestion 115 = .ok (.goto (-87), 3) := by decide +kernel
theorem dX6_readQuestion_118 : decode cX6_readQuestion 118 = .ok (.aload_n 0, 1) := by decide +kernel
theorem dX6_readQuestion_119 : decode cX6_readQuestion 119 = .ok (.invokevirtual 39, 3) := by decide +kernel
theorem dX6_readQuestion_122 : decode cX6_readQuestion 122 = .ok (.aload_n 0, 1) := by decide +kernel
theorem dX6_readQuestion_123 : decode cX6_readQuestion 123 = .ok (.aload_n 0, 1) := by decide +kernel
theorem dX6_readQuestion_124 : decode cX6_readQuestion 124 = .ok (.getfield 33, 3) := by decide +kernel
theorem dX6_readQuestion_127 : decode cX6_readQuestion 127 = .ok (.invokevirtual 60, 3) := by decide +kernel
theorem dX6_readQuestion_130 : decode cX6_readQuestion 130 = .ok (.return_, 1) := by decide +kernel
theorem i9wsX6_readQuestion_0 : ∀ w ∈ wsX6_readQuestion_r1, w ∈ wsX6_readQuestion := fun _ h => (List.mem_cons_of_mem _ (List.mem_append_left _ (List.mem_append_left _ (List.mem_append_left _ (List.mem_append_left _ (List.mem_append_left _ (List.mem_append_left _ h)))))))
theorem i9wsX6_readQuestion_4 : ∀ w ∈ wsX60, w ∈ wsX6_readQuestion := fun _ h => (List.mem_cons_of_mem _ (List.mem_append_left _ (List.mem_append_left _ (List.mem_append_left _ (List.mem_append_left _ (List.mem_append_right _ h))))))
set_option maxRecDepth 20000 in
theorem ggX6_readQuestion_X6_skipBlanks : GoodIn wsX6_readQuestion wsX6_skipBlanks := (gin_c (mem_at i9wsX6_readQuestion_0 11 rfl) rfl (goodIn_app (gin_c (mem_at i9wsX6_readQuestion_0 3 rfl) rfl (gin_c (mem_at i9wsX6_readQuestion_0 1 rfl) rfl (gin_c (mem_at i9wsX6_readQuestion_0 12 rfl) rfl (gin_c (mem_at i9wsX6_readQuestion_0 13 rfl) rfl (gin_c (mem_at i9wsX6_readQuestion_0 14 rfl) rfl (gin_c (mem_at i9wsX6_readQuestion_0 10 rfl) rfl (gin_c (mem_at i9wsX6_readQuestion_0 15 rfl) rfl (gin_c (mem_at i9wsX6_readQuestion_0 0 rfl) rfl gin_n)))))))) (goodIn_sub i9wsX6_readQuestion_4 g9_7)))
set_option maxRecDepth 20000 in
theorem gX6_readQuestion_X6_skipBlanks : GoodIn wsX6_readQuestion (wsV RX6 39 RX6 yX6_skipBlanks wsX6_skipBlanks) := goodIn_app (gin_c (mem_at i9wsX6_readQuestion_0 7 rfl) rfl (gin_c (mem_at i9wsX6_readQuestion_0 8 rfl) rfl (gin_c (mem_at i9wsX6_readQuestion_0 9 rfl) rfl (gin_c (mem_at i9wsX6_readQuestion_0 10 rfl) rfl gin_n)))) ggX6_readQuestion_X6_skipBlanks
set_option maxRecDepth 20000 in
theorem ggX6_readQuestion_X6_here : GoodIn wsX6_readQuestion wsX6_here := (gin_c (mem_at i9wsX6_readQuestion_0 15 rfl) rfl (goodIn_app (gin_c (mem_at i9wsX6_readQuestion_0 3 rfl) rfl (gin_c (mem_at i9wsX6_readQuestion_0 1 rfl) rfl (gin_c (mem_at i9wsX6_readQuestion_0 0 rfl) rfl gin_n))) (goodIn_sub i9wsX6_readQuestion_4 g9_7)))
set_option maxRecDepth 20000 in
theorem gX6_readQuestion_X6_here : GoodIn wsX6_readQuestion (wsV RX6 42 RX6 yX6_here wsX6_here) := goodIn_app (gin_c (mem_at i9wsX6_readQuestion_0 12 rfl) rfl (gin_c (mem_at i9wsX6_readQuestion_0 13 rfl) rfl (gin_c (mem_at i9wsX6_readQuestion_0 14 rfl) rfl (gin_c (mem_at i9wsX6_readQuestion_0 10 rfl) rfl gin_n)))) ggX6_readQuestion_X6_here
theorem i9wsX6_readQuestion_1 : ∀ w ∈ wsX6_readQuestion_r2, w ∈ wsX6_readQuestion := fun _ h => (List.mem_cons_of_mem _ (List.mem_append_left _ (List.mem_append_left _ (List.mem_append_left _ (List.mem_append_left _ (List.mem_append_left _ (List.mem_append_right _ (List.mem_append_left _ h))))))))
theorem i9wsX6_readQuestion_2 : ∀ w ∈ wsX6_readQuestion_r3, w ∈ wsX6_readQuestion := fun _ h => (List.mem_cons_of_mem _ (List.mem_append_left _ (List.mem_append_left _ (List.mem_append_left _ (List.mem_append_left _ (List.mem_append_left _ (List.mem_append_right _ (List.mem_append_right _ (List.mem_append_left _ h)))))))))
theorem i9wsX6_readQuestion_5 : ∀ w ∈ wsX20, w ∈ wsX6_readQuestion := fun _ h => (List.mem_cons_of_mem _ (List.mem_append_left _ (List.mem_append_left _ (List.mem_append_left _ (List.mem_append_right _ h)))))
theorem i9wsX6_readQuestion_6 : ∀ w ∈ wsX100, w ∈ wsX6_readQuestion := fun _ h => (List.mem_cons_of_mem _ (List.mem_append_left _ (List.mem_append_left _ (List.mem_append_right _ h))))
theorem i9wsX6_readQuestion_7 : ∀ w ∈ wsX90, w ∈ wsX6_readQuestion := fun _ h => (List.mem_cons_of_mem _ (List.mem_append_left _ (List.mem_append_right _ h)))
theorem i9wsX6_readQuestion_8 : ∀ w ∈ ((vx_atS RX6 135 "java/lang/UnsupportedOperationException" ["java/lang/RuntimeException", "java/lang/Exception"]).filter goodWord), w ∈ wsX6_readQuestion := fun _ h => (List.mem_cons_of_mem _ (List.mem_append_right _ h))
set_option maxRecDepth 20000 in
theorem ggX6_readQuestion_X6_readTableGoal : GoodIn wsX6_readQuestion wsX6_readTableGoal := (gin_c (mem_at i9wsX6_readQuestion_0 19 rfl) rfl (goodIn_app (goodIn_app (goodIn_app (goodIn_app (goodIn_app (goodIn_app (gin_c (mem_at i9wsX6_readQuestion_0 20 rfl) rfl (gin_c (mem_at i9wsX6_readQuestion_0 3 rfl) rfl (gin_c (mem_at i9wsX6_readQuestion_0 21 rfl) rfl (gin_c (mem_at i9wsX6_readQuestion_0 22 rfl) rfl (gin_c (mem_at i9wsX6_readQuestion_0 23 rfl) rfl (gin_c (mem_at i9wsX6_readQuestion_0 4 rfl) rfl (gin_c (mem_at i9wsX6_readQuestion_0 12 rfl) rfl (gin_c (mem_at i9wsX6_readQuestion_0 13 rfl) rfl (gin_c (mem_at i9wsX6_readQuestion_0 14 rfl) rfl (gin_c (mem_at i9wsX6_readQuestion_0 10 rfl) rfl (gin_c (mem_at i9wsX6_readQuestion_0 15 rfl) rfl (gin_c (mem_at i9wsX6_readQuestion_0 1 rfl) rfl (gin_c (mem_at i9wsX6_readQuestion_0 0 rfl) rfl (gin_c (mem_at i9wsX6_readQuestion_0 7 rfl) rfl (gin_c (mem_at i9wsX6_readQuestion_0 8 rfl) rfl (gin_c (mem_at i9wsX6_readQuestion_0 9 rfl) rfl (gin_c (mem_at i9wsX6_readQuestion_0 11 rfl) rfl (gin_c (mem_at i9wsX6_readQuestion_1 0 rfl) rfl (gin_c (mem_at i9wsX6_readQuestion_1 1 rfl) rfl (gin_c (mem_at i9wsX6_readQuestion_1 2 rfl) rfl (gin_c (mem_at i9wsX6_readQuestion_1 3 rfl) rfl (gin_c (mem_at i9wsX6_readQuestion_0 2 rfl) rfl (gin_c (mem_at i9wsX6_readQuestion_1 4 rfl) rfl (gin_c (mem_at i9wsX6_readQuestion_1 5 rfl) rfl gin_n)))))))))))))))))))))))) (goodIn_app (gin_c (mem_at i9wsX6_readQuestion_1 6 rfl) rfl (gin_c (mem_at i9wsX6_readQuestion_1 7 rfl) rfl (gin_c (mem_at i9wsX6_readQuestion_1 8 rfl) rfl (gin_c (mem_at i9wsX6_readQuestion_1 9 rfl) rfl (gin_c (mem_at i9wsX6_readQuestion_1 10 rfl) rfl (gin_c (mem_at i9wsX6_readQuestion_1 11 rfl) rfl (gin_c (mem_at i9wsX6_readQuestion_1 12 rfl) rfl (gin_c (mem_at i9wsX6_readQuestion_1 13 rfl) rfl (gin_c (mem_at i9wsX6_readQuestion_1 14 rfl) rfl (gin_c (mem_at i9wsX6_readQuestion_1 15 rfl) rfl (gin_c (mem_at i9wsX6_readQuestion_1 16 rfl) rfl (gin_c (mem_at i9wsX6_readQuestion_1 17 rfl) rfl (gin_c (mem_at i9wsX6_readQuestion_1 18 rfl) rfl (gin_c (mem_at i9wsX6_readQuestion_1 19 rfl) rfl (gin_c (mem_at i9wsX6_readQuestion_1 20 rfl) rfl (gin_c (mem_at i9wsX6_readQuestion_1 21 rfl) rfl (gin_c (mem_at i9wsX6_readQuestion_1 22 rfl) rfl (gin_c (mem_at i9wsX6_readQuestion_1 23 rfl) rfl (gin_c (mem_at i9wsX6_readQuestion_2 0 rfl) rfl (gin_c (mem_at i9wsX6_readQuestion_2 1 rfl) rfl (gin_c (mem_at i9wsX6_readQuestion_2 2 rfl) rfl (gin_c (mem_at i9wsX6_readQuestion_2 3 rfl) rfl (gin_c (mem_at i9wsX6_readQuestion_2 4 rfl) rfl (gin_c (mem_at i9wsX6_readQuestion_2 5 rfl) rfl gin_n)))))))))))))))))))))))) (gin_c (mem_at i9wsX6_readQuestion_2 6 rfl) rfl (gin_c (mem_at i9wsX6_readQuestion_2 7 rfl) rfl (gin_c (mem_at i9wsX6_readQuestion_2 8 rfl) rfl (gin_c (mem_at i9wsX6_readQuestion_2 9 rfl) rfl (gin_c (mem_at i9wsX6_readQuestion_2 10 rfl) rfl (gin_c (mem_at i9wsX6_readQuestion_2 11 rfl) rfl (gin_c (mem_at i9wsX6_readQuestion_2 12 rfl) rfl (gin_c (mem_at i9wsX6_readQuestion_2 13 rfl) rfl (gin_c (mem_at i9wsX6_readQuestion_2 14 rfl) rfl (gin_c (mem_at i9wsX6_readQuestion_2 15 rfl) rfl (gin_c (mem_at i9wsX6_readQuestion_2 16 rfl) rfl (gin_c (mem_at i9wsX6_readQuestion_2 17 rfl) rfl (gin_c (mem_at i9wsX6_readQuestion_2 18 rfl) rfl (gin_c (mem_at i9wsX6_readQuestion_2 19 rfl) rfl (gin_c (mem_at i9wsX6_readQuestion_2 20 rfl) rfl (gin_c (mem_at i9wsX6_readQuestion_2 21 rfl) rfl (gin_c (mem_at i9wsX6_readQuestion_2 22 rfl) rfl gin_n))))))))))))))))))) (goodIn_sub i9wsX6_readQuestion_5 g9_6)) (goodIn_sub i9wsX6_readQuestion_4 g9_7)) (goodIn_sub i9wsX6_readQuestion_6 g9_3)) (goodIn_sub i9wsX6_readQuestion_7 g9_5)) (goodIn_sub i9wsX6_readQuestion_8 g9_8)))
set_option maxRecDepth 20000 in
theorem gX6_readQuestion_X6_readTableGoal : GoodIn wsX6_readQuestion (wsV RX6 46 RX6 yX6_readTableGoal wsX6_readTableGoal) := goodIn_app (gin_c (mem_at i9wsX6_readQuestion_0 16 rfl) rfl (gin_c (mem_at i9wsX6_readQuestion_0 17 rfl) rfl (gin_c (mem_at i9wsX6_readQuestion_0 18 rfl) rfl (gin_c (mem_at i9wsX6_readQuestion_0 10 rfl) rfl gin_n)))) ggX6_readQuestion_X6_readTableGoal
theorem i9wsX6_readQuestion_3 : ∀ w ∈ wsX6_readQuestion_r4, w ∈ wsX6_readQuestion := fun _ h => (List.mem_cons_of_mem _ (List.mem_append_left _ (List.mem_append_left _ (List.mem_append_left _ (List.mem_append_left _ (List.mem_append_left _ (List.mem_append_right _ (List.mem_append_right _ (List.mem_append_right _ h)))))))))
set_option maxRecDepth 20000 in
theorem ggX6_readQuestion_X6_readSignGoal : GoodIn wsX6_readQuestion wsX6_readSignGoal := (gin_c (mem_at i9wsX6_readQuestion_3 2 rfl) rfl (goodIn_app (goodIn_app (goodIn_app (goodIn_app (gin_c (mem_at i9wsX6_readQuestion_0 3 rfl) rfl (gin_c (mem_at i9wsX6_readQuestion_2 6 rfl) rfl (gin_c (mem_at i9wsX6_readQuestion_2 7 rfl) rfl (gin_c (mem_at i9wsX6_readQuestion_3 3 rfl) rfl (gin_c (mem_at i9wsX6_readQuestion_0 4 rfl) rfl (gin_c (mem_at i9wsX6_readQuestion_0 20 rfl) rfl (gin_c (mem_at i9wsX6_readQuestion_2 2 rfl) rfl (gin_c (mem_at i9wsX6_readQuestion_2 3 rfl) rfl (gin_c (mem_at i9wsX6_readQuestion_2 4 rfl) rfl (gin_c (mem_at i9wsX6_readQuestion_0 10 rfl) rfl (gin_c (mem_at i9wsX6_readQuestion_2 5 rfl) rfl (gin_c (mem_at i9wsX6_readQuestion_0 12 rfl) rfl (gin_c (mem_at i9wsX6_readQuestion_0 13 rfl) rfl (gin_c (mem_at i9wsX6_readQuestion_0 14 rfl) rfl (gin_c (mem_at i9wsX6_readQuestion_0 15 rfl) rfl (gin_c (mem_at i9wsX6_readQuestion_0 1 rfl) rfl (gin_c (mem_at i9wsX6_readQuestion_0 0 rfl) rfl (gin_c (mem_at i9wsX6_readQuestion_2 8 rfl) rfl (gin_c (mem_at i9wsX6_readQuestion_2 9 rfl) rfl (gin_c (mem_at i9wsX6_readQuestion_2 10 rfl) rfl (gin_c (mem_at i9wsX6_readQuestion_2 11 rfl) rfl (gin_c (mem_at i9wsX6_readQuestion_1 15 rfl) rfl (gin_c (mem_at i9wsX6_readQuestion_1 16 rfl) rfl (gin_c (mem_at i9wsX6_readQuestion_1 17 rfl) rfl gin_n)))))))))))))))))))))))) (goodIn_app (gin_c (mem_at i9wsX6_readQuestion_1 18 rfl) rfl (gin_c (mem_at i9wsX6_readQuestion_1 8 rfl) rfl (gin_c (mem_at i9wsX6_readQuestion_1 9 rfl) rfl (gin_c (mem_at i9wsX6_readQuestion_1 10 rfl) rfl (gin_c (mem_at i9wsX6_readQuestion_1 11 rfl) rfl (gin_c (mem_at i9wsX6_readQuestion_1 12 rfl) rfl (gin_c (mem_at i9wsX6_readQuestion_1 13 rfl) rfl (gin_c (mem_at i9wsX6_readQuestion_1 14 rfl) rfl (gin_c (mem_at i9wsX6_readQuestion_0 7 rfl) rfl (gin_c (mem_at i9wsX6_readQuestion_0 8 rfl) rfl (gin_c (mem_at i9wsX6_readQuestion_0 9 rfl) rfl (gin_c (mem_at i9wsX6_readQuestion_0 11 rfl) rfl (gin_c (mem_at i9wsX6_readQuestion_3 4 rfl) rfl (gin_c (mem_at i9wsX6_readQuestion_3 5 rfl) rfl (gin_c (mem_at i9wsX6_readQuestion_3 6 rfl) rfl (gin_c (mem_at i9wsX6_readQuestion_3 7 rfl) rfl (gin_c (mem_at i9wsX6_readQuestion_3 8 rfl) rfl (gin_c (mem_at i9wsX6_readQuestion_3 9 rfl) rfl (gin_c (mem_at i9wsX6_readQuestion_3 10 rfl) rfl (gin_c (mem_at i9wsX6_readQuestion_3 11 rfl) rfl (gin_c (mem_at i9wsX6_readQuestion_2 16 rfl) rfl (gin_c (mem_at i9wsX6_readQuestion_2 17 rfl) rfl (gin_c (mem_at i9wsX6_readQuestion_2 18 rfl) rfl (gin_c (mem_at i9wsX6_readQuestion_3 12 rfl) rfl gin_n)))))))))))))))))))))))) (gin_c (mem_at i9wsX6_readQuestion_3 13 rfl) rfl (gin_c (mem_at i9wsX6_readQuestion_3 14 rfl) rfl (gin_c (mem_at i9wsX6_readQuestion_3 15 rfl) rfl gin_n))))) (goodIn_sub i9wsX6_readQuestion_4 g9_7)) (goodIn_sub i9wsX6_readQuestion_5 g9_6)) (goodIn_sub i9wsX6_readQuestion_8 g9_8)))
set_option maxRecDepth 20000 in
theorem gX6_readQuestion_X6_readSignGoal : GoodIn wsX6_readQuestion (wsV RX6 50 RX6 yX6_readSignGoal wsX6_readSignGoal) := goodIn_app (gin_c (mem_at i9wsX6_readQuestion_2 23 rfl) rfl (gin_c (mem_at i9wsX6_readQuestion_3 0 rfl) rfl (gin_c (mem_at i9wsX6_readQuestion_3 1 rfl) rfl (gin_c (mem_at i9wsX6_readQuestion_0 10 rfl) rfl gin_n)))) ggX6_readQuestion_X6_readSignGoal
set_option maxRecDepth 20000 in
theorem ggX6_readQuestion_X6_take : GoodIn wsX6_readQuestion wsX6_take := (gin_c (mem_at i9wsX6_readQuestion_1 7 rfl) rfl (goodIn_app (goodIn_app (gin_c (mem_at i9wsX6_readQuestion_0 3 rfl) rfl (gin_c (mem_at i9wsX6_readQuestion_0 12 rfl) rfl (gin_c (mem_at i9wsX6_readQuestion_0 13 rfl) rfl (gin_c (mem_at i9wsX6_readQuestion_0 14 rfl) rfl (gin_c (mem_at i9wsX6_readQuestion_0 10 rfl) rfl (gin_c (mem_at i9wsX6_readQuestion_0 15 rfl) rfl (gin_c (mem_at i9wsX6_readQuestion_0 1 rfl) rfl (gin_c (mem_at i9wsX6_readQuestion_0 0 rfl) rfl (gin_c (mem_at i9wsX6_readQuestion_1 8 rfl) rfl (gin_c (mem_at i9wsX6_readQuestion_1 9 rfl) rfl (gin_c (mem_at i9wsX6_readQuestion_1 10 rfl) rfl (gin_c (mem_at i9wsX6_readQuestion_1 11 rfl) rfl (gin_c (mem_at i9wsX6_readQuestion_1 12 rfl) rfl (gin_c (mem_at i9wsX6_readQuestion_1 13 rfl) rfl (gin_c (mem_at i9wsX6_readQuestion_1 14 rfl) rfl gin_n))))))))))))))) (goodIn_sub i9wsX6_readQuestion_4 g9_7)) (goodIn_sub i9wsX6_readQuestion_8 g9_8)))
set_option maxRecDepth 20000 in
theorem gX6_readQuestion_X6_take : GoodIn wsX6_readQuestion (wsV RX6 56 RX6 yX6_take wsX6_take) := goodIn_app (gin_c (mem_at i9wsX6_readQuestion_1 4 rfl) rfl (gin_c (mem_at i9wsX6_readQuestion_1 5 rfl) rfl (gin_c (mem_at i9wsX6_readQuestion_1 6 rfl) rfl (gin_c (mem_at i9wsX6_readQuestion_0 10 rfl) rfl gin_n)))) ggX6_readQuestion_X6_take
set_option maxRecDepth 20000 in
theorem ggX6_readQuestion_X6_refuse : GoodIn wsX6_readQuestion wsX6_refuse := (gin_c (mem_at i9wsX6_readQuestion_1 11 rfl) rfl (goodIn_app (goodIn_app (gin_c (mem_at i9wsX6_readQuestion_1 12 rfl) rfl (gin_c (mem_at i9wsX6_readQuestion_1 13 rfl) rfl (gin_c (mem_at i9wsX6_readQuestion_1 14 rfl) rfl gin_n))) (goodIn_sub i9wsX6_readQuestion_4 g9_7)) (goodIn_sub i9wsX6_readQuestion_8 g9_8)))
set_option maxRecDepth 20000 in
theorem gX6_readQuestion_X6_refuse : GoodIn wsX6_readQuestion (wsV RX6 60 RX6 yX6_refuse wsX6_refuse) := goodIn_app (gin_c (mem_at i9wsX6_readQuestion_1 8 rfl) rfl (gin_c (mem_at i9wsX6_readQuestion_1 9 rfl) rfl (gin_c (mem_at i9wsX6_readQuestion_1 10 rfl) rfl (gin_c (mem_at i9wsX6_readQuestion_0 10 rfl) rfl gin_n)))) ggX6_readQuestion_X6_refuse
set_option maxHeartbeats 4000000 in
set_option maxRecDepth 100000 in
theorem T_X6_readQuestion (l : Launch) (hl : l.stackTraces = false) (D : va_G) (cA : Nat → ClassId) {l0 : Option Nat} {l1 : Option Nat} {l2 : Int32} {l3 : Option Nat} {x : HS} {Q : HS → Prop} {X : String → HS → Prop} (h : w_X6_readQuestion l0 l1 l2 l3 x Q X) : YV l yX6_readQuestion wsX6_readQuestion 11 205 D cA [.q l0, .q l1, .i l2, .q l3] x Q X := by
  refine YV.of (cc := cX6_readQuestion) (maxL := 5) (ret := none) hl (by decide) rfl rfl (fun g B fr => ?_)
  have o := B.o
  have hb := B.hb
  have hts := B.hts
  have hown : g.s.vm.findClass RX6 = some g.m.cls := B.hown
  have in6 : ∀ w ∈ u_ws RX6 TX6 8, w ∈ wsX6_readQuestion := fun w h => (List.mem_cons_of_mem _ (List.mem_append_left _ (List.mem_append_left _ (List.mem_append_left _ (List.mem_append_left _ (List.mem_append_right _ h))))))
  unfold w_X6_readQuestion at h
  show KW g 5 0 [(0, .q l0), (1, .q l1), (2, .i l2), (3, .q l3)] [] x
  refine k_aload_n o hb dX6_readQuestion_0 rfl 0 rfl ?_
  refine k_aload_n o hb dX6_readQuestion_1 rfl 1 rfl ?_
  refine k_putF (C := RX6) (T := TX6) (N := 8) (ty := (tyX6 4)) o hb hts in6 tyX6 tyX6_ok nmX6 hown rfl (by decide) 4 (by decide) rfl (hts (.fieldLink RX6 22 "FactKeeper$Reader" "text" "[B") (by decide +kernel)) (fun _ h9 => h9) rfl (by decide +kernel) (fun r => by cases r <;> rfl) (fun r => by cases r <;> rfl) dX6_readQuestion_2 h (fun x1 h => ?_)
  refine k_aload_n o hb dX6_readQuestion_5 rfl 0 rfl ?_
  refine k_iload_n o hb dX6_readQuestion_6 rfl 2 rfl ?_
  refine k_putI (C := RX6) (T := TX6) (N := 8) (ty := .int) o hb hts in6 tyX6 tyX6_ok nmX6 hown rfl (by decide) 5 (by decide) rfl (hts (.fieldLink RX6 26 "FactKeeper$Reader" "length" "I") (by decide +kernel)) (fun _ h9 => h9) rfl (by decide +kernel) (fun _ => rfl) (fun _ => rfl) dX6_readQuestion_7 h (fun x2 h => ?_)
  refine k_aload_n o hb dX6_readQuestion_10 rfl 0 rfl ?_
  refine k_aload_n o hb dX6_readQuestion_11 rfl 3 rfl ?_
  refine k_putF (C := RX6) (T := TX6) (N := 8) (ty := (tyX6 7)) o hb hts in6 tyX6 tyX6_ok nmX6 hown rfl (by decide) 7 (by decide) rfl (hts (.fieldLink RX6 29 "FactKeeper$Reader" "store" "LFactKeeper$Store;") (by decide +kernel)) (fun _ h9 => h9) rfl (by decide +kernel) (fun r => by cases r <;> rfl) (fun r => by cases r <;> rfl) dX6_readQuestion_12 h (fun x3 h => ?_)
  refine k_aload_n o hb dX6_readQuestion_15 rfl 0 rfl ?_
  refine k_iconst (v := 0) o hb dX6_readQuestion_16 (by decide) ?_
  refine k_putI (C := RX6) (T := TX6) (N := 8) (ty := .int) o hb hts in6 tyX6 tyX6_ok nmX6 hown rfl (by decide) 6 (by decide) rfl (hts (.fieldLink RX6 33 "FactKeeper$Reader" "at" "I") (by decide +kernel)) (fun _ h9 => h9) rfl (by decide +kernel) (fun _ => rfl) (fun _ => rfl) dX6_readQuestion_17 h (fun x4 h => ?_)
  refine k_aload_n o hb dX6_readQuestion_20 rfl 0 rfl ?_
  refine k_iconst (v := 0) o hb dX6_readQuestion_21 (by decide) ?_
  refine k_putI (C := RX6) (T := TX6) (N := 8) (ty := .int) o hb hts in6 tyX6 tyX6_ok nmX6 hown rfl (by decide) 2 (by decide) rfl (hts (.fieldLink RX6 36 "FactKeeper$Reader" "known" "I") (by decide +kernel)) (fun _ h9 => h9) rfl (by decide +kernel) (fun _ => rfl) (fun _ => rfl) dX6_readQuestion_22 h (fun x5 h => ?_)
  refine k_iconst (v := 0) o hb dX6_readQuestion_25 (by decide) ?_
  refine k_istore o hb dX6_readQuestion_26 rfl ?_
  refine KW.sub [1, 0] rfl ?_
  refine wLoop_elim (M := fun (v9 : Int32) (x8 : HS) => KW g 5 28 [(0, .q l0), (4, .i v9)] [] x8) h ?_
  intro v9 x8 again6 ih7 h
  refine k_iload o hb dX6_readQuestion_28 1 rfl ?_
  refine k_bipush (v := 10) o hb dX6_readQuestion_30 (by decide) ?_
  refine k_icmp_ge (tgt := 118) o hb dX6_readQuestion_32 (by decide) h (fun h => ?_) (fun h => ?_)
  · skip
    refine k_aload_n o hb dX6_readQuestion_118 rfl 0 rfl ?_
    refine k_run_v o (fun _ _ q => q) (k_runV (ci := 6) (rc := (RX6, TX6, 8)) o hb B.hml hown hts rfl (by decide) (T_X6_skipBlanks g.l o.hl g.D g.cA h.2) (cwV 0 hts gX6_readQuestion_X6_skipBlanks rfl rfl rfl (by decide +kernel) ⟨yle B.hR1 rfl, yle B.hR2 rfl⟩) h.1 rfl rfl (Nat.le_of_ble_eq_true rfl) dX6_readQuestion_119) (fun x10 h => ?_)
    refine k_aload_n o hb dX6_readQuestion_122 rfl 0 rfl ?_
    refine k_aload_n o hb dX6_readQuestion_123 rfl 0 rfl ?_
    refine k_getI (C := RX6) (T := TX6) (N := 8) o hb hts in6 hown rfl (by decide) 6 (by decide) rfl (hts (.fieldLink RX6 33 "FactKeeper$Reader" "at" "I") (by decide +kernel)) (fun _ h9 => h9) dX6_readQuestion_124 h (fun v12 h => ?_)
    refine k_run_v o (fun _ _ q => q) (k_runV (ci := 6) (rc := (RX6, TX6, 8)) o hb B.hml hown hts rfl (by decide) (T_X6_refuse g.l o.hl g.D g.cA h.2) (cwV 1 hts gX6_readQuestion_X6_refuse rfl rfl rfl (by decide +kernel) ⟨yle B.hR1 rfl, yle B.hR2 rfl⟩) h.1 rfl rfl (Nat.le_of_ble_eq_true rfl) dX6_readQuestion_127) (fun x13 h => ?_)
    exact k_vret o hb B.hr fr dX6_readQuestion_130 h
  · skip
    refine k_aload_n o hb dX6_readQuestion_35 rfl 0 rfl ?_
    refine k_run_v o (fun _ _ q => q) (k_runV (ci := 6) (rc := (RX6, TX6, 8)) o hb B.hml hown hts rfl (by decide) (T_X6_skipBlanks g.l o.hl g.D g.cA h.2) (cwV 0 hts gX6_readQuestion_X6_skipBlanks rfl rfl rfl (by decide +kernel) ⟨yle B.hR1 rfl, yle B.hR2 rfl⟩) h.1 rfl rfl (Nat.le_of_ble_eq_true rfl) dX6_readQuestion_36) (fun x15 h => ?_)
    refine k_aload_n o hb dX6_readQuestion_39 rfl 0 rfl ?_
    refine k_run_i o (fun _ _ q => q) (k_runV (ci := 6) (rc := (RX6, TX6, 8)) o hb B.hml hown hts rfl (by decide) (T_X6_here g.l o.hl g.D g.cA h.2) (cwV 0 hts gX6_readQuestion_X6_here rfl rfl rfl (by decide +kernel) ⟨yle B.hR1 rfl, yle B.hR2 rfl⟩) h.1 rfl rfl (Nat.le_of_ble_eq_true rfl) dX6_readQuestion_40) (fun v18 x17 h => ?_)
    refine k_bipush (v := 116) o hb dX6_readQuestion_43 (by decide) ?_
    refine wJoin_elim (M := fun K => ∀  (x20 : HS), K  x20 → KW g 5 82 [(0, .q l0), (4, .i v9)] [] x20) h ?_ (fun j19 hj19 h => ?_)
    · skip
      intro  x20 h
      refine k_aload_n o hb dX6_readQuestion_82 rfl 0 rfl ?_
      refine k_iload o hb dX6_readQuestion_83 1 rfl ?_
      refine k_iconst (v := 1) o hb dX6_readQuestion_85 (by decide) ?_
      refine k_iadd o hb dX6_readQuestion_86 ?_
      refine k_putI (C := RX6) (T := TX6) (N := 8) (ty := .int) o hb hts in6 tyX6 tyX6_ok nmX6 hown rfl (by decide) 1 (by decide) rfl (hts (.fieldLink RX6 53 "FactKeeper$Reader" "goalCount" "I") (by decide +kernel)) (fun _ h9 => h9) rfl (by decide +kernel) (fun _ => rfl) (fun _ => rfl) dX6_readQuestion_87 h (fun x21 h => ?_)
      refine k_aload_n o hb dX6_readQuestion_90 rfl 0 rfl ?_
      refine k_run_v o (fun _ _ q => q) (k_runV (ci := 6) (rc := (RX6, TX6, 8)) o hb B.hml hown hts rfl (by decide) (T_X6_skipBlanks g.l o.hl g.D g.cA h.2) (cwV 0 hts gX6_readQuestion_X6_skipBlanks rfl rfl rfl (by decide +kernel) ⟨yle B.hR1 rfl, yle B.hR2 rfl⟩) h.1 rfl rfl (Nat.le_of_ble_eq_true rfl) dX6_readQuestion_91) (fun x22 h => ?_)
      refine k_aload_n o hb dX6_readQuestion_94 rfl 0 rfl ?_
      refine k_getI (C := RX6) (T := TX6) (N := 8) o hb hts in6 hown rfl (by decide) 6 (by decide) rfl (hts (.fieldLink RX6 33 "FactKeeper$Reader" "at" "I") (by decide +kernel)) (fun _ h9 => h9) dX6_readQuestion_95 h (fun v24 h => ?_)
      refine k_aload_n o hb dX6_readQuestion_98 rfl 0 rfl ?_
      refine k_getI (C := RX6) (T := TX6) (N := 8) o hb hts in6 hown rfl (by decide) 5 (by decide) rfl (hts (.fieldLink RX6 26 "FactKeeper$Reader" "length" "I") (by decide +kernel)) (fun _ h9 => h9) dX6_readQuestion_99 h (fun v25 h => ?_)
      refine k_icmp_lt (tgt := 106) o hb dX6_readQuestion_102 (by decide) h (fun h => ?_) (fun h => ?_)
      · skip
        refine k_aload_n o hb dX6_readQuestion_106 rfl 0 rfl ?_
        refine k_bipush (v := 44) o hb dX6_readQuestion_107 (by decide) ?_
        refine k_run_v o (fun _ _ q => q) (k_runV (ci := 6) (rc := (RX6, TX6, 8)) o hb B.hml hown hts rfl (by decide) (T_X6_take g.l o.hl g.D g.cA h.2) (cwV 1 hts gX6_readQuestion_X6_take rfl rfl rfl (by decide +kernel) ⟨yle B.hR1 rfl, yle B.hR2 rfl⟩) h.1 rfl rfl (Nat.le_of_ble_eq_true rfl) dX6_readQuestion_109) (fun x26 h => ?_)
        refine k_iinc (w := 1) o hb dX6_readQuestion_112 1 rfl (by decide) rfl ?_
        refine k_goto (tgt := 28) o hb dX6_readQuestion_115 (by decide) ?_
        exact KW.sub [1, 0] rfl (ih7 (v9 + 1) x26 h)
      · skip
        exact k_vret o hb B.hr fr dX6_readQuestion_105 h
    · skip
      refine wJoin_elim (M := fun K => ∀  (x29 : HS), K  x29 → KW g 5 57 [(0, .q l0), (4, .i v9)] [] x29) h ?_ (fun j28 hj28 h => ?_)
      · skip
        intro  x29 h
        refine k_aload_n o hb dX6_readQuestion_57 rfl 0 rfl ?_
        refine k_aload_n o hb dX6_readQuestion_58 rfl 0 rfl ?_
        refine k_getF (C := RX6) (T := TX6) (N := 8) o hb hts in6 hown rfl (by decide) 0 (by decide) rfl (hts (.fieldLink RX6 11 "FactKeeper$Reader" "goals" "[LFactKeeper$Goal;") (by decide +kernel)) (fun _ h9 => h9) dX6_readQuestion_59 h (fun v30 h => ?_)
        refine k_iload o hb dX6_readQuestion_62 1 rfl ?_
        refine k_aald (kd := 27) (t0 := 6) o hb rfl (by decide) dX6_readQuestion_64 h (fun v31 h => ?_)
        refine k_run_v o (fun _ _ q => q) (k_runV (ci := 6) (rc := (RX6, TX6, 8)) o hb B.hml hown hts rfl (by decide) (T_X6_readTableGoal g.l o.hl g.D g.cA h.2) (cwV 1 hts gX6_readQuestion_X6_readTableGoal rfl rfl rfl (by decide +kernel) ⟨yle B.hR1 rfl, yle B.hR2 rfl⟩) h.1 rfl rfl (Nat.le_of_ble_eq_true rfl) dX6_readQuestion_65) (fun x32 h => ?_)
        refine k_goto (tgt := 82) o hb dX6_readQuestion_68 (by decide) ?_
        exact KW.sub [0, 1] rfl (hj19 x32 h)
      · skip
        refine k_icmp_eq (tgt := 57) o hb dX6_readQuestion_45 (by decide) h (fun h => ?_) (fun h => ?_)
        · skip
          exact KW.sub [0, 1] rfl (hj28 x17 h)
        · skip
          refine k_aload_n o hb dX6_readQuestion_48 rfl 0 rfl ?_
          refine k_run_i o (fun _ _ q => q) (k_runV (ci := 6) (rc := (RX6, TX6, 8)) o hb B.hml hown hts rfl (by decide) (T_X6_here g.l o.hl g.D g.cA h.2) (cwV 0 hts gX6_readQuestion_X6_here rfl rfl rfl (by decide +kernel) ⟨yle B.hR1 rfl, yle B.hR2 rfl⟩) h.1 rfl rfl (Nat.le_of_ble_eq_true rfl) dX6_readQuestion_49) (fun v35 x34 h => ?_)
          refine k_bipush (v := 33) o hb dX6_readQuestion_52 (by decide) ?_
          refine k_icmp_ne (tgt := 71) o hb dX6_readQuestion_54 (by decide) h (fun h => ?_) (fun h => ?_)
          · skip
            exact KW.sub [0, 1] rfl (hj28 x34 h)
          · skip
            refine k_aload_n o hb dX6_readQuestion_71 rfl 0 rfl ?_
            refine k_aload_n o hb dX6_readQuestion_72 rfl 0 rfl ?_
            refine k_getF (C := RX6) (T := TX6) (N := 8) o hb hts in6 hown rfl (by decide) 0 (by decide) rfl (hts (.fieldLink RX6 11 "FactKeeper$Reader" "goals" "[LFactKeeper$Goal;") (by decide +kernel)) (fun _ h9 => h9) dX6_readQuestion_73 h (fun v36 h => ?_)
            refine k_iload o hb dX6_readQuestion_76 1 rfl ?_
            refine k_aald (kd := 27) (t0 := 6) o hb rfl (by decide) dX6_readQuestion_78 h (fun v37 h => ?_)
            refine k_run_v o (fun _ _ q => q) (k_runV (ci := 6) (rc := (RX6, TX6, 8)) o hb B.hml hown hts rfl (by decide) (T_X6_readSignGoal g.l o.hl g.D g.cA h.2) (cwV 1 hts gX6_readQuestion_X6_readSignGoal rfl rfl rfl (by decide +kernel) ⟨yle B.hR1 rfl, yle B.hR2 rfl⟩) h.1 rfl rfl (Nat.le_of_ble_eq_true rfl) dX6_readQuestion_79) (fun x38 h => ?_)
            exact KW.sub [0, 1] rfl (hj19 x38 h)
