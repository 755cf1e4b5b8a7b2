/-! contracts out of the words (solver), laid by wip/p4/y/gen5.py -/
set_option linter.unusedVariables false
theorem dX8_init_0 : decode cX8_init 0 = .ok (.aload_n 0, 1) := by decide +kernel
theorem dX8_init_1 : decode cX8_init 1 = .ok (.invokespecial 3, 3) := by decide +kernel
theorem dX8_init_4 : decode cX8_init 4 = .ok (.aload_n 0, 1) := by decide +kernel
theorem dX8_init_5 : decode cX8_init 5 = .ok (.new 9, 3) := by decide +kernel
theorem dX8_init_8 : decode cX8_init 8 = .ok (.dup, 1) := by decide +kernel
theorem dX8_init_9 : decode cX8_init 9 = .ok (.invokespecial 11, 3) := by decide +kernel
theorem dX8_init_12 : decode cX8_init 12 = .ok (.putfield 12, 3) := by decide +kernel
theorem dX8_init_15 : decode cX8_init 15 = .ok (.aload_n 0, 1) := by decide +kernel
theorem dX8_init_16 : decode cX8_init 16 = .ok (.new 9, 3) := by decide +kernel
theorem dX8_init_19 : decode cX8_init 19 = .ok (.dup, 1) := by decide +kernel
theorem dX8_init_20 : decode cX8_init 20 = .ok (.invokespecial 11, 3) := by decide +kernel
theorem dX8_init_23 : decode cX8_init 23 = .ok (.putfield 18, 3) := by decide +kernel
theorem dX8_init_26 : decode cX8_init 26 = .ok (.aload_n 0, 1) := by decide +kernel
theorem dX8_init_27 : decode cX8_init 27 = .ok (.bipush 10, 2) := by decide +kernel
theorem dX8_init_29 : decode cX8_init 29 = .ok (.anewarray 21, 3) := by decide +kernel
theorem dX8_init_32 : decode cX8_init 32 = .ok (.putfield 23, 3) := by decide +kernel
theorem dX8_init_35 : decode cX8_init 35 = .ok (.aload_n 0, 1) := by decide +kernel
theorem dX8_init_36 : decode cX8_init 36 = .ok (.bipush 8, 2) := by decide +kernel
theorem dX8_init_38 : decode cX8_init 38 = .ok (.newarray .int, 2) := by decide +kernel
theorem dX8_init_40 : decode cX8_init 40 = .ok (.putfield 27, 3) := by decide +kernel
theorem dX8_init_43 : decode cX8_init 43 = .ok (.aload_n 0, 1) := by decide +kernel
theorem dX8_init_44 : decode cX8_init 44 = .ok (.iconst 4, 1) := by decide +kernel
theorem dX8_init_45 : decode cX8_init 45 = .ok (.newarray .int, 2) := by decide +kernel
theorem dX8_init_47 : decode cX8_init 47 = .ok (.putfield 31, 3) := by decide +kernel
theorem dX8_init_50 : decode cX8_init 50 = .ok (.iconst 0, 1) := by decide +kernel
theorem dX8_init_51 : decode cX8_init 51 = .ok (.istore_n 1, 1) := by decide +kernel
theorem dX8_init_52 : decode cX8_init 52 = .ok (.iload_n 1, 1) := by decide +kernel
theorem dX8_init_53 : decode cX8_init 53 = .ok (.bipush 10, 2) := by decide +kernel
theorem dX8_init_55 : decode cX8_init 55 = .ok (.if_icmp .ge 22, 3) := by decide +kernel
theorem dX8_init_58 : decode cX8_init 58 = .ok (.aload_n 0, 1) := by decide +kernel
theorem dX8_init_59 : decode cX8_init 59 = .ok (.getfield 23, 3) := by decide +kernel
theorem dX8_init_62 : decode cX8_init 62 = .ok (.iload_n 1, 1) := by decide +kernel
theorem dX8_init_63 : decode cX8_init 63 = .ok (.new 21, 3) := by decide +kernel
theorem dX8_init_66 : decode cX8_init 66 = .ok (.dup, 1) := by decide +kernel
theorem dX8_init_67 : decode cX8_init 67 = .ok (.invokespecial 34, 3) := by decide +kernel
theorem dX8_init_70 : decode cX8_init 70 = .ok (.aastore, 1) := by decide +kernel
theorem dX8_init_71 : decode cX8_init 71 = .ok (.iinc 1 1, 3) := by decide +kernel
theorem dX8_init_74 : decode cX8_init 74 = .ok (.goto (-22), 3) := by decide +kernel
theorem dX8_init_77 : decode cX8_init 77 = .ok (.return_, 1) := by decide +kernel
theorem i9wsX8_init_0 : ∀ w ∈ ([.methodLink RX8 3 objectInit, .instanceMethod objectInit, .code objectInit ⟨#[0xb1]⟩ 1 none, .classLink RX8 9 RX7, .instantiable RX7 3, .initialized RX7, .fieldLink RX8 12 "FactKeeper$Solver" "latest" "LFactKeeper$Solutions;", .fieldLink RX8 18 "FactKeeper$Solver" "spare" "LFactKeeper$Solutions;", .classLink RX8 21 RX5, .fieldLink RX8 23 "FactKeeper$Solver" "looks" "[LFactKeeper$Look;", .arrayClass .int, .fieldLink RX8 27 "FactKeeper$Solver" "variables" "[I", .fieldLink RX8 31 "FactKeeper$Solver" "wanted" "[I", .instantiable RX5 8, .initialized RX5, .instanceMethod yX7_init, .code yX7_init cX7_init 1 none, .methodLink RX7 3 objectInit, .fieldLink RX7 9 "FactKeeper$Solutions" "kept" "[I", .instanceMethod yX5_init, .code yX5_init cX5_init 1 none, .methodLink RX5 3 objectInit, .fieldLink RX5 9 "FactKeeper$Look" "wanted" "[I"] : List Cond), w ∈ wsX8_init := fun _ h => (List.mem_cons_of_mem _ (List.mem_append_left _ (List.mem_append_left _ (List.mem_append_left _ h))))
theorem i9wsX8_init_1 : ∀ w ∈ wsX70, w ∈ wsX8_init := fun _ h => (List.mem_cons_of_mem _ (List.mem_append_left _ (List.mem_append_left _ (List.mem_append_right _ h))))
set_option maxRecDepth 20000 in
theorem ggX8_init_X7_init : GoodIn wsX8_init wsX7_init := (gin_c (mem_at i9wsX8_init_0 16 rfl) rfl (goodIn_app (gin_c (mem_at i9wsX8_init_0 17 rfl) rfl (gin_c (mem_at i9wsX8_init_0 1 rfl) rfl (gin_c (mem_at i9wsX8_init_0 2 rfl) rfl (gin_c (mem_at i9wsX8_init_0 10 rfl) rfl (gin_c (mem_at i9wsX8_init_0 18 rfl) rfl gin_n))))) (goodIn_sub i9wsX8_init_1 g9_9)))
set_option maxRecDepth 20000 in
theorem gX8_init_X7_init_n11 : GoodIn wsX8_init (wsX7_init) := ggX8_init_X7_init
theorem i9wsX8_init_3 : ∀ w ∈ wsX50, w ∈ wsX8_init := fun _ h => (List.mem_cons_of_mem _ (List.mem_append_right _ h))
set_option maxRecDepth 20000 in
theorem ggX8_init_X5_init : GoodIn wsX8_init wsX5_init := (gin_c (mem_at i9wsX8_init_0 20 rfl) rfl (goodIn_app (gin_c (mem_at i9wsX8_init_0 21 rfl) rfl (gin_c (mem_at i9wsX8_init_0 1 rfl) rfl (gin_c (mem_at i9wsX8_init_0 2 rfl) rfl (gin_c (mem_at i9wsX8_init_0 10 rfl) rfl (gin_c (mem_at i9wsX8_init_0 22 rfl) rfl gin_n))))) (goodIn_sub i9wsX8_init_3 g9_10)))
set_option maxRecDepth 20000 in
theorem gX8_init_X5_init_n34 : GoodIn wsX8_init (wsX5_init) := ggX8_init_X5_init
set_option maxHeartbeats 4000000 in
set_option maxRecDepth 100000 in
theorem T_X8_init (l : Launch) (hl : l.stackTraces = false) (D : va_G) (cA : Nat → ClassId) {l0 : Option Nat} {x : HS} {Q : HS → Prop} {X : String → HS → Prop} (h : w_X8_init l0 x Q X) : YV l yX8_init wsX8_init 2 32 D cA [.q l0] x Q X := by
  refine YV.of (cc := cX8_init) (maxL := 2) (ret := none) hl (by decide) rfl rfl (fun g B fr => ?_)
  have o := B.o
  have hb := B.hb
  have hts := B.hts
  have hown : g.s.vm.findClass RX8 = some g.m.cls := B.hown
  have in5 : ∀ w ∈ u_ws RX5 TX5 8, w ∈ wsX8_init := fun w h => (List.mem_cons_of_mem _ (List.mem_append_right _ h))
  have in7 : ∀ w ∈ u_ws RX7 TX7 3, w ∈ wsX8_init := fun w h => (List.mem_cons_of_mem _ (List.mem_append_left _ (List.mem_append_left _ (List.mem_append_right _ h))))
  have in8 : ∀ w ∈ u_ws RX8 TX8 8, w ∈ wsX8_init := fun w h => (List.mem_cons_of_mem _ (List.mem_append_left _ (List.mem_append_right _ h)))
  unfold w_X8_init at h
  show KW g 2 0 [(0, .q l0)] [] x
  refine k_aload_n o hb dX8_init_0 rfl 0 rfl ?_
  refine k_objInit o hb B.hml hown (hts (.methodLink RX8 3 objectInit) (by decide +kernel)) (hts (.instanceMethod objectInit) (by decide +kernel)) (hts (.code objectInit ⟨#[0xb1]⟩ 1 none) (by decide +kernel)) (yle B.hR1 rfl) (yle B.hR2 rfl) dX8_init_1 h.1 ?_
  have h := h.2
  refine k_aload_n o hb dX8_init_4 rfl 0 rfl ?_
  refine k_new (C := RX7) (T := TX7) (N := 3) o hb hts in7 tyX7 tyX7_ok hown (hts (.classLink RX8 9 RX7) (by decide +kernel)) (hts (.instantiable RX7 3) (by decide +kernel)) (hts (.initialized RX7) (by decide +kernel)) rfl (by decide) (fun j hj => by rcases (show j = 0 ∨ j = 1 ∨ j = 2 by omega) with rfl | rfl | rfl <;> rfl) dX8_init_5 h (fun q1 x2 h => ?_)
  refine k_dup o hb dX8_init_8 ?_
  refine k_run_v o (fun _ _ q => q.elim) (k_runIN (host := RX11) o hb B.hml hown hts (T_X7_init g.l o.hl g.D g.cA h) yX_no ⟨va_cnB 0 hts gX8_init_X7_init_n11 rfl rfl rfl o.hZ.2.2.1.2.2.2.2.1 (hts (.initialized RX7) (by decide +kernel)) (by decide +kernel) ⟨yle B.hR1 rfl, yle B.hR2 rfl⟩, rfl, hts (.instanceMethod yX7_init) (by decide +kernel)⟩ rfl rfl (Nat.le_of_ble_eq_true rfl) dX8_init_9) (fun x3 h => ?_)
  refine k_putF (C := RX8) (T := TX8) (N := 8) (ty := (tyX8 0)) o hb hts in8 tyX8 tyX8_ok nmX8 hown rfl (by decide) 0 (by decide) rfl (hts (.fieldLink RX8 12 "FactKeeper$Solver" "latest" "LFactKeeper$Solutions;") (by decide +kernel)) (fun _ h9 => h9) rfl (by decide +kernel) (fun r => by cases r <;> rfl) (fun r => by cases r <;> rfl) dX8_init_12 h (fun x5 h => ?_)
  refine k_aload_n o hb dX8_init_15 rfl 0 rfl ?_
  refine k_new (C := RX7) (T := TX7) (N := 3) o hb hts in7 tyX7 tyX7_ok hown (hts (.classLink RX8 9 RX7) (by decide +kernel)) (hts (.instantiable RX7 3) (by decide +kernel)) (hts (.initialized RX7) (by decide +kernel)) rfl (by decide) (fun j hj => by rcases (show j = 0 ∨ j = 1 ∨ j = 2 by omega) with rfl | rfl | rfl <;> rfl) dX8_init_16 h (fun q6 x7 h => ?_)
  refine k_dup o hb dX8_init_19 ?_
  refine k_run_v o (fun _ _ q => q.elim) (k_runIN (host := RX11) o hb B.hml hown hts (T_X7_init g.l o.hl g.D g.cA h) yX_no ⟨va_cnB 0 hts gX8_init_X7_init_n11 rfl rfl rfl o.hZ.2.2.1.2.2.2.2.1 (hts (.initialized RX7) (by decide +kernel)) (by decide +kernel) ⟨yle B.hR1 rfl, yle B.hR2 rfl⟩, rfl, hts (.instanceMethod yX7_init) (by decide +kernel)⟩ rfl rfl (Nat.le_of_ble_eq_true rfl) dX8_init_20) (fun x8 h => ?_)
  refine k_putF (C := RX8) (T := TX8) (N := 8) (ty := (tyX8 2)) o hb hts in8 tyX8 tyX8_ok nmX8 hown rfl (by decide) 2 (by decide) rfl (hts (.fieldLink RX8 18 "FactKeeper$Solver" "spare" "LFactKeeper$Solutions;") (by decide +kernel)) (fun _ h9 => h9) rfl (by decide +kernel) (fun r => by cases r <;> rfl) (fun r => by cases r <;> rfl) dX8_init_23 h (fun x10 h => ?_)
  refine k_aload_n o hb dX8_init_26 rfl 0 rfl ?_
  refine k_bipush (v := 10) o hb dX8_init_27 (by decide) ?_
  refine k_newG (kd := 26) (t0 := 5) o hb hown (hts (.classLink RX8 21 RX5) (by decide +kernel)) o.hZ.2.2.2.2.1.2.2.1 (by decide) rfl dX8_init_29 h (fun q11 x12 h => ?_)
  refine k_putFF (C := RX8) (T := TX8) (N := 8) (ty := (tyX8 3)) o hb hts in8 tyX8 tyX8_ok nmX8 hown rfl (by decide) 3 (by decide) rfl (hts (.fieldLink RX8 23 "FactKeeper$Solver" "looks" "[LFactKeeper$Look;") (by decide +kernel)) (fun _ h9 => h9) rfl B.hnm rfl (by decide +kernel) (fun r => by cases r <;> rfl) (fun r => by cases r <;> rfl) dX8_init_32 h (fun x13 h => ?_)
  refine k_aload_n o hb dX8_init_35 rfl 0 rfl ?_
  refine k_bipush (v := 8) o hb dX8_init_36 (by decide) ?_
  refine k_newJ (atype := .int) (ty := .int) (kd := 20) (t0 := 0) o hb (hts (.arrayClass .int) (by decide +kernel)) rfl (by decide) (by decide) rfl (fun _ _ => rfl) (by decide) dX8_init_38 h (fun q14 x15 h => ?_)
  refine k_putFF (C := RX8) (T := TX8) (N := 8) (ty := (tyX8 4)) o hb hts in8 tyX8 tyX8_ok nmX8 hown rfl (by decide) 4 (by decide) rfl (hts (.fieldLink RX8 27 "FactKeeper$Solver" "variables" "[I") (by decide +kernel)) (fun _ h9 => h9) rfl B.hnm rfl (by decide +kernel) (fun r => by cases r <;> rfl) (fun r => by cases r <;> rfl) dX8_init_40 h (fun x16 h => ?_)
  refine k_aload_n o hb dX8_init_43 rfl 0 rfl ?_
  refine k_iconst (v := 4) o hb dX8_init_44 (by decide) ?_
  refine k_newJ (atype := .int) (ty := .int) (kd := 20) (t0 := 0) o hb (hts (.arrayClass .int) (by decide +kernel)) rfl (by decide) (by decide) rfl (fun _ _ => rfl) (by decide) dX8_init_45 h (fun q17 x18 h => ?_)
  refine k_putFF (C := RX8) (T := TX8) (N := 8) (ty := (tyX8 5)) o hb hts in8 tyX8 tyX8_ok nmX8 hown rfl (by decide) 5 (by decide) rfl (hts (.fieldLink RX8 31 "FactKeeper$Solver" "wanted" "[I") (by decide +kernel)) (fun _ h9 => h9) rfl B.hnm rfl (by decide +kernel) (fun r => by cases r <;> rfl) (fun r => by cases r <;> rfl) dX8_init_47 h (fun x19 h => ?_)
  refine k_iconst (v := 0) o hb dX8_init_50 (by decide) ?_
  refine k_istore_n o hb dX8_init_51 rfl rfl ?_
  refine KW.sub [1, 0] rfl ?_
  refine wLoop_elim (M := fun (v23 : Int32) (x22 : HS) => KW g 2 52 [(0, .q l0), (1, .i v23)] [] x22) h ?_
  intro v23 x22 again20 ih21 h
  refine k_iload_n o hb dX8_init_52 rfl 1 rfl ?_
  refine k_bipush (v := 10) o hb dX8_init_53 (by decide) ?_
  refine k_icmp_ge (tgt := 77) o hb dX8_init_55 (by decide) h (fun h => ?_) (fun h => ?_)
  · skip
    exact k_vret o hb B.hr fr dX8_init_77 h
  · skip
    refine k_aload_n o hb dX8_init_58 rfl 0 rfl ?_
    refine k_getF (C := RX8) (T := TX8) (N := 8) o hb hts in8 hown rfl (by decide) 3 (by decide) rfl (hts (.fieldLink RX8 23 "FactKeeper$Solver" "looks" "[LFactKeeper$Look;") (by decide +kernel)) (fun _ h9 => h9) dX8_init_59 h (fun v24 h => ?_)
    refine k_iload_n o hb dX8_init_62 rfl 1 rfl ?_
    refine k_new (C := RX5) (T := TX5) (N := 8) o hb hts in5 tyX5 tyX5_ok hown (hts (.classLink RX8 21 RX5) (by decide +kernel)) (hts (.instantiable RX5 8) (by decide +kernel)) (hts (.initialized RX5) (by decide +kernel)) rfl (by decide) (fun j hj => by rcases (show j = 0 ∨ j = 1 ∨ j = 2 ∨ j = 3 ∨ j = 4 ∨ j = 5 ∨ j = 6 ∨ j = 7 by omega) with rfl | rfl | rfl | rfl | rfl | rfl | rfl | rfl <;> rfl) dX8_init_63 h (fun q25 x26 h => ?_)
    refine k_dup o hb dX8_init_66 ?_
    refine k_run_v o (fun _ _ q => q.elim) (k_runIN (host := RX11) o hb B.hml hown hts (T_X5_init g.l o.hl g.D g.cA h) yX_no ⟨va_cnB 0 hts gX8_init_X5_init_n34 rfl rfl rfl o.hZ.2.2.1.2.2.2.2.2.1 (hts (.initialized RX5) (by decide +kernel)) (by decide +kernel) ⟨yle B.hR1 rfl, yle B.hR2 rfl⟩, rfl, hts (.instanceMethod yX5_init) (by decide +kernel)⟩ rfl rfl (Nat.le_of_ble_eq_true rfl) dX8_init_67) (fun x27 h => ?_)
    refine k_aast (kd := 26) (ci := 5) (t0 := 5) (rc := (RX5, TX5, 8)) o hb rfl (by decide) (by decide) rfl dX8_init_70 h (fun x29 h => ?_)
    refine k_iinc (w := 1) o hb dX8_init_71 1 rfl (by decide) rfl ?_
    refine k_goto (tgt := 52) o hb dX8_init_74 (by decide) ?_
    exact KW.sub [1, 0] rfl (ih21 (v23 + 1) x29 h)
theorem dX8_valueOf_0 : decode cX8_valueOf 0 = .ok (.aload_n 1, 1) := by decide +kernel
theorem dX8_valueOf_1 : decode cX8_valueOf 1 = .ok (.getfield 138, 3) := by decide +kernel
theorem dX8_valueOf_4 : decode cX8_valueOf 4 = .ok (.iload_n 2, 1) := by decide +kernel
theorem dX8_valueOf_5 : decode cX8_valueOf 5 = .ok (.iaload, 1) := by decide +kernel
theorem dX8_valueOf_6 : decode cX8_valueOf 6 = .ok (.iconst 1, 1) := by decide +kernel
theorem dX8_valueOf_7 : decode cX8_valueOf 7 = .ok (.if_icmp .ne 17, 3) := by decide +kernel
theorem dX8_valueOf_10 : decode cX8_valueOf 10 = .ok (.aload_n 0, 1) := by decide +kernel
theorem dX8_valueOf_11 : decode cX8_valueOf 11 = .ok (.getfield 27, 3) := by decide +kernel
theorem dX8_valueOf_14 : decode cX8_valueOf 14 = .ok (.aload_n 1, 1) := by decide +kernel
theorem dX8_valueOf_15 : decode cX8_valueOf 15 = .ok (.getfield 141, 3) := by decide +kernel
theorem dX8_valueOf_18 : decode cX8_valueOf 18 = .ok (.iload_n 2, 1) := by decide +kernel
theorem dX8_valueOf_19 : decode cX8_valueOf 19 = .ok (.iaload, 1) := by decide +kernel
theorem dX8_valueOf_20 : decode cX8_valueOf 20 = .ok (.iaload, 1) := by decide +kernel
theorem dX8_valueOf_21 : decode cX8_valueOf 21 = .ok (.goto 9, 3) := by decide +kernel
theorem dX8_valueOf_24 : decode cX8_valueOf 24 = .ok (.aload_n 1, 1) := by decide +kernel
theorem dX8_valueOf_25 : decode cX8_valueOf 25 = .ok (.getfield 141, 3) := by decide +kernel
theorem dX8_valueOf_28 : decode cX8_valueOf 28 = .ok (.iload_n 2, 1) := by decide +kernel
theorem dX8_valueOf_29 : decode cX8_valueOf 29 = .ok (.iaload, 1) := by decide +kernel
theorem dX8_valueOf_30 : decode cX8_valueOf 30 = .ok (.ireturn, 1) := by decide +kernel
set_option maxHeartbeats 4000000 in
set_option maxRecDepth 100000 in
theorem T_X8_valueOf (l : Launch) (hl : l.stackTraces = false) (D : va_G) (cA : Nat → ClassId) {l0 : Option Nat} {l1 : Option Nat} {l2 : Int32} {x : HS} {Q : Int32 → HS → Prop} {X : String → HS → Prop} (h : w_X8_valueOf l0 l1 l2 x Q X) : YI l yX8_valueOf wsX8_valueOf 0 0 D cA [.q l0, .q l1, .i l2] x Q X := by
  refine YI.of (cc := cX8_valueOf) (maxL := 3) (ret := (some .int)) hl (by decide) rfl rfl (fun g B fr => ?_)
  have o := B.o
  have hb := B.hb
  have hts := B.hts
  have hown : g.s.vm.findClass RX8 = some g.m.cls := B.hown
  have in2 : ∀ w ∈ u_ws RX2 TX2 6, w ∈ wsX8_valueOf := fun w h => (List.mem_cons_of_mem _ (List.mem_append_left _ (List.mem_append_right _ h)))
  have in8 : ∀ w ∈ u_ws RX8 TX8 8, w ∈ wsX8_valueOf := fun w h => (List.mem_cons_of_mem _ (List.mem_append_right _ h))
  unfold w_X8_valueOf at h
  show KW g 3 0 [(0, .q l0), (1, .q l1), (2, .i l2)] [] x
  refine k_aload_n o hb dX8_valueOf_0 rfl 1 rfl ?_
  refine k_getF (C := RX2) (T := TX2) (N := 6) o hb hts in2 hown rfl (by decide) 0 (by decide) rfl (hts (.fieldLink RX8 138 "FactKeeper$Goal" "kinds" "[I") (by decide +kernel)) (fun _ h9 => h9) dX8_valueOf_1 h (fun v1 h => ?_)
  refine k_iload_n o hb dX8_valueOf_4 rfl 2 rfl ?_
  refine k_iald o hb dX8_valueOf_5 h (fun v2 h => ?_)
  refine k_iconst (v := 1) o hb dX8_valueOf_6 (by decide) ?_
  refine wJoin_elim (M := fun K => ∀ (v5 : Int32) (x4 : HS), K v5 x4 → KW g 3 30 [] [.i v5] x4) h ?_ (fun j3 hj3 h => ?_)
  · skip
    intro v5 x4 h
    exact k_iret o hb B.hr fr dX8_valueOf_30 h
  · skip
    refine k_icmp_ne (tgt := 24) o hb dX8_valueOf_7 (by decide) h (fun h => ?_) (fun h => ?_)
    · skip
      refine k_aload_n o hb dX8_valueOf_10 rfl 0 rfl ?_
      refine k_getF (C := RX8) (T := TX8) (N := 8) o hb hts in8 hown rfl (by decide) 4 (by decide) rfl (hts (.fieldLink RX8 27 "FactKeeper$Solver" "variables" "[I") (by decide +kernel)) (fun _ h9 => h9) dX8_valueOf_11 h (fun v6 h => ?_)
      refine k_aload_n o hb dX8_valueOf_14 rfl 1 rfl ?_
      refine k_getF (C := RX2) (T := TX2) (N := 6) o hb hts in2 hown rfl (by decide) 1 (by decide) rfl (hts (.fieldLink RX8 141 "FactKeeper$Goal" "args" "[I") (by decide +kernel)) (fun _ h9 => h9) dX8_valueOf_15 h (fun v7 h => ?_)
      refine k_iload_n o hb dX8_valueOf_18 rfl 2 rfl ?_
      refine k_iald o hb dX8_valueOf_19 h (fun v8 h => ?_)
      refine k_iald o hb dX8_valueOf_20 h (fun v9 h => ?_)
      refine k_goto (tgt := 30) o hb dX8_valueOf_21 (by decide) ?_
      exact KW.sub [] rfl (hj3 v9 x h)
    · skip
      refine k_aload_n o hb dX8_valueOf_24 rfl 1 rfl ?_
      refine k_getF (C := RX2) (T := TX2) (N := 6) o hb hts in2 hown rfl (by decide) 1 (by decide) rfl (hts (.fieldLink RX8 141 "FactKeeper$Goal" "args" "[I") (by decide +kernel)) (fun _ h9 => h9) dX8_valueOf_25 h (fun v10 h => ?_)
      refine k_iload_n o hb dX8_valueOf_28 rfl 2 rfl ?_
      refine k_iald o hb dX8_valueOf_29 h (fun v11 h => ?_)
      exact KW.sub [] rfl (hj3 v11 x h)
theorem dX8_beginLook_0 : decode cX8_beginLook 0 = .ok (.iconst 0, 1) := by decide +kernel
theorem dX8_beginLook_1 : decode cX8_beginLook 1 = .ok (.istore_n 3, 1) := by decide +kernel
theorem dX8_beginLook_2 : decode cX8_beginLook 2 = .ok (.iload_n 3, 1) := by decide +kernel
theorem dX8_beginLook_3 : decode cX8_beginLook 3 = .ok (.iconst 4, 1) := by decide +kernel
theorem dX8_beginLook_4 : decode cX8_beginLook 4 = .ok (.if_icmp .ge 36, 3) := by decide +kernel
theorem dX8_beginLook_7 : decode cX8_beginLook 7 = .ok (.aload_n 0, 1) := by decide +kernel
theorem dX8_beginLook_8 : decode cX8_beginLook 8 = .ok (.getfield 31, 3) := by decide +kernel
theorem dX8_beginLook_11 : decode cX8_beginLook 11 = .ok (.iload_n 3, 1) := by decide +kernel
theorem dX8_beginLook_12 : decode cX8_beginLook 12 = .ok (.aload_n 2, 1) := by decide +kernel
theorem dX8_beginLook_13 : decode cX8_beginLook 13 = .ok (.getfield 98, 3) := by decide +kernel
theorem dX8_beginLook_16 : decode cX8_beginLook 16 = .ok (.iload_n 3, 1) := by decide +kernel
theorem dX8_beginLook_17 : decode cX8_beginLook 17 = .ok (.invokestatic 101, 3) := by decide +kernel
theorem dX8_beginLook_20 : decode cX8_beginLook 20 = .ok (.ifCond .eq 12, 3) := by decide +kernel
theorem dX8_beginLook_23 : decode cX8_beginLook 23 = .ok (.aload_n 0, 1) := by decide +kernel
theorem dX8_beginLook_24 : decode cX8_beginLook 24 = .ok (.aload_n 2, 1) := by decide +kernel
theorem dX8_beginLook_25 : decode cX8_beginLook 25 = .ok (.iload_n 3, 1) := by decide +kernel
theorem dX8_beginLook_26 : decode cX8_beginLook 26 = .ok (.invokevirtual 91, 3) := by decide +kernel
theorem dX8_beginLook_29 : decode cX8_beginLook 29 = .ok (.goto 4, 3) := by decide +kernel
theorem dX8_beginLook_32 : decode cX8_beginLook 32 = .ok (.iconst 0, 1) := by decide +kernel
theorem dX8_beginLook_33 : decode cX8_beginLook 33 = .ok (.iastore, 1) := by decide +kernel
theorem dX8_beginLook_34 : decode cX8_beginLook 34 = .ok (.iinc 3 1, 3) := by decide +kernel
theorem dX8_beginLook_37 : decode cX8_beginLook 37 = .ok (.goto (-35), 3) := by decide +kernel
theorem dX8_beginLook_40 : decode cX8_beginLook 40 = .ok (.aload_n 1, 1) := by decide +kernel
theorem dX8_beginLook_41 : decode cX8_beginLook 41 = .ok (.aload_n 2, 1) := by decide +kernel
theorem dX8_beginLook_42 : decode cX8_beginLook 42 = .ok (.getfield 105, 3) := by decide +kernel
theorem dX8_beginLook_45 : decode cX8_beginLook 45 = .ok (.aload_n 2, 1) := by decide +kernel
theorem dX8_beginLook_46 : decode cX8_beginLook 46 = .ok (.getfield 98, 3) := by decide +kernel
theorem dX8_beginLook_49 : decode cX8_beginLook 49 = .ok (.aload_n 0, 1) := by decide +kernel
theorem dX8_beginLook_50 : decode cX8_beginLook 50 = .ok (.getfield 31, 3) := by decide +kernel
theorem dX8_beginLook_53 : decode cX8_beginLook 53 = .ok (.aload_n 0, 1) := by decide +kernel
theorem dX8_beginLook_54 : decode cX8_beginLook 54 = .ok (.getfield 39, 3) := by decide +kernel
theorem dX8_beginLook_57 : decode cX8_beginLook 57 = .ok (.invokevirtual 109, 3) := by decide +kernel
theorem dX8_beginLook_60 : decode cX8_beginLook 60 = .ok (.return_, 1) := by decide +kernel
theorem i9wsX8_beginLook_0 : ∀ w ∈ wsX8_beginLook_r1, w ∈ wsX8_beginLook := fun _ h => (List.mem_cons_of_mem _ (List.mem_append_left _ (List.mem_append_left _ (List.mem_append_left _ (List.mem_append_left _ (List.mem_append_left _ h))))))
set_option maxRecDepth 20000 in
theorem ggX8_beginLook_X11_isIn : GoodIn wsX8_beginLook wsX11_isIn := (gin_c (mem_at i9wsX8_beginLook_0 6 rfl) rfl gin_n)
set_option maxRecDepth 20000 in
theorem gX8_beginLook_X11_isIn_n101 : GoodIn wsX8_beginLook (wsX11_isIn) := ggX8_beginLook_X11_isIn
theorem i9wsX8_beginLook_3 : ∀ w ∈ wsX20, w ∈ wsX8_beginLook := fun _ h => (List.mem_cons_of_mem _ (List.mem_append_left _ (List.mem_append_left _ (List.mem_append_right _ h))))
theorem i9wsX8_beginLook_2 : ∀ w ∈ wsX80, w ∈ wsX8_beginLook := fun _ h => (List.mem_cons_of_mem _ (List.mem_append_left _ (List.mem_append_left _ (List.mem_append_left _ (List.mem_append_right _ h)))))
set_option maxRecDepth 20000 in
theorem ggX8_beginLook_X8_valueOf : GoodIn wsX8_beginLook wsX8_valueOf := (gin_c (mem_at i9wsX8_beginLook_0 11 rfl) rfl (goodIn_app (goodIn_app (gin_c (mem_at i9wsX8_beginLook_0 12 rfl) rfl (gin_c (mem_at i9wsX8_beginLook_0 13 rfl) rfl (gin_c (mem_at i9wsX8_beginLook_0 14 rfl) rfl gin_n))) (goodIn_sub i9wsX8_beginLook_3 g9_6)) (goodIn_sub i9wsX8_beginLook_2 g9_11)))
set_option maxRecDepth 20000 in
theorem gX8_beginLook_X8_valueOf : GoodIn wsX8_beginLook (wsV RX8 91 RX8 yX8_valueOf wsX8_valueOf) := goodIn_app (gin_c (mem_at i9wsX8_beginLook_0 7 rfl) rfl (gin_c (mem_at i9wsX8_beginLook_0 8 rfl) rfl (gin_c (mem_at i9wsX8_beginLook_0 9 rfl) rfl (gin_c (mem_at i9wsX8_beginLook_0 10 rfl) rfl gin_n)))) ggX8_beginLook_X8_valueOf
theorem i9wsX8_beginLook_1 : ∀ w ∈ wsX8_beginLook_r2, w ∈ wsX8_beginLook := fun _ h => (List.mem_cons_of_mem _ (List.mem_append_left _ (List.mem_append_left _ (List.mem_append_left _ (List.mem_append_left _ (List.mem_append_right _ h))))))
theorem i9wsX8_beginLook_4 : ∀ w ∈ wsX50, w ∈ wsX8_beginLook := fun _ h => (List.mem_cons_of_mem _ (List.mem_append_left _ (List.mem_append_right _ h)))
theorem i9wsX8_beginLook_5 : ∀ w ∈ wsX100, w ∈ wsX8_beginLook := fun _ h => (List.mem_cons_of_mem _ (List.mem_append_right _ h))
set_option maxRecDepth 20000 in
theorem ggX8_beginLook_X5_begin : GoodIn wsX8_beginLook wsX5_begin := (gin_c (mem_at i9wsX8_beginLook_0 19 rfl) rfl (goodIn_app (goodIn_app (gin_c (mem_at i9wsX8_beginLook_0 20 rfl) rfl (gin_c (mem_at i9wsX8_beginLook_0 21 rfl) rfl (gin_c (mem_at i9wsX8_beginLook_0 22 rfl) rfl (gin_c (mem_at i9wsX8_beginLook_0 23 rfl) rfl (gin_c (mem_at i9wsX8_beginLook_1 0 rfl) rfl (gin_c (mem_at i9wsX8_beginLook_1 1 rfl) rfl (gin_c (mem_at i9wsX8_beginLook_1 2 rfl) rfl (gin_c (mem_at i9wsX8_beginLook_1 3 rfl) rfl (gin_c (mem_at i9wsX8_beginLook_1 4 rfl) rfl (gin_c (mem_at i9wsX8_beginLook_1 5 rfl) rfl (gin_c (mem_at i9wsX8_beginLook_1 6 rfl) rfl (gin_c (mem_at i9wsX8_beginLook_1 7 rfl) rfl (gin_c (mem_at i9wsX8_beginLook_1 8 rfl) rfl (gin_c (mem_at i9wsX8_beginLook_1 9 rfl) rfl gin_n)))))))))))))) (goodIn_sub i9wsX8_beginLook_4 g9_10)) (goodIn_sub i9wsX8_beginLook_5 g9_3)))
set_option maxRecDepth 20000 in
theorem gX8_beginLook_X5_begin : GoodIn wsX8_beginLook (wsV RX8 109 RX5 yX5_begin wsX5_begin) := goodIn_app (gin_c (mem_at i9wsX8_beginLook_0 15 rfl) rfl (gin_c (mem_at i9wsX8_beginLook_0 16 rfl) rfl (gin_c (mem_at i9wsX8_beginLook_0 17 rfl) rfl (gin_c (mem_at i9wsX8_beginLook_0 18 rfl) rfl gin_n)))) ggX8_beginLook_X5_begin
set_option maxHeartbeats 4000000 in
set_option maxRecDepth 100000 in
theorem T_X8_beginLook (l : Launch) (hl : l.stackTraces = false) (D : va_G) (cA : Nat → ClassId) {l0 : Option Nat} {l1 : Option Nat} {l2 : Option Nat} {x : HS} {Q : HS → Prop} {X : String → HS → Prop} (h : w_X8_beginLook l0 l1 l2 x Q X) : YV l yX8_beginLook wsX8_beginLook 2 45 D cA [.q l0, .q l1, .q l2] x Q X := by
  refine YV.of (cc := cX8_beginLook) (maxL := 4) (ret := none) hl (by decide) rfl rfl (fun g B fr => ?_)
  have o := B.o
  have hb := B.hb
  have hts := B.hts
  have hown : g.s.vm.findClass RX8 = some g.m.cls := B.hown
  have in2 : ∀ w ∈ u_ws RX2 TX2 6, w ∈ wsX8_beginLook := fun w h => (List.mem_cons_of_mem _ (List.mem_append_left _ (List.mem_append_left _ (List.mem_append_right _ h))))
  have in8 : ∀ w ∈ u_ws RX8 TX8 8, w ∈ wsX8_beginLook := fun w h => (List.mem_cons_of_mem _ (List.mem_append_left _ (List.mem_append_left _ (List.mem_append_left _ (List.mem_append_right _ h)))))
  unfold w_X8_beginLook at h
  show KW g 4 0 [(0, .q l0), (1, .q l1), (2, .q l2)] [] x
  refine k_iconst (v := 0) o hb dX8_beginLook_0 (by decide) ?_
  refine k_istore_n o hb dX8_beginLook_1 rfl rfl ?_
  refine KW.sub [1, 2, 3, 0] rfl ?_
  refine wLoop_elim (M := fun (v4 : Int32) (x3 : HS) => KW g 4 2 [(0, .q l0), (1, .q l1), (2, .q l2), (3, .i v4)] [] x3) h ?_
  intro v4 x3 again1 ih2 h
  refine k_iload_n o hb dX8_beginLook_2 rfl 3 rfl ?_
  refine k_iconst (v := 4) o hb dX8_beginLook_3 (by decide) ?_
  refine k_icmp_ge (tgt := 40) o hb dX8_beginLook_4 (by decide) h (fun h => ?_) (fun h => ?_)
  · skip
    refine k_aload_n o hb dX8_beginLook_40 rfl 1 rfl ?_
    refine k_aload_n o hb dX8_beginLook_41 rfl 2 rfl ?_
    refine k_getF (C := RX2) (T := TX2) (N := 6) o hb hts in2 hown rfl (by decide) 3 (by decide) rfl (hts (.fieldLink RX8 105 "FactKeeper$Goal" "table" "LFactKeeper$Table;") (by decide +kernel)) (fun _ h9 => h9) dX8_beginLook_42 h (fun v5 h => ?_)
    refine k_aload_n o hb dX8_beginLook_45 rfl 2 rfl ?_
    refine k_getI (C := RX2) (T := TX2) (N := 6) o hb hts in2 hown rfl (by decide) 4 (by decide) rfl (hts (.fieldLink RX8 98 "FactKeeper$Goal" "mask" "I") (by decide +kernel)) (fun _ h9 => h9) dX8_beginLook_46 h (fun v6 h => ?_)
    refine k_aload_n o hb dX8_beginLook_49 rfl 0 rfl ?_
    refine k_getF (C := RX8) (T := TX8) (N := 8) o hb hts in8 hown rfl (by decide) 5 (by decide) rfl (hts (.fieldLink RX8 31 "FactKeeper$Solver" "wanted" "[I") (by decide +kernel)) (fun _ h9 => h9) dX8_beginLook_50 h (fun v7 h => ?_)
    refine k_aload_n o hb dX8_beginLook_53 rfl 0 rfl ?_
    refine k_getI (C := RX8) (T := TX8) (N := 8) o hb hts in8 hown rfl (by decide) 7 (by decide) rfl (hts (.fieldLink RX8 39 "FactKeeper$Solver" "time" "I") (by decide +kernel)) (fun _ h9 => h9) dX8_beginLook_54 h (fun v8 h => ?_)
    refine k_run_v o (fun _ _ q => q) (k_runV (ci := 5) (rc := (RX5, TX5, 8)) o hb B.hml hown hts rfl (by decide) (T_X5_begin g.l o.hl g.D g.cA h.2) (cwV 4 hts gX8_beginLook_X5_begin rfl rfl rfl (by decide +kernel) ⟨yle B.hR1 rfl, yle B.hR2 rfl⟩) h.1 rfl rfl (Nat.le_of_ble_eq_true rfl) dX8_beginLook_57) (fun x9 h => ?_)
    exact k_vret o hb B.hr fr dX8_beginLook_60 h
  · skip
    refine k_aload_n o hb dX8_beginLook_7 rfl 0 rfl ?_
    refine k_getF (C := RX8) (T := TX8) (N := 8) o hb hts in8 hown rfl (by decide) 5 (by decide) rfl (hts (.fieldLink RX8 31 "FactKeeper$Solver" "wanted" "[I") (by decide +kernel)) (fun _ h9 => h9) dX8_beginLook_8 h (fun v11 h => ?_)
    refine k_iload_n o hb dX8_beginLook_11 rfl 3 rfl ?_
    refine k_aload_n o hb dX8_beginLook_12 rfl 2 rfl ?_
    refine k_getI (C := RX2) (T := TX2) (N := 6) o hb hts in2 hown rfl (by decide) 4 (by decide) rfl (hts (.fieldLink RX8 98 "FactKeeper$Goal" "mask" "I") (by decide +kernel)) (fun _ h9 => h9) dX8_beginLook_13 h (fun v12 h => ?_)
    refine k_iload_n o hb dX8_beginLook_16 rfl 3 rfl ?_
    refine k_run_i o (fun _ _ q => q.elim) (k_runSN (host := RX11) o hb B.hml hown hts (T_X11_isIn g.l o.hl g.D g.cA h) yX_no ⟨va_cnB 2 hts gX8_beginLook_X11_isIn_n101 rfl rfl rfl o.hZ.2.2.1.2.2.2.2.2.2.2.2.2.2 (hts (.initialized RX11) (by decide +kernel)) (by decide +kernel) ⟨yle B.hR1 rfl, yle B.hR2 rfl⟩, hts (.static yX11_isIn) (by decide +kernel), trivial⟩ rfl rfl (Nat.le_of_ble_eq_true rfl) dX8_beginLook_17) (fun v14 x13 h => ?_)
    refine wJoin_elim (M := fun K => ∀ (v17 : Int32) (x16 : HS), K v17 x16 → KW g 4 33 [(0, .q l0), (1, .q l1), (2, .q l2), (3, .i v4)] [.i v17, .i v4, .q v11] x16) h ?_ (fun j15 hj15 h => ?_)
    · skip
      intro v17 x16 h
      refine k_iast o hb dX8_beginLook_33 h (fun x18 h => ?_)
      refine k_iinc (w := 1) o hb dX8_beginLook_34 3 rfl (by decide) rfl ?_
      refine k_goto (tgt := 2) o hb dX8_beginLook_37 (by decide) ?_
      exact KW.sub [1, 2, 3, 0] rfl (ih2 (v4 + 1) x18 h)
    · skip
      refine k_if_eq (tgt := 32) o hb dX8_beginLook_20 (by decide) h (fun h => ?_) (fun h => ?_)
      · skip
        refine k_iconst (v := 0) o hb dX8_beginLook_32 (by decide) ?_
        exact KW.sub [0, 1, 2, 3] rfl (hj15 0 x13 h)
      · skip
        refine k_aload_n o hb dX8_beginLook_23 rfl 0 rfl ?_
        refine k_aload_n o hb dX8_beginLook_24 rfl 2 rfl ?_
        refine k_iload_n o hb dX8_beginLook_25 rfl 3 rfl ?_
        refine k_run_i o (fun _ _ q => q) (k_runV (ci := 8) (rc := (RX8, TX8, 8)) o hb B.hml hown hts rfl (by decide) (T_X8_valueOf g.l o.hl g.D g.cA h.2) (cwV 2 hts gX8_beginLook_X8_valueOf rfl rfl rfl (by decide +kernel) ⟨yle B.hR1 rfl, yle B.hR2 rfl⟩) h.1 rfl rfl (Nat.le_of_ble_eq_true rfl) dX8_beginLook_26) (fun v20 x19 h => ?_)
        refine k_goto (tgt := 33) o hb dX8_beginLook_29 (by decide) ?_
        exact KW.sub [0, 1, 2, 3] rfl (hj15 v20 x19 h)
theorem dX8_bind_0 : decode cX8_bind 0 = .ok (.iconst 0, 1) := by decide +kernel
theorem dX8_bind_1 : decode cX8_bind 1 = .ok (.istore_n 3, 1) := by decide +kernel
theorem dX8_bind_2 : decode cX8_bind 2 = .ok (.iload_n 3, 1) := by decide +kernel
theorem dX8_bind_3 : decode cX8_bind 3 = .ok (.aload_n 1, 1) := by decide +kernel
theorem dX8_bind_4 : decode cX8_bind 4 = .ok (.getfield 105, 3) := by decide +kernel
theorem dX8_bind_7 : decode cX8_bind 7 = .ok (.getfield 133, 3) := by decide +kernel
theorem dX8_bind_10 : decode cX8_bind 10 = .ok (.if_icmp .ge 71, 3) := by decide +kernel
theorem dX8_bind_13 : decode cX8_bind 13 = .ok (.aload_n 1, 1) := by decide +kernel
theorem dX8_bind_14 : decode cX8_bind 14 = .ok (.getfield 138, 3) := by decide +kernel
theorem dX8_bind_17 : decode cX8_bind 17 = .ok (.iload_n 3, 1) := by decide +kernel
theorem dX8_bind_18 : decode cX8_bind 18 = .ok (.iaload, 1) := by decide +kernel
theorem dX8_bind_19 : decode cX8_bind 19 = .ok (.iconst 2, 1) := by decide +kernel
theorem dX8_bind_20 : decode cX8_bind 20 = .ok (.if_icmp .ne 23, 3) := by decide +kernel
theorem dX8_bind_23 : decode cX8_bind 23 = .ok (.aload_n 0, 1) := by decide +kernel
theorem dX8_bind_24 : decode cX8_bind 24 = .ok (.getfield 27, 3) := by decide +kernel
theorem dX8_bind_27 : decode cX8_bind 27 = .ok (.aload_n 1, 1) := by decide +kernel
theorem dX8_bind_28 : decode cX8_bind 28 = .ok (.getfield 141, 3) := by decide +kernel
theorem dX8_bind_31 : decode cX8_bind 31 = .ok (.iload_n 3, 1) := by decide +kernel
theorem dX8_bind_32 : decode cX8_bind 32 = .ok (.iaload, 1) := by decide +kernel
theorem dX8_bind_33 : decode cX8_bind 33 = .ok (.aload_n 2, 1) := by decide +kernel
theorem dX8_bind_34 : decode cX8_bind 34 = .ok (.getfield 144, 3) := by decide +kernel
theorem dX8_bind_37 : decode cX8_bind 37 = .ok (.iload_n 3, 1) := by decide +kernel
theorem dX8_bind_38 : decode cX8_bind 38 = .ok (.iaload, 1) := by decide +kernel
theorem dX8_bind_39 : decode cX8_bind 39 = .ok (.iastore, 1) := by decide +kernel
theorem dX8_bind_40 : decode cX8_bind 40 = .ok (.goto 35, 3) := by decide +kernel
theorem dX8_bind_43 : decode cX8_bind 43 = .ok (.aload_n 1, 1) := by decide +kernel
theorem dX8_bind_44 : decode cX8_bind 44 = .ok (.getfield 138, 3) := by decide +kernel
theorem dX8_bind_47 : decode cX8_bind 47 = .ok (.iload_n 3, 1) := by decide +kernel
theorem dX8_bind_48 : decode cX8_bind 48 = .ok (.iaload, 1) := by decide +kernel
theorem dX8_bind_49 : decode cX8_bind 49 = .ok (.iconst 3, 1) := by decide +kernel
theorem dX8_bind_50 : decode cX8_bind 50 = .ok (.if_icmp .ne 25, 3) := by decide +kernel
theorem dX8_bind_53 : decode cX8_bind 53 = .ok (.aload_n 0, 1) := by decide +kernel
theorem dX8_bind_54 : decode cX8_bind 54 = .ok (.getfield 27, 3) := by decide +kernel
theorem dX8_bind_57 : decode cX8_bind 57 = .ok (.aload_n 1, 1) := by decide +kernel
theorem dX8_bind_58 : decode cX8_bind 58 = .ok (.getfield 141, 3) := by decide +kernel
theorem dX8_bind_61 : decode cX8_bind 61 = .ok (.iload_n 3, 1) := by decide +kernel
theorem dX8_bind_62 : decode cX8_bind 62 = .ok (.iaload, 1) := by decide +kernel
theorem dX8_bind_63 : decode cX8_bind 63 = .ok (.iaload, 1) := by decide +kernel
theorem dX8_bind_64 : decode cX8_bind 64 = .ok (.aload_n 2, 1) := by decide +kernel
theorem dX8_bind_65 : decode cX8_bind 65 = .ok (.getfield 144, 3) := by decide +kernel
theorem dX8_bind_68 : decode cX8_bind 68 = .ok (.iload_n 3, 1) := by decide +kernel
theorem dX8_bind_69 : decode cX8_bind 69 = .ok (.iaload, 1) := by decide +kernel
theorem dX8_bind_70 : decode cX8_bind 70 = .ok (.if_icmp .eq 5, 3) := by decide +kernel
theorem dX8_bind_73 : decode cX8_bind 73 = .ok (.iconst 0, 1) := by decide +kernel
theorem dX8_bind_74 : decode cX8_bind 74 = .ok (.ireturn, 1) := by decide +kernel
theorem dX8_bind_75 : decode cX8_bind 75 = .ok (.iinc 3 1, 3) := by decide +kernel
theorem dX8_bind_78 : decode cX8_bind 78 = .ok (.goto (-76), 3) := by decide +kernel
theorem dX8_bind_81 : decode cX8_bind 81 = .ok (.iconst 1, 1) := by decide +kernel
theorem dX8_bind_82 : decode cX8_bind 82 = .ok (.ireturn, 1) := by decide +kernel
set_option maxHeartbeats 4000000 in
set_option maxRecDepth 100000 in
theorem T_X8_bind (l : Launch) (hl : l.stackTraces = false) (D : va_G) (cA : Nat → ClassId) {l0 : Option Nat} {l1 : Option Nat} {l2 : Option Nat} {x : HS} {Q : Int32 → HS → Prop} {X : String → HS → Prop} (h : w_X8_bind l0 l1 l2 x Q X) : YI l yX8_bind wsX8_bind 0 0 D cA [.q l0, .q l1, .q l2] x Q X := by
  refine YI.of (cc := cX8_bind) (maxL := 4) (ret := (some .boolean)) hl (by decide) rfl rfl (fun g B fr => ?_)
  have o := B.o
  have hb := B.hb
  have hts := B.hts
  have hown : g.s.vm.findClass RX8 = some g.m.cls := B.hown
  have in1 : ∀ w ∈ u_ws RX1 TX1 7, w ∈ wsX8_bind := fun w h => (List.mem_cons_of_mem _ (List.mem_append_right _ h))
  have in2 : ∀ w ∈ u_ws RX2 TX2 6, w ∈ wsX8_bind := fun w h => (List.mem_cons_of_mem _ (List.mem_append_left _ (List.mem_append_left _ (List.mem_append_left _ (List.mem_append_right _ h)))))
  have in8 : ∀ w ∈ u_ws RX8 TX8 8, w ∈ wsX8_bind := fun w h => (List.mem_cons_of_mem _ (List.mem_append_left _ (List.mem_append_right _ h)))
  have in10 : ∀ w ∈ u_ws RX10 TX10 6, w ∈ wsX8_bind := fun w h => (List.mem_cons_of_mem _ (List.mem_append_left _ (List.mem_append_left _ (List.mem_append_right _ h))))
  unfold w_X8_bind at h
  show KW g 4 0 [(0, .q l0), (1, .q l1), (2, .q l2)] [] x
  refine k_iconst (v := 0) o hb dX8_bind_0 (by decide) ?_
  refine k_istore_n o hb dX8_bind_1 rfl rfl ?_
  refine KW.sub [1, 2, 3, 0] rfl ?_
  refine wLoop_elim (M := fun (v4 : Int32) (x3 : HS) => KW g 4 2 [(0, .q l0), (1, .q l1), (2, .q l2), (3, .i v4)] [] x3) h ?_
  intro v4 x3 again1 ih2 h
  refine k_iload_n o hb dX8_bind_2 rfl 3 rfl ?_
  refine k_aload_n o hb dX8_bind_3 rfl 1 rfl ?_
  refine k_getF (C := RX2) (T := TX2) (N := 6) o hb hts in2 hown rfl (by decide) 3 (by decide) rfl (hts (.fieldLink RX8 105 "FactKeeper$Goal" "table" "LFactKeeper$Table;") (by decide +kernel)) (fun _ h9 => h9) dX8_bind_4 h (fun v5 h => ?_)
  refine k_getI (C := RX10) (T := TX10) (N := 6) o hb hts in10 hown rfl (by decide) 1 (by decide) rfl (hts (.fieldLink RX8 133 "FactKeeper$Table" "columns" "I") (by decide +kernel)) (fun _ h9 => h9) dX8_bind_7 h (fun v6 h => ?_)
  refine k_icmp_ge (tgt := 81) o hb dX8_bind_10 (by decide) h (fun h => ?_) (fun h => ?_)
  · skip
    refine k_iconst (v := 1) o hb dX8_bind_81 (by decide) ?_
    exact k_zret o hb B.hr fr dX8_bind_82 h
  · skip
    refine k_aload_n o hb dX8_bind_13 rfl 1 rfl ?_
    refine k_getF (C := RX2) (T := TX2) (N := 6) o hb hts in2 hown rfl (by decide) 0 (by decide) rfl (hts (.fieldLink RX8 138 "FactKeeper$Goal" "kinds" "[I") (by decide +kernel)) (fun _ h9 => h9) dX8_bind_14 h (fun v7 h => ?_)
    refine k_iload_n o hb dX8_bind_17 rfl 3 rfl ?_
    refine k_iald o hb dX8_bind_18 h (fun v8 h => ?_)
    refine k_iconst (v := 2) o hb dX8_bind_19 (by decide) ?_
    refine wJoin_elim (M := fun K => ∀  (x10 : HS), K  x10 → KW g 4 75 [(0, .q l0), (1, .q l1), (2, .q l2), (3, .i v4)] [] x10) h ?_ (fun j9 hj9 h => ?_)
    · skip
      intro  x10 h
      refine k_iinc (w := 1) o hb dX8_bind_75 3 rfl (by decide) rfl ?_
      refine k_goto (tgt := 2) o hb dX8_bind_78 (by decide) ?_
      exact KW.sub [1, 2, 3, 0] rfl (ih2 (v4 + 1) x10 h)
    · skip
      refine k_icmp_ne (tgt := 43) o hb dX8_bind_20 (by decide) h (fun h => ?_) (fun h => ?_)
      · skip
        refine k_aload_n o hb dX8_bind_23 rfl 0 rfl ?_
        refine k_getF (C := RX8) (T := TX8) (N := 8) o hb hts in8 hown rfl (by decide) 4 (by decide) rfl (hts (.fieldLink RX8 27 "FactKeeper$Solver" "variables" "[I") (by decide +kernel)) (fun _ h9 => h9) dX8_bind_24 h (fun v11 h => ?_)
        refine k_aload_n o hb dX8_bind_27 rfl 1 rfl ?_
        refine k_getF (C := RX2) (T := TX2) (N := 6) o hb hts in2 hown rfl (by decide) 1 (by decide) rfl (hts (.fieldLink RX8 141 "FactKeeper$Goal" "args" "[I") (by decide +kernel)) (fun _ h9 => h9) dX8_bind_28 h (fun v12 h => ?_)
        refine k_iload_n o hb dX8_bind_31 rfl 3 rfl ?_
        refine k_iald o hb dX8_bind_32 h (fun v13 h => ?_)
        refine k_aload_n o hb dX8_bind_33 rfl 2 rfl ?_
        refine k_getF (C := RX1) (T := TX1) (N := 7) o hb hts in1 hown rfl (by decide) 0 (by decide) rfl (hts (.fieldLink RX8 144 "FactKeeper$Fact" "columns" "[I") (by decide +kernel)) (fun _ h9 => h9) dX8_bind_34 h (fun v14 h => ?_)
        refine k_iload_n o hb dX8_bind_37 rfl 3 rfl ?_
        refine k_iald o hb dX8_bind_38 h (fun v15 h => ?_)
        refine k_iast o hb dX8_bind_39 h (fun x16 h => ?_)
        refine k_goto (tgt := 75) o hb dX8_bind_40 (by decide) ?_
        exact KW.sub [0, 1, 2, 3] rfl (hj9 x16 h)
      · skip
        refine k_aload_n o hb dX8_bind_43 rfl 1 rfl ?_
        refine k_getF (C := RX2) (T := TX2) (N := 6) o hb hts in2 hown rfl (by decide) 0 (by decide) rfl (hts (.fieldLink RX8 138 "FactKeeper$Goal" "kinds" "[I") (by decide +kernel)) (fun _ h9 => h9) dX8_bind_44 h (fun v17 h => ?_)
        refine k_iload_n o hb dX8_bind_47 rfl 3 rfl ?_
        refine k_iald o hb dX8_bind_48 h (fun v18 h => ?_)
        refine k_iconst (v := 3) o hb dX8_bind_49 (by decide) ?_
        refine k_icmp_ne (tgt := 75) o hb dX8_bind_50 (by decide) h (fun h => ?_) (fun h => ?_)
        · skip
          refine k_aload_n o hb dX8_bind_53 rfl 0 rfl ?_
          refine k_getF (C := RX8) (T := TX8) (N := 8) o hb hts in8 hown rfl (by decide) 4 (by decide) rfl (hts (.fieldLink RX8 27 "FactKeeper$Solver" "variables" "[I") (by decide +kernel)) (fun _ h9 => h9) dX8_bind_54 h (fun v19 h => ?_)
          refine k_aload_n o hb dX8_bind_57 rfl 1 rfl ?_
          refine k_getF (C := RX2) (T := TX2) (N := 6) o hb hts in2 hown rfl (by decide) 1 (by decide) rfl (hts (.fieldLink RX8 141 "FactKeeper$Goal" "args" "[I") (by decide +kernel)) (fun _ h9 => h9) dX8_bind_58 h (fun v20 h => ?_)
          refine k_iload_n o hb dX8_bind_61 rfl 3 rfl ?_
          refine k_iald o hb dX8_bind_62 h (fun v21 h => ?_)
          refine k_iald o hb dX8_bind_63 h (fun v22 h => ?_)
          refine k_aload_n o hb dX8_bind_64 rfl 2 rfl ?_
          refine k_getF (C := RX1) (T := TX1) (N := 7) o hb hts in1 hown rfl (by decide) 0 (by decide) rfl (hts (.fieldLink RX8 144 "FactKeeper$Fact" "columns" "[I") (by decide +kernel)) (fun _ h9 => h9) dX8_bind_65 h (fun v23 h => ?_)
          refine k_iload_n o hb dX8_bind_68 rfl 3 rfl ?_
          refine k_iald o hb dX8_bind_69 h (fun v24 h => ?_)
          refine k_icmp_eq (tgt := 75) o hb dX8_bind_70 (by decide) h (fun h => ?_) (fun h => ?_)
          · skip
            exact KW.sub [0, 1, 2, 3] rfl (hj9 x3 h)
          · skip
            refine k_iconst (v := 0) o hb dX8_bind_73 (by decide) ?_
            exact k_zret o hb B.hr fr dX8_bind_74 h
        · skip
          exact KW.sub [0, 1, 2, 3] rfl (hj9 x3 h)
theorem dX8_advanceTo_0 : decode cX8_advanceTo 0 = .ok (.iconst 0, 1) := by decide +kernel
theorem dX8_advanceTo_1 : decode cX8_advanceTo 1 = .ok (.istore_n 3, 1) := by decide +kernel
theorem dX8_advanceTo_2 : decode cX8_advanceTo 2 = .ok (.iload_n 3, 1) := by decide +kernel
theorem dX8_advanceTo_3 : decode cX8_advanceTo 3 = .ok (.sipush 3000, 3) := by decide +kernel
theorem dX8_advanceTo_6 : decode cX8_advanceTo 6 = .ok (.if_icmp .ge 66, 3) := by decide +kernel
theorem dX8_advanceTo_9 : decode cX8_advanceTo 9 = .ok (.aload_n 1, 1) := by decide +kernel
theorem dX8_advanceTo_10 : decode cX8_advanceTo 10 = .ok (.invokevirtual 113, 3) := by decide +kernel
theorem dX8_advanceTo_13 : decode cX8_advanceTo 13 = .ok (.astore 4, 2) := by decide +kernel
theorem dX8_advanceTo_15 : decode cX8_advanceTo 15 = .ok (.aload_n 0, 1) := by decide +kernel
theorem dX8_advanceTo_16 : decode cX8_advanceTo 16 = .ok (.dup, 1) := by decide +kernel
theorem dX8_advanceTo_17 : decode cX8_advanceTo 17 = .ok (.getfield 43, 3) := by decide +kernel
theorem dX8_advanceTo_20 : decode cX8_advanceTo 20 = .ok (.aload_n 1, 1) := by decide +kernel
theorem dX8_advanceTo_21 : decode cX8_advanceTo 21 = .ok (.invokevirtual 117, 3) := by decide +kernel
theorem dX8_advanceTo_24 : decode cX8_advanceTo 24 = .ok (.iadd, 1) := by decide +kernel
theorem dX8_advanceTo_25 : decode cX8_advanceTo 25 = .ok (.putfield 43, 3) := by decide +kernel
theorem dX8_advanceTo_28 : decode cX8_advanceTo 28 = .ok (.aload_n 0, 1) := by decide +kernel
theorem dX8_advanceTo_29 : decode cX8_advanceTo 29 = .ok (.getfield 43, 3) := by decide +kernel
theorem dX8_advanceTo_32 : decode cX8_advanceTo 32 = .ok (.ldc 121, 2) := by decide +kernel
theorem dX8_advanceTo_34 : decode cX8_advanceTo 34 = .ok (.if_icmp .le 13, 3) := by decide +kernel
theorem dX8_advanceTo_37 : decode cX8_advanceTo 37 = .ok (.new 122, 3) := by decide +kernel
theorem dX8_advanceTo_40 : decode cX8_advanceTo 40 = .ok (.dup, 1) := by decide +kernel
theorem dX8_advanceTo_41 : decode cX8_advanceTo 41 = .ok (.ldc 124, 2) := by decide +kernel
theorem dX8_advanceTo_43 : decode cX8_advanceTo 43 = .ok (.invokespecial 126, 3) := by decide +kernel
theorem dX8_advanceTo_46 : decode cX8_advanceTo 46 = .ok (.athrow, 1) := by decide +kernel
theorem dX8_advanceTo_47 : decode cX8_advanceTo 47 = .ok (.aload 4, 2) := by decide +kernel
theorem dX8_advanceTo_49 : decode cX8_advanceTo 49 = .ok (.ifnonnull 5, 3) := by decide +kernel
theorem dX8_advanceTo_52 : decode cX8_advanceTo 52 = .ok (.iconst 0, 1) := by decide +kernel
theorem dX8_advanceTo_53 : decode cX8_advanceTo 53 = .ok (.ireturn, 1) := by decide +kernel
theorem dX8_advanceTo_54 : decode cX8_advanceTo 54 = .ok (.aload_n 0, 1) := by decide +kernel
theorem dX8_advanceTo_55 : decode cX8_advanceTo 55 = .ok (.aload_n 2, 1) := by decide +kernel
theorem dX8_advanceTo_56 : decode cX8_advanceTo 56 = .ok (.aload 4, 2) := by decide +kernel
theorem dX8_advanceTo_58 : decode cX8_advanceTo 58 = .ok (.invokevirtual 129, 3) := by decide +kernel
theorem dX8_advanceTo_61 : decode cX8_advanceTo 61 = .ok (.ifCond .eq 5, 3) := by decide +kernel
theorem dX8_advanceTo_64 : decode cX8_advanceTo 64 = .ok (.iconst 1, 1) := by decide +kernel
theorem dX8_advanceTo_65 : decode cX8_advanceTo 65 = .ok (.ireturn, 1) := by decide +kernel
theorem dX8_advanceTo_66 : decode cX8_advanceTo 66 = .ok (.iinc 3 1, 3) := by decide +kernel
theorem dX8_advanceTo_69 : decode cX8_advanceTo 69 = .ok (.goto (-67), 3) := by decide +kernel
theorem dX8_advanceTo_72 : decode cX8_advanceTo 72 = .ok (.iconst 0, 1) := by decide +kernel
theorem dX8_advanceTo_73 : decode cX8_advanceTo 73 = .ok (.ireturn, 1) := by decide +kernel
theorem i9wsX8_advanceTo_0 : ∀ w ∈ wsX8_advanceTo_r1, w ∈ wsX8_advanceTo := fun _ h => (List.mem_cons_of_mem _ (List.mem_append_left _ (List.mem_append_left _ (List.mem_append_left _ (List.mem_append_left _ (List.mem_append_left _ (List.mem_append_left _ (List.mem_append_left _ (List.mem_append_left _ (List.mem_append_left _ h))))))))))
theorem i9wsX8_advanceTo_1 : ∀ w ∈ wsX8_advanceTo_r2, w ∈ wsX8_advanceTo := fun _ h => (List.mem_cons_of_mem _ (List.mem_append_left _ (List.mem_append_left _ (List.mem_append_left _ (List.mem_append_left _ (List.mem_append_left _ (List.mem_append_left _ (List.mem_append_left _ (List.mem_append_left _ (List.mem_append_right _ (List.mem_append_left _ h)))))))))))
theorem i9wsX8_advanceTo_2 : ∀ w ∈ wsX8_advanceTo_r3, w ∈ wsX8_advanceTo := fun _ h => (List.mem_cons_of_mem _ (List.mem_append_left _ (List.mem_append_left _ (List.mem_append_left _ (List.mem_append_left _ (List.mem_append_left _ (List.mem_append_left _ (List.mem_append_left _ (List.mem_append_left _ (List.mem_append_right _ (List.mem_append_right _ h)))))))))))
theorem i9wsX8_advanceTo_4 : ∀ w ∈ wsX50, w ∈ wsX8_advanceTo := fun _ h => (List.mem_cons_of_mem _ (List.mem_append_left _ (List.mem_append_left _ (List.mem_append_left _ (List.mem_append_left _ (List.mem_append_left _ (List.mem_append_left _ (List.mem_append_right _ h))))))))
theorem i9wsX8_advanceTo_5 : ∀ w ∈ wsX10, w ∈ wsX8_advanceTo := fun _ h => (List.mem_cons_of_mem _ (List.mem_append_left _ (List.mem_append_left _ (List.mem_append_left _ (List.mem_append_left _ (List.mem_append_left _ (List.mem_append_right _ h)))))))
theorem i9wsX8_advanceTo_6 : ∀ w ∈ wsX100, w ∈ wsX8_advanceTo := fun _ h => (List.mem_cons_of_mem _ (List.mem_append_left _ (List.mem_append_left _ (List.mem_append_left _ (List.mem_append_left _ (List.mem_append_right _ h))))))
theorem i9wsX8_advanceTo_7 : ∀ w ∈ wsX00, w ∈ wsX8_advanceTo := fun _ h => (List.mem_cons_of_mem _ (List.mem_append_left _ (List.mem_append_left _ (List.mem_append_left _ (List.mem_append_right _ h)))))
theorem i9wsX8_advanceTo_8 : ∀ w ∈ wsX40, w ∈ wsX8_advanceTo := fun _ h => (List.mem_cons_of_mem _ (List.mem_append_left _ (List.mem_append_left _ (List.mem_append_right _ h))))
set_option maxRecDepth 20000 in
theorem ggX8_advanceTo_X5_advance : GoodIn wsX8_advanceTo wsX5_advance := (gin_c (mem_at i9wsX8_advanceTo_0 8 rfl) rfl (goodIn_app (goodIn_app (goodIn_app (goodIn_app (goodIn_app (goodIn_app (gin_c (mem_at i9wsX8_advanceTo_0 9 rfl) rfl (gin_c (mem_at i9wsX8_advanceTo_0 10 rfl) rfl (gin_c (mem_at i9wsX8_advanceTo_0 11 rfl) rfl (gin_c (mem_at i9wsX8_advanceTo_0 12 rfl) rfl (gin_c (mem_at i9wsX8_advanceTo_0 13 rfl) rfl (gin_c (mem_at i9wsX8_advanceTo_0 14 rfl) rfl (gin_c (mem_at i9wsX8_advanceTo_0 15 rfl) rfl (gin_c (mem_at i9wsX8_advanceTo_0 16 rfl) rfl (gin_c (mem_at i9wsX8_advanceTo_0 17 rfl) rfl (gin_c (mem_at i9wsX8_advanceTo_0 18 rfl) rfl (gin_c (mem_at i9wsX8_advanceTo_0 19 rfl) rfl (gin_c (mem_at i9wsX8_advanceTo_0 20 rfl) rfl (gin_c (mem_at i9wsX8_advanceTo_0 21 rfl) rfl (gin_c (mem_at i9wsX8_advanceTo_0 22 rfl) rfl (gin_c (mem_at i9wsX8_advanceTo_0 23 rfl) rfl (gin_c (mem_at i9wsX8_advanceTo_1 0 rfl) rfl (gin_c (mem_at i9wsX8_advanceTo_1 1 rfl) rfl (gin_c (mem_at i9wsX8_advanceTo_1 2 rfl) rfl (gin_c (mem_at i9wsX8_advanceTo_1 3 rfl) rfl (gin_c (mem_at i9wsX8_advanceTo_1 4 rfl) rfl (gin_c (mem_at i9wsX8_advanceTo_1 5 rfl) rfl (gin_c (mem_at i9wsX8_advanceTo_1 6 rfl) rfl (gin_c (mem_at i9wsX8_advanceTo_1 7 rfl) rfl (gin_c (mem_at i9wsX8_advanceTo_1 8 rfl) rfl gin_n)))))))))))))))))))))))) (gin_c (mem_at i9wsX8_advanceTo_1 9 rfl) rfl (gin_c (mem_at i9wsX8_advanceTo_1 10 rfl) rfl (gin_c (mem_at i9wsX8_advanceTo_1 11 rfl) rfl (gin_c (mem_at i9wsX8_advanceTo_1 12 rfl) rfl (gin_c (mem_at i9wsX8_advanceTo_1 13 rfl) rfl (gin_c (mem_at i9wsX8_advanceTo_1 14 rfl) rfl (gin_c (mem_at i9wsX8_advanceTo_1 15 rfl) rfl (gin_c (mem_at i9wsX8_advanceTo_1 16 rfl) rfl (gin_c (mem_at i9wsX8_advanceTo_1 17 rfl) rfl (gin_c (mem_at i9wsX8_advanceTo_1 18 rfl) rfl (gin_c (mem_at i9wsX8_advanceTo_1 19 rfl) rfl (gin_c (mem_at i9wsX8_advanceTo_1 20 rfl) rfl (gin_c (mem_at i9wsX8_advanceTo_1 21 rfl) rfl (gin_c (mem_at i9wsX8_advanceTo_1 22 rfl) rfl (gin_c (mem_at i9wsX8_advanceTo_1 23 rfl) rfl (gin_c (mem_at i9wsX8_advanceTo_2 0 rfl) rfl (gin_c (mem_at i9wsX8_advanceTo_2 1 rfl) rfl (gin_c (mem_at i9wsX8_advanceTo_2 2 rfl) rfl (gin_c (mem_at i9wsX8_advanceTo_2 3 rfl) rfl (gin_c (mem_at i9wsX8_advanceTo_2 4 rfl) rfl (gin_c (mem_at i9wsX8_advanceTo_2 5 rfl) rfl gin_n)))))))))))))))))))))) (goodIn_sub i9wsX8_advanceTo_4 g9_10)) (goodIn_sub i9wsX8_advanceTo_5 g9_0)) (goodIn_sub i9wsX8_advanceTo_6 g9_3)) (goodIn_sub i9wsX8_advanceTo_7 g9_1)) (goodIn_sub i9wsX8_advanceTo_8 g9_2)))
set_option maxRecDepth 20000 in
theorem gX8_advanceTo_X5_advance : GoodIn wsX8_advanceTo (wsV RX8 113 RX5 yX5_advance wsX5_advance) := goodIn_app (gin_c (mem_at i9wsX8_advanceTo_0 4 rfl) rfl (gin_c (mem_at i9wsX8_advanceTo_0 5 rfl) rfl (gin_c (mem_at i9wsX8_advanceTo_0 6 rfl) rfl (gin_c (mem_at i9wsX8_advanceTo_0 7 rfl) rfl gin_n)))) ggX8_advanceTo_X5_advance
set_option maxRecDepth 20000 in
theorem ggX8_advanceTo_X5_takeLookedAt : GoodIn wsX8_advanceTo wsX5_takeLookedAt := (gin_c (mem_at i9wsX8_advanceTo_2 9 rfl) rfl (goodIn_app (gin_c (mem_at i9wsX8_advanceTo_0 15 rfl) rfl gin_n) (goodIn_sub i9wsX8_advanceTo_4 g9_10)))
set_option maxRecDepth 20000 in
theorem gX8_advanceTo_X5_takeLookedAt : GoodIn wsX8_advanceTo (wsV RX8 117 RX5 yX5_takeLookedAt wsX5_takeLookedAt) := goodIn_app (gin_c (mem_at i9wsX8_advanceTo_2 6 rfl) rfl (gin_c (mem_at i9wsX8_advanceTo_2 7 rfl) rfl (gin_c (mem_at i9wsX8_advanceTo_2 8 rfl) rfl (gin_c (mem_at i9wsX8_advanceTo_0 7 rfl) rfl gin_n)))) ggX8_advanceTo_X5_takeLookedAt
theorem i9wsX8_advanceTo_9 : ∀ w ∈ wsX20, w ∈ wsX8_advanceTo := fun _ h => (List.mem_cons_of_mem _ (List.mem_append_left _ (List.mem_append_right _ h)))
theorem i9wsX8_advanceTo_3 : ∀ w ∈ wsX80, w ∈ wsX8_advanceTo := fun _ h => (List.mem_cons_of_mem _ (List.mem_append_left _ (List.mem_append_left _ (List.mem_append_left _ (List.mem_append_left _ (List.mem_append_left _ (List.mem_append_left _ (List.mem_append_left _ (List.mem_append_right _ h)))))))))
set_option maxRecDepth 20000 in
theorem ggX8_advanceTo_X8_bind : GoodIn wsX8_advanceTo wsX8_bind := (gin_c (mem_at i9wsX8_advanceTo_2 14 rfl) rfl (goodIn_app (goodIn_app (goodIn_app (goodIn_app (gin_c (mem_at i9wsX8_advanceTo_2 15 rfl) rfl (gin_c (mem_at i9wsX8_advanceTo_2 16 rfl) rfl (gin_c (mem_at i9wsX8_advanceTo_2 17 rfl) rfl (gin_c (mem_at i9wsX8_advanceTo_2 18 rfl) rfl (gin_c (mem_at i9wsX8_advanceTo_2 19 rfl) rfl (gin_c (mem_at i9wsX8_advanceTo_2 20 rfl) rfl gin_n)))))) (goodIn_sub i9wsX8_advanceTo_9 g9_6)) (goodIn_sub i9wsX8_advanceTo_6 g9_3)) (goodIn_sub i9wsX8_advanceTo_3 g9_11)) (goodIn_sub i9wsX8_advanceTo_5 g9_0)))
set_option maxRecDepth 20000 in
theorem gX8_advanceTo_X8_bind : GoodIn wsX8_advanceTo (wsV RX8 129 RX8 yX8_bind wsX8_bind) := goodIn_app (gin_c (mem_at i9wsX8_advanceTo_2 10 rfl) rfl (gin_c (mem_at i9wsX8_advanceTo_2 11 rfl) rfl (gin_c (mem_at i9wsX8_advanceTo_2 12 rfl) rfl (gin_c (mem_at i9wsX8_advanceTo_2 13 rfl) rfl gin_n)))) ggX8_advanceTo_X8_bind
set_option maxHeartbeats 4000000 in
set_option maxRecDepth 100000 in
theorem T_X8_advanceTo (l : Launch) (hl : l.stackTraces = false) (D : va_G) (cA : Nat → ClassId) {l0 : Option Nat} {l1 : Option Nat} {l2 : Option Nat} {x : HS} {Q : Int32 → HS → Prop} {X : String → HS → Prop} (h : w_X8_advanceTo l0 l1 l2 x Q X) : YI l yX8_advanceTo wsX8_advanceTo 6 90 D cA [.q l0, .q l1, .q l2] x Q X := by
  refine YI.of (cc := cX8_advanceTo) (maxL := 5) (ret := (some .boolean)) hl (by decide) rfl rfl (fun g B fr => ?_)
  have o := B.o
  have hb := B.hb
  have hts := B.hts
  have hown : g.s.vm.findClass RX8 = some g.m.cls := B.hown
  have in8 : ∀ w ∈ u_ws RX8 TX8 8, w ∈ wsX8_advanceTo := fun w h => (List.mem_cons_of_mem _ (List.mem_append_left _ (List.mem_append_left _ (List.mem_append_left _ (List.mem_append_left _ (List.mem_append_left _ (List.mem_append_left _ (List.mem_append_left _ (List.mem_append_right _ h)))))))))
  unfold w_X8_advanceTo at h
  show KW g 5 0 [(0, .q l0), (1, .q l1), (2, .q l2)] [] x
  refine k_iconst (v := 0) o hb dX8_advanceTo_0 (by decide) ?_
  refine k_istore_n o hb dX8_advanceTo_1 rfl rfl ?_
  refine KW.sub [1, 2, 3, 0] rfl ?_
  refine wLoop_elim (M := fun (v4 : Int32) (x3 : HS) => KW g 5 2 [(0, .q l0), (1, .q l1), (2, .q l2), (3, .i v4)] [] x3) h ?_
  intro v4 x3 again1 ih2 h
  refine k_iload_n o hb dX8_advanceTo_2 rfl 3 rfl ?_
  refine k_sipush (v := 3000) o hb dX8_advanceTo_3 (by decide) ?_
  refine k_icmp_ge (tgt := 72) o hb dX8_advanceTo_6 (by decide) h (fun h => ?_) (fun h => ?_)
  · skip
    refine k_iconst (v := 0) o hb dX8_advanceTo_72 (by decide) ?_
    exact k_zret o hb B.hr fr dX8_advanceTo_73 h
  · skip
    refine k_aload_n o hb dX8_advanceTo_9 rfl 1 rfl ?_
    refine k_run_q o (fun _ _ q => q) (k_runV (ci := 5) (rc := (RX5, TX5, 8)) o hb B.hml hown hts rfl (by decide) (T_X5_advance g.l o.hl g.D g.cA h.2) (cwV 0 hts gX8_advanceTo_X5_advance rfl rfl rfl (by decide +kernel) ⟨yle B.hR1 rfl, yle B.hR2 rfl⟩) h.1 rfl rfl (Nat.le_of_ble_eq_true rfl) dX8_advanceTo_10) (fun v6 x5 h => ?_)
    refine k_astore o hb dX8_advanceTo_13 rfl ?_
    refine k_aload_n o hb dX8_advanceTo_15 rfl 1 rfl ?_
    refine k_dup o hb dX8_advanceTo_16 ?_
    refine k_getI (C := RX8) (T := TX8) (N := 8) o hb hts in8 hown rfl (by decide) 1 (by decide) rfl (hts (.fieldLink RX8 43 "FactKeeper$Solver" "lookedAt" "I") (by decide +kernel)) (fun _ h9 => h9) dX8_advanceTo_17 h (fun v7 h => ?_)
    refine k_aload_n o hb dX8_advanceTo_20 rfl 2 rfl ?_
    refine k_run_i o (fun _ _ q => q) (k_runV (ci := 5) (rc := (RX5, TX5, 8)) o hb B.hml hown hts rfl (by decide) (T_X5_takeLookedAt g.l o.hl g.D g.cA h.2) (cwV 0 hts gX8_advanceTo_X5_takeLookedAt rfl rfl rfl (by decide +kernel) ⟨yle B.hR1 rfl, yle B.hR2 rfl⟩) h.1 rfl rfl (Nat.le_of_ble_eq_true rfl) dX8_advanceTo_21) (fun v9 x8 h => ?_)
    refine k_iadd o hb dX8_advanceTo_24 ?_
    refine k_putI (C := RX8) (T := TX8) (N := 8) (ty := .int) o hb hts in8 tyX8 tyX8_ok nmX8 hown rfl (by decide) 1 (by decide) rfl (hts (.fieldLink RX8 43 "FactKeeper$Solver" "lookedAt" "I") (by decide +kernel)) (fun _ h9 => h9) rfl (by decide +kernel) (fun _ => rfl) (fun _ => rfl) dX8_advanceTo_25 h (fun x10 h => ?_)
    refine k_aload_n o hb dX8_advanceTo_28 rfl 1 rfl ?_
    refine k_getI (C := RX8) (T := TX8) (N := 8) o hb hts in8 hown rfl (by decide) 1 (by decide) rfl (hts (.fieldLink RX8 43 "FactKeeper$Solver" "lookedAt" "I") (by decide +kernel)) (fun _ h9 => h9) dX8_advanceTo_29 h (fun v11 h => ?_)
    refine k_ldc (v := 50000) o hb hown (hts (.constant RX8 121 50000) (by decide +kernel)) dX8_advanceTo_32 ?_
    refine k_icmp_le (tgt := 47) o hb dX8_advanceTo_34 (by decide) h (fun h => ?_) (fun h => ?_)
    · skip
      refine k_aload o hb dX8_advanceTo_47 0 rfl ?_
      refine k_ifnonnull (tgt := 54) o hb dX8_advanceTo_49 (by decide) h (fun h => ?_) (fun h => ?_)
      · skip
        refine k_iconst (v := 0) o hb dX8_advanceTo_52 (by decide) ?_
        exact k_zret o hb B.hr fr dX8_advanceTo_53 h
      · skip
        refine k_aload_n o hb dX8_advanceTo_54 rfl 1 rfl ?_
        refine k_aload_n o hb dX8_advanceTo_55 rfl 3 rfl ?_
        refine k_aload o hb dX8_advanceTo_56 0 rfl ?_
        refine k_run_i o (fun _ _ q => q) (k_runV (ci := 8) (rc := (RX8, TX8, 8)) o hb B.hml hown hts rfl (by decide) (T_X8_bind g.l o.hl g.D g.cA h.2) (cwV 2 hts gX8_advanceTo_X8_bind rfl rfl rfl (by decide +kernel) ⟨yle B.hR1 rfl, yle B.hR2 rfl⟩) h.1 rfl rfl (Nat.le_of_ble_eq_true rfl) dX8_advanceTo_58) (fun v13 x12 h => ?_)
        refine k_if_eq (tgt := 66) o hb dX8_advanceTo_61 (by decide) h (fun h => ?_) (fun h => ?_)
        · skip
          refine k_iinc (w := 1) o hb dX8_advanceTo_66 4 rfl (by decide) rfl ?_
          refine k_goto (tgt := 2) o hb dX8_advanceTo_69 (by decide) ?_
          exact KW.sub [2, 3, 4, 0] rfl (ih2 (v4 + 1) x12 h)
        · skip
          refine k_iconst (v := 1) o hb dX8_advanceTo_64 (by decide) ?_
          exact k_zret o hb B.hr fr dX8_advanceTo_65 h
    · skip
      refine k_throw (E := eAE) o (fun H locs cells slots mc ms ls XC hls hS hc1 hs1 hc2 hs2 hx9 => ?_) h
      obtain ⟨sa, hsa⟩ := o.hZ.2.2.2.2.2.2.1.2.2.2.2.2.2.2.2.2.2.2.2.2.2.2.2
      exact vx_throwS (cls := eAE) (names := eSup) (A := g.A) o.hx hb o.hl hown (by decide +kernel) (by decide +kernel) (hts (.classLink RX8 122 "java/lang/ArithmeticException") (by decide +kernel)) (hts (.initialized "java/lang/ArithmeticException") (by decide +kernel)) hsa (tx_at hts (fun w h => (List.mem_cons_of_mem _ (List.mem_append_right _ h))) (by decide +kernel) o.hZ.2.2.2.1.2.2.2.2.2 o.hZ.2.2.2.2.2.2.2) (by decide +kernel) o.hZ.1 o.hZ.2.1 hS (hls.trans B.hml.symm) dX8_advanceTo_37 dX8_advanceTo_40 dX8_advanceTo_41 dX8_advanceTo_43 dX8_advanceTo_46 (fun x h => (o.htb x h).elim) (ylt B.hR1 rfl) (by rw [lq_cats]; exact yle B.hR2 rfl) hc1 hs1 o.hlk (fun t ha h1 h2 => hx9 t ha h1 h2) hS.2.2 hc2 hs2
theorem dX8_holds_0 : decode cX8_holds 0 = .ok (.aload_n 1, 1) := by decide +kernel
theorem dX8_holds_1 : decode cX8_holds 1 = .ok (.getfield 70, 3) := by decide +kernel
theorem dX8_holds_4 : decode cX8_holds 4 = .ok (.bipush 33, 2) := by decide +kernel
theorem dX8_holds_6 : decode cX8_holds 6 = .ok (.if_icmp .ne 34, 3) := by decide +kernel
theorem dX8_holds_9 : decode cX8_holds 9 = .ok (.aload_n 0, 1) := by decide +kernel
theorem dX8_holds_10 : decode cX8_holds 10 = .ok (.aload_n 0, 1) := by decide +kernel
theorem dX8_holds_11 : decode cX8_holds 11 = .ok (.getfield 23, 3) := by decide +kernel
theorem dX8_holds_14 : decode cX8_holds 14 = .ok (.iload_n 2, 1) := by decide +kernel
theorem dX8_holds_15 : decode cX8_holds 15 = .ok (.aaload, 1) := by decide +kernel
theorem dX8_holds_16 : decode cX8_holds 16 = .ok (.aload_n 1, 1) := by decide +kernel
theorem dX8_holds_17 : decode cX8_holds 17 = .ok (.invokevirtual 83, 3) := by decide +kernel
theorem dX8_holds_20 : decode cX8_holds 20 = .ok (.aload_n 0, 1) := by decide +kernel
theorem dX8_holds_21 : decode cX8_holds 21 = .ok (.aload_n 0, 1) := by decide +kernel
theorem dX8_holds_22 : decode cX8_holds 22 = .ok (.getfield 23, 3) := by decide +kernel
theorem dX8_holds_25 : decode cX8_holds 25 = .ok (.iload_n 2, 1) := by decide +kernel
theorem dX8_holds_26 : decode cX8_holds 26 = .ok (.aaload, 1) := by decide +kernel
theorem dX8_holds_27 : decode cX8_holds 27 = .ok (.aload_n 1, 1) := by decide +kernel
theorem dX8_holds_28 : decode cX8_holds 28 = .ok (.invokevirtual 87, 3) := by decide +kernel
theorem dX8_holds_31 : decode cX8_holds 31 = .ok (.ifCond .ne 7, 3) := by decide +kernel
theorem dX8_holds_34 : decode cX8_holds 34 = .ok (.iconst 1, 1) := by decide +kernel
theorem dX8_holds_35 : decode cX8_holds 35 = .ok (.goto 4, 3) := by decide +kernel
theorem dX8_holds_38 : decode cX8_holds 38 = .ok (.iconst 0, 1) := by decide +kernel
theorem dX8_holds_39 : decode cX8_holds 39 = .ok (.ireturn, 1) := by decide +kernel
theorem dX8_holds_40 : decode cX8_holds 40 = .ok (.aload_n 0, 1) := by decide +kernel
theorem dX8_holds_41 : decode cX8_holds 41 = .ok (.aload_n 1, 1) := by decide +kernel
theorem dX8_holds_42 : decode cX8_holds 42 = .ok (.iconst 0, 1) := by decide +kernel
theorem dX8_holds_43 : decode cX8_holds 43 = .ok (.invokevirtual 91, 3) := by decide +kernel
theorem dX8_holds_46 : decode cX8_holds 46 = .ok (.istore_n 3, 1) := by decide +kernel
theorem dX8_holds_47 : decode cX8_holds 47 = .ok (.aload_n 0, 1) := by decide +kernel
theorem dX8_holds_48 : decode cX8_holds 48 = .ok (.aload_n 1, 1) := by decide +kernel
theorem dX8_holds_49 : decode cX8_holds 49 = .ok (.iconst 1, 1) := by decide +kernel
theorem dX8_holds_50 : decode cX8_holds 50 = .ok (.invokevirtual 91, 3) := by decide +kernel
theorem dX8_holds_53 : decode cX8_holds 53 = .ok (.istore 4, 2) := by decide +kernel
theorem dX8_holds_55 : decode cX8_holds 55 = .ok (.aload_n 1, 1) := by decide +kernel
theorem dX8_holds_56 : decode cX8_holds 56 = .ok (.getfield 70, 3) := by decide +kernel
theorem dX8_holds_59 : decode cX8_holds 59 = .ok (.lookupswitch 115 #[(35, 73), (43, 85), (45, 100), (60, 49), (61, 61)], 49) := by decide +kernel
theorem dX8_holds_108 : decode cX8_holds 108 = .ok (.iload_n 3, 1) := by decide +kernel
theorem dX8_holds_109 : decode cX8_holds 109 = .ok (.iload 4, 2) := by decide +kernel
theorem dX8_holds_111 : decode cX8_holds 111 = .ok (.if_icmp .ge 7, 3) := by decide +kernel
theorem dX8_holds_114 : decode cX8_holds 114 = .ok (.iconst 1, 1) := by decide +kernel
theorem dX8_holds_115 : decode cX8_holds 115 = .ok (.goto 4, 3) := by decide +kernel
theorem dX8_holds_118 : decode cX8_holds 118 = .ok (.iconst 0, 1) := by decide +kernel
theorem dX8_holds_119 : decode cX8_holds 119 = .ok (.ireturn, 1) := by decide +kernel
theorem dX8_holds_120 : decode cX8_holds 120 = .ok (.iload_n 3, 1) := by decide +kernel
theorem dX8_holds_121 : decode cX8_holds 121 = .ok (.iload 4, 2) := by decide +kernel
theorem dX8_holds_123 : decode cX8_holds 123 = .ok (.if_icmp .ne 7, 3) := by decide +kernel
theorem dX8_holds_126 : decode cX8_holds 126 = .ok (.iconst 1, 1) := by decide +kernel
theorem dX8_holds_127 : decode cX8_holds 127 = .ok (.goto 4, 3) := by decide +kernel
theorem dX8_holds_130 : decode cX8_holds 130 = .ok (.iconst 0, 1) := by decide +kernel
theorem dX8_holds_131 : decode cX8_holds 131 = .ok (.ireturn, 1) := by decide +kernel
theorem dX8_holds_132 : decode cX8_holds 132 = .ok (.iload_n 3, 1) := by decide +kernel
theorem dX8_holds_133 : decode cX8_holds 133 = .ok (.iload 4, 2) := by decide +kernel
theorem dX8_holds_135 : decode cX8_holds 135 = .ok (.if_icmp .eq 7, 3) := by decide +kernel
theorem dX8_holds_138 : decode cX8_holds 138 = .ok (.iconst 1, 1) := by decide +kernel
theorem dX8_holds_139 : decode cX8_holds 139 = .ok (.goto 4, 3) := by decide +kernel
theorem dX8_holds_142 : decode cX8_holds 142 = .ok (.iconst 0, 1) := by decide +kernel
theorem dX8_holds_143 : decode cX8_holds 143 = .ok (.ireturn, 1) := by decide +kernel
theorem dX8_holds_144 : decode cX8_holds 144 = .ok (.aload_n 0, 1) := by decide +kernel
theorem dX8_holds_145 : decode cX8_holds 145 = .ok (.getfield 27, 3) := by decide +kernel
theorem dX8_holds_148 : decode cX8_holds 148 = .ok (.aload_n 1, 1) := by decide +kernel
theorem dX8_holds_149 : decode cX8_holds 149 = .ok (.getfield 95, 3) := by decide +kernel
theorem dX8_holds_152 : decode cX8_holds 152 = .ok (.iload_n 3, 1) := by decide +kernel
theorem dX8_holds_153 : decode cX8_holds 153 = .ok (.iload 4, 2) := by decide +kernel
theorem dX8_holds_155 : decode cX8_holds 155 = .ok (.iadd, 1) := by decide +kernel
theorem dX8_holds_156 : decode cX8_holds 156 = .ok (.iastore, 1) := by decide +kernel
theorem dX8_holds_157 : decode cX8_holds 157 = .ok (.iconst 1, 1) := by decide +kernel
theorem dX8_holds_158 : decode cX8_holds 158 = .ok (.ireturn, 1) := by decide +kernel
theorem dX8_holds_159 : decode cX8_holds 159 = .ok (.aload_n 0, 1) := by decide +kernel
theorem dX8_holds_160 : decode cX8_holds 160 = .ok (.getfield 27, 3) := by decide +kernel
theorem dX8_holds_163 : decode cX8_holds 163 = .ok (.aload_n 1, 1) := by decide +kernel
theorem dX8_holds_164 : decode cX8_holds 164 = .ok (.getfield 95, 3) := by decide +kernel
theorem dX8_holds_167 : decode cX8_holds 167 = .ok (.iload_n 3, 1) := by decide +kernel
theorem dX8_holds_168 : decode cX8_holds 168 = .ok (.iload 4, 2) := by decide +kernel
theorem dX8_holds_170 : decode cX8_holds 170 = .ok (.isub, 1) := by decide +kernel
theorem dX8_holds_171 : decode cX8_holds 171 = .ok (.iastore, 1) := by decide +kernel
theorem dX8_holds_172 : decode cX8_holds 172 = .ok (.iconst 1, 1) := by decide +kernel
theorem dX8_holds_173 : decode cX8_holds 173 = .ok (.ireturn, 1) := by decide +kernel
theorem dX8_holds_174 : decode cX8_holds 174 = .ok (.aload_n 0, 1) := by decide +kernel
theorem dX8_holds_175 : decode cX8_holds 175 = .ok (.getfield 27, 3) := by decide +kernel
theorem dX8_holds_178 : decode cX8_holds 178 = .ok (.aload_n 1, 1) := by decide +kernel
theorem dX8_holds_179 : decode cX8_holds 179 = .ok (.getfield 95, 3) := by decide +kernel
theorem dX8_holds_182 : decode cX8_holds 182 = .ok (.iload_n 3, 1) := by decide +kernel
theorem dX8_holds_183 : decode cX8_holds 183 = .ok (.iload 4, 2) := by decide +kernel
theorem dX8_holds_185 : decode cX8_holds 185 = .ok (.imul, 1) := by decide +kernel
theorem dX8_holds_186 : decode cX8_holds 186 = .ok (.iastore, 1) := by decide +kernel
theorem dX8_holds_187 : decode cX8_holds 187 = .ok (.iconst 1, 1) := by decide +kernel
theorem dX8_holds_188 : decode cX8_holds 188 = .ok (.ireturn, 1) := by decide +kernel
theorem i9wsX8_holds_0 : ∀ w ∈ wsX8_holds_r1, w ∈ wsX8_holds := fun _ h => (List.mem_cons_of_mem _ (List.mem_append_left _ (List.mem_append_left _ (List.mem_append_left _ (List.mem_append_left _ (List.mem_append_left _ (List.mem_append_left _ (List.mem_append_left _ (List.mem_append_left _ (List.mem_append_left _ h))))))))))
theorem i9wsX8_holds_1 : ∀ w ∈ wsX8_holds_r2, w ∈ wsX8_holds := fun _ h => (List.mem_cons_of_mem _ (List.mem_append_left _ (List.mem_append_left _ (List.mem_append_left _ (List.mem_append_left _ (List.mem_append_left _ (List.mem_append_left _ (List.mem_append_left _ (List.mem_append_left _ (List.mem_append_right _ (List.mem_append_left _ h)))))))))))
theorem i9wsX8_holds_5 : ∀ w ∈ wsX80, w ∈ wsX8_holds := fun _ h => (List.mem_cons_of_mem _ (List.mem_append_left _ (List.mem_append_left _ (List.mem_append_left _ (List.mem_append_left _ (List.mem_append_left _ (List.mem_append_left _ (List.mem_append_right _ h))))))))
theorem i9wsX8_holds_4 : ∀ w ∈ wsX20, w ∈ wsX8_holds := fun _ h => (List.mem_cons_of_mem _ (List.mem_append_left _ (List.mem_append_left _ (List.mem_append_left _ (List.mem_append_left _ (List.mem_append_left _ (List.mem_append_left _ (List.mem_append_left _ (List.mem_append_right _ h)))))))))
theorem i9wsX8_holds_6 : ∀ w ∈ wsX50, w ∈ wsX8_holds := fun _ h => (List.mem_cons_of_mem _ (List.mem_append_left _ (List.mem_append_left _ (List.mem_append_left _ (List.mem_append_left _ (List.mem_append_left _ (List.mem_append_right _ h)))))))
theorem i9wsX8_holds_7 : ∀ w ∈ wsX100, w ∈ wsX8_holds := fun _ h => (List.mem_cons_of_mem _ (List.mem_append_left _ (List.mem_append_left _ (List.mem_append_left _ (List.mem_append_left _ (List.mem_append_right _ h))))))
set_option maxRecDepth 20000 in
theorem ggX8_holds_X8_beginLook : GoodIn wsX8_holds wsX8_beginLook := (gin_c (mem_at i9wsX8_holds_0 8 rfl) rfl (goodIn_app (goodIn_app (goodIn_app (goodIn_app (goodIn_app (gin_c (mem_at i9wsX8_holds_0 9 rfl) rfl (gin_c (mem_at i9wsX8_holds_0 10 rfl) rfl (gin_c (mem_at i9wsX8_holds_0 11 rfl) rfl (gin_c (mem_at i9wsX8_holds_0 12 rfl) rfl (gin_c (mem_at i9wsX8_holds_0 13 rfl) rfl (gin_c (mem_at i9wsX8_holds_0 14 rfl) rfl (gin_c (mem_at i9wsX8_holds_0 15 rfl) rfl (gin_c (mem_at i9wsX8_holds_0 16 rfl) rfl (gin_c (mem_at i9wsX8_holds_0 17 rfl) rfl (gin_c (mem_at i9wsX8_holds_0 18 rfl) rfl (gin_c (mem_at i9wsX8_holds_0 7 rfl) rfl (gin_c (mem_at i9wsX8_holds_0 19 rfl) rfl (gin_c (mem_at i9wsX8_holds_0 20 rfl) rfl (gin_c (mem_at i9wsX8_holds_0 2 rfl) rfl (gin_c (mem_at i9wsX8_holds_0 21 rfl) rfl (gin_c (mem_at i9wsX8_holds_0 22 rfl) rfl (gin_c (mem_at i9wsX8_holds_0 23 rfl) rfl (gin_c (mem_at i9wsX8_holds_1 0 rfl) rfl (gin_c (mem_at i9wsX8_holds_1 1 rfl) rfl (gin_c (mem_at i9wsX8_holds_1 2 rfl) rfl (gin_c (mem_at i9wsX8_holds_1 3 rfl) rfl (gin_c (mem_at i9wsX8_holds_1 4 rfl) rfl (gin_c (mem_at i9wsX8_holds_1 5 rfl) rfl (gin_c (mem_at i9wsX8_holds_1 6 rfl) rfl gin_n)))))))))))))))))))))))) (gin_c (mem_at i9wsX8_holds_1 7 rfl) rfl (gin_c (mem_at i9wsX8_holds_1 8 rfl) rfl (gin_c (mem_at i9wsX8_holds_1 9 rfl) rfl (gin_c (mem_at i9wsX8_holds_1 10 rfl) rfl (gin_c (mem_at i9wsX8_holds_1 11 rfl) rfl (gin_c (mem_at i9wsX8_holds_1 12 rfl) rfl (gin_c (mem_at i9wsX8_holds_1 13 rfl) rfl (gin_c (mem_at i9wsX8_holds_1 14 rfl) rfl (gin_c (mem_at i9wsX8_holds_1 15 rfl) rfl (gin_c (mem_at i9wsX8_holds_1 16 rfl) rfl gin_n))))))))))) (goodIn_sub i9wsX8_holds_5 g9_11)) (goodIn_sub i9wsX8_holds_4 g9_6)) (goodIn_sub i9wsX8_holds_6 g9_10)) (goodIn_sub i9wsX8_holds_7 g9_3)))
set_option maxRecDepth 20000 in
theorem gX8_holds_X8_beginLook : GoodIn wsX8_holds (wsV RX8 83 RX8 yX8_beginLook wsX8_beginLook) := goodIn_app (gin_c (mem_at i9wsX8_holds_0 4 rfl) rfl (gin_c (mem_at i9wsX8_holds_0 5 rfl) rfl (gin_c (mem_at i9wsX8_holds_0 6 rfl) rfl (gin_c (mem_at i9wsX8_holds_0 7 rfl) rfl gin_n)))) ggX8_holds_X8_beginLook
theorem i9wsX8_holds_2 : ∀ w ∈ wsX8_holds_r3, w ∈ wsX8_holds := fun _ h => (List.mem_cons_of_mem _ (List.mem_append_left _ (List.mem_append_left _ (List.mem_append_left _ (List.mem_append_left _ (List.mem_append_left _ (List.mem_append_left _ (List.mem_append_left _ (List.mem_append_left _ (List.mem_append_right _ (List.mem_append_right _ (List.mem_append_left _ h))))))))))))
theorem i9wsX8_holds_3 : ∀ w ∈ wsX8_holds_r4, w ∈ wsX8_holds := fun _ h => (List.mem_cons_of_mem _ (List.mem_append_left _ (List.mem_append_left _ (List.mem_append_left _ (List.mem_append_left _ (List.mem_append_left _ (List.mem_append_left _ (List.mem_append_left _ (List.mem_append_left _ (List.mem_append_right _ (List.mem_append_right _ (List.mem_append_right _ h))))))))))))
theorem i9wsX8_holds_8 : ∀ w ∈ wsX10, w ∈ wsX8_holds := fun _ h => (List.mem_cons_of_mem _ (List.mem_append_left _ (List.mem_append_left _ (List.mem_append_left _ (List.mem_append_right _ h)))))
theorem i9wsX8_holds_9 : ∀ w ∈ wsX00, w ∈ wsX8_holds := fun _ h => (List.mem_cons_of_mem _ (List.mem_append_left _ (List.mem_append_left _ (List.mem_append_right _ h))))
theorem i9wsX8_holds_10 : ∀ w ∈ wsX40, w ∈ wsX8_holds := fun _ h => (List.mem_cons_of_mem _ (List.mem_append_left _ (List.mem_append_right _ h)))
theorem i9wsX8_holds_11 : ∀ w ∈ ((vx_atS RX8 126 "java/lang/ArithmeticException" ["java/lang/RuntimeException", "java/lang/Exception"]).filter goodWord), w ∈ wsX8_holds := fun _ h => (List.mem_cons_of_mem _ (List.mem_append_right _ h))
set_option maxRecDepth 20000 in
theorem ggX8_holds_X8_advanceTo : GoodIn wsX8_holds wsX8_advanceTo := (gin_c (mem_at i9wsX8_holds_1 20 rfl) rfl (goodIn_app (goodIn_app (goodIn_app (goodIn_app (goodIn_app (goodIn_app (goodIn_app (goodIn_app (goodIn_app (gin_c (mem_at i9wsX8_holds_1 21 rfl) rfl (gin_c (mem_at i9wsX8_holds_1 22 rfl) rfl (gin_c (mem_at i9wsX8_holds_1 23 rfl) rfl (gin_c (mem_at i9wsX8_holds_2 0 rfl) rfl (gin_c (mem_at i9wsX8_holds_2 1 rfl) rfl (gin_c (mem_at i9wsX8_holds_2 2 rfl) rfl (gin_c (mem_at i9wsX8_holds_2 3 rfl) rfl (gin_c (mem_at i9wsX8_holds_1 1 rfl) rfl (gin_c (mem_at i9wsX8_holds_2 4 rfl) rfl (gin_c (mem_at i9wsX8_holds_1 7 rfl) rfl (gin_c (mem_at i9wsX8_holds_1 3 rfl) rfl (gin_c (mem_at i9wsX8_holds_1 4 rfl) rfl (gin_c (mem_at i9wsX8_holds_1 6 rfl) rfl (gin_c (mem_at i9wsX8_holds_1 10 rfl) rfl (gin_c (mem_at i9wsX8_holds_2 5 rfl) rfl (gin_c (mem_at i9wsX8_holds_1 9 rfl) rfl (gin_c (mem_at i9wsX8_holds_1 5 rfl) rfl (gin_c (mem_at i9wsX8_holds_1 8 rfl) rfl (gin_c (mem_at i9wsX8_holds_2 6 rfl) rfl (gin_c (mem_at i9wsX8_holds_2 7 rfl) rfl (gin_c (mem_at i9wsX8_holds_2 8 rfl) rfl (gin_c (mem_at i9wsX8_holds_1 14 rfl) rfl (gin_c (mem_at i9wsX8_holds_2 9 rfl) rfl (gin_c (mem_at i9wsX8_holds_1 16 rfl) rfl gin_n)))))))))))))))))))))))) (goodIn_app (gin_c (mem_at i9wsX8_holds_2 10 rfl) rfl (gin_c (mem_at i9wsX8_holds_0 13 rfl) rfl (gin_c (mem_at i9wsX8_holds_0 14 rfl) rfl (gin_c (mem_at i9wsX8_holds_0 15 rfl) rfl (gin_c (mem_at i9wsX8_holds_2 11 rfl) rfl (gin_c (mem_at i9wsX8_holds_2 12 rfl) rfl (gin_c (mem_at i9wsX8_holds_2 13 rfl) rfl (gin_c (mem_at i9wsX8_holds_2 14 rfl) rfl (gin_c (mem_at i9wsX8_holds_2 15 rfl) rfl (gin_c (mem_at i9wsX8_holds_2 16 rfl) rfl (gin_c (mem_at i9wsX8_holds_2 17 rfl) rfl (gin_c (mem_at i9wsX8_holds_2 18 rfl) rfl (gin_c (mem_at i9wsX8_holds_2 19 rfl) rfl (gin_c (mem_at i9wsX8_holds_2 20 rfl) rfl (gin_c (mem_at i9wsX8_holds_2 21 rfl) rfl (gin_c (mem_at i9wsX8_holds_2 22 rfl) rfl (gin_c (mem_at i9wsX8_holds_2 23 rfl) rfl (gin_c (mem_at i9wsX8_holds_3 0 rfl) rfl (gin_c (mem_at i9wsX8_holds_3 1 rfl) rfl (gin_c (mem_at i9wsX8_holds_3 2 rfl) rfl (gin_c (mem_at i9wsX8_holds_3 3 rfl) rfl (gin_c (mem_at i9wsX8_holds_3 4 rfl) rfl (gin_c (mem_at i9wsX8_holds_3 5 rfl) rfl (gin_c (mem_at i9wsX8_holds_3 6 rfl) rfl gin_n)))))))))))))))))))))))) (gin_c (mem_at i9wsX8_holds_3 7 rfl) rfl (gin_c (mem_at i9wsX8_holds_3 8 rfl) rfl (gin_c (mem_at i9wsX8_holds_3 9 rfl) rfl (gin_c (mem_at i9wsX8_holds_3 10 rfl) rfl (gin_c (mem_at i9wsX8_holds_3 11 rfl) rfl (gin_c (mem_at i9wsX8_holds_3 12 rfl) rfl (gin_c (mem_at i9wsX8_holds_3 13 rfl) rfl (gin_c (mem_at i9wsX8_holds_3 14 rfl) rfl (gin_c (mem_at i9wsX8_holds_3 15 rfl) rfl (gin_c (mem_at i9wsX8_holds_3 16 rfl) rfl (gin_c (mem_at i9wsX8_holds_3 17 rfl) rfl (gin_c (mem_at i9wsX8_holds_3 18 rfl) rfl (gin_c (mem_at i9wsX8_holds_3 19 rfl) rfl (gin_c (mem_at i9wsX8_holds_0 7 rfl) rfl (gin_c (mem_at i9wsX8_holds_3 20 rfl) rfl (gin_c (mem_at i9wsX8_holds_0 11 rfl) rfl (gin_c (mem_at i9wsX8_holds_3 21 rfl) rfl (gin_c (mem_at i9wsX8_holds_0 20 rfl) rfl (gin_c (mem_at i9wsX8_holds_0 2 rfl) rfl (gin_c (mem_at i9wsX8_holds_0 21 rfl) rfl (gin_c (mem_at i9wsX8_holds_3 22 rfl) rfl gin_n))))))))))))))))))))))) (goodIn_sub i9wsX8_holds_5 g9_11)) (goodIn_sub i9wsX8_holds_6 g9_10)) (goodIn_sub i9wsX8_holds_8 g9_0)) (goodIn_sub i9wsX8_holds_7 g9_3)) (goodIn_sub i9wsX8_holds_9 g9_1)) (goodIn_sub i9wsX8_holds_10 g9_2)) (goodIn_sub i9wsX8_holds_4 g9_6)) (goodIn_sub i9wsX8_holds_11 g9_12)))
set_option maxRecDepth 20000 in
theorem gX8_holds_X8_advanceTo : GoodIn wsX8_holds (wsV RX8 87 RX8 yX8_advanceTo wsX8_advanceTo) := goodIn_app (gin_c (mem_at i9wsX8_holds_1 17 rfl) rfl (gin_c (mem_at i9wsX8_holds_1 18 rfl) rfl (gin_c (mem_at i9wsX8_holds_1 19 rfl) rfl (gin_c (mem_at i9wsX8_holds_0 7 rfl) rfl gin_n)))) ggX8_holds_X8_advanceTo
set_option maxRecDepth 20000 in
theorem ggX8_holds_X8_valueOf : GoodIn wsX8_holds wsX8_valueOf := (gin_c (mem_at i9wsX8_holds_0 19 rfl) rfl (goodIn_app (goodIn_app (gin_c (mem_at i9wsX8_holds_0 20 rfl) rfl (gin_c (mem_at i9wsX8_holds_0 2 rfl) rfl (gin_c (mem_at i9wsX8_holds_0 21 rfl) rfl gin_n))) (goodIn_sub i9wsX8_holds_4 g9_6)) (goodIn_sub i9wsX8_holds_5 g9_11)))
set_option maxRecDepth 20000 in
theorem gX8_holds_X8_valueOf : GoodIn wsX8_holds (wsV RX8 91 RX8 yX8_valueOf wsX8_valueOf) := goodIn_app (gin_c (mem_at i9wsX8_holds_0 16 rfl) rfl (gin_c (mem_at i9wsX8_holds_0 17 rfl) rfl (gin_c (mem_at i9wsX8_holds_0 18 rfl) rfl (gin_c (mem_at i9wsX8_holds_0 7 rfl) rfl gin_n)))) ggX8_holds_X8_valueOf
set_option maxHeartbeats 4000000 in
set_option maxRecDepth 100000 in
theorem T_X8_holds (l : Launch) (hl : l.stackTraces = false) (D : va_G) (cA : Nat → ClassId) {l0 : Option Nat} {l1 : Option Nat} {l2 : Int32} {x : HS} {Q : Int32 → HS → Prop} {X : String → HS → Prop} (h : w_X8_holds l0 l1 l2 x Q X) : YI l yX8_holds wsX8_holds 7 114 D cA [.q l0, .q l1, .i l2] x Q X := by
  refine YI.of (cc := cX8_holds) (maxL := 5) (ret := (some .boolean)) hl (by decide) rfl rfl (fun g B fr => ?_)
  have o := B.o
  have hb := B.hb
  have hts := B.hts
  have hown : g.s.vm.findClass RX8 = some g.m.cls := B.hown
  have in2 : ∀ w ∈ u_ws RX2 TX2 6, w ∈ wsX8_holds := fun w h => (List.mem_cons_of_mem _ (List.mem_append_left _ (List.mem_append_left _ (List.mem_append_left _ (List.mem_append_left _ (List.mem_append_left _ (List.mem_append_left _ (List.mem_append_left _ (List.mem_append_right _ h)))))))))
  have in8 : ∀ w ∈ u_ws RX8 TX8 8, w ∈ wsX8_holds := fun w h => (List.mem_cons_of_mem _ (List.mem_append_left _ (List.mem_append_left _ (List.mem_append_left _ (List.mem_append_left _ (List.mem_append_left _ (List.mem_append_left _ (List.mem_append_right _ h))))))))
  unfold w_X8_holds at h
  show KW g 5 0 [(0, .q l0), (1, .q l1), (2, .i l2)] [] x
  refine k_aload_n o hb dX8_holds_0 rfl 1 rfl ?_
  refine k_getI (C := RX2) (T := TX2) (N := 6) o hb hts in2 hown rfl (by decide) 2 (by decide) rfl (hts (.fieldLink RX8 70 "FactKeeper$Goal" "sign" "I") (by decide +kernel)) (fun _ h9 => h9) dX8_holds_1 h (fun v1 h => ?_)
  refine k_bipush (v := 33) o hb dX8_holds_4 (by decide) ?_
  refine k_icmp_ne (tgt := 40) o hb dX8_holds_6 (by decide) h (fun h => ?_) (fun h => ?_)
  · skip
    refine k_aload_n o hb dX8_holds_9 rfl 0 rfl ?_
    refine k_aload_n o hb dX8_holds_10 rfl 0 rfl ?_
    refine k_getF (C := RX8) (T := TX8) (N := 8) o hb hts in8 hown rfl (by decide) 3 (by decide) rfl (hts (.fieldLink RX8 23 "FactKeeper$Solver" "looks" "[LFactKeeper$Look;") (by decide +kernel)) (fun _ h9 => h9) dX8_holds_11 h (fun v2 h => ?_)
    refine k_iload_n o hb dX8_holds_14 rfl 2 rfl ?_
    refine k_aald (kd := 26) (t0 := 5) o hb rfl (by decide) dX8_holds_15 h (fun v3 h => ?_)
    refine k_aload_n o hb dX8_holds_16 rfl 1 rfl ?_
    refine k_run_v o (fun _ _ q => q) (k_runV (ci := 8) (rc := (RX8, TX8, 8)) o hb B.hml hown hts rfl (by decide) (T_X8_beginLook g.l o.hl g.D g.cA h.2) (cwV 2 hts gX8_holds_X8_beginLook rfl rfl rfl (by decide +kernel) ⟨yle B.hR1 rfl, yle B.hR2 rfl⟩) h.1 rfl rfl (Nat.le_of_ble_eq_true rfl) dX8_holds_17) (fun x4 h => ?_)
    refine k_aload_n o hb dX8_holds_20 rfl 0 rfl ?_
    refine k_aload_n o hb dX8_holds_21 rfl 0 rfl ?_
    refine k_getF (C := RX8) (T := TX8) (N := 8) o hb hts in8 hown rfl (by decide) 3 (by decide) rfl (hts (.fieldLink RX8 23 "FactKeeper$Solver" "looks" "[LFactKeeper$Look;") (by decide +kernel)) (fun _ h9 => h9) dX8_holds_22 h (fun v6 h => ?_)
    refine k_iload_n o hb dX8_holds_25 rfl 2 rfl ?_
    refine k_aald (kd := 26) (t0 := 5) o hb rfl (by decide) dX8_holds_26 h (fun v7 h => ?_)
    refine k_aload_n o hb dX8_holds_27 rfl 1 rfl ?_
    refine k_run_i o (fun _ _ q => q) (k_runV (ci := 8) (rc := (RX8, TX8, 8)) o hb B.hml hown hts rfl (by decide) (T_X8_advanceTo g.l o.hl g.D g.cA h.2) (cwV 2 hts gX8_holds_X8_advanceTo rfl rfl rfl (by decide +kernel) ⟨yle B.hR1 rfl, yle B.hR2 rfl⟩) h.1 rfl rfl (Nat.le_of_ble_eq_true rfl) dX8_holds_28) (fun v9 x8 h => ?_)
    refine wJoin_elim (M := fun K => ∀ (v12 : Int32) (x11 : HS), K v12 x11 → KW g 5 39 [] [.i v12] x11) h ?_ (fun j10 hj10 h => ?_)
    · skip
      intro v12 x11 h
      exact k_zret o hb B.hr fr dX8_holds_39 h
    · skip
      refine k_if_ne (tgt := 38) o hb dX8_holds_31 (by decide) h (fun h => ?_) (fun h => ?_)
      · skip
        refine k_iconst (v := 1) o hb dX8_holds_34 (by decide) ?_
        refine k_goto (tgt := 39) o hb dX8_holds_35 (by decide) ?_
        exact KW.sub [] rfl (hj10 1 x8 h)
      · skip
        refine k_iconst (v := 0) o hb dX8_holds_38 (by decide) ?_
        exact KW.sub [] rfl (hj10 0 x8 h)
  · skip
    refine k_aload_n o hb dX8_holds_40 rfl 0 rfl ?_
    refine k_aload_n o hb dX8_holds_41 rfl 1 rfl ?_
    refine k_iconst (v := 0) o hb dX8_holds_42 (by decide) ?_
    refine k_run_i o (fun _ _ q => q) (k_runV (ci := 8) (rc := (RX8, TX8, 8)) o hb B.hml hown hts rfl (by decide) (T_X8_valueOf g.l o.hl g.D g.cA h.2) (cwV 2 hts gX8_holds_X8_valueOf rfl rfl rfl (by decide +kernel) ⟨yle B.hR1 rfl, yle B.hR2 rfl⟩) h.1 rfl rfl (Nat.le_of_ble_eq_true rfl) dX8_holds_43) (fun v14 x13 h => ?_)
    refine k_istore_n o hb dX8_holds_46 rfl rfl ?_
    refine k_aload_n o hb dX8_holds_47 rfl 1 rfl ?_
    refine k_aload_n o hb dX8_holds_48 rfl 2 rfl ?_
    refine k_iconst (v := 1) o hb dX8_holds_49 (by decide) ?_
    refine k_run_i o (fun _ _ q => q) (k_runV (ci := 8) (rc := (RX8, TX8, 8)) o hb B.hml hown hts rfl (by decide) (T_X8_valueOf g.l o.hl g.D g.cA h.2) (cwV 2 hts gX8_holds_X8_valueOf rfl rfl rfl (by decide +kernel) ⟨yle B.hR1 rfl, yle B.hR2 rfl⟩) h.1 rfl rfl (Nat.le_of_ble_eq_true rfl) dX8_holds_50) (fun v16 x15 h => ?_)
    refine k_istore o hb dX8_holds_53 rfl ?_
    refine k_aload_n o hb dX8_holds_55 rfl 3 rfl ?_
    refine k_getI (C := RX2) (T := TX2) (N := 6) o hb hts in2 hown rfl (by decide) 2 (by decide) rfl (hts (.fieldLink RX8 70 "FactKeeper$Goal" "sign" "I") (by decide +kernel)) (fun _ h9 => h9) dX8_holds_56 h (fun v17 h => ?_)
    rcases Decidable.em (v17 = 35) with c35 | c35
    · skip
      have h := h.1 c35
      refine k_lookup (off := 73) (tgt := 132) o hb dX8_holds_59 (by decide) (by rw [c35]; decide) (by decide) ?_
      refine k_iload_n o hb dX8_holds_132 rfl 1 rfl ?_
      refine k_iload o hb dX8_holds_133 0 rfl ?_
      refine wJoin_elim (M := fun K => ∀ (v20 : Int32) (x19 : HS), K v20 x19 → KW g 5 143 [] [.i v20] x19) h ?_ (fun j18 hj18 h => ?_)
      · skip
        intro v20 x19 h
        exact k_zret o hb B.hr fr dX8_holds_143 h
      · skip
        refine k_icmp_eq (tgt := 142) o hb dX8_holds_135 (by decide) h (fun h => ?_) (fun h => ?_)
        · skip
          refine k_iconst (v := 0) o hb dX8_holds_142 (by decide) ?_
          exact KW.sub [] rfl (hj18 0 x15 h)
        · skip
          refine k_iconst (v := 1) o hb dX8_holds_138 (by decide) ?_
          refine k_goto (tgt := 143) o hb dX8_holds_139 (by decide) ?_
          exact KW.sub [] rfl (hj18 1 x15 h)
    · skip
      have h := h.2 c35
      rcases Decidable.em (v17 = 43) with c43 | c43
      · skip
        have h := h.1 c43
        refine k_lookup (off := 85) (tgt := 144) o hb dX8_holds_59 (by decide) (by rw [lv_osw c35 (by decide), c43]; decide) (by decide) ?_
        refine k_aload_n o hb dX8_holds_144 rfl 2 rfl ?_
        refine k_getF (C := RX8) (T := TX8) (N := 8) o hb hts in8 hown rfl (by decide) 4 (by decide) rfl (hts (.fieldLink RX8 27 "FactKeeper$Solver" "variables" "[I") (by decide +kernel)) (fun _ h9 => h9) dX8_holds_145 h (fun v21 h => ?_)
        refine k_aload_n o hb dX8_holds_148 rfl 3 rfl ?_
        refine k_getI (C := RX2) (T := TX2) (N := 6) o hb hts in2 hown rfl (by decide) 5 (by decide) rfl (hts (.fieldLink RX8 95 "FactKeeper$Goal" "target" "I") (by decide +kernel)) (fun _ h9 => h9) dX8_holds_149 h (fun v22 h => ?_)
        refine k_iload_n o hb dX8_holds_152 rfl 1 rfl ?_
        refine k_iload o hb dX8_holds_153 0 rfl ?_
        refine k_iadd o hb dX8_holds_155 ?_
        refine k_iast o hb dX8_holds_156 h (fun x23 h => ?_)
        refine k_iconst (v := 1) o hb dX8_holds_157 (by decide) ?_
        exact k_zret o hb B.hr fr dX8_holds_158 h
      · skip
        have h := h.2 c43
        rcases Decidable.em (v17 = 45) with c45 | c45
        · skip
          have h := h.1 c45
          refine k_lookup (off := 100) (tgt := 159) o hb dX8_holds_59 (by decide) (by rw [lv_osw c35 (by decide), lv_osw c43 (by decide), c45]; decide) (by decide) ?_
          refine k_aload_n o hb dX8_holds_159 rfl 2 rfl ?_
          refine k_getF (C := RX8) (T := TX8) (N := 8) o hb hts in8 hown rfl (by decide) 4 (by decide) rfl (hts (.fieldLink RX8 27 "FactKeeper$Solver" "variables" "[I") (by decide +kernel)) (fun _ h9 => h9) dX8_holds_160 h (fun v24 h => ?_)
          refine k_aload_n o hb dX8_holds_163 rfl 3 rfl ?_
          refine k_getI (C := RX2) (T := TX2) (N := 6) o hb hts in2 hown rfl (by decide) 5 (by decide) rfl (hts (.fieldLink RX8 95 "FactKeeper$Goal" "target" "I") (by decide +kernel)) (fun _ h9 => h9) dX8_holds_164 h (fun v25 h => ?_)
          refine k_iload_n o hb dX8_holds_167 rfl 1 rfl ?_
          refine k_iload o hb dX8_holds_168 0 rfl ?_
          refine k_isub o hb dX8_holds_170 ?_
          refine k_iast o hb dX8_holds_171 h (fun x26 h => ?_)
          refine k_iconst (v := 1) o hb dX8_holds_172 (by decide) ?_
          exact k_zret o hb B.hr fr dX8_holds_173 h
        · skip
          have h := h.2 c45
          rcases Decidable.em (v17 = 60) with c60 | c60
          · skip
            have h := h.1 c60
            refine k_lookup (off := 49) (tgt := 108) o hb dX8_holds_59 (by decide) (by rw [lv_osw c35 (by decide), lv_osw c43 (by decide), lv_osw c45 (by decide), c60]; decide) (by decide) ?_
            refine k_iload_n o hb dX8_holds_108 rfl 1 rfl ?_
            refine k_iload o hb dX8_holds_109 0 rfl ?_
            refine wJoin_elim (M := fun K => ∀ (v29 : Int32) (x28 : HS), K v29 x28 → KW g 5 119 [] [.i v29] x28) h ?_ (fun j27 hj27 h => ?_)
            · skip
              intro v29 x28 h
              exact k_zret o hb B.hr fr dX8_holds_119 h
            · skip
              refine k_icmp_ge (tgt := 118) o hb dX8_holds_111 (by decide) h (fun h => ?_) (fun h => ?_)
              · skip
                refine k_iconst (v := 0) o hb dX8_holds_118 (by decide) ?_
                exact KW.sub [] rfl (hj27 0 x15 h)
              · skip
                refine k_iconst (v := 1) o hb dX8_holds_114 (by decide) ?_
                refine k_goto (tgt := 119) o hb dX8_holds_115 (by decide) ?_
                exact KW.sub [] rfl (hj27 1 x15 h)
          · skip
            have h := h.2 c60
            rcases Decidable.em (v17 = 61) with c61 | c61
            · skip
              have h := h.1 c61
              refine k_lookup (off := 61) (tgt := 120) o hb dX8_holds_59 (by decide) (by rw [lv_osw c35 (by decide), lv_osw c43 (by decide), lv_osw c45 (by decide), lv_osw c60 (by decide), c61]; decide) (by decide) ?_
              refine k_iload_n o hb dX8_holds_120 rfl 1 rfl ?_
              refine k_iload o hb dX8_holds_121 0 rfl ?_
              refine wJoin_elim (M := fun K => ∀ (v32 : Int32) (x31 : HS), K v32 x31 → KW g 5 131 [] [.i v32] x31) h ?_ (fun j30 hj30 h => ?_)
              · skip
                intro v32 x31 h
                exact k_zret o hb B.hr fr dX8_holds_131 h
              · skip
                refine k_icmp_ne (tgt := 130) o hb dX8_holds_123 (by decide) h (fun h => ?_) (fun h => ?_)
                · skip
                  refine k_iconst (v := 1) o hb dX8_holds_126 (by decide) ?_
                  refine k_goto (tgt := 131) o hb dX8_holds_127 (by decide) ?_
                  exact KW.sub [] rfl (hj30 1 x15 h)
                · skip
                  refine k_iconst (v := 0) o hb dX8_holds_130 (by decide) ?_
                  exact KW.sub [] rfl (hj30 0 x15 h)
            · skip
              have h := h.2 c61
              refine k_lookup (off := 115) (tgt := 174) o hb dX8_holds_59 (by decide) (by rw [lv_osw c35 (by decide), lv_osw c43 (by decide), lv_osw c45 (by decide), lv_osw c60 (by decide), lv_osw c61 (by decide)]; rfl) (by decide) ?_
              refine k_aload_n o hb dX8_holds_174 rfl 2 rfl ?_
              refine k_getF (C := RX8) (T := TX8) (N := 8) o hb hts in8 hown rfl (by decide) 4 (by decide) rfl (hts (.fieldLink RX8 27 "FactKeeper$Solver" "variables" "[I") (by decide +kernel)) (fun _ h9 => h9) dX8_holds_175 h (fun v33 h => ?_)
              refine k_aload_n o hb dX8_holds_178 rfl 3 rfl ?_
              refine k_getI (C := RX2) (T := TX2) (N := 6) o hb hts in2 hown rfl (by decide) 5 (by decide) rfl (hts (.fieldLink RX8 95 "FactKeeper$Goal" "target" "I") (by decide +kernel)) (fun _ h9 => h9) dX8_holds_179 h (fun v34 h => ?_)
              refine k_iload_n o hb dX8_holds_182 rfl 1 rfl ?_
              refine k_iload o hb dX8_holds_183 0 rfl ?_
              refine k_imul o hb dX8_holds_185 ?_
              refine k_iast o hb dX8_holds_186 h (fun x35 h => ?_)
              refine k_iconst (v := 1) o hb dX8_holds_187 (by decide) ?_
              exact k_zret o hb B.hr fr dX8_holds_188 h
theorem dX8_solveEach_0 : decode cX8_solveEach 0 = .ok (.aload_n 0, 1) := by decide +kernel
theorem dX8_solveEach_1 : decode cX8_solveEach 1 = .ok (.getfield 23, 3) := by decide +kernel
theorem dX8_solveEach_4 : decode cX8_solveEach 4 = .ok (.iload_n 2, 1) := by decide +kernel
theorem dX8_solveEach_5 : decode cX8_solveEach 5 = .ok (.aaload, 1) := by decide +kernel
theorem dX8_solveEach_6 : decode cX8_solveEach 6 = .ok (.astore_n 3, 1) := by decide +kernel
theorem dX8_solveEach_7 : decode cX8_solveEach 7 = .ok (.aload_n 0, 1) := by decide +kernel
theorem dX8_solveEach_8 : decode cX8_solveEach 8 = .ok (.aload_n 3, 1) := by decide +kernel
theorem dX8_solveEach_9 : decode cX8_solveEach 9 = .ok (.aload_n 1, 1) := by decide +kernel
theorem dX8_solveEach_10 : decode cX8_solveEach 10 = .ok (.invokevirtual 83, 3) := by decide +kernel
theorem dX8_solveEach_13 : decode cX8_solveEach 13 = .ok (.iconst 0, 1) := by decide +kernel
theorem dX8_solveEach_14 : decode cX8_solveEach 14 = .ok (.istore 4, 2) := by decide +kernel
theorem dX8_solveEach_16 : decode cX8_solveEach 16 = .ok (.iload 4, 2) := by decide +kernel
theorem dX8_solveEach_18 : decode cX8_solveEach 18 = .ok (.sipush 3000, 3) := by decide +kernel
theorem dX8_solveEach_21 : decode cX8_solveEach 21 = .ok (.if_icmp .ge 26, 3) := by decide +kernel
theorem dX8_solveEach_24 : decode cX8_solveEach 24 = .ok (.aload_n 0, 1) := by decide +kernel
theorem dX8_solveEach_25 : decode cX8_solveEach 25 = .ok (.aload_n 3, 1) := by decide +kernel
theorem dX8_solveEach_26 : decode cX8_solveEach 26 = .ok (.aload_n 1, 1) := by decide +kernel
theorem dX8_solveEach_27 : decode cX8_solveEach 27 = .ok (.invokevirtual 87, 3) := by decide +kernel
theorem dX8_solveEach_30 : decode cX8_solveEach 30 = .ok (.ifCond .ne 4, 3) := by decide +kernel
theorem dX8_solveEach_33 : decode cX8_solveEach 33 = .ok (.return_, 1) := by decide +kernel
theorem dX8_solveEach_34 : decode cX8_solveEach 34 = .ok (.aload_n 0, 1) := by decide +kernel
theorem dX8_solveEach_35 : decode cX8_solveEach 35 = .ok (.iload_n 2, 1) := by decide +kernel
theorem dX8_solveEach_36 : decode cX8_solveEach 36 = .ok (.iconst 1, 1) := by decide +kernel
theorem dX8_solveEach_37 : decode cX8_solveEach 37 = .ok (.iadd, 1) := by decide +kernel
theorem dX8_solveEach_38 : decode cX8_solveEach 38 = .ok (.invokevirtual 55, 3) := by decide +kernel
theorem dX8_solveEach_41 : decode cX8_solveEach 41 = .ok (.iinc 4 1, 3) := by decide +kernel
theorem dX8_solveEach_44 : decode cX8_solveEach 44 = .ok (.goto (-28), 3) := by decide +kernel
theorem dX8_solveEach_47 : decode cX8_solveEach 47 = .ok (.return_, 1) := by decide +kernel
theorem i9wsX8_solveEach_0 : ∀ w ∈ wsX8_solveEach_r1, w ∈ wsX8_solveEach := fun _ h => (List.mem_cons_of_mem _ (List.mem_append_left _ (List.mem_append_left _ (List.mem_append_left _ (List.mem_append_left _ (List.mem_append_left _ (List.mem_append_left _ (List.mem_append_left _ (List.mem_append_left _ (List.mem_append_left _ (List.mem_append_left _ (List.mem_append_left _ h))))))))))))
theorem i9wsX8_solveEach_1 : ∀ w ∈ wsX8_solveEach_r2, w ∈ wsX8_solveEach := fun _ h => (List.mem_cons_of_mem _ (List.mem_append_left _ (List.mem_append_left _ (List.mem_append_left _ (List.mem_append_left _ (List.mem_append_left _ (List.mem_append_left _ (List.mem_append_left _ (List.mem_append_left _ (List.mem_append_left _ (List.mem_append_left _ (List.mem_append_right _ (List.mem_append_left _ h)))))))))))))
theorem i9wsX8_solveEach_6 : ∀ w ∈ wsX80, w ∈ wsX8_solveEach := fun _ h => (List.mem_cons_of_mem _ (List.mem_append_left _ (List.mem_append_left _ (List.mem_append_left _ (List.mem_append_left _ (List.mem_append_left _ (List.mem_append_left _ (List.mem_append_left _ (List.mem_append_left _ (List.mem_append_left _ (List.mem_append_right _ h)))))))))))
theorem i9wsX8_solveEach_8 : ∀ w ∈ wsX20, w ∈ wsX8_solveEach := fun _ h => (List.mem_cons_of_mem _ (List.mem_append_left _ (List.mem_append_left _ (List.mem_append_left _ (List.mem_append_left _ (List.mem_append_left _ (List.mem_append_left _ (List.mem_append_left _ (List.mem_append_right _ h)))))))))
theorem i9wsX8_solveEach_10 : ∀ w ∈ wsX50, w ∈ wsX8_solveEach := fun _ h => (List.mem_cons_of_mem _ (List.mem_append_left _ (List.mem_append_left _ (List.mem_append_left _ (List.mem_append_left _ (List.mem_append_left _ (List.mem_append_right _ h)))))))
theorem i9wsX8_solveEach_11 : ∀ w ∈ wsX100, w ∈ wsX8_solveEach := fun _ h => (List.mem_cons_of_mem _ (List.mem_append_left _ (List.mem_append_left _ (List.mem_append_left _ (List.mem_append_left _ (List.mem_append_right _ h))))))
set_option maxRecDepth 20000 in
theorem ggX8_solveEach_X8_beginLook : GoodIn wsX8_solveEach wsX8_beginLook := (gin_c (mem_at i9wsX8_solveEach_0 5 rfl) rfl (goodIn_app (goodIn_app (goodIn_app (goodIn_app (goodIn_app (gin_c (mem_at i9wsX8_solveEach_0 6 rfl) rfl (gin_c (mem_at i9wsX8_solveEach_0 7 rfl) rfl (gin_c (mem_at i9wsX8_solveEach_0 8 rfl) rfl (gin_c (mem_at i9wsX8_solveEach_0 9 rfl) rfl (gin_c (mem_at i9wsX8_solveEach_0 10 rfl) rfl (gin_c (mem_at i9wsX8_solveEach_0 11 rfl) rfl (gin_c (mem_at i9wsX8_solveEach_0 12 rfl) rfl (gin_c (mem_at i9wsX8_solveEach_0 13 rfl) rfl (gin_c (mem_at i9wsX8_solveEach_0 14 rfl) rfl (gin_c (mem_at i9wsX8_solveEach_0 15 rfl) rfl (gin_c (mem_at i9wsX8_solveEach_0 4 rfl) rfl (gin_c (mem_at i9wsX8_solveEach_0 16 rfl) rfl (gin_c (mem_at i9wsX8_solveEach_0 17 rfl) rfl (gin_c (mem_at i9wsX8_solveEach_0 18 rfl) rfl (gin_c (mem_at i9wsX8_solveEach_0 19 rfl) rfl (gin_c (mem_at i9wsX8_solveEach_0 20 rfl) rfl (gin_c (mem_at i9wsX8_solveEach_0 21 rfl) rfl (gin_c (mem_at i9wsX8_solveEach_0 22 rfl) rfl (gin_c (mem_at i9wsX8_solveEach_0 23 rfl) rfl (gin_c (mem_at i9wsX8_solveEach_1 0 rfl) rfl (gin_c (mem_at i9wsX8_solveEach_1 1 rfl) rfl (gin_c (mem_at i9wsX8_solveEach_1 2 rfl) rfl (gin_c (mem_at i9wsX8_solveEach_1 3 rfl) rfl (gin_c (mem_at i9wsX8_solveEach_1 4 rfl) rfl gin_n)))))))))))))))))))))))) (gin_c (mem_at i9wsX8_solveEach_1 5 rfl) rfl (gin_c (mem_at i9wsX8_solveEach_1 6 rfl) rfl (gin_c (mem_at i9wsX8_solveEach_1 7 rfl) rfl (gin_c (mem_at i9wsX8_solveEach_1 8 rfl) rfl (gin_c (mem_at i9wsX8_solveEach_1 9 rfl) rfl (gin_c (mem_at i9wsX8_solveEach_1 10 rfl) rfl (gin_c (mem_at i9wsX8_solveEach_1 11 rfl) rfl (gin_c (mem_at i9wsX8_solveEach_1 12 rfl) rfl (gin_c (mem_at i9wsX8_solveEach_1 13 rfl) rfl (gin_c (mem_at i9wsX8_solveEach_1 14 rfl) rfl gin_n))))))))))) (goodIn_sub i9wsX8_solveEach_6 g9_11)) (goodIn_sub i9wsX8_solveEach_8 g9_6)) (goodIn_sub i9wsX8_solveEach_10 g9_10)) (goodIn_sub i9wsX8_solveEach_11 g9_3)))
set_option maxRecDepth 20000 in
theorem gX8_solveEach_X8_beginLook : GoodIn wsX8_solveEach (wsV RX8 83 RX8 yX8_beginLook wsX8_beginLook) := goodIn_app (gin_c (mem_at i9wsX8_solveEach_0 1 rfl) rfl (gin_c (mem_at i9wsX8_solveEach_0 2 rfl) rfl (gin_c (mem_at i9wsX8_solveEach_0 3 rfl) rfl (gin_c (mem_at i9wsX8_solveEach_0 4 rfl) rfl gin_n)))) ggX8_solveEach_X8_beginLook
theorem i9wsX8_solveEach_2 : ∀ w ∈ wsX8_solveEach_r3, w ∈ wsX8_solveEach := fun _ h => (List.mem_cons_of_mem _ (List.mem_append_left _ (List.mem_append_left _ (List.mem_append_left _ (List.mem_append_left _ (List.mem_append_left _ (List.mem_append_left _ (List.mem_append_left _ (List.mem_append_left _ (List.mem_append_left _ (List.mem_append_left _ (List.mem_append_right _ (List.mem_append_right _ (List.mem_append_left _ h))))))))))))))
theorem i9wsX8_solveEach_3 : ∀ w ∈ wsX8_solveEach_r4, w ∈ wsX8_solveEach := fun _ h => (List.mem_cons_of_mem _ (List.mem_append_left _ (List.mem_append_left _ (List.mem_append_left _ (List.mem_append_left _ (List.mem_append_left _ (List.mem_append_left _ (List.mem_append_left _ (List.mem_append_left _ (List.mem_append_left _ (List.mem_append_left _ (List.mem_append_right _ (List.mem_append_right _ (List.mem_append_right _ (List.mem_append_left _ h)))))))))))))))
theorem i9wsX8_solveEach_12 : ∀ w ∈ wsX10, w ∈ wsX8_solveEach := fun _ h => (List.mem_cons_of_mem _ (List.mem_append_left _ (List.mem_append_left _ (List.mem_append_left _ (List.mem_append_right _ h)))))
theorem i9wsX8_solveEach_13 : ∀ w ∈ wsX00, w ∈ wsX8_solveEach := fun _ h => (List.mem_cons_of_mem _ (List.mem_append_left _ (List.mem_append_left _ (List.mem_append_right _ h))))
theorem i9wsX8_solveEach_14 : ∀ w ∈ wsX40, w ∈ wsX8_solveEach := fun _ h => (List.mem_cons_of_mem _ (List.mem_append_left _ (List.mem_append_right _ h)))
theorem i9wsX8_solveEach_15 : ∀ w ∈ ((vx_atS RX8 126 "java/lang/ArithmeticException" ["java/lang/RuntimeException", "java/lang/Exception"]).filter goodWord), w ∈ wsX8_solveEach := fun _ h => (List.mem_cons_of_mem _ (List.mem_append_right _ h))
set_option maxRecDepth 20000 in
theorem ggX8_solveEach_X8_advanceTo : GoodIn wsX8_solveEach wsX8_advanceTo := (gin_c (mem_at i9wsX8_solveEach_1 18 rfl) rfl (goodIn_app (goodIn_app (goodIn_app (goodIn_app (goodIn_app (goodIn_app (goodIn_app (goodIn_app (goodIn_app (gin_c (mem_at i9wsX8_solveEach_1 19 rfl) rfl (gin_c (mem_at i9wsX8_solveEach_1 20 rfl) rfl (gin_c (mem_at i9wsX8_solveEach_1 21 rfl) rfl (gin_c (mem_at i9wsX8_solveEach_1 22 rfl) rfl (gin_c (mem_at i9wsX8_solveEach_1 23 rfl) rfl (gin_c (mem_at i9wsX8_solveEach_2 0 rfl) rfl (gin_c (mem_at i9wsX8_solveEach_2 1 rfl) rfl (gin_c (mem_at i9wsX8_solveEach_0 23 rfl) rfl (gin_c (mem_at i9wsX8_solveEach_2 2 rfl) rfl (gin_c (mem_at i9wsX8_solveEach_1 5 rfl) rfl (gin_c (mem_at i9wsX8_solveEach_1 1 rfl) rfl (gin_c (mem_at i9wsX8_solveEach_1 2 rfl) rfl (gin_c (mem_at i9wsX8_solveEach_1 4 rfl) rfl (gin_c (mem_at i9wsX8_solveEach_1 8 rfl) rfl (gin_c (mem_at i9wsX8_solveEach_2 3 rfl) rfl (gin_c (mem_at i9wsX8_solveEach_1 7 rfl) rfl (gin_c (mem_at i9wsX8_solveEach_1 3 rfl) rfl (gin_c (mem_at i9wsX8_solveEach_1 6 rfl) rfl (gin_c (mem_at i9wsX8_solveEach_2 4 rfl) rfl (gin_c (mem_at i9wsX8_solveEach_2 5 rfl) rfl (gin_c (mem_at i9wsX8_solveEach_2 6 rfl) rfl (gin_c (mem_at i9wsX8_solveEach_1 12 rfl) rfl (gin_c (mem_at i9wsX8_solveEach_2 7 rfl) rfl (gin_c (mem_at i9wsX8_solveEach_1 14 rfl) rfl gin_n)))))))))))))))))))))))) (goodIn_app (gin_c (mem_at i9wsX8_solveEach_2 8 rfl) rfl (gin_c (mem_at i9wsX8_solveEach_0 10 rfl) rfl (gin_c (mem_at i9wsX8_solveEach_0 11 rfl) rfl (gin_c (mem_at i9wsX8_solveEach_0 12 rfl) rfl (gin_c (mem_at i9wsX8_solveEach_2 9 rfl) rfl (gin_c (mem_at i9wsX8_solveEach_2 10 rfl) rfl (gin_c (mem_at i9wsX8_solveEach_2 11 rfl) rfl (gin_c (mem_at i9wsX8_solveEach_2 12 rfl) rfl (gin_c (mem_at i9wsX8_solveEach_2 13 rfl) rfl (gin_c (mem_at i9wsX8_solveEach_2 14 rfl) rfl (gin_c (mem_at i9wsX8_solveEach_2 15 rfl) rfl (gin_c (mem_at i9wsX8_solveEach_2 16 rfl) rfl (gin_c (mem_at i9wsX8_solveEach_2 17 rfl) rfl (gin_c (mem_at i9wsX8_solveEach_2 18 rfl) rfl (gin_c (mem_at i9wsX8_solveEach_2 19 rfl) rfl (gin_c (mem_at i9wsX8_solveEach_2 20 rfl) rfl (gin_c (mem_at i9wsX8_solveEach_2 21 rfl) rfl (gin_c (mem_at i9wsX8_solveEach_2 22 rfl) rfl (gin_c (mem_at i9wsX8_solveEach_2 23 rfl) rfl (gin_c (mem_at i9wsX8_solveEach_3 0 rfl) rfl (gin_c (mem_at i9wsX8_solveEach_3 1 rfl) rfl (gin_c (mem_at i9wsX8_solveEach_3 2 rfl) rfl (gin_c (mem_at i9wsX8_solveEach_3 3 rfl) rfl (gin_c (mem_at i9wsX8_solveEach_3 4 rfl) rfl gin_n)))))))))))))))))))))))) (gin_c (mem_at i9wsX8_solveEach_3 5 rfl) rfl (gin_c (mem_at i9wsX8_solveEach_3 6 rfl) rfl (gin_c (mem_at i9wsX8_solveEach_3 7 rfl) rfl (gin_c (mem_at i9wsX8_solveEach_3 8 rfl) rfl (gin_c (mem_at i9wsX8_solveEach_3 9 rfl) rfl (gin_c (mem_at i9wsX8_solveEach_3 10 rfl) rfl (gin_c (mem_at i9wsX8_solveEach_3 11 rfl) rfl (gin_c (mem_at i9wsX8_solveEach_3 12 rfl) rfl (gin_c (mem_at i9wsX8_solveEach_3 13 rfl) rfl (gin_c (mem_at i9wsX8_solveEach_3 14 rfl) rfl (gin_c (mem_at i9wsX8_solveEach_3 15 rfl) rfl (gin_c (mem_at i9wsX8_solveEach_3 16 rfl) rfl (gin_c (mem_at i9wsX8_solveEach_3 17 rfl) rfl (gin_c (mem_at i9wsX8_solveEach_0 4 rfl) rfl (gin_c (mem_at i9wsX8_solveEach_3 18 rfl) rfl (gin_c (mem_at i9wsX8_solveEach_0 8 rfl) rfl (gin_c (mem_at i9wsX8_solveEach_3 19 rfl) rfl (gin_c (mem_at i9wsX8_solveEach_0 17 rfl) rfl (gin_c (mem_at i9wsX8_solveEach_0 18 rfl) rfl (gin_c (mem_at i9wsX8_solveEach_0 19 rfl) rfl (gin_c (mem_at i9wsX8_solveEach_3 20 rfl) rfl gin_n))))))))))))))))))))))) (goodIn_sub i9wsX8_solveEach_6 g9_11)) (goodIn_sub i9wsX8_solveEach_10 g9_10)) (goodIn_sub i9wsX8_solveEach_12 g9_0)) (goodIn_sub i9wsX8_solveEach_11 g9_3)) (goodIn_sub i9wsX8_solveEach_13 g9_1)) (goodIn_sub i9wsX8_solveEach_14 g9_2)) (goodIn_sub i9wsX8_solveEach_8 g9_6)) (goodIn_sub i9wsX8_solveEach_15 g9_12)))
set_option maxRecDepth 20000 in
theorem gX8_solveEach_X8_advanceTo : GoodIn wsX8_solveEach (wsV RX8 87 RX8 yX8_advanceTo wsX8_advanceTo) := goodIn_app (gin_c (mem_at i9wsX8_solveEach_1 15 rfl) rfl (gin_c (mem_at i9wsX8_solveEach_1 16 rfl) rfl (gin_c (mem_at i9wsX8_solveEach_1 17 rfl) rfl (gin_c (mem_at i9wsX8_solveEach_0 4 rfl) rfl gin_n)))) ggX8_solveEach_X8_advanceTo
theorem i9wsX8_solveEach_4 : ∀ w ∈ wsX8_solveEach_r5, w ∈ wsX8_solveEach := fun _ h => (List.mem_cons_of_mem _ (List.mem_append_left _ (List.mem_append_left _ (List.mem_append_left _ (List.mem_append_left _ (List.mem_append_left _ (List.mem_append_left _ (List.mem_append_left _ (List.mem_append_left _ (List.mem_append_left _ (List.mem_append_left _ (List.mem_append_right _ (List.mem_append_right _ (List.mem_append_right _ (List.mem_append_right _ (List.mem_append_left _ h))))))))))))))))
theorem i9wsX8_solveEach_5 : ∀ w ∈ wsX8_solveEach_r6, w ∈ wsX8_solveEach := fun _ h => (List.mem_cons_of_mem _ (List.mem_append_left _ (List.mem_append_left _ (List.mem_append_left _ (List.mem_append_left _ (List.mem_append_left _ (List.mem_append_left _ (List.mem_append_left _ (List.mem_append_left _ (List.mem_append_left _ (List.mem_append_left _ (List.mem_append_right _ (List.mem_append_right _ (List.mem_append_right _ (List.mem_append_right _ (List.mem_append_right _ h))))))))))))))))
theorem i9wsX8_solveEach_7 : ∀ w ∈ wsX60, w ∈ wsX8_solveEach := fun _ h => (List.mem_cons_of_mem _ (List.mem_append_left _ (List.mem_append_left _ (List.mem_append_left _ (List.mem_append_left _ (List.mem_append_left _ (List.mem_append_left _ (List.mem_append_left _ (List.mem_append_left _ (List.mem_append_right _ h))))))))))
theorem i9wsX8_solveEach_9 : ∀ w ∈ wsX70, w ∈ wsX8_solveEach := fun _ h => (List.mem_cons_of_mem _ (List.mem_append_left _ (List.mem_append_left _ (List.mem_append_left _ (List.mem_append_left _ (List.mem_append_left _ (List.mem_append_left _ (List.mem_append_right _ h))))))))
set_option maxRecDepth 20000 in
theorem ggX8_solveEach_X8_solve : GoodIn wsX8_solveEach wsX8_solve := (gin_c (mem_at i9wsX8_solveEach_4 0 rfl) rfl (goodIn_app (goodIn_app (goodIn_app (goodIn_app (goodIn_app (goodIn_app (goodIn_app (goodIn_app (goodIn_app (goodIn_app (goodIn_app (gin_c (mem_at i9wsX8_solveEach_4 1 rfl) rfl (gin_c (mem_at i9wsX8_solveEach_4 2 rfl) rfl (gin_c (mem_at i9wsX8_solveEach_4 3 rfl) rfl (gin_c (mem_at i9wsX8_solveEach_0 18 rfl) rfl (gin_c (mem_at i9wsX8_solveEach_4 4 rfl) rfl (gin_c (mem_at i9wsX8_solveEach_4 5 rfl) rfl (gin_c (mem_at i9wsX8_solveEach_4 6 rfl) rfl (gin_c (mem_at i9wsX8_solveEach_4 7 rfl) rfl (gin_c (mem_at i9wsX8_solveEach_4 8 rfl) rfl (gin_c (mem_at i9wsX8_solveEach_4 9 rfl) rfl (gin_c (mem_at i9wsX8_solveEach_4 10 rfl) rfl (gin_c (mem_at i9wsX8_solveEach_4 11 rfl) rfl (gin_c (mem_at i9wsX8_solveEach_4 12 rfl) rfl (gin_c (mem_at i9wsX8_solveEach_4 13 rfl) rfl (gin_c (mem_at i9wsX8_solveEach_4 14 rfl) rfl (gin_c (mem_at i9wsX8_solveEach_4 15 rfl) rfl (gin_c (mem_at i9wsX8_solveEach_4 16 rfl) rfl (gin_c (mem_at i9wsX8_solveEach_4 17 rfl) rfl (gin_c (mem_at i9wsX8_solveEach_4 18 rfl) rfl (gin_c (mem_at i9wsX8_solveEach_4 19 rfl) rfl (gin_c (mem_at i9wsX8_solveEach_0 4 rfl) rfl (gin_c (mem_at i9wsX8_solveEach_4 20 rfl) rfl (gin_c (mem_at i9wsX8_solveEach_4 21 rfl) rfl (gin_c (mem_at i9wsX8_solveEach_4 22 rfl) rfl gin_n)))))))))))))))))))))))) (goodIn_app (gin_c (mem_at i9wsX8_solveEach_4 23 rfl) rfl (gin_c (mem_at i9wsX8_solveEach_0 0 rfl) rfl (gin_c (mem_at i9wsX8_solveEach_5 0 rfl) rfl (gin_c (mem_at i9wsX8_solveEach_0 1 rfl) rfl (gin_c (mem_at i9wsX8_solveEach_0 2 rfl) rfl (gin_c (mem_at i9wsX8_solveEach_0 3 rfl) rfl (gin_c (mem_at i9wsX8_solveEach_0 5 rfl) rfl (gin_c (mem_at i9wsX8_solveEach_0 6 rfl) rfl (gin_c (mem_at i9wsX8_solveEach_0 7 rfl) rfl (gin_c (mem_at i9wsX8_solveEach_0 8 rfl) rfl (gin_c (mem_at i9wsX8_solveEach_0 9 rfl) rfl (gin_c (mem_at i9wsX8_solveEach_0 10 rfl) rfl (gin_c (mem_at i9wsX8_solveEach_0 11 rfl) rfl (gin_c (mem_at i9wsX8_solveEach_0 12 rfl) rfl (gin_c (mem_at i9wsX8_solveEach_0 13 rfl) rfl (gin_c (mem_at i9wsX8_solveEach_0 14 rfl) rfl (gin_c (mem_at i9wsX8_solveEach_0 15 rfl) rfl (gin_c (mem_at i9wsX8_solveEach_0 16 rfl) rfl (gin_c (mem_at i9wsX8_solveEach_0 17 rfl) rfl (gin_c (mem_at i9wsX8_solveEach_0 19 rfl) rfl (gin_c (mem_at i9wsX8_solveEach_0 20 rfl) rfl (gin_c (mem_at i9wsX8_solveEach_0 21 rfl) rfl (gin_c (mem_at i9wsX8_solveEach_0 22 rfl) rfl (gin_c (mem_at i9wsX8_solveEach_0 23 rfl) rfl gin_n)))))))))))))))))))))))) (goodIn_app (gin_c (mem_at i9wsX8_solveEach_1 0 rfl) rfl (gin_c (mem_at i9wsX8_solveEach_1 1 rfl) rfl (gin_c (mem_at i9wsX8_solveEach_1 2 rfl) rfl (gin_c (mem_at i9wsX8_solveEach_1 3 rfl) rfl (gin_c (mem_at i9wsX8_solveEach_1 4 rfl) rfl (gin_c (mem_at i9wsX8_solveEach_1 5 rfl) rfl (gin_c (mem_at i9wsX8_solveEach_1 6 rfl) rfl (gin_c (mem_at i9wsX8_solveEach_1 7 rfl) rfl (gin_c (mem_at i9wsX8_solveEach_1 8 rfl) rfl (gin_c (mem_at i9wsX8_solveEach_1 9 rfl) rfl (gin_c (mem_at i9wsX8_solveEach_1 10 rfl) rfl (gin_c (mem_at i9wsX8_solveEach_1 11 rfl) rfl (gin_c (mem_at i9wsX8_solveEach_1 12 rfl) rfl (gin_c (mem_at i9wsX8_solveEach_1 13 rfl) rfl (gin_c (mem_at i9wsX8_solveEach_1 14 rfl) rfl (gin_c (mem_at i9wsX8_solveEach_1 15 rfl) rfl (gin_c (mem_at i9wsX8_solveEach_1 16 rfl) rfl (gin_c (mem_at i9wsX8_solveEach_1 17 rfl) rfl (gin_c (mem_at i9wsX8_solveEach_1 18 rfl) rfl (gin_c (mem_at i9wsX8_solveEach_1 19 rfl) rfl (gin_c (mem_at i9wsX8_solveEach_1 20 rfl) rfl (gin_c (mem_at i9wsX8_solveEach_1 21 rfl) rfl (gin_c (mem_at i9wsX8_solveEach_1 22 rfl) rfl (gin_c (mem_at i9wsX8_solveEach_1 23 rfl) rfl gin_n)))))))))))))))))))))))) (goodIn_app (gin_c (mem_at i9wsX8_solveEach_2 0 rfl) rfl (gin_c (mem_at i9wsX8_solveEach_2 1 rfl) rfl (gin_c (mem_at i9wsX8_solveEach_2 2 rfl) rfl (gin_c (mem_at i9wsX8_solveEach_2 3 rfl) rfl (gin_c (mem_at i9wsX8_solveEach_2 4 rfl) rfl (gin_c (mem_at i9wsX8_solveEach_2 5 rfl) rfl (gin_c (mem_at i9wsX8_solveEach_2 6 rfl) rfl (gin_c (mem_at i9wsX8_solveEach_2 7 rfl) rfl (gin_c (mem_at i9wsX8_solveEach_2 8 rfl) rfl (gin_c (mem_at i9wsX8_solveEach_2 9 rfl) rfl (gin_c (mem_at i9wsX8_solveEach_2 10 rfl) rfl (gin_c (mem_at i9wsX8_solveEach_2 11 rfl) rfl (gin_c (mem_at i9wsX8_solveEach_2 12 rfl) rfl (gin_c (mem_at i9wsX8_solveEach_2 13 rfl) rfl (gin_c (mem_at i9wsX8_solveEach_2 14 rfl) rfl (gin_c (mem_at i9wsX8_solveEach_2 15 rfl) rfl (gin_c (mem_at i9wsX8_solveEach_2 16 rfl) rfl (gin_c (mem_at i9wsX8_solveEach_2 17 rfl) rfl (gin_c (mem_at i9wsX8_solveEach_2 18 rfl) rfl (gin_c (mem_at i9wsX8_solveEach_2 19 rfl) rfl (gin_c (mem_at i9wsX8_solveEach_2 20 rfl) rfl (gin_c (mem_at i9wsX8_solveEach_2 21 rfl) rfl (gin_c (mem_at i9wsX8_solveEach_2 22 rfl) rfl (gin_c (mem_at i9wsX8_solveEach_2 23 rfl) rfl gin_n)))))))))))))))))))))))) (goodIn_app (gin_c (mem_at i9wsX8_solveEach_3 0 rfl) rfl (gin_c (mem_at i9wsX8_solveEach_3 1 rfl) rfl (gin_c (mem_at i9wsX8_solveEach_3 2 rfl) rfl (gin_c (mem_at i9wsX8_solveEach_3 3 rfl) rfl (gin_c (mem_at i9wsX8_solveEach_3 4 rfl) rfl (gin_c (mem_at i9wsX8_solveEach_3 5 rfl) rfl (gin_c (mem_at i9wsX8_solveEach_3 6 rfl) rfl (gin_c (mem_at i9wsX8_solveEach_3 7 rfl) rfl (gin_c (mem_at i9wsX8_solveEach_3 8 rfl) rfl (gin_c (mem_at i9wsX8_solveEach_3 9 rfl) rfl (gin_c (mem_at i9wsX8_solveEach_3 10 rfl) rfl (gin_c (mem_at i9wsX8_solveEach_3 11 rfl) rfl (gin_c (mem_at i9wsX8_solveEach_3 12 rfl) rfl (gin_c (mem_at i9wsX8_solveEach_3 13 rfl) rfl (gin_c (mem_at i9wsX8_solveEach_3 14 rfl) rfl (gin_c (mem_at i9wsX8_solveEach_3 15 rfl) rfl (gin_c (mem_at i9wsX8_solveEach_3 16 rfl) rfl (gin_c (mem_at i9wsX8_solveEach_3 17 rfl) rfl (gin_c (mem_at i9wsX8_solveEach_3 18 rfl) rfl (gin_c (mem_at i9wsX8_solveEach_3 19 rfl) rfl (gin_c (mem_at i9wsX8_solveEach_3 20 rfl) rfl (gin_c (mem_at i9wsX8_solveEach_3 21 rfl) rfl (gin_c (mem_at i9wsX8_solveEach_3 22 rfl) rfl (gin_c (mem_at i9wsX8_solveEach_3 23 rfl) rfl gin_n)))))))))))))))))))))))) (gin_c (List.mem_cons_self) rfl gin_n)))))) (goodIn_sub i9wsX8_solveEach_6 g9_11)) (goodIn_sub i9wsX8_solveEach_7 g9_7)) (goodIn_sub i9wsX8_solveEach_8 g9_6)) (goodIn_sub i9wsX8_solveEach_9 g9_9)) (goodIn_sub i9wsX8_solveEach_10 g9_10)) (goodIn_sub i9wsX8_solveEach_11 g9_3)) (goodIn_sub i9wsX8_solveEach_12 g9_0)) (goodIn_sub i9wsX8_solveEach_13 g9_1)) (goodIn_sub i9wsX8_solveEach_14 g9_2)) (goodIn_sub i9wsX8_solveEach_15 g9_12)))
set_option maxRecDepth 20000 in
theorem gX8_solveEach_X8_solve : GoodIn wsX8_solveEach (wsV RX8 55 RX8 yX8_solve wsX8_solve) := goodIn_app (gin_c (mem_at i9wsX8_solveEach_3 21 rfl) rfl (gin_c (mem_at i9wsX8_solveEach_3 22 rfl) rfl (gin_c (mem_at i9wsX8_solveEach_3 23 rfl) rfl (gin_c (mem_at i9wsX8_solveEach_0 4 rfl) rfl gin_n)))) ggX8_solveEach_X8_solve
set_option maxHeartbeats 4000000 in
set_option maxRecDepth 100000 in
theorem T_X8_solveEach (l : Launch) (hl : l.stackTraces = false) (D : va_G) (cA : Nat → ClassId) (SV : Option Nat → Int32 → HS → (HS → Prop) → (String → HS → Prop) → Prop) (fr0 lo0 : Nat) (hfr : 20 ≤ fr0) (hlo : 400 ≤ lo0) (hSV : ∀ (l : Launch) (hl : l.stackTraces = false) (D : va_G) (cA : Nat → ClassId) {l0 : Option Nat} {l1 : Int32} {x : HS} {Q : HS → Prop} {X : String → HS → Prop}, SV l0 l1 x Q X → YV l yX8_solve wsX8_solve fr0 lo0 D cA [.q l0, .i l1] x Q X) {l0 : Option Nat} {l1 : Option Nat} {l2 : Int32} {x : HS} {Q : HS → Prop} {X : String → HS → Prop} (h : w_X8_solveEach SV l0 l1 l2 x Q X) : YV l yX8_solveEach wsX8_solveEach (fr0 + 1) (lo0 + 60) D cA [.q l0, .q l1, .i l2] x Q X := by
  refine YV.of (cc := cX8_solveEach) (maxL := 5) (ret := none) hl (by decide) rfl rfl (fun g B fr => ?_)
  have o := B.o
  have hb := B.hb
  have hts := B.hts
  have hown : g.s.vm.findClass RX8 = some g.m.cls := B.hown
  have in8 : ∀ w ∈ u_ws RX8 TX8 8, w ∈ wsX8_solveEach := fun w h => (List.mem_cons_of_mem _ (List.mem_append_left _ (List.mem_append_left _ (List.mem_append_left _ (List.mem_append_left _ (List.mem_append_left _ (List.mem_append_left _ (List.mem_append_left _ (List.mem_append_left _ (List.mem_append_left _ (List.mem_append_right _ h)))))))))))
  unfold w_X8_solveEach at h
  show KW g 5 0 [(0, .q l0), (1, .q l1), (2, .i l2)] [] x
  refine k_aload_n o hb dX8_solveEach_0 rfl 0 rfl ?_
  refine k_getF (C := RX8) (T := TX8) (N := 8) o hb hts in8 hown rfl (by decide) 3 (by decide) rfl (hts (.fieldLink RX8 23 "FactKeeper$Solver" "looks" "[LFactKeeper$Look;") (by decide +kernel)) (fun _ h9 => h9) dX8_solveEach_1 h (fun v1 h => ?_)
  refine k_iload_n o hb dX8_solveEach_4 rfl 2 rfl ?_
  refine k_aald (kd := 26) (t0 := 5) o hb rfl (by decide) dX8_solveEach_5 h (fun v2 h => ?_)
  refine k_astore_n o hb dX8_solveEach_6 rfl rfl ?_
  refine k_aload_n o hb dX8_solveEach_7 rfl 1 rfl ?_
  refine k_aload_n o hb dX8_solveEach_8 rfl 0 rfl ?_
  refine k_aload_n o hb dX8_solveEach_9 rfl 2 rfl ?_
  refine k_run_v o (fun _ _ q => q) (k_runV (ci := 8) (rc := (RX8, TX8, 8)) o hb B.hml hown hts rfl (by decide) (T_X8_beginLook g.l o.hl g.D g.cA h.2) (cwV 2 hts gX8_solveEach_X8_beginLook rfl rfl rfl (by decide +kernel) ⟨by have := B.hR1; show 2 + 1 ≤ g.R.frames; omega, by have := B.hR2; show 8 + (4 + 11) + 45 ≤ g.R.locals; omega⟩) h.1 rfl rfl (Nat.le_of_ble_eq_true rfl) dX8_solveEach_10) (fun x3 h => ?_)
  refine k_iconst (v := 0) o hb dX8_solveEach_13 (by decide) ?_
  refine k_istore o hb dX8_solveEach_14 rfl ?_
  refine KW.sub [2, 3, 4, 1, 0] rfl ?_
  refine wLoop_elim (M := fun (v8 : Int32) (x7 : HS) => KW g 5 16 [(0, .q l0), (1, .q l1), (2, .i l2), (3, .q v2), (4, .i v8)] [] x7) h ?_
  intro v8 x7 again5 ih6 h
  refine k_iload o hb dX8_solveEach_16 4 rfl ?_
  refine k_sipush (v := 3000) o hb dX8_solveEach_18 (by decide) ?_
  refine k_icmp_ge (tgt := 47) o hb dX8_solveEach_21 (by decide) h (fun h => ?_) (fun h => ?_)
  · skip
    exact k_vret o hb B.hr fr dX8_solveEach_47 h
  · skip
    refine k_aload_n o hb dX8_solveEach_24 rfl 0 rfl ?_
    refine k_aload_n o hb dX8_solveEach_25 rfl 3 rfl ?_
    refine k_aload_n o hb dX8_solveEach_26 rfl 1 rfl ?_
    refine k_run_i o (fun _ _ q => q) (k_runV (ci := 8) (rc := (RX8, TX8, 8)) o hb B.hml hown hts rfl (by decide) (T_X8_advanceTo g.l o.hl g.D g.cA h.2) (cwV 2 hts gX8_solveEach_X8_advanceTo rfl rfl rfl (by decide +kernel) ⟨by have := B.hR1; show 6 + 1 ≤ g.R.frames; omega, by have := B.hR2; show 8 + (5 + 11) + 90 ≤ g.R.locals; omega⟩) h.1 rfl rfl (Nat.le_of_ble_eq_true rfl) dX8_solveEach_27) (fun v10 x9 h => ?_)
    refine k_if_ne (tgt := 34) o hb dX8_solveEach_30 (by decide) h (fun h => ?_) (fun h => ?_)
    · skip
      exact k_vret o hb B.hr fr dX8_solveEach_33 h
    · skip
      refine k_aload_n o hb dX8_solveEach_34 rfl 0 rfl ?_
      refine k_iload_n o hb dX8_solveEach_35 rfl 2 rfl ?_
      refine k_iconst (v := 1) o hb dX8_solveEach_36 (by decide) ?_
      refine k_iadd o hb dX8_solveEach_37 ?_
      refine k_run_v o (fun _ _ q => q) (k_runV (ci := 8) (rc := (RX8, TX8, 8)) o hb B.hml hown hts rfl (by decide) (hSV g.l o.hl g.D g.cA h.2) (cwV 1 hts gX8_solveEach_X8_solve rfl rfl rfl (by decide +kernel) ⟨by have := B.hR1; show fr0 + 1 ≤ g.R.frames; omega, by have := B.hR2; show 8 + (3 + 11) + lo0 ≤ g.R.locals; omega⟩) h.1 rfl rfl (Nat.le_of_ble_eq_true rfl) dX8_solveEach_38) (fun x11 h => ?_)
      refine k_iinc (w := 1) o hb dX8_solveEach_41 4 rfl (by decide) rfl ?_
      refine k_goto (tgt := 16) o hb dX8_solveEach_44 (by decide) ?_
      exact KW.sub [1, 2, 3, 4, 0] rfl (ih6 (v8 + 1) x11 h)
theorem dX8_solve_0 : decode cX8_solve 0 = .ok (.iload_n 1, 1) := by decide +kernel
theorem dX8_solve_1 : decode cX8_solve 1 = .ok (.aload_n 0, 1) := by decide +kernel
theorem dX8_solve_2 : decode cX8_solve 2 = .ok (.getfield 35, 3) := by decide +kernel
theorem dX8_solve_5 : decode cX8_solve 5 = .ok (.getfield 59, 3) := by decide +kernel
theorem dX8_solve_8 : decode cX8_solve 8 = .ok (.if_icmp .ge 9, 3) := by decide +kernel
theorem dX8_solve_11 : decode cX8_solve 11 = .ok (.iload_n 1, 1) := by decide +kernel
theorem dX8_solve_12 : decode cX8_solve 12 = .ok (.bipush 10, 2) := by decide +kernel
theorem dX8_solve_14 : decode cX8_solve 14 = .ok (.if_icmp .lt 15, 3) := by decide +kernel
theorem dX8_solve_17 : decode cX8_solve 17 = .ok (.aload_n 0, 1) := by decide +kernel
theorem dX8_solve_18 : decode cX8_solve 18 = .ok (.getfield 18, 3) := by decide +kernel
theorem dX8_solve_21 : decode cX8_solve 21 = .ok (.aload_n 0, 1) := by decide +kernel
theorem dX8_solve_22 : decode cX8_solve 22 = .ok (.getfield 27, 3) := by decide +kernel
theorem dX8_solve_25 : decode cX8_solve 25 = .ok (.invokevirtual 62, 3) := by decide +kernel
theorem dX8_solve_28 : decode cX8_solve 28 = .ok (.return_, 1) := by decide +kernel
theorem dX8_solve_29 : decode cX8_solve 29 = .ok (.aload_n 0, 1) := by decide +kernel
theorem dX8_solve_30 : decode cX8_solve 30 = .ok (.getfield 35, 3) := by decide +kernel
theorem dX8_solve_33 : decode cX8_solve 33 = .ok (.getfield 66, 3) := by decide +kernel
theorem dX8_solve_36 : decode cX8_solve 36 = .ok (.iload_n 1, 1) := by decide +kernel
theorem dX8_solve_37 : decode cX8_solve 37 = .ok (.aaload, 1) := by decide +kernel
theorem dX8_solve_38 : decode cX8_solve 38 = .ok (.astore_n 2, 1) := by decide +kernel
theorem dX8_solve_39 : decode cX8_solve 39 = .ok (.aload_n 2, 1) := by decide +kernel
theorem dX8_solve_40 : decode cX8_solve 40 = .ok (.getfield 70, 3) := by decide +kernel
theorem dX8_solve_43 : decode cX8_solve 43 = .ok (.bipush 116, 2) := by decide +kernel
theorem dX8_solve_45 : decode cX8_solve 45 = .ok (.if_icmp .ne 12, 3) := by decide +kernel
theorem dX8_solve_48 : decode cX8_solve 48 = .ok (.aload_n 0, 1) := by decide +kernel
theorem dX8_solve_49 : decode cX8_solve 49 = .ok (.aload_n 2, 1) := by decide +kernel
theorem dX8_solve_50 : decode cX8_solve 50 = .ok (.iload_n 1, 1) := by decide +kernel
theorem dX8_solve_51 : decode cX8_solve 51 = .ok (.invokevirtual 75, 3) := by decide +kernel
theorem dX8_solve_54 : decode cX8_solve 54 = .ok (.goto 19, 3) := by decide +kernel
theorem dX8_solve_57 : decode cX8_solve 57 = .ok (.aload_n 0, 1) := by decide +kernel
theorem dX8_solve_58 : decode cX8_solve 58 = .ok (.aload_n 2, 1) := by decide +kernel
theorem dX8_solve_59 : decode cX8_solve 59 = .ok (.iload_n 1, 1) := by decide +kernel
theorem dX8_solve_60 : decode cX8_solve 60 = .ok (.invokevirtual 79, 3) := by decide +kernel
theorem dX8_solve_63 : decode cX8_solve 63 = .ok (.ifCond .eq 10, 3) := by decide +kernel
theorem dX8_solve_66 : decode cX8_solve 66 = .ok (.aload_n 0, 1) := by decide +kernel
theorem dX8_solve_67 : decode cX8_solve 67 = .ok (.iload_n 1, 1) := by decide +kernel
theorem dX8_solve_68 : decode cX8_solve 68 = .ok (.iconst 1, 1) := by decide +kernel
theorem dX8_solve_69 : decode cX8_solve 69 = .ok (.iadd, 1) := by decide +kernel
theorem dX8_solve_70 : decode cX8_solve 70 = .ok (.invokevirtual 55, 3) := by decide +kernel
theorem dX8_solve_73 : decode cX8_solve 73 = .ok (.return_, 1) := by decide +kernel
theorem i9wsX8_solve_0 : ∀ w ∈ wsX8_solve_r1, w ∈ wsX8_solve := fun _ h => (List.mem_cons_of_mem _ (List.mem_append_left _ (List.mem_append_left _ (List.mem_append_left _ (List.mem_append_left _ (List.mem_append_left _ (List.mem_append_left _ (List.mem_append_left _ (List.mem_append_left _ (List.mem_append_left _ (List.mem_append_left _ (List.mem_append_left _ h))))))))))))
theorem i9wsX8_solve_9 : ∀ w ∈ wsX70, w ∈ wsX8_solve := fun _ h => (List.mem_cons_of_mem _ (List.mem_append_left _ (List.mem_append_left _ (List.mem_append_left _ (List.mem_append_left _ (List.mem_append_left _ (List.mem_append_left _ (List.mem_append_right _ h))))))))
set_option maxRecDepth 20000 in
theorem ggX8_solve_X7_keep : GoodIn wsX8_solve wsX7_keep := (gin_c (mem_at i9wsX8_solve_0 10 rfl) rfl (goodIn_app (gin_c (mem_at i9wsX8_solve_0 11 rfl) rfl (gin_c (mem_at i9wsX8_solve_0 12 rfl) rfl (gin_c (mem_at i9wsX8_solve_0 13 rfl) rfl (gin_c (mem_at i9wsX8_solve_0 14 rfl) rfl (gin_c (mem_at i9wsX8_solve_0 15 rfl) rfl (gin_c (mem_at i9wsX8_solve_0 16 rfl) rfl gin_n)))))) (goodIn_sub i9wsX8_solve_9 g9_9)))
set_option maxRecDepth 20000 in
theorem gX8_solve_X7_keep : GoodIn wsX8_solve (wsV RX8 62 RX7 yX7_keep wsX7_keep) := goodIn_app (gin_c (mem_at i9wsX8_solve_0 6 rfl) rfl (gin_c (mem_at i9wsX8_solve_0 7 rfl) rfl (gin_c (mem_at i9wsX8_solve_0 8 rfl) rfl (gin_c (mem_at i9wsX8_solve_0 9 rfl) rfl gin_n)))) ggX8_solve_X7_keep
theorem i9wsX8_solve_5 : ∀ w ∈ wsX8_solve_r6, w ∈ wsX8_solve := fun _ h => (List.mem_cons_of_mem _ (List.mem_append_left _ (List.mem_append_left _ (List.mem_append_left _ (List.mem_append_left _ (List.mem_append_left _ (List.mem_append_left _ (List.mem_append_left _ (List.mem_append_left _ (List.mem_append_left _ (List.mem_append_left _ (List.mem_append_right _ (List.mem_append_right _ (List.mem_append_right _ (List.mem_append_right _ (List.mem_append_right _ h))))))))))))))))
theorem i9wsX8_solve_1 : ∀ w ∈ wsX8_solve_r2, w ∈ wsX8_solve := fun _ h => (List.mem_cons_of_mem _ (List.mem_append_left _ (List.mem_append_left _ (List.mem_append_left _ (List.mem_append_left _ (List.mem_append_left _ (List.mem_append_left _ (List.mem_append_left _ (List.mem_append_left _ (List.mem_append_left _ (List.mem_append_left _ (List.mem_append_right _ (List.mem_append_left _ h)))))))))))))
theorem i9wsX8_solve_2 : ∀ w ∈ wsX8_solve_r3, w ∈ wsX8_solve := fun _ h => (List.mem_cons_of_mem _ (List.mem_append_left _ (List.mem_append_left _ (List.mem_append_left _ (List.mem_append_left _ (List.mem_append_left _ (List.mem_append_left _ (List.mem_append_left _ (List.mem_append_left _ (List.mem_append_left _ (List.mem_append_left _ (List.mem_append_right _ (List.mem_append_right _ (List.mem_append_left _ h))))))))))))))
theorem i9wsX8_solve_3 : ∀ w ∈ wsX8_solve_r4, w ∈ wsX8_solve := fun _ h => (List.mem_cons_of_mem _ (List.mem_append_left _ (List.mem_append_left _ (List.mem_append_left _ (List.mem_append_left _ (List.mem_append_left _ (List.mem_append_left _ (List.mem_append_left _ (List.mem_append_left _ (List.mem_append_left _ (List.mem_append_left _ (List.mem_append_right _ (List.mem_append_right _ (List.mem_append_right _ (List.mem_append_left _ h)))))))))))))))
theorem i9wsX8_solve_4 : ∀ w ∈ wsX8_solve_r5, w ∈ wsX8_solve := fun _ h => (List.mem_cons_of_mem _ (List.mem_append_left _ (List.mem_append_left _ (List.mem_append_left _ (List.mem_append_left _ (List.mem_append_left _ (List.mem_append_left _ (List.mem_append_left _ (List.mem_append_left _ (List.mem_append_left _ (List.mem_append_left _ (List.mem_append_right _ (List.mem_append_right _ (List.mem_append_right _ (List.mem_append_right _ (List.mem_append_left _ h))))))))))))))))
theorem i9wsX8_solve_6 : ∀ w ∈ wsX80, w ∈ wsX8_solve := fun _ h => (List.mem_cons_of_mem _ (List.mem_append_left _ (List.mem_append_left _ (List.mem_append_left _ (List.mem_append_left _ (List.mem_append_left _ (List.mem_append_left _ (List.mem_append_left _ (List.mem_append_left _ (List.mem_append_left _ (List.mem_append_right _ h)))))))))))
theorem i9wsX8_solve_7 : ∀ w ∈ wsX60, w ∈ wsX8_solve := fun _ h => (List.mem_cons_of_mem _ (List.mem_append_left _ (List.mem_append_left _ (List.mem_append_left _ (List.mem_append_left _ (List.mem_append_left _ (List.mem_append_left _ (List.mem_append_left _ (List.mem_append_left _ (List.mem_append_right _ h))))))))))
theorem i9wsX8_solve_8 : ∀ w ∈ wsX20, w ∈ wsX8_solve := fun _ h => (List.mem_cons_of_mem _ (List.mem_append_left _ (List.mem_append_left _ (List.mem_append_left _ (List.mem_append_left _ (List.mem_append_left _ (List.mem_append_left _ (List.mem_append_left _ (List.mem_append_right _ h)))))))))
theorem i9wsX8_solve_10 : ∀ w ∈ wsX50, w ∈ wsX8_solve := fun _ h => (List.mem_cons_of_mem _ (List.mem_append_left _ (List.mem_append_left _ (List.mem_append_left _ (List.mem_append_left _ (List.mem_append_left _ (List.mem_append_right _ h)))))))
theorem i9wsX8_solve_11 : ∀ w ∈ wsX100, w ∈ wsX8_solve := fun _ h => (List.mem_cons_of_mem _ (List.mem_append_left _ (List.mem_append_left _ (List.mem_append_left _ (List.mem_append_left _ (List.mem_append_right _ h))))))
theorem i9wsX8_solve_12 : ∀ w ∈ wsX10, w ∈ wsX8_solve := fun _ h => (List.mem_cons_of_mem _ (List.mem_append_left _ (List.mem_append_left _ (List.mem_append_left _ (List.mem_append_right _ h)))))
theorem i9wsX8_solve_13 : ∀ w ∈ wsX00, w ∈ wsX8_solve := fun _ h => (List.mem_cons_of_mem _ (List.mem_append_left _ (List.mem_append_left _ (List.mem_append_right _ h))))
theorem i9wsX8_solve_14 : ∀ w ∈ wsX40, w ∈ wsX8_solve := fun _ h => (List.mem_cons_of_mem _ (List.mem_append_left _ (List.mem_append_right _ h)))
theorem i9wsX8_solve_15 : ∀ w ∈ ((vx_atS RX8 126 "java/lang/ArithmeticException" ["java/lang/RuntimeException", "java/lang/Exception"]).filter goodWord), w ∈ wsX8_solve := fun _ h => (List.mem_cons_of_mem _ (List.mem_append_right _ h))
set_option maxRecDepth 20000 in
theorem ggX8_solve_X8_solveEach : GoodIn wsX8_solve wsX8_solveEach := (gin_c (mem_at i9wsX8_solve_5 0 rfl) rfl (goodIn_app (goodIn_app (goodIn_app (goodIn_app (goodIn_app (goodIn_app (goodIn_app (goodIn_app (goodIn_app (goodIn_app (goodIn_app (gin_c (mem_at i9wsX8_solve_1 1 rfl) rfl (gin_c (mem_at i9wsX8_solve_1 3 rfl) rfl (gin_c (mem_at i9wsX8_solve_1 4 rfl) rfl (gin_c (mem_at i9wsX8_solve_1 5 rfl) rfl (gin_c (mem_at i9wsX8_solve_0 20 rfl) rfl (gin_c (mem_at i9wsX8_solve_1 6 rfl) rfl (gin_c (mem_at i9wsX8_solve_1 7 rfl) rfl (gin_c (mem_at i9wsX8_solve_1 8 rfl) rfl (gin_c (mem_at i9wsX8_solve_1 9 rfl) rfl (gin_c (mem_at i9wsX8_solve_1 10 rfl) rfl (gin_c (mem_at i9wsX8_solve_1 11 rfl) rfl (gin_c (mem_at i9wsX8_solve_1 12 rfl) rfl (gin_c (mem_at i9wsX8_solve_1 13 rfl) rfl (gin_c (mem_at i9wsX8_solve_1 14 rfl) rfl (gin_c (mem_at i9wsX8_solve_1 15 rfl) rfl (gin_c (mem_at i9wsX8_solve_1 16 rfl) rfl (gin_c (mem_at i9wsX8_solve_1 17 rfl) rfl (gin_c (mem_at i9wsX8_solve_1 18 rfl) rfl (gin_c (mem_at i9wsX8_solve_0 3 rfl) rfl (gin_c (mem_at i9wsX8_solve_1 19 rfl) rfl (gin_c (mem_at i9wsX8_solve_1 20 rfl) rfl (gin_c (mem_at i9wsX8_solve_1 21 rfl) rfl (gin_c (mem_at i9wsX8_solve_1 22 rfl) rfl (gin_c (mem_at i9wsX8_solve_1 23 rfl) rfl gin_n)))))))))))))))))))))))) (goodIn_app (gin_c (mem_at i9wsX8_solve_2 0 rfl) rfl (gin_c (mem_at i9wsX8_solve_2 1 rfl) rfl (gin_c (mem_at i9wsX8_solve_2 2 rfl) rfl (gin_c (mem_at i9wsX8_solve_2 3 rfl) rfl (gin_c (mem_at i9wsX8_solve_2 4 rfl) rfl (gin_c (mem_at i9wsX8_solve_2 5 rfl) rfl (gin_c (mem_at i9wsX8_solve_2 6 rfl) rfl (gin_c (mem_at i9wsX8_solve_2 7 rfl) rfl (gin_c (mem_at i9wsX8_solve_2 8 rfl) rfl (gin_c (mem_at i9wsX8_solve_2 9 rfl) rfl (gin_c (mem_at i9wsX8_solve_2 10 rfl) rfl (gin_c (mem_at i9wsX8_solve_2 11 rfl) rfl (gin_c (mem_at i9wsX8_solve_2 12 rfl) rfl (gin_c (mem_at i9wsX8_solve_2 13 rfl) rfl (gin_c (mem_at i9wsX8_solve_2 14 rfl) rfl (gin_c (mem_at i9wsX8_solve_2 15 rfl) rfl (gin_c (mem_at i9wsX8_solve_2 16 rfl) rfl (gin_c (mem_at i9wsX8_solve_2 17 rfl) rfl (gin_c (mem_at i9wsX8_solve_2 18 rfl) rfl (gin_c (mem_at i9wsX8_solve_2 19 rfl) rfl (gin_c (mem_at i9wsX8_solve_2 20 rfl) rfl (gin_c (mem_at i9wsX8_solve_2 21 rfl) rfl (gin_c (mem_at i9wsX8_solve_2 22 rfl) rfl (gin_c (mem_at i9wsX8_solve_2 23 rfl) rfl gin_n)))))))))))))))))))))))) (goodIn_app (gin_c (mem_at i9wsX8_solve_3 0 rfl) rfl (gin_c (mem_at i9wsX8_solve_3 1 rfl) rfl (gin_c (mem_at i9wsX8_solve_3 2 rfl) rfl (gin_c (mem_at i9wsX8_solve_3 3 rfl) rfl (gin_c (mem_at i9wsX8_solve_3 4 rfl) rfl (gin_c (mem_at i9wsX8_solve_3 5 rfl) rfl (gin_c (mem_at i9wsX8_solve_3 6 rfl) rfl (gin_c (mem_at i9wsX8_solve_3 7 rfl) rfl (gin_c (mem_at i9wsX8_solve_3 8 rfl) rfl (gin_c (mem_at i9wsX8_solve_3 9 rfl) rfl (gin_c (mem_at i9wsX8_solve_3 10 rfl) rfl (gin_c (mem_at i9wsX8_solve_3 11 rfl) rfl (gin_c (mem_at i9wsX8_solve_3 12 rfl) rfl (gin_c (mem_at i9wsX8_solve_3 13 rfl) rfl (gin_c (mem_at i9wsX8_solve_3 14 rfl) rfl (gin_c (mem_at i9wsX8_solve_3 15 rfl) rfl (gin_c (mem_at i9wsX8_solve_3 16 rfl) rfl (gin_c (mem_at i9wsX8_solve_3 17 rfl) rfl (gin_c (mem_at i9wsX8_solve_3 18 rfl) rfl (gin_c (mem_at i9wsX8_solve_3 19 rfl) rfl (gin_c (mem_at i9wsX8_solve_3 20 rfl) rfl (gin_c (mem_at i9wsX8_solve_3 21 rfl) rfl (gin_c (mem_at i9wsX8_solve_3 22 rfl) rfl (gin_c (mem_at i9wsX8_solve_3 23 rfl) rfl gin_n)))))))))))))))))))))))) (goodIn_app (gin_c (mem_at i9wsX8_solve_4 0 rfl) rfl (gin_c (mem_at i9wsX8_solve_4 1 rfl) rfl (gin_c (mem_at i9wsX8_solve_4 2 rfl) rfl (gin_c (mem_at i9wsX8_solve_4 3 rfl) rfl (gin_c (mem_at i9wsX8_solve_4 4 rfl) rfl (gin_c (mem_at i9wsX8_solve_4 5 rfl) rfl (gin_c (mem_at i9wsX8_solve_4 6 rfl) rfl (gin_c (mem_at i9wsX8_solve_4 7 rfl) rfl (gin_c (mem_at i9wsX8_solve_4 8 rfl) rfl (gin_c (mem_at i9wsX8_solve_4 9 rfl) rfl (gin_c (mem_at i9wsX8_solve_4 10 rfl) rfl (gin_c (mem_at i9wsX8_solve_4 11 rfl) rfl (gin_c (mem_at i9wsX8_solve_4 12 rfl) rfl (gin_c (mem_at i9wsX8_solve_4 13 rfl) rfl (gin_c (mem_at i9wsX8_solve_4 14 rfl) rfl (gin_c (mem_at i9wsX8_solve_4 15 rfl) rfl (gin_c (mem_at i9wsX8_solve_4 16 rfl) rfl (gin_c (mem_at i9wsX8_solve_4 17 rfl) rfl (gin_c (mem_at i9wsX8_solve_4 18 rfl) rfl (gin_c (mem_at i9wsX8_solve_4 19 rfl) rfl (gin_c (mem_at i9wsX8_solve_4 20 rfl) rfl (gin_c (mem_at i9wsX8_solve_4 21 rfl) rfl (gin_c (mem_at i9wsX8_solve_4 22 rfl) rfl (gin_c (mem_at i9wsX8_solve_4 23 rfl) rfl gin_n)))))))))))))))))))))))) (goodIn_app (gin_c (List.mem_cons_self) rfl (gin_c (mem_at i9wsX8_solve_0 0 rfl) rfl (gin_c (mem_at i9wsX8_solve_0 1 rfl) rfl (gin_c (mem_at i9wsX8_solve_0 2 rfl) rfl (gin_c (mem_at i9wsX8_solve_0 4 rfl) rfl (gin_c (mem_at i9wsX8_solve_0 5 rfl) rfl (gin_c (mem_at i9wsX8_solve_0 6 rfl) rfl (gin_c (mem_at i9wsX8_solve_0 7 rfl) rfl (gin_c (mem_at i9wsX8_solve_0 8 rfl) rfl (gin_c (mem_at i9wsX8_solve_0 9 rfl) rfl (gin_c (mem_at i9wsX8_solve_0 10 rfl) rfl (gin_c (mem_at i9wsX8_solve_0 11 rfl) rfl (gin_c (mem_at i9wsX8_solve_0 12 rfl) rfl (gin_c (mem_at i9wsX8_solve_0 13 rfl) rfl (gin_c (mem_at i9wsX8_solve_0 14 rfl) rfl (gin_c (mem_at i9wsX8_solve_0 15 rfl) rfl (gin_c (mem_at i9wsX8_solve_0 16 rfl) rfl (gin_c (mem_at i9wsX8_solve_0 17 rfl) rfl (gin_c (mem_at i9wsX8_solve_0 18 rfl) rfl (gin_c (mem_at i9wsX8_solve_0 19 rfl) rfl (gin_c (mem_at i9wsX8_solve_0 21 rfl) rfl (gin_c (mem_at i9wsX8_solve_0 22 rfl) rfl (gin_c (mem_at i9wsX8_solve_0 23 rfl) rfl (gin_c (mem_at i9wsX8_solve_1 0 rfl) rfl gin_n)))))))))))))))))))))))) (gin_c (mem_at i9wsX8_solve_1 2 rfl) rfl gin_n)))))) (goodIn_sub i9wsX8_solve_6 g9_11)) (goodIn_sub i9wsX8_solve_7 g9_7)) (goodIn_sub i9wsX8_solve_8 g9_6)) (goodIn_sub i9wsX8_solve_9 g9_9)) (goodIn_sub i9wsX8_solve_10 g9_10)) (goodIn_sub i9wsX8_solve_11 g9_3)) (goodIn_sub i9wsX8_solve_12 g9_0)) (goodIn_sub i9wsX8_solve_13 g9_1)) (goodIn_sub i9wsX8_solve_14 g9_2)) (goodIn_sub i9wsX8_solve_15 g9_12)))
set_option maxRecDepth 20000 in
theorem gX8_solve_X8_solveEach : GoodIn wsX8_solve (wsV RX8 75 RX8 yX8_solveEach wsX8_solveEach) := goodIn_app (gin_c (mem_at i9wsX8_solve_0 17 rfl) rfl (gin_c (mem_at i9wsX8_solve_0 18 rfl) rfl (gin_c (mem_at i9wsX8_solve_0 19 rfl) rfl (gin_c (mem_at i9wsX8_solve_0 20 rfl) rfl gin_n)))) ggX8_solve_X8_solveEach
set_option maxRecDepth 20000 in
theorem ggX8_solve_X8_holds : GoodIn wsX8_solve wsX8_holds := (gin_c (mem_at i9wsX8_solve_1 0 rfl) rfl (goodIn_app (goodIn_app (goodIn_app (goodIn_app (goodIn_app (goodIn_app (goodIn_app (goodIn_app (goodIn_app (gin_c (mem_at i9wsX8_solve_0 5 rfl) rfl (gin_c (mem_at i9wsX8_solve_1 1 rfl) rfl (gin_c (mem_at i9wsX8_solve_0 3 rfl) rfl (gin_c (mem_at i9wsX8_solve_1 2 rfl) rfl (gin_c (mem_at i9wsX8_solve_1 3 rfl) rfl (gin_c (mem_at i9wsX8_solve_1 4 rfl) rfl (gin_c (mem_at i9wsX8_solve_1 5 rfl) rfl (gin_c (mem_at i9wsX8_solve_0 20 rfl) rfl (gin_c (mem_at i9wsX8_solve_1 6 rfl) rfl (gin_c (mem_at i9wsX8_solve_1 7 rfl) rfl (gin_c (mem_at i9wsX8_solve_1 8 rfl) rfl (gin_c (mem_at i9wsX8_solve_1 9 rfl) rfl (gin_c (mem_at i9wsX8_solve_1 10 rfl) rfl (gin_c (mem_at i9wsX8_solve_1 11 rfl) rfl (gin_c (mem_at i9wsX8_solve_1 12 rfl) rfl (gin_c (mem_at i9wsX8_solve_1 13 rfl) rfl (gin_c (mem_at i9wsX8_solve_1 14 rfl) rfl (gin_c (mem_at i9wsX8_solve_1 15 rfl) rfl (gin_c (mem_at i9wsX8_solve_1 16 rfl) rfl (gin_c (mem_at i9wsX8_solve_1 17 rfl) rfl (gin_c (mem_at i9wsX8_solve_1 18 rfl) rfl (gin_c (mem_at i9wsX8_solve_1 19 rfl) rfl (gin_c (mem_at i9wsX8_solve_1 20 rfl) rfl (gin_c (mem_at i9wsX8_solve_1 21 rfl) rfl gin_n)))))))))))))))))))))))) (goodIn_app (gin_c (mem_at i9wsX8_solve_1 22 rfl) rfl (gin_c (mem_at i9wsX8_solve_1 23 rfl) rfl (gin_c (mem_at i9wsX8_solve_2 0 rfl) rfl (gin_c (mem_at i9wsX8_solve_2 1 rfl) rfl (gin_c (mem_at i9wsX8_solve_2 2 rfl) rfl (gin_c (mem_at i9wsX8_solve_2 3 rfl) rfl (gin_c (mem_at i9wsX8_solve_2 4 rfl) rfl (gin_c (mem_at i9wsX8_solve_2 5 rfl) rfl (gin_c (mem_at i9wsX8_solve_2 6 rfl) rfl (gin_c (mem_at i9wsX8_solve_2 7 rfl) rfl (gin_c (mem_at i9wsX8_solve_2 8 rfl) rfl (gin_c (mem_at i9wsX8_solve_2 9 rfl) rfl (gin_c (mem_at i9wsX8_solve_2 10 rfl) rfl (gin_c (mem_at i9wsX8_solve_2 11 rfl) rfl (gin_c (mem_at i9wsX8_solve_2 12 rfl) rfl (gin_c (mem_at i9wsX8_solve_2 13 rfl) rfl (gin_c (mem_at i9wsX8_solve_2 14 rfl) rfl (gin_c (mem_at i9wsX8_solve_2 15 rfl) rfl (gin_c (mem_at i9wsX8_solve_2 16 rfl) rfl (gin_c (mem_at i9wsX8_solve_2 17 rfl) rfl (gin_c (mem_at i9wsX8_solve_2 18 rfl) rfl (gin_c (mem_at i9wsX8_solve_2 19 rfl) rfl (gin_c (mem_at i9wsX8_solve_2 20 rfl) rfl (gin_c (mem_at i9wsX8_solve_2 21 rfl) rfl gin_n)))))))))))))))))))))))) (goodIn_app (gin_c (mem_at i9wsX8_solve_2 22 rfl) rfl (gin_c (mem_at i9wsX8_solve_2 23 rfl) rfl (gin_c (mem_at i9wsX8_solve_3 0 rfl) rfl (gin_c (mem_at i9wsX8_solve_3 1 rfl) rfl (gin_c (mem_at i9wsX8_solve_3 2 rfl) rfl (gin_c (mem_at i9wsX8_solve_3 3 rfl) rfl (gin_c (mem_at i9wsX8_solve_3 4 rfl) rfl (gin_c (mem_at i9wsX8_solve_3 5 rfl) rfl (gin_c (mem_at i9wsX8_solve_3 6 rfl) rfl (gin_c (mem_at i9wsX8_solve_3 7 rfl) rfl (gin_c (mem_at i9wsX8_solve_3 8 rfl) rfl (gin_c (mem_at i9wsX8_solve_3 9 rfl) rfl (gin_c (mem_at i9wsX8_solve_3 10 rfl) rfl (gin_c (mem_at i9wsX8_solve_3 11 rfl) rfl (gin_c (mem_at i9wsX8_solve_3 12 rfl) rfl (gin_c (mem_at i9wsX8_solve_3 13 rfl) rfl (gin_c (mem_at i9wsX8_solve_3 14 rfl) rfl (gin_c (mem_at i9wsX8_solve_3 15 rfl) rfl (gin_c (mem_at i9wsX8_solve_3 16 rfl) rfl (gin_c (mem_at i9wsX8_solve_3 17 rfl) rfl (gin_c (mem_at i9wsX8_solve_3 18 rfl) rfl (gin_c (mem_at i9wsX8_solve_3 19 rfl) rfl (gin_c (mem_at i9wsX8_solve_3 20 rfl) rfl (gin_c (mem_at i9wsX8_solve_3 21 rfl) rfl gin_n)))))))))))))))))))))))) (gin_c (mem_at i9wsX8_solve_3 22 rfl) rfl (gin_c (mem_at i9wsX8_solve_3 23 rfl) rfl (gin_c (mem_at i9wsX8_solve_4 0 rfl) rfl (gin_c (mem_at i9wsX8_solve_4 1 rfl) rfl (gin_c (mem_at i9wsX8_solve_4 2 rfl) rfl (gin_c (mem_at i9wsX8_solve_4 3 rfl) rfl (gin_c (mem_at i9wsX8_solve_4 4 rfl) rfl (gin_c (mem_at i9wsX8_solve_4 5 rfl) rfl (gin_c (mem_at i9wsX8_solve_4 6 rfl) rfl (gin_c (mem_at i9wsX8_solve_4 7 rfl) rfl (gin_c (mem_at i9wsX8_solve_4 8 rfl) rfl (gin_c (mem_at i9wsX8_solve_4 9 rfl) rfl (gin_c (mem_at i9wsX8_solve_4 10 rfl) rfl (gin_c (mem_at i9wsX8_solve_4 11 rfl) rfl (gin_c (mem_at i9wsX8_solve_4 12 rfl) rfl (gin_c (mem_at i9wsX8_solve_4 13 rfl) rfl (gin_c (mem_at i9wsX8_solve_4 14 rfl) rfl (gin_c (mem_at i9wsX8_solve_4 15 rfl) rfl (gin_c (mem_at i9wsX8_solve_4 16 rfl) rfl (gin_c (mem_at i9wsX8_solve_4 17 rfl) rfl (gin_c (mem_at i9wsX8_solve_4 18 rfl) rfl (gin_c (mem_at i9wsX8_solve_4 19 rfl) rfl (gin_c (mem_at i9wsX8_solve_4 20 rfl) rfl gin_n)))))))))))))))))))))))))) (goodIn_sub i9wsX8_solve_8 g9_6)) (goodIn_sub i9wsX8_solve_6 g9_11)) (goodIn_sub i9wsX8_solve_10 g9_10)) (goodIn_sub i9wsX8_solve_11 g9_3)) (goodIn_sub i9wsX8_solve_12 g9_0)) (goodIn_sub i9wsX8_solve_13 g9_1)) (goodIn_sub i9wsX8_solve_14 g9_2)) (goodIn_sub i9wsX8_solve_15 g9_12)))
set_option maxRecDepth 20000 in
theorem gX8_solve_X8_holds : GoodIn wsX8_solve (wsV RX8 79 RX8 yX8_holds wsX8_holds) := goodIn_app (gin_c (mem_at i9wsX8_solve_0 21 rfl) rfl (gin_c (mem_at i9wsX8_solve_0 22 rfl) rfl (gin_c (mem_at i9wsX8_solve_0 23 rfl) rfl (gin_c (mem_at i9wsX8_solve_0 20 rfl) rfl gin_n)))) ggX8_solve_X8_holds
set_option maxRecDepth 20000 in
theorem ggX8_solve_X8_solve : GoodIn wsX8_solve wsX8_solve := (gin_c (List.mem_cons_self) rfl (goodIn_app (goodIn_app (goodIn_app (goodIn_app (goodIn_app (goodIn_app (goodIn_app (goodIn_app (goodIn_app (goodIn_app (goodIn_app (gin_c (mem_at i9wsX8_solve_0 0 rfl) rfl (gin_c (mem_at i9wsX8_solve_0 1 rfl) rfl (gin_c (mem_at i9wsX8_solve_0 2 rfl) rfl (gin_c (mem_at i9wsX8_solve_0 3 rfl) rfl (gin_c (mem_at i9wsX8_solve_0 4 rfl) rfl (gin_c (mem_at i9wsX8_solve_0 5 rfl) rfl (gin_c (mem_at i9wsX8_solve_0 6 rfl) rfl (gin_c (mem_at i9wsX8_solve_0 7 rfl) rfl (gin_c (mem_at i9wsX8_solve_0 8 rfl) rfl (gin_c (mem_at i9wsX8_solve_0 9 rfl) rfl (gin_c (mem_at i9wsX8_solve_0 10 rfl) rfl (gin_c (mem_at i9wsX8_solve_0 11 rfl) rfl (gin_c (mem_at i9wsX8_solve_0 12 rfl) rfl (gin_c (mem_at i9wsX8_solve_0 13 rfl) rfl (gin_c (mem_at i9wsX8_solve_0 14 rfl) rfl (gin_c (mem_at i9wsX8_solve_0 15 rfl) rfl (gin_c (mem_at i9wsX8_solve_0 16 rfl) rfl (gin_c (mem_at i9wsX8_solve_0 17 rfl) rfl (gin_c (mem_at i9wsX8_solve_0 18 rfl) rfl (gin_c (mem_at i9wsX8_solve_0 19 rfl) rfl (gin_c (mem_at i9wsX8_solve_0 20 rfl) rfl (gin_c (mem_at i9wsX8_solve_0 21 rfl) rfl (gin_c (mem_at i9wsX8_solve_0 22 rfl) rfl (gin_c (mem_at i9wsX8_solve_0 23 rfl) rfl gin_n)))))))))))))))))))))))) (goodIn_app (gin_c (mem_at i9wsX8_solve_1 0 rfl) rfl (gin_c (mem_at i9wsX8_solve_1 1 rfl) rfl (gin_c (mem_at i9wsX8_solve_1 2 rfl) rfl (gin_c (mem_at i9wsX8_solve_1 3 rfl) rfl (gin_c (mem_at i9wsX8_solve_1 4 rfl) rfl (gin_c (mem_at i9wsX8_solve_1 5 rfl) rfl (gin_c (mem_at i9wsX8_solve_1 6 rfl) rfl (gin_c (mem_at i9wsX8_solve_1 7 rfl) rfl (gin_c (mem_at i9wsX8_solve_1 8 rfl) rfl (gin_c (mem_at i9wsX8_solve_1 9 rfl) rfl (gin_c (mem_at i9wsX8_solve_1 10 rfl) rfl (gin_c (mem_at i9wsX8_solve_1 11 rfl) rfl (gin_c (mem_at i9wsX8_solve_1 12 rfl) rfl (gin_c (mem_at i9wsX8_solve_1 13 rfl) rfl (gin_c (mem_at i9wsX8_solve_1 14 rfl) rfl (gin_c (mem_at i9wsX8_solve_1 15 rfl) rfl (gin_c (mem_at i9wsX8_solve_1 16 rfl) rfl (gin_c (mem_at i9wsX8_solve_1 17 rfl) rfl (gin_c (mem_at i9wsX8_solve_1 18 rfl) rfl (gin_c (mem_at i9wsX8_solve_1 19 rfl) rfl (gin_c (mem_at i9wsX8_solve_1 20 rfl) rfl (gin_c (mem_at i9wsX8_solve_1 21 rfl) rfl (gin_c (mem_at i9wsX8_solve_1 22 rfl) rfl (gin_c (mem_at i9wsX8_solve_1 23 rfl) rfl gin_n)))))))))))))))))))))))) (goodIn_app (gin_c (mem_at i9wsX8_solve_2 0 rfl) rfl (gin_c (mem_at i9wsX8_solve_2 1 rfl) rfl (gin_c (mem_at i9wsX8_solve_2 2 rfl) rfl (gin_c (mem_at i9wsX8_solve_2 3 rfl) rfl (gin_c (mem_at i9wsX8_solve_2 4 rfl) rfl (gin_c (mem_at i9wsX8_solve_2 5 rfl) rfl (gin_c (mem_at i9wsX8_solve_2 6 rfl) rfl (gin_c (mem_at i9wsX8_solve_2 7 rfl) rfl (gin_c (mem_at i9wsX8_solve_2 8 rfl) rfl (gin_c (mem_at i9wsX8_solve_2 9 rfl) rfl (gin_c (mem_at i9wsX8_solve_2 10 rfl) rfl (gin_c (mem_at i9wsX8_solve_2 11 rfl) rfl (gin_c (mem_at i9wsX8_solve_2 12 rfl) rfl (gin_c (mem_at i9wsX8_solve_2 13 rfl) rfl (gin_c (mem_at i9wsX8_solve_2 14 rfl) rfl (gin_c (mem_at i9wsX8_solve_2 15 rfl) rfl (gin_c (mem_at i9wsX8_solve_2 16 rfl) rfl (gin_c (mem_at i9wsX8_solve_2 17 rfl) rfl (gin_c (mem_at i9wsX8_solve_2 18 rfl) rfl (gin_c (mem_at i9wsX8_solve_2 19 rfl) rfl (gin_c (mem_at i9wsX8_solve_2 20 rfl) rfl (gin_c (mem_at i9wsX8_solve_2 21 rfl) rfl (gin_c (mem_at i9wsX8_solve_2 22 rfl) rfl (gin_c (mem_at i9wsX8_solve_2 23 rfl) rfl gin_n)))))))))))))))))))))))) (goodIn_app (gin_c (mem_at i9wsX8_solve_3 0 rfl) rfl (gin_c (mem_at i9wsX8_solve_3 1 rfl) rfl (gin_c (mem_at i9wsX8_solve_3 2 rfl) rfl (gin_c (mem_at i9wsX8_solve_3 3 rfl) rfl (gin_c (mem_at i9wsX8_solve_3 4 rfl) rfl (gin_c (mem_at i9wsX8_solve_3 5 rfl) rfl (gin_c (mem_at i9wsX8_solve_3 6 rfl) rfl (gin_c (mem_at i9wsX8_solve_3 7 rfl) rfl (gin_c (mem_at i9wsX8_solve_3 8 rfl) rfl (gin_c (mem_at i9wsX8_solve_3 9 rfl) rfl (gin_c (mem_at i9wsX8_solve_3 10 rfl) rfl (gin_c (mem_at i9wsX8_solve_3 11 rfl) rfl (gin_c (mem_at i9wsX8_solve_3 12 rfl) rfl (gin_c (mem_at i9wsX8_solve_3 13 rfl) rfl (gin_c (mem_at i9wsX8_solve_3 14 rfl) rfl (gin_c (mem_at i9wsX8_solve_3 15 rfl) rfl (gin_c (mem_at i9wsX8_solve_3 16 rfl) rfl (gin_c (mem_at i9wsX8_solve_3 17 rfl) rfl (gin_c (mem_at i9wsX8_solve_3 18 rfl) rfl (gin_c (mem_at i9wsX8_solve_3 19 rfl) rfl (gin_c (mem_at i9wsX8_solve_3 20 rfl) rfl (gin_c (mem_at i9wsX8_solve_3 21 rfl) rfl (gin_c (mem_at i9wsX8_solve_3 22 rfl) rfl (gin_c (mem_at i9wsX8_solve_3 23 rfl) rfl gin_n)))))))))))))))))))))))) (goodIn_app (gin_c (mem_at i9wsX8_solve_4 0 rfl) rfl (gin_c (mem_at i9wsX8_solve_4 1 rfl) rfl (gin_c (mem_at i9wsX8_solve_4 2 rfl) rfl (gin_c (mem_at i9wsX8_solve_4 3 rfl) rfl (gin_c (mem_at i9wsX8_solve_4 4 rfl) rfl (gin_c (mem_at i9wsX8_solve_4 5 rfl) rfl (gin_c (mem_at i9wsX8_solve_4 6 rfl) rfl (gin_c (mem_at i9wsX8_solve_4 7 rfl) rfl (gin_c (mem_at i9wsX8_solve_4 8 rfl) rfl (gin_c (mem_at i9wsX8_solve_4 9 rfl) rfl (gin_c (mem_at i9wsX8_solve_4 10 rfl) rfl (gin_c (mem_at i9wsX8_solve_4 11 rfl) rfl (gin_c (mem_at i9wsX8_solve_4 12 rfl) rfl (gin_c (mem_at i9wsX8_solve_4 13 rfl) rfl (gin_c (mem_at i9wsX8_solve_4 14 rfl) rfl (gin_c (mem_at i9wsX8_solve_4 15 rfl) rfl (gin_c (mem_at i9wsX8_solve_4 16 rfl) rfl (gin_c (mem_at i9wsX8_solve_4 17 rfl) rfl (gin_c (mem_at i9wsX8_solve_4 18 rfl) rfl (gin_c (mem_at i9wsX8_solve_4 19 rfl) rfl (gin_c (mem_at i9wsX8_solve_4 20 rfl) rfl (gin_c (mem_at i9wsX8_solve_4 21 rfl) rfl (gin_c (mem_at i9wsX8_solve_4 22 rfl) rfl (gin_c (mem_at i9wsX8_solve_4 23 rfl) rfl gin_n)))))))))))))))))))))))) (gin_c (mem_at i9wsX8_solve_5 0 rfl) rfl gin_n)))))) (goodIn_sub i9wsX8_solve_6 g9_11)) (goodIn_sub i9wsX8_solve_7 g9_7)) (goodIn_sub i9wsX8_solve_8 g9_6)) (goodIn_sub i9wsX8_solve_9 g9_9)) (goodIn_sub i9wsX8_solve_10 g9_10)) (goodIn_sub i9wsX8_solve_11 g9_3)) (goodIn_sub i9wsX8_solve_12 g9_0)) (goodIn_sub i9wsX8_solve_13 g9_1)) (goodIn_sub i9wsX8_solve_14 g9_2)) (goodIn_sub i9wsX8_solve_15 g9_12)))
set_option maxRecDepth 20000 in
theorem gX8_solve_X8_solve : GoodIn wsX8_solve (wsV RX8 55 RX8 yX8_solve wsX8_solve) := goodIn_app (gin_c (mem_at i9wsX8_solve_4 21 rfl) rfl (gin_c (mem_at i9wsX8_solve_4 22 rfl) rfl (gin_c (mem_at i9wsX8_solve_4 23 rfl) rfl (gin_c (mem_at i9wsX8_solve_0 20 rfl) rfl gin_n)))) ggX8_solve_X8_solve
set_option maxHeartbeats 4000000 in
set_option maxRecDepth 100000 in
theorem T_X8_solveB (l : Launch) (hl : l.stackTraces = false) (D : va_G) (cA : Nat → ClassId) (SV : Option Nat → Int32 → HS → (HS → Prop) → (String → HS → Prop) → Prop) (fr0 lo0 : Nat) (hfr : 20 ≤ fr0) (hlo : 400 ≤ lo0) (hSV : ∀ (l : Launch) (hl : l.stackTraces = false) (D : va_G) (cA : Nat → ClassId) {l0 : Option Nat} {l1 : Int32} {x : HS} {Q : HS → Prop} {X : String → HS → Prop}, SV l0 l1 x Q X → YV l yX8_solve wsX8_solve fr0 lo0 D cA [.q l0, .i l1] x Q X) {l0 : Option Nat} {l1 : Int32} {x : HS} {Q : HS → Prop} {X : String → HS → Prop} (h : w_X8_solveB SV l0 l1 x Q X) : YV l yX8_solve wsX8_solve (fr0 + 2) (lo0 + 120) D cA [.q l0, .i l1] x Q X := by
  refine YV.of (cc := cX8_solve) (maxL := 3) (ret := none) hl (by decide) rfl rfl (fun g B fr => ?_)
  have o := B.o
  have hb := B.hb
  have hts := B.hts
  have hown : g.s.vm.findClass RX8 = some g.m.cls := B.hown
  have in2 : ∀ w ∈ u_ws RX2 TX2 6, w ∈ wsX8_solve := fun w h => (List.mem_cons_of_mem _ (List.mem_append_left _ (List.mem_append_left _ (List.mem_append_left _ (List.mem_append_left _ (List.mem_append_left _ (List.mem_append_left _ (List.mem_append_left _ (List.mem_append_right _ h)))))))))
  have in6 : ∀ w ∈ u_ws RX6 TX6 8, w ∈ wsX8_solve := fun w h => (List.mem_cons_of_mem _ (List.mem_append_left _ (List.mem_append_left _ (List.mem_append_left _ (List.mem_append_left _ (List.mem_append_left _ (List.mem_append_left _ (List.mem_append_left _ (List.mem_append_left _ (List.mem_append_right _ h))))))))))
  have in8 : ∀ w ∈ u_ws RX8 TX8 8, w ∈ wsX8_solve := fun w h => (List.mem_cons_of_mem _ (List.mem_append_left _ (List.mem_append_left _ (List.mem_append_left _ (List.mem_append_left _ (List.mem_append_left _ (List.mem_append_left _ (List.mem_append_left _ (List.mem_append_left _ (List.mem_append_left _ (List.mem_append_right _ h)))))))))))
  unfold w_X8_solveB at h
  show KW g 3 0 [(0, .q l0), (1, .i l1)] [] x
  refine k_iload_n o hb dX8_solve_0 rfl 1 rfl ?_
  refine k_aload_n o hb dX8_solve_1 rfl 0 rfl ?_
  refine k_getF (C := RX8) (T := TX8) (N := 8) o hb hts in8 hown rfl (by decide) 6 (by decide) rfl (hts (.fieldLink RX8 35 "FactKeeper$Solver" "asked" "LFactKeeper$Reader;") (by decide +kernel)) (fun _ h9 => h9) dX8_solve_2 h (fun v1 h => ?_)
  refine k_getI (C := RX6) (T := TX6) (N := 8) o hb hts in6 hown rfl (by decide) 1 (by decide) rfl (hts (.fieldLink RX8 59 "FactKeeper$Reader" "goalCount" "I") (by decide +kernel)) (fun _ h9 => h9) dX8_solve_5 h (fun v2 h => ?_)
  refine wJoin_elim (M := fun K => ∀  (x4 : HS), K  x4 → KW g 3 17 [(0, .q l0)] [] x4) h ?_ (fun j3 hj3 h => ?_)
  · skip
    intro  x4 h
    refine k_aload_n o hb dX8_solve_17 rfl 0 rfl ?_
    refine k_getF (C := RX8) (T := TX8) (N := 8) o hb hts in8 hown rfl (by decide) 2 (by decide) rfl (hts (.fieldLink RX8 18 "FactKeeper$Solver" "spare" "LFactKeeper$Solutions;") (by decide +kernel)) (fun _ h9 => h9) dX8_solve_18 h (fun v5 h => ?_)
    refine k_aload_n o hb dX8_solve_21 rfl 0 rfl ?_
    refine k_getF (C := RX8) (T := TX8) (N := 8) o hb hts in8 hown rfl (by decide) 4 (by decide) rfl (hts (.fieldLink RX8 27 "FactKeeper$Solver" "variables" "[I") (by decide +kernel)) (fun _ h9 => h9) dX8_solve_22 h (fun v6 h => ?_)
    refine k_run_v o (fun _ _ q => q) (k_runV (ci := 7) (rc := (RX7, TX7, 3)) o hb B.hml hown hts rfl (by decide) (T_X7_keep g.l o.hl g.D g.cA h.2) (cwV 1 hts gX8_solve_X7_keep rfl rfl rfl (by decide +kernel) ⟨by have := B.hR1; show 1 + 1 ≤ g.R.frames; omega, by have := B.hR2; show 8 + (2 + 11) + 60 ≤ g.R.locals; omega⟩) h.1 rfl rfl (Nat.le_of_ble_eq_true rfl) dX8_solve_25) (fun x7 h => ?_)
    exact k_vret o hb B.hr fr dX8_solve_28 h
  · skip
    refine k_icmp_ge (tgt := 17) o hb dX8_solve_8 (by decide) h (fun h => ?_) (fun h => ?_)
    · skip
      exact KW.sub [0] rfl (hj3 x h)
    · skip
      refine k_iload_n o hb dX8_solve_11 rfl 1 rfl ?_
      refine k_bipush (v := 10) o hb dX8_solve_12 (by decide) ?_
      refine k_icmp_lt (tgt := 29) o hb dX8_solve_14 (by decide) h (fun h => ?_) (fun h => ?_)
      · skip
        refine k_aload_n o hb dX8_solve_29 rfl 0 rfl ?_
        refine k_getF (C := RX8) (T := TX8) (N := 8) o hb hts in8 hown rfl (by decide) 6 (by decide) rfl (hts (.fieldLink RX8 35 "FactKeeper$Solver" "asked" "LFactKeeper$Reader;") (by decide +kernel)) (fun _ h9 => h9) dX8_solve_30 h (fun v9 h => ?_)
        refine k_getF (C := RX6) (T := TX6) (N := 8) o hb hts in6 hown rfl (by decide) 0 (by decide) rfl (hts (.fieldLink RX8 66 "FactKeeper$Reader" "goals" "[LFactKeeper$Goal;") (by decide +kernel)) (fun _ h9 => h9) dX8_solve_33 h (fun v10 h => ?_)
        refine k_iload_n o hb dX8_solve_36 rfl 1 rfl ?_
        refine k_aald (kd := 27) (t0 := 6) o hb rfl (by decide) dX8_solve_37 h (fun v11 h => ?_)
        refine k_astore_n o hb dX8_solve_38 rfl rfl ?_
        refine k_aload_n o hb dX8_solve_39 rfl 0 rfl ?_
        refine k_getI (C := RX2) (T := TX2) (N := 6) o hb hts in2 hown rfl (by decide) 2 (by decide) rfl (hts (.fieldLink RX8 70 "FactKeeper$Goal" "sign" "I") (by decide +kernel)) (fun _ h9 => h9) dX8_solve_40 h (fun v12 h => ?_)
        refine k_bipush (v := 116) o hb dX8_solve_43 (by decide) ?_
        refine wJoin_elim (M := fun K => ∀  (x14 : HS), K  x14 → KW g 3 73 [] [] x14) h ?_ (fun j13 hj13 h => ?_)
        · skip
          intro  x14 h
          exact k_vret o hb B.hr fr dX8_solve_73 h
        · skip
          refine k_icmp_ne (tgt := 57) o hb dX8_solve_45 (by decide) h (fun h => ?_) (fun h => ?_)
          · skip
            refine k_aload_n o hb dX8_solve_48 rfl 1 rfl ?_
            refine k_aload_n o hb dX8_solve_49 rfl 0 rfl ?_
            refine k_iload_n o hb dX8_solve_50 rfl 2 rfl ?_
            refine k_run_v o (fun _ _ q => q) (k_runV (ci := 8) (rc := (RX8, TX8, 8)) o hb B.hml hown hts rfl (by decide) (T_X8_solveEach g.l o.hl g.D g.cA SV fr0 lo0 hfr hlo hSV h.2) (cwV 2 hts gX8_solve_X8_solveEach rfl rfl rfl (by decide +kernel) ⟨by have := B.hR1; show (fr0 + 1) + 1 ≤ g.R.frames; omega, by have := B.hR2; show 8 + (5 + 11) + (lo0 + 60) ≤ g.R.locals; omega⟩) h.1 rfl rfl (Nat.le_of_ble_eq_true rfl) dX8_solve_51) (fun x15 h => ?_)
            refine k_goto (tgt := 73) o hb dX8_solve_54 (by decide) ?_
            exact KW.sub [] rfl (hj13 x15 h)
          · skip
            refine k_aload_n o hb dX8_solve_57 rfl 1 rfl ?_
            refine k_aload_n o hb dX8_solve_58 rfl 0 rfl ?_
            refine k_iload_n o hb dX8_solve_59 rfl 2 rfl ?_
            refine k_run_i o (fun _ _ q => q) (k_runV (ci := 8) (rc := (RX8, TX8, 8)) o hb B.hml hown hts rfl (by decide) (T_X8_holds g.l o.hl g.D g.cA h.2) (cwV 2 hts gX8_solve_X8_holds rfl rfl rfl (by decide +kernel) ⟨by have := B.hR1; show 7 + 1 ≤ g.R.frames; omega, by have := B.hR2; show 8 + (5 + 11) + 114 ≤ g.R.locals; omega⟩) h.1 rfl rfl (Nat.le_of_ble_eq_true rfl) dX8_solve_60) (fun v18 x17 h => ?_)
            refine k_if_eq (tgt := 73) o hb dX8_solve_63 (by decide) h (fun h => ?_) (fun h => ?_)
            · skip
              exact KW.sub [] rfl (hj13 x17 h)
            · skip
              refine k_aload_n o hb dX8_solve_66 rfl 1 rfl ?_
              refine k_iload_n o hb dX8_solve_67 rfl 2 rfl ?_
              refine k_iconst (v := 1) o hb dX8_solve_68 (by decide) ?_
              refine k_iadd o hb dX8_solve_69 ?_
              refine k_run_v o (fun _ _ q => q) (k_runV (ci := 8) (rc := (RX8, TX8, 8)) o hb B.hml hown hts rfl (by decide) (hSV g.l o.hl g.D g.cA h.2) (cwV 1 hts gX8_solve_X8_solve rfl rfl rfl (by decide +kernel) ⟨by have := B.hR1; show fr0 + 1 ≤ g.R.frames; omega, by have := B.hR2; show 8 + (3 + 11) + lo0 ≤ g.R.locals; omega⟩) h.1 rfl rfl (Nat.le_of_ble_eq_true rfl) dX8_solve_70) (fun x19 h => ?_)
              exact KW.sub [] rfl (hj13 x19 h)
      · skip
        exact KW.sub [0] rfl (hj3 x h)
theorem T_X8_solve (n : Nat) : ∀ (l : Launch) (hl : l.stackTraces = false) (D : va_G) (cA : Nat → ClassId) {l0 : Option Nat} {l1 : Int32} {x : HS} {Q : HS → Prop} {X : String → HS → Prop}, w_X8_solve n l0 l1 x Q X → YV l yX8_solve wsX8_solve (20 + 2 * n) (400 + 120 * n) D cA [.q l0, .i l1] x Q X := by
  induction n with
  | zero => intro l hl D cA l0 l1 x Q X h; exact h.elim
  | succ n ih =>
    intro l hl D cA l0 l1 x Q X h
    exact T_X8_solveB l hl D cA (w_X8_solve n) (20 + 2 * n) (400 + 120 * n) (by omega) (by omega) ih h
theorem dX8_solveAll_0 : decode cX8_solveAll 0 = .ok (.aload_n 0, 1) := by decide +kernel
theorem dX8_solveAll_1 : decode cX8_solveAll 1 = .ok (.aload_n 1, 1) := by decide +kernel
theorem dX8_solveAll_2 : decode cX8_solveAll 2 = .ok (.putfield 35, 3) := by decide +kernel
theorem dX8_solveAll_5 : decode cX8_solveAll 5 = .ok (.aload_n 0, 1) := by decide +kernel
theorem dX8_solveAll_6 : decode cX8_solveAll 6 = .ok (.iload_n 2, 1) := by decide +kernel
theorem dX8_solveAll_7 : decode cX8_solveAll 7 = .ok (.putfield 39, 3) := by decide +kernel
theorem dX8_solveAll_10 : decode cX8_solveAll 10 = .ok (.aload_n 0, 1) := by decide +kernel
theorem dX8_solveAll_11 : decode cX8_solveAll 11 = .ok (.iconst 0, 1) := by decide +kernel
theorem dX8_solveAll_12 : decode cX8_solveAll 12 = .ok (.putfield 43, 3) := by decide +kernel
theorem dX8_solveAll_15 : decode cX8_solveAll 15 = .ok (.aload_n 0, 1) := by decide +kernel
theorem dX8_solveAll_16 : decode cX8_solveAll 16 = .ok (.getfield 18, 3) := by decide +kernel
theorem dX8_solveAll_19 : decode cX8_solveAll 19 = .ok (.aload_n 1, 1) := by decide +kernel
theorem dX8_solveAll_20 : decode cX8_solveAll 20 = .ok (.getfield 46, 3) := by decide +kernel
theorem dX8_solveAll_23 : decode cX8_solveAll 23 = .ok (.putfield 51, 3) := by decide +kernel
theorem dX8_solveAll_26 : decode cX8_solveAll 26 = .ok (.aload_n 0, 1) := by decide +kernel
theorem dX8_solveAll_27 : decode cX8_solveAll 27 = .ok (.getfield 18, 3) := by decide +kernel
theorem dX8_solveAll_30 : decode cX8_solveAll 30 = .ok (.iconst 0, 1) := by decide +kernel
theorem dX8_solveAll_31 : decode cX8_solveAll 31 = .ok (.putfield 52, 3) := by decide +kernel
theorem dX8_solveAll_34 : decode cX8_solveAll 34 = .ok (.aload_n 0, 1) := by decide +kernel
theorem dX8_solveAll_35 : decode cX8_solveAll 35 = .ok (.iconst 0, 1) := by decide +kernel
theorem dX8_solveAll_36 : decode cX8_solveAll 36 = .ok (.invokevirtual 55, 3) := by decide +kernel
theorem dX8_solveAll_39 : decode cX8_solveAll 39 = .ok (.aload_n 0, 1) := by decide +kernel
theorem dX8_solveAll_40 : decode cX8_solveAll 40 = .ok (.getfield 18, 3) := by decide +kernel
theorem dX8_solveAll_43 : decode cX8_solveAll 43 = .ok (.astore_n 3, 1) := by decide +kernel
theorem dX8_solveAll_44 : decode cX8_solveAll 44 = .ok (.aload_n 0, 1) := by decide +kernel
theorem dX8_solveAll_45 : decode cX8_solveAll 45 = .ok (.aload_n 0, 1) := by decide +kernel
theorem dX8_solveAll_46 : decode cX8_solveAll 46 = .ok (.getfield 12, 3) := by decide +kernel
theorem dX8_solveAll_49 : decode cX8_solveAll 49 = .ok (.putfield 18, 3) := by decide +kernel
theorem dX8_solveAll_52 : decode cX8_solveAll 52 = .ok (.aload_n 0, 1) := by decide +kernel
theorem dX8_solveAll_53 : decode cX8_solveAll 53 = .ok (.aload_n 3, 1) := by decide +kernel
theorem dX8_solveAll_54 : decode cX8_solveAll 54 = .ok (.putfield 12, 3) := by decide +kernel
theorem dX8_solveAll_57 : decode cX8_solveAll 57 = .ok (.aload_n 3, 1) := by decide +kernel
theorem dX8_solveAll_58 : decode cX8_solveAll 58 = .ok (.getfield 52, 3) := by decide +kernel
theorem dX8_solveAll_61 : decode cX8_solveAll 61 = .ok (.ireturn, 1) := by decide +kernel
theorem i9wsX8_solveAll_0 : ∀ w ∈ wsX8_solveAll_r1, w ∈ wsX8_solveAll := fun _ h => (List.mem_cons_of_mem _ (List.mem_append_left _ (List.mem_append_left _ (List.mem_append_left _ (List.mem_append_left _ (List.mem_append_left _ (List.mem_append_left _ (List.mem_append_left _ (List.mem_append_left _ (List.mem_append_left _ (List.mem_append_left _ (List.mem_append_left _ h))))))))))))
theorem i9wsX8_solveAll_1 : ∀ w ∈ wsX8_solveAll_r2, w ∈ wsX8_solveAll := fun _ h => (List.mem_cons_of_mem _ (List.mem_append_left _ (List.mem_append_left _ (List.mem_append_left _ (List.mem_append_left _ (List.mem_append_left _ (List.mem_append_left _ (List.mem_append_left _ (List.mem_append_left _ (List.mem_append_left _ (List.mem_append_left _ (List.mem_append_right _ (List.mem_append_left _ h)))))))))))))
theorem i9wsX8_solveAll_2 : ∀ w ∈ wsX8_solveAll_r3, w ∈ wsX8_solveAll := fun _ h => (List.mem_cons_of_mem _ (List.mem_append_left _ (List.mem_append_left _ (List.mem_append_left _ (List.mem_append_left _ (List.mem_append_left _ (List.mem_append_left _ (List.mem_append_left _ (List.mem_append_left _ (List.mem_append_left _ (List.mem_append_left _ (List.mem_append_right _ (List.mem_append_right _ (List.mem_append_left _ h))))))))))))))
theorem i9wsX8_solveAll_3 : ∀ w ∈ wsX8_solveAll_r4, w ∈ wsX8_solveAll := fun _ h => (List.mem_cons_of_mem _ (List.mem_append_left _ (List.mem_append_left _ (List.mem_append_left _ (List.mem_append_left _ (List.mem_append_left _ (List.mem_append_left _ (List.mem_append_left _ (List.mem_append_left _ (List.mem_append_left _ (List.mem_append_left _ (List.mem_append_right _ (List.mem_append_right _ (List.mem_append_right _ (List.mem_append_left _ h)))))))))))))))
theorem i9wsX8_solveAll_4 : ∀ w ∈ wsX8_solveAll_r5, w ∈ wsX8_solveAll := fun _ h => (List.mem_cons_of_mem _ (List.mem_append_left _ (List.mem_append_left _ (List.mem_append_left _ (List.mem_append_left _ (List.mem_append_left _ (List.mem_append_left _ (List.mem_append_left _ (List.mem_append_left _ (List.mem_append_left _ (List.mem_append_left _ (List.mem_append_right _ (List.mem_append_right _ (List.mem_append_right _ (List.mem_append_right _ (List.mem_append_left _ h))))))))))))))))
theorem i9wsX8_solveAll_5 : ∀ w ∈ wsX8_solveAll_r6, w ∈ wsX8_solveAll := fun _ h => (List.mem_cons_of_mem _ (List.mem_append_left _ (List.mem_append_left _ (List.mem_append_left _ (List.mem_append_left _ (List.mem_append_left _ (List.mem_append_left _ (List.mem_append_left _ (List.mem_append_left _ (List.mem_append_left _ (List.mem_append_left _ (List.mem_append_right _ (List.mem_append_right _ (List.mem_append_right _ (List.mem_append_right _ (List.mem_append_right _ h))))))))))))))))
theorem i9wsX8_solveAll_6 : ∀ w ∈ wsX80, w ∈ wsX8_solveAll := fun _ h => (List.mem_cons_of_mem _ (List.mem_append_left _ (List.mem_append_left _ (List.mem_append_left _ (List.mem_append_left _ (List.mem_append_left _ (List.mem_append_left _ (List.mem_append_left _ (List.mem_append_left _ (List.mem_append_left _ (List.mem_append_right _ h)))))))))))
theorem i9wsX8_solveAll_7 : ∀ w ∈ wsX60, w ∈ wsX8_solveAll := fun _ h => (List.mem_cons_of_mem _ (List.mem_append_left _ (List.mem_append_left _ (List.mem_append_left _ (List.mem_append_left _ (List.mem_append_left _ (List.mem_append_left _ (List.mem_append_left _ (List.mem_append_left _ (List.mem_append_right _ h))))))))))
theorem i9wsX8_solveAll_9 : ∀ w ∈ wsX20, w ∈ wsX8_solveAll := fun _ h => (List.mem_cons_of_mem _ (List.mem_append_left _ (List.mem_append_left _ (List.mem_append_left _ (List.mem_append_left _ (List.mem_append_left _ (List.mem_append_left _ (List.mem_append_right _ h))))))))
theorem i9wsX8_solveAll_8 : ∀ w ∈ wsX70, w ∈ wsX8_solveAll := fun _ h => (List.mem_cons_of_mem _ (List.mem_append_left _ (List.mem_append_left _ (List.mem_append_left _ (List.mem_append_left _ (List.mem_append_left _ (List.mem_append_left _ (List.mem_append_left _ (List.mem_append_right _ h)))))))))
theorem i9wsX8_solveAll_10 : ∀ w ∈ wsX50, w ∈ wsX8_solveAll := fun _ h => (List.mem_cons_of_mem _ (List.mem_append_left _ (List.mem_append_left _ (List.mem_append_left _ (List.mem_append_left _ (List.mem_append_left _ (List.mem_append_right _ h)))))))
theorem i9wsX8_solveAll_11 : ∀ w ∈ wsX100, w ∈ wsX8_solveAll := fun _ h => (List.mem_cons_of_mem _ (List.mem_append_left _ (List.mem_append_left _ (List.mem_append_left _ (List.mem_append_left _ (List.mem_append_right _ h))))))
theorem i9wsX8_solveAll_12 : ∀ w ∈ wsX10, w ∈ wsX8_solveAll := fun _ h => (List.mem_cons_of_mem _ (List.mem_append_left _ (List.mem_append_left _ (List.mem_append_left _ (List.mem_append_right _ h)))))
theorem i9wsX8_solveAll_13 : ∀ w ∈ wsX00, w ∈ wsX8_solveAll := fun _ h => (List.mem_cons_of_mem _ (List.mem_append_left _ (List.mem_append_left _ (List.mem_append_right _ h))))
theorem i9wsX8_solveAll_14 : ∀ w ∈ wsX40, w ∈ wsX8_solveAll := fun _ h => (List.mem_cons_of_mem _ (List.mem_append_left _ (List.mem_append_right _ h)))
theorem i9wsX8_solveAll_15 : ∀ w ∈ ((vx_atS RX8 126 "java/lang/ArithmeticException" ["java/lang/RuntimeException", "java/lang/Exception"]).filter goodWord), w ∈ wsX8_solveAll := fun _ h => (List.mem_cons_of_mem _ (List.mem_append_right _ h))
set_option maxRecDepth 20000 in
theorem ggX8_solveAll_X8_solve : GoodIn wsX8_solveAll wsX8_solve := (gin_c (mem_at i9wsX8_solveAll_0 12 rfl) rfl (goodIn_app (goodIn_app (goodIn_app (goodIn_app (goodIn_app (goodIn_app (goodIn_app (goodIn_app (goodIn_app (goodIn_app (goodIn_app (gin_c (mem_at i9wsX8_solveAll_0 0 rfl) rfl (gin_c (mem_at i9wsX8_solveAll_0 13 rfl) rfl (gin_c (mem_at i9wsX8_solveAll_0 3 rfl) rfl (gin_c (mem_at i9wsX8_solveAll_0 14 rfl) rfl (gin_c (mem_at i9wsX8_solveAll_0 15 rfl) rfl (gin_c (mem_at i9wsX8_solveAll_0 16 rfl) rfl (gin_c (mem_at i9wsX8_solveAll_0 17 rfl) rfl (gin_c (mem_at i9wsX8_solveAll_0 18 rfl) rfl (gin_c (mem_at i9wsX8_solveAll_0 19 rfl) rfl (gin_c (mem_at i9wsX8_solveAll_0 20 rfl) rfl (gin_c (mem_at i9wsX8_solveAll_0 21 rfl) rfl (gin_c (mem_at i9wsX8_solveAll_0 22 rfl) rfl (gin_c (mem_at i9wsX8_solveAll_0 23 rfl) rfl (gin_c (mem_at i9wsX8_solveAll_1 0 rfl) rfl (gin_c (mem_at i9wsX8_solveAll_1 1 rfl) rfl (gin_c (mem_at i9wsX8_solveAll_1 2 rfl) rfl (gin_c (mem_at i9wsX8_solveAll_1 3 rfl) rfl (gin_c (mem_at i9wsX8_solveAll_1 4 rfl) rfl (gin_c (mem_at i9wsX8_solveAll_1 5 rfl) rfl (gin_c (mem_at i9wsX8_solveAll_1 6 rfl) rfl (gin_c (mem_at i9wsX8_solveAll_0 11 rfl) rfl (gin_c (mem_at i9wsX8_solveAll_1 7 rfl) rfl (gin_c (mem_at i9wsX8_solveAll_1 8 rfl) rfl (gin_c (mem_at i9wsX8_solveAll_1 9 rfl) rfl gin_n)))))))))))))))))))))))) (goodIn_app (gin_c (mem_at i9wsX8_solveAll_1 10 rfl) rfl (gin_c (mem_at i9wsX8_solveAll_1 11 rfl) rfl (gin_c (mem_at i9wsX8_solveAll_1 12 rfl) rfl (gin_c (mem_at i9wsX8_solveAll_1 13 rfl) rfl (gin_c (mem_at i9wsX8_solveAll_1 14 rfl) rfl (gin_c (mem_at i9wsX8_solveAll_1 15 rfl) rfl (gin_c (mem_at i9wsX8_solveAll_1 16 rfl) rfl (gin_c (mem_at i9wsX8_solveAll_1 17 rfl) rfl (gin_c (mem_at i9wsX8_solveAll_1 18 rfl) rfl (gin_c (mem_at i9wsX8_solveAll_1 19 rfl) rfl (gin_c (mem_at i9wsX8_solveAll_0 1 rfl) rfl (gin_c (mem_at i9wsX8_solveAll_1 20 rfl) rfl (gin_c (mem_at i9wsX8_solveAll_1 21 rfl) rfl (gin_c (mem_at i9wsX8_solveAll_1 22 rfl) rfl (gin_c (mem_at i9wsX8_solveAll_1 23 rfl) rfl (gin_c (mem_at i9wsX8_solveAll_2 0 rfl) rfl (gin_c (mem_at i9wsX8_solveAll_2 1 rfl) rfl (gin_c (mem_at i9wsX8_solveAll_2 2 rfl) rfl (gin_c (mem_at i9wsX8_solveAll_2 3 rfl) rfl (gin_c (mem_at i9wsX8_solveAll_2 4 rfl) rfl (gin_c (mem_at i9wsX8_solveAll_2 5 rfl) rfl (gin_c (mem_at i9wsX8_solveAll_2 6 rfl) rfl (gin_c (mem_at i9wsX8_solveAll_2 7 rfl) rfl (gin_c (mem_at i9wsX8_solveAll_2 8 rfl) rfl gin_n)))))))))))))))))))))))) (goodIn_app (gin_c (mem_at i9wsX8_solveAll_2 9 rfl) rfl (gin_c (mem_at i9wsX8_solveAll_2 10 rfl) rfl (gin_c (mem_at i9wsX8_solveAll_2 11 rfl) rfl (gin_c (mem_at i9wsX8_solveAll_2 12 rfl) rfl (gin_c (mem_at i9wsX8_solveAll_2 13 rfl) rfl (gin_c (mem_at i9wsX8_solveAll_2 14 rfl) rfl (gin_c (mem_at i9wsX8_solveAll_2 15 rfl) rfl (gin_c (mem_at i9wsX8_solveAll_2 16 rfl) rfl (gin_c (mem_at i9wsX8_solveAll_2 17 rfl) rfl (gin_c (mem_at i9wsX8_solveAll_2 18 rfl) rfl (gin_c (mem_at i9wsX8_solveAll_2 19 rfl) rfl (gin_c (mem_at i9wsX8_solveAll_2 20 rfl) rfl (gin_c (mem_at i9wsX8_solveAll_2 21 rfl) rfl (gin_c (mem_at i9wsX8_solveAll_2 22 rfl) rfl (gin_c (mem_at i9wsX8_solveAll_2 23 rfl) rfl (gin_c (mem_at i9wsX8_solveAll_3 0 rfl) rfl (gin_c (mem_at i9wsX8_solveAll_3 1 rfl) rfl (gin_c (mem_at i9wsX8_solveAll_3 2 rfl) rfl (gin_c (mem_at i9wsX8_solveAll_3 3 rfl) rfl (gin_c (mem_at i9wsX8_solveAll_3 4 rfl) rfl (gin_c (mem_at i9wsX8_solveAll_3 5 rfl) rfl (gin_c (mem_at i9wsX8_solveAll_0 2 rfl) rfl (gin_c (mem_at i9wsX8_solveAll_3 6 rfl) rfl (gin_c (mem_at i9wsX8_solveAll_3 7 rfl) rfl gin_n)))))))))))))))))))))))) (goodIn_app (gin_c (mem_at i9wsX8_solveAll_3 8 rfl) rfl (gin_c (mem_at i9wsX8_solveAll_3 9 rfl) rfl (gin_c (mem_at i9wsX8_solveAll_3 10 rfl) rfl (gin_c (mem_at i9wsX8_solveAll_3 11 rfl) rfl (gin_c (mem_at i9wsX8_solveAll_3 12 rfl) rfl (gin_c (mem_at i9wsX8_solveAll_3 13 rfl) rfl (gin_c (mem_at i9wsX8_solveAll_3 14 rfl) rfl (gin_c (mem_at i9wsX8_solveAll_3 15 rfl) rfl (gin_c (mem_at i9wsX8_solveAll_3 16 rfl) rfl (gin_c (mem_at i9wsX8_solveAll_3 17 rfl) rfl (gin_c (mem_at i9wsX8_solveAll_3 18 rfl) rfl (gin_c (mem_at i9wsX8_solveAll_3 19 rfl) rfl (gin_c (mem_at i9wsX8_solveAll_3 20 rfl) rfl (gin_c (mem_at i9wsX8_solveAll_3 21 rfl) rfl (gin_c (mem_at i9wsX8_solveAll_3 22 rfl) rfl (gin_c (mem_at i9wsX8_solveAll_3 23 rfl) rfl (gin_c (mem_at i9wsX8_solveAll_4 0 rfl) rfl (gin_c (mem_at i9wsX8_solveAll_4 1 rfl) rfl (gin_c (mem_at i9wsX8_solveAll_4 2 rfl) rfl (gin_c (mem_at i9wsX8_solveAll_4 3 rfl) rfl (gin_c (mem_at i9wsX8_solveAll_4 4 rfl) rfl (gin_c (mem_at i9wsX8_solveAll_4 5 rfl) rfl (gin_c (mem_at i9wsX8_solveAll_4 6 rfl) rfl (gin_c (mem_at i9wsX8_solveAll_4 7 rfl) rfl gin_n)))))))))))))))))))))))) (goodIn_app (gin_c (mem_at i9wsX8_solveAll_4 8 rfl) rfl (gin_c (mem_at i9wsX8_solveAll_4 9 rfl) rfl (gin_c (mem_at i9wsX8_solveAll_4 10 rfl) rfl (gin_c (mem_at i9wsX8_solveAll_4 11 rfl) rfl (gin_c (mem_at i9wsX8_solveAll_4 12 rfl) rfl (gin_c (mem_at i9wsX8_solveAll_4 13 rfl) rfl (gin_c (mem_at i9wsX8_solveAll_4 14 rfl) rfl (gin_c (mem_at i9wsX8_solveAll_4 15 rfl) rfl (gin_c (mem_at i9wsX8_solveAll_4 16 rfl) rfl (gin_c (mem_at i9wsX8_solveAll_4 17 rfl) rfl (gin_c (mem_at i9wsX8_solveAll_4 18 rfl) rfl (gin_c (mem_at i9wsX8_solveAll_4 19 rfl) rfl (gin_c (mem_at i9wsX8_solveAll_4 20 rfl) rfl (gin_c (mem_at i9wsX8_solveAll_4 21 rfl) rfl (gin_c (mem_at i9wsX8_solveAll_4 22 rfl) rfl (gin_c (mem_at i9wsX8_solveAll_4 23 rfl) rfl (gin_c (mem_at i9wsX8_solveAll_5 0 rfl) rfl (gin_c (mem_at i9wsX8_solveAll_5 1 rfl) rfl (gin_c (mem_at i9wsX8_solveAll_5 2 rfl) rfl (gin_c (mem_at i9wsX8_solveAll_5 3 rfl) rfl (gin_c (mem_at i9wsX8_solveAll_5 4 rfl) rfl (gin_c (mem_at i9wsX8_solveAll_0 8 rfl) rfl (gin_c (mem_at i9wsX8_solveAll_0 9 rfl) rfl (gin_c (mem_at i9wsX8_solveAll_0 10 rfl) rfl gin_n)))))))))))))))))))))))) (gin_c (mem_at i9wsX8_solveAll_5 5 rfl) rfl gin_n)))))) (goodIn_sub i9wsX8_solveAll_6 g9_11)) (goodIn_sub i9wsX8_solveAll_7 g9_7)) (goodIn_sub i9wsX8_solveAll_9 g9_6)) (goodIn_sub i9wsX8_solveAll_8 g9_9)) (goodIn_sub i9wsX8_solveAll_10 g9_10)) (goodIn_sub i9wsX8_solveAll_11 g9_3)) (goodIn_sub i9wsX8_solveAll_12 g9_0)) (goodIn_sub i9wsX8_solveAll_13 g9_1)) (goodIn_sub i9wsX8_solveAll_14 g9_2)) (goodIn_sub i9wsX8_solveAll_15 g9_12)))
set_option maxRecDepth 20000 in
theorem gX8_solveAll_X8_solve : GoodIn wsX8_solveAll (wsV RX8 55 RX8 yX8_solve wsX8_solve) := goodIn_app (gin_c (mem_at i9wsX8_solveAll_0 8 rfl) rfl (gin_c (mem_at i9wsX8_solveAll_0 9 rfl) rfl (gin_c (mem_at i9wsX8_solveAll_0 10 rfl) rfl (gin_c (mem_at i9wsX8_solveAll_0 11 rfl) rfl gin_n)))) ggX8_solveAll_X8_solve
set_option maxHeartbeats 4000000 in
set_option maxRecDepth 100000 in
theorem T_X8_solveAll (l : Launch) (hl : l.stackTraces = false) (D : va_G) (cA : Nat → ClassId) {l0 : Option Nat} {l1 : Option Nat} {l2 : Int32} {x : HS} {Q : Int32 → HS → Prop} {X : String → HS → Prop} (h : w_X8_solveAll l0 l1 l2 x Q X) : YI l yX8_solveAll wsX8_solveAll 45 1862 D cA [.q l0, .q l1, .i l2] x Q X := by
  refine YI.of (cc := cX8_solveAll) (maxL := 4) (ret := (some .int)) hl (by decide) rfl rfl (fun g B fr => ?_)
  have o := B.o
  have hb := B.hb
  have hts := B.hts
  have hown : g.s.vm.findClass RX8 = some g.m.cls := B.hown
  have in6 : ∀ w ∈ u_ws RX6 TX6 8, w ∈ wsX8_solveAll := fun w h => (List.mem_cons_of_mem _ (List.mem_append_left _ (List.mem_append_left _ (List.mem_append_left _ (List.mem_append_left _ (List.mem_append_left _ (List.mem_append_left _ (List.mem_append_left _ (List.mem_append_left _ (List.mem_append_right _ h))))))))))
  have in7 : ∀ w ∈ u_ws RX7 TX7 3, w ∈ wsX8_solveAll := fun w h => (List.mem_cons_of_mem _ (List.mem_append_left _ (List.mem_append_left _ (List.mem_append_left _ (List.mem_append_left _ (List.mem_append_left _ (List.mem_append_left _ (List.mem_append_left _ (List.mem_append_right _ h)))))))))
  have in8 : ∀ w ∈ u_ws RX8 TX8 8, w ∈ wsX8_solveAll := fun w h => (List.mem_cons_of_mem _ (List.mem_append_left _ (List.mem_append_left _ (List.mem_append_left _ (List.mem_append_left _ (List.mem_append_left _ (List.mem_append_left _ (List.mem_append_left _ (List.mem_append_left _ (List.mem_append_left _ (List.mem_append_right _ h)))))))))))
  unfold w_X8_solveAll at h
  show KW g 4 0 [(0, .q l0), (1, .q l1), (2, .i l2)] [] x
  refine k_aload_n o hb dX8_solveAll_0 rfl 0 rfl ?_
  refine k_aload_n o hb dX8_solveAll_1 rfl 1 rfl ?_
  refine k_putF (C := RX8) (T := TX8) (N := 8) (ty := (tyX8 6)) o hb hts in8 tyX8 tyX8_ok nmX8 hown rfl (by decide) 6 (by decide) rfl (hts (.fieldLink RX8 35 "FactKeeper$Solver" "asked" "LFactKeeper$Reader;") (by decide +kernel)) (fun _ h9 => h9) rfl (by decide +kernel) (fun r => by cases r <;> rfl) (fun r => by cases r <;> rfl) dX8_solveAll_2 h (fun x1 h => ?_)
  refine k_aload_n o hb dX8_solveAll_5 rfl 0 rfl ?_
  refine k_iload_n o hb dX8_solveAll_6 rfl 2 rfl ?_
  refine k_putI (C := RX8) (T := TX8) (N := 8) (ty := .int) o hb hts in8 tyX8 tyX8_ok nmX8 hown rfl (by decide) 7 (by decide) rfl (hts (.fieldLink RX8 39 "FactKeeper$Solver" "time" "I") (by decide +kernel)) (fun _ h9 => h9) rfl (by decide +kernel) (fun _ => rfl) (fun _ => rfl) dX8_solveAll_7 h (fun x2 h => ?_)
  refine k_aload_n o hb dX8_solveAll_10 rfl 0 rfl ?_
  refine k_iconst (v := 0) o hb dX8_solveAll_11 (by decide) ?_
  refine k_putI (C := RX8) (T := TX8) (N := 8) (ty := .int) o hb hts in8 tyX8 tyX8_ok nmX8 hown rfl (by decide) 1 (by decide) rfl (hts (.fieldLink RX8 43 "FactKeeper$Solver" "lookedAt" "I") (by decide +kernel)) (fun _ h9 => h9) rfl (by decide +kernel) (fun _ => rfl) (fun _ => rfl) dX8_solveAll_12 h (fun x3 h => ?_)
  refine k_aload_n o hb dX8_solveAll_15 rfl 0 rfl ?_
  refine k_getF (C := RX8) (T := TX8) (N := 8) o hb hts in8 hown rfl (by decide) 2 (by decide) rfl (hts (.fieldLink RX8 18 "FactKeeper$Solver" "spare" "LFactKeeper$Solutions;") (by decide +kernel)) (fun _ h9 => h9) dX8_solveAll_16 h (fun v4 h => ?_)
  refine k_aload_n o hb dX8_solveAll_19 rfl 1 rfl ?_
  refine k_getI (C := RX6) (T := TX6) (N := 8) o hb hts in6 hown rfl (by decide) 2 (by decide) rfl (hts (.fieldLink RX8 46 "FactKeeper$Reader" "known" "I") (by decide +kernel)) (fun _ h9 => h9) dX8_solveAll_20 h (fun v5 h => ?_)
  refine k_putI (C := RX7) (T := TX7) (N := 3) (ty := .int) o hb hts in7 tyX7 tyX7_ok nmX7 hown rfl (by decide) 1 (by decide) rfl (hts (.fieldLink RX8 51 "FactKeeper$Solutions" "known" "I") (by decide +kernel)) (fun _ h9 => h9) rfl (by decide +kernel) (fun _ => rfl) (fun _ => rfl) dX8_solveAll_23 h (fun x6 h => ?_)
  refine k_aload_n o hb dX8_solveAll_26 rfl 0 rfl ?_
  refine k_getF (C := RX8) (T := TX8) (N := 8) o hb hts in8 hown rfl (by decide) 2 (by decide) rfl (hts (.fieldLink RX8 18 "FactKeeper$Solver" "spare" "LFactKeeper$Solutions;") (by decide +kernel)) (fun _ h9 => h9) dX8_solveAll_27 h (fun v7 h => ?_)
  refine k_iconst (v := 0) o hb dX8_solveAll_30 (by decide) ?_
  refine k_putI (C := RX7) (T := TX7) (N := 3) (ty := .int) o hb hts in7 tyX7 tyX7_ok nmX7 hown rfl (by decide) 2 (by decide) rfl (hts (.fieldLink RX8 52 "FactKeeper$Solutions" "count" "I") (by decide +kernel)) (fun _ h9 => h9) rfl (by decide +kernel) (fun _ => rfl) (fun _ => rfl) dX8_solveAll_31 h (fun x8 h => ?_)
  refine k_aload_n o hb dX8_solveAll_34 rfl 0 rfl ?_
  refine k_iconst (v := 0) o hb dX8_solveAll_35 (by decide) ?_
  refine k_run_v o (fun _ _ q => q) (k_runV (ci := 8) (rc := (RX8, TX8, 8)) o hb B.hml hown hts rfl (by decide) (T_X8_solve 12 g.l o.hl g.D g.cA h.2) (cwV 1 hts gX8_solveAll_X8_solve rfl rfl rfl (by decide +kernel) ⟨yle B.hR1 rfl, yle B.hR2 rfl⟩) h.1 rfl rfl (Nat.le_of_ble_eq_true rfl) dX8_solveAll_36) (fun x9 h => ?_)
  refine k_aload_n o hb dX8_solveAll_39 rfl 0 rfl ?_
  refine k_getF (C := RX8) (T := TX8) (N := 8) o hb hts in8 hown rfl (by decide) 2 (by decide) rfl (hts (.fieldLink RX8 18 "FactKeeper$Solver" "spare" "LFactKeeper$Solutions;") (by decide +kernel)) (fun _ h9 => h9) dX8_solveAll_40 h (fun v11 h => ?_)
  refine k_astore_n o hb dX8_solveAll_43 rfl rfl ?_
  refine k_aload_n o hb dX8_solveAll_44 rfl 1 rfl ?_
  refine k_aload_n o hb dX8_solveAll_45 rfl 1 rfl ?_
  refine k_getF (C := RX8) (T := TX8) (N := 8) o hb hts in8 hown rfl (by decide) 0 (by decide) rfl (hts (.fieldLink RX8 12 "FactKeeper$Solver" "latest" "LFactKeeper$Solutions;") (by decide +kernel)) (fun _ h9 => h9) dX8_solveAll_46 h (fun v12 h => ?_)
  refine k_putF (C := RX8) (T := TX8) (N := 8) (ty := (tyX8 2)) o hb hts in8 tyX8 tyX8_ok nmX8 hown rfl (by decide) 2 (by decide) rfl (hts (.fieldLink RX8 18 "FactKeeper$Solver" "spare" "LFactKeeper$Solutions;") (by decide +kernel)) (fun _ h9 => h9) rfl (by decide +kernel) (fun r => by cases r <;> rfl) (fun r => by cases r <;> rfl) dX8_solveAll_49 h (fun x13 h => ?_)
  refine k_aload_n o hb dX8_solveAll_52 rfl 1 rfl ?_
  refine k_aload_n o hb dX8_solveAll_53 rfl 0 rfl ?_
  refine k_putF (C := RX8) (T := TX8) (N := 8) (ty := (tyX8 0)) o hb hts in8 tyX8 tyX8_ok nmX8 hown rfl (by decide) 0 (by decide) rfl (hts (.fieldLink RX8 12 "FactKeeper$Solver" "latest" "LFactKeeper$Solutions;") (by decide +kernel)) (fun _ h9 => h9) rfl (by decide +kernel) (fun r => by cases r <;> rfl) (fun r => by cases r <;> rfl) dX8_solveAll_54 h (fun x14 h => ?_)
  refine k_aload_n o hb dX8_solveAll_57 rfl 0 rfl ?_
  refine k_getI (C := RX7) (T := TX7) (N := 3) o hb hts in7 hown rfl (by decide) 2 (by decide) rfl (hts (.fieldLink RX8 52 "FactKeeper$Solutions" "count" "I") (by decide +kernel)) (fun _ h9 => h9) dX8_solveAll_58 h (fun v15 h => ?_)
  exact k_iret o hb B.hr fr dX8_solveAll_61 h
