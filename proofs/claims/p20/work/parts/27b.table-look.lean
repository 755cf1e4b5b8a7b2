/-! contracts out of the words (table-look), laid by wip/p4/y/gen5.py -/
set_option linter.unusedVariables false
theorem dX5_init_0 : decode cX5_init 0 = .ok (.aload_n 0, 1) := by decide +kernel
theorem dX5_init_1 : decode cX5_init 1 = .ok (.invokespecial 3, 3) := by decide +kernel
theorem dX5_init_4 : decode cX5_init 4 = .ok (.aload_n 0, 1) := by decide +kernel
theorem dX5_init_5 : decode cX5_init 5 = .ok (.iconst 4, 1) := by decide +kernel
theorem dX5_init_6 : decode cX5_init 6 = .ok (.newarray .int, 2) := by decide +kernel
theorem dX5_init_8 : decode cX5_init 8 = .ok (.putfield 9, 3) := by decide +kernel
theorem dX5_init_11 : decode cX5_init 11 = .ok (.return_, 1) := by decide +kernel
set_option maxHeartbeats 4000000 in
set_option maxRecDepth 100000 in
theorem T_X5_init (l : Launch) (hl : l.stackTraces = false) (D : va_G) (cA : Nat → ClassId) {l0 : Option Nat} {x : HS} {Q : HS → Prop} {X : String → HS → Prop} (h : w_X5_init l0 x Q X) : YV l yX5_init wsX5_init 1 12 D cA [.q l0] x Q X := by
  refine YV.of (cc := cX5_init) (maxL := 1) (ret := none) hl (by decide) rfl rfl (fun g B fr => ?_)
  have o := B.o
  have hb := B.hb
  have hts := B.hts
  have hown : g.s.vm.findClass RX5 = some g.m.cls := B.hown
  have in5 : ∀ w ∈ u_ws RX5 TX5 8, w ∈ wsX5_init := fun w h => (List.mem_cons_of_mem _ (List.mem_append_right _ h))
  unfold w_X5_init at h
  show KW g 1 0 [(0, .q l0)] [] x
  refine k_aload_n o hb dX5_init_0 rfl 0 rfl ?_
  refine k_objInit o hb B.hml hown (hts (.methodLink RX5 3 objectInit) (by decide +kernel)) (hts (.instanceMethod objectInit) (by decide +kernel)) (hts (.code objectInit ⟨#[0xb1]⟩ 1 none) (by decide +kernel)) (yle B.hR1 rfl) (yle B.hR2 rfl) dX5_init_1 h.1 ?_
  have h := h.2
  refine k_aload_n o hb dX5_init_4 rfl 0 rfl ?_
  refine k_iconst (v := 4) o hb dX5_init_5 (by decide) ?_
  refine k_newJ (atype := .int) (ty := .int) (kd := 20) (t0 := 0) o hb (hts (.arrayClass .int) (by decide +kernel)) rfl (by decide) (by decide) rfl (fun _ _ => rfl) (by decide) dX5_init_6 h (fun q1 x2 h => ?_)
  refine k_putFF (C := RX5) (T := TX5) (N := 8) (ty := (tyX5 1)) o hb hts in5 tyX5 tyX5_ok nmX5 hown rfl (by decide) 1 (by decide) rfl (hts (.fieldLink RX5 9 "FactKeeper$Look" "wanted" "[I") (by decide +kernel)) (fun _ h9 => h9) rfl B.hnm rfl (by decide +kernel) (fun r => by cases r <;> rfl) (fun r => by cases r <;> rfl) dX5_init_8 h (fun x3 h => ?_)
  exact k_vret o hb B.hr fr dX5_init_11 h
theorem dX10_allColumns_0 : decode cX10_allColumns 0 = .ok (.iconst 1, 1) := by decide +kernel
theorem dX10_allColumns_1 : decode cX10_allColumns 1 = .ok (.aload_n 0, 1) := by decide +kernel
theorem dX10_allColumns_2 : decode cX10_allColumns 2 = .ok (.getfield 34, 3) := by decide +kernel
theorem dX10_allColumns_5 : decode cX10_allColumns 5 = .ok (.ishl, 1) := by decide +kernel
theorem dX10_allColumns_6 : decode cX10_allColumns 6 = .ok (.iconst 1, 1) := by decide +kernel
theorem dX10_allColumns_7 : decode cX10_allColumns 7 = .ok (.isub, 1) := by decide +kernel
theorem dX10_allColumns_8 : decode cX10_allColumns 8 = .ok (.ireturn, 1) := by decide +kernel
set_option maxHeartbeats 4000000 in
set_option maxRecDepth 100000 in
theorem T_X10_allColumns (l : Launch) (hl : l.stackTraces = false) (D : va_G) (cA : Nat → ClassId) {l0 : Option Nat} {x : HS} {Q : Int32 → HS → Prop} {X : String → HS → Prop} (h : w_X10_allColumns l0 x Q X) : YI l yX10_allColumns wsX10_allColumns 0 0 D cA [.q l0] x Q X := by
  refine YI.of (cc := cX10_allColumns) (maxL := 1) (ret := (some .int)) hl (by decide) rfl rfl (fun g B fr => ?_)
  have o := B.o
  have hb := B.hb
  have hts := B.hts
  have hown : g.s.vm.findClass RX10 = some g.m.cls := B.hown
  have in10 : ∀ w ∈ u_ws RX10 TX10 6, w ∈ wsX10_allColumns := fun w h => (List.mem_cons_of_mem _ (List.mem_append_right _ h))
  unfold w_X10_allColumns at h
  show KW g 1 0 [(0, .q l0)] [] x
  refine k_iconst (v := 1) o hb dX10_allColumns_0 (by decide) ?_
  refine k_aload_n o hb dX10_allColumns_1 rfl 0 rfl ?_
  refine k_getI (C := RX10) (T := TX10) (N := 6) o hb hts in10 hown rfl (by decide) 1 (by decide) rfl (hts (.fieldLink RX10 34 "FactKeeper$Table" "columns" "I") (by decide +kernel)) (fun _ h9 => h9) dX10_allColumns_2 h (fun v1 h => ?_)
  refine k_ishl o hb dX10_allColumns_5 ?_
  refine k_iconst (v := 1) o hb dX10_allColumns_6 (by decide) ?_
  refine k_isub o hb dX10_allColumns_7 ?_
  exact k_iret o hb B.hr fr dX10_allColumns_8 h
theorem dX5_begin_0 : decode cX5_begin 0 = .ok (.aload_n 0, 1) := by decide +kernel
theorem dX5_begin_1 : decode cX5_begin 1 = .ok (.aload_n 1, 1) := by decide +kernel
theorem dX5_begin_2 : decode cX5_begin 2 = .ok (.putfield 15, 3) := by decide +kernel
theorem dX5_begin_5 : decode cX5_begin 5 = .ok (.aload_n 0, 1) := by decide +kernel
theorem dX5_begin_6 : decode cX5_begin 6 = .ok (.iload_n 2, 1) := by decide +kernel
theorem dX5_begin_7 : decode cX5_begin 7 = .ok (.aload_n 1, 1) := by decide +kernel
theorem dX5_begin_8 : decode cX5_begin 8 = .ok (.invokevirtual 19, 3) := by decide +kernel
theorem dX5_begin_11 : decode cX5_begin 11 = .ok (.iand, 1) := by decide +kernel
theorem dX5_begin_12 : decode cX5_begin 12 = .ok (.putfield 25, 3) := by decide +kernel
theorem dX5_begin_15 : decode cX5_begin 15 = .ok (.aload_n 0, 1) := by decide +kernel
theorem dX5_begin_16 : decode cX5_begin 16 = .ok (.iload 4, 2) := by decide +kernel
theorem dX5_begin_18 : decode cX5_begin 18 = .ok (.putfield 29, 3) := by decide +kernel
theorem dX5_begin_21 : decode cX5_begin 21 = .ok (.aload_n 0, 1) := by decide +kernel
theorem dX5_begin_22 : decode cX5_begin 22 = .ok (.aconst_null, 1) := by decide +kernel
theorem dX5_begin_23 : decode cX5_begin 23 = .ok (.putfield 32, 3) := by decide +kernel
theorem dX5_begin_26 : decode cX5_begin 26 = .ok (.aload_n 0, 1) := by decide +kernel
theorem dX5_begin_27 : decode cX5_begin 27 = .ok (.iconst 0, 1) := by decide +kernel
theorem dX5_begin_28 : decode cX5_begin 28 = .ok (.putfield 36, 3) := by decide +kernel
theorem dX5_begin_31 : decode cX5_begin 31 = .ok (.aload_n 0, 1) := by decide +kernel
theorem dX5_begin_32 : decode cX5_begin 32 = .ok (.iconst 0, 1) := by decide +kernel
theorem dX5_begin_33 : decode cX5_begin 33 = .ok (.putfield 40, 3) := by decide +kernel
theorem dX5_begin_36 : decode cX5_begin 36 = .ok (.aload_n 0, 1) := by decide +kernel
theorem dX5_begin_37 : decode cX5_begin 37 = .ok (.iconst 0, 1) := by decide +kernel
theorem dX5_begin_38 : decode cX5_begin 38 = .ok (.putfield 43, 3) := by decide +kernel
theorem dX5_begin_41 : decode cX5_begin 41 = .ok (.iconst 0, 1) := by decide +kernel
theorem dX5_begin_42 : decode cX5_begin 42 = .ok (.istore 5, 2) := by decide +kernel
theorem dX5_begin_44 : decode cX5_begin 44 = .ok (.iload 5, 2) := by decide +kernel
theorem dX5_begin_46 : decode cX5_begin 46 = .ok (.iconst 4, 1) := by decide +kernel
theorem dX5_begin_47 : decode cX5_begin 47 = .ok (.if_icmp .ge 20, 3) := by decide +kernel
theorem dX5_begin_50 : decode cX5_begin 50 = .ok (.aload_n 0, 1) := by decide +kernel
theorem dX5_begin_51 : decode cX5_begin 51 = .ok (.getfield 9, 3) := by decide +kernel
theorem dX5_begin_54 : decode cX5_begin 54 = .ok (.iload 5, 2) := by decide +kernel
theorem dX5_begin_56 : decode cX5_begin 56 = .ok (.aload_n 3, 1) := by decide +kernel
theorem dX5_begin_57 : decode cX5_begin 57 = .ok (.iload 5, 2) := by decide +kernel
theorem dX5_begin_59 : decode cX5_begin 59 = .ok (.iaload, 1) := by decide +kernel
theorem dX5_begin_60 : decode cX5_begin 60 = .ok (.iastore, 1) := by decide +kernel
theorem dX5_begin_61 : decode cX5_begin 61 = .ok (.iinc 5 1, 3) := by decide +kernel
theorem dX5_begin_64 : decode cX5_begin 64 = .ok (.goto (-20), 3) := by decide +kernel
theorem dX5_begin_67 : decode cX5_begin 67 = .ok (.return_, 1) := by decide +kernel
theorem i9wsX5_begin_0 : ∀ w ∈ ([.fieldLink RX5 15 "FactKeeper$Look" "table" "LFactKeeper$Table;", .fieldLink RX5 25 "FactKeeper$Look" "mask" "I", .fieldLink RX5 29 "FactKeeper$Look" "time" "I", .fieldLink RX5 32 "FactKeeper$Look" "last" "LFactKeeper$Fact;", .fieldLink RX5 36 "FactKeeper$Look" "isAtEnd" "Z", .fieldLink RX5 40 "FactKeeper$Look" "told" "I", .fieldLink RX5 43 "FactKeeper$Look" "lookedAt" "I", .fieldLink RX5 9 "FactKeeper$Look" "wanted" "[I", .methodLink RX5 19 yX10_allColumns, .instanceMethod yX10_allColumns, .selects RX10 yX10_allColumns yX10_allColumns, .initialized RX10, .code yX10_allColumns cX10_allColumns 1 (some .int), .fieldLink RX10 34 "FactKeeper$Table" "columns" "I"] : List Cond), w ∈ wsX5_begin := fun _ h => (List.mem_cons_of_mem _ (List.mem_append_left _ (List.mem_append_left _ h)))
theorem i9wsX5_begin_2 : ∀ w ∈ wsX100, w ∈ wsX5_begin := fun _ h => (List.mem_cons_of_mem _ (List.mem_append_right _ h))
set_option maxRecDepth 20000 in
theorem ggX5_begin_X10_allColumns : GoodIn wsX5_begin wsX10_allColumns := (gin_c (mem_at i9wsX5_begin_0 12 rfl) rfl (goodIn_app (gin_c (mem_at i9wsX5_begin_0 13 rfl) rfl gin_n) (goodIn_sub i9wsX5_begin_2 g9_3)))
set_option maxRecDepth 20000 in
theorem gX5_begin_X10_allColumns : GoodIn wsX5_begin (wsV RX5 19 RX10 yX10_allColumns wsX10_allColumns) := goodIn_app (gin_c (mem_at i9wsX5_begin_0 8 rfl) rfl (gin_c (mem_at i9wsX5_begin_0 9 rfl) rfl (gin_c (mem_at i9wsX5_begin_0 10 rfl) rfl (gin_c (mem_at i9wsX5_begin_0 11 rfl) rfl gin_n)))) ggX5_begin_X10_allColumns
set_option maxHeartbeats 4000000 in
set_option maxRecDepth 100000 in
theorem T_X5_begin (l : Launch) (hl : l.stackTraces = false) (D : va_G) (cA : Nat → ClassId) {l0 : Option Nat} {l1 : Option Nat} {l2 : Int32} {l3 : Option Nat} {l4 : Int32} {x : HS} {Q : HS → Prop} {X : String → HS → Prop} (h : w_X5_begin l0 l1 l2 l3 l4 x Q X) : YV l yX5_begin wsX5_begin 1 20 D cA [.q l0, .q l1, .i l2, .q l3, .i l4] x Q X := by
  refine YV.of (cc := cX5_begin) (maxL := 6) (ret := none) hl (by decide) rfl rfl (fun g B fr => ?_)
  have o := B.o
  have hb := B.hb
  have hts := B.hts
  have hown : g.s.vm.findClass RX5 = some g.m.cls := B.hown
  have in5 : ∀ w ∈ u_ws RX5 TX5 8, w ∈ wsX5_begin := fun w h => (List.mem_cons_of_mem _ (List.mem_append_left _ (List.mem_append_right _ h)))
  unfold w_X5_begin at h
  show KW g 6 0 [(0, .q l0), (1, .q l1), (2, .i l2), (3, .q l3), (4, .i l4)] [] x
  refine k_aload_n o hb dX5_begin_0 rfl 0 rfl ?_
  refine k_aload_n o hb dX5_begin_1 rfl 1 rfl ?_
  refine k_putF (C := RX5) (T := TX5) (N := 8) (ty := (tyX5 2)) o hb hts in5 tyX5 tyX5_ok nmX5 hown rfl (by decide) 2 (by decide) rfl (hts (.fieldLink RX5 15 "FactKeeper$Look" "table" "LFactKeeper$Table;") (by decide +kernel)) (fun _ h9 => h9) rfl (by decide +kernel) (fun r => by cases r <;> rfl) (fun r => by cases r <;> rfl) dX5_begin_2 h (fun x1 h => ?_)
  refine k_aload_n o hb dX5_begin_5 rfl 0 rfl ?_
  refine k_iload_n o hb dX5_begin_6 rfl 2 rfl ?_
  refine k_aload_n o hb dX5_begin_7 rfl 1 rfl ?_
  refine k_run_i o (fun _ _ q => q) (k_runV (ci := 10) (rc := (RX10, TX10, 6)) o hb B.hml hown hts rfl (by decide) (T_X10_allColumns g.l o.hl g.D g.cA h.2) (cwV 0 hts gX5_begin_X10_allColumns rfl rfl rfl (by decide +kernel) ⟨yle B.hR1 rfl, yle B.hR2 rfl⟩) h.1 rfl rfl (Nat.le_of_ble_eq_true rfl) dX5_begin_8) (fun v3 x2 h => ?_)
  refine k_iand o hb dX5_begin_11 ?_
  refine k_putI (C := RX5) (T := TX5) (N := 8) (ty := .int) o hb hts in5 tyX5 tyX5_ok nmX5 hown rfl (by decide) 3 (by decide) rfl (hts (.fieldLink RX5 25 "FactKeeper$Look" "mask" "I") (by decide +kernel)) (fun _ h9 => h9) rfl (by decide +kernel) (fun _ => rfl) (fun _ => rfl) dX5_begin_12 h (fun x4 h => ?_)
  refine k_aload_n o hb dX5_begin_15 rfl 0 rfl ?_
  refine k_iload o hb dX5_begin_16 4 rfl ?_
  refine k_putI (C := RX5) (T := TX5) (N := 8) (ty := .int) o hb hts in5 tyX5 tyX5_ok nmX5 hown rfl (by decide) 4 (by decide) rfl (hts (.fieldLink RX5 29 "FactKeeper$Look" "time" "I") (by decide +kernel)) (fun _ h9 => h9) rfl (by decide +kernel) (fun _ => rfl) (fun _ => rfl) dX5_begin_18 h (fun x5 h => ?_)
  refine k_aload_n o hb dX5_begin_21 rfl 0 rfl ?_
  refine k_null o hb dX5_begin_22 ?_
  refine k_putF (C := RX5) (T := TX5) (N := 8) (ty := (tyX5 5)) o hb hts in5 tyX5 tyX5_ok nmX5 hown rfl (by decide) 5 (by decide) rfl (hts (.fieldLink RX5 32 "FactKeeper$Look" "last" "LFactKeeper$Fact;") (by decide +kernel)) (fun _ h9 => h9) rfl (by decide +kernel) (fun r => by cases r <;> rfl) (fun r => by cases r <;> rfl) dX5_begin_23 h (fun x6 h => ?_)
  refine k_aload_n o hb dX5_begin_26 rfl 0 rfl ?_
  refine k_iconst (v := 0) o hb dX5_begin_27 (by decide) ?_
  refine k_putZ (C := RX5) (T := TX5) (N := 8) (ty := .boolean) o hb hts in5 tyX5 tyX5_ok nmX5 hown rfl (by decide) 6 (by decide) rfl (hts (.fieldLink RX5 36 "FactKeeper$Look" "isAtEnd" "Z") (by decide +kernel)) (fun _ h9 => h9) rfl (by decide +kernel) ⟨by decide, by decide⟩ ⟨by decide, by decide⟩ dX5_begin_28 h (fun x7 h => ?_)
  refine k_aload_n o hb dX5_begin_31 rfl 0 rfl ?_
  refine k_iconst (v := 0) o hb dX5_begin_32 (by decide) ?_
  refine k_putI (C := RX5) (T := TX5) (N := 8) (ty := .int) o hb hts in5 tyX5 tyX5_ok nmX5 hown rfl (by decide) 0 (by decide) rfl (hts (.fieldLink RX5 40 "FactKeeper$Look" "told" "I") (by decide +kernel)) (fun _ h9 => h9) rfl (by decide +kernel) (fun _ => rfl) (fun _ => rfl) dX5_begin_33 h (fun x8 h => ?_)
  refine k_aload_n o hb dX5_begin_36 rfl 0 rfl ?_
  refine k_iconst (v := 0) o hb dX5_begin_37 (by decide) ?_
  refine k_putI (C := RX5) (T := TX5) (N := 8) (ty := .int) o hb hts in5 tyX5 tyX5_ok nmX5 hown rfl (by decide) 7 (by decide) rfl (hts (.fieldLink RX5 43 "FactKeeper$Look" "lookedAt" "I") (by decide +kernel)) (fun _ h9 => h9) rfl (by decide +kernel) (fun _ => rfl) (fun _ => rfl) dX5_begin_38 h (fun x9 h => ?_)
  refine k_iconst (v := 0) o hb dX5_begin_41 (by decide) ?_
  refine k_istore o hb dX5_begin_42 rfl ?_
  refine KW.sub [1, 4, 0] rfl ?_
  refine wLoop_elim (M := fun (v13 : Int32) (x12 : HS) => KW g 6 44 [(0, .q l0), (3, .q l3), (5, .i v13)] [] x12) h ?_
  intro v13 x12 again10 ih11 h
  refine k_iload o hb dX5_begin_44 2 rfl ?_
  refine k_iconst (v := 4) o hb dX5_begin_46 (by decide) ?_
  refine k_icmp_ge (tgt := 67) o hb dX5_begin_47 (by decide) h (fun h => ?_) (fun h => ?_)
  · skip
    exact k_vret o hb B.hr fr dX5_begin_67 h
  · skip
    refine k_aload_n o hb dX5_begin_50 rfl 0 rfl ?_
    refine k_getF (C := RX5) (T := TX5) (N := 8) o hb hts in5 hown rfl (by decide) 1 (by decide) rfl (hts (.fieldLink RX5 9 "FactKeeper$Look" "wanted" "[I") (by decide +kernel)) (fun _ h9 => h9) dX5_begin_51 h (fun v14 h => ?_)
    refine k_iload o hb dX5_begin_54 2 rfl ?_
    refine k_aload_n o hb dX5_begin_56 rfl 1 rfl ?_
    refine k_iload o hb dX5_begin_57 2 rfl ?_
    refine k_iald o hb dX5_begin_59 h (fun v15 h => ?_)
    refine k_iast o hb dX5_begin_60 h (fun x16 h => ?_)
    refine k_iinc (w := 1) o hb dX5_begin_61 2 rfl (by decide) rfl ?_
    refine k_goto (tgt := 44) o hb dX5_begin_64 (by decide) ?_
    exact KW.sub [1, 2, 0] rfl (ih11 (v13 + 1) x16 h)
theorem dX10_laneFor_0 : decode cX10_laneFor 0 = .ok (.iconst 0, 1) := by decide +kernel
theorem dX10_laneFor_1 : decode cX10_laneFor 1 = .ok (.istore_n 2, 1) := by decide +kernel
theorem dX10_laneFor_2 : decode cX10_laneFor 2 = .ok (.iload_n 2, 1) := by decide +kernel
theorem dX10_laneFor_3 : decode cX10_laneFor 3 = .ok (.aload_n 0, 1) := by decide +kernel
theorem dX10_laneFor_4 : decode cX10_laneFor 4 = .ok (.getfield 34, 3) := by decide +kernel
theorem dX10_laneFor_7 : decode cX10_laneFor 7 = .ok (.if_icmp .ge 28, 3) := by decide +kernel
theorem dX10_laneFor_10 : decode cX10_laneFor 10 = .ok (.iload_n 1, 1) := by decide +kernel
theorem dX10_laneFor_11 : decode cX10_laneFor 11 = .ok (.iload_n 2, 1) := by decide +kernel
theorem dX10_laneFor_12 : decode cX10_laneFor 12 = .ok (.invokestatic 97, 3) := by decide +kernel
theorem dX10_laneFor_15 : decode cX10_laneFor 15 = .ok (.ifCond .eq 14, 3) := by decide +kernel
theorem dX10_laneFor_18 : decode cX10_laneFor 18 = .ok (.aload_n 0, 1) := by decide +kernel
theorem dX10_laneFor_19 : decode cX10_laneFor 19 = .ok (.getfield 22, 3) := by decide +kernel
theorem dX10_laneFor_22 : decode cX10_laneFor 22 = .ok (.iload_n 2, 1) := by decide +kernel
theorem dX10_laneFor_23 : decode cX10_laneFor 23 = .ok (.aaload, 1) := by decide +kernel
theorem dX10_laneFor_24 : decode cX10_laneFor 24 = .ok (.ifnull 5, 3) := by decide +kernel
theorem dX10_laneFor_27 : decode cX10_laneFor 27 = .ok (.iload_n 2, 1) := by decide +kernel
theorem dX10_laneFor_28 : decode cX10_laneFor 28 = .ok (.ireturn, 1) := by decide +kernel
theorem dX10_laneFor_29 : decode cX10_laneFor 29 = .ok (.iinc 2 1, 3) := by decide +kernel
theorem dX10_laneFor_32 : decode cX10_laneFor 32 = .ok (.goto (-30), 3) := by decide +kernel
theorem dX10_laneFor_35 : decode cX10_laneFor 35 = .ok (.iconst 4, 1) := by decide +kernel
theorem dX10_laneFor_36 : decode cX10_laneFor 36 = .ok (.ireturn, 1) := by decide +kernel
theorem i9wsX10_laneFor_0 : ∀ w ∈ ([.fieldLink RX10 34 "FactKeeper$Table" "columns" "I", .fieldLink RX10 22 "FactKeeper$Table" "indexes" "[LFactKeeper$Index;", .static yX11_isIn, .initialized RX11, .code yX11_isIn cX11_isIn 2 (some .boolean)] : List Cond), w ∈ wsX10_laneFor := fun _ h => (List.mem_cons_of_mem _ (List.mem_append_left _ h))
set_option maxRecDepth 20000 in
theorem ggX10_laneFor_X11_isIn : GoodIn wsX10_laneFor wsX11_isIn := (gin_c (mem_at i9wsX10_laneFor_0 4 rfl) rfl gin_n)
set_option maxRecDepth 20000 in
theorem gX10_laneFor_X11_isIn_n97 : GoodIn wsX10_laneFor (wsX11_isIn) := ggX10_laneFor_X11_isIn
set_option maxHeartbeats 4000000 in
set_option maxRecDepth 100000 in
theorem T_X10_laneFor (l : Launch) (hl : l.stackTraces = false) (D : va_G) (cA : Nat → ClassId) {l0 : Option Nat} {l1 : Int32} {x : HS} {Q : Int32 → HS → Prop} {X : String → HS → Prop} (h : w_X10_laneFor l0 l1 x Q X) : YI l yX10_laneFor wsX10_laneFor 1 21 D cA [.q l0, .i l1] x Q X := by
  refine YI.of (cc := cX10_laneFor) (maxL := 3) (ret := (some .int)) hl (by decide) rfl rfl (fun g B fr => ?_)
  have o := B.o
  have hb := B.hb
  have hts := B.hts
  have hown : g.s.vm.findClass RX10 = some g.m.cls := B.hown
  have in10 : ∀ w ∈ u_ws RX10 TX10 6, w ∈ wsX10_laneFor := fun w h => (List.mem_cons_of_mem _ (List.mem_append_right _ h))
  unfold w_X10_laneFor at h
  show KW g 3 0 [(0, .q l0), (1, .i l1)] [] x
  refine k_iconst (v := 0) o hb dX10_laneFor_0 (by decide) ?_
  refine k_istore_n o hb dX10_laneFor_1 rfl rfl ?_
  refine KW.sub [1, 2, 0] rfl ?_
  refine wLoop_elim (M := fun (v4 : Int32) (x3 : HS) => KW g 3 2 [(0, .q l0), (1, .i l1), (2, .i v4)] [] x3) h ?_
  intro v4 x3 again1 ih2 h
  refine k_iload_n o hb dX10_laneFor_2 rfl 2 rfl ?_
  refine k_aload_n o hb dX10_laneFor_3 rfl 0 rfl ?_
  refine k_getI (C := RX10) (T := TX10) (N := 6) o hb hts in10 hown rfl (by decide) 1 (by decide) rfl (hts (.fieldLink RX10 34 "FactKeeper$Table" "columns" "I") (by decide +kernel)) (fun _ h9 => h9) dX10_laneFor_4 h (fun v5 h => ?_)
  refine k_icmp_ge (tgt := 35) o hb dX10_laneFor_7 (by decide) h (fun h => ?_) (fun h => ?_)
  · skip
    refine k_iconst (v := 4) o hb dX10_laneFor_35 (by decide) ?_
    exact k_iret o hb B.hr fr dX10_laneFor_36 h
  · skip
    refine k_iload_n o hb dX10_laneFor_10 rfl 1 rfl ?_
    refine k_iload_n o hb dX10_laneFor_11 rfl 2 rfl ?_
    refine k_run_i o (fun _ _ q => q.elim) (k_runSN (host := RX11) o hb B.hml hown hts (T_X11_isIn g.l o.hl g.D g.cA h) yX_no ⟨va_cnB 2 hts gX10_laneFor_X11_isIn_n97 rfl rfl rfl o.hZ.2.2.1.2.2.2.2.2.2.2.2.1 (hts (.initialized RX11) (by decide +kernel)) (by decide +kernel) ⟨yle B.hR1 rfl, yle B.hR2 rfl⟩, hts (.static yX11_isIn) (by decide +kernel), trivial⟩ rfl rfl (Nat.le_of_ble_eq_true rfl) dX10_laneFor_12) (fun v7 x6 h => ?_)
    refine wJoin_elim (M := fun K => ∀  (x9 : HS), K  x9 → KW g 3 29 [(0, .q l0), (1, .i l1), (2, .i v4)] [] x9) h ?_ (fun j8 hj8 h => ?_)
    · skip
      intro  x9 h
      refine k_iinc (w := 1) o hb dX10_laneFor_29 2 rfl (by decide) rfl ?_
      refine k_goto (tgt := 2) o hb dX10_laneFor_32 (by decide) ?_
      exact KW.sub [1, 2, 0] rfl (ih2 (v4 + 1) x9 h)
    · skip
      refine k_if_eq (tgt := 29) o hb dX10_laneFor_15 (by decide) h (fun h => ?_) (fun h => ?_)
      · skip
        exact KW.sub [0, 1, 2] rfl (hj8 x6 h)
      · skip
        refine k_aload_n o hb dX10_laneFor_18 rfl 0 rfl ?_
        refine k_getF (C := RX10) (T := TX10) (N := 6) o hb hts in10 hown rfl (by decide) 3 (by decide) rfl (hts (.fieldLink RX10 22 "FactKeeper$Table" "indexes" "[LFactKeeper$Index;") (by decide +kernel)) (fun _ h9 => h9) dX10_laneFor_19 h (fun v10 h => ?_)
        refine k_iload_n o hb dX10_laneFor_22 rfl 2 rfl ?_
        refine k_aald (kd := 28) (t0 := 7) o hb rfl (by decide) dX10_laneFor_23 h (fun v11 h => ?_)
        refine k_ifnull (tgt := 29) o hb dX10_laneFor_24 (by decide) h (fun h => ?_) (fun h => ?_)
        · skip
          exact KW.sub [0, 1, 2] rfl (hj8 x6 h)
        · skip
          refine k_iload_n o hb dX10_laneFor_27 rfl 2 rfl ?_
          exact k_iret o hb B.hr fr dX10_laneFor_28 h
theorem dX10_firstIn_0 : decode cX10_firstIn 0 = .ok (.iload_n 1, 1) := by decide +kernel
theorem dX10_firstIn_1 : decode cX10_firstIn 1 = .ok (.ifCond .lt 17, 3) := by decide +kernel
theorem dX10_firstIn_4 : decode cX10_firstIn 4 = .ok (.iload_n 1, 1) := by decide +kernel
theorem dX10_firstIn_5 : decode cX10_firstIn 5 = .ok (.iconst 4, 1) := by decide +kernel
theorem dX10_firstIn_6 : decode cX10_firstIn 6 = .ok (.if_icmp .ge 12, 3) := by decide +kernel
theorem dX10_firstIn_9 : decode cX10_firstIn 9 = .ok (.aload_n 0, 1) := by decide +kernel
theorem dX10_firstIn_10 : decode cX10_firstIn 10 = .ok (.getfield 22, 3) := by decide +kernel
theorem dX10_firstIn_13 : decode cX10_firstIn 13 = .ok (.iload_n 1, 1) := by decide +kernel
theorem dX10_firstIn_14 : decode cX10_firstIn 14 = .ok (.aaload, 1) := by decide +kernel
theorem dX10_firstIn_15 : decode cX10_firstIn 15 = .ok (.ifnonnull 11, 3) := by decide +kernel
theorem dX10_firstIn_18 : decode cX10_firstIn 18 = .ok (.aload_n 0, 1) := by decide +kernel
theorem dX10_firstIn_19 : decode cX10_firstIn 19 = .ok (.getfield 14, 3) := by decide +kernel
theorem dX10_firstIn_22 : decode cX10_firstIn 22 = .ok (.getfield 40, 3) := by decide +kernel
theorem dX10_firstIn_25 : decode cX10_firstIn 25 = .ok (.areturn, 1) := by decide +kernel
theorem dX10_firstIn_26 : decode cX10_firstIn 26 = .ok (.aload_n 0, 1) := by decide +kernel
theorem dX10_firstIn_27 : decode cX10_firstIn 27 = .ok (.getfield 22, 3) := by decide +kernel
theorem dX10_firstIn_30 : decode cX10_firstIn 30 = .ok (.iload_n 1, 1) := by decide +kernel
theorem dX10_firstIn_31 : decode cX10_firstIn 31 = .ok (.aaload, 1) := by decide +kernel
theorem dX10_firstIn_32 : decode cX10_firstIn 32 = .ok (.aload_n 2, 1) := by decide +kernel
theorem dX10_firstIn_33 : decode cX10_firstIn 33 = .ok (.iload_n 1, 1) := by decide +kernel
theorem dX10_firstIn_34 : decode cX10_firstIn 34 = .ok (.iaload, 1) := by decide +kernel
theorem dX10_firstIn_35 : decode cX10_firstIn 35 = .ok (.invokevirtual 101, 3) := by decide +kernel
theorem dX10_firstIn_38 : decode cX10_firstIn 38 = .ok (.astore_n 3, 1) := by decide +kernel
theorem dX10_firstIn_39 : decode cX10_firstIn 39 = .ok (.aload_n 3, 1) := by decide +kernel
theorem dX10_firstIn_40 : decode cX10_firstIn 40 = .ok (.ifnonnull 7, 3) := by decide +kernel
theorem dX10_firstIn_43 : decode cX10_firstIn 43 = .ok (.aconst_null, 1) := by decide +kernel
theorem dX10_firstIn_44 : decode cX10_firstIn 44 = .ok (.goto 7, 3) := by decide +kernel
theorem dX10_firstIn_47 : decode cX10_firstIn 47 = .ok (.aload_n 3, 1) := by decide +kernel
theorem dX10_firstIn_48 : decode cX10_firstIn 48 = .ok (.getfield 40, 3) := by decide +kernel
theorem dX10_firstIn_51 : decode cX10_firstIn 51 = .ok (.areturn, 1) := by decide +kernel
theorem i9wsX10_firstIn_0 : ∀ w ∈ ([.fieldLink RX10 22 "FactKeeper$Table" "indexes" "[LFactKeeper$Index;", .fieldLink RX10 14 "FactKeeper$Table" "row" "LFactKeeper$Chain;", .fieldLink RX10 40 "FactKeeper$Chain" "first" "LFactKeeper$Fact;", .methodLink RX10 101 yX4_chainWith, .instanceMethod yX4_chainWith, .selects RX4 yX4_chainWith yX4_chainWith, .initialized RX4, .code yX4_chainWith cX4_chainWith 3 (some (.object "FactKeeper$Chain")), .fieldLink RX4 11 "FactKeeper$Index" "buckets" "[LFactKeeper$Chain;", .fieldLink RX4 21 "FactKeeper$Chain" "shared" "I", .fieldLink RX4 24 "FactKeeper$Chain" "sibling" "LFactKeeper$Chain;"] : List Cond), w ∈ wsX10_firstIn := fun _ h => (List.mem_cons_of_mem _ (List.mem_append_left _ (List.mem_append_left _ (List.mem_append_left _ h))))
theorem i9wsX10_firstIn_3 : ∀ w ∈ wsX40, w ∈ wsX10_firstIn := fun _ h => (List.mem_cons_of_mem _ (List.mem_append_right _ h))
theorem i9wsX10_firstIn_2 : ∀ w ∈ wsX00, w ∈ wsX10_firstIn := fun _ h => (List.mem_cons_of_mem _ (List.mem_append_left _ (List.mem_append_right _ h)))
set_option maxRecDepth 20000 in
theorem ggX10_firstIn_X4_chainWith : GoodIn wsX10_firstIn wsX4_chainWith := (gin_c (mem_at i9wsX10_firstIn_0 7 rfl) rfl (goodIn_app (goodIn_app (gin_c (mem_at i9wsX10_firstIn_0 8 rfl) rfl (gin_c (mem_at i9wsX10_firstIn_0 9 rfl) rfl (gin_c (mem_at i9wsX10_firstIn_0 10 rfl) rfl gin_n))) (goodIn_sub i9wsX10_firstIn_3 g9_2)) (goodIn_sub i9wsX10_firstIn_2 g9_1)))
set_option maxRecDepth 20000 in
theorem gX10_firstIn_X4_chainWith : GoodIn wsX10_firstIn (wsV RX10 101 RX4 yX4_chainWith wsX4_chainWith) := goodIn_app (gin_c (mem_at i9wsX10_firstIn_0 3 rfl) rfl (gin_c (mem_at i9wsX10_firstIn_0 4 rfl) rfl (gin_c (mem_at i9wsX10_firstIn_0 5 rfl) rfl (gin_c (mem_at i9wsX10_firstIn_0 6 rfl) rfl gin_n)))) ggX10_firstIn_X4_chainWith
set_option maxHeartbeats 4000000 in
set_option maxRecDepth 100000 in
theorem T_X10_firstIn (l : Launch) (hl : l.stackTraces = false) (D : va_G) (cA : Nat → ClassId) {l0 : Option Nat} {l1 : Int32} {l2 : Option Nat} {x : HS} {Q : Option Nat → HS → Prop} {X : String → HS → Prop} (h : w_X10_firstIn l0 l1 l2 x Q X) : YQ l yX10_firstIn wsX10_firstIn 1 22 D cA [.q l0, .i l1, .q l2] x Q X := by
  refine YQ.of (cc := cX10_firstIn) (maxL := 4) (ret := (some (.object "FactKeeper$Fact"))) hl (by decide) rfl rfl (fun g B fr => ?_)
  have o := B.o
  have hb := B.hb
  have hts := B.hts
  have hown : g.s.vm.findClass RX10 = some g.m.cls := B.hown
  have in0 : ∀ w ∈ u_ws RX0 TX0 5, w ∈ wsX10_firstIn := fun w h => (List.mem_cons_of_mem _ (List.mem_append_left _ (List.mem_append_right _ h)))
  have in10 : ∀ w ∈ u_ws RX10 TX10 6, w ∈ wsX10_firstIn := fun w h => (List.mem_cons_of_mem _ (List.mem_append_left _ (List.mem_append_left _ (List.mem_append_right _ h))))
  unfold w_X10_firstIn at h
  show KW g 4 0 [(0, .q l0), (1, .i l1), (2, .q l2)] [] x
  refine k_iload_n o hb dX10_firstIn_0 rfl 1 rfl ?_
  refine wJoin_elim (M := fun K => ∀  (x2 : HS), K  x2 → KW g 4 18 [(0, .q l0)] [] x2) h ?_ (fun j1 hj1 h => ?_)
  · skip
    intro  x2 h
    refine k_aload_n o hb dX10_firstIn_18 rfl 0 rfl ?_
    refine k_getF (C := RX10) (T := TX10) (N := 6) o hb hts in10 hown rfl (by decide) 2 (by decide) rfl (hts (.fieldLink RX10 14 "FactKeeper$Table" "row" "LFactKeeper$Chain;") (by decide +kernel)) (fun _ h9 => h9) dX10_firstIn_19 h (fun v3 h => ?_)
    refine k_getF (C := RX0) (T := TX0) (N := 5) o hb hts in0 hown rfl (by decide) 3 (by decide) rfl (hts (.fieldLink RX10 40 "FactKeeper$Chain" "first" "LFactKeeper$Fact;") (by decide +kernel)) (fun _ h9 => h9) dX10_firstIn_22 h (fun v4 h => ?_)
    exact k_aret o hb B.hr (Or.inl ⟨_, rfl⟩) fr dX10_firstIn_25 h
  · skip
    refine k_if_lt (tgt := 18) o hb dX10_firstIn_1 (by decide) h (fun h => ?_) (fun h => ?_)
    · skip
      exact KW.sub [0] rfl (hj1 x h)
    · skip
      refine k_iload_n o hb dX10_firstIn_4 rfl 1 rfl ?_
      refine k_iconst (v := 4) o hb dX10_firstIn_5 (by decide) ?_
      refine k_icmp_ge (tgt := 18) o hb dX10_firstIn_6 (by decide) h (fun h => ?_) (fun h => ?_)
      · skip
        exact KW.sub [0] rfl (hj1 x h)
      · skip
        refine k_aload_n o hb dX10_firstIn_9 rfl 0 rfl ?_
        refine k_getF (C := RX10) (T := TX10) (N := 6) o hb hts in10 hown rfl (by decide) 3 (by decide) rfl (hts (.fieldLink RX10 22 "FactKeeper$Table" "indexes" "[LFactKeeper$Index;") (by decide +kernel)) (fun _ h9 => h9) dX10_firstIn_10 h (fun v5 h => ?_)
        refine k_iload_n o hb dX10_firstIn_13 rfl 1 rfl ?_
        refine k_aald (kd := 28) (t0 := 7) o hb rfl (by decide) dX10_firstIn_14 h (fun v6 h => ?_)
        refine k_ifnonnull (tgt := 26) o hb dX10_firstIn_15 (by decide) h (fun h => ?_) (fun h => ?_)
        · skip
          exact KW.sub [0] rfl (hj1 x h)
        · skip
          refine k_aload_n o hb dX10_firstIn_26 rfl 0 rfl ?_
          refine k_getF (C := RX10) (T := TX10) (N := 6) o hb hts in10 hown rfl (by decide) 3 (by decide) rfl (hts (.fieldLink RX10 22 "FactKeeper$Table" "indexes" "[LFactKeeper$Index;") (by decide +kernel)) (fun _ h9 => h9) dX10_firstIn_27 h (fun v7 h => ?_)
          refine k_iload_n o hb dX10_firstIn_30 rfl 1 rfl ?_
          refine k_aald (kd := 28) (t0 := 7) o hb rfl (by decide) dX10_firstIn_31 h (fun v8 h => ?_)
          refine k_aload_n o hb dX10_firstIn_32 rfl 2 rfl ?_
          refine k_iload_n o hb dX10_firstIn_33 rfl 1 rfl ?_
          refine k_iald o hb dX10_firstIn_34 h (fun v9 h => ?_)
          refine k_run_q o (fun _ _ q => q) (k_runV (ci := 4) (rc := (RX4, TX4, 2)) o hb B.hml hown hts rfl (by decide) (T_X4_chainWith g.l o.hl g.D g.cA h.2) (cwV 1 hts gX10_firstIn_X4_chainWith rfl rfl rfl (by decide +kernel) ⟨yle B.hR1 rfl, yle B.hR2 rfl⟩) h.1 rfl rfl (Nat.le_of_ble_eq_true rfl) dX10_firstIn_35) (fun v11 x10 h => ?_)
          refine k_astore_n o hb dX10_firstIn_38 rfl rfl ?_
          refine k_aload_n o hb dX10_firstIn_39 rfl 0 rfl ?_
          refine wJoin_elim (M := fun K => ∀ (v14 : Option Nat) (x13 : HS), K v14 x13 → KW g 4 51 [] [.q v14] x13) h ?_ (fun j12 hj12 h => ?_)
          · skip
            intro v14 x13 h
            exact k_aret o hb B.hr (Or.inl ⟨_, rfl⟩) fr dX10_firstIn_51 h
          · skip
            refine k_ifnonnull (tgt := 47) o hb dX10_firstIn_40 (by decide) h (fun h => ?_) (fun h => ?_)
            · skip
              refine k_null o hb dX10_firstIn_43 ?_
              refine k_goto (tgt := 51) o hb dX10_firstIn_44 (by decide) ?_
              exact KW.sub [] rfl (hj12 none x10 h)
            · skip
              refine k_aload_n o hb dX10_firstIn_47 rfl 0 rfl ?_
              refine k_getF (C := RX0) (T := TX0) (N := 5) o hb hts in0 hown rfl (by decide) 3 (by decide) rfl (hts (.fieldLink RX10 40 "FactKeeper$Chain" "first" "LFactKeeper$Fact;") (by decide +kernel)) (fun _ h9 => h9) dX10_firstIn_48 h (fun v15 h => ?_)
              exact KW.sub [] rfl (hj12 v15 x10 h)
theorem dX5_advance_0 : decode cX5_advance 0 = .ok (.aload_n 0, 1) := by decide +kernel
theorem dX5_advance_1 : decode cX5_advance 1 = .ok (.getfield 36, 3) := by decide +kernel
theorem dX5_advance_4 : decode cX5_advance 4 = .ok (.ifCond .ne 10, 3) := by decide +kernel
theorem dX5_advance_7 : decode cX5_advance 7 = .ok (.aload_n 0, 1) := by decide +kernel
theorem dX5_advance_8 : decode cX5_advance 8 = .ok (.getfield 15, 3) := by decide +kernel
theorem dX5_advance_11 : decode cX5_advance 11 = .ok (.ifnonnull 5, 3) := by decide +kernel
theorem dX5_advance_14 : decode cX5_advance 14 = .ok (.aconst_null, 1) := by decide +kernel
theorem dX5_advance_15 : decode cX5_advance 15 = .ok (.areturn, 1) := by decide +kernel
theorem dX5_advance_16 : decode cX5_advance 16 = .ok (.aload_n 0, 1) := by decide +kernel
theorem dX5_advance_17 : decode cX5_advance 17 = .ok (.getfield 15, 3) := by decide +kernel
theorem dX5_advance_20 : decode cX5_advance 20 = .ok (.aload_n 0, 1) := by decide +kernel
theorem dX5_advance_21 : decode cX5_advance 21 = .ok (.getfield 25, 3) := by decide +kernel
theorem dX5_advance_24 : decode cX5_advance 24 = .ok (.invokevirtual 46, 3) := by decide +kernel
theorem dX5_advance_27 : decode cX5_advance 27 = .ok (.istore_n 1, 1) := by decide +kernel
theorem dX5_advance_28 : decode cX5_advance 28 = .ok (.aload_n 0, 1) := by decide +kernel
theorem dX5_advance_29 : decode cX5_advance 29 = .ok (.getfield 32, 3) := by decide +kernel
theorem dX5_advance_32 : decode cX5_advance 32 = .ok (.ifnonnull 18, 3) := by decide +kernel
theorem dX5_advance_35 : decode cX5_advance 35 = .ok (.aload_n 0, 1) := by decide +kernel
theorem dX5_advance_36 : decode cX5_advance 36 = .ok (.getfield 15, 3) := by decide +kernel
theorem dX5_advance_39 : decode cX5_advance 39 = .ok (.iload_n 1, 1) := by decide +kernel
theorem dX5_advance_40 : decode cX5_advance 40 = .ok (.aload_n 0, 1) := by decide +kernel
theorem dX5_advance_41 : decode cX5_advance 41 = .ok (.getfield 9, 3) := by decide +kernel
theorem dX5_advance_44 : decode cX5_advance 44 = .ok (.invokevirtual 50, 3) := by decide +kernel
theorem dX5_advance_47 : decode cX5_advance 47 = .ok (.goto 12, 3) := by decide +kernel
theorem dX5_advance_50 : decode cX5_advance 50 = .ok (.aload_n 0, 1) := by decide +kernel
theorem dX5_advance_51 : decode cX5_advance 51 = .ok (.getfield 32, 3) := by decide +kernel
theorem dX5_advance_54 : decode cX5_advance 54 = .ok (.getfield 54, 3) := by decide +kernel
theorem dX5_advance_57 : decode cX5_advance 57 = .ok (.iload_n 1, 1) := by decide +kernel
theorem dX5_advance_58 : decode cX5_advance 58 = .ok (.aaload, 1) := by decide +kernel
theorem dX5_advance_59 : decode cX5_advance 59 = .ok (.astore_n 2, 1) := by decide +kernel
theorem dX5_advance_60 : decode cX5_advance 60 = .ok (.aload_n 2, 1) := by decide +kernel
theorem dX5_advance_61 : decode cX5_advance 61 = .ok (.ifnull 66, 3) := by decide +kernel
theorem dX5_advance_64 : decode cX5_advance 64 = .ok (.aload_n 0, 1) := by decide +kernel
theorem dX5_advance_65 : decode cX5_advance 65 = .ok (.dup, 1) := by decide +kernel
theorem dX5_advance_66 : decode cX5_advance 66 = .ok (.getfield 43, 3) := by decide +kernel
theorem dX5_advance_69 : decode cX5_advance 69 = .ok (.iconst 1, 1) := by decide +kernel
theorem dX5_advance_70 : decode cX5_advance 70 = .ok (.iadd, 1) := by decide +kernel
theorem dX5_advance_71 : decode cX5_advance 71 = .ok (.putfield 43, 3) := by decide +kernel
theorem dX5_advance_74 : decode cX5_advance 74 = .ok (.aload_n 2, 1) := by decide +kernel
theorem dX5_advance_75 : decode cX5_advance 75 = .ok (.aload_n 0, 1) := by decide +kernel
theorem dX5_advance_76 : decode cX5_advance 76 = .ok (.getfield 29, 3) := by decide +kernel
theorem dX5_advance_79 : decode cX5_advance 79 = .ok (.invokevirtual 60, 3) := by decide +kernel
theorem dX5_advance_82 : decode cX5_advance 82 = .ok (.ifCond .eq 35, 3) := by decide +kernel
theorem dX5_advance_85 : decode cX5_advance 85 = .ok (.aload_n 2, 1) := by decide +kernel
theorem dX5_advance_86 : decode cX5_advance 86 = .ok (.aload_n 0, 1) := by decide +kernel
theorem dX5_advance_87 : decode cX5_advance 87 = .ok (.getfield 25, 3) := by decide +kernel
theorem dX5_advance_90 : decode cX5_advance 90 = .ok (.aload_n 0, 1) := by decide +kernel
theorem dX5_advance_91 : decode cX5_advance 91 = .ok (.getfield 9, 3) := by decide +kernel
theorem dX5_advance_94 : decode cX5_advance 94 = .ok (.invokevirtual 64, 3) := by decide +kernel
theorem dX5_advance_97 : decode cX5_advance 97 = .ok (.ifCond .eq 20, 3) := by decide +kernel
theorem dX5_advance_100 : decode cX5_advance 100 = .ok (.aload_n 0, 1) := by decide +kernel
theorem dX5_advance_101 : decode cX5_advance 101 = .ok (.aload_n 2, 1) := by decide +kernel
theorem dX5_advance_102 : decode cX5_advance 102 = .ok (.putfield 32, 3) := by decide +kernel
theorem dX5_advance_105 : decode cX5_advance 105 = .ok (.aload_n 0, 1) := by decide +kernel
theorem dX5_advance_106 : decode cX5_advance 106 = .ok (.dup, 1) := by decide +kernel
theorem dX5_advance_107 : decode cX5_advance 107 = .ok (.getfield 40, 3) := by decide +kernel
theorem dX5_advance_110 : decode cX5_advance 110 = .ok (.iconst 1, 1) := by decide +kernel
theorem dX5_advance_111 : decode cX5_advance 111 = .ok (.iadd, 1) := by decide +kernel
theorem dX5_advance_112 : decode cX5_advance 112 = .ok (.putfield 40, 3) := by decide +kernel
theorem dX5_advance_115 : decode cX5_advance 115 = .ok (.aload_n 2, 1) := by decide +kernel
theorem dX5_advance_116 : decode cX5_advance 116 = .ok (.areturn, 1) := by decide +kernel
theorem dX5_advance_117 : decode cX5_advance 117 = .ok (.aload_n 2, 1) := by decide +kernel
theorem dX5_advance_118 : decode cX5_advance 118 = .ok (.getfield 54, 3) := by decide +kernel
theorem dX5_advance_121 : decode cX5_advance 121 = .ok (.iload_n 1, 1) := by decide +kernel
theorem dX5_advance_122 : decode cX5_advance 122 = .ok (.aaload, 1) := by decide +kernel
theorem dX5_advance_123 : decode cX5_advance 123 = .ok (.astore_n 2, 1) := by decide +kernel
theorem dX5_advance_124 : decode cX5_advance 124 = .ok (.goto (-64), 3) := by decide +kernel
theorem dX5_advance_127 : decode cX5_advance 127 = .ok (.aload_n 0, 1) := by decide +kernel
theorem dX5_advance_128 : decode cX5_advance 128 = .ok (.iconst 1, 1) := by decide +kernel
theorem dX5_advance_129 : decode cX5_advance 129 = .ok (.putfield 36, 3) := by decide +kernel
theorem dX5_advance_132 : decode cX5_advance 132 = .ok (.aconst_null, 1) := by decide +kernel
theorem dX5_advance_133 : decode cX5_advance 133 = .ok (.areturn, 1) := by decide +kernel
theorem i9wsX5_advance_0 : ∀ w ∈ wsX5_advance_r1, w ∈ wsX5_advance := fun _ h => (List.mem_cons_of_mem _ (List.mem_append_left _ (List.mem_append_left _ (List.mem_append_left _ (List.mem_append_left _ (List.mem_append_left _ (List.mem_append_left _ h)))))))
theorem i9wsX5_advance_4 : ∀ w ∈ wsX100, w ∈ wsX5_advance := fun _ h => (List.mem_cons_of_mem _ (List.mem_append_left _ (List.mem_append_left _ (List.mem_append_right _ h))))
set_option maxRecDepth 20000 in
theorem ggX5_advance_X10_laneFor : GoodIn wsX5_advance wsX10_laneFor := (gin_c (mem_at i9wsX5_advance_0 13 rfl) rfl (goodIn_app (gin_c (mem_at i9wsX5_advance_0 14 rfl) rfl (gin_c (mem_at i9wsX5_advance_0 15 rfl) rfl (gin_c (mem_at i9wsX5_advance_0 16 rfl) rfl (gin_c (mem_at i9wsX5_advance_0 17 rfl) rfl (gin_c (mem_at i9wsX5_advance_0 18 rfl) rfl gin_n))))) (goodIn_sub i9wsX5_advance_4 g9_3)))
set_option maxRecDepth 20000 in
theorem gX5_advance_X10_laneFor : GoodIn wsX5_advance (wsV RX5 46 RX10 yX10_laneFor wsX10_laneFor) := goodIn_app (gin_c (mem_at i9wsX5_advance_0 9 rfl) rfl (gin_c (mem_at i9wsX5_advance_0 10 rfl) rfl (gin_c (mem_at i9wsX5_advance_0 11 rfl) rfl (gin_c (mem_at i9wsX5_advance_0 12 rfl) rfl gin_n)))) ggX5_advance_X10_laneFor
theorem i9wsX5_advance_1 : ∀ w ∈ wsX5_advance_r2, w ∈ wsX5_advance := fun _ h => (List.mem_cons_of_mem _ (List.mem_append_left _ (List.mem_append_left _ (List.mem_append_left _ (List.mem_append_left _ (List.mem_append_left _ (List.mem_append_right _ h)))))))
theorem i9wsX5_advance_5 : ∀ w ∈ wsX00, w ∈ wsX5_advance := fun _ h => (List.mem_cons_of_mem _ (List.mem_append_left _ (List.mem_append_right _ h)))
theorem i9wsX5_advance_6 : ∀ w ∈ wsX40, w ∈ wsX5_advance := fun _ h => (List.mem_cons_of_mem _ (List.mem_append_right _ h))
set_option maxRecDepth 20000 in
theorem ggX5_advance_X10_firstIn : GoodIn wsX5_advance wsX10_firstIn := (gin_c (mem_at i9wsX5_advance_0 22 rfl) rfl (goodIn_app (goodIn_app (goodIn_app (gin_c (mem_at i9wsX5_advance_0 15 rfl) rfl (gin_c (mem_at i9wsX5_advance_0 23 rfl) rfl (gin_c (mem_at i9wsX5_advance_1 0 rfl) rfl (gin_c (mem_at i9wsX5_advance_1 1 rfl) rfl (gin_c (mem_at i9wsX5_advance_1 2 rfl) rfl (gin_c (mem_at i9wsX5_advance_1 3 rfl) rfl (gin_c (mem_at i9wsX5_advance_1 4 rfl) rfl (gin_c (mem_at i9wsX5_advance_1 5 rfl) rfl (gin_c (mem_at i9wsX5_advance_1 6 rfl) rfl (gin_c (mem_at i9wsX5_advance_1 7 rfl) rfl (gin_c (mem_at i9wsX5_advance_1 8 rfl) rfl gin_n))))))))))) (goodIn_sub i9wsX5_advance_4 g9_3)) (goodIn_sub i9wsX5_advance_5 g9_1)) (goodIn_sub i9wsX5_advance_6 g9_2)))
set_option maxRecDepth 20000 in
theorem gX5_advance_X10_firstIn : GoodIn wsX5_advance (wsV RX5 50 RX10 yX10_firstIn wsX10_firstIn) := goodIn_app (gin_c (mem_at i9wsX5_advance_0 19 rfl) rfl (gin_c (mem_at i9wsX5_advance_0 20 rfl) rfl (gin_c (mem_at i9wsX5_advance_0 21 rfl) rfl (gin_c (mem_at i9wsX5_advance_0 12 rfl) rfl gin_n)))) ggX5_advance_X10_firstIn
theorem i9wsX5_advance_3 : ∀ w ∈ wsX10, w ∈ wsX5_advance := fun _ h => (List.mem_cons_of_mem _ (List.mem_append_left _ (List.mem_append_left _ (List.mem_append_left _ (List.mem_append_right _ h)))))
set_option maxRecDepth 20000 in
theorem ggX5_advance_X1_isThere : GoodIn wsX5_advance wsX1_isThere := (gin_c (mem_at i9wsX5_advance_1 13 rfl) rfl (goodIn_app (gin_c (mem_at i9wsX5_advance_1 14 rfl) rfl (gin_c (mem_at i9wsX5_advance_1 15 rfl) rfl gin_n)) (goodIn_sub i9wsX5_advance_3 g9_0)))
set_option maxRecDepth 20000 in
theorem gX5_advance_X1_isThere : GoodIn wsX5_advance (wsV RX5 60 RX1 yX1_isThere wsX1_isThere) := goodIn_app (gin_c (mem_at i9wsX5_advance_1 9 rfl) rfl (gin_c (mem_at i9wsX5_advance_1 10 rfl) rfl (gin_c (mem_at i9wsX5_advance_1 11 rfl) rfl (gin_c (mem_at i9wsX5_advance_1 12 rfl) rfl gin_n)))) ggX5_advance_X1_isThere
set_option maxRecDepth 20000 in
theorem ggX5_advance_X1_fits : GoodIn wsX5_advance wsX1_fits := (gin_c (mem_at i9wsX5_advance_1 19 rfl) rfl (goodIn_app (gin_c (mem_at i9wsX5_advance_1 20 rfl) rfl (gin_c (mem_at i9wsX5_advance_0 16 rfl) rfl (gin_c (mem_at i9wsX5_advance_0 17 rfl) rfl (gin_c (mem_at i9wsX5_advance_0 18 rfl) rfl gin_n)))) (goodIn_sub i9wsX5_advance_3 g9_0)))
set_option maxRecDepth 20000 in
theorem gX5_advance_X1_fits : GoodIn wsX5_advance (wsV RX5 64 RX1 yX1_fits wsX1_fits) := goodIn_app (gin_c (mem_at i9wsX5_advance_1 16 rfl) rfl (gin_c (mem_at i9wsX5_advance_1 17 rfl) rfl (gin_c (mem_at i9wsX5_advance_1 18 rfl) rfl (gin_c (mem_at i9wsX5_advance_1 12 rfl) rfl gin_n)))) ggX5_advance_X1_fits
set_option maxHeartbeats 4000000 in
set_option maxRecDepth 100000 in
theorem T_X5_advance (l : Launch) (hl : l.stackTraces = false) (D : va_G) (cA : Nat → ClassId) {l0 : Option Nat} {x : HS} {Q : Option Nat → HS → Prop} {X : String → HS → Prop} (h : w_X5_advance l0 x Q X) : YQ l yX5_advance wsX5_advance 2 45 D cA [.q l0] x Q X := by
  refine YQ.of (cc := cX5_advance) (maxL := 3) (ret := (some (.object "FactKeeper$Fact"))) hl (by decide) rfl rfl (fun g B fr => ?_)
  have o := B.o
  have hb := B.hb
  have hts := B.hts
  have hown : g.s.vm.findClass RX5 = some g.m.cls := B.hown
  have in1 : ∀ w ∈ u_ws RX1 TX1 7, w ∈ wsX5_advance := fun w h => (List.mem_cons_of_mem _ (List.mem_append_left _ (List.mem_append_left _ (List.mem_append_left _ (List.mem_append_right _ h)))))
  have in5 : ∀ w ∈ u_ws RX5 TX5 8, w ∈ wsX5_advance := fun w h => (List.mem_cons_of_mem _ (List.mem_append_left _ (List.mem_append_left _ (List.mem_append_left _ (List.mem_append_left _ (List.mem_append_right _ h))))))
  unfold w_X5_advance at h
  show KW g 3 0 [(0, .q l0)] [] x
  refine k_aload_n o hb dX5_advance_0 rfl 0 rfl ?_
  refine k_getI (C := RX5) (T := TX5) (N := 8) o hb hts in5 hown rfl (by decide) 6 (by decide) rfl (hts (.fieldLink RX5 36 "FactKeeper$Look" "isAtEnd" "Z") (by decide +kernel)) (fun _ h9 => h9) dX5_advance_1 h (fun v1 h => ?_)
  refine wJoin_elim (M := fun K => ∀  (x3 : HS), K  x3 → KW g 3 14 [] [] x3) h ?_ (fun j2 hj2 h => ?_)
  · skip
    intro  x3 h
    refine k_null o hb dX5_advance_14 ?_
    exact k_aret o hb B.hr (Or.inl ⟨_, rfl⟩) fr dX5_advance_15 h
  · skip
    refine k_if_ne (tgt := 14) o hb dX5_advance_4 (by decide) h (fun h => ?_) (fun h => ?_)
    · skip
      refine k_aload_n o hb dX5_advance_7 rfl 0 rfl ?_
      refine k_getF (C := RX5) (T := TX5) (N := 8) o hb hts in5 hown rfl (by decide) 2 (by decide) rfl (hts (.fieldLink RX5 15 "FactKeeper$Look" "table" "LFactKeeper$Table;") (by decide +kernel)) (fun _ h9 => h9) dX5_advance_8 h (fun v4 h => ?_)
      refine k_ifnonnull (tgt := 16) o hb dX5_advance_11 (by decide) h (fun h => ?_) (fun h => ?_)
      · skip
        exact KW.sub [] rfl (hj2 x h)
      · skip
        refine k_aload_n o hb dX5_advance_16 rfl 0 rfl ?_
        refine k_getF (C := RX5) (T := TX5) (N := 8) o hb hts in5 hown rfl (by decide) 2 (by decide) rfl (hts (.fieldLink RX5 15 "FactKeeper$Look" "table" "LFactKeeper$Table;") (by decide +kernel)) (fun _ h9 => h9) dX5_advance_17 h (fun v5 h => ?_)
        refine k_aload_n o hb dX5_advance_20 rfl 0 rfl ?_
        refine k_getI (C := RX5) (T := TX5) (N := 8) o hb hts in5 hown rfl (by decide) 3 (by decide) rfl (hts (.fieldLink RX5 25 "FactKeeper$Look" "mask" "I") (by decide +kernel)) (fun _ h9 => h9) dX5_advance_21 h (fun v6 h => ?_)
        refine k_run_i o (fun _ _ q => q) (k_runV (ci := 10) (rc := (RX10, TX10, 6)) o hb B.hml hown hts rfl (by decide) (T_X10_laneFor g.l o.hl g.D g.cA h.2) (cwV 1 hts gX5_advance_X10_laneFor rfl rfl rfl (by decide +kernel) ⟨yle B.hR1 rfl, yle B.hR2 rfl⟩) h.1 rfl rfl (Nat.le_of_ble_eq_true rfl) dX5_advance_24) (fun v8 x7 h => ?_)
        refine k_istore_n o hb dX5_advance_27 rfl rfl ?_
        refine k_aload_n o hb dX5_advance_28 rfl 1 rfl ?_
        refine k_getF (C := RX5) (T := TX5) (N := 8) o hb hts in5 hown rfl (by decide) 5 (by decide) rfl (hts (.fieldLink RX5 32 "FactKeeper$Look" "last" "LFactKeeper$Fact;") (by decide +kernel)) (fun _ h9 => h9) dX5_advance_29 h (fun v9 h => ?_)
        refine wJoin_elim (M := fun K => ∀ (v12 : Option Nat) (x11 : HS), K v12 x11 → KW g 3 59 [(0, .q l0), (1, .i v8)] [.q v12] x11) h ?_ (fun j10 hj10 h => ?_)
        · skip
          intro v12 x11 h
          refine k_astore_n o hb dX5_advance_59 rfl rfl ?_
          refine KW.sub [1, 2, 0] rfl ?_
          refine wLoop_elim (M := fun (v16 : Option Nat) (x15 : HS) => KW g 3 60 [(0, .q l0), (1, .i v8), (2, .q v16)] [] x15) h ?_
          intro v16 x15 again13 ih14 h
          refine k_aload_n o hb dX5_advance_60 rfl 2 rfl ?_
          refine k_ifnull (tgt := 127) o hb dX5_advance_61 (by decide) h (fun h => ?_) (fun h => ?_)
          · skip
            refine k_aload_n o hb dX5_advance_127 rfl 0 rfl ?_
            refine k_iconst (v := 1) o hb dX5_advance_128 (by decide) ?_
            refine k_putZ (C := RX5) (T := TX5) (N := 8) (ty := .boolean) o hb hts in5 tyX5 tyX5_ok nmX5 hown rfl (by decide) 6 (by decide) rfl (hts (.fieldLink RX5 36 "FactKeeper$Look" "isAtEnd" "Z") (by decide +kernel)) (fun _ h9 => h9) rfl (by decide +kernel) ⟨by decide, by decide⟩ ⟨by decide, by decide⟩ dX5_advance_129 h (fun x17 h => ?_)
            refine k_null o hb dX5_advance_132 ?_
            exact k_aret o hb B.hr (Or.inl ⟨_, rfl⟩) fr dX5_advance_133 h
          · skip
            refine k_aload_n o hb dX5_advance_64 rfl 0 rfl ?_
            refine k_dup o hb dX5_advance_65 ?_
            refine k_getI (C := RX5) (T := TX5) (N := 8) o hb hts in5 hown rfl (by decide) 7 (by decide) rfl (hts (.fieldLink RX5 43 "FactKeeper$Look" "lookedAt" "I") (by decide +kernel)) (fun _ h9 => h9) dX5_advance_66 h (fun v18 h => ?_)
            refine k_iconst (v := 1) o hb dX5_advance_69 (by decide) ?_
            refine k_iadd o hb dX5_advance_70 ?_
            refine k_putI (C := RX5) (T := TX5) (N := 8) (ty := .int) o hb hts in5 tyX5 tyX5_ok nmX5 hown rfl (by decide) 7 (by decide) rfl (hts (.fieldLink RX5 43 "FactKeeper$Look" "lookedAt" "I") (by decide +kernel)) (fun _ h9 => h9) rfl (by decide +kernel) (fun _ => rfl) (fun _ => rfl) dX5_advance_71 h (fun x19 h => ?_)
            refine k_aload_n o hb dX5_advance_74 rfl 2 rfl ?_
            refine k_aload_n o hb dX5_advance_75 rfl 0 rfl ?_
            refine k_getI (C := RX5) (T := TX5) (N := 8) o hb hts in5 hown rfl (by decide) 4 (by decide) rfl (hts (.fieldLink RX5 29 "FactKeeper$Look" "time" "I") (by decide +kernel)) (fun _ h9 => h9) dX5_advance_76 h (fun v20 h => ?_)
            refine k_run_i o (fun _ _ q => q) (k_runV (ci := 1) (rc := (RX1, TX1, 7)) o hb B.hml hown hts rfl (by decide) (T_X1_isThere g.l o.hl g.D g.cA h.2) (cwV 1 hts gX5_advance_X1_isThere rfl rfl rfl (by decide +kernel) ⟨yle B.hR1 rfl, yle B.hR2 rfl⟩) h.1 rfl rfl (Nat.le_of_ble_eq_true rfl) dX5_advance_79) (fun v22 x21 h => ?_)
            refine wJoin_elim (M := fun K => ∀  (x24 : HS), K  x24 → KW g 3 117 [(0, .q l0), (1, .i v8), (2, .q v16)] [] x24) h ?_ (fun j23 hj23 h => ?_)
            · skip
              intro  x24 h
              refine k_aload_n o hb dX5_advance_117 rfl 2 rfl ?_
              refine k_getF (C := RX1) (T := TX1) (N := 7) o hb hts in1 hown rfl (by decide) 1 (by decide) rfl (hts (.fieldLink RX5 54 "FactKeeper$Fact" "behind" "[LFactKeeper$Fact;") (by decide +kernel)) (fun _ h9 => h9) dX5_advance_118 h (fun v25 h => ?_)
              refine k_iload_n o hb dX5_advance_121 rfl 1 rfl ?_
              refine k_aald (kd := 25) (t0 := 4) o hb rfl (by decide) dX5_advance_122 h (fun v26 h => ?_)
              refine k_astore_n o hb dX5_advance_123 rfl rfl ?_
              refine k_goto (tgt := 60) o hb dX5_advance_124 (by decide) ?_
              exact KW.sub [1, 2, 0] rfl (ih14 v26 x24 h)
            · skip
              refine k_if_eq (tgt := 117) o hb dX5_advance_82 (by decide) h (fun h => ?_) (fun h => ?_)
              · skip
                exact KW.sub [0, 1, 2] rfl (hj23 x21 h)
              · skip
                refine k_aload_n o hb dX5_advance_85 rfl 2 rfl ?_
                refine k_aload_n o hb dX5_advance_86 rfl 0 rfl ?_
                refine k_getI (C := RX5) (T := TX5) (N := 8) o hb hts in5 hown rfl (by decide) 3 (by decide) rfl (hts (.fieldLink RX5 25 "FactKeeper$Look" "mask" "I") (by decide +kernel)) (fun _ h9 => h9) dX5_advance_87 h (fun v27 h => ?_)
                refine k_aload_n o hb dX5_advance_90 rfl 0 rfl ?_
                refine k_getF (C := RX5) (T := TX5) (N := 8) o hb hts in5 hown rfl (by decide) 1 (by decide) rfl (hts (.fieldLink RX5 9 "FactKeeper$Look" "wanted" "[I") (by decide +kernel)) (fun _ h9 => h9) dX5_advance_91 h (fun v28 h => ?_)
                refine k_run_i o (fun _ _ q => q) (k_runV (ci := 1) (rc := (RX1, TX1, 7)) o hb B.hml hown hts rfl (by decide) (T_X1_fits g.l o.hl g.D g.cA h.2) (cwV 2 hts gX5_advance_X1_fits rfl rfl rfl (by decide +kernel) ⟨yle B.hR1 rfl, yle B.hR2 rfl⟩) h.1 rfl rfl (Nat.le_of_ble_eq_true rfl) dX5_advance_94) (fun v30 x29 h => ?_)
                refine k_if_eq (tgt := 117) o hb dX5_advance_97 (by decide) h (fun h => ?_) (fun h => ?_)
                · skip
                  exact KW.sub [0, 1, 2] rfl (hj23 x29 h)
                · skip
                  refine k_aload_n o hb dX5_advance_100 rfl 0 rfl ?_
                  refine k_aload_n o hb dX5_advance_101 rfl 2 rfl ?_
                  refine k_putF (C := RX5) (T := TX5) (N := 8) (ty := (tyX5 5)) o hb hts in5 tyX5 tyX5_ok nmX5 hown rfl (by decide) 5 (by decide) rfl (hts (.fieldLink RX5 32 "FactKeeper$Look" "last" "LFactKeeper$Fact;") (by decide +kernel)) (fun _ h9 => h9) rfl (by decide +kernel) (fun r => by cases r <;> rfl) (fun r => by cases r <;> rfl) dX5_advance_102 h (fun x31 h => ?_)
                  refine k_aload_n o hb dX5_advance_105 rfl 0 rfl ?_
                  refine k_dup o hb dX5_advance_106 ?_
                  refine k_getI (C := RX5) (T := TX5) (N := 8) o hb hts in5 hown rfl (by decide) 0 (by decide) rfl (hts (.fieldLink RX5 40 "FactKeeper$Look" "told" "I") (by decide +kernel)) (fun _ h9 => h9) dX5_advance_107 h (fun v32 h => ?_)
                  refine k_iconst (v := 1) o hb dX5_advance_110 (by decide) ?_
                  refine k_iadd o hb dX5_advance_111 ?_
                  refine k_putI (C := RX5) (T := TX5) (N := 8) (ty := .int) o hb hts in5 tyX5 tyX5_ok nmX5 hown rfl (by decide) 0 (by decide) rfl (hts (.fieldLink RX5 40 "FactKeeper$Look" "told" "I") (by decide +kernel)) (fun _ h9 => h9) rfl (by decide +kernel) (fun _ => rfl) (fun _ => rfl) dX5_advance_112 h (fun x33 h => ?_)
                  refine k_aload_n o hb dX5_advance_115 rfl 2 rfl ?_
                  exact k_aret o hb B.hr (Or.inl ⟨_, rfl⟩) fr dX5_advance_116 h
        · skip
          refine k_ifnonnull (tgt := 50) o hb dX5_advance_32 (by decide) h (fun h => ?_) (fun h => ?_)
          · skip
            refine k_aload_n o hb dX5_advance_35 rfl 1 rfl ?_
            refine k_getF (C := RX5) (T := TX5) (N := 8) o hb hts in5 hown rfl (by decide) 2 (by decide) rfl (hts (.fieldLink RX5 15 "FactKeeper$Look" "table" "LFactKeeper$Table;") (by decide +kernel)) (fun _ h9 => h9) dX5_advance_36 h (fun v34 h => ?_)
            refine k_iload_n o hb dX5_advance_39 rfl 0 rfl ?_
            refine k_aload_n o hb dX5_advance_40 rfl 1 rfl ?_
            refine k_getF (C := RX5) (T := TX5) (N := 8) o hb hts in5 hown rfl (by decide) 1 (by decide) rfl (hts (.fieldLink RX5 9 "FactKeeper$Look" "wanted" "[I") (by decide +kernel)) (fun _ h9 => h9) dX5_advance_41 h (fun v35 h => ?_)
            refine k_run_q o (fun _ _ q => q) (k_runV (ci := 10) (rc := (RX10, TX10, 6)) o hb B.hml hown hts rfl (by decide) (T_X10_firstIn g.l o.hl g.D g.cA h.2) (cwV 2 hts gX5_advance_X10_firstIn rfl rfl rfl (by decide +kernel) ⟨yle B.hR1 rfl, yle B.hR2 rfl⟩) h.1 rfl rfl (Nat.le_of_ble_eq_true rfl) dX5_advance_44) (fun v37 x36 h => ?_)
            refine k_goto (tgt := 59) o hb dX5_advance_47 (by decide) ?_
            exact KW.sub [1, 0] rfl (hj10 v37 x36 h)
          · skip
            refine k_aload_n o hb dX5_advance_50 rfl 1 rfl ?_
            refine k_getF (C := RX5) (T := TX5) (N := 8) o hb hts in5 hown rfl (by decide) 5 (by decide) rfl (hts (.fieldLink RX5 32 "FactKeeper$Look" "last" "LFactKeeper$Fact;") (by decide +kernel)) (fun _ h9 => h9) dX5_advance_51 h (fun v38 h => ?_)
            refine k_getF (C := RX1) (T := TX1) (N := 7) o hb hts in1 hown rfl (by decide) 1 (by decide) rfl (hts (.fieldLink RX5 54 "FactKeeper$Fact" "behind" "[LFactKeeper$Fact;") (by decide +kernel)) (fun _ h9 => h9) dX5_advance_54 h (fun v39 h => ?_)
            refine k_iload_n o hb dX5_advance_57 rfl 0 rfl ?_
            refine k_aald (kd := 25) (t0 := 4) o hb rfl (by decide) dX5_advance_58 h (fun v40 h => ?_)
            exact KW.sub [1, 0] rfl (hj10 v40 x7 h)
    · skip
      exact KW.sub [] rfl (hj2 x h)
theorem dX5_takeLookedAt_0 : decode cX5_takeLookedAt 0 = .ok (.aload_n 0, 1) := by decide +kernel
theorem dX5_takeLookedAt_1 : decode cX5_takeLookedAt 1 = .ok (.getfield 43, 3) := by decide +kernel
theorem dX5_takeLookedAt_4 : decode cX5_takeLookedAt 4 = .ok (.istore_n 1, 1) := by decide +kernel
theorem dX5_takeLookedAt_5 : decode cX5_takeLookedAt 5 = .ok (.aload_n 0, 1) := by decide +kernel
theorem dX5_takeLookedAt_6 : decode cX5_takeLookedAt 6 = .ok (.iconst 0, 1) := by decide +kernel
theorem dX5_takeLookedAt_7 : decode cX5_takeLookedAt 7 = .ok (.putfield 43, 3) := by decide +kernel
theorem dX5_takeLookedAt_10 : decode cX5_takeLookedAt 10 = .ok (.iload_n 1, 1) := by decide +kernel
theorem dX5_takeLookedAt_11 : decode cX5_takeLookedAt 11 = .ok (.ireturn, 1) := by decide +kernel
set_option maxHeartbeats 4000000 in
set_option maxRecDepth 100000 in
theorem T_X5_takeLookedAt (l : Launch) (hl : l.stackTraces = false) (D : va_G) (cA : Nat → ClassId) {l0 : Option Nat} {x : HS} {Q : Int32 → HS → Prop} {X : String → HS → Prop} (h : w_X5_takeLookedAt l0 x Q X) : YI l yX5_takeLookedAt wsX5_takeLookedAt 0 0 D cA [.q l0] x Q X := by
  refine YI.of (cc := cX5_takeLookedAt) (maxL := 2) (ret := (some .int)) hl (by decide) rfl rfl (fun g B fr => ?_)
  have o := B.o
  have hb := B.hb
  have hts := B.hts
  have hown : g.s.vm.findClass RX5 = some g.m.cls := B.hown
  have in5 : ∀ w ∈ u_ws RX5 TX5 8, w ∈ wsX5_takeLookedAt := fun w h => (List.mem_cons_of_mem _ (List.mem_append_right _ h))
  unfold w_X5_takeLookedAt at h
  show KW g 2 0 [(0, .q l0)] [] x
  refine k_aload_n o hb dX5_takeLookedAt_0 rfl 0 rfl ?_
  refine k_getI (C := RX5) (T := TX5) (N := 8) o hb hts in5 hown rfl (by decide) 7 (by decide) rfl (hts (.fieldLink RX5 43 "FactKeeper$Look" "lookedAt" "I") (by decide +kernel)) (fun _ h9 => h9) dX5_takeLookedAt_1 h (fun v1 h => ?_)
  refine k_istore_n o hb dX5_takeLookedAt_4 rfl rfl ?_
  refine k_aload_n o hb dX5_takeLookedAt_5 rfl 1 rfl ?_
  refine k_iconst (v := 0) o hb dX5_takeLookedAt_6 (by decide) ?_
  refine k_putI (C := RX5) (T := TX5) (N := 8) (ty := .int) o hb hts in5 tyX5 tyX5_ok nmX5 hown rfl (by decide) 7 (by decide) rfl (hts (.fieldLink RX5 43 "FactKeeper$Look" "lookedAt" "I") (by decide +kernel)) (fun _ h9 => h9) rfl (by decide +kernel) (fun _ => rfl) (fun _ => rfl) dX5_takeLookedAt_7 h (fun x2 h => ?_)
  refine k_iload_n o hb dX5_takeLookedAt_10 rfl 0 rfl ?_
  exact k_iret o hb B.hr fr dX5_takeLookedAt_11 h
theorem dX10_init_0 : decode cX10_init 0 = .ok (.aload_n 0, 1) := by decide +kernel
theorem dX10_init_1 : decode cX10_init 1 = .ok (.invokespecial 3, 3) := by decide +kernel
theorem dX10_init_4 : decode cX10_init 4 = .ok (.aload_n 0, 1) := by decide +kernel
theorem dX10_init_5 : decode cX10_init 5 = .ok (.new 9, 3) := by decide +kernel
theorem dX10_init_8 : decode cX10_init 8 = .ok (.dup, 1) := by decide +kernel
theorem dX10_init_9 : decode cX10_init 9 = .ok (.iconst 4, 1) := by decide +kernel
theorem dX10_init_10 : decode cX10_init 10 = .ok (.iconst 0, 1) := by decide +kernel
theorem dX10_init_11 : decode cX10_init 11 = .ok (.aconst_null, 1) := by decide +kernel
theorem dX10_init_12 : decode cX10_init 12 = .ok (.invokespecial 11, 3) := by decide +kernel
theorem dX10_init_15 : decode cX10_init 15 = .ok (.putfield 14, 3) := by decide +kernel
theorem dX10_init_18 : decode cX10_init 18 = .ok (.aload_n 0, 1) := by decide +kernel
theorem dX10_init_19 : decode cX10_init 19 = .ok (.iconst 4, 1) := by decide +kernel
theorem dX10_init_20 : decode cX10_init 20 = .ok (.anewarray 20, 3) := by decide +kernel
theorem dX10_init_23 : decode cX10_init 23 = .ok (.putfield 22, 3) := by decide +kernel
theorem dX10_init_26 : decode cX10_init 26 = .ok (.aload_n 0, 1) := by decide +kernel
theorem dX10_init_27 : decode cX10_init 27 = .ok (.iconst 3, 1) := by decide +kernel
theorem dX10_init_28 : decode cX10_init 28 = .ok (.newarray .int, 2) := by decide +kernel
theorem dX10_init_30 : decode cX10_init 30 = .ok (.putfield 26, 3) := by decide +kernel
theorem dX10_init_33 : decode cX10_init 33 = .ok (.aload_n 0, 1) := by decide +kernel
theorem dX10_init_34 : decode cX10_init 34 = .ok (.iload_n 1, 1) := by decide +kernel
theorem dX10_init_35 : decode cX10_init 35 = .ok (.putfield 30, 3) := by decide +kernel
theorem dX10_init_38 : decode cX10_init 38 = .ok (.aload_n 0, 1) := by decide +kernel
theorem dX10_init_39 : decode cX10_init 39 = .ok (.iload_n 2, 1) := by decide +kernel
theorem dX10_init_40 : decode cX10_init 40 = .ok (.putfield 34, 3) := by decide +kernel
theorem dX10_init_43 : decode cX10_init 43 = .ok (.return_, 1) := by decide +kernel
theorem i9wsX10_init_0 : ∀ w ∈ ([.methodLink RX10 3 objectInit, .instanceMethod objectInit, .code objectInit ⟨#[0xb1]⟩ 1 none, .classLink RX10 9 RX0, .instantiable RX0 5, .initialized RX0, .fieldLink RX10 14 "FactKeeper$Table" "row" "LFactKeeper$Chain;", .classLink RX10 20 RX4, .fieldLink RX10 22 "FactKeeper$Table" "indexes" "[LFactKeeper$Index;", .arrayClass .int, .fieldLink RX10 26 "FactKeeper$Table" "keys" "[I", .fieldLink RX10 30 "FactKeeper$Table" "number" "I", .fieldLink RX10 34 "FactKeeper$Table" "columns" "I", .methodLink RX10 11 yX0_init, .instanceMethod yX0_init, .code yX0_init cX0_init 4 none, .methodLink RX0 1 objectInit, .fieldLink RX0 7 "FactKeeper$Chain" "lane" "I", .fieldLink RX0 13 "FactKeeper$Chain" "shared" "I", .fieldLink RX0 16 "FactKeeper$Chain" "sibling" "LFactKeeper$Chain;"] : List Cond), w ∈ wsX10_init := fun _ h => (List.mem_cons_of_mem _ (List.mem_append_left _ (List.mem_append_left _ h)))
theorem i9wsX10_init_1 : ∀ w ∈ wsX00, w ∈ wsX10_init := fun _ h => (List.mem_cons_of_mem _ (List.mem_append_left _ (List.mem_append_right _ h)))
set_option maxRecDepth 20000 in
theorem ggX10_init_X0_init : GoodIn wsX10_init wsX0_init := (gin_c (mem_at i9wsX10_init_0 15 rfl) rfl (goodIn_app (gin_c (mem_at i9wsX10_init_0 16 rfl) rfl (gin_c (mem_at i9wsX10_init_0 1 rfl) rfl (gin_c (mem_at i9wsX10_init_0 2 rfl) rfl (gin_c (mem_at i9wsX10_init_0 17 rfl) rfl (gin_c (mem_at i9wsX10_init_0 18 rfl) rfl (gin_c (mem_at i9wsX10_init_0 19 rfl) rfl gin_n)))))) (goodIn_sub i9wsX10_init_1 g9_1)))
set_option maxRecDepth 20000 in
theorem gX10_init_X0_init : GoodIn wsX10_init (wsX0_init) := ggX10_init_X0_init
set_option maxHeartbeats 4000000 in
set_option maxRecDepth 100000 in
theorem T_X10_init (l : Launch) (hl : l.stackTraces = false) (D : va_G) (cA : Nat → ClassId) {l0 : Option Nat} {l1 : Int32} {l2 : Int32} {x : HS} {Q : HS → Prop} {X : String → HS → Prop} (h : w_X10_init l0 l1 l2 x Q X) : YV l yX10_init wsX10_init 2 35 D cA [.q l0, .i l1, .i l2] x Q X := by
  refine YV.of (cc := cX10_init) (maxL := 3) (ret := none) hl (by decide) rfl rfl (fun g B fr => ?_)
  have o := B.o
  have hb := B.hb
  have hts := B.hts
  have hown : g.s.vm.findClass RX10 = some g.m.cls := B.hown
  have in0 : ∀ w ∈ u_ws RX0 TX0 5, w ∈ wsX10_init := fun w h => (List.mem_cons_of_mem _ (List.mem_append_left _ (List.mem_append_right _ h)))
  have in10 : ∀ w ∈ u_ws RX10 TX10 6, w ∈ wsX10_init := fun w h => (List.mem_cons_of_mem _ (List.mem_append_right _ h))
  unfold w_X10_init at h
  show KW g 3 0 [(0, .q l0), (1, .i l1), (2, .i l2)] [] x
  refine k_aload_n o hb dX10_init_0 rfl 0 rfl ?_
  refine k_objInit o hb B.hml hown (hts (.methodLink RX10 3 objectInit) (by decide +kernel)) (hts (.instanceMethod objectInit) (by decide +kernel)) (hts (.code objectInit ⟨#[0xb1]⟩ 1 none) (by decide +kernel)) (yle B.hR1 rfl) (yle B.hR2 rfl) dX10_init_1 h.1 ?_
  have h := h.2
  refine k_aload_n o hb dX10_init_4 rfl 0 rfl ?_
  refine k_new (C := RX0) (T := TX0) (N := 5) o hb hts in0 tyX0 tyX0_ok hown (hts (.classLink RX10 9 RX0) (by decide +kernel)) (hts (.instantiable RX0 5) (by decide +kernel)) (hts (.initialized RX0) (by decide +kernel)) rfl (by decide) (fun j hj => by rcases (show j = 0 ∨ j = 1 ∨ j = 2 ∨ j = 3 ∨ j = 4 by omega) with rfl | rfl | rfl | rfl | rfl <;> rfl) dX10_init_5 h (fun q1 x2 h => ?_)
  refine k_dup o hb dX10_init_8 ?_
  refine k_iconst (v := 4) o hb dX10_init_9 (by decide) ?_
  refine k_iconst (v := 0) o hb dX10_init_10 (by decide) ?_
  refine k_null o hb dX10_init_11 ?_
  refine k_run_v o (fun _ _ q => q.elim) (k_runI o hb B.hml hown hts (T_X0_init g.l o.hl g.D g.cA h) yX_no (cwI 3 hts gX10_init_X0_init rfl rfl rfl (hts (.initialized RX0) (by decide +kernel)) (hts (.methodLink RX10 11 yX0_init) (by decide +kernel)) (hts (.instanceMethod yX0_init) (by decide +kernel)) rfl (by decide +kernel) ⟨yle B.hR1 rfl, yle B.hR2 rfl⟩) rfl rfl (Nat.le_of_ble_eq_true rfl) dX10_init_12) (fun x3 h => ?_)
  refine k_putFF (C := RX10) (T := TX10) (N := 6) (ty := (tyX10 2)) o hb hts in10 tyX10 tyX10_ok nmX10 hown rfl (by decide) 2 (by decide) rfl (hts (.fieldLink RX10 14 "FactKeeper$Table" "row" "LFactKeeper$Chain;") (by decide +kernel)) (fun _ h9 => h9) rfl B.hnm rfl (by decide +kernel) (fun r => by cases r <;> rfl) (fun r => by cases r <;> rfl) dX10_init_15 h (fun x5 h => ?_)
  refine k_aload_n o hb dX10_init_18 rfl 0 rfl ?_
  refine k_iconst (v := 4) o hb dX10_init_19 (by decide) ?_
  refine k_newG (kd := 28) (t0 := 7) o hb hown (hts (.classLink RX10 20 RX4) (by decide +kernel)) o.hZ.2.2.2.2.1.2.2.2.2.1 (by decide) rfl dX10_init_20 h (fun q6 x7 h => ?_)
  refine k_putFF (C := RX10) (T := TX10) (N := 6) (ty := (tyX10 3)) o hb hts in10 tyX10 tyX10_ok nmX10 hown rfl (by decide) 3 (by decide) rfl (hts (.fieldLink RX10 22 "FactKeeper$Table" "indexes" "[LFactKeeper$Index;") (by decide +kernel)) (fun _ h9 => h9) rfl B.hnm rfl (by decide +kernel) (fun r => by cases r <;> rfl) (fun r => by cases r <;> rfl) dX10_init_23 h (fun x8 h => ?_)
  refine k_aload_n o hb dX10_init_26 rfl 0 rfl ?_
  refine k_iconst (v := 3) o hb dX10_init_27 (by decide) ?_
  refine k_newJ (atype := .int) (ty := .int) (kd := 20) (t0 := 0) o hb (hts (.arrayClass .int) (by decide +kernel)) rfl (by decide) (by decide) rfl (fun _ _ => rfl) (by decide) dX10_init_28 h (fun q9 x10 h => ?_)
  refine k_putFF (C := RX10) (T := TX10) (N := 6) (ty := (tyX10 4)) o hb hts in10 tyX10 tyX10_ok nmX10 hown rfl (by decide) 4 (by decide) rfl (hts (.fieldLink RX10 26 "FactKeeper$Table" "keys" "[I") (by decide +kernel)) (fun _ h9 => h9) rfl B.hnm rfl (by decide +kernel) (fun r => by cases r <;> rfl) (fun r => by cases r <;> rfl) dX10_init_30 h (fun x11 h => ?_)
  refine k_aload_n o hb dX10_init_33 rfl 0 rfl ?_
  refine k_iload_n o hb dX10_init_34 rfl 1 rfl ?_
  refine k_putIF (C := RX10) (T := TX10) (N := 6) (ty := .int) o hb hts in10 tyX10 tyX10_ok nmX10 hown rfl (by decide) 0 (by decide) rfl (hts (.fieldLink RX10 30 "FactKeeper$Table" "number" "I") (by decide +kernel)) (fun _ h9 => h9) rfl B.hnm rfl (by decide +kernel) (fun _ => rfl) (fun _ => rfl) dX10_init_35 h (fun x12 h => ?_)
  refine k_aload_n o hb dX10_init_38 rfl 0 rfl ?_
  refine k_iload_n o hb dX10_init_39 rfl 2 rfl ?_
  refine k_putIF (C := RX10) (T := TX10) (N := 6) (ty := .int) o hb hts in10 tyX10 tyX10_ok nmX10 hown rfl (by decide) 1 (by decide) rfl (hts (.fieldLink RX10 34 "FactKeeper$Table" "columns" "I") (by decide +kernel)) (fun _ h9 => h9) rfl B.hnm rfl (by decide +kernel) (fun _ => rfl) (fun _ => rfl) dX10_init_40 h (fun x13 h => ?_)
  exact k_vret o hb B.hr fr dX10_init_43 h
theorem dX10_placeAfter_0 : decode cX10_placeAfter 0 = .ok (.aload_n 0, 1) := by decide +kernel
theorem dX10_placeAfter_1 : decode cX10_placeAfter 1 = .ok (.getfield 14, 3) := by decide +kernel
theorem dX10_placeAfter_4 : decode cX10_placeAfter 4 = .ok (.aload_n 1, 1) := by decide +kernel
theorem dX10_placeAfter_5 : decode cX10_placeAfter 5 = .ok (.aload_n 2, 1) := by decide +kernel
theorem dX10_placeAfter_6 : decode cX10_placeAfter 6 = .ok (.invokevirtual 82, 3) := by decide +kernel
theorem dX10_placeAfter_9 : decode cX10_placeAfter 9 = .ok (.iconst 0, 1) := by decide +kernel
theorem dX10_placeAfter_10 : decode cX10_placeAfter 10 = .ok (.istore_n 3, 1) := by decide +kernel
theorem dX10_placeAfter_11 : decode cX10_placeAfter 11 = .ok (.iload_n 3, 1) := by decide +kernel
theorem dX10_placeAfter_12 : decode cX10_placeAfter 12 = .ok (.aload_n 0, 1) := by decide +kernel
theorem dX10_placeAfter_13 : decode cX10_placeAfter 13 = .ok (.getfield 34, 3) := by decide +kernel
theorem dX10_placeAfter_16 : decode cX10_placeAfter 16 = .ok (.if_icmp .ge 33, 3) := by decide +kernel
theorem dX10_placeAfter_19 : decode cX10_placeAfter 19 = .ok (.aload_n 0, 1) := by decide +kernel
theorem dX10_placeAfter_20 : decode cX10_placeAfter 20 = .ok (.getfield 22, 3) := by decide +kernel
theorem dX10_placeAfter_23 : decode cX10_placeAfter 23 = .ok (.iload_n 3, 1) := by decide +kernel
theorem dX10_placeAfter_24 : decode cX10_placeAfter 24 = .ok (.aaload, 1) := by decide +kernel
theorem dX10_placeAfter_25 : decode cX10_placeAfter 25 = .ok (.ifnull 18, 3) := by decide +kernel
theorem dX10_placeAfter_28 : decode cX10_placeAfter 28 = .ok (.aload_n 0, 1) := by decide +kernel
theorem dX10_placeAfter_29 : decode cX10_placeAfter 29 = .ok (.getfield 22, 3) := by decide +kernel
theorem dX10_placeAfter_32 : decode cX10_placeAfter 32 = .ok (.iload_n 3, 1) := by decide +kernel
theorem dX10_placeAfter_33 : decode cX10_placeAfter 33 = .ok (.aaload, 1) := by decide +kernel
theorem dX10_placeAfter_34 : decode cX10_placeAfter 34 = .ok (.aload_n 1, 1) := by decide +kernel
theorem dX10_placeAfter_35 : decode cX10_placeAfter 35 = .ok (.invokevirtual 44, 3) := by decide +kernel
theorem dX10_placeAfter_38 : decode cX10_placeAfter 38 = .ok (.aload_n 1, 1) := by decide +kernel
theorem dX10_placeAfter_39 : decode cX10_placeAfter 39 = .ok (.aload_n 2, 1) := by decide +kernel
theorem dX10_placeAfter_40 : decode cX10_placeAfter 40 = .ok (.invokevirtual 82, 3) := by decide +kernel
theorem dX10_placeAfter_43 : decode cX10_placeAfter 43 = .ok (.iinc 3 1, 3) := by decide +kernel
theorem dX10_placeAfter_46 : decode cX10_placeAfter 46 = .ok (.goto (-35), 3) := by decide +kernel
theorem dX10_placeAfter_49 : decode cX10_placeAfter 49 = .ok (.return_, 1) := by decide +kernel
theorem i9wsX10_placeAfter_0 : ∀ w ∈ wsX10_placeAfter_r1, w ∈ wsX10_placeAfter := fun _ h => (List.mem_cons_of_mem _ (List.mem_append_left _ (List.mem_append_left _ (List.mem_append_left _ (List.mem_append_left _ (List.mem_append_left _ h))))))
theorem i9wsX10_placeAfter_3 : ∀ w ∈ wsX10, w ∈ wsX10_placeAfter := fun _ h => (List.mem_cons_of_mem _ (List.mem_append_left _ (List.mem_append_left _ (List.mem_append_right _ h))))
theorem i9wsX10_placeAfter_4 : ∀ w ∈ wsX00, w ∈ wsX10_placeAfter := fun _ h => (List.mem_cons_of_mem _ (List.mem_append_left _ (List.mem_append_right _ h)))
set_option maxRecDepth 20000 in
theorem ggX10_placeAfter_X0_putAfter : GoodIn wsX10_placeAfter wsX0_putAfter := (gin_c (mem_at i9wsX10_placeAfter_0 7 rfl) rfl (goodIn_app (goodIn_app (gin_c (mem_at i9wsX10_placeAfter_0 8 rfl) rfl (gin_c (mem_at i9wsX10_placeAfter_0 9 rfl) rfl (gin_c (mem_at i9wsX10_placeAfter_0 10 rfl) rfl gin_n))) (goodIn_sub i9wsX10_placeAfter_3 g9_0)) (goodIn_sub i9wsX10_placeAfter_4 g9_1)))
set_option maxRecDepth 20000 in
theorem gX10_placeAfter_X0_putAfter : GoodIn wsX10_placeAfter (wsV RX10 82 RX0 yX0_putAfter wsX0_putAfter) := goodIn_app (gin_c (mem_at i9wsX10_placeAfter_0 3 rfl) rfl (gin_c (mem_at i9wsX10_placeAfter_0 4 rfl) rfl (gin_c (mem_at i9wsX10_placeAfter_0 5 rfl) rfl (gin_c (mem_at i9wsX10_placeAfter_0 6 rfl) rfl gin_n)))) ggX10_placeAfter_X0_putAfter
theorem i9wsX10_placeAfter_1 : ∀ w ∈ wsX10_placeAfter_r2, w ∈ wsX10_placeAfter := fun _ h => (List.mem_cons_of_mem _ (List.mem_append_left _ (List.mem_append_left _ (List.mem_append_left _ (List.mem_append_left _ (List.mem_append_right _ h))))))
theorem i9wsX10_placeAfter_5 : ∀ w ∈ wsX40, w ∈ wsX10_placeAfter := fun _ h => (List.mem_cons_of_mem _ (List.mem_append_right _ h))
set_option maxRecDepth 20000 in
theorem ggX10_placeAfter_X4_chainFor : GoodIn wsX10_placeAfter wsX4_chainFor := (gin_c (mem_at i9wsX10_placeAfter_0 15 rfl) rfl (goodIn_app (goodIn_app (goodIn_app (gin_c (mem_at i9wsX10_placeAfter_0 16 rfl) rfl (gin_c (mem_at i9wsX10_placeAfter_0 17 rfl) rfl (gin_c (mem_at i9wsX10_placeAfter_0 18 rfl) rfl (gin_c (mem_at i9wsX10_placeAfter_0 19 rfl) rfl (gin_c (mem_at i9wsX10_placeAfter_0 6 rfl) rfl (gin_c (mem_at i9wsX10_placeAfter_0 20 rfl) rfl (gin_c (mem_at i9wsX10_placeAfter_0 21 rfl) rfl (gin_c (mem_at i9wsX10_placeAfter_0 22 rfl) rfl (gin_c (mem_at i9wsX10_placeAfter_0 23 rfl) rfl (gin_c (mem_at i9wsX10_placeAfter_0 14 rfl) rfl (gin_c (mem_at i9wsX10_placeAfter_1 0 rfl) rfl (gin_c (mem_at i9wsX10_placeAfter_1 1 rfl) rfl (gin_c (mem_at i9wsX10_placeAfter_1 2 rfl) rfl (gin_c (mem_at i9wsX10_placeAfter_1 3 rfl) rfl (gin_c (mem_at i9wsX10_placeAfter_1 4 rfl) rfl (gin_c (mem_at i9wsX10_placeAfter_1 5 rfl) rfl (gin_c (mem_at i9wsX10_placeAfter_1 6 rfl) rfl (gin_c (mem_at i9wsX10_placeAfter_1 7 rfl) rfl (gin_c (mem_at i9wsX10_placeAfter_1 8 rfl) rfl (gin_c (mem_at i9wsX10_placeAfter_0 9 rfl) rfl (gin_c (mem_at i9wsX10_placeAfter_1 9 rfl) rfl (gin_c (mem_at i9wsX10_placeAfter_1 10 rfl) rfl gin_n)))))))))))))))))))))) (goodIn_sub i9wsX10_placeAfter_3 g9_0)) (goodIn_sub i9wsX10_placeAfter_5 g9_2)) (goodIn_sub i9wsX10_placeAfter_4 g9_1)))
set_option maxRecDepth 20000 in
theorem gX10_placeAfter_X4_chainFor : GoodIn wsX10_placeAfter (wsV RX10 44 RX4 yX4_chainFor wsX4_chainFor) := goodIn_app (gin_c (mem_at i9wsX10_placeAfter_0 11 rfl) rfl (gin_c (mem_at i9wsX10_placeAfter_0 12 rfl) rfl (gin_c (mem_at i9wsX10_placeAfter_0 13 rfl) rfl (gin_c (mem_at i9wsX10_placeAfter_0 14 rfl) rfl gin_n)))) ggX10_placeAfter_X4_chainFor
set_option maxHeartbeats 4000000 in
set_option maxRecDepth 100000 in
theorem T_X10_placeAfter (l : Launch) (hl : l.stackTraces = false) (D : va_G) (cA : Nat → ClassId) {l0 : Option Nat} {l1 : Option Nat} {l2 : Option Nat} {x : HS} {Q : HS → Prop} {X : String → HS → Prop} (h : w_X10_placeAfter l0 l1 l2 x Q X) : YV l yX10_placeAfter wsX10_placeAfter 3 59 D cA [.q l0, .q l1, .q l2] x Q X := by
  refine YV.of (cc := cX10_placeAfter) (maxL := 4) (ret := none) hl (by decide) rfl rfl (fun g B fr => ?_)
  have o := B.o
  have hb := B.hb
  have hts := B.hts
  have hown : g.s.vm.findClass RX10 = some g.m.cls := B.hown
  have in10 : ∀ w ∈ u_ws RX10 TX10 6, w ∈ wsX10_placeAfter := fun w h => (List.mem_cons_of_mem _ (List.mem_append_left _ (List.mem_append_left _ (List.mem_append_left _ (List.mem_append_right _ h)))))
  unfold w_X10_placeAfter at h
  show KW g 4 0 [(0, .q l0), (1, .q l1), (2, .q l2)] [] x
  refine k_aload_n o hb dX10_placeAfter_0 rfl 0 rfl ?_
  refine k_getF (C := RX10) (T := TX10) (N := 6) o hb hts in10 hown rfl (by decide) 2 (by decide) rfl (hts (.fieldLink RX10 14 "FactKeeper$Table" "row" "LFactKeeper$Chain;") (by decide +kernel)) (fun _ h9 => h9) dX10_placeAfter_1 h (fun v1 h => ?_)
  refine k_aload_n o hb dX10_placeAfter_4 rfl 1 rfl ?_
  refine k_aload_n o hb dX10_placeAfter_5 rfl 2 rfl ?_
  refine k_run_v o (fun _ _ q => q) (k_runV (ci := 0) (rc := (RX0, TX0, 5)) o hb B.hml hown hts rfl (by decide) (T_X0_putAfter g.l o.hl g.D g.cA h.2) (cwV 2 hts gX10_placeAfter_X0_putAfter rfl rfl rfl (by decide +kernel) ⟨yle B.hR1 rfl, yle B.hR2 rfl⟩) h.1 rfl rfl (Nat.le_of_ble_eq_true rfl) dX10_placeAfter_6) (fun x2 h => ?_)
  refine k_iconst (v := 0) o hb dX10_placeAfter_9 (by decide) ?_
  refine k_istore_n o hb dX10_placeAfter_10 rfl rfl ?_
  refine KW.sub [1, 2, 3, 0] rfl ?_
  refine wLoop_elim (M := fun (v7 : Int32) (x6 : HS) => KW g 4 11 [(0, .q l0), (1, .q l1), (2, .q l2), (3, .i v7)] [] x6) h ?_
  intro v7 x6 again4 ih5 h
  refine k_iload_n o hb dX10_placeAfter_11 rfl 3 rfl ?_
  refine k_aload_n o hb dX10_placeAfter_12 rfl 0 rfl ?_
  refine k_getI (C := RX10) (T := TX10) (N := 6) o hb hts in10 hown rfl (by decide) 1 (by decide) rfl (hts (.fieldLink RX10 34 "FactKeeper$Table" "columns" "I") (by decide +kernel)) (fun _ h9 => h9) dX10_placeAfter_13 h (fun v8 h => ?_)
  refine k_icmp_ge (tgt := 49) o hb dX10_placeAfter_16 (by decide) h (fun h => ?_) (fun h => ?_)
  · skip
    exact k_vret o hb B.hr fr dX10_placeAfter_49 h
  · skip
    refine k_aload_n o hb dX10_placeAfter_19 rfl 0 rfl ?_
    refine k_getF (C := RX10) (T := TX10) (N := 6) o hb hts in10 hown rfl (by decide) 3 (by decide) rfl (hts (.fieldLink RX10 22 "FactKeeper$Table" "indexes" "[LFactKeeper$Index;") (by decide +kernel)) (fun _ h9 => h9) dX10_placeAfter_20 h (fun v9 h => ?_)
    refine k_iload_n o hb dX10_placeAfter_23 rfl 3 rfl ?_
    refine k_aald (kd := 28) (t0 := 7) o hb rfl (by decide) dX10_placeAfter_24 h (fun v10 h => ?_)
    refine wJoin_elim (M := fun K => ∀  (x12 : HS), K  x12 → KW g 4 43 [(0, .q l0), (1, .q l1), (2, .q l2), (3, .i v7)] [] x12) h ?_ (fun j11 hj11 h => ?_)
    · skip
      intro  x12 h
      refine k_iinc (w := 1) o hb dX10_placeAfter_43 3 rfl (by decide) rfl ?_
      refine k_goto (tgt := 11) o hb dX10_placeAfter_46 (by decide) ?_
      exact KW.sub [1, 2, 3, 0] rfl (ih5 (v7 + 1) x12 h)
    · skip
      refine k_ifnull (tgt := 43) o hb dX10_placeAfter_25 (by decide) h (fun h => ?_) (fun h => ?_)
      · skip
        exact KW.sub [0, 1, 2, 3] rfl (hj11 x6 h)
      · skip
        refine k_aload_n o hb dX10_placeAfter_28 rfl 0 rfl ?_
        refine k_getF (C := RX10) (T := TX10) (N := 6) o hb hts in10 hown rfl (by decide) 3 (by decide) rfl (hts (.fieldLink RX10 22 "FactKeeper$Table" "indexes" "[LFactKeeper$Index;") (by decide +kernel)) (fun _ h9 => h9) dX10_placeAfter_29 h (fun v13 h => ?_)
        refine k_iload_n o hb dX10_placeAfter_32 rfl 3 rfl ?_
        refine k_aald (kd := 28) (t0 := 7) o hb rfl (by decide) dX10_placeAfter_33 h (fun v14 h => ?_)
        refine k_aload_n o hb dX10_placeAfter_34 rfl 1 rfl ?_
        refine k_run_q o (fun _ _ q => q) (k_runV (ci := 4) (rc := (RX4, TX4, 2)) o hb B.hml hown hts rfl (by decide) (T_X4_chainFor g.l o.hl g.D g.cA h.2) (cwV 1 hts gX10_placeAfter_X4_chainFor rfl rfl rfl (by decide +kernel) ⟨yle B.hR1 rfl, yle B.hR2 rfl⟩) h.1 rfl rfl (Nat.le_of_ble_eq_true rfl) dX10_placeAfter_35) (fun v16 x15 h => ?_)
        refine k_aload_n o hb dX10_placeAfter_38 rfl 1 rfl ?_
        refine k_aload_n o hb dX10_placeAfter_39 rfl 2 rfl ?_
        refine k_run_v o (fun _ _ q => q) (k_runV (ci := 0) (rc := (RX0, TX0, 5)) o hb B.hml hown hts rfl (by decide) (T_X0_putAfter g.l o.hl g.D g.cA h.2) (cwV 2 hts gX10_placeAfter_X0_putAfter rfl rfl rfl (by decide +kernel) ⟨yle B.hR1 rfl, yle B.hR2 rfl⟩) h.1 rfl rfl (Nat.le_of_ble_eq_true rfl) dX10_placeAfter_40) (fun x17 h => ?_)
        exact KW.sub [0, 1, 2, 3] rfl (hj11 x17 h)
theorem dX10_placeIn_0 : decode cX10_placeIn 0 = .ok (.iload_n 2, 1) := by decide +kernel
theorem dX10_placeIn_1 : decode cX10_placeIn 1 = .ok (.ifCond .eq 11, 3) := by decide +kernel
theorem dX10_placeIn_4 : decode cX10_placeIn 4 = .ok (.aload_n 0, 1) := by decide +kernel
theorem dX10_placeIn_5 : decode cX10_placeIn 5 = .ok (.aload_n 1, 1) := by decide +kernel
theorem dX10_placeIn_6 : decode cX10_placeIn 6 = .ok (.invokevirtual 79, 3) := by decide +kernel
theorem dX10_placeIn_9 : decode cX10_placeIn 9 = .ok (.goto 8, 3) := by decide +kernel
theorem dX10_placeIn_12 : decode cX10_placeIn 12 = .ok (.aload_n 0, 1) := by decide +kernel
theorem dX10_placeIn_13 : decode cX10_placeIn 13 = .ok (.aload_n 1, 1) := by decide +kernel
theorem dX10_placeIn_14 : decode cX10_placeIn 14 = .ok (.invokevirtual 48, 3) := by decide +kernel
theorem dX10_placeIn_17 : decode cX10_placeIn 17 = .ok (.return_, 1) := by decide +kernel
theorem i9wsX10_placeIn_0 : ∀ w ∈ ([.methodLink RX10 79 yX0_putAhead, .instanceMethod yX0_putAhead, .selects RX0 yX0_putAhead yX0_putAhead, .initialized RX0, .code yX0_putAhead cX0_putAhead 2 none, .fieldLink RX0 20 "FactKeeper$Fact" "behind" "[LFactKeeper$Fact;", .fieldLink RX0 7 "FactKeeper$Chain" "lane" "I", .fieldLink RX0 26 "FactKeeper$Chain" "first" "LFactKeeper$Fact;", .fieldLink RX0 30 "FactKeeper$Chain" "last" "LFactKeeper$Fact;", .methodLink RX10 48 yX0_putBehind, .instanceMethod yX0_putBehind, .selects RX0 yX0_putBehind yX0_putBehind, .code yX0_putBehind cX0_putBehind 2 none, .methodLink RX0 33 yX0_putAhead, .methodLink RX0 37 yX0_putAfter, .instanceMethod yX0_putAfter, .selects RX0 yX0_putAfter yX0_putAfter, .code yX0_putAfter cX0_putAfter 3 none] : List Cond), w ∈ wsX10_placeIn := fun _ h => (List.mem_cons_of_mem _ (List.mem_append_left _ (List.mem_append_left _ h)))
theorem i9wsX10_placeIn_1 : ∀ w ∈ wsX10, w ∈ wsX10_placeIn := fun _ h => (List.mem_cons_of_mem _ (List.mem_append_left _ (List.mem_append_right _ h)))
theorem i9wsX10_placeIn_2 : ∀ w ∈ wsX00, w ∈ wsX10_placeIn := fun _ h => (List.mem_cons_of_mem _ (List.mem_append_right _ h))
set_option maxRecDepth 20000 in
theorem ggX10_placeIn_X0_putAhead : GoodIn wsX10_placeIn wsX0_putAhead := (gin_c (mem_at i9wsX10_placeIn_0 4 rfl) rfl (goodIn_app (goodIn_app (gin_c (mem_at i9wsX10_placeIn_0 5 rfl) rfl (gin_c (mem_at i9wsX10_placeIn_0 6 rfl) rfl (gin_c (mem_at i9wsX10_placeIn_0 7 rfl) rfl (gin_c (mem_at i9wsX10_placeIn_0 8 rfl) rfl gin_n)))) (goodIn_sub i9wsX10_placeIn_1 g9_0)) (goodIn_sub i9wsX10_placeIn_2 g9_1)))
set_option maxRecDepth 20000 in
theorem gX10_placeIn_X0_putAhead : GoodIn wsX10_placeIn (wsV RX10 79 RX0 yX0_putAhead wsX0_putAhead) := goodIn_app (gin_c (mem_at i9wsX10_placeIn_0 0 rfl) rfl (gin_c (mem_at i9wsX10_placeIn_0 1 rfl) rfl (gin_c (mem_at i9wsX10_placeIn_0 2 rfl) rfl (gin_c (mem_at i9wsX10_placeIn_0 3 rfl) rfl gin_n)))) ggX10_placeIn_X0_putAhead
set_option maxRecDepth 20000 in
theorem ggX10_placeIn_X0_putBehind : GoodIn wsX10_placeIn wsX0_putBehind := (gin_c (mem_at i9wsX10_placeIn_0 12 rfl) rfl (goodIn_app (goodIn_app (gin_c (mem_at i9wsX10_placeIn_0 8 rfl) rfl (gin_c (mem_at i9wsX10_placeIn_0 13 rfl) rfl (gin_c (mem_at i9wsX10_placeIn_0 1 rfl) rfl (gin_c (mem_at i9wsX10_placeIn_0 2 rfl) rfl (gin_c (mem_at i9wsX10_placeIn_0 3 rfl) rfl (gin_c (mem_at i9wsX10_placeIn_0 4 rfl) rfl (gin_c (mem_at i9wsX10_placeIn_0 5 rfl) rfl (gin_c (mem_at i9wsX10_placeIn_0 6 rfl) rfl (gin_c (mem_at i9wsX10_placeIn_0 7 rfl) rfl (gin_c (mem_at i9wsX10_placeIn_0 14 rfl) rfl (gin_c (mem_at i9wsX10_placeIn_0 15 rfl) rfl (gin_c (mem_at i9wsX10_placeIn_0 16 rfl) rfl (gin_c (mem_at i9wsX10_placeIn_0 17 rfl) rfl gin_n))))))))))))) (goodIn_sub i9wsX10_placeIn_2 g9_1)) (goodIn_sub i9wsX10_placeIn_1 g9_0)))
set_option maxRecDepth 20000 in
theorem gX10_placeIn_X0_putBehind : GoodIn wsX10_placeIn (wsV RX10 48 RX0 yX0_putBehind wsX0_putBehind) := goodIn_app (gin_c (mem_at i9wsX10_placeIn_0 9 rfl) rfl (gin_c (mem_at i9wsX10_placeIn_0 10 rfl) rfl (gin_c (mem_at i9wsX10_placeIn_0 11 rfl) rfl (gin_c (mem_at i9wsX10_placeIn_0 3 rfl) rfl gin_n)))) ggX10_placeIn_X0_putBehind
set_option maxHeartbeats 4000000 in
set_option maxRecDepth 100000 in
theorem T_X10_placeIn (l : Launch) (hl : l.stackTraces = false) (D : va_G) (cA : Nat → ClassId) {l0 : Option Nat} {l1 : Option Nat} {l2 : Int32} {x : HS} {Q : HS → Prop} {X : String → HS → Prop} (h : w_X10_placeIn l0 l1 l2 x Q X) : YV l yX10_placeIn wsX10_placeIn 2 43 D cA [.q l0, .q l1, .i l2] x Q X := by
  refine YV.of (cc := cX10_placeIn) (maxL := 3) (ret := none) hl (by decide) rfl rfl (fun g B fr => ?_)
  have o := B.o
  have hb := B.hb
  have hts := B.hts
  have hown : g.s.vm.findClass RX10 = some g.m.cls := B.hown
  unfold w_X10_placeIn at h
  show KW g 3 0 [(0, .q l0), (1, .q l1), (2, .i l2)] [] x
  refine k_iload_n o hb dX10_placeIn_0 rfl 2 rfl ?_
  refine wJoin_elim (M := fun K => ∀  (x2 : HS), K  x2 → KW g 3 17 [] [] x2) h ?_ (fun j1 hj1 h => ?_)
  · skip
    intro  x2 h
    exact k_vret o hb B.hr fr dX10_placeIn_17 h
  · skip
    refine k_if_eq (tgt := 12) o hb dX10_placeIn_1 (by decide) h (fun h => ?_) (fun h => ?_)
    · skip
      refine k_aload_n o hb dX10_placeIn_12 rfl 0 rfl ?_
      refine k_aload_n o hb dX10_placeIn_13 rfl 1 rfl ?_
      refine k_run_v o (fun _ _ q => q) (k_runV (ci := 0) (rc := (RX0, TX0, 5)) o hb B.hml hown hts rfl (by decide) (T_X0_putBehind g.l o.hl g.D g.cA h.2) (cwV 1 hts gX10_placeIn_X0_putBehind rfl rfl rfl (by decide +kernel) ⟨yle B.hR1 rfl, yle B.hR2 rfl⟩) h.1 rfl rfl (Nat.le_of_ble_eq_true rfl) dX10_placeIn_14) (fun x3 h => ?_)
      exact KW.sub [] rfl (hj1 x3 h)
    · skip
      refine k_aload_n o hb dX10_placeIn_4 rfl 0 rfl ?_
      refine k_aload_n o hb dX10_placeIn_5 rfl 1 rfl ?_
      refine k_run_v o (fun _ _ q => q) (k_runV (ci := 0) (rc := (RX0, TX0, 5)) o hb B.hml hown hts rfl (by decide) (T_X0_putAhead g.l o.hl g.D g.cA h.2) (cwV 1 hts gX10_placeIn_X0_putAhead rfl rfl rfl (by decide +kernel) ⟨yle B.hR1 rfl, yle B.hR2 rfl⟩) h.1 rfl rfl (Nat.le_of_ble_eq_true rfl) dX10_placeIn_6) (fun x5 h => ?_)
      refine k_goto (tgt := 17) o hb dX10_placeIn_9 (by decide) ?_
      exact KW.sub [] rfl (hj1 x5 h)
theorem dX10_place_0 : decode cX10_place 0 = .ok (.aload_n 0, 1) := by decide +kernel
theorem dX10_place_1 : decode cX10_place 1 = .ok (.getfield 14, 3) := by decide +kernel
theorem dX10_place_4 : decode cX10_place 4 = .ok (.aload_n 1, 1) := by decide +kernel
theorem dX10_place_5 : decode cX10_place 5 = .ok (.iload_n 2, 1) := by decide +kernel
theorem dX10_place_6 : decode cX10_place 6 = .ok (.invokestatic 75, 3) := by decide +kernel
theorem dX10_place_9 : decode cX10_place 9 = .ok (.iconst 0, 1) := by decide +kernel
theorem dX10_place_10 : decode cX10_place 10 = .ok (.istore_n 3, 1) := by decide +kernel
theorem dX10_place_11 : decode cX10_place 11 = .ok (.iload_n 3, 1) := by decide +kernel
theorem dX10_place_12 : decode cX10_place 12 = .ok (.aload_n 0, 1) := by decide +kernel
theorem dX10_place_13 : decode cX10_place 13 = .ok (.getfield 34, 3) := by decide +kernel
theorem dX10_place_16 : decode cX10_place 16 = .ok (.if_icmp .ge 33, 3) := by decide +kernel
theorem dX10_place_19 : decode cX10_place 19 = .ok (.aload_n 0, 1) := by decide +kernel
theorem dX10_place_20 : decode cX10_place 20 = .ok (.getfield 22, 3) := by decide +kernel
theorem dX10_place_23 : decode cX10_place 23 = .ok (.iload_n 3, 1) := by decide +kernel
theorem dX10_place_24 : decode cX10_place 24 = .ok (.aaload, 1) := by decide +kernel
theorem dX10_place_25 : decode cX10_place 25 = .ok (.ifnull 18, 3) := by decide +kernel
theorem dX10_place_28 : decode cX10_place 28 = .ok (.aload_n 0, 1) := by decide +kernel
theorem dX10_place_29 : decode cX10_place 29 = .ok (.getfield 22, 3) := by decide +kernel
theorem dX10_place_32 : decode cX10_place 32 = .ok (.iload_n 3, 1) := by decide +kernel
theorem dX10_place_33 : decode cX10_place 33 = .ok (.aaload, 1) := by decide +kernel
theorem dX10_place_34 : decode cX10_place 34 = .ok (.aload_n 1, 1) := by decide +kernel
theorem dX10_place_35 : decode cX10_place 35 = .ok (.invokevirtual 44, 3) := by decide +kernel
theorem dX10_place_38 : decode cX10_place 38 = .ok (.aload_n 1, 1) := by decide +kernel
theorem dX10_place_39 : decode cX10_place 39 = .ok (.iload_n 2, 1) := by decide +kernel
theorem dX10_place_40 : decode cX10_place 40 = .ok (.invokestatic 75, 3) := by decide +kernel
theorem dX10_place_43 : decode cX10_place 43 = .ok (.iinc 3 1, 3) := by decide +kernel
theorem dX10_place_46 : decode cX10_place 46 = .ok (.goto (-35), 3) := by decide +kernel
theorem dX10_place_49 : decode cX10_place 49 = .ok (.return_, 1) := by decide +kernel
theorem i9wsX10_place_0 : ∀ w ∈ wsX10_place_r1, w ∈ wsX10_place := fun _ h => (List.mem_cons_of_mem _ (List.mem_append_left _ (List.mem_append_left _ (List.mem_append_left _ (List.mem_append_left _ (List.mem_append_left _ h))))))
theorem i9wsX10_place_1 : ∀ w ∈ wsX10_place_r2, w ∈ wsX10_place := fun _ h => (List.mem_cons_of_mem _ (List.mem_append_left _ (List.mem_append_left _ (List.mem_append_left _ (List.mem_append_left _ (List.mem_append_right _ (List.mem_append_left _ h)))))))
theorem i9wsX10_place_4 : ∀ w ∈ wsX10, w ∈ wsX10_place := fun _ h => (List.mem_cons_of_mem _ (List.mem_append_left _ (List.mem_append_left _ (List.mem_append_right _ h))))
theorem i9wsX10_place_5 : ∀ w ∈ wsX00, w ∈ wsX10_place := fun _ h => (List.mem_cons_of_mem _ (List.mem_append_left _ (List.mem_append_right _ h)))
set_option maxRecDepth 20000 in
theorem ggX10_place_X10_placeIn : GoodIn wsX10_place wsX10_placeIn := (gin_c (mem_at i9wsX10_place_0 6 rfl) rfl (goodIn_app (goodIn_app (gin_c (mem_at i9wsX10_place_0 7 rfl) rfl (gin_c (mem_at i9wsX10_place_0 8 rfl) rfl (gin_c (mem_at i9wsX10_place_0 9 rfl) rfl (gin_c (mem_at i9wsX10_place_0 10 rfl) rfl (gin_c (mem_at i9wsX10_place_0 11 rfl) rfl (gin_c (mem_at i9wsX10_place_0 12 rfl) rfl (gin_c (mem_at i9wsX10_place_0 13 rfl) rfl (gin_c (mem_at i9wsX10_place_0 14 rfl) rfl (gin_c (mem_at i9wsX10_place_0 15 rfl) rfl (gin_c (mem_at i9wsX10_place_0 16 rfl) rfl (gin_c (mem_at i9wsX10_place_0 17 rfl) rfl (gin_c (mem_at i9wsX10_place_0 18 rfl) rfl (gin_c (mem_at i9wsX10_place_0 19 rfl) rfl (gin_c (mem_at i9wsX10_place_0 20 rfl) rfl (gin_c (mem_at i9wsX10_place_0 21 rfl) rfl (gin_c (mem_at i9wsX10_place_0 22 rfl) rfl (gin_c (mem_at i9wsX10_place_0 23 rfl) rfl (gin_c (mem_at i9wsX10_place_1 0 rfl) rfl gin_n)))))))))))))))))) (goodIn_sub i9wsX10_place_4 g9_0)) (goodIn_sub i9wsX10_place_5 g9_1)))
set_option maxRecDepth 20000 in
theorem gX10_place_X10_placeIn : GoodIn wsX10_place (va_wsS RX10 75 yX10_placeIn wsX10_placeIn) := goodIn_app (gin_c (mem_at i9wsX10_place_0 3 rfl) rfl (gin_c (mem_at i9wsX10_place_0 4 rfl) rfl (gin_c (mem_at i9wsX10_place_0 5 rfl) rfl gin_n))) ggX10_place_X10_placeIn
theorem i9wsX10_place_2 : ∀ w ∈ wsX10_place_r3, w ∈ wsX10_place := fun _ h => (List.mem_cons_of_mem _ (List.mem_append_left _ (List.mem_append_left _ (List.mem_append_left _ (List.mem_append_left _ (List.mem_append_right _ (List.mem_append_right _ h)))))))
theorem i9wsX10_place_6 : ∀ w ∈ wsX40, w ∈ wsX10_place := fun _ h => (List.mem_cons_of_mem _ (List.mem_append_right _ h))
set_option maxRecDepth 20000 in
theorem ggX10_place_X4_chainFor : GoodIn wsX10_place wsX4_chainFor := (gin_c (mem_at i9wsX10_place_1 5 rfl) rfl (goodIn_app (goodIn_app (goodIn_app (gin_c (mem_at i9wsX10_place_1 6 rfl) rfl (gin_c (mem_at i9wsX10_place_1 7 rfl) rfl (gin_c (mem_at i9wsX10_place_1 8 rfl) rfl (gin_c (mem_at i9wsX10_place_1 9 rfl) rfl (gin_c (mem_at i9wsX10_place_0 10 rfl) rfl (gin_c (mem_at i9wsX10_place_1 10 rfl) rfl (gin_c (mem_at i9wsX10_place_1 11 rfl) rfl (gin_c (mem_at i9wsX10_place_1 12 rfl) rfl (gin_c (mem_at i9wsX10_place_1 13 rfl) rfl (gin_c (mem_at i9wsX10_place_1 4 rfl) rfl (gin_c (mem_at i9wsX10_place_1 14 rfl) rfl (gin_c (mem_at i9wsX10_place_1 15 rfl) rfl (gin_c (mem_at i9wsX10_place_1 16 rfl) rfl (gin_c (mem_at i9wsX10_place_1 17 rfl) rfl (gin_c (mem_at i9wsX10_place_1 18 rfl) rfl (gin_c (mem_at i9wsX10_place_1 19 rfl) rfl (gin_c (mem_at i9wsX10_place_1 20 rfl) rfl (gin_c (mem_at i9wsX10_place_1 21 rfl) rfl (gin_c (mem_at i9wsX10_place_1 22 rfl) rfl (gin_c (mem_at i9wsX10_place_0 13 rfl) rfl (gin_c (mem_at i9wsX10_place_1 23 rfl) rfl (gin_c (mem_at i9wsX10_place_2 0 rfl) rfl gin_n)))))))))))))))))))))) (goodIn_sub i9wsX10_place_4 g9_0)) (goodIn_sub i9wsX10_place_6 g9_2)) (goodIn_sub i9wsX10_place_5 g9_1)))
set_option maxRecDepth 20000 in
theorem gX10_place_X4_chainFor : GoodIn wsX10_place (wsV RX10 44 RX4 yX4_chainFor wsX4_chainFor) := goodIn_app (gin_c (mem_at i9wsX10_place_1 1 rfl) rfl (gin_c (mem_at i9wsX10_place_1 2 rfl) rfl (gin_c (mem_at i9wsX10_place_1 3 rfl) rfl (gin_c (mem_at i9wsX10_place_1 4 rfl) rfl gin_n)))) ggX10_place_X4_chainFor
set_option maxHeartbeats 4000000 in
set_option maxRecDepth 100000 in
theorem T_X10_place (l : Launch) (hl : l.stackTraces = false) (D : va_G) (cA : Nat → ClassId) {l0 : Option Nat} {l1 : Option Nat} {l2 : Int32} {x : HS} {Q : HS → Prop} {X : String → HS → Prop} (h : w_X10_place l0 l1 l2 x Q X) : YV l yX10_place wsX10_place 3 65 D cA [.q l0, .q l1, .i l2] x Q X := by
  refine YV.of (cc := cX10_place) (maxL := 4) (ret := none) hl (by decide) rfl rfl (fun g B fr => ?_)
  have o := B.o
  have hb := B.hb
  have hts := B.hts
  have hown : g.s.vm.findClass RX10 = some g.m.cls := B.hown
  have in10 : ∀ w ∈ u_ws RX10 TX10 6, w ∈ wsX10_place := fun w h => (List.mem_cons_of_mem _ (List.mem_append_left _ (List.mem_append_left _ (List.mem_append_left _ (List.mem_append_right _ h)))))
  unfold w_X10_place at h
  show KW g 4 0 [(0, .q l0), (1, .q l1), (2, .i l2)] [] x
  refine k_aload_n o hb dX10_place_0 rfl 0 rfl ?_
  refine k_getF (C := RX10) (T := TX10) (N := 6) o hb hts in10 hown rfl (by decide) 2 (by decide) rfl (hts (.fieldLink RX10 14 "FactKeeper$Table" "row" "LFactKeeper$Chain;") (by decide +kernel)) (fun _ h9 => h9) dX10_place_1 h (fun v1 h => ?_)
  refine k_aload_n o hb dX10_place_4 rfl 1 rfl ?_
  refine k_iload_n o hb dX10_place_5 rfl 2 rfl ?_
  refine k_run_v o (fun _ _ q => q) (k_runS o hb B.hml hown hts (T_X10_placeIn g.l o.hl g.D g.cA h) (va_cwS 3 hts gX10_place_X10_placeIn rfl rfl rfl (by decide +kernel) ⟨yle B.hR1 rfl, yle B.hR2 rfl⟩) rfl rfl (Nat.le_of_ble_eq_true rfl) dX10_place_6) (fun x2 h => ?_)
  refine k_iconst (v := 0) o hb dX10_place_9 (by decide) ?_
  refine k_istore_n o hb dX10_place_10 rfl rfl ?_
  refine KW.sub [1, 2, 3, 0] rfl ?_
  refine wLoop_elim (M := fun (v7 : Int32) (x6 : HS) => KW g 4 11 [(0, .q l0), (1, .q l1), (2, .i l2), (3, .i v7)] [] x6) h ?_
  intro v7 x6 again4 ih5 h
  refine k_iload_n o hb dX10_place_11 rfl 3 rfl ?_
  refine k_aload_n o hb dX10_place_12 rfl 0 rfl ?_
  refine k_getI (C := RX10) (T := TX10) (N := 6) o hb hts in10 hown rfl (by decide) 1 (by decide) rfl (hts (.fieldLink RX10 34 "FactKeeper$Table" "columns" "I") (by decide +kernel)) (fun _ h9 => h9) dX10_place_13 h (fun v8 h => ?_)
  refine k_icmp_ge (tgt := 49) o hb dX10_place_16 (by decide) h (fun h => ?_) (fun h => ?_)
  · skip
    exact k_vret o hb B.hr fr dX10_place_49 h
  · skip
    refine k_aload_n o hb dX10_place_19 rfl 0 rfl ?_
    refine k_getF (C := RX10) (T := TX10) (N := 6) o hb hts in10 hown rfl (by decide) 3 (by decide) rfl (hts (.fieldLink RX10 22 "FactKeeper$Table" "indexes" "[LFactKeeper$Index;") (by decide +kernel)) (fun _ h9 => h9) dX10_place_20 h (fun v9 h => ?_)
    refine k_iload_n o hb dX10_place_23 rfl 3 rfl ?_
    refine k_aald (kd := 28) (t0 := 7) o hb rfl (by decide) dX10_place_24 h (fun v10 h => ?_)
    refine wJoin_elim (M := fun K => ∀  (x12 : HS), K  x12 → KW g 4 43 [(0, .q l0), (1, .q l1), (2, .i l2), (3, .i v7)] [] x12) h ?_ (fun j11 hj11 h => ?_)
    · skip
      intro  x12 h
      refine k_iinc (w := 1) o hb dX10_place_43 3 rfl (by decide) rfl ?_
      refine k_goto (tgt := 11) o hb dX10_place_46 (by decide) ?_
      exact KW.sub [1, 2, 3, 0] rfl (ih5 (v7 + 1) x12 h)
    · skip
      refine k_ifnull (tgt := 43) o hb dX10_place_25 (by decide) h (fun h => ?_) (fun h => ?_)
      · skip
        exact KW.sub [0, 1, 2, 3] rfl (hj11 x6 h)
      · skip
        refine k_aload_n o hb dX10_place_28 rfl 0 rfl ?_
        refine k_getF (C := RX10) (T := TX10) (N := 6) o hb hts in10 hown rfl (by decide) 3 (by decide) rfl (hts (.fieldLink RX10 22 "FactKeeper$Table" "indexes" "[LFactKeeper$Index;") (by decide +kernel)) (fun _ h9 => h9) dX10_place_29 h (fun v13 h => ?_)
        refine k_iload_n o hb dX10_place_32 rfl 3 rfl ?_
        refine k_aald (kd := 28) (t0 := 7) o hb rfl (by decide) dX10_place_33 h (fun v14 h => ?_)
        refine k_aload_n o hb dX10_place_34 rfl 1 rfl ?_
        refine k_run_q o (fun _ _ q => q) (k_runV (ci := 4) (rc := (RX4, TX4, 2)) o hb B.hml hown hts rfl (by decide) (T_X4_chainFor g.l o.hl g.D g.cA h.2) (cwV 1 hts gX10_place_X4_chainFor rfl rfl rfl (by decide +kernel) ⟨yle B.hR1 rfl, yle B.hR2 rfl⟩) h.1 rfl rfl (Nat.le_of_ble_eq_true rfl) dX10_place_35) (fun v16 x15 h => ?_)
        refine k_aload_n o hb dX10_place_38 rfl 1 rfl ?_
        refine k_iload_n o hb dX10_place_39 rfl 2 rfl ?_
        refine k_run_v o (fun _ _ q => q) (k_runS o hb B.hml hown hts (T_X10_placeIn g.l o.hl g.D g.cA h) (va_cwS 3 hts gX10_place_X10_placeIn rfl rfl rfl (by decide +kernel) ⟨yle B.hR1 rfl, yle B.hR2 rfl⟩) rfl rfl (Nat.le_of_ble_eq_true rfl) dX10_place_40) (fun x17 h => ?_)
        exact KW.sub [0, 1, 2, 3] rfl (hj11 x17 h)
theorem dX10_dropDeadBy_0 : decode cX10_dropDeadBy 0 = .ok (.aload_n 0, 1) := by decide +kernel
theorem dX10_dropDeadBy_1 : decode cX10_dropDeadBy 1 = .ok (.getfield 14, 3) := by decide +kernel
theorem dX10_dropDeadBy_4 : decode cX10_dropDeadBy 4 = .ok (.getfield 40, 3) := by decide +kernel
theorem dX10_dropDeadBy_7 : decode cX10_dropDeadBy 7 = .ok (.astore_n 2, 1) := by decide +kernel
theorem dX10_dropDeadBy_8 : decode cX10_dropDeadBy 8 = .ok (.aload_n 0, 1) := by decide +kernel
theorem dX10_dropDeadBy_9 : decode cX10_dropDeadBy 9 = .ok (.getfield 14, 3) := by decide +kernel
theorem dX10_dropDeadBy_12 : decode cX10_dropDeadBy 12 = .ok (.invokevirtual 86, 3) := by decide +kernel
theorem dX10_dropDeadBy_15 : decode cX10_dropDeadBy 15 = .ok (.iconst 0, 1) := by decide +kernel
theorem dX10_dropDeadBy_16 : decode cX10_dropDeadBy 16 = .ok (.istore_n 3, 1) := by decide +kernel
theorem dX10_dropDeadBy_17 : decode cX10_dropDeadBy 17 = .ok (.iload_n 3, 1) := by decide +kernel
theorem dX10_dropDeadBy_18 : decode cX10_dropDeadBy 18 = .ok (.aload_n 0, 1) := by decide +kernel
theorem dX10_dropDeadBy_19 : decode cX10_dropDeadBy 19 = .ok (.getfield 34, 3) := by decide +kernel
theorem dX10_dropDeadBy_22 : decode cX10_dropDeadBy 22 = .ok (.if_icmp .ge 27, 3) := by decide +kernel
theorem dX10_dropDeadBy_25 : decode cX10_dropDeadBy 25 = .ok (.aload_n 0, 1) := by decide +kernel
theorem dX10_dropDeadBy_26 : decode cX10_dropDeadBy 26 = .ok (.getfield 22, 3) := by decide +kernel
theorem dX10_dropDeadBy_29 : decode cX10_dropDeadBy 29 = .ok (.iload_n 3, 1) := by decide +kernel
theorem dX10_dropDeadBy_30 : decode cX10_dropDeadBy 30 = .ok (.aaload, 1) := by decide +kernel
theorem dX10_dropDeadBy_31 : decode cX10_dropDeadBy 31 = .ok (.ifnull 12, 3) := by decide +kernel
theorem dX10_dropDeadBy_34 : decode cX10_dropDeadBy 34 = .ok (.aload_n 0, 1) := by decide +kernel
theorem dX10_dropDeadBy_35 : decode cX10_dropDeadBy 35 = .ok (.getfield 22, 3) := by decide +kernel
theorem dX10_dropDeadBy_38 : decode cX10_dropDeadBy 38 = .ok (.iload_n 3, 1) := by decide +kernel
theorem dX10_dropDeadBy_39 : decode cX10_dropDeadBy 39 = .ok (.aaload, 1) := by decide +kernel
theorem dX10_dropDeadBy_40 : decode cX10_dropDeadBy 40 = .ok (.invokevirtual 89, 3) := by decide +kernel
theorem dX10_dropDeadBy_43 : decode cX10_dropDeadBy 43 = .ok (.iinc 3 1, 3) := by decide +kernel
theorem dX10_dropDeadBy_46 : decode cX10_dropDeadBy 46 = .ok (.goto (-29), 3) := by decide +kernel
theorem dX10_dropDeadBy_49 : decode cX10_dropDeadBy 49 = .ok (.aload_n 2, 1) := by decide +kernel
theorem dX10_dropDeadBy_50 : decode cX10_dropDeadBy 50 = .ok (.ifnull 36, 3) := by decide +kernel
theorem dX10_dropDeadBy_53 : decode cX10_dropDeadBy 53 = .ok (.aload_n 2, 1) := by decide +kernel
theorem dX10_dropDeadBy_54 : decode cX10_dropDeadBy 54 = .ok (.getfield 52, 3) := by decide +kernel
theorem dX10_dropDeadBy_57 : decode cX10_dropDeadBy 57 = .ok (.iconst 4, 1) := by decide +kernel
theorem dX10_dropDeadBy_58 : decode cX10_dropDeadBy 58 = .ok (.aaload, 1) := by decide +kernel
theorem dX10_dropDeadBy_59 : decode cX10_dropDeadBy 59 = .ok (.astore_n 3, 1) := by decide +kernel
theorem dX10_dropDeadBy_60 : decode cX10_dropDeadBy 60 = .ok (.aload_n 2, 1) := by decide +kernel
theorem dX10_dropDeadBy_61 : decode cX10_dropDeadBy 61 = .ok (.invokevirtual 61, 3) := by decide +kernel
theorem dX10_dropDeadBy_64 : decode cX10_dropDeadBy 64 = .ok (.ifCond .ne 11, 3) := by decide +kernel
theorem dX10_dropDeadBy_67 : decode cX10_dropDeadBy 67 = .ok (.aload_n 2, 1) := by decide +kernel
theorem dX10_dropDeadBy_68 : decode cX10_dropDeadBy 68 = .ok (.getfield 90, 3) := by decide +kernel
theorem dX10_dropDeadBy_71 : decode cX10_dropDeadBy 71 = .ok (.iload_n 1, 1) := by decide +kernel
theorem dX10_dropDeadBy_72 : decode cX10_dropDeadBy 72 = .ok (.if_icmp .le 9, 3) := by decide +kernel
theorem dX10_dropDeadBy_75 : decode cX10_dropDeadBy 75 = .ok (.aload_n 0, 1) := by decide +kernel
theorem dX10_dropDeadBy_76 : decode cX10_dropDeadBy 76 = .ok (.aload_n 2, 1) := by decide +kernel
theorem dX10_dropDeadBy_77 : decode cX10_dropDeadBy 77 = .ok (.iconst 0, 1) := by decide +kernel
theorem dX10_dropDeadBy_78 : decode cX10_dropDeadBy 78 = .ok (.invokevirtual 93, 3) := by decide +kernel
theorem dX10_dropDeadBy_81 : decode cX10_dropDeadBy 81 = .ok (.aload_n 3, 1) := by decide +kernel
theorem dX10_dropDeadBy_82 : decode cX10_dropDeadBy 82 = .ok (.astore_n 2, 1) := by decide +kernel
theorem dX10_dropDeadBy_83 : decode cX10_dropDeadBy 83 = .ok (.goto (-34), 3) := by decide +kernel
theorem dX10_dropDeadBy_86 : decode cX10_dropDeadBy 86 = .ok (.return_, 1) := by decide +kernel
theorem i9wsX10_dropDeadBy_0 : ∀ w ∈ wsX10_dropDeadBy_r1, w ∈ wsX10_dropDeadBy := fun _ h => (List.mem_cons_of_mem _ (List.mem_append_left _ (List.mem_append_left _ (List.mem_append_left _ (List.mem_append_left _ (List.mem_append_left _ h))))))
theorem i9wsX10_dropDeadBy_4 : ∀ w ∈ wsX00, w ∈ wsX10_dropDeadBy := fun _ h => (List.mem_cons_of_mem _ (List.mem_append_left _ (List.mem_append_left _ (List.mem_append_right _ h))))
set_option maxRecDepth 20000 in
theorem ggX10_dropDeadBy_X0_empty : GoodIn wsX10_dropDeadBy wsX0_empty := (gin_c (mem_at i9wsX10_dropDeadBy_0 10 rfl) rfl (goodIn_app (gin_c (mem_at i9wsX10_dropDeadBy_0 11 rfl) rfl (gin_c (mem_at i9wsX10_dropDeadBy_0 12 rfl) rfl gin_n)) (goodIn_sub i9wsX10_dropDeadBy_4 g9_1)))
set_option maxRecDepth 20000 in
theorem gX10_dropDeadBy_X0_empty : GoodIn wsX10_dropDeadBy (wsV RX10 86 RX0 yX0_empty wsX0_empty) := goodIn_app (gin_c (mem_at i9wsX10_dropDeadBy_0 6 rfl) rfl (gin_c (mem_at i9wsX10_dropDeadBy_0 7 rfl) rfl (gin_c (mem_at i9wsX10_dropDeadBy_0 8 rfl) rfl (gin_c (mem_at i9wsX10_dropDeadBy_0 9 rfl) rfl gin_n)))) ggX10_dropDeadBy_X0_empty
theorem i9wsX10_dropDeadBy_6 : ∀ w ∈ wsX40, w ∈ wsX10_dropDeadBy := fun _ h => (List.mem_cons_of_mem _ (List.mem_append_right _ h))
set_option maxRecDepth 20000 in
theorem ggX10_dropDeadBy_X4_empty : GoodIn wsX10_dropDeadBy wsX4_empty := (gin_c (mem_at i9wsX10_dropDeadBy_0 17 rfl) rfl (goodIn_app (goodIn_app (gin_c (mem_at i9wsX10_dropDeadBy_0 18 rfl) rfl (gin_c (mem_at i9wsX10_dropDeadBy_0 19 rfl) rfl (gin_c (mem_at i9wsX10_dropDeadBy_0 20 rfl) rfl (gin_c (mem_at i9wsX10_dropDeadBy_0 7 rfl) rfl (gin_c (mem_at i9wsX10_dropDeadBy_0 8 rfl) rfl (gin_c (mem_at i9wsX10_dropDeadBy_0 9 rfl) rfl (gin_c (mem_at i9wsX10_dropDeadBy_0 10 rfl) rfl (gin_c (mem_at i9wsX10_dropDeadBy_0 11 rfl) rfl (gin_c (mem_at i9wsX10_dropDeadBy_0 12 rfl) rfl gin_n))))))))) (goodIn_sub i9wsX10_dropDeadBy_6 g9_2)) (goodIn_sub i9wsX10_dropDeadBy_4 g9_1)))
set_option maxRecDepth 20000 in
theorem gX10_dropDeadBy_X4_empty : GoodIn wsX10_dropDeadBy (wsV RX10 89 RX4 yX4_empty wsX4_empty) := goodIn_app (gin_c (mem_at i9wsX10_dropDeadBy_0 13 rfl) rfl (gin_c (mem_at i9wsX10_dropDeadBy_0 14 rfl) rfl (gin_c (mem_at i9wsX10_dropDeadBy_0 15 rfl) rfl (gin_c (mem_at i9wsX10_dropDeadBy_0 16 rfl) rfl gin_n)))) ggX10_dropDeadBy_X4_empty
theorem i9wsX10_dropDeadBy_1 : ∀ w ∈ wsX10_dropDeadBy_r2, w ∈ wsX10_dropDeadBy := fun _ h => (List.mem_cons_of_mem _ (List.mem_append_left _ (List.mem_append_left _ (List.mem_append_left _ (List.mem_append_left _ (List.mem_append_right _ (List.mem_append_left _ h)))))))
theorem i9wsX10_dropDeadBy_5 : ∀ w ∈ wsX10, w ∈ wsX10_dropDeadBy := fun _ h => (List.mem_cons_of_mem _ (List.mem_append_left _ (List.mem_append_right _ h)))
set_option maxRecDepth 20000 in
theorem ggX10_dropDeadBy_X1_isThereNow : GoodIn wsX10_dropDeadBy wsX1_isThereNow := (gin_c (mem_at i9wsX10_dropDeadBy_1 1 rfl) rfl (goodIn_app (gin_c (mem_at i9wsX10_dropDeadBy_1 2 rfl) rfl gin_n) (goodIn_sub i9wsX10_dropDeadBy_5 g9_0)))
set_option maxRecDepth 20000 in
theorem gX10_dropDeadBy_X1_isThereNow : GoodIn wsX10_dropDeadBy (wsV RX10 61 RX1 yX1_isThereNow wsX1_isThereNow) := goodIn_app (gin_c (mem_at i9wsX10_dropDeadBy_0 21 rfl) rfl (gin_c (mem_at i9wsX10_dropDeadBy_0 22 rfl) rfl (gin_c (mem_at i9wsX10_dropDeadBy_0 23 rfl) rfl (gin_c (mem_at i9wsX10_dropDeadBy_1 0 rfl) rfl gin_n)))) ggX10_dropDeadBy_X1_isThereNow
theorem i9wsX10_dropDeadBy_2 : ∀ w ∈ wsX10_dropDeadBy_r3, w ∈ wsX10_dropDeadBy := fun _ h => (List.mem_cons_of_mem _ (List.mem_append_left _ (List.mem_append_left _ (List.mem_append_left _ (List.mem_append_left _ (List.mem_append_right _ (List.mem_append_right _ h)))))))
theorem i9wsX10_dropDeadBy_3 : ∀ w ∈ wsX100, w ∈ wsX10_dropDeadBy := fun _ h => (List.mem_cons_of_mem _ (List.mem_append_left _ (List.mem_append_left _ (List.mem_append_left _ (List.mem_append_right _ h)))))
set_option maxRecDepth 20000 in
theorem ggX10_dropDeadBy_X10_place : GoodIn wsX10_dropDeadBy wsX10_place := (gin_c (mem_at i9wsX10_dropDeadBy_1 7 rfl) rfl (goodIn_app (goodIn_app (goodIn_app (goodIn_app (goodIn_app (gin_c (mem_at i9wsX10_dropDeadBy_0 0 rfl) rfl (gin_c (mem_at i9wsX10_dropDeadBy_0 2 rfl) rfl (gin_c (mem_at i9wsX10_dropDeadBy_0 3 rfl) rfl (gin_c (mem_at i9wsX10_dropDeadBy_1 8 rfl) rfl (gin_c (mem_at i9wsX10_dropDeadBy_1 9 rfl) rfl (gin_c (mem_at i9wsX10_dropDeadBy_1 6 rfl) rfl (gin_c (mem_at i9wsX10_dropDeadBy_1 10 rfl) rfl (gin_c (mem_at i9wsX10_dropDeadBy_1 11 rfl) rfl (gin_c (mem_at i9wsX10_dropDeadBy_1 12 rfl) rfl (gin_c (mem_at i9wsX10_dropDeadBy_1 13 rfl) rfl (gin_c (mem_at i9wsX10_dropDeadBy_0 9 rfl) rfl (gin_c (mem_at i9wsX10_dropDeadBy_1 14 rfl) rfl (gin_c (mem_at i9wsX10_dropDeadBy_1 15 rfl) rfl (gin_c (mem_at i9wsX10_dropDeadBy_1 16 rfl) rfl (gin_c (mem_at i9wsX10_dropDeadBy_0 11 rfl) rfl (gin_c (mem_at i9wsX10_dropDeadBy_0 12 rfl) rfl (gin_c (mem_at i9wsX10_dropDeadBy_1 17 rfl) rfl (gin_c (mem_at i9wsX10_dropDeadBy_1 18 rfl) rfl (gin_c (mem_at i9wsX10_dropDeadBy_1 19 rfl) rfl (gin_c (mem_at i9wsX10_dropDeadBy_1 20 rfl) rfl (gin_c (mem_at i9wsX10_dropDeadBy_1 21 rfl) rfl (gin_c (mem_at i9wsX10_dropDeadBy_1 22 rfl) rfl (gin_c (mem_at i9wsX10_dropDeadBy_1 23 rfl) rfl (gin_c (mem_at i9wsX10_dropDeadBy_2 0 rfl) rfl gin_n)))))))))))))))))))))))) (goodIn_app (gin_c (mem_at i9wsX10_dropDeadBy_2 1 rfl) rfl (gin_c (mem_at i9wsX10_dropDeadBy_2 2 rfl) rfl (gin_c (mem_at i9wsX10_dropDeadBy_2 3 rfl) rfl (gin_c (mem_at i9wsX10_dropDeadBy_2 4 rfl) rfl (gin_c (mem_at i9wsX10_dropDeadBy_0 16 rfl) rfl (gin_c (mem_at i9wsX10_dropDeadBy_2 5 rfl) rfl (gin_c (mem_at i9wsX10_dropDeadBy_2 6 rfl) rfl (gin_c (mem_at i9wsX10_dropDeadBy_2 7 rfl) rfl (gin_c (mem_at i9wsX10_dropDeadBy_2 8 rfl) rfl (gin_c (mem_at i9wsX10_dropDeadBy_2 9 rfl) rfl (gin_c (mem_at i9wsX10_dropDeadBy_0 18 rfl) rfl (gin_c (mem_at i9wsX10_dropDeadBy_2 10 rfl) rfl (gin_c (mem_at i9wsX10_dropDeadBy_2 11 rfl) rfl (gin_c (mem_at i9wsX10_dropDeadBy_2 12 rfl) rfl (gin_c (mem_at i9wsX10_dropDeadBy_2 13 rfl) rfl (gin_c (mem_at i9wsX10_dropDeadBy_2 14 rfl) rfl (gin_c (mem_at i9wsX10_dropDeadBy_0 19 rfl) rfl (gin_c (mem_at i9wsX10_dropDeadBy_2 15 rfl) rfl (gin_c (mem_at i9wsX10_dropDeadBy_2 16 rfl) rfl (gin_c (mem_at i9wsX10_dropDeadBy_2 17 rfl) rfl (gin_c (mem_at i9wsX10_dropDeadBy_2 18 rfl) rfl (gin_c (mem_at i9wsX10_dropDeadBy_2 19 rfl) rfl (gin_c (mem_at i9wsX10_dropDeadBy_2 20 rfl) rfl (gin_c (mem_at i9wsX10_dropDeadBy_2 21 rfl) rfl gin_n)))))))))))))))))))))))) (gin_c (mem_at i9wsX10_dropDeadBy_2 22 rfl) rfl gin_n))) (goodIn_sub i9wsX10_dropDeadBy_3 g9_3)) (goodIn_sub i9wsX10_dropDeadBy_5 g9_0)) (goodIn_sub i9wsX10_dropDeadBy_4 g9_1)) (goodIn_sub i9wsX10_dropDeadBy_6 g9_2)))
set_option maxRecDepth 20000 in
theorem gX10_dropDeadBy_X10_place : GoodIn wsX10_dropDeadBy (wsV RX10 93 RX10 yX10_place wsX10_place) := goodIn_app (gin_c (mem_at i9wsX10_dropDeadBy_1 3 rfl) rfl (gin_c (mem_at i9wsX10_dropDeadBy_1 4 rfl) rfl (gin_c (mem_at i9wsX10_dropDeadBy_1 5 rfl) rfl (gin_c (mem_at i9wsX10_dropDeadBy_1 6 rfl) rfl gin_n)))) ggX10_dropDeadBy_X10_place
set_option maxHeartbeats 4000000 in
set_option maxRecDepth 100000 in
theorem T_X10_dropDeadBy (l : Launch) (hl : l.stackTraces = false) (D : va_G) (cA : Nat → ClassId) {l0 : Option Nat} {l1 : Int32} {x : HS} {Q : HS → Prop} {X : String → HS → Prop} (h : w_X10_dropDeadBy l0 l1 x Q X) : YV l yX10_dropDeadBy wsX10_dropDeadBy 4 88 D cA [.q l0, .i l1] x Q X := by
  refine YV.of (cc := cX10_dropDeadBy) (maxL := 4) (ret := none) hl (by decide) rfl rfl (fun g B fr => ?_)
  have o := B.o
  have hb := B.hb
  have hts := B.hts
  have hown : g.s.vm.findClass RX10 = some g.m.cls := B.hown
  have in0 : ∀ w ∈ u_ws RX0 TX0 5, w ∈ wsX10_dropDeadBy := fun w h => (List.mem_cons_of_mem _ (List.mem_append_left _ (List.mem_append_left _ (List.mem_append_right _ h))))
  have in1 : ∀ w ∈ u_ws RX1 TX1 7, w ∈ wsX10_dropDeadBy := fun w h => (List.mem_cons_of_mem _ (List.mem_append_left _ (List.mem_append_right _ h)))
  have in10 : ∀ w ∈ u_ws RX10 TX10 6, w ∈ wsX10_dropDeadBy := fun w h => (List.mem_cons_of_mem _ (List.mem_append_left _ (List.mem_append_left _ (List.mem_append_left _ (List.mem_append_right _ h)))))
  unfold w_X10_dropDeadBy at h
  show KW g 4 0 [(0, .q l0), (1, .i l1)] [] x
  refine k_aload_n o hb dX10_dropDeadBy_0 rfl 0 rfl ?_
  refine k_getF (C := RX10) (T := TX10) (N := 6) o hb hts in10 hown rfl (by decide) 2 (by decide) rfl (hts (.fieldLink RX10 14 "FactKeeper$Table" "row" "LFactKeeper$Chain;") (by decide +kernel)) (fun _ h9 => h9) dX10_dropDeadBy_1 h (fun v1 h => ?_)
  refine k_getF (C := RX0) (T := TX0) (N := 5) o hb hts in0 hown rfl (by decide) 3 (by decide) rfl (hts (.fieldLink RX10 40 "FactKeeper$Chain" "first" "LFactKeeper$Fact;") (by decide +kernel)) (fun _ h9 => h9) dX10_dropDeadBy_4 h (fun v2 h => ?_)
  refine k_astore_n o hb dX10_dropDeadBy_7 rfl rfl ?_
  refine k_aload_n o hb dX10_dropDeadBy_8 rfl 1 rfl ?_
  refine k_getF (C := RX10) (T := TX10) (N := 6) o hb hts in10 hown rfl (by decide) 2 (by decide) rfl (hts (.fieldLink RX10 14 "FactKeeper$Table" "row" "LFactKeeper$Chain;") (by decide +kernel)) (fun _ h9 => h9) dX10_dropDeadBy_9 h (fun v3 h => ?_)
  refine k_run_v o (fun _ _ q => q) (k_runV (ci := 0) (rc := (RX0, TX0, 5)) o hb B.hml hown hts rfl (by decide) (T_X0_empty g.l o.hl g.D g.cA h.2) (cwV 0 hts gX10_dropDeadBy_X0_empty rfl rfl rfl (by decide +kernel) ⟨yle B.hR1 rfl, yle B.hR2 rfl⟩) h.1 rfl rfl (Nat.le_of_ble_eq_true rfl) dX10_dropDeadBy_12) (fun x4 h => ?_)
  refine k_iconst (v := 0) o hb dX10_dropDeadBy_15 (by decide) ?_
  refine k_istore_n o hb dX10_dropDeadBy_16 rfl rfl ?_
  refine KW.sub [2, 3, 1, 0] rfl ?_
  refine wLoop_elim (M := fun (v9 : Int32) (x8 : HS) => KW g 4 17 [(0, .q l0), (1, .i l1), (2, .q v2), (3, .i v9)] [] x8) h ?_
  intro v9 x8 again6 ih7 h
  refine k_iload_n o hb dX10_dropDeadBy_17 rfl 3 rfl ?_
  refine k_aload_n o hb dX10_dropDeadBy_18 rfl 0 rfl ?_
  refine k_getI (C := RX10) (T := TX10) (N := 6) o hb hts in10 hown rfl (by decide) 1 (by decide) rfl (hts (.fieldLink RX10 34 "FactKeeper$Table" "columns" "I") (by decide +kernel)) (fun _ h9 => h9) dX10_dropDeadBy_19 h (fun v10 h => ?_)
  refine k_icmp_ge (tgt := 49) o hb dX10_dropDeadBy_22 (by decide) h (fun h => ?_) (fun h => ?_)
  · skip
    refine KW.sub [0, 1, 2] rfl ?_
    refine wLoop_elim (M := fun (v14 : Option Nat) (x13 : HS) => KW g 4 49 [(0, .q l0), (1, .i l1), (2, .q v14)] [] x13) h ?_
    intro v14 x13 again11 ih12 h
    refine k_aload_n o hb dX10_dropDeadBy_49 rfl 2 rfl ?_
    refine k_ifnull (tgt := 86) o hb dX10_dropDeadBy_50 (by decide) h (fun h => ?_) (fun h => ?_)
    · skip
      exact k_vret o hb B.hr fr dX10_dropDeadBy_86 h
    · skip
      refine k_aload_n o hb dX10_dropDeadBy_53 rfl 2 rfl ?_
      refine k_getF (C := RX1) (T := TX1) (N := 7) o hb hts in1 hown rfl (by decide) 1 (by decide) rfl (hts (.fieldLink RX10 52 "FactKeeper$Fact" "behind" "[LFactKeeper$Fact;") (by decide +kernel)) (fun _ h9 => h9) dX10_dropDeadBy_54 h (fun v15 h => ?_)
      refine k_iconst (v := 4) o hb dX10_dropDeadBy_57 (by decide) ?_
      refine k_aald (kd := 25) (t0 := 4) o hb rfl (by decide) dX10_dropDeadBy_58 h (fun v16 h => ?_)
      refine k_astore_n o hb dX10_dropDeadBy_59 rfl rfl ?_
      refine k_aload_n o hb dX10_dropDeadBy_60 rfl 3 rfl ?_
      refine k_run_i o (fun _ _ q => q) (k_runV (ci := 1) (rc := (RX1, TX1, 7)) o hb B.hml hown hts rfl (by decide) (T_X1_isThereNow g.l o.hl g.D g.cA h.2) (cwV 0 hts gX10_dropDeadBy_X1_isThereNow rfl rfl rfl (by decide +kernel) ⟨yle B.hR1 rfl, yle B.hR2 rfl⟩) h.1 rfl rfl (Nat.le_of_ble_eq_true rfl) dX10_dropDeadBy_61) (fun v18 x17 h => ?_)
      refine wJoin_elim (M := fun K => ∀  (x20 : HS), K  x20 → KW g 4 81 [(0, .q l0), (1, .i l1), (3, .q v16)] [] x20) h ?_ (fun j19 hj19 h => ?_)
      · skip
        intro  x20 h
        refine k_aload_n o hb dX10_dropDeadBy_81 rfl 2 rfl ?_
        refine k_astore_n o hb dX10_dropDeadBy_82 rfl rfl ?_
        refine k_goto (tgt := 49) o hb dX10_dropDeadBy_83 (by decide) ?_
        exact KW.sub [1, 2, 0] rfl (ih12 v16 x20 h)
      · skip
        refine wJoin_elim (M := fun K => ∀  (x22 : HS), K  x22 → KW g 4 75 [(0, .q l0), (1, .i l1), (2, .q v14), (3, .q v16)] [] x22) h ?_ (fun j21 hj21 h => ?_)
        · skip
          intro  x22 h
          refine k_aload_n o hb dX10_dropDeadBy_75 rfl 0 rfl ?_
          refine k_aload_n o hb dX10_dropDeadBy_76 rfl 2 rfl ?_
          refine k_iconst (v := 0) o hb dX10_dropDeadBy_77 (by decide) ?_
          refine k_run_v o (fun _ _ q => q) (k_runV (ci := 10) (rc := (RX10, TX10, 6)) o hb B.hml hown hts rfl (by decide) (T_X10_place g.l o.hl g.D g.cA h.2) (cwV 2 hts gX10_dropDeadBy_X10_place rfl rfl rfl (by decide +kernel) ⟨yle B.hR1 rfl, yle B.hR2 rfl⟩) h.1 rfl rfl (Nat.le_of_ble_eq_true rfl) dX10_dropDeadBy_78) (fun x23 h => ?_)
          exact KW.sub [0, 1, 3] rfl (hj19 x23 h)
        · skip
          refine k_if_ne (tgt := 75) o hb dX10_dropDeadBy_64 (by decide) h (fun h => ?_) (fun h => ?_)
          · skip
            refine k_aload_n o hb dX10_dropDeadBy_67 rfl 3 rfl ?_
            refine k_getI (C := RX1) (T := TX1) (N := 7) o hb hts in1 hown rfl (by decide) 6 (by decide) rfl (hts (.fieldLink RX10 90 "FactKeeper$Fact" "died" "I") (by decide +kernel)) (fun _ h9 => h9) dX10_dropDeadBy_68 h (fun v25 h => ?_)
            refine k_iload_n o hb dX10_dropDeadBy_71 rfl 2 rfl ?_
            refine k_icmp_le (tgt := 81) o hb dX10_dropDeadBy_72 (by decide) h (fun h => ?_) (fun h => ?_)
            · skip
              exact KW.sub [1, 2, 0] rfl (hj19 x17 h)
            · skip
              exact KW.sub [1, 2, 3, 0] rfl (hj21 x17 h)
          · skip
            exact KW.sub [1, 2, 3, 0] rfl (hj21 x17 h)
  · skip
    refine k_aload_n o hb dX10_dropDeadBy_25 rfl 0 rfl ?_
    refine k_getF (C := RX10) (T := TX10) (N := 6) o hb hts in10 hown rfl (by decide) 3 (by decide) rfl (hts (.fieldLink RX10 22 "FactKeeper$Table" "indexes" "[LFactKeeper$Index;") (by decide +kernel)) (fun _ h9 => h9) dX10_dropDeadBy_26 h (fun v26 h => ?_)
    refine k_iload_n o hb dX10_dropDeadBy_29 rfl 3 rfl ?_
    refine k_aald (kd := 28) (t0 := 7) o hb rfl (by decide) dX10_dropDeadBy_30 h (fun v27 h => ?_)
    refine wJoin_elim (M := fun K => ∀  (x29 : HS), K  x29 → KW g 4 43 [(0, .q l0), (1, .i l1), (2, .q v2), (3, .i v9)] [] x29) h ?_ (fun j28 hj28 h => ?_)
    · skip
      intro  x29 h
      refine k_iinc (w := 1) o hb dX10_dropDeadBy_43 3 rfl (by decide) rfl ?_
      refine k_goto (tgt := 17) o hb dX10_dropDeadBy_46 (by decide) ?_
      exact KW.sub [1, 2, 3, 0] rfl (ih7 (v9 + 1) x29 h)
    · skip
      refine k_ifnull (tgt := 43) o hb dX10_dropDeadBy_31 (by decide) h (fun h => ?_) (fun h => ?_)
      · skip
        exact KW.sub [0, 1, 2, 3] rfl (hj28 x8 h)
      · skip
        refine k_aload_n o hb dX10_dropDeadBy_34 rfl 0 rfl ?_
        refine k_getF (C := RX10) (T := TX10) (N := 6) o hb hts in10 hown rfl (by decide) 3 (by decide) rfl (hts (.fieldLink RX10 22 "FactKeeper$Table" "indexes" "[LFactKeeper$Index;") (by decide +kernel)) (fun _ h9 => h9) dX10_dropDeadBy_35 h (fun v30 h => ?_)
        refine k_iload_n o hb dX10_dropDeadBy_38 rfl 3 rfl ?_
        refine k_aald (kd := 28) (t0 := 7) o hb rfl (by decide) dX10_dropDeadBy_39 h (fun v31 h => ?_)
        refine k_run_v o (fun _ _ q => q) (k_runV (ci := 4) (rc := (RX4, TX4, 2)) o hb B.hml hown hts rfl (by decide) (T_X4_empty g.l o.hl g.D g.cA h.2) (cwV 0 hts gX10_dropDeadBy_X4_empty rfl rfl rfl (by decide +kernel) ⟨yle B.hR1 rfl, yle B.hR2 rfl⟩) h.1 rfl rfl (Nat.le_of_ble_eq_true rfl) dX10_dropDeadBy_40) (fun x32 h => ?_)
        exact KW.sub [0, 1, 2, 3] rfl (hj28 x32 h)
theorem dX10_makeIndex_0 : decode cX10_makeIndex 0 = .ok (.iload_n 1, 1) := by decide +kernel
theorem dX10_makeIndex_1 : decode cX10_makeIndex 1 = .ok (.ifCond .lt 20, 3) := by decide +kernel
theorem dX10_makeIndex_4 : decode cX10_makeIndex 4 = .ok (.iload_n 1, 1) := by decide +kernel
theorem dX10_makeIndex_5 : decode cX10_makeIndex 5 = .ok (.aload_n 0, 1) := by decide +kernel
theorem dX10_makeIndex_6 : decode cX10_makeIndex 6 = .ok (.getfield 34, 3) := by decide +kernel
theorem dX10_makeIndex_9 : decode cX10_makeIndex 9 = .ok (.if_icmp .ge 12, 3) := by decide +kernel
theorem dX10_makeIndex_12 : decode cX10_makeIndex 12 = .ok (.aload_n 0, 1) := by decide +kernel
theorem dX10_makeIndex_13 : decode cX10_makeIndex 13 = .ok (.getfield 22, 3) := by decide +kernel
theorem dX10_makeIndex_16 : decode cX10_makeIndex 16 = .ok (.iload_n 1, 1) := by decide +kernel
theorem dX10_makeIndex_17 : decode cX10_makeIndex 17 = .ok (.aaload, 1) := by decide +kernel
theorem dX10_makeIndex_18 : decode cX10_makeIndex 18 = .ok (.ifnull 5, 3) := by decide +kernel
theorem dX10_makeIndex_21 : decode cX10_makeIndex 21 = .ok (.iconst 0, 1) := by decide +kernel
theorem dX10_makeIndex_22 : decode cX10_makeIndex 22 = .ok (.ireturn, 1) := by decide +kernel
theorem dX10_makeIndex_23 : decode cX10_makeIndex 23 = .ok (.new 20, 3) := by decide +kernel
theorem dX10_makeIndex_26 : decode cX10_makeIndex 26 = .ok (.dup, 1) := by decide +kernel
theorem dX10_makeIndex_27 : decode cX10_makeIndex 27 = .ok (.iload_n 1, 1) := by decide +kernel
theorem dX10_makeIndex_28 : decode cX10_makeIndex 28 = .ok (.invokespecial 37, 3) := by decide +kernel
theorem dX10_makeIndex_31 : decode cX10_makeIndex 31 = .ok (.astore_n 2, 1) := by decide +kernel
theorem dX10_makeIndex_32 : decode cX10_makeIndex 32 = .ok (.aload_n 0, 1) := by decide +kernel
theorem dX10_makeIndex_33 : decode cX10_makeIndex 33 = .ok (.getfield 14, 3) := by decide +kernel
theorem dX10_makeIndex_36 : decode cX10_makeIndex 36 = .ok (.getfield 40, 3) := by decide +kernel
theorem dX10_makeIndex_39 : decode cX10_makeIndex 39 = .ok (.astore_n 3, 1) := by decide +kernel
theorem dX10_makeIndex_40 : decode cX10_makeIndex 40 = .ok (.aload_n 3, 1) := by decide +kernel
theorem dX10_makeIndex_41 : decode cX10_makeIndex 41 = .ok (.ifnull 22, 3) := by decide +kernel
theorem dX10_makeIndex_44 : decode cX10_makeIndex 44 = .ok (.aload_n 2, 1) := by decide +kernel
theorem dX10_makeIndex_45 : decode cX10_makeIndex 45 = .ok (.aload_n 3, 1) := by decide +kernel
theorem dX10_makeIndex_46 : decode cX10_makeIndex 46 = .ok (.invokevirtual 44, 3) := by decide +kernel
theorem dX10_makeIndex_49 : decode cX10_makeIndex 49 = .ok (.aload_n 3, 1) := by decide +kernel
theorem dX10_makeIndex_50 : decode cX10_makeIndex 50 = .ok (.invokevirtual 48, 3) := by decide +kernel
theorem dX10_makeIndex_53 : decode cX10_makeIndex 53 = .ok (.aload_n 3, 1) := by decide +kernel
theorem dX10_makeIndex_54 : decode cX10_makeIndex 54 = .ok (.getfield 52, 3) := by decide +kernel
theorem dX10_makeIndex_57 : decode cX10_makeIndex 57 = .ok (.iconst 4, 1) := by decide +kernel
theorem dX10_makeIndex_58 : decode cX10_makeIndex 58 = .ok (.aaload, 1) := by decide +kernel
theorem dX10_makeIndex_59 : decode cX10_makeIndex 59 = .ok (.astore_n 3, 1) := by decide +kernel
theorem dX10_makeIndex_60 : decode cX10_makeIndex 60 = .ok (.goto (-20), 3) := by decide +kernel
theorem dX10_makeIndex_63 : decode cX10_makeIndex 63 = .ok (.aload_n 0, 1) := by decide +kernel
theorem dX10_makeIndex_64 : decode cX10_makeIndex 64 = .ok (.getfield 22, 3) := by decide +kernel
theorem dX10_makeIndex_67 : decode cX10_makeIndex 67 = .ok (.iload_n 1, 1) := by decide +kernel
theorem dX10_makeIndex_68 : decode cX10_makeIndex 68 = .ok (.aload_n 2, 1) := by decide +kernel
theorem dX10_makeIndex_69 : decode cX10_makeIndex 69 = .ok (.aastore, 1) := by decide +kernel
theorem dX10_makeIndex_70 : decode cX10_makeIndex 70 = .ok (.iconst 1, 1) := by decide +kernel
theorem dX10_makeIndex_71 : decode cX10_makeIndex 71 = .ok (.ireturn, 1) := by decide +kernel
theorem i9wsX10_makeIndex_0 : ∀ w ∈ wsX10_makeIndex_r1, w ∈ wsX10_makeIndex := fun _ h => (List.mem_cons_of_mem _ (List.mem_append_left _ (List.mem_append_left _ (List.mem_append_left _ (List.mem_append_left _ (List.mem_append_left _ h))))))
theorem i9wsX10_makeIndex_4 : ∀ w ∈ wsX40, w ∈ wsX10_makeIndex := fun _ h => (List.mem_cons_of_mem _ (List.mem_append_left _ (List.mem_append_left _ (List.mem_append_right _ h))))
set_option maxRecDepth 20000 in
theorem ggX10_makeIndex_X4_init : GoodIn wsX10_makeIndex wsX4_init := (gin_c (mem_at i9wsX10_makeIndex_0 10 rfl) rfl (goodIn_app (gin_c (mem_at i9wsX10_makeIndex_0 11 rfl) rfl (gin_c (mem_at i9wsX10_makeIndex_0 12 rfl) rfl (gin_c (mem_at i9wsX10_makeIndex_0 13 rfl) rfl (gin_c (mem_at i9wsX10_makeIndex_0 14 rfl) rfl (gin_c (mem_at i9wsX10_makeIndex_0 15 rfl) rfl (gin_c (mem_at i9wsX10_makeIndex_0 16 rfl) rfl gin_n)))))) (goodIn_sub i9wsX10_makeIndex_4 g9_2)))
set_option maxRecDepth 20000 in
theorem gX10_makeIndex_X4_init : GoodIn wsX10_makeIndex (wsX4_init) := ggX10_makeIndex_X4_init
theorem i9wsX10_makeIndex_1 : ∀ w ∈ wsX10_makeIndex_r2, w ∈ wsX10_makeIndex := fun _ h => (List.mem_cons_of_mem _ (List.mem_append_left _ (List.mem_append_left _ (List.mem_append_left _ (List.mem_append_left _ (List.mem_append_right _ (List.mem_append_left _ h)))))))
theorem i9wsX10_makeIndex_6 : ∀ w ∈ wsX10, w ∈ wsX10_makeIndex := fun _ h => (List.mem_cons_of_mem _ (List.mem_append_right _ h))
theorem i9wsX10_makeIndex_5 : ∀ w ∈ wsX00, w ∈ wsX10_makeIndex := fun _ h => (List.mem_cons_of_mem _ (List.mem_append_left _ (List.mem_append_right _ h)))
set_option maxRecDepth 20000 in
theorem ggX10_makeIndex_X4_chainFor : GoodIn wsX10_makeIndex wsX4_chainFor := (gin_c (mem_at i9wsX10_makeIndex_0 20 rfl) rfl (goodIn_app (goodIn_app (goodIn_app (gin_c (mem_at i9wsX10_makeIndex_0 21 rfl) rfl (gin_c (mem_at i9wsX10_makeIndex_0 16 rfl) rfl (gin_c (mem_at i9wsX10_makeIndex_0 14 rfl) rfl (gin_c (mem_at i9wsX10_makeIndex_0 22 rfl) rfl (gin_c (mem_at i9wsX10_makeIndex_0 23 rfl) rfl (gin_c (mem_at i9wsX10_makeIndex_0 15 rfl) rfl (gin_c (mem_at i9wsX10_makeIndex_1 0 rfl) rfl (gin_c (mem_at i9wsX10_makeIndex_1 1 rfl) rfl (gin_c (mem_at i9wsX10_makeIndex_1 2 rfl) rfl (gin_c (mem_at i9wsX10_makeIndex_0 4 rfl) rfl (gin_c (mem_at i9wsX10_makeIndex_1 3 rfl) rfl (gin_c (mem_at i9wsX10_makeIndex_1 4 rfl) rfl (gin_c (mem_at i9wsX10_makeIndex_1 5 rfl) rfl (gin_c (mem_at i9wsX10_makeIndex_1 6 rfl) rfl (gin_c (mem_at i9wsX10_makeIndex_1 7 rfl) rfl (gin_c (mem_at i9wsX10_makeIndex_1 8 rfl) rfl (gin_c (mem_at i9wsX10_makeIndex_1 9 rfl) rfl (gin_c (mem_at i9wsX10_makeIndex_0 12 rfl) rfl (gin_c (mem_at i9wsX10_makeIndex_0 13 rfl) rfl (gin_c (mem_at i9wsX10_makeIndex_1 10 rfl) rfl (gin_c (mem_at i9wsX10_makeIndex_1 11 rfl) rfl (gin_c (mem_at i9wsX10_makeIndex_1 12 rfl) rfl gin_n)))))))))))))))))))))) (goodIn_sub i9wsX10_makeIndex_6 g9_0)) (goodIn_sub i9wsX10_makeIndex_4 g9_2)) (goodIn_sub i9wsX10_makeIndex_5 g9_1)))
set_option maxRecDepth 20000 in
theorem gX10_makeIndex_X4_chainFor : GoodIn wsX10_makeIndex (wsV RX10 44 RX4 yX4_chainFor wsX4_chainFor) := goodIn_app (gin_c (mem_at i9wsX10_makeIndex_0 17 rfl) rfl (gin_c (mem_at i9wsX10_makeIndex_0 18 rfl) rfl (gin_c (mem_at i9wsX10_makeIndex_0 19 rfl) rfl (gin_c (mem_at i9wsX10_makeIndex_0 4 rfl) rfl gin_n)))) ggX10_makeIndex_X4_chainFor
theorem i9wsX10_makeIndex_2 : ∀ w ∈ wsX10_makeIndex_r3, w ∈ wsX10_makeIndex := fun _ h => (List.mem_cons_of_mem _ (List.mem_append_left _ (List.mem_append_left _ (List.mem_append_left _ (List.mem_append_left _ (List.mem_append_right _ (List.mem_append_right _ h)))))))
set_option maxRecDepth 20000 in
theorem ggX10_makeIndex_X0_putBehind : GoodIn wsX10_makeIndex wsX0_putBehind := (gin_c (mem_at i9wsX10_makeIndex_1 16 rfl) rfl (goodIn_app (goodIn_app (gin_c (mem_at i9wsX10_makeIndex_1 17 rfl) rfl (gin_c (mem_at i9wsX10_makeIndex_1 18 rfl) rfl (gin_c (mem_at i9wsX10_makeIndex_1 19 rfl) rfl (gin_c (mem_at i9wsX10_makeIndex_1 20 rfl) rfl (gin_c (mem_at i9wsX10_makeIndex_0 23 rfl) rfl (gin_c (mem_at i9wsX10_makeIndex_1 21 rfl) rfl (gin_c (mem_at i9wsX10_makeIndex_1 22 rfl) rfl (gin_c (mem_at i9wsX10_makeIndex_1 10 rfl) rfl (gin_c (mem_at i9wsX10_makeIndex_1 23 rfl) rfl (gin_c (mem_at i9wsX10_makeIndex_2 0 rfl) rfl (gin_c (mem_at i9wsX10_makeIndex_2 1 rfl) rfl (gin_c (mem_at i9wsX10_makeIndex_2 2 rfl) rfl (gin_c (mem_at i9wsX10_makeIndex_2 3 rfl) rfl gin_n))))))))))))) (goodIn_sub i9wsX10_makeIndex_5 g9_1)) (goodIn_sub i9wsX10_makeIndex_6 g9_0)))
set_option maxRecDepth 20000 in
theorem gX10_makeIndex_X0_putBehind : GoodIn wsX10_makeIndex (wsV RX10 48 RX0 yX0_putBehind wsX0_putBehind) := goodIn_app (gin_c (mem_at i9wsX10_makeIndex_1 13 rfl) rfl (gin_c (mem_at i9wsX10_makeIndex_1 14 rfl) rfl (gin_c (mem_at i9wsX10_makeIndex_1 15 rfl) rfl (gin_c (mem_at i9wsX10_makeIndex_0 23 rfl) rfl gin_n)))) ggX10_makeIndex_X0_putBehind
set_option maxHeartbeats 4000000 in
set_option maxRecDepth 100000 in
theorem T_X10_makeIndex (l : Launch) (hl : l.stackTraces = false) (D : va_G) (cA : Nat → ClassId) {l0 : Option Nat} {l1 : Int32} {x : HS} {Q : Int32 → HS → Prop} {X : String → HS → Prop} (h : w_X10_makeIndex l0 l1 x Q X) : YI l yX10_makeIndex wsX10_makeIndex 3 59 D cA [.q l0, .i l1] x Q X := by
  refine YI.of (cc := cX10_makeIndex) (maxL := 4) (ret := (some .boolean)) hl (by decide) rfl rfl (fun g B fr => ?_)
  have o := B.o
  have hb := B.hb
  have hts := B.hts
  have hown : g.s.vm.findClass RX10 = some g.m.cls := B.hown
  have in0 : ∀ w ∈ u_ws RX0 TX0 5, w ∈ wsX10_makeIndex := fun w h => (List.mem_cons_of_mem _ (List.mem_append_left _ (List.mem_append_right _ h)))
  have in1 : ∀ w ∈ u_ws RX1 TX1 7, w ∈ wsX10_makeIndex := fun w h => (List.mem_cons_of_mem _ (List.mem_append_right _ h))
  have in4 : ∀ w ∈ u_ws RX4 TX4 2, w ∈ wsX10_makeIndex := fun w h => (List.mem_cons_of_mem _ (List.mem_append_left _ (List.mem_append_left _ (List.mem_append_right _ h))))
  have in10 : ∀ w ∈ u_ws RX10 TX10 6, w ∈ wsX10_makeIndex := fun w h => (List.mem_cons_of_mem _ (List.mem_append_left _ (List.mem_append_left _ (List.mem_append_left _ (List.mem_append_right _ h)))))
  unfold w_X10_makeIndex at h
  show KW g 4 0 [(0, .q l0), (1, .i l1)] [] x
  refine k_iload_n o hb dX10_makeIndex_0 rfl 1 rfl ?_
  refine wJoin_elim (M := fun K => ∀  (x2 : HS), K  x2 → KW g 4 21 [] [] x2) h ?_ (fun j1 hj1 h => ?_)
  · skip
    intro  x2 h
    refine k_iconst (v := 0) o hb dX10_makeIndex_21 (by decide) ?_
    exact k_zret o hb B.hr fr dX10_makeIndex_22 h
  · skip
    refine k_if_lt (tgt := 21) o hb dX10_makeIndex_1 (by decide) h (fun h => ?_) (fun h => ?_)
    · skip
      exact KW.sub [] rfl (hj1 x h)
    · skip
      refine k_iload_n o hb dX10_makeIndex_4 rfl 1 rfl ?_
      refine k_aload_n o hb dX10_makeIndex_5 rfl 0 rfl ?_
      refine k_getI (C := RX10) (T := TX10) (N := 6) o hb hts in10 hown rfl (by decide) 1 (by decide) rfl (hts (.fieldLink RX10 34 "FactKeeper$Table" "columns" "I") (by decide +kernel)) (fun _ h9 => h9) dX10_makeIndex_6 h (fun v3 h => ?_)
      refine k_icmp_ge (tgt := 21) o hb dX10_makeIndex_9 (by decide) h (fun h => ?_) (fun h => ?_)
      · skip
        exact KW.sub [] rfl (hj1 x h)
      · skip
        refine k_aload_n o hb dX10_makeIndex_12 rfl 0 rfl ?_
        refine k_getF (C := RX10) (T := TX10) (N := 6) o hb hts in10 hown rfl (by decide) 3 (by decide) rfl (hts (.fieldLink RX10 22 "FactKeeper$Table" "indexes" "[LFactKeeper$Index;") (by decide +kernel)) (fun _ h9 => h9) dX10_makeIndex_13 h (fun v4 h => ?_)
        refine k_iload_n o hb dX10_makeIndex_16 rfl 1 rfl ?_
        refine k_aald (kd := 28) (t0 := 7) o hb rfl (by decide) dX10_makeIndex_17 h (fun v5 h => ?_)
        refine k_ifnull (tgt := 23) o hb dX10_makeIndex_18 (by decide) h (fun h => ?_) (fun h => ?_)
        · skip
          refine k_new (C := RX4) (T := TX4) (N := 2) o hb hts in4 tyX4 tyX4_ok hown (hts (.classLink RX10 20 RX4) (by decide +kernel)) (hts (.instantiable RX4 2) (by decide +kernel)) (hts (.initialized RX4) (by decide +kernel)) rfl (by decide) (fun j hj => by rcases (show j = 0 ∨ j = 1 by omega) with rfl | rfl <;> rfl) dX10_makeIndex_23 h (fun q6 x7 h => ?_)
          refine k_dup o hb dX10_makeIndex_26 ?_
          refine k_iload_n o hb dX10_makeIndex_27 rfl 1 rfl ?_
          refine k_run_v o (fun _ _ q => q.elim) (k_runI o hb B.hml hown hts (T_X4_init g.l o.hl g.D g.cA h) yX_no (cwI 1 hts gX10_makeIndex_X4_init rfl rfl rfl (hts (.initialized RX4) (by decide +kernel)) (hts (.methodLink RX10 37 yX4_init) (by decide +kernel)) (hts (.instanceMethod yX4_init) (by decide +kernel)) rfl (by decide +kernel) ⟨yle B.hR1 rfl, yle B.hR2 rfl⟩) rfl rfl (Nat.le_of_ble_eq_true rfl) dX10_makeIndex_28) (fun x8 h => ?_)
          refine k_astore_n o hb dX10_makeIndex_31 rfl rfl ?_
          refine k_aload_n o hb dX10_makeIndex_32 rfl 1 rfl ?_
          refine k_getF (C := RX10) (T := TX10) (N := 6) o hb hts in10 hown rfl (by decide) 2 (by decide) rfl (hts (.fieldLink RX10 14 "FactKeeper$Table" "row" "LFactKeeper$Chain;") (by decide +kernel)) (fun _ h9 => h9) dX10_makeIndex_33 h (fun v10 h => ?_)
          refine k_getF (C := RX0) (T := TX0) (N := 5) o hb hts in0 hown rfl (by decide) 3 (by decide) rfl (hts (.fieldLink RX10 40 "FactKeeper$Chain" "first" "LFactKeeper$Fact;") (by decide +kernel)) (fun _ h9 => h9) dX10_makeIndex_36 h (fun v11 h => ?_)
          refine k_astore_n o hb dX10_makeIndex_39 rfl rfl ?_
          refine KW.sub [2, 3, 1, 0] rfl ?_
          refine wLoop_elim (M := fun (v15 : Option Nat) (x14 : HS) => KW g 4 40 [(0, .q l0), (1, .i l1), (2, .q (some q6)), (3, .q v15)] [] x14) h ?_
          intro v15 x14 again12 ih13 h
          refine k_aload_n o hb dX10_makeIndex_40 rfl 3 rfl ?_
          refine k_ifnull (tgt := 63) o hb dX10_makeIndex_41 (by decide) h (fun h => ?_) (fun h => ?_)
          · skip
            refine k_aload_n o hb dX10_makeIndex_63 rfl 0 rfl ?_
            refine k_getF (C := RX10) (T := TX10) (N := 6) o hb hts in10 hown rfl (by decide) 3 (by decide) rfl (hts (.fieldLink RX10 22 "FactKeeper$Table" "indexes" "[LFactKeeper$Index;") (by decide +kernel)) (fun _ h9 => h9) dX10_makeIndex_64 h (fun v16 h => ?_)
            refine k_iload_n o hb dX10_makeIndex_67 rfl 1 rfl ?_
            refine k_aload_n o hb dX10_makeIndex_68 rfl 2 rfl ?_
            refine k_aast (kd := 28) (ci := 4) (t0 := 7) (rc := (RX4, TX4, 2)) o hb rfl (by decide) (by decide) rfl dX10_makeIndex_69 h (fun x17 h => ?_)
            refine k_iconst (v := 1) o hb dX10_makeIndex_70 (by decide) ?_
            exact k_zret o hb B.hr fr dX10_makeIndex_71 h
          · skip
            refine k_aload_n o hb dX10_makeIndex_44 rfl 2 rfl ?_
            refine k_aload_n o hb dX10_makeIndex_45 rfl 3 rfl ?_
            refine k_run_q o (fun _ _ q => q) (k_runV (ci := 4) (rc := (RX4, TX4, 2)) o hb B.hml hown hts rfl (by decide) (T_X4_chainFor g.l o.hl g.D g.cA h.2) (cwV 1 hts gX10_makeIndex_X4_chainFor rfl rfl rfl (by decide +kernel) ⟨yle B.hR1 rfl, yle B.hR2 rfl⟩) h.1 rfl rfl (Nat.le_of_ble_eq_true rfl) dX10_makeIndex_46) (fun v19 x18 h => ?_)
            refine k_aload_n o hb dX10_makeIndex_49 rfl 3 rfl ?_
            refine k_run_v o (fun _ _ q => q) (k_runV (ci := 0) (rc := (RX0, TX0, 5)) o hb B.hml hown hts rfl (by decide) (T_X0_putBehind g.l o.hl g.D g.cA h.2) (cwV 1 hts gX10_makeIndex_X0_putBehind rfl rfl rfl (by decide +kernel) ⟨yle B.hR1 rfl, yle B.hR2 rfl⟩) h.1 rfl rfl (Nat.le_of_ble_eq_true rfl) dX10_makeIndex_50) (fun x20 h => ?_)
            refine k_aload_n o hb dX10_makeIndex_53 rfl 3 rfl ?_
            refine k_getF (C := RX1) (T := TX1) (N := 7) o hb hts in1 hown rfl (by decide) 1 (by decide) rfl (hts (.fieldLink RX10 52 "FactKeeper$Fact" "behind" "[LFactKeeper$Fact;") (by decide +kernel)) (fun _ h9 => h9) dX10_makeIndex_54 h (fun v22 h => ?_)
            refine k_iconst (v := 4) o hb dX10_makeIndex_57 (by decide) ?_
            refine k_aald (kd := 25) (t0 := 4) o hb rfl (by decide) dX10_makeIndex_58 h (fun v23 h => ?_)
            refine k_astore_n o hb dX10_makeIndex_59 rfl rfl ?_
            refine k_goto (tgt := 40) o hb dX10_makeIndex_60 (by decide) ?_
            exact KW.sub [1, 2, 3, 0] rfl (ih13 v23 x20 h)
        · skip
          exact KW.sub [] rfl (hj1 x h)
theorem dX10_hasKey_0 : decode cX10_hasKey 0 = .ok (.iconst 0, 1) := by decide +kernel
theorem dX10_hasKey_1 : decode cX10_hasKey 1 = .ok (.istore_n 2, 1) := by decide +kernel
theorem dX10_hasKey_2 : decode cX10_hasKey 2 = .ok (.iload_n 2, 1) := by decide +kernel
theorem dX10_hasKey_3 : decode cX10_hasKey 3 = .ok (.aload_n 0, 1) := by decide +kernel
theorem dX10_hasKey_4 : decode cX10_hasKey 4 = .ok (.getfield 58, 3) := by decide +kernel
theorem dX10_hasKey_7 : decode cX10_hasKey 7 = .ok (.if_icmp .ge 21, 3) := by decide +kernel
theorem dX10_hasKey_10 : decode cX10_hasKey 10 = .ok (.aload_n 0, 1) := by decide +kernel
theorem dX10_hasKey_11 : decode cX10_hasKey 11 = .ok (.getfield 26, 3) := by decide +kernel
theorem dX10_hasKey_14 : decode cX10_hasKey 14 = .ok (.iload_n 2, 1) := by decide +kernel
theorem dX10_hasKey_15 : decode cX10_hasKey 15 = .ok (.iaload, 1) := by decide +kernel
theorem dX10_hasKey_16 : decode cX10_hasKey 16 = .ok (.iload_n 1, 1) := by decide +kernel
theorem dX10_hasKey_17 : decode cX10_hasKey 17 = .ok (.if_icmp .ne 5, 3) := by decide +kernel
theorem dX10_hasKey_20 : decode cX10_hasKey 20 = .ok (.iconst 1, 1) := by decide +kernel
theorem dX10_hasKey_21 : decode cX10_hasKey 21 = .ok (.ireturn, 1) := by decide +kernel
theorem dX10_hasKey_22 : decode cX10_hasKey 22 = .ok (.iinc 2 1, 3) := by decide +kernel
theorem dX10_hasKey_25 : decode cX10_hasKey 25 = .ok (.goto (-23), 3) := by decide +kernel
theorem dX10_hasKey_28 : decode cX10_hasKey 28 = .ok (.iconst 0, 1) := by decide +kernel
theorem dX10_hasKey_29 : decode cX10_hasKey 29 = .ok (.ireturn, 1) := by decide +kernel
set_option maxHeartbeats 4000000 in
set_option maxRecDepth 100000 in
theorem T_X10_hasKey (l : Launch) (hl : l.stackTraces = false) (D : va_G) (cA : Nat → ClassId) {l0 : Option Nat} {l1 : Int32} {x : HS} {Q : Int32 → HS → Prop} {X : String → HS → Prop} (h : w_X10_hasKey l0 l1 x Q X) : YI l yX10_hasKey wsX10_hasKey 0 0 D cA [.q l0, .i l1] x Q X := by
  refine YI.of (cc := cX10_hasKey) (maxL := 3) (ret := (some .boolean)) hl (by decide) rfl rfl (fun g B fr => ?_)
  have o := B.o
  have hb := B.hb
  have hts := B.hts
  have hown : g.s.vm.findClass RX10 = some g.m.cls := B.hown
  have in10 : ∀ w ∈ u_ws RX10 TX10 6, w ∈ wsX10_hasKey := fun w h => (List.mem_cons_of_mem _ (List.mem_append_right _ h))
  unfold w_X10_hasKey at h
  show KW g 3 0 [(0, .q l0), (1, .i l1)] [] x
  refine k_iconst (v := 0) o hb dX10_hasKey_0 (by decide) ?_
  refine k_istore_n o hb dX10_hasKey_1 rfl rfl ?_
  refine KW.sub [1, 2, 0] rfl ?_
  refine wLoop_elim (M := fun (v4 : Int32) (x3 : HS) => KW g 3 2 [(0, .q l0), (1, .i l1), (2, .i v4)] [] x3) h ?_
  intro v4 x3 again1 ih2 h
  refine k_iload_n o hb dX10_hasKey_2 rfl 2 rfl ?_
  refine k_aload_n o hb dX10_hasKey_3 rfl 0 rfl ?_
  refine k_getI (C := RX10) (T := TX10) (N := 6) o hb hts in10 hown rfl (by decide) 5 (by decide) rfl (hts (.fieldLink RX10 58 "FactKeeper$Table" "keyCount" "I") (by decide +kernel)) (fun _ h9 => h9) dX10_hasKey_4 h (fun v5 h => ?_)
  refine k_icmp_ge (tgt := 28) o hb dX10_hasKey_7 (by decide) h (fun h => ?_) (fun h => ?_)
  · skip
    refine k_iconst (v := 0) o hb dX10_hasKey_28 (by decide) ?_
    exact k_zret o hb B.hr fr dX10_hasKey_29 h
  · skip
    refine k_aload_n o hb dX10_hasKey_10 rfl 0 rfl ?_
    refine k_getF (C := RX10) (T := TX10) (N := 6) o hb hts in10 hown rfl (by decide) 4 (by decide) rfl (hts (.fieldLink RX10 26 "FactKeeper$Table" "keys" "[I") (by decide +kernel)) (fun _ h9 => h9) dX10_hasKey_11 h (fun v6 h => ?_)
    refine k_iload_n o hb dX10_hasKey_14 rfl 2 rfl ?_
    refine k_iald o hb dX10_hasKey_15 h (fun v7 h => ?_)
    refine k_iload_n o hb dX10_hasKey_16 rfl 1 rfl ?_
    refine k_icmp_ne (tgt := 22) o hb dX10_hasKey_17 (by decide) h (fun h => ?_) (fun h => ?_)
    · skip
      refine k_iconst (v := 1) o hb dX10_hasKey_20 (by decide) ?_
      exact k_zret o hb B.hr fr dX10_hasKey_21 h
    · skip
      refine k_iinc (w := 1) o hb dX10_hasKey_22 2 rfl (by decide) rfl ?_
      refine k_goto (tgt := 2) o hb dX10_hasKey_25 (by decide) ?_
      exact KW.sub [1, 2, 0] rfl (ih2 (v4 + 1) x3 h)
theorem dX10_makeKey_0 : decode cX10_makeKey 0 = .ok (.aload_n 0, 1) := by decide +kernel
theorem dX10_makeKey_1 : decode cX10_makeKey 1 = .ok (.getfield 58, 3) := by decide +kernel
theorem dX10_makeKey_4 : decode cX10_makeKey 4 = .ok (.iconst 3, 1) := by decide +kernel
theorem dX10_makeKey_5 : decode cX10_makeKey 5 = .ok (.if_icmp .lt 5, 3) := by decide +kernel
theorem dX10_makeKey_8 : decode cX10_makeKey 8 = .ok (.iconst 0, 1) := by decide +kernel
theorem dX10_makeKey_9 : decode cX10_makeKey 9 = .ok (.ireturn, 1) := by decide +kernel
theorem dX10_makeKey_10 : decode cX10_makeKey 10 = .ok (.aload_n 0, 1) := by decide +kernel
theorem dX10_makeKey_11 : decode cX10_makeKey 11 = .ok (.getfield 26, 3) := by decide +kernel
theorem dX10_makeKey_14 : decode cX10_makeKey 14 = .ok (.aload_n 0, 1) := by decide +kernel
theorem dX10_makeKey_15 : decode cX10_makeKey 15 = .ok (.getfield 58, 3) := by decide +kernel
theorem dX10_makeKey_18 : decode cX10_makeKey 18 = .ok (.iload_n 1, 1) := by decide +kernel
theorem dX10_makeKey_19 : decode cX10_makeKey 19 = .ok (.iastore, 1) := by decide +kernel
theorem dX10_makeKey_20 : decode cX10_makeKey 20 = .ok (.aload_n 0, 1) := by decide +kernel
theorem dX10_makeKey_21 : decode cX10_makeKey 21 = .ok (.dup, 1) := by decide +kernel
theorem dX10_makeKey_22 : decode cX10_makeKey 22 = .ok (.getfield 58, 3) := by decide +kernel
theorem dX10_makeKey_25 : decode cX10_makeKey 25 = .ok (.iconst 1, 1) := by decide +kernel
theorem dX10_makeKey_26 : decode cX10_makeKey 26 = .ok (.iadd, 1) := by decide +kernel
theorem dX10_makeKey_27 : decode cX10_makeKey 27 = .ok (.putfield 58, 3) := by decide +kernel
theorem dX10_makeKey_30 : decode cX10_makeKey 30 = .ok (.iconst 1, 1) := by decide +kernel
theorem dX10_makeKey_31 : decode cX10_makeKey 31 = .ok (.ireturn, 1) := by decide +kernel
set_option maxHeartbeats 4000000 in
set_option maxRecDepth 100000 in
theorem T_X10_makeKey (l : Launch) (hl : l.stackTraces = false) (D : va_G) (cA : Nat → ClassId) {l0 : Option Nat} {l1 : Int32} {x : HS} {Q : Int32 → HS → Prop} {X : String → HS → Prop} (h : w_X10_makeKey l0 l1 x Q X) : YI l yX10_makeKey wsX10_makeKey 0 0 D cA [.q l0, .i l1] x Q X := by
  refine YI.of (cc := cX10_makeKey) (maxL := 2) (ret := (some .boolean)) hl (by decide) rfl rfl (fun g B fr => ?_)
  have o := B.o
  have hb := B.hb
  have hts := B.hts
  have hown : g.s.vm.findClass RX10 = some g.m.cls := B.hown
  have in10 : ∀ w ∈ u_ws RX10 TX10 6, w ∈ wsX10_makeKey := fun w h => (List.mem_cons_of_mem _ (List.mem_append_right _ h))
  unfold w_X10_makeKey at h
  show KW g 2 0 [(0, .q l0), (1, .i l1)] [] x
  refine k_aload_n o hb dX10_makeKey_0 rfl 0 rfl ?_
  refine k_getI (C := RX10) (T := TX10) (N := 6) o hb hts in10 hown rfl (by decide) 5 (by decide) rfl (hts (.fieldLink RX10 58 "FactKeeper$Table" "keyCount" "I") (by decide +kernel)) (fun _ h9 => h9) dX10_makeKey_1 h (fun v1 h => ?_)
  refine k_iconst (v := 3) o hb dX10_makeKey_4 (by decide) ?_
  refine k_icmp_lt (tgt := 10) o hb dX10_makeKey_5 (by decide) h (fun h => ?_) (fun h => ?_)
  · skip
    refine k_aload_n o hb dX10_makeKey_10 rfl 0 rfl ?_
    refine k_getF (C := RX10) (T := TX10) (N := 6) o hb hts in10 hown rfl (by decide) 4 (by decide) rfl (hts (.fieldLink RX10 26 "FactKeeper$Table" "keys" "[I") (by decide +kernel)) (fun _ h9 => h9) dX10_makeKey_11 h (fun v2 h => ?_)
    refine k_aload_n o hb dX10_makeKey_14 rfl 0 rfl ?_
    refine k_getI (C := RX10) (T := TX10) (N := 6) o hb hts in10 hown rfl (by decide) 5 (by decide) rfl (hts (.fieldLink RX10 58 "FactKeeper$Table" "keyCount" "I") (by decide +kernel)) (fun _ h9 => h9) dX10_makeKey_15 h (fun v3 h => ?_)
    refine k_iload_n o hb dX10_makeKey_18 rfl 1 rfl ?_
    refine k_iast o hb dX10_makeKey_19 h (fun x4 h => ?_)
    refine k_aload_n o hb dX10_makeKey_20 rfl 0 rfl ?_
    refine k_dup o hb dX10_makeKey_21 ?_
    refine k_getI (C := RX10) (T := TX10) (N := 6) o hb hts in10 hown rfl (by decide) 5 (by decide) rfl (hts (.fieldLink RX10 58 "FactKeeper$Table" "keyCount" "I") (by decide +kernel)) (fun _ h9 => h9) dX10_makeKey_22 h (fun v5 h => ?_)
    refine k_iconst (v := 1) o hb dX10_makeKey_25 (by decide) ?_
    refine k_iadd o hb dX10_makeKey_26 ?_
    refine k_putI (C := RX10) (T := TX10) (N := 6) (ty := .int) o hb hts in10 tyX10 tyX10_ok nmX10 hown rfl (by decide) 5 (by decide) rfl (hts (.fieldLink RX10 58 "FactKeeper$Table" "keyCount" "I") (by decide +kernel)) (fun _ h9 => h9) rfl (by decide +kernel) (fun _ => rfl) (fun _ => rfl) dX10_makeKey_27 h (fun x6 h => ?_)
    refine k_iconst (v := 1) o hb dX10_makeKey_30 (by decide) ?_
    exact k_zret o hb B.hr fr dX10_makeKey_31 h
  · skip
    refine k_iconst (v := 0) o hb dX10_makeKey_8 (by decide) ?_
    exact k_zret o hb B.hr fr dX10_makeKey_9 h
theorem dX10_isThereNowFrom_0 : decode cX10_isThereNowFrom 0 = .ok (.aload_n 0, 1) := by decide +kernel
theorem dX10_isThereNowFrom_1 : decode cX10_isThereNowFrom 1 = .ok (.astore_n 3, 1) := by decide +kernel
theorem dX10_isThereNowFrom_2 : decode cX10_isThereNowFrom 2 = .ok (.aload_n 3, 1) := by decide +kernel
theorem dX10_isThereNowFrom_3 : decode cX10_isThereNowFrom 3 = .ok (.ifnull 31, 3) := by decide +kernel
theorem dX10_isThereNowFrom_6 : decode cX10_isThereNowFrom 6 = .ok (.aload_n 3, 1) := by decide +kernel
theorem dX10_isThereNowFrom_7 : decode cX10_isThereNowFrom 7 = .ok (.invokevirtual 61, 3) := by decide +kernel
theorem dX10_isThereNowFrom_10 : decode cX10_isThereNowFrom 10 = .ok (.ifCond .eq 14, 3) := by decide +kernel
theorem dX10_isThereNowFrom_13 : decode cX10_isThereNowFrom 13 = .ok (.aload_n 3, 1) := by decide +kernel
theorem dX10_isThereNowFrom_14 : decode cX10_isThereNowFrom 14 = .ok (.iload_n 1, 1) := by decide +kernel
theorem dX10_isThereNowFrom_15 : decode cX10_isThereNowFrom 15 = .ok (.aload_n 2, 1) := by decide +kernel
theorem dX10_isThereNowFrom_16 : decode cX10_isThereNowFrom 16 = .ok (.invokevirtual 71, 3) := by decide +kernel
theorem dX10_isThereNowFrom_19 : decode cX10_isThereNowFrom 19 = .ok (.ifCond .eq 5, 3) := by decide +kernel
theorem dX10_isThereNowFrom_22 : decode cX10_isThereNowFrom 22 = .ok (.iconst 1, 1) := by decide +kernel
theorem dX10_isThereNowFrom_23 : decode cX10_isThereNowFrom 23 = .ok (.ireturn, 1) := by decide +kernel
theorem dX10_isThereNowFrom_24 : decode cX10_isThereNowFrom 24 = .ok (.aload_n 3, 1) := by decide +kernel
theorem dX10_isThereNowFrom_25 : decode cX10_isThereNowFrom 25 = .ok (.getfield 52, 3) := by decide +kernel
theorem dX10_isThereNowFrom_28 : decode cX10_isThereNowFrom 28 = .ok (.iconst 4, 1) := by decide +kernel
theorem dX10_isThereNowFrom_29 : decode cX10_isThereNowFrom 29 = .ok (.aaload, 1) := by decide +kernel
theorem dX10_isThereNowFrom_30 : decode cX10_isThereNowFrom 30 = .ok (.astore_n 3, 1) := by decide +kernel
theorem dX10_isThereNowFrom_31 : decode cX10_isThereNowFrom 31 = .ok (.goto (-29), 3) := by decide +kernel
theorem dX10_isThereNowFrom_34 : decode cX10_isThereNowFrom 34 = .ok (.iconst 0, 1) := by decide +kernel
theorem dX10_isThereNowFrom_35 : decode cX10_isThereNowFrom 35 = .ok (.ireturn, 1) := by decide +kernel
theorem i9wsX10_isThereNowFrom_0 : ∀ w ∈ ([.fieldLink RX10 52 "FactKeeper$Fact" "behind" "[LFactKeeper$Fact;", .methodLink RX10 61 yX1_isThereNow, .instanceMethod yX1_isThereNow, .selects RX1 yX1_isThereNow yX1_isThereNow, .initialized RX1, .code yX1_isThereNow cX1_isThereNow 1 (some .boolean), .fieldLink RX1 23 "FactKeeper$Fact" "died" "I", .methodLink RX10 71 yX1_fits, .instanceMethod yX1_fits, .selects RX1 yX1_fits yX1_fits, .code yX1_fits cX1_fits 4 (some .boolean), .fieldLink RX1 9 "FactKeeper$Fact" "columns" "[I", .static yX11_isIn, .initialized RX11, .code yX11_isIn cX11_isIn 2 (some .boolean)] : List Cond), w ∈ wsX10_isThereNowFrom := fun _ h => (List.mem_cons_of_mem _ (List.mem_append_left _ h))
theorem i9wsX10_isThereNowFrom_1 : ∀ w ∈ wsX10, w ∈ wsX10_isThereNowFrom := fun _ h => (List.mem_cons_of_mem _ (List.mem_append_right _ h))
set_option maxRecDepth 20000 in
theorem ggX10_isThereNowFrom_X1_isThereNow : GoodIn wsX10_isThereNowFrom wsX1_isThereNow := (gin_c (mem_at i9wsX10_isThereNowFrom_0 5 rfl) rfl (goodIn_app (gin_c (mem_at i9wsX10_isThereNowFrom_0 6 rfl) rfl gin_n) (goodIn_sub i9wsX10_isThereNowFrom_1 g9_0)))
set_option maxRecDepth 20000 in
theorem gX10_isThereNowFrom_X1_isThereNow : GoodIn wsX10_isThereNowFrom (wsV RX10 61 RX1 yX1_isThereNow wsX1_isThereNow) := goodIn_app (gin_c (mem_at i9wsX10_isThereNowFrom_0 1 rfl) rfl (gin_c (mem_at i9wsX10_isThereNowFrom_0 2 rfl) rfl (gin_c (mem_at i9wsX10_isThereNowFrom_0 3 rfl) rfl (gin_c (mem_at i9wsX10_isThereNowFrom_0 4 rfl) rfl gin_n)))) ggX10_isThereNowFrom_X1_isThereNow
set_option maxRecDepth 20000 in
theorem ggX10_isThereNowFrom_X1_fits : GoodIn wsX10_isThereNowFrom wsX1_fits := (gin_c (mem_at i9wsX10_isThereNowFrom_0 10 rfl) rfl (goodIn_app (gin_c (mem_at i9wsX10_isThereNowFrom_0 11 rfl) rfl (gin_c (mem_at i9wsX10_isThereNowFrom_0 12 rfl) rfl (gin_c (mem_at i9wsX10_isThereNowFrom_0 13 rfl) rfl (gin_c (mem_at i9wsX10_isThereNowFrom_0 14 rfl) rfl gin_n)))) (goodIn_sub i9wsX10_isThereNowFrom_1 g9_0)))
set_option maxRecDepth 20000 in
theorem gX10_isThereNowFrom_X1_fits : GoodIn wsX10_isThereNowFrom (wsV RX10 71 RX1 yX1_fits wsX1_fits) := goodIn_app (gin_c (mem_at i9wsX10_isThereNowFrom_0 7 rfl) rfl (gin_c (mem_at i9wsX10_isThereNowFrom_0 8 rfl) rfl (gin_c (mem_at i9wsX10_isThereNowFrom_0 9 rfl) rfl (gin_c (mem_at i9wsX10_isThereNowFrom_0 4 rfl) rfl gin_n)))) ggX10_isThereNowFrom_X1_fits
set_option maxHeartbeats 4000000 in
set_option maxRecDepth 100000 in
theorem T_X10_isThereNowFrom (l : Launch) (hl : l.stackTraces = false) (D : va_G) (cA : Nat → ClassId) {l0 : Option Nat} {l1 : Int32} {l2 : Option Nat} {x : HS} {Q : Int32 → HS → Prop} {X : String → HS → Prop} (h : w_X10_isThereNowFrom l0 l1 l2 x Q X) : YI l yX10_isThereNowFrom wsX10_isThereNowFrom 2 44 D cA [.q l0, .i l1, .q l2] x Q X := by
  refine YI.of (cc := cX10_isThereNowFrom) (maxL := 4) (ret := (some .boolean)) hl (by decide) rfl rfl (fun g B fr => ?_)
  have o := B.o
  have hb := B.hb
  have hts := B.hts
  have hown : g.s.vm.findClass RX10 = some g.m.cls := B.hown
  have in1 : ∀ w ∈ u_ws RX1 TX1 7, w ∈ wsX10_isThereNowFrom := fun w h => (List.mem_cons_of_mem _ (List.mem_append_right _ h))
  unfold w_X10_isThereNowFrom at h
  show KW g 4 0 [(0, .q l0), (1, .i l1), (2, .q l2)] [] x
  refine k_aload_n o hb dX10_isThereNowFrom_0 rfl 0 rfl ?_
  refine k_astore_n o hb dX10_isThereNowFrom_1 rfl rfl ?_
  refine KW.sub [2, 3, 0] rfl ?_
  refine wLoop_elim (M := fun (v4 : Option Nat) (x3 : HS) => KW g 4 2 [(1, .i l1), (2, .q l2), (3, .q v4)] [] x3) h ?_
  intro v4 x3 again1 ih2 h
  refine k_aload_n o hb dX10_isThereNowFrom_2 rfl 2 rfl ?_
  refine k_ifnull (tgt := 34) o hb dX10_isThereNowFrom_3 (by decide) h (fun h => ?_) (fun h => ?_)
  · skip
    refine k_iconst (v := 0) o hb dX10_isThereNowFrom_34 (by decide) ?_
    exact k_zret o hb B.hr fr dX10_isThereNowFrom_35 h
  · skip
    refine k_aload_n o hb dX10_isThereNowFrom_6 rfl 2 rfl ?_
    refine k_run_i o (fun _ _ q => q) (k_runV (ci := 1) (rc := (RX1, TX1, 7)) o hb B.hml hown hts rfl (by decide) (T_X1_isThereNow g.l o.hl g.D g.cA h.2) (cwV 0 hts gX10_isThereNowFrom_X1_isThereNow rfl rfl rfl (by decide +kernel) ⟨yle B.hR1 rfl, yle B.hR2 rfl⟩) h.1 rfl rfl (Nat.le_of_ble_eq_true rfl) dX10_isThereNowFrom_7) (fun v6 x5 h => ?_)
    refine wJoin_elim (M := fun K => ∀  (x8 : HS), K  x8 → KW g 4 24 [(1, .i l1), (2, .q l2), (3, .q v4)] [] x8) h ?_ (fun j7 hj7 h => ?_)
    · skip
      intro  x8 h
      refine k_aload_n o hb dX10_isThereNowFrom_24 rfl 2 rfl ?_
      refine k_getF (C := RX1) (T := TX1) (N := 7) o hb hts in1 hown rfl (by decide) 1 (by decide) rfl (hts (.fieldLink RX10 52 "FactKeeper$Fact" "behind" "[LFactKeeper$Fact;") (by decide +kernel)) (fun _ h9 => h9) dX10_isThereNowFrom_25 h (fun v9 h => ?_)
      refine k_iconst (v := 4) o hb dX10_isThereNowFrom_28 (by decide) ?_
      refine k_aald (kd := 25) (t0 := 4) o hb rfl (by decide) dX10_isThereNowFrom_29 h (fun v10 h => ?_)
      refine k_astore_n o hb dX10_isThereNowFrom_30 rfl rfl ?_
      refine k_goto (tgt := 2) o hb dX10_isThereNowFrom_31 (by decide) ?_
      exact KW.sub [1, 2, 0] rfl (ih2 v10 x8 h)
    · skip
      refine k_if_eq (tgt := 24) o hb dX10_isThereNowFrom_10 (by decide) h (fun h => ?_) (fun h => ?_)
      · skip
        exact KW.sub [0, 1, 2] rfl (hj7 x5 h)
      · skip
        refine k_aload_n o hb dX10_isThereNowFrom_13 rfl 2 rfl ?_
        refine k_iload_n o hb dX10_isThereNowFrom_14 rfl 0 rfl ?_
        refine k_aload_n o hb dX10_isThereNowFrom_15 rfl 1 rfl ?_
        refine k_run_i o (fun _ _ q => q) (k_runV (ci := 1) (rc := (RX1, TX1, 7)) o hb B.hml hown hts rfl (by decide) (T_X1_fits g.l o.hl g.D g.cA h.2) (cwV 2 hts gX10_isThereNowFrom_X1_fits rfl rfl rfl (by decide +kernel) ⟨yle B.hR1 rfl, yle B.hR2 rfl⟩) h.1 rfl rfl (Nat.le_of_ble_eq_true rfl) dX10_isThereNowFrom_16) (fun v12 x11 h => ?_)
        refine k_if_eq (tgt := 24) o hb dX10_isThereNowFrom_19 (by decide) h (fun h => ?_) (fun h => ?_)
        · skip
          exact KW.sub [0, 1, 2] rfl (hj7 x11 h)
        · skip
          refine k_iconst (v := 1) o hb dX10_isThereNowFrom_22 (by decide) ?_
          exact k_zret o hb B.hr fr dX10_isThereNowFrom_23 h
theorem dX10_hasTwins_0 : decode cX10_hasTwins 0 = .ok (.aload_n 0, 1) := by decide +kernel
theorem dX10_hasTwins_1 : decode cX10_hasTwins 1 = .ok (.getfield 14, 3) := by decide +kernel
theorem dX10_hasTwins_4 : decode cX10_hasTwins 4 = .ok (.getfield 40, 3) := by decide +kernel
theorem dX10_hasTwins_7 : decode cX10_hasTwins 7 = .ok (.astore_n 2, 1) := by decide +kernel
theorem dX10_hasTwins_8 : decode cX10_hasTwins 8 = .ok (.aload_n 2, 1) := by decide +kernel
theorem dX10_hasTwins_9 : decode cX10_hasTwins 9 = .ok (.ifnull 39, 3) := by decide +kernel
theorem dX10_hasTwins_12 : decode cX10_hasTwins 12 = .ok (.aload_n 2, 1) := by decide +kernel
theorem dX10_hasTwins_13 : decode cX10_hasTwins 13 = .ok (.invokevirtual 61, 3) := by decide +kernel
theorem dX10_hasTwins_16 : decode cX10_hasTwins 16 = .ok (.ifCond .eq 22, 3) := by decide +kernel
theorem dX10_hasTwins_19 : decode cX10_hasTwins 19 = .ok (.aload_n 2, 1) := by decide +kernel
theorem dX10_hasTwins_20 : decode cX10_hasTwins 20 = .ok (.getfield 52, 3) := by decide +kernel
theorem dX10_hasTwins_23 : decode cX10_hasTwins 23 = .ok (.iconst 4, 1) := by decide +kernel
theorem dX10_hasTwins_24 : decode cX10_hasTwins 24 = .ok (.aaload, 1) := by decide +kernel
theorem dX10_hasTwins_25 : decode cX10_hasTwins 25 = .ok (.iload_n 1, 1) := by decide +kernel
theorem dX10_hasTwins_26 : decode cX10_hasTwins 26 = .ok (.aload_n 2, 1) := by decide +kernel
theorem dX10_hasTwins_27 : decode cX10_hasTwins 27 = .ok (.getfield 65, 3) := by decide +kernel
theorem dX10_hasTwins_30 : decode cX10_hasTwins 30 = .ok (.invokestatic 67, 3) := by decide +kernel
theorem dX10_hasTwins_33 : decode cX10_hasTwins 33 = .ok (.ifCond .eq 5, 3) := by decide +kernel
theorem dX10_hasTwins_36 : decode cX10_hasTwins 36 = .ok (.iconst 1, 1) := by decide +kernel
theorem dX10_hasTwins_37 : decode cX10_hasTwins 37 = .ok (.ireturn, 1) := by decide +kernel
theorem dX10_hasTwins_38 : decode cX10_hasTwins 38 = .ok (.aload_n 2, 1) := by decide +kernel
theorem dX10_hasTwins_39 : decode cX10_hasTwins 39 = .ok (.getfield 52, 3) := by decide +kernel
theorem dX10_hasTwins_42 : decode cX10_hasTwins 42 = .ok (.iconst 4, 1) := by decide +kernel
theorem dX10_hasTwins_43 : decode cX10_hasTwins 43 = .ok (.aaload, 1) := by decide +kernel
theorem dX10_hasTwins_44 : decode cX10_hasTwins 44 = .ok (.astore_n 2, 1) := by decide +kernel
theorem dX10_hasTwins_45 : decode cX10_hasTwins 45 = .ok (.goto (-37), 3) := by decide +kernel
theorem dX10_hasTwins_48 : decode cX10_hasTwins 48 = .ok (.iconst 0, 1) := by decide +kernel
theorem dX10_hasTwins_49 : decode cX10_hasTwins 49 = .ok (.ireturn, 1) := by decide +kernel
theorem i9wsX10_hasTwins_0 : ∀ w ∈ ([.fieldLink RX10 14 "FactKeeper$Table" "row" "LFactKeeper$Chain;", .fieldLink RX10 40 "FactKeeper$Chain" "first" "LFactKeeper$Fact;", .fieldLink RX10 52 "FactKeeper$Fact" "behind" "[LFactKeeper$Fact;", .fieldLink RX10 65 "FactKeeper$Fact" "columns" "[I", .methodLink RX10 61 yX1_isThereNow, .instanceMethod yX1_isThereNow, .selects RX1 yX1_isThereNow yX1_isThereNow, .initialized RX1, .code yX1_isThereNow cX1_isThereNow 1 (some .boolean), .fieldLink RX1 23 "FactKeeper$Fact" "died" "I", .methodLink RX10 67 yX10_isThereNowFrom, .static yX10_isThereNowFrom, .initialized RX10, .code yX10_isThereNowFrom cX10_isThereNowFrom 4 (some .boolean), .methodLink RX10 71 yX1_fits, .instanceMethod yX1_fits, .selects RX1 yX1_fits yX1_fits, .code yX1_fits cX1_fits 4 (some .boolean), .fieldLink RX1 9 "FactKeeper$Fact" "columns" "[I", .static yX11_isIn, .initialized RX11, .code yX11_isIn cX11_isIn 2 (some .boolean)] : List Cond), w ∈ wsX10_hasTwins := fun _ h => (List.mem_cons_of_mem _ (List.mem_append_left _ (List.mem_append_left _ (List.mem_append_left _ h))))
theorem i9wsX10_hasTwins_3 : ∀ w ∈ wsX10, w ∈ wsX10_hasTwins := fun _ h => (List.mem_cons_of_mem _ (List.mem_append_right _ h))
set_option maxRecDepth 20000 in
theorem ggX10_hasTwins_X1_isThereNow : GoodIn wsX10_hasTwins wsX1_isThereNow := (gin_c (mem_at i9wsX10_hasTwins_0 8 rfl) rfl (goodIn_app (gin_c (mem_at i9wsX10_hasTwins_0 9 rfl) rfl gin_n) (goodIn_sub i9wsX10_hasTwins_3 g9_0)))
set_option maxRecDepth 20000 in
theorem gX10_hasTwins_X1_isThereNow : GoodIn wsX10_hasTwins (wsV RX10 61 RX1 yX1_isThereNow wsX1_isThereNow) := goodIn_app (gin_c (mem_at i9wsX10_hasTwins_0 4 rfl) rfl (gin_c (mem_at i9wsX10_hasTwins_0 5 rfl) rfl (gin_c (mem_at i9wsX10_hasTwins_0 6 rfl) rfl (gin_c (mem_at i9wsX10_hasTwins_0 7 rfl) rfl gin_n)))) ggX10_hasTwins_X1_isThereNow
set_option maxRecDepth 20000 in
theorem ggX10_hasTwins_X10_isThereNowFrom : GoodIn wsX10_hasTwins wsX10_isThereNowFrom := (gin_c (mem_at i9wsX10_hasTwins_0 13 rfl) rfl (goodIn_app (gin_c (mem_at i9wsX10_hasTwins_0 2 rfl) rfl (gin_c (mem_at i9wsX10_hasTwins_0 4 rfl) rfl (gin_c (mem_at i9wsX10_hasTwins_0 5 rfl) rfl (gin_c (mem_at i9wsX10_hasTwins_0 6 rfl) rfl (gin_c (mem_at i9wsX10_hasTwins_0 7 rfl) rfl (gin_c (mem_at i9wsX10_hasTwins_0 8 rfl) rfl (gin_c (mem_at i9wsX10_hasTwins_0 9 rfl) rfl (gin_c (mem_at i9wsX10_hasTwins_0 14 rfl) rfl (gin_c (mem_at i9wsX10_hasTwins_0 15 rfl) rfl (gin_c (mem_at i9wsX10_hasTwins_0 16 rfl) rfl (gin_c (mem_at i9wsX10_hasTwins_0 17 rfl) rfl (gin_c (mem_at i9wsX10_hasTwins_0 18 rfl) rfl (gin_c (mem_at i9wsX10_hasTwins_0 19 rfl) rfl (gin_c (mem_at i9wsX10_hasTwins_0 20 rfl) rfl (gin_c (mem_at i9wsX10_hasTwins_0 21 rfl) rfl gin_n))))))))))))))) (goodIn_sub i9wsX10_hasTwins_3 g9_0)))
set_option maxRecDepth 20000 in
theorem gX10_hasTwins_X10_isThereNowFrom : GoodIn wsX10_hasTwins (va_wsS RX10 67 yX10_isThereNowFrom wsX10_isThereNowFrom) := goodIn_app (gin_c (mem_at i9wsX10_hasTwins_0 10 rfl) rfl (gin_c (mem_at i9wsX10_hasTwins_0 11 rfl) rfl (gin_c (mem_at i9wsX10_hasTwins_0 12 rfl) rfl gin_n))) ggX10_hasTwins_X10_isThereNowFrom
set_option maxHeartbeats 4000000 in
set_option maxRecDepth 100000 in
theorem T_X10_hasTwins (l : Launch) (hl : l.stackTraces = false) (D : va_G) (cA : Nat → ClassId) {l0 : Option Nat} {l1 : Int32} {x : HS} {Q : Int32 → HS → Prop} {X : String → HS → Prop} (h : w_X10_hasTwins l0 l1 x Q X) : YI l yX10_hasTwins wsX10_hasTwins 3 67 D cA [.q l0, .i l1] x Q X := by
  refine YI.of (cc := cX10_hasTwins) (maxL := 3) (ret := (some .boolean)) hl (by decide) rfl rfl (fun g B fr => ?_)
  have o := B.o
  have hb := B.hb
  have hts := B.hts
  have hown : g.s.vm.findClass RX10 = some g.m.cls := B.hown
  have in0 : ∀ w ∈ u_ws RX0 TX0 5, w ∈ wsX10_hasTwins := fun w h => (List.mem_cons_of_mem _ (List.mem_append_left _ (List.mem_append_right _ h)))
  have in1 : ∀ w ∈ u_ws RX1 TX1 7, w ∈ wsX10_hasTwins := fun w h => (List.mem_cons_of_mem _ (List.mem_append_right _ h))
  have in10 : ∀ w ∈ u_ws RX10 TX10 6, w ∈ wsX10_hasTwins := fun w h => (List.mem_cons_of_mem _ (List.mem_append_left _ (List.mem_append_left _ (List.mem_append_right _ h))))
  unfold w_X10_hasTwins at h
  show KW g 3 0 [(0, .q l0), (1, .i l1)] [] x
  refine k_aload_n o hb dX10_hasTwins_0 rfl 0 rfl ?_
  refine k_getF (C := RX10) (T := TX10) (N := 6) o hb hts in10 hown rfl (by decide) 2 (by decide) rfl (hts (.fieldLink RX10 14 "FactKeeper$Table" "row" "LFactKeeper$Chain;") (by decide +kernel)) (fun _ h9 => h9) dX10_hasTwins_1 h (fun v1 h => ?_)
  refine k_getF (C := RX0) (T := TX0) (N := 5) o hb hts in0 hown rfl (by decide) 3 (by decide) rfl (hts (.fieldLink RX10 40 "FactKeeper$Chain" "first" "LFactKeeper$Fact;") (by decide +kernel)) (fun _ h9 => h9) dX10_hasTwins_4 h (fun v2 h => ?_)
  refine k_astore_n o hb dX10_hasTwins_7 rfl rfl ?_
  refine KW.sub [2, 0] rfl ?_
  refine wLoop_elim (M := fun (v6 : Option Nat) (x5 : HS) => KW g 3 8 [(1, .i l1), (2, .q v6)] [] x5) h ?_
  intro v6 x5 again3 ih4 h
  refine k_aload_n o hb dX10_hasTwins_8 rfl 1 rfl ?_
  refine k_ifnull (tgt := 48) o hb dX10_hasTwins_9 (by decide) h (fun h => ?_) (fun h => ?_)
  · skip
    refine k_iconst (v := 0) o hb dX10_hasTwins_48 (by decide) ?_
    exact k_zret o hb B.hr fr dX10_hasTwins_49 h
  · skip
    refine k_aload_n o hb dX10_hasTwins_12 rfl 1 rfl ?_
    refine k_run_i o (fun _ _ q => q) (k_runV (ci := 1) (rc := (RX1, TX1, 7)) o hb B.hml hown hts rfl (by decide) (T_X1_isThereNow g.l o.hl g.D g.cA h.2) (cwV 0 hts gX10_hasTwins_X1_isThereNow rfl rfl rfl (by decide +kernel) ⟨yle B.hR1 rfl, yle B.hR2 rfl⟩) h.1 rfl rfl (Nat.le_of_ble_eq_true rfl) dX10_hasTwins_13) (fun v8 x7 h => ?_)
    refine wJoin_elim (M := fun K => ∀  (x10 : HS), K  x10 → KW g 3 38 [(1, .i l1), (2, .q v6)] [] x10) h ?_ (fun j9 hj9 h => ?_)
    · skip
      intro  x10 h
      refine k_aload_n o hb dX10_hasTwins_38 rfl 1 rfl ?_
      refine k_getF (C := RX1) (T := TX1) (N := 7) o hb hts in1 hown rfl (by decide) 1 (by decide) rfl (hts (.fieldLink RX10 52 "FactKeeper$Fact" "behind" "[LFactKeeper$Fact;") (by decide +kernel)) (fun _ h9 => h9) dX10_hasTwins_39 h (fun v11 h => ?_)
      refine k_iconst (v := 4) o hb dX10_hasTwins_42 (by decide) ?_
      refine k_aald (kd := 25) (t0 := 4) o hb rfl (by decide) dX10_hasTwins_43 h (fun v12 h => ?_)
      refine k_astore_n o hb dX10_hasTwins_44 rfl rfl ?_
      refine k_goto (tgt := 8) o hb dX10_hasTwins_45 (by decide) ?_
      exact KW.sub [1, 0] rfl (ih4 v12 x10 h)
    · skip
      refine k_if_eq (tgt := 38) o hb dX10_hasTwins_16 (by decide) h (fun h => ?_) (fun h => ?_)
      · skip
        exact KW.sub [0, 1] rfl (hj9 x7 h)
      · skip
        refine k_aload_n o hb dX10_hasTwins_19 rfl 1 rfl ?_
        refine k_getF (C := RX1) (T := TX1) (N := 7) o hb hts in1 hown rfl (by decide) 1 (by decide) rfl (hts (.fieldLink RX10 52 "FactKeeper$Fact" "behind" "[LFactKeeper$Fact;") (by decide +kernel)) (fun _ h9 => h9) dX10_hasTwins_20 h (fun v13 h => ?_)
        refine k_iconst (v := 4) o hb dX10_hasTwins_23 (by decide) ?_
        refine k_aald (kd := 25) (t0 := 4) o hb rfl (by decide) dX10_hasTwins_24 h (fun v14 h => ?_)
        refine k_iload_n o hb dX10_hasTwins_25 rfl 0 rfl ?_
        refine k_aload_n o hb dX10_hasTwins_26 rfl 1 rfl ?_
        refine k_getF (C := RX1) (T := TX1) (N := 7) o hb hts in1 hown rfl (by decide) 0 (by decide) rfl (hts (.fieldLink RX10 65 "FactKeeper$Fact" "columns" "[I") (by decide +kernel)) (fun _ h9 => h9) dX10_hasTwins_27 h (fun v15 h => ?_)
        refine k_run_i o (fun _ _ q => q) (k_runS o hb B.hml hown hts (T_X10_isThereNowFrom g.l o.hl g.D g.cA h) (va_cwS 3 hts gX10_hasTwins_X10_isThereNowFrom rfl rfl rfl (by decide +kernel) ⟨yle B.hR1 rfl, yle B.hR2 rfl⟩) rfl rfl (Nat.le_of_ble_eq_true rfl) dX10_hasTwins_30) (fun v17 x16 h => ?_)
        refine k_if_eq (tgt := 38) o hb dX10_hasTwins_33 (by decide) h (fun h => ?_) (fun h => ?_)
        · skip
          exact KW.sub [0, 1] rfl (hj9 x16 h)
        · skip
          refine k_iconst (v := 1) o hb dX10_hasTwins_36 (by decide) ?_
          exact k_zret o hb B.hr fr dX10_hasTwins_37 h
theorem dX10_breaksKey_0 : decode cX10_breaksKey 0 = .ok (.iconst 0, 1) := by decide +kernel
theorem dX10_breaksKey_1 : decode cX10_breaksKey 1 = .ok (.istore_n 2, 1) := by decide +kernel
theorem dX10_breaksKey_2 : decode cX10_breaksKey 2 = .ok (.iload_n 2, 1) := by decide +kernel
theorem dX10_breaksKey_3 : decode cX10_breaksKey 3 = .ok (.aload_n 0, 1) := by decide +kernel
theorem dX10_breaksKey_4 : decode cX10_breaksKey 4 = .ok (.getfield 58, 3) := by decide +kernel
theorem dX10_breaksKey_7 : decode cX10_breaksKey 7 = .ok (.if_icmp .ge 31, 3) := by decide +kernel
theorem dX10_breaksKey_10 : decode cX10_breaksKey 10 = .ok (.aload_n 0, 1) := by decide +kernel
theorem dX10_breaksKey_11 : decode cX10_breaksKey 11 = .ok (.getfield 14, 3) := by decide +kernel
theorem dX10_breaksKey_14 : decode cX10_breaksKey 14 = .ok (.getfield 40, 3) := by decide +kernel
theorem dX10_breaksKey_17 : decode cX10_breaksKey 17 = .ok (.aload_n 0, 1) := by decide +kernel
theorem dX10_breaksKey_18 : decode cX10_breaksKey 18 = .ok (.getfield 26, 3) := by decide +kernel
theorem dX10_breaksKey_21 : decode cX10_breaksKey 21 = .ok (.iload_n 2, 1) := by decide +kernel
theorem dX10_breaksKey_22 : decode cX10_breaksKey 22 = .ok (.iaload, 1) := by decide +kernel
theorem dX10_breaksKey_23 : decode cX10_breaksKey 23 = .ok (.aload_n 1, 1) := by decide +kernel
theorem dX10_breaksKey_24 : decode cX10_breaksKey 24 = .ok (.invokestatic 67, 3) := by decide +kernel
theorem dX10_breaksKey_27 : decode cX10_breaksKey 27 = .ok (.ifCond .eq 5, 3) := by decide +kernel
theorem dX10_breaksKey_30 : decode cX10_breaksKey 30 = .ok (.iconst 1, 1) := by decide +kernel
theorem dX10_breaksKey_31 : decode cX10_breaksKey 31 = .ok (.ireturn, 1) := by decide +kernel
theorem dX10_breaksKey_32 : decode cX10_breaksKey 32 = .ok (.iinc 2 1, 3) := by decide +kernel
theorem dX10_breaksKey_35 : decode cX10_breaksKey 35 = .ok (.goto (-33), 3) := by decide +kernel
theorem dX10_breaksKey_38 : decode cX10_breaksKey 38 = .ok (.iconst 0, 1) := by decide +kernel
theorem dX10_breaksKey_39 : decode cX10_breaksKey 39 = .ok (.ireturn, 1) := by decide +kernel
theorem i9wsX10_breaksKey_0 : ∀ w ∈ ([.fieldLink RX10 58 "FactKeeper$Table" "keyCount" "I", .fieldLink RX10 14 "FactKeeper$Table" "row" "LFactKeeper$Chain;", .fieldLink RX10 40 "FactKeeper$Chain" "first" "LFactKeeper$Fact;", .fieldLink RX10 26 "FactKeeper$Table" "keys" "[I", .methodLink RX10 67 yX10_isThereNowFrom, .static yX10_isThereNowFrom, .initialized RX10, .code yX10_isThereNowFrom cX10_isThereNowFrom 4 (some .boolean), .fieldLink RX10 52 "FactKeeper$Fact" "behind" "[LFactKeeper$Fact;", .methodLink RX10 61 yX1_isThereNow, .instanceMethod yX1_isThereNow, .selects RX1 yX1_isThereNow yX1_isThereNow, .initialized RX1, .code yX1_isThereNow cX1_isThereNow 1 (some .boolean), .fieldLink RX1 23 "FactKeeper$Fact" "died" "I", .methodLink RX10 71 yX1_fits, .instanceMethod yX1_fits, .selects RX1 yX1_fits yX1_fits, .code yX1_fits cX1_fits 4 (some .boolean), .fieldLink RX1 9 "FactKeeper$Fact" "columns" "[I", .static yX11_isIn, .initialized RX11, .code yX11_isIn cX11_isIn 2 (some .boolean)] : List Cond), w ∈ wsX10_breaksKey := fun _ h => (List.mem_cons_of_mem _ (List.mem_append_left _ (List.mem_append_left _ (List.mem_append_left _ h))))
theorem i9wsX10_breaksKey_3 : ∀ w ∈ wsX10, w ∈ wsX10_breaksKey := fun _ h => (List.mem_cons_of_mem _ (List.mem_append_right _ h))
set_option maxRecDepth 20000 in
theorem ggX10_breaksKey_X10_isThereNowFrom : GoodIn wsX10_breaksKey wsX10_isThereNowFrom := (gin_c (mem_at i9wsX10_breaksKey_0 7 rfl) rfl (goodIn_app (gin_c (mem_at i9wsX10_breaksKey_0 8 rfl) rfl (gin_c (mem_at i9wsX10_breaksKey_0 9 rfl) rfl (gin_c (mem_at i9wsX10_breaksKey_0 10 rfl) rfl (gin_c (mem_at i9wsX10_breaksKey_0 11 rfl) rfl (gin_c (mem_at i9wsX10_breaksKey_0 12 rfl) rfl (gin_c (mem_at i9wsX10_breaksKey_0 13 rfl) rfl (gin_c (mem_at i9wsX10_breaksKey_0 14 rfl) rfl (gin_c (mem_at i9wsX10_breaksKey_0 15 rfl) rfl (gin_c (mem_at i9wsX10_breaksKey_0 16 rfl) rfl (gin_c (mem_at i9wsX10_breaksKey_0 17 rfl) rfl (gin_c (mem_at i9wsX10_breaksKey_0 18 rfl) rfl (gin_c (mem_at i9wsX10_breaksKey_0 19 rfl) rfl (gin_c (mem_at i9wsX10_breaksKey_0 20 rfl) rfl (gin_c (mem_at i9wsX10_breaksKey_0 21 rfl) rfl (gin_c (mem_at i9wsX10_breaksKey_0 22 rfl) rfl gin_n))))))))))))))) (goodIn_sub i9wsX10_breaksKey_3 g9_0)))
set_option maxRecDepth 20000 in
theorem gX10_breaksKey_X10_isThereNowFrom : GoodIn wsX10_breaksKey (va_wsS RX10 67 yX10_isThereNowFrom wsX10_isThereNowFrom) := goodIn_app (gin_c (mem_at i9wsX10_breaksKey_0 4 rfl) rfl (gin_c (mem_at i9wsX10_breaksKey_0 5 rfl) rfl (gin_c (mem_at i9wsX10_breaksKey_0 6 rfl) rfl gin_n))) ggX10_breaksKey_X10_isThereNowFrom
set_option maxHeartbeats 4000000 in
set_option maxRecDepth 100000 in
theorem T_X10_breaksKey (l : Launch) (hl : l.stackTraces = false) (D : va_G) (cA : Nat → ClassId) {l0 : Option Nat} {l1 : Option Nat} {x : HS} {Q : Int32 → HS → Prop} {X : String → HS → Prop} (h : w_X10_breaksKey l0 l1 x Q X) : YI l yX10_breaksKey wsX10_breaksKey 3 67 D cA [.q l0, .q l1] x Q X := by
  refine YI.of (cc := cX10_breaksKey) (maxL := 3) (ret := (some .boolean)) hl (by decide) rfl rfl (fun g B fr => ?_)
  have o := B.o
  have hb := B.hb
  have hts := B.hts
  have hown : g.s.vm.findClass RX10 = some g.m.cls := B.hown
  have in0 : ∀ w ∈ u_ws RX0 TX0 5, w ∈ wsX10_breaksKey := fun w h => (List.mem_cons_of_mem _ (List.mem_append_left _ (List.mem_append_right _ h)))
  have in10 : ∀ w ∈ u_ws RX10 TX10 6, w ∈ wsX10_breaksKey := fun w h => (List.mem_cons_of_mem _ (List.mem_append_left _ (List.mem_append_left _ (List.mem_append_right _ h))))
  unfold w_X10_breaksKey at h
  show KW g 3 0 [(0, .q l0), (1, .q l1)] [] x
  refine k_iconst (v := 0) o hb dX10_breaksKey_0 (by decide) ?_
  refine k_istore_n o hb dX10_breaksKey_1 rfl rfl ?_
  refine KW.sub [1, 2, 0] rfl ?_
  refine wLoop_elim (M := fun (v4 : Int32) (x3 : HS) => KW g 3 2 [(0, .q l0), (1, .q l1), (2, .i v4)] [] x3) h ?_
  intro v4 x3 again1 ih2 h
  refine k_iload_n o hb dX10_breaksKey_2 rfl 2 rfl ?_
  refine k_aload_n o hb dX10_breaksKey_3 rfl 0 rfl ?_
  refine k_getI (C := RX10) (T := TX10) (N := 6) o hb hts in10 hown rfl (by decide) 5 (by decide) rfl (hts (.fieldLink RX10 58 "FactKeeper$Table" "keyCount" "I") (by decide +kernel)) (fun _ h9 => h9) dX10_breaksKey_4 h (fun v5 h => ?_)
  refine k_icmp_ge (tgt := 38) o hb dX10_breaksKey_7 (by decide) h (fun h => ?_) (fun h => ?_)
  · skip
    refine k_iconst (v := 0) o hb dX10_breaksKey_38 (by decide) ?_
    exact k_zret o hb B.hr fr dX10_breaksKey_39 h
  · skip
    refine k_aload_n o hb dX10_breaksKey_10 rfl 0 rfl ?_
    refine k_getF (C := RX10) (T := TX10) (N := 6) o hb hts in10 hown rfl (by decide) 2 (by decide) rfl (hts (.fieldLink RX10 14 "FactKeeper$Table" "row" "LFactKeeper$Chain;") (by decide +kernel)) (fun _ h9 => h9) dX10_breaksKey_11 h (fun v6 h => ?_)
    refine k_getF (C := RX0) (T := TX0) (N := 5) o hb hts in0 hown rfl (by decide) 3 (by decide) rfl (hts (.fieldLink RX10 40 "FactKeeper$Chain" "first" "LFactKeeper$Fact;") (by decide +kernel)) (fun _ h9 => h9) dX10_breaksKey_14 h (fun v7 h => ?_)
    refine k_aload_n o hb dX10_breaksKey_17 rfl 0 rfl ?_
    refine k_getF (C := RX10) (T := TX10) (N := 6) o hb hts in10 hown rfl (by decide) 4 (by decide) rfl (hts (.fieldLink RX10 26 "FactKeeper$Table" "keys" "[I") (by decide +kernel)) (fun _ h9 => h9) dX10_breaksKey_18 h (fun v8 h => ?_)
    refine k_iload_n o hb dX10_breaksKey_21 rfl 2 rfl ?_
    refine k_iald o hb dX10_breaksKey_22 h (fun v9 h => ?_)
    refine k_aload_n o hb dX10_breaksKey_23 rfl 1 rfl ?_
    refine k_run_i o (fun _ _ q => q) (k_runS o hb B.hml hown hts (T_X10_isThereNowFrom g.l o.hl g.D g.cA h) (va_cwS 3 hts gX10_breaksKey_X10_isThereNowFrom rfl rfl rfl (by decide +kernel) ⟨yle B.hR1 rfl, yle B.hR2 rfl⟩) rfl rfl (Nat.le_of_ble_eq_true rfl) dX10_breaksKey_24) (fun v11 x10 h => ?_)
    refine k_if_eq (tgt := 32) o hb dX10_breaksKey_27 (by decide) h (fun h => ?_) (fun h => ?_)
    · skip
      refine k_iinc (w := 1) o hb dX10_breaksKey_32 2 rfl (by decide) rfl ?_
      refine k_goto (tgt := 2) o hb dX10_breaksKey_35 (by decide) ?_
      exact KW.sub [1, 2, 0] rfl (ih2 (v4 + 1) x10 h)
    · skip
      refine k_iconst (v := 1) o hb dX10_breaksKey_30 (by decide) ?_
      exact k_zret o hb B.hr fr dX10_breaksKey_31 h
theorem dX10_factsThereNow_0 : decode cX10_factsThereNow 0 = .ok (.iconst 0, 1) := by decide +kernel
theorem dX10_factsThereNow_1 : decode cX10_factsThereNow 1 = .ok (.istore_n 1, 1) := by decide +kernel
theorem dX10_factsThereNow_2 : decode cX10_factsThereNow 2 = .ok (.aload_n 0, 1) := by decide +kernel
theorem dX10_factsThereNow_3 : decode cX10_factsThereNow 3 = .ok (.getfield 14, 3) := by decide +kernel
theorem dX10_factsThereNow_6 : decode cX10_factsThereNow 6 = .ok (.getfield 40, 3) := by decide +kernel
theorem dX10_factsThereNow_9 : decode cX10_factsThereNow 9 = .ok (.astore_n 2, 1) := by decide +kernel
theorem dX10_factsThereNow_10 : decode cX10_factsThereNow 10 = .ok (.aload_n 2, 1) := by decide +kernel
theorem dX10_factsThereNow_11 : decode cX10_factsThereNow 11 = .ok (.ifnull 23, 3) := by decide +kernel
theorem dX10_factsThereNow_14 : decode cX10_factsThereNow 14 = .ok (.aload_n 2, 1) := by decide +kernel
theorem dX10_factsThereNow_15 : decode cX10_factsThereNow 15 = .ok (.invokevirtual 61, 3) := by decide +kernel
theorem dX10_factsThereNow_18 : decode cX10_factsThereNow 18 = .ok (.ifCond .eq 6, 3) := by decide +kernel
theorem dX10_factsThereNow_21 : decode cX10_factsThereNow 21 = .ok (.iinc 1 1, 3) := by decide +kernel
theorem dX10_factsThereNow_24 : decode cX10_factsThereNow 24 = .ok (.aload_n 2, 1) := by decide +kernel
theorem dX10_factsThereNow_25 : decode cX10_factsThereNow 25 = .ok (.getfield 52, 3) := by decide +kernel
theorem dX10_factsThereNow_28 : decode cX10_factsThereNow 28 = .ok (.iconst 4, 1) := by decide +kernel
theorem dX10_factsThereNow_29 : decode cX10_factsThereNow 29 = .ok (.aaload, 1) := by decide +kernel
theorem dX10_factsThereNow_30 : decode cX10_factsThereNow 30 = .ok (.astore_n 2, 1) := by decide +kernel
theorem dX10_factsThereNow_31 : decode cX10_factsThereNow 31 = .ok (.goto (-21), 3) := by decide +kernel
theorem dX10_factsThereNow_34 : decode cX10_factsThereNow 34 = .ok (.iload_n 1, 1) := by decide +kernel
theorem dX10_factsThereNow_35 : decode cX10_factsThereNow 35 = .ok (.ireturn, 1) := by decide +kernel
theorem i9wsX10_factsThereNow_0 : ∀ w ∈ ([.fieldLink RX10 14 "FactKeeper$Table" "row" "LFactKeeper$Chain;", .fieldLink RX10 40 "FactKeeper$Chain" "first" "LFactKeeper$Fact;", .fieldLink RX10 52 "FactKeeper$Fact" "behind" "[LFactKeeper$Fact;", .methodLink RX10 61 yX1_isThereNow, .instanceMethod yX1_isThereNow, .selects RX1 yX1_isThereNow yX1_isThereNow, .initialized RX1, .code yX1_isThereNow cX1_isThereNow 1 (some .boolean), .fieldLink RX1 23 "FactKeeper$Fact" "died" "I"] : List Cond), w ∈ wsX10_factsThereNow := fun _ h => (List.mem_cons_of_mem _ (List.mem_append_left _ (List.mem_append_left _ (List.mem_append_left _ h))))
theorem i9wsX10_factsThereNow_3 : ∀ w ∈ wsX10, w ∈ wsX10_factsThereNow := fun _ h => (List.mem_cons_of_mem _ (List.mem_append_right _ h))
set_option maxRecDepth 20000 in
theorem ggX10_factsThereNow_X1_isThereNow : GoodIn wsX10_factsThereNow wsX1_isThereNow := (gin_c (mem_at i9wsX10_factsThereNow_0 7 rfl) rfl (goodIn_app (gin_c (mem_at i9wsX10_factsThereNow_0 8 rfl) rfl gin_n) (goodIn_sub i9wsX10_factsThereNow_3 g9_0)))
set_option maxRecDepth 20000 in
theorem gX10_factsThereNow_X1_isThereNow : GoodIn wsX10_factsThereNow (wsV RX10 61 RX1 yX1_isThereNow wsX1_isThereNow) := goodIn_app (gin_c (mem_at i9wsX10_factsThereNow_0 3 rfl) rfl (gin_c (mem_at i9wsX10_factsThereNow_0 4 rfl) rfl (gin_c (mem_at i9wsX10_factsThereNow_0 5 rfl) rfl (gin_c (mem_at i9wsX10_factsThereNow_0 6 rfl) rfl gin_n)))) ggX10_factsThereNow_X1_isThereNow
set_option maxHeartbeats 4000000 in
set_option maxRecDepth 100000 in
theorem T_X10_factsThereNow (l : Launch) (hl : l.stackTraces = false) (D : va_G) (cA : Nat → ClassId) {l0 : Option Nat} {x : HS} {Q : Int32 → HS → Prop} {X : String → HS → Prop} (h : w_X10_factsThereNow l0 x Q X) : YI l yX10_factsThereNow wsX10_factsThereNow 1 20 D cA [.q l0] x Q X := by
  refine YI.of (cc := cX10_factsThereNow) (maxL := 3) (ret := (some .int)) hl (by decide) rfl rfl (fun g B fr => ?_)
  have o := B.o
  have hb := B.hb
  have hts := B.hts
  have hown : g.s.vm.findClass RX10 = some g.m.cls := B.hown
  have in0 : ∀ w ∈ u_ws RX0 TX0 5, w ∈ wsX10_factsThereNow := fun w h => (List.mem_cons_of_mem _ (List.mem_append_left _ (List.mem_append_right _ h)))
  have in1 : ∀ w ∈ u_ws RX1 TX1 7, w ∈ wsX10_factsThereNow := fun w h => (List.mem_cons_of_mem _ (List.mem_append_right _ h))
  have in10 : ∀ w ∈ u_ws RX10 TX10 6, w ∈ wsX10_factsThereNow := fun w h => (List.mem_cons_of_mem _ (List.mem_append_left _ (List.mem_append_left _ (List.mem_append_right _ h))))
  unfold w_X10_factsThereNow at h
  show KW g 3 0 [(0, .q l0)] [] x
  refine k_iconst (v := 0) o hb dX10_factsThereNow_0 (by decide) ?_
  refine k_istore_n o hb dX10_factsThereNow_1 rfl rfl ?_
  refine k_aload_n o hb dX10_factsThereNow_2 rfl 1 rfl ?_
  refine k_getF (C := RX10) (T := TX10) (N := 6) o hb hts in10 hown rfl (by decide) 2 (by decide) rfl (hts (.fieldLink RX10 14 "FactKeeper$Table" "row" "LFactKeeper$Chain;") (by decide +kernel)) (fun _ h9 => h9) dX10_factsThereNow_3 h (fun v1 h => ?_)
  refine k_getF (C := RX0) (T := TX0) (N := 5) o hb hts in0 hown rfl (by decide) 3 (by decide) rfl (hts (.fieldLink RX10 40 "FactKeeper$Chain" "first" "LFactKeeper$Fact;") (by decide +kernel)) (fun _ h9 => h9) dX10_factsThereNow_6 h (fun v2 h => ?_)
  refine k_astore_n o hb dX10_factsThereNow_9 rfl rfl ?_
  refine KW.sub [1, 0] rfl ?_
  refine wLoop_elim (M := fun (v6 : Int32 × Option Nat) (x5 : HS) => KW g 3 10 [(1, .i v6.1), (2, .q v6.2)] [] x5) h ?_
  intro v6 x5 again3 ih4 h
  refine k_aload_n o hb dX10_factsThereNow_10 rfl 1 rfl ?_
  refine k_ifnull (tgt := 34) o hb dX10_factsThereNow_11 (by decide) h (fun h => ?_) (fun h => ?_)
  · skip
    refine k_iload_n o hb dX10_factsThereNow_34 rfl 0 rfl ?_
    exact k_iret o hb B.hr fr dX10_factsThereNow_35 h
  · skip
    refine k_aload_n o hb dX10_factsThereNow_14 rfl 1 rfl ?_
    refine k_run_i o (fun _ _ q => q) (k_runV (ci := 1) (rc := (RX1, TX1, 7)) o hb B.hml hown hts rfl (by decide) (T_X1_isThereNow g.l o.hl g.D g.cA h.2) (cwV 0 hts gX10_factsThereNow_X1_isThereNow rfl rfl rfl (by decide +kernel) ⟨yle B.hR1 rfl, yle B.hR2 rfl⟩) h.1 rfl rfl (Nat.le_of_ble_eq_true rfl) dX10_factsThereNow_15) (fun v8 x7 h => ?_)
    refine wJoin_elim (M := fun K => ∀ (v11 : Int32) (x10 : HS), K v11 x10 → KW g 3 24 [(1, .i v11), (2, .q v6.2)] [] x10) h ?_ (fun j9 hj9 h => ?_)
    · skip
      intro v11 x10 h
      refine k_aload_n o hb dX10_factsThereNow_24 rfl 1 rfl ?_
      refine k_getF (C := RX1) (T := TX1) (N := 7) o hb hts in1 hown rfl (by decide) 1 (by decide) rfl (hts (.fieldLink RX10 52 "FactKeeper$Fact" "behind" "[LFactKeeper$Fact;") (by decide +kernel)) (fun _ h9 => h9) dX10_factsThereNow_25 h (fun v12 h => ?_)
      refine k_iconst (v := 4) o hb dX10_factsThereNow_28 (by decide) ?_
      refine k_aald (kd := 25) (t0 := 4) o hb rfl (by decide) dX10_factsThereNow_29 h (fun v13 h => ?_)
      refine k_astore_n o hb dX10_factsThereNow_30 rfl rfl ?_
      refine k_goto (tgt := 10) o hb dX10_factsThereNow_31 (by decide) ?_
      exact KW.sub [1, 0] rfl (ih4 (v11, v13) x10 h)
    · skip
      refine k_if_eq (tgt := 24) o hb dX10_factsThereNow_18 (by decide) h (fun h => ?_) (fun h => ?_)
      · skip
        exact KW.sub [0, 1] rfl (hj9 v6.1 x7 h)
      · skip
        refine k_iinc (w := 1) o hb dX10_factsThereNow_21 0 rfl (by decide) rfl ?_
        exact KW.sub [0, 1] rfl (hj9 (v6.1 + 1) x7 h)
