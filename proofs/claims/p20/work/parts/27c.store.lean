/-! contracts out of the words (store), laid by wip/p4/y/gen5.py -/
set_option linter.unusedVariables false
theorem dX9_tableAt_0 : decode cX9_tableAt 0 = .ok (.iload_n 1, 1) := by decide +kernel
theorem dX9_tableAt_1 : decode cX9_tableAt 1 = .ok (.ifCond .lt 11, 3) := by decide +kernel
theorem dX9_tableAt_4 : decode cX9_tableAt 4 = .ok (.iload_n 1, 1) := by decide +kernel
theorem dX9_tableAt_5 : decode cX9_tableAt 5 = .ok (.aload_n 0, 1) := by decide +kernel
theorem dX9_tableAt_6 : decode cX9_tableAt 6 = .ok (.getfield 30, 3) := by decide +kernel
theorem dX9_tableAt_9 : decode cX9_tableAt 9 = .ok (.if_icmp .lt 7, 3) := by decide +kernel
theorem dX9_tableAt_12 : decode cX9_tableAt 12 = .ok (.aconst_null, 1) := by decide +kernel
theorem dX9_tableAt_13 : decode cX9_tableAt 13 = .ok (.goto 9, 3) := by decide +kernel
theorem dX9_tableAt_16 : decode cX9_tableAt 16 = .ok (.aload_n 0, 1) := by decide +kernel
theorem dX9_tableAt_17 : decode cX9_tableAt 17 = .ok (.getfield 11, 3) := by decide +kernel
theorem dX9_tableAt_20 : decode cX9_tableAt 20 = .ok (.iload_n 1, 1) := by decide +kernel
theorem dX9_tableAt_21 : decode cX9_tableAt 21 = .ok (.aaload, 1) := by decide +kernel
theorem dX9_tableAt_22 : decode cX9_tableAt 22 = .ok (.areturn, 1) := by decide +kernel
set_option maxHeartbeats 4000000 in
set_option maxRecDepth 100000 in
theorem T_X9_tableAt (l : Launch) (hl : l.stackTraces = false) (D : va_G) (cA : Nat → ClassId) {l0 : Option Nat} {l1 : Int32} {x : HS} {Q : Option Nat → HS → Prop} {X : String → HS → Prop} (h : w_X9_tableAt l0 l1 x Q X) : YQ l yX9_tableAt wsX9_tableAt 0 0 D cA [.q l0, .i l1] x Q X := by
  refine YQ.of (cc := cX9_tableAt) (maxL := 2) (ret := (some (.object "FactKeeper$Table"))) hl (by decide) rfl rfl (fun g B fr => ?_)
  have o := B.o
  have hb := B.hb
  have hts := B.hts
  have hown : g.s.vm.findClass RX9 = some g.m.cls := B.hown
  have in9 : ∀ w ∈ u_ws RX9 TX9 8, w ∈ wsX9_tableAt := fun w h => (List.mem_cons_of_mem _ (List.mem_append_right _ h))
  unfold w_X9_tableAt at h
  show KW g 2 0 [(0, .q l0), (1, .i l1)] [] x
  refine k_iload_n o hb dX9_tableAt_0 rfl 1 rfl ?_
  refine wJoin_elim (M := fun K => ∀ (v3 : Option Nat) (x2 : HS), K v3 x2 → KW g 2 22 [] [.q v3] x2) h ?_ (fun j1 hj1 h => ?_)
  · skip
    intro v3 x2 h
    exact k_aret o hb B.hr (Or.inl ⟨_, rfl⟩) fr dX9_tableAt_22 h
  · skip
    refine wJoin_elim (M := fun K => ∀  (x5 : HS), K  x5 → KW g 2 12 [] [] x5) h ?_ (fun j4 hj4 h => ?_)
    · skip
      intro  x5 h
      refine k_null o hb dX9_tableAt_12 ?_
      refine k_goto (tgt := 22) o hb dX9_tableAt_13 (by decide) ?_
      exact KW.sub [] rfl (hj1 none x5 h)
    · skip
      refine k_if_lt (tgt := 12) o hb dX9_tableAt_1 (by decide) h (fun h => ?_) (fun h => ?_)
      · skip
        exact KW.sub [] rfl (hj4 x h)
      · skip
        refine k_iload_n o hb dX9_tableAt_4 rfl 1 rfl ?_
        refine k_aload_n o hb dX9_tableAt_5 rfl 0 rfl ?_
        refine k_getI (C := RX9) (T := TX9) (N := 8) o hb hts in9 hown rfl (by decide) 3 (by decide) rfl (hts (.fieldLink RX9 30 "FactKeeper$Store" "tableCount" "I") (by decide +kernel)) (fun _ h9 => h9) dX9_tableAt_6 h (fun v6 h => ?_)
        refine k_icmp_lt (tgt := 16) o hb dX9_tableAt_9 (by decide) h (fun h => ?_) (fun h => ?_)
        · skip
          refine k_aload_n o hb dX9_tableAt_16 rfl 0 rfl ?_
          refine k_getF (C := RX9) (T := TX9) (N := 8) o hb hts in9 hown rfl (by decide) 0 (by decide) rfl (hts (.fieldLink RX9 11 "FactKeeper$Store" "tables" "[LFactKeeper$Table;") (by decide +kernel)) (fun _ h9 => h9) dX9_tableAt_17 h (fun v7 h => ?_)
          refine k_iload_n o hb dX9_tableAt_20 rfl 1 rfl ?_
          refine k_aald (kd := 24) (t0 := 3) o hb rfl (by decide) dX9_tableAt_21 h (fun v8 h => ?_)
          exact KW.sub [] rfl (hj1 v8 x h)
        · skip
          exact KW.sub [] rfl (hj4 x h)
theorem dX9_init_0 : decode cX9_init 0 = .ok (.aload_n 0, 1) := by decide +kernel
theorem dX9_init_1 : decode cX9_init 1 = .ok (.invokespecial 3, 3) := by decide +kernel
theorem dX9_init_4 : decode cX9_init 4 = .ok (.aload_n 0, 1) := by decide +kernel
theorem dX9_init_5 : decode cX9_init 5 = .ok (.bipush 12, 2) := by decide +kernel
theorem dX9_init_7 : decode cX9_init 7 = .ok (.anewarray 9, 3) := by decide +kernel
theorem dX9_init_10 : decode cX9_init 10 = .ok (.putfield 11, 3) := by decide +kernel
theorem dX9_init_13 : decode cX9_init 13 = .ok (.aload_n 0, 1) := by decide +kernel
theorem dX9_init_14 : decode cX9_init 14 = .ok (.sipush 3000, 3) := by decide +kernel
theorem dX9_init_17 : decode cX9_init 17 = .ok (.anewarray 17, 3) := by decide +kernel
theorem dX9_init_20 : decode cX9_init 20 = .ok (.putfield 19, 3) := by decide +kernel
theorem dX9_init_23 : decode cX9_init 23 = .ok (.aload_n 0, 1) := by decide +kernel
theorem dX9_init_24 : decode cX9_init 24 = .ok (.new 23, 3) := by decide +kernel
theorem dX9_init_27 : decode cX9_init 27 = .ok (.dup, 1) := by decide +kernel
theorem dX9_init_28 : decode cX9_init 28 = .ok (.invokespecial 25, 3) := by decide +kernel
theorem dX9_init_31 : decode cX9_init 31 = .ok (.putfield 26, 3) := by decide +kernel
theorem dX9_init_34 : decode cX9_init 34 = .ok (.return_, 1) := by decide +kernel
theorem i9wsX9_init_0 : ∀ w ∈ ([.methodLink RX9 3 objectInit, .instanceMethod objectInit, .code objectInit ⟨#[0xb1]⟩ 1 none, .classLink RX9 9 RX10, .fieldLink RX9 11 "FactKeeper$Store" "tables" "[LFactKeeper$Table;", .classLink RX9 17 RX1, .fieldLink RX9 19 "FactKeeper$Store" "kept" "[LFactKeeper$Fact;", .classLink RX9 23 RX3, .instantiable RX3 5, .initialized RX3, .fieldLink RX9 26 "FactKeeper$Store" "history" "LFactKeeper$History;", .instanceMethod yX3_init, .code yX3_init cX3_init 1 none, .methodLink RX3 3 objectInit, .classLink RX3 9 RX1, .fieldLink RX3 11 "FactKeeper$History" "facts" "[LFactKeeper$Fact;", .arrayClass .boolean, .fieldLink RX3 17 "FactKeeper$History" "went" "[Z", .arrayClass .int, .fieldLink RX3 21 "FactKeeper$History" "marks" "[I"] : List Cond), w ∈ wsX9_init := fun _ h => (List.mem_cons_of_mem _ (List.mem_append_left _ (List.mem_append_left _ h)))
theorem i9wsX9_init_2 : ∀ w ∈ wsX30, w ∈ wsX9_init := fun _ h => (List.mem_cons_of_mem _ (List.mem_append_right _ h))
set_option maxRecDepth 20000 in
theorem ggX9_init_X3_init : GoodIn wsX9_init wsX3_init := (gin_c (mem_at i9wsX9_init_0 12 rfl) rfl (goodIn_app (gin_c (mem_at i9wsX9_init_0 13 rfl) rfl (gin_c (mem_at i9wsX9_init_0 1 rfl) rfl (gin_c (mem_at i9wsX9_init_0 2 rfl) rfl (gin_c (mem_at i9wsX9_init_0 14 rfl) rfl (gin_c (mem_at i9wsX9_init_0 15 rfl) rfl (gin_c (mem_at i9wsX9_init_0 16 rfl) rfl (gin_c (mem_at i9wsX9_init_0 17 rfl) rfl (gin_c (mem_at i9wsX9_init_0 18 rfl) rfl (gin_c (mem_at i9wsX9_init_0 19 rfl) rfl gin_n))))))))) (goodIn_sub i9wsX9_init_2 g9_4)))
set_option maxRecDepth 20000 in
theorem gX9_init_X3_init_n25 : GoodIn wsX9_init (wsX3_init) := ggX9_init_X3_init
set_option maxHeartbeats 4000000 in
set_option maxRecDepth 100000 in
theorem T_X9_init (l : Launch) (hl : l.stackTraces = false) (D : va_G) (cA : Nat → ClassId) {l0 : Option Nat} {x : HS} {Q : HS → Prop} {X : String → HS → Prop} (h : w_X9_init l0 x Q X) : YV l yX9_init wsX9_init 2 32 D cA [.q l0] x Q X := by
  refine YV.of (cc := cX9_init) (maxL := 1) (ret := none) hl (by decide) rfl rfl (fun g B fr => ?_)
  have o := B.o
  have hb := B.hb
  have hts := B.hts
  have hown : g.s.vm.findClass RX9 = some g.m.cls := B.hown
  have in3 : ∀ w ∈ u_ws RX3 TX3 5, w ∈ wsX9_init := fun w h => (List.mem_cons_of_mem _ (List.mem_append_right _ h))
  have in9 : ∀ w ∈ u_ws RX9 TX9 8, w ∈ wsX9_init := fun w h => (List.mem_cons_of_mem _ (List.mem_append_left _ (List.mem_append_right _ h)))
  unfold w_X9_init at h
  show KW g 1 0 [(0, .q l0)] [] x
  refine k_aload_n o hb dX9_init_0 rfl 0 rfl ?_
  refine k_objInit o hb B.hml hown (hts (.methodLink RX9 3 objectInit) (by decide +kernel)) (hts (.instanceMethod objectInit) (by decide +kernel)) (hts (.code objectInit ⟨#[0xb1]⟩ 1 none) (by decide +kernel)) (yle B.hR1 rfl) (yle B.hR2 rfl) dX9_init_1 h.1 ?_
  have h := h.2
  refine k_aload_n o hb dX9_init_4 rfl 0 rfl ?_
  refine k_bipush (v := 12) o hb dX9_init_5 (by decide) ?_
  refine k_newG (kd := 24) (t0 := 3) o hb hown (hts (.classLink RX9 9 RX10) (by decide +kernel)) o.hZ.2.2.2.2.1.1 (by decide) rfl dX9_init_7 h (fun q1 x2 h => ?_)
  refine k_putFF (C := RX9) (T := TX9) (N := 8) (ty := (tyX9 0)) o hb hts in9 tyX9 tyX9_ok nmX9 hown rfl (by decide) 0 (by decide) rfl (hts (.fieldLink RX9 11 "FactKeeper$Store" "tables" "[LFactKeeper$Table;") (by decide +kernel)) (fun _ h9 => h9) rfl B.hnm rfl (by decide +kernel) (fun r => by cases r <;> rfl) (fun r => by cases r <;> rfl) dX9_init_10 h (fun x3 h => ?_)
  refine k_aload_n o hb dX9_init_13 rfl 0 rfl ?_
  refine k_sipush (v := 3000) o hb dX9_init_14 (by decide) ?_
  refine k_newG (kd := 25) (t0 := 4) o hb hown (hts (.classLink RX9 17 RX1) (by decide +kernel)) o.hZ.2.2.2.2.1.2.1 (by decide) rfl dX9_init_17 h (fun q4 x5 h => ?_)
  refine k_putFF (C := RX9) (T := TX9) (N := 8) (ty := (tyX9 1)) o hb hts in9 tyX9 tyX9_ok nmX9 hown rfl (by decide) 1 (by decide) rfl (hts (.fieldLink RX9 19 "FactKeeper$Store" "kept" "[LFactKeeper$Fact;") (by decide +kernel)) (fun _ h9 => h9) rfl B.hnm rfl (by decide +kernel) (fun r => by cases r <;> rfl) (fun r => by cases r <;> rfl) dX9_init_20 h (fun x6 h => ?_)
  refine k_aload_n o hb dX9_init_23 rfl 0 rfl ?_
  refine k_new (C := RX3) (T := TX3) (N := 5) o hb hts in3 tyX3 tyX3_ok hown (hts (.classLink RX9 23 RX3) (by decide +kernel)) (hts (.instantiable RX3 5) (by decide +kernel)) (hts (.initialized RX3) (by decide +kernel)) rfl (by decide) (fun j hj => by rcases (show j = 0 ∨ j = 1 ∨ j = 2 ∨ j = 3 ∨ j = 4 by omega) with rfl | rfl | rfl | rfl | rfl <;> rfl) dX9_init_24 h (fun q7 x8 h => ?_)
  refine k_dup o hb dX9_init_27 ?_
  refine k_run_v o (fun _ _ q => q.elim) (k_runIN (host := RX11) o hb B.hml hown hts (T_X3_init g.l o.hl g.D g.cA h) yX_no ⟨va_cnB 0 hts gX9_init_X3_init_n25 rfl rfl rfl o.hZ.2.2.1.2.1 (hts (.initialized RX3) (by decide +kernel)) (by decide +kernel) ⟨yle B.hR1 rfl, yle B.hR2 rfl⟩, rfl, hts (.instanceMethod yX3_init) (by decide +kernel)⟩ rfl rfl (Nat.le_of_ble_eq_true rfl) dX9_init_28) (fun x9 h => ?_)
  refine k_putFF (C := RX9) (T := TX9) (N := 8) (ty := (tyX9 2)) o hb hts in9 tyX9 tyX9_ok nmX9 hown rfl (by decide) 2 (by decide) rfl (hts (.fieldLink RX9 26 "FactKeeper$Store" "history" "LFactKeeper$History;") (by decide +kernel)) (fun _ h9 => h9) rfl B.hnm rfl (by decide +kernel) (fun r => by cases r <;> rfl) (fun r => by cases r <;> rfl) dX9_init_31 h (fun x11 h => ?_)
  exact k_vret o hb B.hr fr dX9_init_34 h
theorem dX9_makeTable_0 : decode cX9_makeTable 0 = .ok (.aload_n 0, 1) := by decide +kernel
theorem dX9_makeTable_1 : decode cX9_makeTable 1 = .ok (.getfield 30, 3) := by decide +kernel
theorem dX9_makeTable_4 : decode cX9_makeTable 4 = .ok (.bipush 12, 2) := by decide +kernel
theorem dX9_makeTable_6 : decode cX9_makeTable 6 = .ok (.if_icmp .lt 5, 3) := by decide +kernel
theorem dX9_makeTable_9 : decode cX9_makeTable 9 = .ok (.iconst (-1), 1) := by decide +kernel
theorem dX9_makeTable_10 : decode cX9_makeTable 10 = .ok (.ireturn, 1) := by decide +kernel
theorem dX9_makeTable_11 : decode cX9_makeTable 11 = .ok (.aload_n 0, 1) := by decide +kernel
theorem dX9_makeTable_12 : decode cX9_makeTable 12 = .ok (.getfield 11, 3) := by decide +kernel
theorem dX9_makeTable_15 : decode cX9_makeTable 15 = .ok (.aload_n 0, 1) := by decide +kernel
theorem dX9_makeTable_16 : decode cX9_makeTable 16 = .ok (.getfield 30, 3) := by decide +kernel
theorem dX9_makeTable_19 : decode cX9_makeTable 19 = .ok (.new 9, 3) := by decide +kernel
theorem dX9_makeTable_22 : decode cX9_makeTable 22 = .ok (.dup, 1) := by decide +kernel
theorem dX9_makeTable_23 : decode cX9_makeTable 23 = .ok (.aload_n 0, 1) := by decide +kernel
theorem dX9_makeTable_24 : decode cX9_makeTable 24 = .ok (.getfield 30, 3) := by decide +kernel
theorem dX9_makeTable_27 : decode cX9_makeTable 27 = .ok (.iload_n 1, 1) := by decide +kernel
theorem dX9_makeTable_28 : decode cX9_makeTable 28 = .ok (.invokespecial 34, 3) := by decide +kernel
theorem dX9_makeTable_31 : decode cX9_makeTable 31 = .ok (.aastore, 1) := by decide +kernel
theorem dX9_makeTable_32 : decode cX9_makeTable 32 = .ok (.aload_n 0, 1) := by decide +kernel
theorem dX9_makeTable_33 : decode cX9_makeTable 33 = .ok (.dup, 1) := by decide +kernel
theorem dX9_makeTable_34 : decode cX9_makeTable 34 = .ok (.getfield 30, 3) := by decide +kernel
theorem dX9_makeTable_37 : decode cX9_makeTable 37 = .ok (.iconst 1, 1) := by decide +kernel
theorem dX9_makeTable_38 : decode cX9_makeTable 38 = .ok (.iadd, 1) := by decide +kernel
theorem dX9_makeTable_39 : decode cX9_makeTable 39 = .ok (.putfield 30, 3) := by decide +kernel
theorem dX9_makeTable_42 : decode cX9_makeTable 42 = .ok (.aload_n 0, 1) := by decide +kernel
theorem dX9_makeTable_43 : decode cX9_makeTable 43 = .ok (.getfield 30, 3) := by decide +kernel
theorem dX9_makeTable_46 : decode cX9_makeTable 46 = .ok (.iconst 1, 1) := by decide +kernel
theorem dX9_makeTable_47 : decode cX9_makeTable 47 = .ok (.isub, 1) := by decide +kernel
theorem dX9_makeTable_48 : decode cX9_makeTable 48 = .ok (.ireturn, 1) := by decide +kernel
theorem i9wsX9_makeTable_0 : ∀ w ∈ wsX9_makeTable_r1, w ∈ wsX9_makeTable := fun _ h => (List.mem_cons_of_mem _ (List.mem_append_left _ (List.mem_append_left _ (List.mem_append_left _ (List.mem_append_left _ h)))))
theorem i9wsX9_makeTable_1 : ∀ w ∈ wsX9_makeTable_r2, w ∈ wsX9_makeTable := fun _ h => (List.mem_cons_of_mem _ (List.mem_append_left _ (List.mem_append_left _ (List.mem_append_left _ (List.mem_append_right _ h)))))
theorem i9wsX9_makeTable_4 : ∀ w ∈ wsX00, w ∈ wsX9_makeTable := fun _ h => (List.mem_cons_of_mem _ (List.mem_append_right _ h))
theorem i9wsX9_makeTable_3 : ∀ w ∈ wsX100, w ∈ wsX9_makeTable := fun _ h => (List.mem_cons_of_mem _ (List.mem_append_left _ (List.mem_append_right _ h)))
set_option maxRecDepth 20000 in
theorem ggX9_makeTable_X10_init : GoodIn wsX9_makeTable wsX10_init := (gin_c (mem_at i9wsX9_makeTable_0 7 rfl) rfl (goodIn_app (goodIn_app (gin_c (mem_at i9wsX9_makeTable_0 8 rfl) rfl (gin_c (mem_at i9wsX9_makeTable_0 9 rfl) rfl (gin_c (mem_at i9wsX9_makeTable_0 10 rfl) rfl (gin_c (mem_at i9wsX9_makeTable_0 11 rfl) rfl (gin_c (mem_at i9wsX9_makeTable_0 12 rfl) rfl (gin_c (mem_at i9wsX9_makeTable_0 13 rfl) rfl (gin_c (mem_at i9wsX9_makeTable_0 14 rfl) rfl (gin_c (mem_at i9wsX9_makeTable_0 15 rfl) rfl (gin_c (mem_at i9wsX9_makeTable_0 16 rfl) rfl (gin_c (mem_at i9wsX9_makeTable_0 17 rfl) rfl (gin_c (mem_at i9wsX9_makeTable_0 18 rfl) rfl (gin_c (mem_at i9wsX9_makeTable_0 19 rfl) rfl (gin_c (mem_at i9wsX9_makeTable_0 20 rfl) rfl (gin_c (mem_at i9wsX9_makeTable_0 21 rfl) rfl (gin_c (mem_at i9wsX9_makeTable_0 22 rfl) rfl (gin_c (mem_at i9wsX9_makeTable_0 23 rfl) rfl (gin_c (mem_at i9wsX9_makeTable_1 0 rfl) rfl (gin_c (mem_at i9wsX9_makeTable_1 1 rfl) rfl (gin_c (mem_at i9wsX9_makeTable_1 2 rfl) rfl (gin_c (mem_at i9wsX9_makeTable_1 3 rfl) rfl gin_n)))))))))))))))))))) (goodIn_sub i9wsX9_makeTable_4 g9_1)) (goodIn_sub i9wsX9_makeTable_3 g9_3)))
set_option maxRecDepth 20000 in
theorem gX9_makeTable_X10_init : GoodIn wsX9_makeTable (wsX10_init) := ggX9_makeTable_X10_init
set_option maxHeartbeats 4000000 in
set_option maxRecDepth 100000 in
theorem T_X9_makeTable (l : Launch) (hl : l.stackTraces = false) (D : va_G) (cA : Nat → ClassId) {l0 : Option Nat} {l1 : Int32} {x : HS} {Q : Int32 → HS → Prop} {X : String → HS → Prop} (h : w_X9_makeTable l0 l1 x Q X) : YI l yX9_makeTable wsX9_makeTable 3 57 D cA [.q l0, .i l1] x Q X := by
  refine YI.of (cc := cX9_makeTable) (maxL := 2) (ret := (some .int)) hl (by decide) rfl rfl (fun g B fr => ?_)
  have o := B.o
  have hb := B.hb
  have hts := B.hts
  have hown : g.s.vm.findClass RX9 = some g.m.cls := B.hown
  have in9 : ∀ w ∈ u_ws RX9 TX9 8, w ∈ wsX9_makeTable := fun w h => (List.mem_cons_of_mem _ (List.mem_append_left _ (List.mem_append_left _ (List.mem_append_right _ h))))
  have in10 : ∀ w ∈ u_ws RX10 TX10 6, w ∈ wsX9_makeTable := fun w h => (List.mem_cons_of_mem _ (List.mem_append_left _ (List.mem_append_right _ h)))
  unfold w_X9_makeTable at h
  show KW g 2 0 [(0, .q l0), (1, .i l1)] [] x
  refine k_aload_n o hb dX9_makeTable_0 rfl 0 rfl ?_
  refine k_getI (C := RX9) (T := TX9) (N := 8) o hb hts in9 hown rfl (by decide) 3 (by decide) rfl (hts (.fieldLink RX9 30 "FactKeeper$Store" "tableCount" "I") (by decide +kernel)) (fun _ h9 => h9) dX9_makeTable_1 h (fun v1 h => ?_)
  refine k_bipush (v := 12) o hb dX9_makeTable_4 (by decide) ?_
  refine k_icmp_lt (tgt := 11) o hb dX9_makeTable_6 (by decide) h (fun h => ?_) (fun h => ?_)
  · skip
    refine k_aload_n o hb dX9_makeTable_11 rfl 0 rfl ?_
    refine k_getF (C := RX9) (T := TX9) (N := 8) o hb hts in9 hown rfl (by decide) 0 (by decide) rfl (hts (.fieldLink RX9 11 "FactKeeper$Store" "tables" "[LFactKeeper$Table;") (by decide +kernel)) (fun _ h9 => h9) dX9_makeTable_12 h (fun v2 h => ?_)
    refine k_aload_n o hb dX9_makeTable_15 rfl 0 rfl ?_
    refine k_getI (C := RX9) (T := TX9) (N := 8) o hb hts in9 hown rfl (by decide) 3 (by decide) rfl (hts (.fieldLink RX9 30 "FactKeeper$Store" "tableCount" "I") (by decide +kernel)) (fun _ h9 => h9) dX9_makeTable_16 h (fun v3 h => ?_)
    refine k_new (C := RX10) (T := TX10) (N := 6) o hb hts in10 tyX10 tyX10_ok hown (hts (.classLink RX9 9 RX10) (by decide +kernel)) (hts (.instantiable RX10 6) (by decide +kernel)) (hts (.initialized RX10) (by decide +kernel)) rfl (by decide) (fun j hj => by rcases (show j = 0 ∨ j = 1 ∨ j = 2 ∨ j = 3 ∨ j = 4 ∨ j = 5 by omega) with rfl | rfl | rfl | rfl | rfl | rfl <;> rfl) dX9_makeTable_19 h (fun q4 x5 h => ?_)
    refine k_dup o hb dX9_makeTable_22 ?_
    refine k_aload_n o hb dX9_makeTable_23 rfl 0 rfl ?_
    refine k_getI (C := RX9) (T := TX9) (N := 8) o hb hts in9 hown rfl (by decide) 3 (by decide) rfl (hts (.fieldLink RX9 30 "FactKeeper$Store" "tableCount" "I") (by decide +kernel)) (fun _ h9 => h9) dX9_makeTable_24 h (fun v6 h => ?_)
    refine k_iload_n o hb dX9_makeTable_27 rfl 1 rfl ?_
    refine k_run_v o (fun _ _ q => q.elim) (k_runI o hb B.hml hown hts (T_X10_init g.l o.hl g.D g.cA h) yX_no (cwI 2 hts gX9_makeTable_X10_init rfl rfl rfl (hts (.initialized RX10) (by decide +kernel)) (hts (.methodLink RX9 34 yX10_init) (by decide +kernel)) (hts (.instanceMethod yX10_init) (by decide +kernel)) rfl (by decide +kernel) ⟨yle B.hR1 rfl, yle B.hR2 rfl⟩) rfl rfl (Nat.le_of_ble_eq_true rfl) dX9_makeTable_28) (fun x7 h => ?_)
    refine k_aast (kd := 24) (ci := 10) (t0 := 3) (rc := (RX10, TX10, 6)) o hb rfl (by decide) (by decide) rfl dX9_makeTable_31 h (fun x9 h => ?_)
    refine k_aload_n o hb dX9_makeTable_32 rfl 0 rfl ?_
    refine k_dup o hb dX9_makeTable_33 ?_
    refine k_getI (C := RX9) (T := TX9) (N := 8) o hb hts in9 hown rfl (by decide) 3 (by decide) rfl (hts (.fieldLink RX9 30 "FactKeeper$Store" "tableCount" "I") (by decide +kernel)) (fun _ h9 => h9) dX9_makeTable_34 h (fun v10 h => ?_)
    refine k_iconst (v := 1) o hb dX9_makeTable_37 (by decide) ?_
    refine k_iadd o hb dX9_makeTable_38 ?_
    refine k_putI (C := RX9) (T := TX9) (N := 8) (ty := .int) o hb hts in9 tyX9 tyX9_ok nmX9 hown rfl (by decide) 3 (by decide) rfl (hts (.fieldLink RX9 30 "FactKeeper$Store" "tableCount" "I") (by decide +kernel)) (fun _ h9 => h9) rfl (by decide +kernel) (fun _ => rfl) (fun _ => rfl) dX9_makeTable_39 h (fun x11 h => ?_)
    refine k_aload_n o hb dX9_makeTable_42 rfl 0 rfl ?_
    refine k_getI (C := RX9) (T := TX9) (N := 8) o hb hts in9 hown rfl (by decide) 3 (by decide) rfl (hts (.fieldLink RX9 30 "FactKeeper$Store" "tableCount" "I") (by decide +kernel)) (fun _ h9 => h9) dX9_makeTable_43 h (fun v12 h => ?_)
    refine k_iconst (v := 1) o hb dX9_makeTable_46 (by decide) ?_
    refine k_isub o hb dX9_makeTable_47 ?_
    exact k_iret o hb B.hr fr dX9_makeTable_48 h
  · skip
    refine k_iconst (v := (-1)) o hb dX9_makeTable_9 (by decide) ?_
    exact k_iret o hb B.hr fr dX9_makeTable_10 h
theorem dX9_timeOf_0 : decode cX9_timeOf 0 = .ok (.iload_n 1, 1) := by decide +kernel
theorem dX9_timeOf_1 : decode cX9_timeOf 1 = .ok (.iconst (-1), 1) := by decide +kernel
theorem dX9_timeOf_2 : decode cX9_timeOf 2 = .ok (.if_icmp .ne 10, 3) := by decide +kernel
theorem dX9_timeOf_5 : decode cX9_timeOf 5 = .ok (.aload_n 0, 1) := by decide +kernel
theorem dX9_timeOf_6 : decode cX9_timeOf 6 = .ok (.getfield 37, 3) := by decide +kernel
theorem dX9_timeOf_9 : decode cX9_timeOf 9 = .ok (.goto 4, 3) := by decide +kernel
theorem dX9_timeOf_12 : decode cX9_timeOf 12 = .ok (.iload_n 1, 1) := by decide +kernel
theorem dX9_timeOf_13 : decode cX9_timeOf 13 = .ok (.ireturn, 1) := by decide +kernel
set_option maxHeartbeats 4000000 in
set_option maxRecDepth 100000 in
theorem T_X9_timeOf (l : Launch) (hl : l.stackTraces = false) (D : va_G) (cA : Nat → ClassId) {l0 : Option Nat} {l1 : Int32} {x : HS} {Q : Int32 → HS → Prop} {X : String → HS → Prop} (h : w_X9_timeOf l0 l1 x Q X) : YI l yX9_timeOf wsX9_timeOf 0 0 D cA [.q l0, .i l1] x Q X := by
  refine YI.of (cc := cX9_timeOf) (maxL := 2) (ret := (some .int)) hl (by decide) rfl rfl (fun g B fr => ?_)
  have o := B.o
  have hb := B.hb
  have hts := B.hts
  have hown : g.s.vm.findClass RX9 = some g.m.cls := B.hown
  have in9 : ∀ w ∈ u_ws RX9 TX9 8, w ∈ wsX9_timeOf := fun w h => (List.mem_cons_of_mem _ (List.mem_append_right _ h))
  unfold w_X9_timeOf at h
  show KW g 2 0 [(0, .q l0), (1, .i l1)] [] x
  refine k_iload_n o hb dX9_timeOf_0 rfl 1 rfl ?_
  refine k_iconst (v := (-1)) o hb dX9_timeOf_1 (by decide) ?_
  refine wJoin_elim (M := fun K => ∀ (v3 : Int32) (x2 : HS), K v3 x2 → KW g 2 13 [] [.i v3] x2) h ?_ (fun j1 hj1 h => ?_)
  · skip
    intro v3 x2 h
    exact k_iret o hb B.hr fr dX9_timeOf_13 h
  · skip
    refine k_icmp_ne (tgt := 12) o hb dX9_timeOf_2 (by decide) h (fun h => ?_) (fun h => ?_)
    · skip
      refine k_aload_n o hb dX9_timeOf_5 rfl 0 rfl ?_
      refine k_getI (C := RX9) (T := TX9) (N := 8) o hb hts in9 hown rfl (by decide) 6 (by decide) rfl (hts (.fieldLink RX9 37 "FactKeeper$Store" "time" "I") (by decide +kernel)) (fun _ h9 => h9) dX9_timeOf_6 h (fun v4 h => ?_)
      refine k_goto (tgt := 13) o hb dX9_timeOf_9 (by decide) ?_
      exact KW.sub [] rfl (hj1 v4 x h)
    · skip
      refine k_iload_n o hb dX9_timeOf_12 rfl 1 rfl ?_
      exact KW.sub [] rfl (hj1 l1 x h)
theorem dX9_come_0 : decode cX9_come 0 = .ok (.aload_n 0, 1) := by decide +kernel
theorem dX9_come_1 : decode cX9_come 1 = .ok (.getfield 40, 3) := by decide +kernel
theorem dX9_come_4 : decode cX9_come 4 = .ok (.sipush 3000, 3) := by decide +kernel
theorem dX9_come_7 : decode cX9_come 7 = .ok (.if_icmp .lt 5, 3) := by decide +kernel
theorem dX9_come_10 : decode cX9_come 10 = .ok (.aconst_null, 1) := by decide +kernel
theorem dX9_come_11 : decode cX9_come 11 = .ok (.areturn, 1) := by decide +kernel
theorem dX9_come_12 : decode cX9_come 12 = .ok (.aload_n 0, 1) := by decide +kernel
theorem dX9_come_13 : decode cX9_come 13 = .ok (.getfield 19, 3) := by decide +kernel
theorem dX9_come_16 : decode cX9_come 16 = .ok (.aload_n 0, 1) := by decide +kernel
theorem dX9_come_17 : decode cX9_come 17 = .ok (.getfield 40, 3) := by decide +kernel
theorem dX9_come_20 : decode cX9_come 20 = .ok (.aaload, 1) := by decide +kernel
theorem dX9_come_21 : decode cX9_come 21 = .ok (.ifnonnull 19, 3) := by decide +kernel
theorem dX9_come_24 : decode cX9_come 24 = .ok (.aload_n 0, 1) := by decide +kernel
theorem dX9_come_25 : decode cX9_come 25 = .ok (.getfield 19, 3) := by decide +kernel
theorem dX9_come_28 : decode cX9_come 28 = .ok (.aload_n 0, 1) := by decide +kernel
theorem dX9_come_29 : decode cX9_come 29 = .ok (.getfield 40, 3) := by decide +kernel
theorem dX9_come_32 : decode cX9_come 32 = .ok (.new 17, 3) := by decide +kernel
theorem dX9_come_35 : decode cX9_come 35 = .ok (.dup, 1) := by decide +kernel
theorem dX9_come_36 : decode cX9_come 36 = .ok (.invokespecial 43, 3) := by decide +kernel
theorem dX9_come_39 : decode cX9_come 39 = .ok (.aastore, 1) := by decide +kernel
theorem dX9_come_40 : decode cX9_come 40 = .ok (.aload_n 0, 1) := by decide +kernel
theorem dX9_come_41 : decode cX9_come 41 = .ok (.getfield 19, 3) := by decide +kernel
theorem dX9_come_44 : decode cX9_come 44 = .ok (.aload_n 0, 1) := by decide +kernel
theorem dX9_come_45 : decode cX9_come 45 = .ok (.getfield 40, 3) := by decide +kernel
theorem dX9_come_48 : decode cX9_come 48 = .ok (.aaload, 1) := by decide +kernel
theorem dX9_come_49 : decode cX9_come 49 = .ok (.astore_n 3, 1) := by decide +kernel
theorem dX9_come_50 : decode cX9_come 50 = .ok (.aload_n 0, 1) := by decide +kernel
theorem dX9_come_51 : decode cX9_come 51 = .ok (.dup, 1) := by decide +kernel
theorem dX9_come_52 : decode cX9_come 52 = .ok (.getfield 40, 3) := by decide +kernel
theorem dX9_come_55 : decode cX9_come 55 = .ok (.iconst 1, 1) := by decide +kernel
theorem dX9_come_56 : decode cX9_come 56 = .ok (.iadd, 1) := by decide +kernel
theorem dX9_come_57 : decode cX9_come 57 = .ok (.putfield 40, 3) := by decide +kernel
theorem dX9_come_60 : decode cX9_come 60 = .ok (.aload_n 0, 1) := by decide +kernel
theorem dX9_come_61 : decode cX9_come 61 = .ok (.dup, 1) := by decide +kernel
theorem dX9_come_62 : decode cX9_come 62 = .ok (.getfield 37, 3) := by decide +kernel
theorem dX9_come_65 : decode cX9_come 65 = .ok (.iconst 1, 1) := by decide +kernel
theorem dX9_come_66 : decode cX9_come 66 = .ok (.iadd, 1) := by decide +kernel
theorem dX9_come_67 : decode cX9_come 67 = .ok (.putfield 37, 3) := by decide +kernel
theorem dX9_come_70 : decode cX9_come 70 = .ok (.aload_n 3, 1) := by decide +kernel
theorem dX9_come_71 : decode cX9_come 71 = .ok (.aload_n 1, 1) := by decide +kernel
theorem dX9_come_72 : decode cX9_come 72 = .ok (.putfield 44, 3) := by decide +kernel
theorem dX9_come_75 : decode cX9_come 75 = .ok (.aload_n 3, 1) := by decide +kernel
theorem dX9_come_76 : decode cX9_come 76 = .ok (.aconst_null, 1) := by decide +kernel
theorem dX9_come_77 : decode cX9_come 77 = .ok (.putfield 48, 3) := by decide +kernel
theorem dX9_come_80 : decode cX9_come 80 = .ok (.aload_n 3, 1) := by decide +kernel
theorem dX9_come_81 : decode cX9_come 81 = .ok (.aload_n 0, 1) := by decide +kernel
theorem dX9_come_82 : decode cX9_come 82 = .ok (.getfield 52, 3) := by decide +kernel
theorem dX9_come_85 : decode cX9_come 85 = .ok (.putfield 55, 3) := by decide +kernel
theorem dX9_come_88 : decode cX9_come 88 = .ok (.aload_n 3, 1) := by decide +kernel
theorem dX9_come_89 : decode cX9_come 89 = .ok (.aload_n 0, 1) := by decide +kernel
theorem dX9_come_90 : decode cX9_come 90 = .ok (.getfield 37, 3) := by decide +kernel
theorem dX9_come_93 : decode cX9_come 93 = .ok (.putfield 58, 3) := by decide +kernel
theorem dX9_come_96 : decode cX9_come 96 = .ok (.aload_n 3, 1) := by decide +kernel
theorem dX9_come_97 : decode cX9_come 97 = .ok (.iconst (-1), 1) := by decide +kernel
theorem dX9_come_98 : decode cX9_come 98 = .ok (.putfield 61, 3) := by decide +kernel
theorem dX9_come_101 : decode cX9_come 101 = .ok (.iconst 0, 1) := by decide +kernel
theorem dX9_come_102 : decode cX9_come 102 = .ok (.istore 4, 2) := by decide +kernel
theorem dX9_come_104 : decode cX9_come 104 = .ok (.iload 4, 2) := by decide +kernel
theorem dX9_come_106 : decode cX9_come 106 = .ok (.iconst 4, 1) := by decide +kernel
theorem dX9_come_107 : decode cX9_come 107 = .ok (.if_icmp .ge 33, 3) := by decide +kernel
theorem dX9_come_110 : decode cX9_come 110 = .ok (.aload_n 3, 1) := by decide +kernel
theorem dX9_come_111 : decode cX9_come 111 = .ok (.getfield 64, 3) := by decide +kernel
theorem dX9_come_114 : decode cX9_come 114 = .ok (.iload 4, 2) := by decide +kernel
theorem dX9_come_116 : decode cX9_come 116 = .ok (.iload 4, 2) := by decide +kernel
theorem dX9_come_118 : decode cX9_come 118 = .ok (.aload_n 1, 1) := by decide +kernel
theorem dX9_come_119 : decode cX9_come 119 = .ok (.getfield 68, 3) := by decide +kernel
theorem dX9_come_122 : decode cX9_come 122 = .ok (.if_icmp .ge 10, 3) := by decide +kernel
theorem dX9_come_125 : decode cX9_come 125 = .ok (.aload_n 2, 1) := by decide +kernel
theorem dX9_come_126 : decode cX9_come 126 = .ok (.iload 4, 2) := by decide +kernel
theorem dX9_come_128 : decode cX9_come 128 = .ok (.iaload, 1) := by decide +kernel
theorem dX9_come_129 : decode cX9_come 129 = .ok (.goto 4, 3) := by decide +kernel
theorem dX9_come_132 : decode cX9_come 132 = .ok (.iconst 0, 1) := by decide +kernel
theorem dX9_come_133 : decode cX9_come 133 = .ok (.iastore, 1) := by decide +kernel
theorem dX9_come_134 : decode cX9_come 134 = .ok (.iinc 4 1, 3) := by decide +kernel
theorem dX9_come_137 : decode cX9_come 137 = .ok (.goto (-33), 3) := by decide +kernel
theorem dX9_come_140 : decode cX9_come 140 = .ok (.aload_n 0, 1) := by decide +kernel
theorem dX9_come_141 : decode cX9_come 141 = .ok (.dup, 1) := by decide +kernel
theorem dX9_come_142 : decode cX9_come 142 = .ok (.getfield 52, 3) := by decide +kernel
theorem dX9_come_145 : decode cX9_come 145 = .ok (.iconst 1, 1) := by decide +kernel
theorem dX9_come_146 : decode cX9_come 146 = .ok (.iadd, 1) := by decide +kernel
theorem dX9_come_147 : decode cX9_come 147 = .ok (.putfield 52, 3) := by decide +kernel
theorem dX9_come_150 : decode cX9_come 150 = .ok (.aload_n 0, 1) := by decide +kernel
theorem dX9_come_151 : decode cX9_come 151 = .ok (.getfield 26, 3) := by decide +kernel
theorem dX9_come_154 : decode cX9_come 154 = .ok (.aload_n 3, 1) := by decide +kernel
theorem dX9_come_155 : decode cX9_come 155 = .ok (.iconst 0, 1) := by decide +kernel
theorem dX9_come_156 : decode cX9_come 156 = .ok (.invokevirtual 70, 3) := by decide +kernel
theorem dX9_come_159 : decode cX9_come 159 = .ok (.aload_n 3, 1) := by decide +kernel
theorem dX9_come_160 : decode cX9_come 160 = .ok (.areturn, 1) := by decide +kernel
theorem i9wsX9_come_0 : ∀ w ∈ wsX9_come_r1, w ∈ wsX9_come := fun _ h => (List.mem_cons_of_mem _ (List.mem_append_left _ (List.mem_append_left _ (List.mem_append_left _ (List.mem_append_left _ (List.mem_append_left _ h))))))
theorem i9wsX9_come_3 : ∀ w ∈ wsX10, w ∈ wsX9_come := fun _ h => (List.mem_cons_of_mem _ (List.mem_append_left _ (List.mem_append_left _ (List.mem_append_right _ h))))
set_option maxRecDepth 20000 in
theorem ggX9_come_X1_init : GoodIn wsX9_come wsX1_init := (gin_c (mem_at i9wsX9_come_0 16 rfl) rfl (goodIn_app (gin_c (mem_at i9wsX9_come_0 17 rfl) rfl (gin_c (mem_at i9wsX9_come_0 18 rfl) rfl (gin_c (mem_at i9wsX9_come_0 19 rfl) rfl (gin_c (mem_at i9wsX9_come_0 20 rfl) rfl (gin_c (mem_at i9wsX9_come_0 21 rfl) rfl (gin_c (mem_at i9wsX9_come_0 22 rfl) rfl (gin_c (mem_at i9wsX9_come_0 23 rfl) rfl gin_n))))))) (goodIn_sub i9wsX9_come_3 g9_0)))
set_option maxRecDepth 20000 in
theorem gX9_come_X1_init_n43 : GoodIn wsX9_come (wsX1_init) := ggX9_come_X1_init
theorem i9wsX9_come_1 : ∀ w ∈ wsX9_come_r2, w ∈ wsX9_come := fun _ h => (List.mem_cons_of_mem _ (List.mem_append_left _ (List.mem_append_left _ (List.mem_append_left _ (List.mem_append_left _ (List.mem_append_right _ h))))))
theorem i9wsX9_come_5 : ∀ w ∈ wsX30, w ∈ wsX9_come := fun _ h => (List.mem_cons_of_mem _ (List.mem_append_right _ h))
set_option maxRecDepth 20000 in
theorem ggX9_come_X3_note : GoodIn wsX9_come wsX3_note := (gin_c (mem_at i9wsX9_come_1 4 rfl) rfl (goodIn_app (gin_c (mem_at i9wsX9_come_1 5 rfl) rfl (gin_c (mem_at i9wsX9_come_1 6 rfl) rfl (gin_c (mem_at i9wsX9_come_1 7 rfl) rfl (gin_c (mem_at i9wsX9_come_1 8 rfl) rfl gin_n)))) (goodIn_sub i9wsX9_come_5 g9_4)))
set_option maxRecDepth 20000 in
theorem gX9_come_X3_note : GoodIn wsX9_come (wsV RX9 70 RX3 yX3_note wsX3_note) := goodIn_app (gin_c (mem_at i9wsX9_come_1 0 rfl) rfl (gin_c (mem_at i9wsX9_come_1 1 rfl) rfl (gin_c (mem_at i9wsX9_come_1 2 rfl) rfl (gin_c (mem_at i9wsX9_come_1 3 rfl) rfl gin_n)))) ggX9_come_X3_note
set_option maxHeartbeats 4000000 in
set_option maxRecDepth 100000 in
theorem T_X9_come (l : Launch) (hl : l.stackTraces = false) (D : va_G) (cA : Nat → ClassId) {l0 : Option Nat} {l1 : Option Nat} {l2 : Option Nat} {x : HS} {Q : Option Nat → HS → Prop} {X : String → HS → Prop} (h : w_X9_come l0 l1 l2 x Q X) : YQ l yX9_come wsX9_come 2 32 D cA [.q l0, .q l1, .q l2] x Q X := by
  refine YQ.of (cc := cX9_come) (maxL := 5) (ret := (some (.object "FactKeeper$Fact"))) hl (by decide) rfl rfl (fun g B fr => ?_)
  have o := B.o
  have hb := B.hb
  have hts := B.hts
  have hown : g.s.vm.findClass RX9 = some g.m.cls := B.hown
  have in1 : ∀ w ∈ u_ws RX1 TX1 7, w ∈ wsX9_come := fun w h => (List.mem_cons_of_mem _ (List.mem_append_left _ (List.mem_append_left _ (List.mem_append_right _ h))))
  have in9 : ∀ w ∈ u_ws RX9 TX9 8, w ∈ wsX9_come := fun w h => (List.mem_cons_of_mem _ (List.mem_append_left _ (List.mem_append_left _ (List.mem_append_left _ (List.mem_append_right _ h)))))
  have in10 : ∀ w ∈ u_ws RX10 TX10 6, w ∈ wsX9_come := fun w h => (List.mem_cons_of_mem _ (List.mem_append_left _ (List.mem_append_right _ h)))
  unfold w_X9_come at h
  show KW g 5 0 [(0, .q l0), (1, .q l1), (2, .q l2)] [] x
  refine k_aload_n o hb dX9_come_0 rfl 0 rfl ?_
  refine k_getI (C := RX9) (T := TX9) (N := 8) o hb hts in9 hown rfl (by decide) 4 (by decide) rfl (hts (.fieldLink RX9 40 "FactKeeper$Store" "keptCount" "I") (by decide +kernel)) (fun _ h9 => h9) dX9_come_1 h (fun v1 h => ?_)
  refine k_sipush (v := 3000) o hb dX9_come_4 (by decide) ?_
  refine k_icmp_lt (tgt := 12) o hb dX9_come_7 (by decide) h (fun h => ?_) (fun h => ?_)
  · skip
    refine k_aload_n o hb dX9_come_12 rfl 0 rfl ?_
    refine k_getF (C := RX9) (T := TX9) (N := 8) o hb hts in9 hown rfl (by decide) 1 (by decide) rfl (hts (.fieldLink RX9 19 "FactKeeper$Store" "kept" "[LFactKeeper$Fact;") (by decide +kernel)) (fun _ h9 => h9) dX9_come_13 h (fun v2 h => ?_)
    refine k_aload_n o hb dX9_come_16 rfl 0 rfl ?_
    refine k_getI (C := RX9) (T := TX9) (N := 8) o hb hts in9 hown rfl (by decide) 4 (by decide) rfl (hts (.fieldLink RX9 40 "FactKeeper$Store" "keptCount" "I") (by decide +kernel)) (fun _ h9 => h9) dX9_come_17 h (fun v3 h => ?_)
    refine k_aald (kd := 25) (t0 := 4) o hb rfl (by decide) dX9_come_20 h (fun v4 h => ?_)
    refine wJoin_elim (M := fun K => ∀  (x6 : HS), K  x6 → KW g 5 40 [(0, .q l0), (1, .q l1), (2, .q l2)] [] x6) h ?_ (fun j5 hj5 h => ?_)
    · skip
      intro  x6 h
      refine k_aload_n o hb dX9_come_40 rfl 0 rfl ?_
      refine k_getF (C := RX9) (T := TX9) (N := 8) o hb hts in9 hown rfl (by decide) 1 (by decide) rfl (hts (.fieldLink RX9 19 "FactKeeper$Store" "kept" "[LFactKeeper$Fact;") (by decide +kernel)) (fun _ h9 => h9) dX9_come_41 h (fun v7 h => ?_)
      refine k_aload_n o hb dX9_come_44 rfl 0 rfl ?_
      refine k_getI (C := RX9) (T := TX9) (N := 8) o hb hts in9 hown rfl (by decide) 4 (by decide) rfl (hts (.fieldLink RX9 40 "FactKeeper$Store" "keptCount" "I") (by decide +kernel)) (fun _ h9 => h9) dX9_come_45 h (fun v8 h => ?_)
      refine k_aald (kd := 25) (t0 := 4) o hb rfl (by decide) dX9_come_48 h (fun v9 h => ?_)
      refine k_astore_n o hb dX9_come_49 rfl rfl ?_
      refine k_aload_n o hb dX9_come_50 rfl 1 rfl ?_
      refine k_dup o hb dX9_come_51 ?_
      refine k_getI (C := RX9) (T := TX9) (N := 8) o hb hts in9 hown rfl (by decide) 4 (by decide) rfl (hts (.fieldLink RX9 40 "FactKeeper$Store" "keptCount" "I") (by decide +kernel)) (fun _ h9 => h9) dX9_come_52 h (fun v10 h => ?_)
      refine k_iconst (v := 1) o hb dX9_come_55 (by decide) ?_
      refine k_iadd o hb dX9_come_56 ?_
      refine k_putI (C := RX9) (T := TX9) (N := 8) (ty := .int) o hb hts in9 tyX9 tyX9_ok nmX9 hown rfl (by decide) 4 (by decide) rfl (hts (.fieldLink RX9 40 "FactKeeper$Store" "keptCount" "I") (by decide +kernel)) (fun _ h9 => h9) rfl (by decide +kernel) (fun _ => rfl) (fun _ => rfl) dX9_come_57 h (fun x11 h => ?_)
      refine k_aload_n o hb dX9_come_60 rfl 1 rfl ?_
      refine k_dup o hb dX9_come_61 ?_
      refine k_getI (C := RX9) (T := TX9) (N := 8) o hb hts in9 hown rfl (by decide) 6 (by decide) rfl (hts (.fieldLink RX9 37 "FactKeeper$Store" "time" "I") (by decide +kernel)) (fun _ h9 => h9) dX9_come_62 h (fun v12 h => ?_)
      refine k_iconst (v := 1) o hb dX9_come_65 (by decide) ?_
      refine k_iadd o hb dX9_come_66 ?_
      refine k_putI (C := RX9) (T := TX9) (N := 8) (ty := .int) o hb hts in9 tyX9 tyX9_ok nmX9 hown rfl (by decide) 6 (by decide) rfl (hts (.fieldLink RX9 37 "FactKeeper$Store" "time" "I") (by decide +kernel)) (fun _ h9 => h9) rfl (by decide +kernel) (fun _ => rfl) (fun _ => rfl) dX9_come_67 h (fun x13 h => ?_)
      refine k_aload_n o hb dX9_come_70 rfl 0 rfl ?_
      refine k_aload_n o hb dX9_come_71 rfl 2 rfl ?_
      refine k_putF (C := RX1) (T := TX1) (N := 7) (ty := (tyX1 2)) o hb hts in1 tyX1 tyX1_ok nmX1 hown rfl (by decide) 2 (by decide) rfl (hts (.fieldLink RX9 44 "FactKeeper$Fact" "table" "LFactKeeper$Table;") (by decide +kernel)) (fun _ h9 => h9) rfl (by decide +kernel) (fun r => by cases r <;> rfl) (fun r => by cases r <;> rfl) dX9_come_72 h (fun x14 h => ?_)
      refine k_aload_n o hb dX9_come_75 rfl 0 rfl ?_
      refine k_null o hb dX9_come_76 ?_
      refine k_putF (C := RX1) (T := TX1) (N := 7) (ty := (tyX1 3)) o hb hts in1 tyX1 tyX1_ok nmX1 hown rfl (by decide) 3 (by decide) rfl (hts (.fieldLink RX9 48 "FactKeeper$Fact" "standIn" "LFactKeeper$Fact;") (by decide +kernel)) (fun _ h9 => h9) rfl (by decide +kernel) (fun r => by cases r <;> rfl) (fun r => by cases r <;> rfl) dX9_come_77 h (fun x15 h => ?_)
      refine k_aload_n o hb dX9_come_80 rfl 0 rfl ?_
      refine k_aload_n o hb dX9_come_81 rfl 1 rfl ?_
      refine k_getI (C := RX9) (T := TX9) (N := 8) o hb hts in9 hown rfl (by decide) 5 (by decide) rfl (hts (.fieldLink RX9 52 "FactKeeper$Store" "nextNumber" "I") (by decide +kernel)) (fun _ h9 => h9) dX9_come_82 h (fun v16 h => ?_)
      refine k_putI (C := RX1) (T := TX1) (N := 7) (ty := .int) o hb hts in1 tyX1 tyX1_ok nmX1 hown rfl (by decide) 4 (by decide) rfl (hts (.fieldLink RX9 55 "FactKeeper$Fact" "number" "I") (by decide +kernel)) (fun _ h9 => h9) rfl (by decide +kernel) (fun _ => rfl) (fun _ => rfl) dX9_come_85 h (fun x17 h => ?_)
      refine k_aload_n o hb dX9_come_88 rfl 0 rfl ?_
      refine k_aload_n o hb dX9_come_89 rfl 1 rfl ?_
      refine k_getI (C := RX9) (T := TX9) (N := 8) o hb hts in9 hown rfl (by decide) 6 (by decide) rfl (hts (.fieldLink RX9 37 "FactKeeper$Store" "time" "I") (by decide +kernel)) (fun _ h9 => h9) dX9_come_90 h (fun v18 h => ?_)
      refine k_putI (C := RX1) (T := TX1) (N := 7) (ty := .int) o hb hts in1 tyX1 tyX1_ok nmX1 hown rfl (by decide) 5 (by decide) rfl (hts (.fieldLink RX9 58 "FactKeeper$Fact" "born" "I") (by decide +kernel)) (fun _ h9 => h9) rfl (by decide +kernel) (fun _ => rfl) (fun _ => rfl) dX9_come_93 h (fun x19 h => ?_)
      refine k_aload_n o hb dX9_come_96 rfl 0 rfl ?_
      refine k_iconst (v := (-1)) o hb dX9_come_97 (by decide) ?_
      refine k_putI (C := RX1) (T := TX1) (N := 7) (ty := .int) o hb hts in1 tyX1 tyX1_ok nmX1 hown rfl (by decide) 6 (by decide) rfl (hts (.fieldLink RX9 61 "FactKeeper$Fact" "died" "I") (by decide +kernel)) (fun _ h9 => h9) rfl (by decide +kernel) (fun _ => rfl) (fun _ => rfl) dX9_come_98 h (fun x20 h => ?_)
      refine k_iconst (v := 0) o hb dX9_come_101 (by decide) ?_
      refine k_istore o hb dX9_come_102 rfl ?_
      refine KW.sub [2, 3, 4, 1, 0] rfl ?_
      refine wLoop_elim (M := fun (v24 : Int32) (x23 : HS) => KW g 5 104 [(0, .q l0), (1, .q l1), (2, .q l2), (3, .q v9), (4, .i v24)] [] x23) h ?_
      intro v24 x23 again21 ih22 h
      refine k_iload o hb dX9_come_104 4 rfl ?_
      refine k_iconst (v := 4) o hb dX9_come_106 (by decide) ?_
      refine k_icmp_ge (tgt := 140) o hb dX9_come_107 (by decide) h (fun h => ?_) (fun h => ?_)
      · skip
        refine k_aload_n o hb dX9_come_140 rfl 0 rfl ?_
        refine k_dup o hb dX9_come_141 ?_
        refine k_getI (C := RX9) (T := TX9) (N := 8) o hb hts in9 hown rfl (by decide) 5 (by decide) rfl (hts (.fieldLink RX9 52 "FactKeeper$Store" "nextNumber" "I") (by decide +kernel)) (fun _ h9 => h9) dX9_come_142 h (fun v25 h => ?_)
        refine k_iconst (v := 1) o hb dX9_come_145 (by decide) ?_
        refine k_iadd o hb dX9_come_146 ?_
        refine k_putI (C := RX9) (T := TX9) (N := 8) (ty := .int) o hb hts in9 tyX9 tyX9_ok nmX9 hown rfl (by decide) 5 (by decide) rfl (hts (.fieldLink RX9 52 "FactKeeper$Store" "nextNumber" "I") (by decide +kernel)) (fun _ h9 => h9) rfl (by decide +kernel) (fun _ => rfl) (fun _ => rfl) dX9_come_147 h (fun x26 h => ?_)
        refine k_aload_n o hb dX9_come_150 rfl 0 rfl ?_
        refine k_getF (C := RX9) (T := TX9) (N := 8) o hb hts in9 hown rfl (by decide) 2 (by decide) rfl (hts (.fieldLink RX9 26 "FactKeeper$Store" "history" "LFactKeeper$History;") (by decide +kernel)) (fun _ h9 => h9) dX9_come_151 h (fun v27 h => ?_)
        refine k_aload_n o hb dX9_come_154 rfl 3 rfl ?_
        refine k_iconst (v := 0) o hb dX9_come_155 (by decide) ?_
        refine k_run_v o (fun _ _ q => q) (k_runV (ci := 3) (rc := (RX3, TX3, 5)) o hb B.hml hown hts rfl (by decide) (T_X3_note g.l o.hl g.D g.cA h.2) (cwV 2 hts gX9_come_X3_note rfl rfl rfl (by decide +kernel) ⟨yle B.hR1 rfl, yle B.hR2 rfl⟩) h.1 rfl rfl (Nat.le_of_ble_eq_true rfl) dX9_come_156) (fun x28 h => ?_)
        refine k_aload_n o hb dX9_come_159 rfl 3 rfl ?_
        exact k_aret o hb B.hr (Or.inl ⟨_, rfl⟩) fr dX9_come_160 h
      · skip
        refine k_aload_n o hb dX9_come_110 rfl 3 rfl ?_
        refine k_getF (C := RX1) (T := TX1) (N := 7) o hb hts in1 hown rfl (by decide) 0 (by decide) rfl (hts (.fieldLink RX9 64 "FactKeeper$Fact" "columns" "[I") (by decide +kernel)) (fun _ h9 => h9) dX9_come_111 h (fun v30 h => ?_)
        refine k_iload o hb dX9_come_114 4 rfl ?_
        refine k_iload o hb dX9_come_116 4 rfl ?_
        refine k_aload_n o hb dX9_come_118 rfl 1 rfl ?_
        refine k_getI (C := RX10) (T := TX10) (N := 6) o hb hts in10 hown rfl (by decide) 1 (by decide) rfl (hts (.fieldLink RX9 68 "FactKeeper$Table" "columns" "I") (by decide +kernel)) (fun _ h9 => h9) dX9_come_119 h (fun v31 h => ?_)
        refine wJoin_elim (M := fun K => ∀ (v34 : Int32) (x33 : HS), K v34 x33 → KW g 5 133 [(0, .q l0), (1, .q l1), (2, .q l2), (3, .q v9), (4, .i v24)] [.i v34, .i v24, .q v30] x33) h ?_ (fun j32 hj32 h => ?_)
        · skip
          intro v34 x33 h
          refine k_iast o hb dX9_come_133 h (fun x35 h => ?_)
          refine k_iinc (w := 1) o hb dX9_come_134 4 rfl (by decide) rfl ?_
          refine k_goto (tgt := 104) o hb dX9_come_137 (by decide) ?_
          exact KW.sub [1, 2, 3, 4, 0] rfl (ih22 (v24 + 1) x35 h)
        · skip
          refine k_icmp_ge (tgt := 132) o hb dX9_come_122 (by decide) h (fun h => ?_) (fun h => ?_)
          · skip
            refine k_iconst (v := 0) o hb dX9_come_132 (by decide) ?_
            exact KW.sub [0, 1, 2, 3, 4] rfl (hj32 0 x23 h)
          · skip
            refine k_aload_n o hb dX9_come_125 rfl 2 rfl ?_
            refine k_iload o hb dX9_come_126 4 rfl ?_
            refine k_iald o hb dX9_come_128 h (fun v36 h => ?_)
            refine k_goto (tgt := 133) o hb dX9_come_129 (by decide) ?_
            exact KW.sub [0, 1, 2, 3, 4] rfl (hj32 v36 x23 h)
    · skip
      refine k_ifnonnull (tgt := 40) o hb dX9_come_21 (by decide) h (fun h => ?_) (fun h => ?_)
      · skip
        refine k_aload_n o hb dX9_come_24 rfl 0 rfl ?_
        refine k_getF (C := RX9) (T := TX9) (N := 8) o hb hts in9 hown rfl (by decide) 1 (by decide) rfl (hts (.fieldLink RX9 19 "FactKeeper$Store" "kept" "[LFactKeeper$Fact;") (by decide +kernel)) (fun _ h9 => h9) dX9_come_25 h (fun v37 h => ?_)
        refine k_aload_n o hb dX9_come_28 rfl 0 rfl ?_
        refine k_getI (C := RX9) (T := TX9) (N := 8) o hb hts in9 hown rfl (by decide) 4 (by decide) rfl (hts (.fieldLink RX9 40 "FactKeeper$Store" "keptCount" "I") (by decide +kernel)) (fun _ h9 => h9) dX9_come_29 h (fun v38 h => ?_)
        refine k_new (C := RX1) (T := TX1) (N := 7) o hb hts in1 tyX1 tyX1_ok hown (hts (.classLink RX9 17 RX1) (by decide +kernel)) (hts (.instantiable RX1 7) (by decide +kernel)) (hts (.initialized RX1) (by decide +kernel)) rfl (by decide) (fun j hj => by rcases (show j = 0 ∨ j = 1 ∨ j = 2 ∨ j = 3 ∨ j = 4 ∨ j = 5 ∨ j = 6 by omega) with rfl | rfl | rfl | rfl | rfl | rfl | rfl <;> rfl) dX9_come_32 h (fun q39 x40 h => ?_)
        refine k_dup o hb dX9_come_35 ?_
        refine k_run_v o (fun _ _ q => q.elim) (k_runIN (host := RX11) o hb B.hml hown hts (T_X1_init g.l o.hl g.D g.cA h) yX_no ⟨va_cnB 0 hts gX9_come_X1_init_n43 rfl rfl rfl o.hZ.2.2.1.2.2.2.2.2.2.2.1 (hts (.initialized RX1) (by decide +kernel)) (by decide +kernel) ⟨yle B.hR1 rfl, yle B.hR2 rfl⟩, rfl, hts (.instanceMethod yX1_init) (by decide +kernel)⟩ rfl rfl (Nat.le_of_ble_eq_true rfl) dX9_come_36) (fun x41 h => ?_)
        refine k_aast (kd := 25) (ci := 1) (t0 := 4) (rc := (RX1, TX1, 7)) o hb rfl (by decide) (by decide) rfl dX9_come_39 h (fun x43 h => ?_)
        exact KW.sub [0, 1, 2] rfl (hj5 x43 h)
      · skip
        exact KW.sub [0, 1, 2] rfl (hj5 x h)
  · skip
    refine k_null o hb dX9_come_10 ?_
    exact k_aret o hb B.hr (Or.inl ⟨_, rfl⟩) fr dX9_come_11 h
theorem dX9_go_0 : decode cX9_go 0 = .ok (.aload_n 0, 1) := by decide +kernel
theorem dX9_go_1 : decode cX9_go 1 = .ok (.dup, 1) := by decide +kernel
theorem dX9_go_2 : decode cX9_go 2 = .ok (.getfield 37, 3) := by decide +kernel
theorem dX9_go_5 : decode cX9_go 5 = .ok (.iconst 1, 1) := by decide +kernel
theorem dX9_go_6 : decode cX9_go 6 = .ok (.iadd, 1) := by decide +kernel
theorem dX9_go_7 : decode cX9_go 7 = .ok (.putfield 37, 3) := by decide +kernel
theorem dX9_go_10 : decode cX9_go 10 = .ok (.aload_n 1, 1) := by decide +kernel
theorem dX9_go_11 : decode cX9_go 11 = .ok (.aload_n 0, 1) := by decide +kernel
theorem dX9_go_12 : decode cX9_go 12 = .ok (.getfield 37, 3) := by decide +kernel
theorem dX9_go_15 : decode cX9_go 15 = .ok (.putfield 61, 3) := by decide +kernel
theorem dX9_go_18 : decode cX9_go 18 = .ok (.aload_n 0, 1) := by decide +kernel
theorem dX9_go_19 : decode cX9_go 19 = .ok (.getfield 26, 3) := by decide +kernel
theorem dX9_go_22 : decode cX9_go 22 = .ok (.aload_n 1, 1) := by decide +kernel
theorem dX9_go_23 : decode cX9_go 23 = .ok (.iconst 1, 1) := by decide +kernel
theorem dX9_go_24 : decode cX9_go 24 = .ok (.invokevirtual 70, 3) := by decide +kernel
theorem dX9_go_27 : decode cX9_go 27 = .ok (.return_, 1) := by decide +kernel
theorem i9wsX9_go_0 : ∀ w ∈ ([.fieldLink RX9 37 "FactKeeper$Store" "time" "I", .fieldLink RX9 61 "FactKeeper$Fact" "died" "I", .fieldLink RX9 26 "FactKeeper$Store" "history" "LFactKeeper$History;", .methodLink RX9 70 yX3_note, .instanceMethod yX3_note, .selects RX3 yX3_note yX3_note, .initialized RX3, .code yX3_note cX3_note 3 none, .fieldLink RX3 25 "FactKeeper$History" "markCount" "I", .fieldLink RX3 29 "FactKeeper$History" "size" "I", .fieldLink RX3 11 "FactKeeper$History" "facts" "[LFactKeeper$Fact;", .fieldLink RX3 17 "FactKeeper$History" "went" "[Z"] : List Cond), w ∈ wsX9_go := fun _ h => (List.mem_cons_of_mem _ (List.mem_append_left _ (List.mem_append_left _ (List.mem_append_left _ h))))
theorem i9wsX9_go_3 : ∀ w ∈ wsX30, w ∈ wsX9_go := fun _ h => (List.mem_cons_of_mem _ (List.mem_append_right _ h))
set_option maxRecDepth 20000 in
theorem ggX9_go_X3_note : GoodIn wsX9_go wsX3_note := (gin_c (mem_at i9wsX9_go_0 7 rfl) rfl (goodIn_app (gin_c (mem_at i9wsX9_go_0 8 rfl) rfl (gin_c (mem_at i9wsX9_go_0 9 rfl) rfl (gin_c (mem_at i9wsX9_go_0 10 rfl) rfl (gin_c (mem_at i9wsX9_go_0 11 rfl) rfl gin_n)))) (goodIn_sub i9wsX9_go_3 g9_4)))
set_option maxRecDepth 20000 in
theorem gX9_go_X3_note : GoodIn wsX9_go (wsV RX9 70 RX3 yX3_note wsX3_note) := goodIn_app (gin_c (mem_at i9wsX9_go_0 3 rfl) rfl (gin_c (mem_at i9wsX9_go_0 4 rfl) rfl (gin_c (mem_at i9wsX9_go_0 5 rfl) rfl (gin_c (mem_at i9wsX9_go_0 6 rfl) rfl gin_n)))) ggX9_go_X3_note
set_option maxHeartbeats 4000000 in
set_option maxRecDepth 100000 in
theorem T_X9_go (l : Launch) (hl : l.stackTraces = false) (D : va_G) (cA : Nat → ClassId) {l0 : Option Nat} {l1 : Option Nat} {x : HS} {Q : HS → Prop} {X : String → HS → Prop} (h : w_X9_go l0 l1 x Q X) : YV l yX9_go wsX9_go 1 22 D cA [.q l0, .q l1] x Q X := by
  refine YV.of (cc := cX9_go) (maxL := 2) (ret := none) hl (by decide) rfl rfl (fun g B fr => ?_)
  have o := B.o
  have hb := B.hb
  have hts := B.hts
  have hown : g.s.vm.findClass RX9 = some g.m.cls := B.hown
  have in1 : ∀ w ∈ u_ws RX1 TX1 7, w ∈ wsX9_go := fun w h => (List.mem_cons_of_mem _ (List.mem_append_left _ (List.mem_append_right _ h)))
  have in9 : ∀ w ∈ u_ws RX9 TX9 8, w ∈ wsX9_go := fun w h => (List.mem_cons_of_mem _ (List.mem_append_left _ (List.mem_append_left _ (List.mem_append_right _ h))))
  unfold w_X9_go at h
  show KW g 2 0 [(0, .q l0), (1, .q l1)] [] x
  refine k_aload_n o hb dX9_go_0 rfl 0 rfl ?_
  refine k_dup o hb dX9_go_1 ?_
  refine k_getI (C := RX9) (T := TX9) (N := 8) o hb hts in9 hown rfl (by decide) 6 (by decide) rfl (hts (.fieldLink RX9 37 "FactKeeper$Store" "time" "I") (by decide +kernel)) (fun _ h9 => h9) dX9_go_2 h (fun v1 h => ?_)
  refine k_iconst (v := 1) o hb dX9_go_5 (by decide) ?_
  refine k_iadd o hb dX9_go_6 ?_
  refine k_putI (C := RX9) (T := TX9) (N := 8) (ty := .int) o hb hts in9 tyX9 tyX9_ok nmX9 hown rfl (by decide) 6 (by decide) rfl (hts (.fieldLink RX9 37 "FactKeeper$Store" "time" "I") (by decide +kernel)) (fun _ h9 => h9) rfl (by decide +kernel) (fun _ => rfl) (fun _ => rfl) dX9_go_7 h (fun x2 h => ?_)
  refine k_aload_n o hb dX9_go_10 rfl 1 rfl ?_
  refine k_aload_n o hb dX9_go_11 rfl 0 rfl ?_
  refine k_getI (C := RX9) (T := TX9) (N := 8) o hb hts in9 hown rfl (by decide) 6 (by decide) rfl (hts (.fieldLink RX9 37 "FactKeeper$Store" "time" "I") (by decide +kernel)) (fun _ h9 => h9) dX9_go_12 h (fun v3 h => ?_)
  refine k_putI (C := RX1) (T := TX1) (N := 7) (ty := .int) o hb hts in1 tyX1 tyX1_ok nmX1 hown rfl (by decide) 6 (by decide) rfl (hts (.fieldLink RX9 61 "FactKeeper$Fact" "died" "I") (by decide +kernel)) (fun _ h9 => h9) rfl (by decide +kernel) (fun _ => rfl) (fun _ => rfl) dX9_go_15 h (fun x4 h => ?_)
  refine k_aload_n o hb dX9_go_18 rfl 0 rfl ?_
  refine k_getF (C := RX9) (T := TX9) (N := 8) o hb hts in9 hown rfl (by decide) 2 (by decide) rfl (hts (.fieldLink RX9 26 "FactKeeper$Store" "history" "LFactKeeper$History;") (by decide +kernel)) (fun _ h9 => h9) dX9_go_19 h (fun v5 h => ?_)
  refine k_aload_n o hb dX9_go_22 rfl 1 rfl ?_
  refine k_iconst (v := 1) o hb dX9_go_23 (by decide) ?_
  refine k_run_v o (fun _ _ q => q) (k_runV (ci := 3) (rc := (RX3, TX3, 5)) o hb B.hml hown hts rfl (by decide) (T_X3_note g.l o.hl g.D g.cA h.2) (cwV 2 hts gX9_go_X3_note rfl rfl rfl (by decide +kernel) ⟨yle B.hR1 rfl, yle B.hR2 rfl⟩) h.1 rfl rfl (Nat.le_of_ble_eq_true rfl) dX9_go_24) (fun x6 h => ?_)
  exact k_vret o hb B.hr fr dX9_go_27 h
theorem dX9_withNumber_0 : decode cX9_withNumber 0 = .ok (.iconst 0, 1) := by decide +kernel
theorem dX9_withNumber_1 : decode cX9_withNumber 1 = .ok (.istore_n 2, 1) := by decide +kernel
theorem dX9_withNumber_2 : decode cX9_withNumber 2 = .ok (.iload_n 2, 1) := by decide +kernel
theorem dX9_withNumber_3 : decode cX9_withNumber 3 = .ok (.aload_n 0, 1) := by decide +kernel
theorem dX9_withNumber_4 : decode cX9_withNumber 4 = .ok (.getfield 40, 3) := by decide +kernel
theorem dX9_withNumber_7 : decode cX9_withNumber 7 = .ok (.if_icmp .ge 29, 3) := by decide +kernel
theorem dX9_withNumber_10 : decode cX9_withNumber 10 = .ok (.aload_n 0, 1) := by decide +kernel
theorem dX9_withNumber_11 : decode cX9_withNumber 11 = .ok (.getfield 19, 3) := by decide +kernel
theorem dX9_withNumber_14 : decode cX9_withNumber 14 = .ok (.iload_n 2, 1) := by decide +kernel
theorem dX9_withNumber_15 : decode cX9_withNumber 15 = .ok (.aaload, 1) := by decide +kernel
theorem dX9_withNumber_16 : decode cX9_withNumber 16 = .ok (.getfield 55, 3) := by decide +kernel
theorem dX9_withNumber_19 : decode cX9_withNumber 19 = .ok (.iload_n 1, 1) := by decide +kernel
theorem dX9_withNumber_20 : decode cX9_withNumber 20 = .ok (.if_icmp .ne 10, 3) := by decide +kernel
theorem dX9_withNumber_23 : decode cX9_withNumber 23 = .ok (.aload_n 0, 1) := by decide +kernel
theorem dX9_withNumber_24 : decode cX9_withNumber 24 = .ok (.getfield 19, 3) := by decide +kernel
theorem dX9_withNumber_27 : decode cX9_withNumber 27 = .ok (.iload_n 2, 1) := by decide +kernel
theorem dX9_withNumber_28 : decode cX9_withNumber 28 = .ok (.aaload, 1) := by decide +kernel
theorem dX9_withNumber_29 : decode cX9_withNumber 29 = .ok (.areturn, 1) := by decide +kernel
theorem dX9_withNumber_30 : decode cX9_withNumber 30 = .ok (.iinc 2 1, 3) := by decide +kernel
theorem dX9_withNumber_33 : decode cX9_withNumber 33 = .ok (.goto (-31), 3) := by decide +kernel
theorem dX9_withNumber_36 : decode cX9_withNumber 36 = .ok (.aconst_null, 1) := by decide +kernel
theorem dX9_withNumber_37 : decode cX9_withNumber 37 = .ok (.areturn, 1) := by decide +kernel
set_option maxHeartbeats 4000000 in
set_option maxRecDepth 100000 in
theorem T_X9_withNumber (l : Launch) (hl : l.stackTraces = false) (D : va_G) (cA : Nat → ClassId) {l0 : Option Nat} {l1 : Int32} {x : HS} {Q : Option Nat → HS → Prop} {X : String → HS → Prop} (h : w_X9_withNumber l0 l1 x Q X) : YQ l yX9_withNumber wsX9_withNumber 0 0 D cA [.q l0, .i l1] x Q X := by
  refine YQ.of (cc := cX9_withNumber) (maxL := 3) (ret := (some (.object "FactKeeper$Fact"))) hl (by decide) rfl rfl (fun g B fr => ?_)
  have o := B.o
  have hb := B.hb
  have hts := B.hts
  have hown : g.s.vm.findClass RX9 = some g.m.cls := B.hown
  have in1 : ∀ w ∈ u_ws RX1 TX1 7, w ∈ wsX9_withNumber := fun w h => (List.mem_cons_of_mem _ (List.mem_append_right _ h))
  have in9 : ∀ w ∈ u_ws RX9 TX9 8, w ∈ wsX9_withNumber := fun w h => (List.mem_cons_of_mem _ (List.mem_append_left _ (List.mem_append_right _ h)))
  unfold w_X9_withNumber at h
  show KW g 3 0 [(0, .q l0), (1, .i l1)] [] x
  refine k_iconst (v := 0) o hb dX9_withNumber_0 (by decide) ?_
  refine k_istore_n o hb dX9_withNumber_1 rfl rfl ?_
  refine KW.sub [1, 2, 0] rfl ?_
  refine wLoop_elim (M := fun (v4 : Int32) (x3 : HS) => KW g 3 2 [(0, .q l0), (1, .i l1), (2, .i v4)] [] x3) h ?_
  intro v4 x3 again1 ih2 h
  refine k_iload_n o hb dX9_withNumber_2 rfl 2 rfl ?_
  refine k_aload_n o hb dX9_withNumber_3 rfl 0 rfl ?_
  refine k_getI (C := RX9) (T := TX9) (N := 8) o hb hts in9 hown rfl (by decide) 4 (by decide) rfl (hts (.fieldLink RX9 40 "FactKeeper$Store" "keptCount" "I") (by decide +kernel)) (fun _ h9 => h9) dX9_withNumber_4 h (fun v5 h => ?_)
  refine k_icmp_ge (tgt := 36) o hb dX9_withNumber_7 (by decide) h (fun h => ?_) (fun h => ?_)
  · skip
    refine k_null o hb dX9_withNumber_36 ?_
    exact k_aret o hb B.hr (Or.inl ⟨_, rfl⟩) fr dX9_withNumber_37 h
  · skip
    refine k_aload_n o hb dX9_withNumber_10 rfl 0 rfl ?_
    refine k_getF (C := RX9) (T := TX9) (N := 8) o hb hts in9 hown rfl (by decide) 1 (by decide) rfl (hts (.fieldLink RX9 19 "FactKeeper$Store" "kept" "[LFactKeeper$Fact;") (by decide +kernel)) (fun _ h9 => h9) dX9_withNumber_11 h (fun v6 h => ?_)
    refine k_iload_n o hb dX9_withNumber_14 rfl 2 rfl ?_
    refine k_aald (kd := 25) (t0 := 4) o hb rfl (by decide) dX9_withNumber_15 h (fun v7 h => ?_)
    refine k_getI (C := RX1) (T := TX1) (N := 7) o hb hts in1 hown rfl (by decide) 4 (by decide) rfl (hts (.fieldLink RX9 55 "FactKeeper$Fact" "number" "I") (by decide +kernel)) (fun _ h9 => h9) dX9_withNumber_16 h (fun v8 h => ?_)
    refine k_iload_n o hb dX9_withNumber_19 rfl 1 rfl ?_
    refine k_icmp_ne (tgt := 30) o hb dX9_withNumber_20 (by decide) h (fun h => ?_) (fun h => ?_)
    · skip
      refine k_aload_n o hb dX9_withNumber_23 rfl 0 rfl ?_
      refine k_getF (C := RX9) (T := TX9) (N := 8) o hb hts in9 hown rfl (by decide) 1 (by decide) rfl (hts (.fieldLink RX9 19 "FactKeeper$Store" "kept" "[LFactKeeper$Fact;") (by decide +kernel)) (fun _ h9 => h9) dX9_withNumber_24 h (fun v9 h => ?_)
      refine k_iload_n o hb dX9_withNumber_27 rfl 2 rfl ?_
      refine k_aald (kd := 25) (t0 := 4) o hb rfl (by decide) dX9_withNumber_28 h (fun v10 h => ?_)
      exact k_aret o hb B.hr (Or.inl ⟨_, rfl⟩) fr dX9_withNumber_29 h
    · skip
      refine k_iinc (w := 1) o hb dX9_withNumber_30 2 rfl (by decide) rfl ?_
      refine k_goto (tgt := 2) o hb dX9_withNumber_33 (by decide) ?_
      exact KW.sub [1, 2, 0] rfl (ih2 (v4 + 1) x3 h)
theorem dX9_hasRoomToTurn_0 : decode cX9_hasRoomToTurn 0 = .ok (.aload_n 0, 1) := by decide +kernel
theorem dX9_hasRoomToTurn_1 : decode cX9_hasRoomToTurn 1 = .ok (.getfield 26, 3) := by decide +kernel
theorem dX9_hasRoomToTurn_4 : decode cX9_hasRoomToTurn 4 = .ok (.invokevirtual 74, 3) := by decide +kernel
theorem dX9_hasRoomToTurn_7 : decode cX9_hasRoomToTurn 7 = .ok (.sipush 3000, 3) := by decide +kernel
theorem dX9_hasRoomToTurn_10 : decode cX9_hasRoomToTurn 10 = .ok (.aload_n 0, 1) := by decide +kernel
theorem dX9_hasRoomToTurn_11 : decode cX9_hasRoomToTurn 11 = .ok (.getfield 40, 3) := by decide +kernel
theorem dX9_hasRoomToTurn_14 : decode cX9_hasRoomToTurn 14 = .ok (.isub, 1) := by decide +kernel
theorem dX9_hasRoomToTurn_15 : decode cX9_hasRoomToTurn 15 = .ok (.if_icmp .gt 7, 3) := by decide +kernel
theorem dX9_hasRoomToTurn_18 : decode cX9_hasRoomToTurn 18 = .ok (.iconst 1, 1) := by decide +kernel
theorem dX9_hasRoomToTurn_19 : decode cX9_hasRoomToTurn 19 = .ok (.goto 4, 3) := by decide +kernel
theorem dX9_hasRoomToTurn_22 : decode cX9_hasRoomToTurn 22 = .ok (.iconst 0, 1) := by decide +kernel
theorem dX9_hasRoomToTurn_23 : decode cX9_hasRoomToTurn 23 = .ok (.ireturn, 1) := by decide +kernel
theorem i9wsX9_hasRoomToTurn_0 : ∀ w ∈ ([.fieldLink RX9 26 "FactKeeper$Store" "history" "LFactKeeper$History;", .fieldLink RX9 40 "FactKeeper$Store" "keptCount" "I", .methodLink RX9 74 yX3_goneSinceMark, .instanceMethod yX3_goneSinceMark, .selects RX3 yX3_goneSinceMark yX3_goneSinceMark, .initialized RX3, .code yX3_goneSinceMark cX3_goneSinceMark 3 (some .int), .fieldLink RX3 25 "FactKeeper$History" "markCount" "I", .fieldLink RX3 21 "FactKeeper$History" "marks" "[I", .fieldLink RX3 29 "FactKeeper$History" "size" "I", .fieldLink RX3 17 "FactKeeper$History" "went" "[Z"] : List Cond), w ∈ wsX9_hasRoomToTurn := fun _ h => (List.mem_cons_of_mem _ (List.mem_append_left _ (List.mem_append_left _ h)))
theorem i9wsX9_hasRoomToTurn_2 : ∀ w ∈ wsX30, w ∈ wsX9_hasRoomToTurn := fun _ h => (List.mem_cons_of_mem _ (List.mem_append_right _ h))
set_option maxRecDepth 20000 in
theorem ggX9_hasRoomToTurn_X3_goneSinceMark : GoodIn wsX9_hasRoomToTurn wsX3_goneSinceMark := (gin_c (mem_at i9wsX9_hasRoomToTurn_0 6 rfl) rfl (goodIn_app (gin_c (mem_at i9wsX9_hasRoomToTurn_0 7 rfl) rfl (gin_c (mem_at i9wsX9_hasRoomToTurn_0 8 rfl) rfl (gin_c (mem_at i9wsX9_hasRoomToTurn_0 9 rfl) rfl (gin_c (mem_at i9wsX9_hasRoomToTurn_0 10 rfl) rfl gin_n)))) (goodIn_sub i9wsX9_hasRoomToTurn_2 g9_4)))
set_option maxRecDepth 20000 in
theorem gX9_hasRoomToTurn_X3_goneSinceMark : GoodIn wsX9_hasRoomToTurn (wsV RX9 74 RX3 yX3_goneSinceMark wsX3_goneSinceMark) := goodIn_app (gin_c (mem_at i9wsX9_hasRoomToTurn_0 2 rfl) rfl (gin_c (mem_at i9wsX9_hasRoomToTurn_0 3 rfl) rfl (gin_c (mem_at i9wsX9_hasRoomToTurn_0 4 rfl) rfl (gin_c (mem_at i9wsX9_hasRoomToTurn_0 5 rfl) rfl gin_n)))) ggX9_hasRoomToTurn_X3_goneSinceMark
set_option maxHeartbeats 4000000 in
set_option maxRecDepth 100000 in
theorem T_X9_hasRoomToTurn (l : Launch) (hl : l.stackTraces = false) (D : va_G) (cA : Nat → ClassId) {l0 : Option Nat} {x : HS} {Q : Int32 → HS → Prop} {X : String → HS → Prop} (h : w_X9_hasRoomToTurn l0 x Q X) : YI l yX9_hasRoomToTurn wsX9_hasRoomToTurn 1 22 D cA [.q l0] x Q X := by
  refine YI.of (cc := cX9_hasRoomToTurn) (maxL := 1) (ret := (some .boolean)) hl (by decide) rfl rfl (fun g B fr => ?_)
  have o := B.o
  have hb := B.hb
  have hts := B.hts
  have hown : g.s.vm.findClass RX9 = some g.m.cls := B.hown
  have in9 : ∀ w ∈ u_ws RX9 TX9 8, w ∈ wsX9_hasRoomToTurn := fun w h => (List.mem_cons_of_mem _ (List.mem_append_left _ (List.mem_append_right _ h)))
  unfold w_X9_hasRoomToTurn at h
  show KW g 1 0 [(0, .q l0)] [] x
  refine k_aload_n o hb dX9_hasRoomToTurn_0 rfl 0 rfl ?_
  refine k_getF (C := RX9) (T := TX9) (N := 8) o hb hts in9 hown rfl (by decide) 2 (by decide) rfl (hts (.fieldLink RX9 26 "FactKeeper$Store" "history" "LFactKeeper$History;") (by decide +kernel)) (fun _ h9 => h9) dX9_hasRoomToTurn_1 h (fun v1 h => ?_)
  refine k_run_i o (fun _ _ q => q) (k_runV (ci := 3) (rc := (RX3, TX3, 5)) o hb B.hml hown hts rfl (by decide) (T_X3_goneSinceMark g.l o.hl g.D g.cA h.2) (cwV 0 hts gX9_hasRoomToTurn_X3_goneSinceMark rfl rfl rfl (by decide +kernel) ⟨yle B.hR1 rfl, yle B.hR2 rfl⟩) h.1 rfl rfl (Nat.le_of_ble_eq_true rfl) dX9_hasRoomToTurn_4) (fun v3 x2 h => ?_)
  refine k_sipush (v := 3000) o hb dX9_hasRoomToTurn_7 (by decide) ?_
  refine k_aload_n o hb dX9_hasRoomToTurn_10 rfl 0 rfl ?_
  refine k_getI (C := RX9) (T := TX9) (N := 8) o hb hts in9 hown rfl (by decide) 4 (by decide) rfl (hts (.fieldLink RX9 40 "FactKeeper$Store" "keptCount" "I") (by decide +kernel)) (fun _ h9 => h9) dX9_hasRoomToTurn_11 h (fun v4 h => ?_)
  refine k_isub o hb dX9_hasRoomToTurn_14 ?_
  refine wJoin_elim (M := fun K => ∀ (v7 : Int32) (x6 : HS), K v7 x6 → KW g 1 23 [] [.i v7] x6) h ?_ (fun j5 hj5 h => ?_)
  · skip
    intro v7 x6 h
    exact k_zret o hb B.hr fr dX9_hasRoomToTurn_23 h
  · skip
    refine k_icmp_gt (tgt := 22) o hb dX9_hasRoomToTurn_15 (by decide) h (fun h => ?_) (fun h => ?_)
    · skip
      refine k_iconst (v := 0) o hb dX9_hasRoomToTurn_22 (by decide) ?_
      exact KW.sub [] rfl (hj5 0 x2 h)
    · skip
      refine k_iconst (v := 1) o hb dX9_hasRoomToTurn_18 (by decide) ?_
      refine k_goto (tgt := 23) o hb dX9_hasRoomToTurn_19 (by decide) ?_
      exact KW.sub [] rfl (hj5 1 x2 h)
theorem dX9_comeAgain_0 : decode cX9_comeAgain 0 = .ok (.aload_n 0, 1) := by decide +kernel
theorem dX9_comeAgain_1 : decode cX9_comeAgain 1 = .ok (.aload_n 1, 1) := by decide +kernel
theorem dX9_comeAgain_2 : decode cX9_comeAgain 2 = .ok (.getfield 44, 3) := by decide +kernel
theorem dX9_comeAgain_5 : decode cX9_comeAgain 5 = .ok (.aload_n 1, 1) := by decide +kernel
theorem dX9_comeAgain_6 : decode cX9_comeAgain 6 = .ok (.getfield 64, 3) := by decide +kernel
theorem dX9_comeAgain_9 : decode cX9_comeAgain 9 = .ok (.invokevirtual 95, 3) := by decide +kernel
theorem dX9_comeAgain_12 : decode cX9_comeAgain 12 = .ok (.astore_n 2, 1) := by decide +kernel
theorem dX9_comeAgain_13 : decode cX9_comeAgain 13 = .ok (.aload_n 2, 1) := by decide +kernel
theorem dX9_comeAgain_14 : decode cX9_comeAgain 14 = .ok (.ifnull 17, 3) := by decide +kernel
theorem dX9_comeAgain_17 : decode cX9_comeAgain 17 = .ok (.aload_n 1, 1) := by decide +kernel
theorem dX9_comeAgain_18 : decode cX9_comeAgain 18 = .ok (.getfield 44, 3) := by decide +kernel
theorem dX9_comeAgain_21 : decode cX9_comeAgain 21 = .ok (.aload_n 2, 1) := by decide +kernel
theorem dX9_comeAgain_22 : decode cX9_comeAgain 22 = .ok (.aload_n 1, 1) := by decide +kernel
theorem dX9_comeAgain_23 : decode cX9_comeAgain 23 = .ok (.invokevirtual 99, 3) := by decide +kernel
theorem dX9_comeAgain_26 : decode cX9_comeAgain 26 = .ok (.aload_n 1, 1) := by decide +kernel
theorem dX9_comeAgain_27 : decode cX9_comeAgain 27 = .ok (.aload_n 2, 1) := by decide +kernel
theorem dX9_comeAgain_28 : decode cX9_comeAgain 28 = .ok (.putfield 48, 3) := by decide +kernel
theorem dX9_comeAgain_31 : decode cX9_comeAgain 31 = .ok (.return_, 1) := by decide +kernel
theorem i9wsX9_comeAgain_0 : ∀ w ∈ wsX9_comeAgain_r1, w ∈ wsX9_comeAgain := fun _ h => (List.mem_cons_of_mem _ (List.mem_append_left _ (List.mem_append_left _ (List.mem_append_left _ (List.mem_append_left _ (List.mem_append_left _ (List.mem_append_left _ (List.mem_append_left _ h))))))))
theorem i9wsX9_comeAgain_1 : ∀ w ∈ wsX9_comeAgain_r2, w ∈ wsX9_comeAgain := fun _ h => (List.mem_cons_of_mem _ (List.mem_append_left _ (List.mem_append_left _ (List.mem_append_left _ (List.mem_append_left _ (List.mem_append_left _ (List.mem_append_left _ (List.mem_append_right _ (List.mem_append_left _ h)))))))))
theorem i9wsX9_comeAgain_5 : ∀ w ∈ wsX90, w ∈ wsX9_comeAgain := fun _ h => (List.mem_cons_of_mem _ (List.mem_append_left _ (List.mem_append_left _ (List.mem_append_left _ (List.mem_append_left _ (List.mem_append_right _ h))))))
theorem i9wsX9_comeAgain_4 : ∀ w ∈ wsX10, w ∈ wsX9_comeAgain := fun _ h => (List.mem_cons_of_mem _ (List.mem_append_left _ (List.mem_append_left _ (List.mem_append_left _ (List.mem_append_left _ (List.mem_append_left _ (List.mem_append_right _ h)))))))
theorem i9wsX9_comeAgain_6 : ∀ w ∈ wsX100, w ∈ wsX9_comeAgain := fun _ h => (List.mem_cons_of_mem _ (List.mem_append_left _ (List.mem_append_left _ (List.mem_append_left _ (List.mem_append_right _ h)))))
theorem i9wsX9_comeAgain_7 : ∀ w ∈ wsX30, w ∈ wsX9_comeAgain := fun _ h => (List.mem_cons_of_mem _ (List.mem_append_left _ (List.mem_append_left _ (List.mem_append_right _ h))))
set_option maxRecDepth 20000 in
theorem ggX9_comeAgain_X9_come : GoodIn wsX9_comeAgain wsX9_come := (gin_c (mem_at i9wsX9_comeAgain_0 7 rfl) rfl (goodIn_app (goodIn_app (goodIn_app (goodIn_app (goodIn_app (gin_c (mem_at i9wsX9_comeAgain_0 8 rfl) rfl (gin_c (mem_at i9wsX9_comeAgain_0 9 rfl) rfl (gin_c (mem_at i9wsX9_comeAgain_0 10 rfl) rfl (gin_c (mem_at i9wsX9_comeAgain_0 11 rfl) rfl (gin_c (mem_at i9wsX9_comeAgain_0 12 rfl) rfl (gin_c (mem_at i9wsX9_comeAgain_0 13 rfl) rfl (gin_c (mem_at i9wsX9_comeAgain_0 0 rfl) rfl (gin_c (mem_at i9wsX9_comeAgain_0 2 rfl) rfl (gin_c (mem_at i9wsX9_comeAgain_0 14 rfl) rfl (gin_c (mem_at i9wsX9_comeAgain_0 15 rfl) rfl (gin_c (mem_at i9wsX9_comeAgain_0 16 rfl) rfl (gin_c (mem_at i9wsX9_comeAgain_0 17 rfl) rfl (gin_c (mem_at i9wsX9_comeAgain_0 1 rfl) rfl (gin_c (mem_at i9wsX9_comeAgain_0 18 rfl) rfl (gin_c (mem_at i9wsX9_comeAgain_0 19 rfl) rfl (gin_c (mem_at i9wsX9_comeAgain_0 20 rfl) rfl (gin_c (mem_at i9wsX9_comeAgain_0 21 rfl) rfl (gin_c (mem_at i9wsX9_comeAgain_0 22 rfl) rfl (gin_c (mem_at i9wsX9_comeAgain_0 23 rfl) rfl (gin_c (mem_at i9wsX9_comeAgain_1 0 rfl) rfl (gin_c (mem_at i9wsX9_comeAgain_1 1 rfl) rfl (gin_c (mem_at i9wsX9_comeAgain_1 2 rfl) rfl (gin_c (mem_at i9wsX9_comeAgain_1 3 rfl) rfl (gin_c (mem_at i9wsX9_comeAgain_1 4 rfl) rfl gin_n)))))))))))))))))))))))) (gin_c (mem_at i9wsX9_comeAgain_1 5 rfl) rfl (gin_c (mem_at i9wsX9_comeAgain_1 6 rfl) rfl (gin_c (mem_at i9wsX9_comeAgain_1 7 rfl) rfl (gin_c (mem_at i9wsX9_comeAgain_1 8 rfl) rfl (gin_c (mem_at i9wsX9_comeAgain_1 9 rfl) rfl (gin_c (mem_at i9wsX9_comeAgain_1 10 rfl) rfl (gin_c (mem_at i9wsX9_comeAgain_1 11 rfl) rfl (gin_c (mem_at i9wsX9_comeAgain_1 12 rfl) rfl (gin_c (mem_at i9wsX9_comeAgain_1 13 rfl) rfl gin_n)))))))))) (goodIn_sub i9wsX9_comeAgain_5 g9_5)) (goodIn_sub i9wsX9_comeAgain_4 g9_0)) (goodIn_sub i9wsX9_comeAgain_6 g9_3)) (goodIn_sub i9wsX9_comeAgain_7 g9_4)))
set_option maxRecDepth 20000 in
theorem gX9_comeAgain_X9_come : GoodIn wsX9_comeAgain (wsV RX9 95 RX9 yX9_come wsX9_come) := goodIn_app (gin_c (mem_at i9wsX9_comeAgain_0 3 rfl) rfl (gin_c (mem_at i9wsX9_comeAgain_0 4 rfl) rfl (gin_c (mem_at i9wsX9_comeAgain_0 5 rfl) rfl (gin_c (mem_at i9wsX9_comeAgain_0 6 rfl) rfl gin_n)))) ggX9_comeAgain_X9_come
theorem i9wsX9_comeAgain_2 : ∀ w ∈ wsX9_comeAgain_r3, w ∈ wsX9_comeAgain := fun _ h => (List.mem_cons_of_mem _ (List.mem_append_left _ (List.mem_append_left _ (List.mem_append_left _ (List.mem_append_left _ (List.mem_append_left _ (List.mem_append_left _ (List.mem_append_right _ (List.mem_append_right _ (List.mem_append_left _ h))))))))))
theorem i9wsX9_comeAgain_3 : ∀ w ∈ wsX9_comeAgain_r4, w ∈ wsX9_comeAgain := fun _ h => (List.mem_cons_of_mem _ (List.mem_append_left _ (List.mem_append_left _ (List.mem_append_left _ (List.mem_append_left _ (List.mem_append_left _ (List.mem_append_left _ (List.mem_append_right _ (List.mem_append_right _ (List.mem_append_right _ h))))))))))
theorem i9wsX9_comeAgain_8 : ∀ w ∈ wsX00, w ∈ wsX9_comeAgain := fun _ h => (List.mem_cons_of_mem _ (List.mem_append_left _ (List.mem_append_right _ h)))
theorem i9wsX9_comeAgain_9 : ∀ w ∈ wsX40, w ∈ wsX9_comeAgain := fun _ h => (List.mem_cons_of_mem _ (List.mem_append_right _ h))
set_option maxRecDepth 20000 in
theorem ggX9_comeAgain_X10_placeAfter : GoodIn wsX9_comeAgain wsX10_placeAfter := (gin_c (mem_at i9wsX9_comeAgain_1 18 rfl) rfl (goodIn_app (goodIn_app (goodIn_app (goodIn_app (goodIn_app (gin_c (mem_at i9wsX9_comeAgain_1 19 rfl) rfl (gin_c (mem_at i9wsX9_comeAgain_1 20 rfl) rfl (gin_c (mem_at i9wsX9_comeAgain_1 21 rfl) rfl (gin_c (mem_at i9wsX9_comeAgain_1 22 rfl) rfl (gin_c (mem_at i9wsX9_comeAgain_1 23 rfl) rfl (gin_c (mem_at i9wsX9_comeAgain_2 0 rfl) rfl (gin_c (mem_at i9wsX9_comeAgain_2 1 rfl) rfl (gin_c (mem_at i9wsX9_comeAgain_2 2 rfl) rfl (gin_c (mem_at i9wsX9_comeAgain_2 3 rfl) rfl (gin_c (mem_at i9wsX9_comeAgain_2 4 rfl) rfl (gin_c (mem_at i9wsX9_comeAgain_2 5 rfl) rfl (gin_c (mem_at i9wsX9_comeAgain_2 6 rfl) rfl (gin_c (mem_at i9wsX9_comeAgain_2 7 rfl) rfl (gin_c (mem_at i9wsX9_comeAgain_2 8 rfl) rfl (gin_c (mem_at i9wsX9_comeAgain_2 9 rfl) rfl (gin_c (mem_at i9wsX9_comeAgain_2 10 rfl) rfl (gin_c (mem_at i9wsX9_comeAgain_2 11 rfl) rfl (gin_c (mem_at i9wsX9_comeAgain_2 12 rfl) rfl (gin_c (mem_at i9wsX9_comeAgain_2 13 rfl) rfl (gin_c (mem_at i9wsX9_comeAgain_2 14 rfl) rfl (gin_c (mem_at i9wsX9_comeAgain_2 15 rfl) rfl (gin_c (mem_at i9wsX9_comeAgain_2 16 rfl) rfl (gin_c (mem_at i9wsX9_comeAgain_2 17 rfl) rfl (gin_c (mem_at i9wsX9_comeAgain_2 18 rfl) rfl gin_n)))))))))))))))))))))))) (gin_c (mem_at i9wsX9_comeAgain_2 19 rfl) rfl (gin_c (mem_at i9wsX9_comeAgain_2 20 rfl) rfl (gin_c (mem_at i9wsX9_comeAgain_2 21 rfl) rfl (gin_c (mem_at i9wsX9_comeAgain_2 22 rfl) rfl (gin_c (mem_at i9wsX9_comeAgain_2 23 rfl) rfl (gin_c (mem_at i9wsX9_comeAgain_3 0 rfl) rfl (gin_c (mem_at i9wsX9_comeAgain_3 1 rfl) rfl (gin_c (mem_at i9wsX9_comeAgain_0 23 rfl) rfl (gin_c (mem_at i9wsX9_comeAgain_1 0 rfl) rfl (gin_c (mem_at i9wsX9_comeAgain_3 2 rfl) rfl (gin_c (mem_at i9wsX9_comeAgain_3 3 rfl) rfl gin_n)))))))))))) (goodIn_sub i9wsX9_comeAgain_6 g9_3)) (goodIn_sub i9wsX9_comeAgain_4 g9_0)) (goodIn_sub i9wsX9_comeAgain_8 g9_1)) (goodIn_sub i9wsX9_comeAgain_9 g9_2)))
set_option maxRecDepth 20000 in
theorem gX9_comeAgain_X10_placeAfter : GoodIn wsX9_comeAgain (wsV RX9 99 RX10 yX10_placeAfter wsX10_placeAfter) := goodIn_app (gin_c (mem_at i9wsX9_comeAgain_1 14 rfl) rfl (gin_c (mem_at i9wsX9_comeAgain_1 15 rfl) rfl (gin_c (mem_at i9wsX9_comeAgain_1 16 rfl) rfl (gin_c (mem_at i9wsX9_comeAgain_1 17 rfl) rfl gin_n)))) ggX9_comeAgain_X10_placeAfter
set_option maxHeartbeats 4000000 in
set_option maxRecDepth 100000 in
theorem T_X9_comeAgain (l : Launch) (hl : l.stackTraces = false) (D : va_G) (cA : Nat → ClassId) {l0 : Option Nat} {l1 : Option Nat} {x : HS} {Q : HS → Prop} {X : String → HS → Prop} (h : w_X9_comeAgain l0 l1 x Q X) : YV l yX9_comeAgain wsX9_comeAgain 4 82 D cA [.q l0, .q l1] x Q X := by
  refine YV.of (cc := cX9_comeAgain) (maxL := 3) (ret := none) hl (by decide) rfl rfl (fun g B fr => ?_)
  have o := B.o
  have hb := B.hb
  have hts := B.hts
  have hown : g.s.vm.findClass RX9 = some g.m.cls := B.hown
  have in1 : ∀ w ∈ u_ws RX1 TX1 7, w ∈ wsX9_comeAgain := fun w h => (List.mem_cons_of_mem _ (List.mem_append_left _ (List.mem_append_left _ (List.mem_append_left _ (List.mem_append_left _ (List.mem_append_left _ (List.mem_append_right _ h)))))))
  unfold w_X9_comeAgain at h
  show KW g 3 0 [(0, .q l0), (1, .q l1)] [] x
  refine k_aload_n o hb dX9_comeAgain_0 rfl 0 rfl ?_
  refine k_aload_n o hb dX9_comeAgain_1 rfl 1 rfl ?_
  refine k_getF (C := RX1) (T := TX1) (N := 7) o hb hts in1 hown rfl (by decide) 2 (by decide) rfl (hts (.fieldLink RX9 44 "FactKeeper$Fact" "table" "LFactKeeper$Table;") (by decide +kernel)) (fun _ h9 => h9) dX9_comeAgain_2 h (fun v1 h => ?_)
  refine k_aload_n o hb dX9_comeAgain_5 rfl 1 rfl ?_
  refine k_getF (C := RX1) (T := TX1) (N := 7) o hb hts in1 hown rfl (by decide) 0 (by decide) rfl (hts (.fieldLink RX9 64 "FactKeeper$Fact" "columns" "[I") (by decide +kernel)) (fun _ h9 => h9) dX9_comeAgain_6 h (fun v2 h => ?_)
  refine k_run_q o (fun _ _ q => q) (k_runV (ci := 9) (rc := (RX9, TX9, 8)) o hb B.hml hown hts rfl (by decide) (T_X9_come g.l o.hl g.D g.cA h.2) (cwV 2 hts gX9_comeAgain_X9_come rfl rfl rfl (by decide +kernel) ⟨yle B.hR1 rfl, yle B.hR2 rfl⟩) h.1 rfl rfl (Nat.le_of_ble_eq_true rfl) dX9_comeAgain_9) (fun v4 x3 h => ?_)
  refine k_astore_n o hb dX9_comeAgain_12 rfl rfl ?_
  refine k_aload_n o hb dX9_comeAgain_13 rfl 0 rfl ?_
  refine wJoin_elim (M := fun K => ∀  (x6 : HS), K  x6 → KW g 3 31 [] [] x6) h ?_ (fun j5 hj5 h => ?_)
  · skip
    intro  x6 h
    exact k_vret o hb B.hr fr dX9_comeAgain_31 h
  · skip
    refine k_ifnull (tgt := 31) o hb dX9_comeAgain_14 (by decide) h (fun h => ?_) (fun h => ?_)
    · skip
      exact KW.sub [] rfl (hj5 x3 h)
    · skip
      refine k_aload_n o hb dX9_comeAgain_17 rfl 2 rfl ?_
      refine k_getF (C := RX1) (T := TX1) (N := 7) o hb hts in1 hown rfl (by decide) 2 (by decide) rfl (hts (.fieldLink RX9 44 "FactKeeper$Fact" "table" "LFactKeeper$Table;") (by decide +kernel)) (fun _ h9 => h9) dX9_comeAgain_18 h (fun v7 h => ?_)
      refine k_aload_n o hb dX9_comeAgain_21 rfl 0 rfl ?_
      refine k_aload_n o hb dX9_comeAgain_22 rfl 2 rfl ?_
      refine k_run_v o (fun _ _ q => q) (k_runV (ci := 10) (rc := (RX10, TX10, 6)) o hb B.hml hown hts rfl (by decide) (T_X10_placeAfter g.l o.hl g.D g.cA h.2) (cwV 2 hts gX9_comeAgain_X10_placeAfter rfl rfl rfl (by decide +kernel) ⟨yle B.hR1 rfl, yle B.hR2 rfl⟩) h.1 rfl rfl (Nat.le_of_ble_eq_true rfl) dX9_comeAgain_23) (fun x8 h => ?_)
      refine k_aload_n o hb dX9_comeAgain_26 rfl 2 rfl ?_
      refine k_aload_n o hb dX9_comeAgain_27 rfl 0 rfl ?_
      refine k_putF (C := RX1) (T := TX1) (N := 7) (ty := (tyX1 3)) o hb hts in1 tyX1 tyX1_ok nmX1 hown rfl (by decide) 3 (by decide) rfl (hts (.fieldLink RX9 48 "FactKeeper$Fact" "standIn" "LFactKeeper$Fact;") (by decide +kernel)) (fun _ h9 => h9) rfl (by decide +kernel) (fun r => by cases r <;> rfl) (fun r => by cases r <;> rfl) dX9_comeAgain_28 h (fun x10 h => ?_)
      exact KW.sub [] rfl (hj5 x10 h)
theorem dX9_turn_0 : decode cX9_turn 0 = .ok (.aload_n 0, 1) := by decide +kernel
theorem dX9_turn_1 : decode cX9_turn 1 = .ok (.getfield 26, 3) := by decide +kernel
theorem dX9_turn_4 : decode cX9_turn 4 = .ok (.getfield 78, 3) := by decide +kernel
theorem dX9_turn_7 : decode cX9_turn 7 = .ok (.istore_n 2, 1) := by decide +kernel
theorem dX9_turn_8 : decode cX9_turn 8 = .ok (.iload_n 2, 1) := by decide +kernel
theorem dX9_turn_9 : decode cX9_turn 9 = .ok (.iconst 1, 1) := by decide +kernel
theorem dX9_turn_10 : decode cX9_turn 10 = .ok (.isub, 1) := by decide +kernel
theorem dX9_turn_11 : decode cX9_turn 11 = .ok (.istore_n 3, 1) := by decide +kernel
theorem dX9_turn_12 : decode cX9_turn 12 = .ok (.iload_n 3, 1) := by decide +kernel
theorem dX9_turn_13 : decode cX9_turn 13 = .ok (.iload_n 1, 1) := by decide +kernel
theorem dX9_turn_14 : decode cX9_turn 14 = .ok (.if_icmp .lt 67, 3) := by decide +kernel
theorem dX9_turn_17 : decode cX9_turn 17 = .ok (.iload_n 3, 1) := by decide +kernel
theorem dX9_turn_18 : decode cX9_turn 18 = .ok (.ifCond .lt 63, 3) := by decide +kernel
theorem dX9_turn_21 : decode cX9_turn 21 = .ok (.aload_n 0, 1) := by decide +kernel
theorem dX9_turn_22 : decode cX9_turn 22 = .ok (.getfield 26, 3) := by decide +kernel
theorem dX9_turn_25 : decode cX9_turn 25 = .ok (.getfield 81, 3) := by decide +kernel
theorem dX9_turn_28 : decode cX9_turn 28 = .ok (.iload_n 3, 1) := by decide +kernel
theorem dX9_turn_29 : decode cX9_turn 29 = .ok (.aaload, 1) := by decide +kernel
theorem dX9_turn_30 : decode cX9_turn 30 = .ok (.astore 4, 2) := by decide +kernel
theorem dX9_turn_32 : decode cX9_turn 32 = .ok (.aload_n 0, 1) := by decide +kernel
theorem dX9_turn_33 : decode cX9_turn 33 = .ok (.getfield 26, 3) := by decide +kernel
theorem dX9_turn_36 : decode cX9_turn 36 = .ok (.getfield 84, 3) := by decide +kernel
theorem dX9_turn_39 : decode cX9_turn 39 = .ok (.iload_n 3, 1) := by decide +kernel
theorem dX9_turn_40 : decode cX9_turn 40 = .ok (.baload, 1) := by decide +kernel
theorem dX9_turn_41 : decode cX9_turn 41 = .ok (.ifCond .eq 12, 3) := by decide +kernel
theorem dX9_turn_44 : decode cX9_turn 44 = .ok (.aload_n 0, 1) := by decide +kernel
theorem dX9_turn_45 : decode cX9_turn 45 = .ok (.aload 4, 2) := by decide +kernel
theorem dX9_turn_47 : decode cX9_turn 47 = .ok (.invokevirtual 88, 3) := by decide +kernel
theorem dX9_turn_50 : decode cX9_turn 50 = .ok (.goto 25, 3) := by decide +kernel
theorem dX9_turn_53 : decode cX9_turn 53 = .ok (.aload_n 0, 1) := by decide +kernel
theorem dX9_turn_54 : decode cX9_turn 54 = .ok (.aload 4, 2) := by decide +kernel
theorem dX9_turn_56 : decode cX9_turn 56 = .ok (.getfield 48, 3) := by decide +kernel
theorem dX9_turn_59 : decode cX9_turn 59 = .ok (.ifnonnull 8, 3) := by decide +kernel
theorem dX9_turn_62 : decode cX9_turn 62 = .ok (.aload 4, 2) := by decide +kernel
theorem dX9_turn_64 : decode cX9_turn 64 = .ok (.goto 8, 3) := by decide +kernel
theorem dX9_turn_67 : decode cX9_turn 67 = .ok (.aload 4, 2) := by decide +kernel
theorem dX9_turn_69 : decode cX9_turn 69 = .ok (.getfield 48, 3) := by decide +kernel
theorem dX9_turn_72 : decode cX9_turn 72 = .ok (.invokevirtual 92, 3) := by decide +kernel
theorem dX9_turn_75 : decode cX9_turn 75 = .ok (.iinc 3 (-1), 3) := by decide +kernel
theorem dX9_turn_78 : decode cX9_turn 78 = .ok (.goto (-66), 3) := by decide +kernel
theorem dX9_turn_81 : decode cX9_turn 81 = .ok (.iload_n 2, 1) := by decide +kernel
theorem dX9_turn_82 : decode cX9_turn 82 = .ok (.iload_n 1, 1) := by decide +kernel
theorem dX9_turn_83 : decode cX9_turn 83 = .ok (.isub, 1) := by decide +kernel
theorem dX9_turn_84 : decode cX9_turn 84 = .ok (.ireturn, 1) := by decide +kernel
theorem i9wsX9_turn_0 : ∀ w ∈ wsX9_turn_r1, w ∈ wsX9_turn := fun _ h => (List.mem_cons_of_mem _ (List.mem_append_left _ (List.mem_append_left _ (List.mem_append_left _ (List.mem_append_left _ (List.mem_append_left _ (List.mem_append_left _ (List.mem_append_left _ h))))))))
theorem i9wsX9_turn_1 : ∀ w ∈ wsX9_turn_r2, w ∈ wsX9_turn := fun _ h => (List.mem_cons_of_mem _ (List.mem_append_left _ (List.mem_append_left _ (List.mem_append_left _ (List.mem_append_left _ (List.mem_append_left _ (List.mem_append_left _ (List.mem_append_right _ (List.mem_append_left _ h)))))))))
theorem i9wsX9_turn_2 : ∀ w ∈ wsX9_turn_r3, w ∈ wsX9_turn := fun _ h => (List.mem_cons_of_mem _ (List.mem_append_left _ (List.mem_append_left _ (List.mem_append_left _ (List.mem_append_left _ (List.mem_append_left _ (List.mem_append_left _ (List.mem_append_right _ (List.mem_append_right _ (List.mem_append_left _ h))))))))))
theorem i9wsX9_turn_3 : ∀ w ∈ wsX9_turn_r4, w ∈ wsX9_turn := fun _ h => (List.mem_cons_of_mem _ (List.mem_append_left _ (List.mem_append_left _ (List.mem_append_left _ (List.mem_append_left _ (List.mem_append_left _ (List.mem_append_left _ (List.mem_append_right _ (List.mem_append_right _ (List.mem_append_right _ h))))))))))
theorem i9wsX9_turn_6 : ∀ w ∈ wsX10, w ∈ wsX9_turn := fun _ h => (List.mem_cons_of_mem _ (List.mem_append_left _ (List.mem_append_left _ (List.mem_append_left _ (List.mem_append_right _ h)))))
theorem i9wsX9_turn_4 : ∀ w ∈ wsX90, w ∈ wsX9_turn := fun _ h => (List.mem_cons_of_mem _ (List.mem_append_left _ (List.mem_append_left _ (List.mem_append_left _ (List.mem_append_left _ (List.mem_append_left _ (List.mem_append_right _ h)))))))
theorem i9wsX9_turn_7 : ∀ w ∈ wsX100, w ∈ wsX9_turn := fun _ h => (List.mem_cons_of_mem _ (List.mem_append_left _ (List.mem_append_left _ (List.mem_append_right _ h))))
theorem i9wsX9_turn_5 : ∀ w ∈ wsX30, w ∈ wsX9_turn := fun _ h => (List.mem_cons_of_mem _ (List.mem_append_left _ (List.mem_append_left _ (List.mem_append_left _ (List.mem_append_left _ (List.mem_append_right _ h))))))
theorem i9wsX9_turn_8 : ∀ w ∈ wsX00, w ∈ wsX9_turn := fun _ h => (List.mem_cons_of_mem _ (List.mem_append_left _ (List.mem_append_right _ h)))
theorem i9wsX9_turn_9 : ∀ w ∈ wsX40, w ∈ wsX9_turn := fun _ h => (List.mem_cons_of_mem _ (List.mem_append_right _ h))
set_option maxRecDepth 20000 in
theorem ggX9_turn_X9_comeAgain : GoodIn wsX9_turn wsX9_comeAgain := (gin_c (mem_at i9wsX9_turn_0 9 rfl) rfl (goodIn_app (goodIn_app (goodIn_app (goodIn_app (goodIn_app (goodIn_app (goodIn_app (gin_c (mem_at i9wsX9_turn_0 10 rfl) rfl (gin_c (mem_at i9wsX9_turn_0 11 rfl) rfl (gin_c (mem_at i9wsX9_turn_0 4 rfl) rfl (gin_c (mem_at i9wsX9_turn_0 12 rfl) rfl (gin_c (mem_at i9wsX9_turn_0 13 rfl) rfl (gin_c (mem_at i9wsX9_turn_0 14 rfl) rfl (gin_c (mem_at i9wsX9_turn_0 8 rfl) rfl (gin_c (mem_at i9wsX9_turn_0 15 rfl) rfl (gin_c (mem_at i9wsX9_turn_0 16 rfl) rfl (gin_c (mem_at i9wsX9_turn_0 17 rfl) rfl (gin_c (mem_at i9wsX9_turn_0 18 rfl) rfl (gin_c (mem_at i9wsX9_turn_0 19 rfl) rfl (gin_c (mem_at i9wsX9_turn_0 20 rfl) rfl (gin_c (mem_at i9wsX9_turn_0 21 rfl) rfl (gin_c (mem_at i9wsX9_turn_0 22 rfl) rfl (gin_c (mem_at i9wsX9_turn_0 23 rfl) rfl (gin_c (mem_at i9wsX9_turn_1 0 rfl) rfl (gin_c (mem_at i9wsX9_turn_1 1 rfl) rfl (gin_c (mem_at i9wsX9_turn_1 2 rfl) rfl (gin_c (mem_at i9wsX9_turn_0 0 rfl) rfl (gin_c (mem_at i9wsX9_turn_1 3 rfl) rfl (gin_c (mem_at i9wsX9_turn_1 4 rfl) rfl (gin_c (mem_at i9wsX9_turn_1 5 rfl) rfl (gin_c (mem_at i9wsX9_turn_1 6 rfl) rfl gin_n)))))))))))))))))))))))) (goodIn_app (gin_c (mem_at i9wsX9_turn_1 7 rfl) rfl (gin_c (mem_at i9wsX9_turn_1 8 rfl) rfl (gin_c (mem_at i9wsX9_turn_1 9 rfl) rfl (gin_c (mem_at i9wsX9_turn_1 10 rfl) rfl (gin_c (mem_at i9wsX9_turn_1 11 rfl) rfl (gin_c (mem_at i9wsX9_turn_1 12 rfl) rfl (gin_c (mem_at i9wsX9_turn_1 13 rfl) rfl (gin_c (mem_at i9wsX9_turn_1 14 rfl) rfl (gin_c (mem_at i9wsX9_turn_1 15 rfl) rfl (gin_c (mem_at i9wsX9_turn_1 16 rfl) rfl (gin_c (mem_at i9wsX9_turn_1 17 rfl) rfl (gin_c (mem_at i9wsX9_turn_1 18 rfl) rfl (gin_c (mem_at i9wsX9_turn_1 19 rfl) rfl (gin_c (mem_at i9wsX9_turn_1 20 rfl) rfl (gin_c (mem_at i9wsX9_turn_1 21 rfl) rfl (gin_c (mem_at i9wsX9_turn_1 22 rfl) rfl (gin_c (mem_at i9wsX9_turn_1 23 rfl) rfl (gin_c (mem_at i9wsX9_turn_2 0 rfl) rfl (gin_c (mem_at i9wsX9_turn_2 1 rfl) rfl (gin_c (mem_at i9wsX9_turn_2 2 rfl) rfl (gin_c (mem_at i9wsX9_turn_2 3 rfl) rfl (gin_c (mem_at i9wsX9_turn_2 4 rfl) rfl (gin_c (mem_at i9wsX9_turn_2 5 rfl) rfl (gin_c (mem_at i9wsX9_turn_2 6 rfl) rfl gin_n)))))))))))))))))))))))) (goodIn_app (gin_c (mem_at i9wsX9_turn_2 7 rfl) rfl (gin_c (mem_at i9wsX9_turn_2 8 rfl) rfl (gin_c (mem_at i9wsX9_turn_2 9 rfl) rfl (gin_c (mem_at i9wsX9_turn_2 10 rfl) rfl (gin_c (mem_at i9wsX9_turn_2 11 rfl) rfl (gin_c (mem_at i9wsX9_turn_2 12 rfl) rfl (gin_c (mem_at i9wsX9_turn_2 13 rfl) rfl (gin_c (mem_at i9wsX9_turn_2 14 rfl) rfl (gin_c (mem_at i9wsX9_turn_2 15 rfl) rfl (gin_c (mem_at i9wsX9_turn_2 16 rfl) rfl (gin_c (mem_at i9wsX9_turn_2 17 rfl) rfl (gin_c (mem_at i9wsX9_turn_2 18 rfl) rfl (gin_c (mem_at i9wsX9_turn_2 19 rfl) rfl (gin_c (mem_at i9wsX9_turn_2 20 rfl) rfl (gin_c (mem_at i9wsX9_turn_2 21 rfl) rfl (gin_c (mem_at i9wsX9_turn_2 22 rfl) rfl (gin_c (mem_at i9wsX9_turn_2 23 rfl) rfl (gin_c (mem_at i9wsX9_turn_3 0 rfl) rfl (gin_c (mem_at i9wsX9_turn_3 1 rfl) rfl (gin_c (mem_at i9wsX9_turn_3 2 rfl) rfl (gin_c (mem_at i9wsX9_turn_3 3 rfl) rfl (gin_c (mem_at i9wsX9_turn_3 4 rfl) rfl (gin_c (mem_at i9wsX9_turn_3 5 rfl) rfl (gin_c (mem_at i9wsX9_turn_3 6 rfl) rfl gin_n)))))))))))))))))))))))) (gin_c (mem_at i9wsX9_turn_3 7 rfl) rfl (gin_c (mem_at i9wsX9_turn_3 8 rfl) rfl (gin_c (mem_at i9wsX9_turn_3 9 rfl) rfl (gin_c (mem_at i9wsX9_turn_3 10 rfl) rfl gin_n))))))) (goodIn_sub i9wsX9_turn_6 g9_0)) (goodIn_sub i9wsX9_turn_4 g9_5)) (goodIn_sub i9wsX9_turn_7 g9_3)) (goodIn_sub i9wsX9_turn_5 g9_4)) (goodIn_sub i9wsX9_turn_8 g9_1)) (goodIn_sub i9wsX9_turn_9 g9_2)))
set_option maxRecDepth 20000 in
theorem gX9_turn_X9_comeAgain : GoodIn wsX9_turn (wsV RX9 88 RX9 yX9_comeAgain wsX9_comeAgain) := goodIn_app (gin_c (mem_at i9wsX9_turn_0 5 rfl) rfl (gin_c (mem_at i9wsX9_turn_0 6 rfl) rfl (gin_c (mem_at i9wsX9_turn_0 7 rfl) rfl (gin_c (mem_at i9wsX9_turn_0 8 rfl) rfl gin_n)))) ggX9_turn_X9_comeAgain
set_option maxRecDepth 20000 in
theorem ggX9_turn_X9_go : GoodIn wsX9_turn wsX9_go := (gin_c (mem_at i9wsX9_turn_3 14 rfl) rfl (goodIn_app (goodIn_app (goodIn_app (gin_c (mem_at i9wsX9_turn_0 21 rfl) rfl (gin_c (mem_at i9wsX9_turn_1 1 rfl) rfl (gin_c (mem_at i9wsX9_turn_0 0 rfl) rfl (gin_c (mem_at i9wsX9_turn_1 12 rfl) rfl (gin_c (mem_at i9wsX9_turn_1 13 rfl) rfl (gin_c (mem_at i9wsX9_turn_1 14 rfl) rfl (gin_c (mem_at i9wsX9_turn_1 15 rfl) rfl (gin_c (mem_at i9wsX9_turn_1 16 rfl) rfl (gin_c (mem_at i9wsX9_turn_1 17 rfl) rfl (gin_c (mem_at i9wsX9_turn_1 18 rfl) rfl (gin_c (mem_at i9wsX9_turn_1 19 rfl) rfl (gin_c (mem_at i9wsX9_turn_1 20 rfl) rfl gin_n)))))))))))) (goodIn_sub i9wsX9_turn_4 g9_5)) (goodIn_sub i9wsX9_turn_6 g9_0)) (goodIn_sub i9wsX9_turn_5 g9_4)))
set_option maxRecDepth 20000 in
theorem gX9_turn_X9_go : GoodIn wsX9_turn (wsV RX9 92 RX9 yX9_go wsX9_go) := goodIn_app (gin_c (mem_at i9wsX9_turn_3 11 rfl) rfl (gin_c (mem_at i9wsX9_turn_3 12 rfl) rfl (gin_c (mem_at i9wsX9_turn_3 13 rfl) rfl (gin_c (mem_at i9wsX9_turn_0 8 rfl) rfl gin_n)))) ggX9_turn_X9_go
set_option maxHeartbeats 4000000 in
set_option maxRecDepth 100000 in
theorem T_X9_turn (l : Launch) (hl : l.stackTraces = false) (D : va_G) (cA : Nat → ClassId) {l0 : Option Nat} {l1 : Int32} {x : HS} {Q : Int32 → HS → Prop} {X : String → HS → Prop} (h : w_X9_turn l0 l1 x Q X) : YI l yX9_turn wsX9_turn 5 104 D cA [.q l0, .i l1] x Q X := by
  refine YI.of (cc := cX9_turn) (maxL := 5) (ret := (some .int)) hl (by decide) rfl rfl (fun g B fr => ?_)
  have o := B.o
  have hb := B.hb
  have hts := B.hts
  have hown : g.s.vm.findClass RX9 = some g.m.cls := B.hown
  have in1 : ∀ w ∈ u_ws RX1 TX1 7, w ∈ wsX9_turn := fun w h => (List.mem_cons_of_mem _ (List.mem_append_left _ (List.mem_append_left _ (List.mem_append_left _ (List.mem_append_right _ h)))))
  have in3 : ∀ w ∈ u_ws RX3 TX3 5, w ∈ wsX9_turn := fun w h => (List.mem_cons_of_mem _ (List.mem_append_left _ (List.mem_append_left _ (List.mem_append_left _ (List.mem_append_left _ (List.mem_append_right _ h))))))
  have in9 : ∀ w ∈ u_ws RX9 TX9 8, w ∈ wsX9_turn := fun w h => (List.mem_cons_of_mem _ (List.mem_append_left _ (List.mem_append_left _ (List.mem_append_left _ (List.mem_append_left _ (List.mem_append_left _ (List.mem_append_right _ h)))))))
  unfold w_X9_turn at h
  show KW g 5 0 [(0, .q l0), (1, .i l1)] [] x
  refine k_aload_n o hb dX9_turn_0 rfl 0 rfl ?_
  refine k_getF (C := RX9) (T := TX9) (N := 8) o hb hts in9 hown rfl (by decide) 2 (by decide) rfl (hts (.fieldLink RX9 26 "FactKeeper$Store" "history" "LFactKeeper$History;") (by decide +kernel)) (fun _ h9 => h9) dX9_turn_1 h (fun v1 h => ?_)
  refine k_getI (C := RX3) (T := TX3) (N := 5) o hb hts in3 hown rfl (by decide) 3 (by decide) rfl (hts (.fieldLink RX9 78 "FactKeeper$History" "size" "I") (by decide +kernel)) (fun _ h9 => h9) dX9_turn_4 h (fun v2 h => ?_)
  refine k_istore_n o hb dX9_turn_7 rfl rfl ?_
  refine k_iload_n o hb dX9_turn_8 rfl 0 rfl ?_
  refine k_iconst (v := 1) o hb dX9_turn_9 (by decide) ?_
  refine k_isub o hb dX9_turn_10 ?_
  refine k_istore_n o hb dX9_turn_11 rfl rfl ?_
  refine KW.sub [2, 3, 1, 0] rfl ?_
  refine wLoop_elim (M := fun (v6 : Int32) (x5 : HS) => KW g 5 12 [(0, .q l0), (1, .i l1), (2, .i v2), (3, .i v6)] [] x5) h ?_
  intro v6 x5 again3 ih4 h
  refine k_iload_n o hb dX9_turn_12 rfl 3 rfl ?_
  refine k_iload_n o hb dX9_turn_13 rfl 1 rfl ?_
  refine wJoin_elim (M := fun K => ∀  (x8 : HS), K  x8 → KW g 5 81 [(1, .i l1), (2, .i v2)] [] x8) h ?_ (fun j7 hj7 h => ?_)
  · skip
    intro  x8 h
    refine k_iload_n o hb dX9_turn_81 rfl 1 rfl ?_
    refine k_iload_n o hb dX9_turn_82 rfl 0 rfl ?_
    refine k_isub o hb dX9_turn_83 ?_
    exact k_iret o hb B.hr fr dX9_turn_84 h
  · skip
    refine k_icmp_lt (tgt := 81) o hb dX9_turn_14 (by decide) h (fun h => ?_) (fun h => ?_)
    · skip
      exact KW.sub [1, 2] rfl (hj7 x5 h)
    · skip
      refine k_iload_n o hb dX9_turn_17 rfl 3 rfl ?_
      refine k_if_lt (tgt := 81) o hb dX9_turn_18 (by decide) h (fun h => ?_) (fun h => ?_)
      · skip
        exact KW.sub [1, 2] rfl (hj7 x5 h)
      · skip
        refine k_aload_n o hb dX9_turn_21 rfl 0 rfl ?_
        refine k_getF (C := RX9) (T := TX9) (N := 8) o hb hts in9 hown rfl (by decide) 2 (by decide) rfl (hts (.fieldLink RX9 26 "FactKeeper$Store" "history" "LFactKeeper$History;") (by decide +kernel)) (fun _ h9 => h9) dX9_turn_22 h (fun v9 h => ?_)
        refine k_getF (C := RX3) (T := TX3) (N := 5) o hb hts in3 hown rfl (by decide) 0 (by decide) rfl (hts (.fieldLink RX9 81 "FactKeeper$History" "facts" "[LFactKeeper$Fact;") (by decide +kernel)) (fun _ h9 => h9) dX9_turn_25 h (fun v10 h => ?_)
        refine k_iload_n o hb dX9_turn_28 rfl 3 rfl ?_
        refine k_aald (kd := 25) (t0 := 4) o hb rfl (by decide) dX9_turn_29 h (fun v11 h => ?_)
        refine k_astore o hb dX9_turn_30 rfl ?_
        refine k_aload_n o hb dX9_turn_32 rfl 1 rfl ?_
        refine k_getF (C := RX9) (T := TX9) (N := 8) o hb hts in9 hown rfl (by decide) 2 (by decide) rfl (hts (.fieldLink RX9 26 "FactKeeper$Store" "history" "LFactKeeper$History;") (by decide +kernel)) (fun _ h9 => h9) dX9_turn_33 h (fun v12 h => ?_)
        refine k_getF (C := RX3) (T := TX3) (N := 5) o hb hts in3 hown rfl (by decide) 1 (by decide) rfl (hts (.fieldLink RX9 84 "FactKeeper$History" "went" "[Z") (by decide +kernel)) (fun _ h9 => h9) dX9_turn_36 h (fun v13 h => ?_)
        refine k_iload_n o hb dX9_turn_39 rfl 4 rfl ?_
        refine k_zald o hb dX9_turn_40 h (fun v14 h => ?_)
        refine wJoin_elim (M := fun K => ∀  (x16 : HS), K  x16 → KW g 5 75 [(0, .q l0), (1, .i l1), (2, .i v2), (3, .i v6)] [] x16) h ?_ (fun j15 hj15 h => ?_)
        · skip
          intro  x16 h
          refine k_iinc (w := (-1)) o hb dX9_turn_75 3 rfl (by decide) rfl ?_
          refine k_goto (tgt := 12) o hb dX9_turn_78 (by decide) ?_
          exact KW.sub [1, 2, 3, 0] rfl (ih4 (v6 + (-1)) x16 h)
        · skip
          refine k_if_eq (tgt := 53) o hb dX9_turn_41 (by decide) h (fun h => ?_) (fun h => ?_)
          · skip
            refine k_aload_n o hb dX9_turn_53 rfl 1 rfl ?_
            refine k_aload o hb dX9_turn_54 0 rfl ?_
            refine k_getF (C := RX1) (T := TX1) (N := 7) o hb hts in1 hown rfl (by decide) 3 (by decide) rfl (hts (.fieldLink RX9 48 "FactKeeper$Fact" "standIn" "LFactKeeper$Fact;") (by decide +kernel)) (fun _ h9 => h9) dX9_turn_56 h (fun v17 h => ?_)
            refine wJoin_elim (M := fun K => ∀ (v20 : Option Nat) (x19 : HS), K v20 x19 → KW g 5 72 [(0, .q l0), (1, .i l1), (2, .i v2), (3, .i v6)] [.q v20, .q l0] x19) h ?_ (fun j18 hj18 h => ?_)
            · skip
              intro v20 x19 h
              refine k_run_v o (fun _ _ q => q) (k_runV (ci := 9) (rc := (RX9, TX9, 8)) o hb B.hml hown hts rfl (by decide) (T_X9_go g.l o.hl g.D g.cA h.2) (cwV 1 hts gX9_turn_X9_go rfl rfl rfl (by decide +kernel) ⟨yle B.hR1 rfl, yle B.hR2 rfl⟩) h.1 rfl rfl (Nat.le_of_ble_eq_true rfl) dX9_turn_72) (fun x21 h => ?_)
              exact KW.sub [0, 1, 2, 3] rfl (hj15 x21 h)
            · skip
              refine k_ifnonnull (tgt := 67) o hb dX9_turn_59 (by decide) h (fun h => ?_) (fun h => ?_)
              · skip
                refine k_aload o hb dX9_turn_62 0 rfl ?_
                refine k_goto (tgt := 72) o hb dX9_turn_64 (by decide) ?_
                exact KW.sub [1, 2, 3, 4] rfl (hj18 v11 x5 h)
              · skip
                refine k_aload o hb dX9_turn_67 0 rfl ?_
                refine k_getF (C := RX1) (T := TX1) (N := 7) o hb hts in1 hown rfl (by decide) 3 (by decide) rfl (hts (.fieldLink RX9 48 "FactKeeper$Fact" "standIn" "LFactKeeper$Fact;") (by decide +kernel)) (fun _ h9 => h9) dX9_turn_69 h (fun v23 h => ?_)
                exact KW.sub [1, 2, 3, 4] rfl (hj18 v23 x5 h)
          · skip
            refine k_aload_n o hb dX9_turn_44 rfl 1 rfl ?_
            refine k_aload o hb dX9_turn_45 0 rfl ?_
            refine k_run_v o (fun _ _ q => q) (k_runV (ci := 9) (rc := (RX9, TX9, 8)) o hb B.hml hown hts rfl (by decide) (T_X9_comeAgain g.l o.hl g.D g.cA h.2) (cwV 1 hts gX9_turn_X9_comeAgain rfl rfl rfl (by decide +kernel) ⟨yle B.hR1 rfl, yle B.hR2 rfl⟩) h.1 rfl rfl (Nat.le_of_ble_eq_true rfl) dX9_turn_47) (fun x24 h => ?_)
            refine k_goto (tgt := 75) o hb dX9_turn_50 (by decide) ?_
            exact KW.sub [1, 2, 3, 4] rfl (hj15 x24 h)
theorem dX9_forgetDead_0 : decode cX9_forgetDead 0 = .ok (.aload_n 0, 1) := by decide +kernel
theorem dX9_forgetDead_1 : decode cX9_forgetDead 1 = .ok (.aload_n 0, 1) := by decide +kernel
theorem dX9_forgetDead_2 : decode cX9_forgetDead 2 = .ok (.getfield 103, 3) := by decide +kernel
theorem dX9_forgetDead_5 : decode cX9_forgetDead 5 = .ok (.iload_n 1, 1) := by decide +kernel
theorem dX9_forgetDead_6 : decode cX9_forgetDead 6 = .ok (.invokestatic 106, 3) := by decide +kernel
theorem dX9_forgetDead_9 : decode cX9_forgetDead 9 = .ok (.putfield 103, 3) := by decide +kernel
theorem dX9_forgetDead_12 : decode cX9_forgetDead 12 = .ok (.iconst 0, 1) := by decide +kernel
theorem dX9_forgetDead_13 : decode cX9_forgetDead 13 = .ok (.istore_n 2, 1) := by decide +kernel
theorem dX9_forgetDead_14 : decode cX9_forgetDead 14 = .ok (.iload_n 2, 1) := by decide +kernel
theorem dX9_forgetDead_15 : decode cX9_forgetDead 15 = .ok (.aload_n 0, 1) := by decide +kernel
theorem dX9_forgetDead_16 : decode cX9_forgetDead 16 = .ok (.getfield 30, 3) := by decide +kernel
theorem dX9_forgetDead_19 : decode cX9_forgetDead 19 = .ok (.if_icmp .ge 22, 3) := by decide +kernel
theorem dX9_forgetDead_22 : decode cX9_forgetDead 22 = .ok (.aload_n 0, 1) := by decide +kernel
theorem dX9_forgetDead_23 : decode cX9_forgetDead 23 = .ok (.getfield 11, 3) := by decide +kernel
theorem dX9_forgetDead_26 : decode cX9_forgetDead 26 = .ok (.iload_n 2, 1) := by decide +kernel
theorem dX9_forgetDead_27 : decode cX9_forgetDead 27 = .ok (.aaload, 1) := by decide +kernel
theorem dX9_forgetDead_28 : decode cX9_forgetDead 28 = .ok (.aload_n 0, 1) := by decide +kernel
theorem dX9_forgetDead_29 : decode cX9_forgetDead 29 = .ok (.getfield 103, 3) := by decide +kernel
theorem dX9_forgetDead_32 : decode cX9_forgetDead 32 = .ok (.invokevirtual 112, 3) := by decide +kernel
theorem dX9_forgetDead_35 : decode cX9_forgetDead 35 = .ok (.iinc 2 1, 3) := by decide +kernel
theorem dX9_forgetDead_38 : decode cX9_forgetDead 38 = .ok (.goto (-24), 3) := by decide +kernel
theorem dX9_forgetDead_41 : decode cX9_forgetDead 41 = .ok (.aload_n 0, 1) := by decide +kernel
theorem dX9_forgetDead_42 : decode cX9_forgetDead 42 = .ok (.getfield 40, 3) := by decide +kernel
theorem dX9_forgetDead_45 : decode cX9_forgetDead 45 = .ok (.istore_n 2, 1) := by decide +kernel
theorem dX9_forgetDead_46 : decode cX9_forgetDead 46 = .ok (.aload_n 0, 1) := by decide +kernel
theorem dX9_forgetDead_47 : decode cX9_forgetDead 47 = .ok (.iconst 0, 1) := by decide +kernel
theorem dX9_forgetDead_48 : decode cX9_forgetDead 48 = .ok (.putfield 40, 3) := by decide +kernel
theorem dX9_forgetDead_51 : decode cX9_forgetDead 51 = .ok (.iconst 0, 1) := by decide +kernel
theorem dX9_forgetDead_52 : decode cX9_forgetDead 52 = .ok (.istore_n 3, 1) := by decide +kernel
theorem dX9_forgetDead_53 : decode cX9_forgetDead 53 = .ok (.iload_n 3, 1) := by decide +kernel
theorem dX9_forgetDead_54 : decode cX9_forgetDead 54 = .ok (.iload_n 2, 1) := by decide +kernel
theorem dX9_forgetDead_55 : decode cX9_forgetDead 55 = .ok (.if_icmp .ge 73, 3) := by decide +kernel
theorem dX9_forgetDead_58 : decode cX9_forgetDead 58 = .ok (.aload_n 0, 1) := by decide +kernel
theorem dX9_forgetDead_59 : decode cX9_forgetDead 59 = .ok (.getfield 19, 3) := by decide +kernel
theorem dX9_forgetDead_62 : decode cX9_forgetDead 62 = .ok (.iload_n 3, 1) := by decide +kernel
theorem dX9_forgetDead_63 : decode cX9_forgetDead 63 = .ok (.aaload, 1) := by decide +kernel
theorem dX9_forgetDead_64 : decode cX9_forgetDead 64 = .ok (.astore 4, 2) := by decide +kernel
theorem dX9_forgetDead_66 : decode cX9_forgetDead 66 = .ok (.aload 4, 2) := by decide +kernel
theorem dX9_forgetDead_68 : decode cX9_forgetDead 68 = .ok (.invokevirtual 116, 3) := by decide +kernel
theorem dX9_forgetDead_71 : decode cX9_forgetDead 71 = .ok (.ifCond .ne 15, 3) := by decide +kernel
theorem dX9_forgetDead_74 : decode cX9_forgetDead 74 = .ok (.aload 4, 2) := by decide +kernel
theorem dX9_forgetDead_76 : decode cX9_forgetDead 76 = .ok (.getfield 61, 3) := by decide +kernel
theorem dX9_forgetDead_79 : decode cX9_forgetDead 79 = .ok (.aload_n 0, 1) := by decide +kernel
theorem dX9_forgetDead_80 : decode cX9_forgetDead 80 = .ok (.getfield 103, 3) := by decide +kernel
theorem dX9_forgetDead_83 : decode cX9_forgetDead 83 = .ok (.if_icmp .le 39, 3) := by decide +kernel
theorem dX9_forgetDead_86 : decode cX9_forgetDead 86 = .ok (.aload_n 0, 1) := by decide +kernel
theorem dX9_forgetDead_87 : decode cX9_forgetDead 87 = .ok (.getfield 19, 3) := by decide +kernel
theorem dX9_forgetDead_90 : decode cX9_forgetDead 90 = .ok (.iload_n 3, 1) := by decide +kernel
theorem dX9_forgetDead_91 : decode cX9_forgetDead 91 = .ok (.aload_n 0, 1) := by decide +kernel
theorem dX9_forgetDead_92 : decode cX9_forgetDead 92 = .ok (.getfield 19, 3) := by decide +kernel
theorem dX9_forgetDead_95 : decode cX9_forgetDead 95 = .ok (.aload_n 0, 1) := by decide +kernel
theorem dX9_forgetDead_96 : decode cX9_forgetDead 96 = .ok (.getfield 40, 3) := by decide +kernel
theorem dX9_forgetDead_99 : decode cX9_forgetDead 99 = .ok (.aaload, 1) := by decide +kernel
theorem dX9_forgetDead_100 : decode cX9_forgetDead 100 = .ok (.aastore, 1) := by decide +kernel
theorem dX9_forgetDead_101 : decode cX9_forgetDead 101 = .ok (.aload_n 0, 1) := by decide +kernel
theorem dX9_forgetDead_102 : decode cX9_forgetDead 102 = .ok (.getfield 19, 3) := by decide +kernel
theorem dX9_forgetDead_105 : decode cX9_forgetDead 105 = .ok (.aload_n 0, 1) := by decide +kernel
theorem dX9_forgetDead_106 : decode cX9_forgetDead 106 = .ok (.getfield 40, 3) := by decide +kernel
theorem dX9_forgetDead_109 : decode cX9_forgetDead 109 = .ok (.aload 4, 2) := by decide +kernel
theorem dX9_forgetDead_111 : decode cX9_forgetDead 111 = .ok (.aastore, 1) := by decide +kernel
theorem dX9_forgetDead_112 : decode cX9_forgetDead 112 = .ok (.aload_n 0, 1) := by decide +kernel
theorem dX9_forgetDead_113 : decode cX9_forgetDead 113 = .ok (.dup, 1) := by decide +kernel
theorem dX9_forgetDead_114 : decode cX9_forgetDead 114 = .ok (.getfield 40, 3) := by decide +kernel
theorem dX9_forgetDead_117 : decode cX9_forgetDead 117 = .ok (.iconst 1, 1) := by decide +kernel
theorem dX9_forgetDead_118 : decode cX9_forgetDead 118 = .ok (.iadd, 1) := by decide +kernel
theorem dX9_forgetDead_119 : decode cX9_forgetDead 119 = .ok (.putfield 40, 3) := by decide +kernel
theorem dX9_forgetDead_122 : decode cX9_forgetDead 122 = .ok (.iinc 3 1, 3) := by decide +kernel
theorem dX9_forgetDead_125 : decode cX9_forgetDead 125 = .ok (.goto (-72), 3) := by decide +kernel
theorem dX9_forgetDead_128 : decode cX9_forgetDead 128 = .ok (.iload_n 2, 1) := by decide +kernel
theorem dX9_forgetDead_129 : decode cX9_forgetDead 129 = .ok (.aload_n 0, 1) := by decide +kernel
theorem dX9_forgetDead_130 : decode cX9_forgetDead 130 = .ok (.getfield 40, 3) := by decide +kernel
theorem dX9_forgetDead_133 : decode cX9_forgetDead 133 = .ok (.isub, 1) := by decide +kernel
theorem dX9_forgetDead_134 : decode cX9_forgetDead 134 = .ok (.ireturn, 1) := by decide +kernel
theorem i9wsX9_forgetDead_0 : ∀ w ∈ wsX9_forgetDead_r1, w ∈ wsX9_forgetDead := fun _ h => (List.mem_cons_of_mem _ (List.mem_append_left _ (List.mem_append_left _ (List.mem_append_left _ (List.mem_append_left _ (List.mem_append_left _ (List.mem_append_left _ h)))))))
theorem i9wsX9_forgetDead_1 : ∀ w ∈ wsX9_forgetDead_r2, w ∈ wsX9_forgetDead := fun _ h => (List.mem_cons_of_mem _ (List.mem_append_left _ (List.mem_append_left _ (List.mem_append_left _ (List.mem_append_left _ (List.mem_append_left _ (List.mem_append_right _ (List.mem_append_left _ h))))))))
theorem i9wsX9_forgetDead_2 : ∀ w ∈ wsX9_forgetDead_r3, w ∈ wsX9_forgetDead := fun _ h => (List.mem_cons_of_mem _ (List.mem_append_left _ (List.mem_append_left _ (List.mem_append_left _ (List.mem_append_left _ (List.mem_append_left _ (List.mem_append_right _ (List.mem_append_right _ (List.mem_append_left _ h)))))))))
theorem i9wsX9_forgetDead_3 : ∀ w ∈ wsX9_forgetDead_r4, w ∈ wsX9_forgetDead := fun _ h => (List.mem_cons_of_mem _ (List.mem_append_left _ (List.mem_append_left _ (List.mem_append_left _ (List.mem_append_left _ (List.mem_append_left _ (List.mem_append_right _ (List.mem_append_right _ (List.mem_append_right _ h)))))))))
theorem i9wsX9_forgetDead_6 : ∀ w ∈ wsX100, w ∈ wsX9_forgetDead := fun _ h => (List.mem_cons_of_mem _ (List.mem_append_left _ (List.mem_append_left _ (List.mem_append_right _ h))))
theorem i9wsX9_forgetDead_7 : ∀ w ∈ wsX00, w ∈ wsX9_forgetDead := fun _ h => (List.mem_cons_of_mem _ (List.mem_append_left _ (List.mem_append_right _ h)))
theorem i9wsX9_forgetDead_5 : ∀ w ∈ wsX10, w ∈ wsX9_forgetDead := fun _ h => (List.mem_cons_of_mem _ (List.mem_append_left _ (List.mem_append_left _ (List.mem_append_left _ (List.mem_append_right _ h)))))
theorem i9wsX9_forgetDead_8 : ∀ w ∈ wsX40, w ∈ wsX9_forgetDead := fun _ h => (List.mem_cons_of_mem _ (List.mem_append_right _ h))
set_option maxRecDepth 20000 in
theorem ggX9_forgetDead_X10_dropDeadBy : GoodIn wsX9_forgetDead wsX10_dropDeadBy := (gin_c (mem_at i9wsX9_forgetDead_0 14 rfl) rfl (goodIn_app (goodIn_app (goodIn_app (goodIn_app (goodIn_app (gin_c (mem_at i9wsX9_forgetDead_0 15 rfl) rfl (gin_c (mem_at i9wsX9_forgetDead_0 16 rfl) rfl (gin_c (mem_at i9wsX9_forgetDead_0 17 rfl) rfl (gin_c (mem_at i9wsX9_forgetDead_0 18 rfl) rfl (gin_c (mem_at i9wsX9_forgetDead_0 19 rfl) rfl (gin_c (mem_at i9wsX9_forgetDead_0 20 rfl) rfl (gin_c (mem_at i9wsX9_forgetDead_0 21 rfl) rfl (gin_c (mem_at i9wsX9_forgetDead_0 22 rfl) rfl (gin_c (mem_at i9wsX9_forgetDead_0 23 rfl) rfl (gin_c (mem_at i9wsX9_forgetDead_1 0 rfl) rfl (gin_c (mem_at i9wsX9_forgetDead_1 1 rfl) rfl (gin_c (mem_at i9wsX9_forgetDead_1 2 rfl) rfl (gin_c (mem_at i9wsX9_forgetDead_1 3 rfl) rfl (gin_c (mem_at i9wsX9_forgetDead_1 4 rfl) rfl (gin_c (mem_at i9wsX9_forgetDead_1 5 rfl) rfl (gin_c (mem_at i9wsX9_forgetDead_1 6 rfl) rfl (gin_c (mem_at i9wsX9_forgetDead_1 7 rfl) rfl (gin_c (mem_at i9wsX9_forgetDead_1 8 rfl) rfl (gin_c (mem_at i9wsX9_forgetDead_1 9 rfl) rfl (gin_c (mem_at i9wsX9_forgetDead_1 10 rfl) rfl (gin_c (mem_at i9wsX9_forgetDead_1 11 rfl) rfl (gin_c (mem_at i9wsX9_forgetDead_1 12 rfl) rfl (gin_c (mem_at i9wsX9_forgetDead_1 13 rfl) rfl (gin_c (mem_at i9wsX9_forgetDead_1 14 rfl) rfl gin_n)))))))))))))))))))))))) (goodIn_app (gin_c (mem_at i9wsX9_forgetDead_1 15 rfl) rfl (gin_c (mem_at i9wsX9_forgetDead_1 16 rfl) rfl (gin_c (mem_at i9wsX9_forgetDead_1 17 rfl) rfl (gin_c (mem_at i9wsX9_forgetDead_1 18 rfl) rfl (gin_c (mem_at i9wsX9_forgetDead_1 19 rfl) rfl (gin_c (mem_at i9wsX9_forgetDead_1 20 rfl) rfl (gin_c (mem_at i9wsX9_forgetDead_0 13 rfl) rfl (gin_c (mem_at i9wsX9_forgetDead_1 21 rfl) rfl (gin_c (mem_at i9wsX9_forgetDead_1 22 rfl) rfl (gin_c (mem_at i9wsX9_forgetDead_1 23 rfl) rfl (gin_c (mem_at i9wsX9_forgetDead_2 0 rfl) rfl (gin_c (mem_at i9wsX9_forgetDead_2 1 rfl) rfl (gin_c (mem_at i9wsX9_forgetDead_2 2 rfl) rfl (gin_c (mem_at i9wsX9_forgetDead_2 3 rfl) rfl (gin_c (mem_at i9wsX9_forgetDead_2 4 rfl) rfl (gin_c (mem_at i9wsX9_forgetDead_2 5 rfl) rfl (gin_c (mem_at i9wsX9_forgetDead_2 6 rfl) rfl (gin_c (mem_at i9wsX9_forgetDead_2 7 rfl) rfl (gin_c (mem_at i9wsX9_forgetDead_2 8 rfl) rfl (gin_c (mem_at i9wsX9_forgetDead_2 9 rfl) rfl (gin_c (mem_at i9wsX9_forgetDead_2 10 rfl) rfl (gin_c (mem_at i9wsX9_forgetDead_2 11 rfl) rfl (gin_c (mem_at i9wsX9_forgetDead_2 12 rfl) rfl (gin_c (mem_at i9wsX9_forgetDead_2 13 rfl) rfl gin_n)))))))))))))))))))))))) (gin_c (mem_at i9wsX9_forgetDead_2 14 rfl) rfl (gin_c (mem_at i9wsX9_forgetDead_2 15 rfl) rfl (gin_c (mem_at i9wsX9_forgetDead_2 16 rfl) rfl (gin_c (mem_at i9wsX9_forgetDead_2 17 rfl) rfl (gin_c (mem_at i9wsX9_forgetDead_2 18 rfl) rfl (gin_c (mem_at i9wsX9_forgetDead_2 19 rfl) rfl (gin_c (mem_at i9wsX9_forgetDead_2 20 rfl) rfl (gin_c (mem_at i9wsX9_forgetDead_2 21 rfl) rfl (gin_c (mem_at i9wsX9_forgetDead_2 22 rfl) rfl (gin_c (mem_at i9wsX9_forgetDead_2 23 rfl) rfl (gin_c (mem_at i9wsX9_forgetDead_3 0 rfl) rfl (gin_c (mem_at i9wsX9_forgetDead_3 1 rfl) rfl (gin_c (mem_at i9wsX9_forgetDead_3 2 rfl) rfl (gin_c (mem_at i9wsX9_forgetDead_3 3 rfl) rfl (gin_c (mem_at i9wsX9_forgetDead_3 4 rfl) rfl (gin_c (mem_at i9wsX9_forgetDead_3 5 rfl) rfl (gin_c (mem_at i9wsX9_forgetDead_3 6 rfl) rfl (gin_c (mem_at i9wsX9_forgetDead_3 7 rfl) rfl (gin_c (mem_at i9wsX9_forgetDead_3 8 rfl) rfl (gin_c (mem_at i9wsX9_forgetDead_3 9 rfl) rfl (gin_c (mem_at i9wsX9_forgetDead_3 10 rfl) rfl (gin_c (mem_at i9wsX9_forgetDead_3 11 rfl) rfl (gin_c (mem_at i9wsX9_forgetDead_3 12 rfl) rfl gin_n))))))))))))))))))))))))) (goodIn_sub i9wsX9_forgetDead_6 g9_3)) (goodIn_sub i9wsX9_forgetDead_7 g9_1)) (goodIn_sub i9wsX9_forgetDead_5 g9_0)) (goodIn_sub i9wsX9_forgetDead_8 g9_2)))
set_option maxRecDepth 20000 in
theorem gX9_forgetDead_X10_dropDeadBy : GoodIn wsX9_forgetDead (wsV RX9 112 RX10 yX10_dropDeadBy wsX10_dropDeadBy) := goodIn_app (gin_c (mem_at i9wsX9_forgetDead_0 10 rfl) rfl (gin_c (mem_at i9wsX9_forgetDead_0 11 rfl) rfl (gin_c (mem_at i9wsX9_forgetDead_0 12 rfl) rfl (gin_c (mem_at i9wsX9_forgetDead_0 13 rfl) rfl gin_n)))) ggX9_forgetDead_X10_dropDeadBy
set_option maxRecDepth 20000 in
theorem ggX9_forgetDead_X1_isThereNow : GoodIn wsX9_forgetDead wsX1_isThereNow := (gin_c (mem_at i9wsX9_forgetDead_1 16 rfl) rfl (goodIn_app (gin_c (mem_at i9wsX9_forgetDead_1 17 rfl) rfl gin_n) (goodIn_sub i9wsX9_forgetDead_5 g9_0)))
set_option maxRecDepth 20000 in
theorem gX9_forgetDead_X1_isThereNow : GoodIn wsX9_forgetDead (wsV RX9 116 RX1 yX1_isThereNow wsX1_isThereNow) := goodIn_app (gin_c (mem_at i9wsX9_forgetDead_3 13 rfl) rfl (gin_c (mem_at i9wsX9_forgetDead_1 13 rfl) rfl (gin_c (mem_at i9wsX9_forgetDead_1 14 rfl) rfl (gin_c (mem_at i9wsX9_forgetDead_1 15 rfl) rfl gin_n)))) ggX9_forgetDead_X1_isThereNow
set_option maxHeartbeats 4000000 in
set_option maxRecDepth 100000 in
theorem T_X9_forgetDead (l : Launch) (hl : l.stackTraces = false) (D : va_G) (cA : Nat → ClassId) {l0 : Option Nat} {l1 : Int32} {x : HS} {Q : Int32 → HS → Prop} {X : String → HS → Prop} (h : w_X9_forgetDead l0 l1 x Q X) : YI l yX9_forgetDead wsX9_forgetDead 5 111 D cA [.q l0, .i l1] x Q X := by
  refine YI.of (cc := cX9_forgetDead) (maxL := 5) (ret := (some .int)) hl (by decide) rfl rfl (fun g B fr => ?_)
  have o := B.o
  have hb := B.hb
  have hts := B.hts
  have hown : g.s.vm.findClass RX9 = some g.m.cls := B.hown
  have in1 : ∀ w ∈ u_ws RX1 TX1 7, w ∈ wsX9_forgetDead := fun w h => (List.mem_cons_of_mem _ (List.mem_append_left _ (List.mem_append_left _ (List.mem_append_left _ (List.mem_append_right _ h)))))
  have in9 : ∀ w ∈ u_ws RX9 TX9 8, w ∈ wsX9_forgetDead := fun w h => (List.mem_cons_of_mem _ (List.mem_append_left _ (List.mem_append_left _ (List.mem_append_left _ (List.mem_append_left _ (List.mem_append_right _ h))))))
  unfold w_X9_forgetDead at h
  show KW g 5 0 [(0, .q l0), (1, .i l1)] [] x
  refine k_aload_n o hb dX9_forgetDead_0 rfl 0 rfl ?_
  refine k_aload_n o hb dX9_forgetDead_1 rfl 0 rfl ?_
  refine k_getI (C := RX9) (T := TX9) (N := 8) o hb hts in9 hown rfl (by decide) 7 (by decide) rfl (hts (.fieldLink RX9 103 "FactKeeper$Store" "horizon" "I") (by decide +kernel)) (fun _ h9 => h9) dX9_forgetDead_2 h (fun v1 h => ?_)
  refine k_iload_n o hb dX9_forgetDead_5 rfl 1 rfl ?_
  refine k_mmax o hb B.hml hown (hts (.methodLink RX9 106 Lib.Math.max.name) (by decide +kernel)) (hts (.static Lib.Math.max.name) (by decide +kernel)) (hts (.initialized "java/lang/Math") (by decide +kernel)) (hts (.code Lib.Math.max.name Lib.Math.max.code 2 (some .int)) (by decide +kernel)) (yle B.hR1 rfl) (yle B.hR2 rfl) dX9_forgetDead_6 ?_
  refine k_putI (C := RX9) (T := TX9) (N := 8) (ty := .int) o hb hts in9 tyX9 tyX9_ok nmX9 hown rfl (by decide) 7 (by decide) rfl (hts (.fieldLink RX9 103 "FactKeeper$Store" "horizon" "I") (by decide +kernel)) (fun _ h9 => h9) rfl (by decide +kernel) (fun _ => rfl) (fun _ => rfl) dX9_forgetDead_9 h (fun x2 h => ?_)
  refine k_iconst (v := 0) o hb dX9_forgetDead_12 (by decide) ?_
  refine k_istore_n o hb dX9_forgetDead_13 rfl rfl ?_
  refine KW.sub [1, 0] rfl ?_
  refine wLoop_elim (M := fun (v6 : Int32) (x5 : HS) => KW g 5 14 [(0, .q l0), (2, .i v6)] [] x5) h ?_
  intro v6 x5 again3 ih4 h
  refine k_iload_n o hb dX9_forgetDead_14 rfl 1 rfl ?_
  refine k_aload_n o hb dX9_forgetDead_15 rfl 0 rfl ?_
  refine k_getI (C := RX9) (T := TX9) (N := 8) o hb hts in9 hown rfl (by decide) 3 (by decide) rfl (hts (.fieldLink RX9 30 "FactKeeper$Store" "tableCount" "I") (by decide +kernel)) (fun _ h9 => h9) dX9_forgetDead_16 h (fun v7 h => ?_)
  refine k_icmp_ge (tgt := 41) o hb dX9_forgetDead_19 (by decide) h (fun h => ?_) (fun h => ?_)
  · skip
    refine k_aload_n o hb dX9_forgetDead_41 rfl 0 rfl ?_
    refine k_getI (C := RX9) (T := TX9) (N := 8) o hb hts in9 hown rfl (by decide) 4 (by decide) rfl (hts (.fieldLink RX9 40 "FactKeeper$Store" "keptCount" "I") (by decide +kernel)) (fun _ h9 => h9) dX9_forgetDead_42 h (fun v8 h => ?_)
    refine k_istore_n o hb dX9_forgetDead_45 rfl rfl ?_
    refine k_aload_n o hb dX9_forgetDead_46 rfl 1 rfl ?_
    refine k_iconst (v := 0) o hb dX9_forgetDead_47 (by decide) ?_
    refine k_putI (C := RX9) (T := TX9) (N := 8) (ty := .int) o hb hts in9 tyX9 tyX9_ok nmX9 hown rfl (by decide) 4 (by decide) rfl (hts (.fieldLink RX9 40 "FactKeeper$Store" "keptCount" "I") (by decide +kernel)) (fun _ h9 => h9) rfl (by decide +kernel) (fun _ => rfl) (fun _ => rfl) dX9_forgetDead_48 h (fun x9 h => ?_)
    refine k_iconst (v := 0) o hb dX9_forgetDead_51 (by decide) ?_
    refine k_istore_n o hb dX9_forgetDead_52 rfl rfl ?_
    refine KW.sub [2, 1, 0] rfl ?_
    refine wLoop_elim (M := fun (v13 : Int32) (x12 : HS) => KW g 5 53 [(0, .q l0), (2, .i v8), (3, .i v13)] [] x12) h ?_
    intro v13 x12 again10 ih11 h
    refine k_iload_n o hb dX9_forgetDead_53 rfl 2 rfl ?_
    refine k_iload_n o hb dX9_forgetDead_54 rfl 1 rfl ?_
    refine k_icmp_ge (tgt := 128) o hb dX9_forgetDead_55 (by decide) h (fun h => ?_) (fun h => ?_)
    · skip
      refine k_iload_n o hb dX9_forgetDead_128 rfl 1 rfl ?_
      refine k_aload_n o hb dX9_forgetDead_129 rfl 0 rfl ?_
      refine k_getI (C := RX9) (T := TX9) (N := 8) o hb hts in9 hown rfl (by decide) 4 (by decide) rfl (hts (.fieldLink RX9 40 "FactKeeper$Store" "keptCount" "I") (by decide +kernel)) (fun _ h9 => h9) dX9_forgetDead_130 h (fun v14 h => ?_)
      refine k_isub o hb dX9_forgetDead_133 ?_
      exact k_iret o hb B.hr fr dX9_forgetDead_134 h
    · skip
      refine k_aload_n o hb dX9_forgetDead_58 rfl 0 rfl ?_
      refine k_getF (C := RX9) (T := TX9) (N := 8) o hb hts in9 hown rfl (by decide) 1 (by decide) rfl (hts (.fieldLink RX9 19 "FactKeeper$Store" "kept" "[LFactKeeper$Fact;") (by decide +kernel)) (fun _ h9 => h9) dX9_forgetDead_59 h (fun v15 h => ?_)
      refine k_iload_n o hb dX9_forgetDead_62 rfl 2 rfl ?_
      refine k_aald (kd := 25) (t0 := 4) o hb rfl (by decide) dX9_forgetDead_63 h (fun v16 h => ?_)
      refine k_astore o hb dX9_forgetDead_64 rfl ?_
      refine k_aload o hb dX9_forgetDead_66 0 rfl ?_
      refine k_run_i o (fun _ _ q => q) (k_runV (ci := 1) (rc := (RX1, TX1, 7)) o hb B.hml hown hts rfl (by decide) (T_X1_isThereNow g.l o.hl g.D g.cA h.2) (cwV 0 hts gX9_forgetDead_X1_isThereNow rfl rfl rfl (by decide +kernel) ⟨yle B.hR1 rfl, yle B.hR2 rfl⟩) h.1 rfl rfl (Nat.le_of_ble_eq_true rfl) dX9_forgetDead_68) (fun v18 x17 h => ?_)
      refine wJoin_elim (M := fun K => ∀  (x20 : HS), K  x20 → KW g 5 122 [(0, .q l0), (2, .i v8), (3, .i v13)] [] x20) h ?_ (fun j19 hj19 h => ?_)
      · skip
        intro  x20 h
        refine k_iinc (w := 1) o hb dX9_forgetDead_122 2 rfl (by decide) rfl ?_
        refine k_goto (tgt := 53) o hb dX9_forgetDead_125 (by decide) ?_
        exact KW.sub [1, 2, 0] rfl (ih11 (v13 + 1) x20 h)
      · skip
        refine wJoin_elim (M := fun K => ∀  (x22 : HS), K  x22 → KW g 5 86 [(0, .q l0), (2, .i v8), (3, .i v13), (4, .q v16)] [] x22) h ?_ (fun j21 hj21 h => ?_)
        · skip
          intro  x22 h
          refine k_aload_n o hb dX9_forgetDead_86 rfl 0 rfl ?_
          refine k_getF (C := RX9) (T := TX9) (N := 8) o hb hts in9 hown rfl (by decide) 1 (by decide) rfl (hts (.fieldLink RX9 19 "FactKeeper$Store" "kept" "[LFactKeeper$Fact;") (by decide +kernel)) (fun _ h9 => h9) dX9_forgetDead_87 h (fun v23 h => ?_)
          refine k_iload_n o hb dX9_forgetDead_90 rfl 2 rfl ?_
          refine k_aload_n o hb dX9_forgetDead_91 rfl 0 rfl ?_
          refine k_getF (C := RX9) (T := TX9) (N := 8) o hb hts in9 hown rfl (by decide) 1 (by decide) rfl (hts (.fieldLink RX9 19 "FactKeeper$Store" "kept" "[LFactKeeper$Fact;") (by decide +kernel)) (fun _ h9 => h9) dX9_forgetDead_92 h (fun v24 h => ?_)
          refine k_aload_n o hb dX9_forgetDead_95 rfl 0 rfl ?_
          refine k_getI (C := RX9) (T := TX9) (N := 8) o hb hts in9 hown rfl (by decide) 4 (by decide) rfl (hts (.fieldLink RX9 40 "FactKeeper$Store" "keptCount" "I") (by decide +kernel)) (fun _ h9 => h9) dX9_forgetDead_96 h (fun v25 h => ?_)
          refine k_aald (kd := 25) (t0 := 4) o hb rfl (by decide) dX9_forgetDead_99 h (fun v26 h => ?_)
          refine k_aast (kd := 25) (ci := 1) (t0 := 4) (rc := (RX1, TX1, 7)) o hb rfl (by decide) (by decide) rfl dX9_forgetDead_100 h (fun x27 h => ?_)
          refine k_aload_n o hb dX9_forgetDead_101 rfl 0 rfl ?_
          refine k_getF (C := RX9) (T := TX9) (N := 8) o hb hts in9 hown rfl (by decide) 1 (by decide) rfl (hts (.fieldLink RX9 19 "FactKeeper$Store" "kept" "[LFactKeeper$Fact;") (by decide +kernel)) (fun _ h9 => h9) dX9_forgetDead_102 h (fun v28 h => ?_)
          refine k_aload_n o hb dX9_forgetDead_105 rfl 0 rfl ?_
          refine k_getI (C := RX9) (T := TX9) (N := 8) o hb hts in9 hown rfl (by decide) 4 (by decide) rfl (hts (.fieldLink RX9 40 "FactKeeper$Store" "keptCount" "I") (by decide +kernel)) (fun _ h9 => h9) dX9_forgetDead_106 h (fun v29 h => ?_)
          refine k_aload o hb dX9_forgetDead_109 3 rfl ?_
          refine k_aast (kd := 25) (ci := 1) (t0 := 4) (rc := (RX1, TX1, 7)) o hb rfl (by decide) (by decide) rfl dX9_forgetDead_111 h (fun x30 h => ?_)
          refine k_aload_n o hb dX9_forgetDead_112 rfl 0 rfl ?_
          refine k_dup o hb dX9_forgetDead_113 ?_
          refine k_getI (C := RX9) (T := TX9) (N := 8) o hb hts in9 hown rfl (by decide) 4 (by decide) rfl (hts (.fieldLink RX9 40 "FactKeeper$Store" "keptCount" "I") (by decide +kernel)) (fun _ h9 => h9) dX9_forgetDead_114 h (fun v31 h => ?_)
          refine k_iconst (v := 1) o hb dX9_forgetDead_117 (by decide) ?_
          refine k_iadd o hb dX9_forgetDead_118 ?_
          refine k_putI (C := RX9) (T := TX9) (N := 8) (ty := .int) o hb hts in9 tyX9 tyX9_ok nmX9 hown rfl (by decide) 4 (by decide) rfl (hts (.fieldLink RX9 40 "FactKeeper$Store" "keptCount" "I") (by decide +kernel)) (fun _ h9 => h9) rfl (by decide +kernel) (fun _ => rfl) (fun _ => rfl) dX9_forgetDead_119 h (fun x32 h => ?_)
          exact KW.sub [0, 1, 2] rfl (hj19 x32 h)
        · skip
          refine k_if_ne (tgt := 86) o hb dX9_forgetDead_71 (by decide) h (fun h => ?_) (fun h => ?_)
          · skip
            refine k_aload o hb dX9_forgetDead_74 0 rfl ?_
            refine k_getI (C := RX1) (T := TX1) (N := 7) o hb hts in1 hown rfl (by decide) 6 (by decide) rfl (hts (.fieldLink RX9 61 "FactKeeper$Fact" "died" "I") (by decide +kernel)) (fun _ h9 => h9) dX9_forgetDead_76 h (fun v33 h => ?_)
            refine k_aload_n o hb dX9_forgetDead_79 rfl 1 rfl ?_
            refine k_getI (C := RX9) (T := TX9) (N := 8) o hb hts in9 hown rfl (by decide) 7 (by decide) rfl (hts (.fieldLink RX9 103 "FactKeeper$Store" "horizon" "I") (by decide +kernel)) (fun _ h9 => h9) dX9_forgetDead_80 h (fun v34 h => ?_)
            refine k_icmp_le (tgt := 122) o hb dX9_forgetDead_83 (by decide) h (fun h => ?_) (fun h => ?_)
            · skip
              exact KW.sub [1, 2, 3] rfl (hj19 x17 h)
            · skip
              exact KW.sub [1, 2, 3, 0] rfl (hj21 x17 h)
          · skip
            exact KW.sub [1, 2, 3, 0] rfl (hj21 x17 h)
  · skip
    refine k_aload_n o hb dX9_forgetDead_22 rfl 0 rfl ?_
    refine k_getF (C := RX9) (T := TX9) (N := 8) o hb hts in9 hown rfl (by decide) 0 (by decide) rfl (hts (.fieldLink RX9 11 "FactKeeper$Store" "tables" "[LFactKeeper$Table;") (by decide +kernel)) (fun _ h9 => h9) dX9_forgetDead_23 h (fun v35 h => ?_)
    refine k_iload_n o hb dX9_forgetDead_26 rfl 1 rfl ?_
    refine k_aald (kd := 24) (t0 := 3) o hb rfl (by decide) dX9_forgetDead_27 h (fun v36 h => ?_)
    refine k_aload_n o hb dX9_forgetDead_28 rfl 0 rfl ?_
    refine k_getI (C := RX9) (T := TX9) (N := 8) o hb hts in9 hown rfl (by decide) 7 (by decide) rfl (hts (.fieldLink RX9 103 "FactKeeper$Store" "horizon" "I") (by decide +kernel)) (fun _ h9 => h9) dX9_forgetDead_29 h (fun v37 h => ?_)
    refine k_run_v o (fun _ _ q => q) (k_runV (ci := 10) (rc := (RX10, TX10, 6)) o hb B.hml hown hts rfl (by decide) (T_X10_dropDeadBy g.l o.hl g.D g.cA h.2) (cwV 1 hts gX9_forgetDead_X10_dropDeadBy rfl rfl rfl (by decide +kernel) ⟨yle B.hR1 rfl, yle B.hR2 rfl⟩) h.1 rfl rfl (Nat.le_of_ble_eq_true rfl) dX9_forgetDead_32) (fun x38 h => ?_)
    refine k_iinc (w := 1) o hb dX9_forgetDead_35 1 rfl (by decide) rfl ?_
    refine k_goto (tgt := 14) o hb dX9_forgetDead_38 (by decide) ?_
    exact KW.sub [1, 0] rfl (ih4 (v6 + 1) x38 h)
