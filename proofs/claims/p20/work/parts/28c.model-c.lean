/-! contracts out of the words (model-c), laid by wip/p4/y/gen5.py -/
set_option linter.unusedVariables false
theorem dX12_byNumber_0 : decode cX12_byNumber 0 = .ok (.iconst 0, 1) := by decide +kernel
theorem dX12_byNumber_1 : decode cX12_byNumber 1 = .ok (.istore_n 2, 1) := by decide +kernel
theorem dX12_byNumber_2 : decode cX12_byNumber 2 = .ok (.iload_n 2, 1) := by decide +kernel
theorem dX12_byNumber_3 : decode cX12_byNumber 3 = .ok (.sipush 3000, 3) := by decide +kernel
theorem dX12_byNumber_6 : decode cX12_byNumber 6 = .ok (.if_icmp .ge 30, 3) := by decide +kernel
theorem dX12_byNumber_9 : decode cX12_byNumber 9 = .ok (.aload_n 0, 1) := by decide +kernel
theorem dX12_byNumber_10 : decode cX12_byNumber 10 = .ok (.getfield 39, 3) := by decide +kernel
theorem dX12_byNumber_13 : decode cX12_byNumber 13 = .ok (.iload_n 2, 1) := by decide +kernel
theorem dX12_byNumber_14 : decode cX12_byNumber 14 = .ok (.baload, 1) := by decide +kernel
theorem dX12_byNumber_15 : decode cX12_byNumber 15 = .ok (.ifCond .eq 15, 3) := by decide +kernel
theorem dX12_byNumber_18 : decode cX12_byNumber 18 = .ok (.aload_n 0, 1) := by decide +kernel
theorem dX12_byNumber_19 : decode cX12_byNumber 19 = .ok (.getfield 49, 3) := by decide +kernel
theorem dX12_byNumber_22 : decode cX12_byNumber 22 = .ok (.iload_n 2, 1) := by decide +kernel
theorem dX12_byNumber_23 : decode cX12_byNumber 23 = .ok (.iaload, 1) := by decide +kernel
theorem dX12_byNumber_24 : decode cX12_byNumber 24 = .ok (.iload_n 1, 1) := by decide +kernel
theorem dX12_byNumber_25 : decode cX12_byNumber 25 = .ok (.if_icmp .ne 5, 3) := by decide +kernel
theorem dX12_byNumber_28 : decode cX12_byNumber 28 = .ok (.iload_n 2, 1) := by decide +kernel
theorem dX12_byNumber_29 : decode cX12_byNumber 29 = .ok (.ireturn, 1) := by decide +kernel
theorem dX12_byNumber_30 : decode cX12_byNumber 30 = .ok (.iinc 2 1, 3) := by decide +kernel
theorem dX12_byNumber_33 : decode cX12_byNumber 33 = .ok (.goto (-31), 3) := by decide +kernel
theorem dX12_byNumber_36 : decode cX12_byNumber 36 = .ok (.iconst (-1), 1) := by decide +kernel
theorem dX12_byNumber_37 : decode cX12_byNumber 37 = .ok (.ireturn, 1) := by decide +kernel
set_option maxHeartbeats 4000000 in
set_option maxRecDepth 100000 in
theorem T_X12_byNumber (l : Launch) (hl : l.stackTraces = false) (D : va_G) (cA : Nat → ClassId) {l0 : Option Nat} {l1 : Int32} {x : HS} {Q : Int32 → HS → Prop} {X : String → HS → Prop} (h : w_X12_byNumber l0 l1 x Q X) : YI l yX12_byNumber wsX12_byNumber 0 0 D cA [.q l0, .i l1] x Q X := by
  refine YI.of (cc := cX12_byNumber) (maxL := 3) (ret := (some .int)) hl (by decide) rfl rfl (fun g B fr => ?_)
  have o := B.o
  have hb := B.hb
  have hts := B.hts
  have hown : g.s.vm.findClass RX12 = some g.m.cls := B.hown
  have in12 : ∀ w ∈ u_ws RX12 TX12 57, w ∈ wsX12_byNumber := fun w h => (List.mem_cons_of_mem _ (List.mem_append_right _ h))
  unfold w_X12_byNumber at h
  show KW g 3 0 [(0, .q l0), (1, .i l1)] [] x
  refine k_iconst (v := 0) o hb dX12_byNumber_0 (by decide) ?_
  refine k_istore_n o hb dX12_byNumber_1 rfl rfl ?_
  refine KW.sub [1, 2, 0] rfl ?_
  refine wLoop_elim (M := fun (v4 : Int32) (x3 : HS) => KW g 3 2 [(0, .q l0), (1, .i l1), (2, .i v4)] [] x3) h ?_
  intro v4 x3 again1 ih2 h
  refine k_iload_n o hb dX12_byNumber_2 rfl 2 rfl ?_
  refine k_sipush (v := 3000) o hb dX12_byNumber_3 (by decide) ?_
  refine k_icmp_ge (tgt := 36) o hb dX12_byNumber_6 (by decide) h (fun h => ?_) (fun h => ?_)
  · skip
    refine k_iconst (v := (-1)) o hb dX12_byNumber_36 (by decide) ?_
    exact k_iret o hb B.hr fr dX12_byNumber_37 h
  · skip
    refine k_aload_n o hb dX12_byNumber_9 rfl 0 rfl ?_
    refine k_getF (C := RX12) (T := TX12) (N := 57) o hb hts in12 hown rfl (by decide) 11 (by decide) rfl (hts (.fieldLink RX12 39 "FactKeeperModel" "used" "[Z") (by decide +kernel)) (fun _ h9 => h9) dX12_byNumber_10 h (fun v5 h => ?_)
    refine k_iload_n o hb dX12_byNumber_13 rfl 2 rfl ?_
    refine k_zald o hb dX12_byNumber_14 h (fun v6 h => ?_)
    refine wJoin_elim (M := fun K => ∀  (x8 : HS), K  x8 → KW g 3 30 [(0, .q l0), (1, .i l1), (2, .i v4)] [] x8) h ?_ (fun j7 hj7 h => ?_)
    · skip
      intro  x8 h
      refine k_iinc (w := 1) o hb dX12_byNumber_30 2 rfl (by decide) rfl ?_
      refine k_goto (tgt := 2) o hb dX12_byNumber_33 (by decide) ?_
      exact KW.sub [1, 2, 0] rfl (ih2 (v4 + 1) x8 h)
    · skip
      refine k_if_eq (tgt := 30) o hb dX12_byNumber_15 (by decide) h (fun h => ?_) (fun h => ?_)
      · skip
        exact KW.sub [0, 1, 2] rfl (hj7 x3 h)
      · skip
        refine k_aload_n o hb dX12_byNumber_18 rfl 0 rfl ?_
        refine k_getF (C := RX12) (T := TX12) (N := 57) o hb hts in12 hown rfl (by decide) 14 (by decide) rfl (hts (.fieldLink RX12 49 "FactKeeperModel" "number" "[I") (by decide +kernel)) (fun _ h9 => h9) dX12_byNumber_19 h (fun v9 h => ?_)
        refine k_iload_n o hb dX12_byNumber_22 rfl 2 rfl ?_
        refine k_iald o hb dX12_byNumber_23 h (fun v10 h => ?_)
        refine k_iload_n o hb dX12_byNumber_24 rfl 1 rfl ?_
        refine k_icmp_ne (tgt := 30) o hb dX12_byNumber_25 (by decide) h (fun h => ?_) (fun h => ?_)
        · skip
          refine k_iload_n o hb dX12_byNumber_28 rfl 2 rfl ?_
          exact k_iret o hb B.hr fr dX12_byNumber_29 h
        · skip
          exact KW.sub [0, 1, 2] rfl (hj7 x3 h)
theorem dX12_ahead_0 : decode cX12_ahead 0 = .ok (.iconst 0, 1) := by decide +kernel
theorem dX12_ahead_1 : decode cX12_ahead 1 = .ok (.istore_n 2, 1) := by decide +kernel
theorem dX12_ahead_2 : decode cX12_ahead 2 = .ok (.aload_n 0, 1) := by decide +kernel
theorem dX12_ahead_3 : decode cX12_ahead 3 = .ok (.getfield 58, 3) := by decide +kernel
theorem dX12_ahead_6 : decode cX12_ahead 6 = .ok (.iload_n 1, 1) := by decide +kernel
theorem dX12_ahead_7 : decode cX12_ahead 7 = .ok (.iaload, 1) := by decide +kernel
theorem dX12_ahead_8 : decode cX12_ahead 8 = .ok (.istore_n 3, 1) := by decide +kernel
theorem dX12_ahead_9 : decode cX12_ahead 9 = .ok (.iload_n 3, 1) := by decide +kernel
theorem dX12_ahead_10 : decode cX12_ahead 10 = .ok (.ifCond .lt 16, 3) := by decide +kernel
theorem dX12_ahead_13 : decode cX12_ahead 13 = .ok (.iinc 2 1, 3) := by decide +kernel
theorem dX12_ahead_16 : decode cX12_ahead 16 = .ok (.aload_n 0, 1) := by decide +kernel
theorem dX12_ahead_17 : decode cX12_ahead 17 = .ok (.getfield 58, 3) := by decide +kernel
theorem dX12_ahead_20 : decode cX12_ahead 20 = .ok (.iload_n 3, 1) := by decide +kernel
theorem dX12_ahead_21 : decode cX12_ahead 21 = .ok (.iaload, 1) := by decide +kernel
theorem dX12_ahead_22 : decode cX12_ahead 22 = .ok (.istore_n 3, 1) := by decide +kernel
theorem dX12_ahead_23 : decode cX12_ahead 23 = .ok (.goto (-14), 3) := by decide +kernel
theorem dX12_ahead_26 : decode cX12_ahead 26 = .ok (.iload_n 2, 1) := by decide +kernel
theorem dX12_ahead_27 : decode cX12_ahead 27 = .ok (.ireturn, 1) := by decide +kernel
set_option maxHeartbeats 4000000 in
set_option maxRecDepth 100000 in
theorem T_X12_ahead (l : Launch) (hl : l.stackTraces = false) (D : va_G) (cA : Nat → ClassId) {l0 : Option Nat} {l1 : Int32} {x : HS} {Q : Int32 → HS → Prop} {X : String → HS → Prop} (h : w_X12_ahead l0 l1 x Q X) : YI l yX12_ahead wsX12_ahead 0 0 D cA [.q l0, .i l1] x Q X := by
  refine YI.of (cc := cX12_ahead) (maxL := 4) (ret := (some .int)) hl (by decide) rfl rfl (fun g B fr => ?_)
  have o := B.o
  have hb := B.hb
  have hts := B.hts
  have hown : g.s.vm.findClass RX12 = some g.m.cls := B.hown
  have in12 : ∀ w ∈ u_ws RX12 TX12 57, w ∈ wsX12_ahead := fun w h => (List.mem_cons_of_mem _ (List.mem_append_right _ h))
  unfold w_X12_ahead at h
  show KW g 4 0 [(0, .q l0), (1, .i l1)] [] x
  refine k_iconst (v := 0) o hb dX12_ahead_0 (by decide) ?_
  refine k_istore_n o hb dX12_ahead_1 rfl rfl ?_
  refine k_aload_n o hb dX12_ahead_2 rfl 1 rfl ?_
  refine k_getF (C := RX12) (T := TX12) (N := 57) o hb hts in12 hown rfl (by decide) 17 (by decide) rfl (hts (.fieldLink RX12 58 "FactKeeperModel" "before" "[I") (by decide +kernel)) (fun _ h9 => h9) dX12_ahead_3 h (fun v1 h => ?_)
  refine k_iload_n o hb dX12_ahead_6 rfl 2 rfl ?_
  refine k_iald o hb dX12_ahead_7 h (fun v2 h => ?_)
  refine k_istore_n o hb dX12_ahead_8 rfl rfl ?_
  refine KW.sub [2, 1, 0] rfl ?_
  refine wLoop_elim (M := fun (v6 : Int32 × Int32) (x5 : HS) => KW g 4 9 [(0, .q l0), (2, .i v6.1), (3, .i v6.2)] [] x5) h ?_
  intro v6 x5 again3 ih4 h
  refine k_iload_n o hb dX12_ahead_9 rfl 2 rfl ?_
  refine k_if_lt (tgt := 26) o hb dX12_ahead_10 (by decide) h (fun h => ?_) (fun h => ?_)
  · skip
    refine k_iload_n o hb dX12_ahead_26 rfl 1 rfl ?_
    exact k_iret o hb B.hr fr dX12_ahead_27 h
  · skip
    refine k_iinc (w := 1) o hb dX12_ahead_13 1 rfl (by decide) rfl ?_
    refine k_aload_n o hb dX12_ahead_16 rfl 1 rfl ?_
    refine k_getF (C := RX12) (T := TX12) (N := 57) o hb hts in12 hown rfl (by decide) 17 (by decide) rfl (hts (.fieldLink RX12 58 "FactKeeperModel" "before" "[I") (by decide +kernel)) (fun _ h9 => h9) dX12_ahead_17 h (fun v7 h => ?_)
    refine k_iload_n o hb dX12_ahead_20 rfl 2 rfl ?_
    refine k_iald o hb dX12_ahead_21 h (fun v8 h => ?_)
    refine k_istore_n o hb dX12_ahead_22 rfl rfl ?_
    refine k_goto (tgt := 9) o hb dX12_ahead_23 (by decide) ?_
    exact KW.sub [2, 1, 0] rfl (ih4 ((v6.1 + 1), v8) x5 h)
theorem dX12_fact_0 : decode cX12_fact 0 = .ok (.aload_n 0, 1) := by decide +kernel
theorem dX12_fact_1 : decode cX12_fact 1 = .ok (.iload_n 2, 1) := by decide +kernel
theorem dX12_fact_2 : decode cX12_fact 2 = .ok (.ifCond .lt 9, 3) := by decide +kernel
theorem dX12_fact_5 : decode cX12_fact 5 = .ok (.iload_n 2, 1) := by decide +kernel
theorem dX12_fact_6 : decode cX12_fact 6 = .ok (.bipush 7, 2) := by decide +kernel
theorem dX12_fact_8 : decode cX12_fact 8 = .ok (.if_icmp .le 7, 3) := by decide +kernel
theorem dX12_fact_11 : decode cX12_fact 11 = .ok (.iconst 1, 1) := by decide +kernel
theorem dX12_fact_12 : decode cX12_fact 12 = .ok (.goto 16, 3) := by decide +kernel
theorem dX12_fact_15 : decode cX12_fact 15 = .ok (.aload_n 0, 1) := by decide +kernel
theorem dX12_fact_16 : decode cX12_fact 16 = .ok (.iload_n 1, 1) := by decide +kernel
theorem dX12_fact_17 : decode cX12_fact 17 = .ok (.invokevirtual 226, 3) := by decide +kernel
theorem dX12_fact_20 : decode cX12_fact 20 = .ok (.ifCond .ge 7, 3) := by decide +kernel
theorem dX12_fact_23 : decode cX12_fact 23 = .ok (.iconst 2, 1) := by decide +kernel
theorem dX12_fact_24 : decode cX12_fact 24 = .ok (.goto 4, 3) := by decide +kernel
theorem dX12_fact_27 : decode cX12_fact 27 = .ok (.iconst 0, 1) := by decide +kernel
theorem dX12_fact_28 : decode cX12_fact 28 = .ok (.invokevirtual 136, 3) := by decide +kernel
theorem dX12_fact_31 : decode cX12_fact 31 = .ok (.ifCond .eq 5, 3) := by decide +kernel
theorem dX12_fact_34 : decode cX12_fact 34 = .ok (.iconst 0, 1) := by decide +kernel
theorem dX12_fact_35 : decode cX12_fact 35 = .ok (.ireturn, 1) := by decide +kernel
theorem dX12_fact_36 : decode cX12_fact 36 = .ok (.aload_n 0, 1) := by decide +kernel
theorem dX12_fact_37 : decode cX12_fact 37 = .ok (.iload_n 1, 1) := by decide +kernel
theorem dX12_fact_38 : decode cX12_fact 38 = .ok (.invokevirtual 226, 3) := by decide +kernel
theorem dX12_fact_41 : decode cX12_fact 41 = .ok (.istore_n 3, 1) := by decide +kernel
theorem dX12_fact_42 : decode cX12_fact 42 = .ok (.iload_n 2, 1) := by decide +kernel
theorem dX12_fact_43 : decode cX12_fact 43 = .ok (.tableswitch 56 4 7 #[29, 36, 43, 50], 29) := by decide +kernel
theorem dX12_fact_72 : decode cX12_fact 72 = .ok (.aload_n 0, 1) := by decide +kernel
theorem dX12_fact_73 : decode cX12_fact 73 = .ok (.getfield 43, 3) := by decide +kernel
theorem dX12_fact_76 : decode cX12_fact 76 = .ok (.iload_n 3, 1) := by decide +kernel
theorem dX12_fact_77 : decode cX12_fact 77 = .ok (.iaload, 1) := by decide +kernel
theorem dX12_fact_78 : decode cX12_fact 78 = .ok (.ireturn, 1) := by decide +kernel
theorem dX12_fact_79 : decode cX12_fact 79 = .ok (.aload_n 0, 1) := by decide +kernel
theorem dX12_fact_80 : decode cX12_fact 80 = .ok (.getfield 52, 3) := by decide +kernel
theorem dX12_fact_83 : decode cX12_fact 83 = .ok (.iload_n 3, 1) := by decide +kernel
theorem dX12_fact_84 : decode cX12_fact 84 = .ok (.iaload, 1) := by decide +kernel
theorem dX12_fact_85 : decode cX12_fact 85 = .ok (.ireturn, 1) := by decide +kernel
theorem dX12_fact_86 : decode cX12_fact 86 = .ok (.aload_n 0, 1) := by decide +kernel
theorem dX12_fact_87 : decode cX12_fact 87 = .ok (.getfield 55, 3) := by decide +kernel
theorem dX12_fact_90 : decode cX12_fact 90 = .ok (.iload_n 3, 1) := by decide +kernel
theorem dX12_fact_91 : decode cX12_fact 91 = .ok (.iaload, 1) := by decide +kernel
theorem dX12_fact_92 : decode cX12_fact 92 = .ok (.ireturn, 1) := by decide +kernel
theorem dX12_fact_93 : decode cX12_fact 93 = .ok (.aload_n 0, 1) := by decide +kernel
theorem dX12_fact_94 : decode cX12_fact 94 = .ok (.iload_n 3, 1) := by decide +kernel
theorem dX12_fact_95 : decode cX12_fact 95 = .ok (.invokevirtual 229, 3) := by decide +kernel
theorem dX12_fact_98 : decode cX12_fact 98 = .ok (.ireturn, 1) := by decide +kernel
theorem dX12_fact_99 : decode cX12_fact 99 = .ok (.aload_n 0, 1) := by decide +kernel
theorem dX12_fact_100 : decode cX12_fact 100 = .ok (.getfield 46, 3) := by decide +kernel
theorem dX12_fact_103 : decode cX12_fact 103 = .ok (.iconst 4, 1) := by decide +kernel
theorem dX12_fact_104 : decode cX12_fact 104 = .ok (.iload_n 3, 1) := by decide +kernel
theorem dX12_fact_105 : decode cX12_fact 105 = .ok (.imul, 1) := by decide +kernel
theorem dX12_fact_106 : decode cX12_fact 106 = .ok (.iload_n 2, 1) := by decide +kernel
theorem dX12_fact_107 : decode cX12_fact 107 = .ok (.iadd, 1) := by decide +kernel
theorem dX12_fact_108 : decode cX12_fact 108 = .ok (.iaload, 1) := by decide +kernel
theorem dX12_fact_109 : decode cX12_fact 109 = .ok (.ireturn, 1) := by decide +kernel
theorem i9wsX12_fact_0 : ∀ w ∈ ([.fieldLink RX12 43 "FactKeeperModel" "table" "[I", .fieldLink RX12 52 "FactKeeperModel" "born" "[I", .fieldLink RX12 55 "FactKeeperModel" "died" "[I", .fieldLink RX12 46 "FactKeeperModel" "column" "[I", .methodLink RX12 226 yX12_byNumber, .instanceMethod yX12_byNumber, .selects RX12 yX12_byNumber yX12_byNumber, .initialized RX12, .code yX12_byNumber cX12_byNumber 3 (some .int), .fieldLink RX12 39 "FactKeeperModel" "used" "[Z", .fieldLink RX12 49 "FactKeeperModel" "number" "[I", .methodLink RX12 136 yX12_fails, .instanceMethod yX12_fails, .selects RX12 yX12_fails yX12_fails, .code yX12_fails cX12_fails 2 (some .boolean), .fieldLink RX12 1 "FactKeeperModel" "thrown" "I", .methodLink RX12 229 yX12_ahead, .instanceMethod yX12_ahead, .selects RX12 yX12_ahead yX12_ahead, .code yX12_ahead cX12_ahead 4 (some .int), .fieldLink RX12 58 "FactKeeperModel" "before" "[I"] : List Cond), w ∈ wsX12_fact := fun _ h => (List.mem_cons_of_mem _ (List.mem_append_left _ h))
theorem i9wsX12_fact_1 : ∀ w ∈ wsX120, w ∈ wsX12_fact := fun _ h => (List.mem_cons_of_mem _ (List.mem_append_right _ h))
set_option maxRecDepth 20000 in
theorem ggX12_fact_X12_byNumber : GoodIn wsX12_fact wsX12_byNumber := (gin_c (mem_at i9wsX12_fact_0 8 rfl) rfl (goodIn_app (gin_c (mem_at i9wsX12_fact_0 9 rfl) rfl (gin_c (mem_at i9wsX12_fact_0 10 rfl) rfl gin_n)) (goodIn_sub i9wsX12_fact_1 g9_16)))
set_option maxRecDepth 20000 in
theorem gX12_fact_X12_byNumber : GoodIn wsX12_fact (wsV RX12 226 RX12 yX12_byNumber wsX12_byNumber) := goodIn_app (gin_c (mem_at i9wsX12_fact_0 4 rfl) rfl (gin_c (mem_at i9wsX12_fact_0 5 rfl) rfl (gin_c (mem_at i9wsX12_fact_0 6 rfl) rfl (gin_c (mem_at i9wsX12_fact_0 7 rfl) rfl gin_n)))) ggX12_fact_X12_byNumber
set_option maxRecDepth 20000 in
theorem ggX12_fact_X12_fails : GoodIn wsX12_fact wsX12_fails := (gin_c (mem_at i9wsX12_fact_0 14 rfl) rfl (goodIn_app (gin_c (mem_at i9wsX12_fact_0 15 rfl) rfl gin_n) (goodIn_sub i9wsX12_fact_1 g9_16)))
set_option maxRecDepth 20000 in
theorem gX12_fact_X12_fails : GoodIn wsX12_fact (wsV RX12 136 RX12 yX12_fails wsX12_fails) := goodIn_app (gin_c (mem_at i9wsX12_fact_0 11 rfl) rfl (gin_c (mem_at i9wsX12_fact_0 12 rfl) rfl (gin_c (mem_at i9wsX12_fact_0 13 rfl) rfl (gin_c (mem_at i9wsX12_fact_0 7 rfl) rfl gin_n)))) ggX12_fact_X12_fails
set_option maxRecDepth 20000 in
theorem ggX12_fact_X12_ahead : GoodIn wsX12_fact wsX12_ahead := (gin_c (mem_at i9wsX12_fact_0 19 rfl) rfl (goodIn_app (gin_c (mem_at i9wsX12_fact_0 20 rfl) rfl gin_n) (goodIn_sub i9wsX12_fact_1 g9_16)))
set_option maxRecDepth 20000 in
theorem gX12_fact_X12_ahead : GoodIn wsX12_fact (wsV RX12 229 RX12 yX12_ahead wsX12_ahead) := goodIn_app (gin_c (mem_at i9wsX12_fact_0 16 rfl) rfl (gin_c (mem_at i9wsX12_fact_0 17 rfl) rfl (gin_c (mem_at i9wsX12_fact_0 18 rfl) rfl (gin_c (mem_at i9wsX12_fact_0 7 rfl) rfl gin_n)))) ggX12_fact_X12_ahead
set_option maxHeartbeats 4000000 in
set_option maxRecDepth 100000 in
theorem T_X12_fact (l : Launch) (hl : l.stackTraces = false) (D : va_G) (cA : Nat → ClassId) {l0 : Option Nat} {l1 : Int32} {l2 : Int32} {x : HS} {Q : Int32 → HS → Prop} {X : String → HS → Prop} (h : w_X12_fact l0 l1 l2 x Q X) : YI l yX12_fact wsX12_fact 1 23 D cA [.q l0, .i l1, .i l2] x Q X := by
  refine YI.of (cc := cX12_fact) (maxL := 4) (ret := (some .int)) hl (by decide) rfl rfl (fun g B fr => ?_)
  have o := B.o
  have hb := B.hb
  have hts := B.hts
  have hown : g.s.vm.findClass RX12 = some g.m.cls := B.hown
  have in12 : ∀ w ∈ u_ws RX12 TX12 57, w ∈ wsX12_fact := fun w h => (List.mem_cons_of_mem _ (List.mem_append_right _ h))
  unfold w_X12_fact at h
  show KW g 4 0 [(0, .q l0), (1, .i l1), (2, .i l2)] [] x
  refine k_aload_n o hb dX12_fact_0 rfl 0 rfl ?_
  refine k_iload_n o hb dX12_fact_1 rfl 2 rfl ?_
  refine wJoin_elim (M := fun K => ∀ (v3 : Int32) (x2 : HS), K v3 x2 → KW g 4 28 [(0, .q l0), (1, .i l1), (2, .i l2)] [.i v3, .q l0] x2) h ?_ (fun j1 hj1 h => ?_)
  · skip
    intro v3 x2 h
    refine k_run_i o (fun _ _ q => q) (k_runV (ci := 12) (rc := (RX12, TX12, 57)) o hb B.hml hown hts rfl (by decide) (T_X12_fails g.l o.hl g.D g.cA h.2) (cwV 1 hts gX12_fact_X12_fails rfl rfl rfl (by decide +kernel) ⟨yle B.hR1 rfl, yle B.hR2 rfl⟩) h.1 rfl rfl (Nat.le_of_ble_eq_true rfl) dX12_fact_28) (fun v5 x4 h => ?_)
    refine k_if_eq (tgt := 36) o hb dX12_fact_31 (by decide) h (fun h => ?_) (fun h => ?_)
    · skip
      refine k_aload_n o hb dX12_fact_36 rfl 0 rfl ?_
      refine k_iload_n o hb dX12_fact_37 rfl 1 rfl ?_
      refine k_run_i o (fun _ _ q => q) (k_runV (ci := 12) (rc := (RX12, TX12, 57)) o hb B.hml hown hts rfl (by decide) (T_X12_byNumber g.l o.hl g.D g.cA h.2) (cwV 1 hts gX12_fact_X12_byNumber rfl rfl rfl (by decide +kernel) ⟨yle B.hR1 rfl, yle B.hR2 rfl⟩) h.1 rfl rfl (Nat.le_of_ble_eq_true rfl) dX12_fact_38) (fun v7 x6 h => ?_)
      refine k_istore_n o hb dX12_fact_41 rfl rfl ?_
      refine k_iload_n o hb dX12_fact_42 rfl 3 rfl ?_
      rcases Decidable.em (l2 = 4) with c4 | c4
      · skip
        have h := h.1 c4
        refine k_tableIn (w := 4) (off := 29) (tgt := 72) o hb dX12_fact_43 c4 (by decide) (by decide) (by decide) (by decide) ?_
        refine k_aload_n o hb dX12_fact_72 rfl 1 rfl ?_
        refine k_getF (C := RX12) (T := TX12) (N := 57) o hb hts in12 hown rfl (by decide) 12 (by decide) rfl (hts (.fieldLink RX12 43 "FactKeeperModel" "table" "[I") (by decide +kernel)) (fun _ h9 => h9) dX12_fact_73 h (fun v8 h => ?_)
        refine k_iload_n o hb dX12_fact_76 rfl 0 rfl ?_
        refine k_iald o hb dX12_fact_77 h (fun v9 h => ?_)
        exact k_iret o hb B.hr fr dX12_fact_78 h
      · skip
        have h := h.2 c4
        rcases Decidable.em (l2 = 5) with c5 | c5
        · skip
          have h := h.1 c5
          refine k_tableIn (w := 5) (off := 36) (tgt := 79) o hb dX12_fact_43 c5 (by decide) (by decide) (by decide) (by decide) ?_
          refine k_aload_n o hb dX12_fact_79 rfl 1 rfl ?_
          refine k_getF (C := RX12) (T := TX12) (N := 57) o hb hts in12 hown rfl (by decide) 15 (by decide) rfl (hts (.fieldLink RX12 52 "FactKeeperModel" "born" "[I") (by decide +kernel)) (fun _ h9 => h9) dX12_fact_80 h (fun v10 h => ?_)
          refine k_iload_n o hb dX12_fact_83 rfl 0 rfl ?_
          refine k_iald o hb dX12_fact_84 h (fun v11 h => ?_)
          exact k_iret o hb B.hr fr dX12_fact_85 h
        · skip
          have h := h.2 c5
          rcases Decidable.em (l2 = 6) with c6 | c6
          · skip
            have h := h.1 c6
            refine k_tableIn (w := 6) (off := 43) (tgt := 86) o hb dX12_fact_43 c6 (by decide) (by decide) (by decide) (by decide) ?_
            refine k_aload_n o hb dX12_fact_86 rfl 1 rfl ?_
            refine k_getF (C := RX12) (T := TX12) (N := 57) o hb hts in12 hown rfl (by decide) 16 (by decide) rfl (hts (.fieldLink RX12 55 "FactKeeperModel" "died" "[I") (by decide +kernel)) (fun _ h9 => h9) dX12_fact_87 h (fun v12 h => ?_)
            refine k_iload_n o hb dX12_fact_90 rfl 0 rfl ?_
            refine k_iald o hb dX12_fact_91 h (fun v13 h => ?_)
            exact k_iret o hb B.hr fr dX12_fact_92 h
          · skip
            have h := h.2 c6
            rcases Decidable.em (l2 = 7) with c7 | c7
            · skip
              have h := h.1 c7
              refine k_tableIn (w := 7) (off := 50) (tgt := 93) o hb dX12_fact_43 c7 (by decide) (by decide) (by decide) (by decide) ?_
              refine k_aload_n o hb dX12_fact_93 rfl 1 rfl ?_
              refine k_iload_n o hb dX12_fact_94 rfl 0 rfl ?_
              refine k_run_i o (fun _ _ q => q) (k_runV (ci := 12) (rc := (RX12, TX12, 57)) o hb B.hml hown hts rfl (by decide) (T_X12_ahead g.l o.hl g.D g.cA h.2) (cwV 1 hts gX12_fact_X12_ahead rfl rfl rfl (by decide +kernel) ⟨yle B.hR1 rfl, yle B.hR2 rfl⟩) h.1 rfl rfl (Nat.le_of_ble_eq_true rfl) dX12_fact_95) (fun v15 x14 h => ?_)
              exact k_iret o hb B.hr fr dX12_fact_98 h
            · skip
              have h := h.2 c7
              refine k_tableOut (tgt := 99) o hb dX12_fact_43 (by have e4 := lv_neT (a := 4) c4 (by decide); have e5 := lv_neT (a := 5) c5 (by decide); have e6 := lv_neT (a := 6) c6 (by decide); have e7 := lv_neT (a := 7) c7 (by decide); omega) (by decide) ?_
              refine k_aload_n o hb dX12_fact_99 rfl 1 rfl ?_
              refine k_getF (C := RX12) (T := TX12) (N := 57) o hb hts in12 hown rfl (by decide) 13 (by decide) rfl (hts (.fieldLink RX12 46 "FactKeeperModel" "column" "[I") (by decide +kernel)) (fun _ h9 => h9) dX12_fact_100 h (fun v16 h => ?_)
              refine k_iconst (v := 4) o hb dX12_fact_103 (by decide) ?_
              refine k_iload_n o hb dX12_fact_104 rfl 0 rfl ?_
              refine k_imul o hb dX12_fact_105 ?_
              refine k_iload_n o hb dX12_fact_106 rfl 3 rfl ?_
              refine k_iadd o hb dX12_fact_107 ?_
              refine k_iald o hb dX12_fact_108 h (fun v17 h => ?_)
              exact k_iret o hb B.hr fr dX12_fact_109 h
    · skip
      refine k_iconst (v := 0) o hb dX12_fact_34 (by decide) ?_
      exact k_iret o hb B.hr fr dX12_fact_35 h
  · skip
    refine wJoin_elim (M := fun K => ∀  (x19 : HS), K  x19 → KW g 4 11 [(0, .q l0), (1, .i l1), (2, .i l2)] [.q l0] x19) h ?_ (fun j18 hj18 h => ?_)
    · skip
      intro  x19 h
      refine k_iconst (v := 1) o hb dX12_fact_11 (by decide) ?_
      refine k_goto (tgt := 28) o hb dX12_fact_12 (by decide) ?_
      exact KW.sub [0, 1, 2] rfl (hj1 1 x19 h)
    · skip
      refine k_if_lt (tgt := 11) o hb dX12_fact_2 (by decide) h (fun h => ?_) (fun h => ?_)
      · skip
        exact KW.sub [0, 1, 2] rfl (hj18 x h)
      · skip
        refine k_iload_n o hb dX12_fact_5 rfl 2 rfl ?_
        refine k_bipush (v := 7) o hb dX12_fact_6 (by decide) ?_
        refine k_icmp_le (tgt := 15) o hb dX12_fact_8 (by decide) h (fun h => ?_) (fun h => ?_)
        · skip
          refine k_aload_n o hb dX12_fact_15 rfl 0 rfl ?_
          refine k_iload_n o hb dX12_fact_16 rfl 1 rfl ?_
          refine k_run_i o (fun _ _ q => q) (k_runV (ci := 12) (rc := (RX12, TX12, 57)) o hb B.hml hown hts rfl (by decide) (T_X12_byNumber g.l o.hl g.D g.cA h.2) (cwV 1 hts gX12_fact_X12_byNumber rfl rfl rfl (by decide +kernel) ⟨yle B.hR1 rfl, yle B.hR2 rfl⟩) h.1 rfl rfl (Nat.le_of_ble_eq_true rfl) dX12_fact_17) (fun v21 x20 h => ?_)
          refine k_if_ge (tgt := 27) o hb dX12_fact_20 (by decide) h (fun h => ?_) (fun h => ?_)
          · skip
            refine k_iconst (v := 0) o hb dX12_fact_27 (by decide) ?_
            exact KW.sub [0, 1, 2] rfl (hj1 0 x20 h)
          · skip
            refine k_iconst (v := 2) o hb dX12_fact_23 (by decide) ?_
            refine k_goto (tgt := 28) o hb dX12_fact_24 (by decide) ?_
            exact KW.sub [0, 1, 2] rfl (hj1 2 x20 h)
        · skip
          exact KW.sub [0, 1, 2] rfl (hj18 x h)
theorem dX12_mark_0 : decode cX12_mark 0 = .ok (.aload_n 0, 1) := by decide +kernel
theorem dX12_mark_1 : decode cX12_mark 1 = .ok (.aload_n 0, 1) := by decide +kernel
theorem dX12_mark_2 : decode cX12_mark 2 = .ok (.getfield 193, 3) := by decide +kernel
theorem dX12_mark_5 : decode cX12_mark 5 = .ok (.bipush 8, 2) := by decide +kernel
theorem dX12_mark_7 : decode cX12_mark 7 = .ok (.if_icmp .ne 7, 3) := by decide +kernel
theorem dX12_mark_10 : decode cX12_mark 10 = .ok (.iconst 1, 1) := by decide +kernel
theorem dX12_mark_11 : decode cX12_mark 11 = .ok (.goto 4, 3) := by decide +kernel
theorem dX12_mark_14 : decode cX12_mark 14 = .ok (.iconst 0, 1) := by decide +kernel
theorem dX12_mark_15 : decode cX12_mark 15 = .ok (.invokevirtual 136, 3) := by decide +kernel
theorem dX12_mark_18 : decode cX12_mark 18 = .ok (.ifCond .eq 5, 3) := by decide +kernel
theorem dX12_mark_21 : decode cX12_mark 21 = .ok (.iconst 0, 1) := by decide +kernel
theorem dX12_mark_22 : decode cX12_mark 22 = .ok (.ireturn, 1) := by decide +kernel
theorem dX12_mark_23 : decode cX12_mark 23 = .ok (.aload_n 0, 1) := by decide +kernel
theorem dX12_mark_24 : decode cX12_mark 24 = .ok (.getfield 193, 3) := by decide +kernel
theorem dX12_mark_27 : decode cX12_mark 27 = .ok (.ifCond .ne 8, 3) := by decide +kernel
theorem dX12_mark_30 : decode cX12_mark 30 = .ok (.aload_n 0, 1) := by decide +kernel
theorem dX12_mark_31 : decode cX12_mark 31 = .ok (.iconst 0, 1) := by decide +kernel
theorem dX12_mark_32 : decode cX12_mark 32 = .ok (.putfield 196, 3) := by decide +kernel
theorem dX12_mark_35 : decode cX12_mark 35 = .ok (.aload_n 0, 1) := by decide +kernel
theorem dX12_mark_36 : decode cX12_mark 36 = .ok (.getfield 70, 3) := by decide +kernel
theorem dX12_mark_39 : decode cX12_mark 39 = .ok (.aload_n 0, 1) := by decide +kernel
theorem dX12_mark_40 : decode cX12_mark 40 = .ok (.getfield 193, 3) := by decide +kernel
theorem dX12_mark_43 : decode cX12_mark 43 = .ok (.aload_n 0, 1) := by decide +kernel
theorem dX12_mark_44 : decode cX12_mark 44 = .ok (.getfield 196, 3) := by decide +kernel
theorem dX12_mark_47 : decode cX12_mark 47 = .ok (.iastore, 1) := by decide +kernel
theorem dX12_mark_48 : decode cX12_mark 48 = .ok (.aload_n 0, 1) := by decide +kernel
theorem dX12_mark_49 : decode cX12_mark 49 = .ok (.dup, 1) := by decide +kernel
theorem dX12_mark_50 : decode cX12_mark 50 = .ok (.getfield 193, 3) := by decide +kernel
theorem dX12_mark_53 : decode cX12_mark 53 = .ok (.iconst 1, 1) := by decide +kernel
theorem dX12_mark_54 : decode cX12_mark 54 = .ok (.iadd, 1) := by decide +kernel
theorem dX12_mark_55 : decode cX12_mark 55 = .ok (.putfield 193, 3) := by decide +kernel
theorem dX12_mark_58 : decode cX12_mark 58 = .ok (.aload_n 0, 1) := by decide +kernel
theorem dX12_mark_59 : decode cX12_mark 59 = .ok (.getfield 193, 3) := by decide +kernel
theorem dX12_mark_62 : decode cX12_mark 62 = .ok (.ireturn, 1) := by decide +kernel
theorem i9wsX12_mark_0 : ∀ w ∈ ([.fieldLink RX12 193 "FactKeeperModel" "marks" "I", .fieldLink RX12 196 "FactKeeperModel" "changes" "I", .fieldLink RX12 70 "FactKeeperModel" "mark" "[I", .methodLink RX12 136 yX12_fails, .instanceMethod yX12_fails, .selects RX12 yX12_fails yX12_fails, .initialized RX12, .code yX12_fails cX12_fails 2 (some .boolean), .fieldLink RX12 1 "FactKeeperModel" "thrown" "I"] : List Cond), w ∈ wsX12_mark := fun _ h => (List.mem_cons_of_mem _ (List.mem_append_left _ h))
theorem i9wsX12_mark_1 : ∀ w ∈ wsX120, w ∈ wsX12_mark := fun _ h => (List.mem_cons_of_mem _ (List.mem_append_right _ h))
set_option maxRecDepth 20000 in
theorem ggX12_mark_X12_fails : GoodIn wsX12_mark wsX12_fails := (gin_c (mem_at i9wsX12_mark_0 7 rfl) rfl (goodIn_app (gin_c (mem_at i9wsX12_mark_0 8 rfl) rfl gin_n) (goodIn_sub i9wsX12_mark_1 g9_16)))
set_option maxRecDepth 20000 in
theorem gX12_mark_X12_fails : GoodIn wsX12_mark (wsV RX12 136 RX12 yX12_fails wsX12_fails) := goodIn_app (gin_c (mem_at i9wsX12_mark_0 3 rfl) rfl (gin_c (mem_at i9wsX12_mark_0 4 rfl) rfl (gin_c (mem_at i9wsX12_mark_0 5 rfl) rfl (gin_c (mem_at i9wsX12_mark_0 6 rfl) rfl gin_n)))) ggX12_mark_X12_fails
set_option maxHeartbeats 4000000 in
set_option maxRecDepth 100000 in
theorem T_X12_mark (l : Launch) (hl : l.stackTraces = false) (D : va_G) (cA : Nat → ClassId) {l0 : Option Nat} {x : HS} {Q : Int32 → HS → Prop} {X : String → HS → Prop} (h : w_X12_mark l0 x Q X) : YI l yX12_mark wsX12_mark 1 21 D cA [.q l0] x Q X := by
  refine YI.of (cc := cX12_mark) (maxL := 1) (ret := (some .int)) hl (by decide) rfl rfl (fun g B fr => ?_)
  have o := B.o
  have hb := B.hb
  have hts := B.hts
  have hown : g.s.vm.findClass RX12 = some g.m.cls := B.hown
  have in12 : ∀ w ∈ u_ws RX12 TX12 57, w ∈ wsX12_mark := fun w h => (List.mem_cons_of_mem _ (List.mem_append_right _ h))
  unfold w_X12_mark at h
  show KW g 1 0 [(0, .q l0)] [] x
  refine k_aload_n o hb dX12_mark_0 rfl 0 rfl ?_
  refine k_aload_n o hb dX12_mark_1 rfl 0 rfl ?_
  refine k_getI (C := RX12) (T := TX12) (N := 57) o hb hts in12 hown rfl (by decide) 27 (by decide) rfl (hts (.fieldLink RX12 193 "FactKeeperModel" "marks" "I") (by decide +kernel)) (fun _ h9 => h9) dX12_mark_2 h (fun v1 h => ?_)
  refine k_bipush (v := 8) o hb dX12_mark_5 (by decide) ?_
  refine wJoin_elim (M := fun K => ∀ (v4 : Int32) (x3 : HS), K v4 x3 → KW g 1 15 [(0, .q l0)] [.i v4, .q l0] x3) h ?_ (fun j2 hj2 h => ?_)
  · skip
    intro v4 x3 h
    refine k_run_i o (fun _ _ q => q) (k_runV (ci := 12) (rc := (RX12, TX12, 57)) o hb B.hml hown hts rfl (by decide) (T_X12_fails g.l o.hl g.D g.cA h.2) (cwV 1 hts gX12_mark_X12_fails rfl rfl rfl (by decide +kernel) ⟨yle B.hR1 rfl, yle B.hR2 rfl⟩) h.1 rfl rfl (Nat.le_of_ble_eq_true rfl) dX12_mark_15) (fun v6 x5 h => ?_)
    refine k_if_eq (tgt := 23) o hb dX12_mark_18 (by decide) h (fun h => ?_) (fun h => ?_)
    · skip
      refine k_aload_n o hb dX12_mark_23 rfl 0 rfl ?_
      refine k_getI (C := RX12) (T := TX12) (N := 57) o hb hts in12 hown rfl (by decide) 27 (by decide) rfl (hts (.fieldLink RX12 193 "FactKeeperModel" "marks" "I") (by decide +kernel)) (fun _ h9 => h9) dX12_mark_24 h (fun v7 h => ?_)
      refine wJoin_elim (M := fun K => ∀  (x9 : HS), K  x9 → KW g 1 35 [(0, .q l0)] [] x9) h ?_ (fun j8 hj8 h => ?_)
      · skip
        intro  x9 h
        refine k_aload_n o hb dX12_mark_35 rfl 0 rfl ?_
        refine k_getF (C := RX12) (T := TX12) (N := 57) o hb hts in12 hown rfl (by decide) 26 (by decide) rfl (hts (.fieldLink RX12 70 "FactKeeperModel" "mark" "[I") (by decide +kernel)) (fun _ h9 => h9) dX12_mark_36 h (fun v10 h => ?_)
        refine k_aload_n o hb dX12_mark_39 rfl 0 rfl ?_
        refine k_getI (C := RX12) (T := TX12) (N := 57) o hb hts in12 hown rfl (by decide) 27 (by decide) rfl (hts (.fieldLink RX12 193 "FactKeeperModel" "marks" "I") (by decide +kernel)) (fun _ h9 => h9) dX12_mark_40 h (fun v11 h => ?_)
        refine k_aload_n o hb dX12_mark_43 rfl 0 rfl ?_
        refine k_getI (C := RX12) (T := TX12) (N := 57) o hb hts in12 hown rfl (by decide) 25 (by decide) rfl (hts (.fieldLink RX12 196 "FactKeeperModel" "changes" "I") (by decide +kernel)) (fun _ h9 => h9) dX12_mark_44 h (fun v12 h => ?_)
        refine k_iast o hb dX12_mark_47 h (fun x13 h => ?_)
        refine k_aload_n o hb dX12_mark_48 rfl 0 rfl ?_
        refine k_dup o hb dX12_mark_49 ?_
        refine k_getI (C := RX12) (T := TX12) (N := 57) o hb hts in12 hown rfl (by decide) 27 (by decide) rfl (hts (.fieldLink RX12 193 "FactKeeperModel" "marks" "I") (by decide +kernel)) (fun _ h9 => h9) dX12_mark_50 h (fun v14 h => ?_)
        refine k_iconst (v := 1) o hb dX12_mark_53 (by decide) ?_
        refine k_iadd o hb dX12_mark_54 ?_
        refine k_putI (C := RX12) (T := TX12) (N := 57) (ty := .int) o hb hts in12 tyX12 tyX12_ok nmX12 hown rfl (by decide) 27 (by decide) rfl (hts (.fieldLink RX12 193 "FactKeeperModel" "marks" "I") (by decide +kernel)) (fun _ h9 => h9) rfl (by decide +kernel) (fun _ => rfl) (fun _ => rfl) dX12_mark_55 h (fun x15 h => ?_)
        refine k_aload_n o hb dX12_mark_58 rfl 0 rfl ?_
        refine k_getI (C := RX12) (T := TX12) (N := 57) o hb hts in12 hown rfl (by decide) 27 (by decide) rfl (hts (.fieldLink RX12 193 "FactKeeperModel" "marks" "I") (by decide +kernel)) (fun _ h9 => h9) dX12_mark_59 h (fun v16 h => ?_)
        exact k_iret o hb B.hr fr dX12_mark_62 h
      · skip
        refine k_if_ne (tgt := 35) o hb dX12_mark_27 (by decide) h (fun h => ?_) (fun h => ?_)
        · skip
          refine k_aload_n o hb dX12_mark_30 rfl 0 rfl ?_
          refine k_iconst (v := 0) o hb dX12_mark_31 (by decide) ?_
          refine k_putI (C := RX12) (T := TX12) (N := 57) (ty := .int) o hb hts in12 tyX12 tyX12_ok nmX12 hown rfl (by decide) 25 (by decide) rfl (hts (.fieldLink RX12 196 "FactKeeperModel" "changes" "I") (by decide +kernel)) (fun _ h9 => h9) rfl (by decide +kernel) (fun _ => rfl) (fun _ => rfl) dX12_mark_32 h (fun x17 h => ?_)
          exact KW.sub [0] rfl (hj8 x17 h)
        · skip
          exact KW.sub [0] rfl (hj8 x5 h)
    · skip
      refine k_iconst (v := 0) o hb dX12_mark_21 (by decide) ?_
      exact k_iret o hb B.hr fr dX12_mark_22 h
  · skip
    refine k_icmp_ne (tgt := 14) o hb dX12_mark_7 (by decide) h (fun h => ?_) (fun h => ?_)
    · skip
      refine k_iconst (v := 1) o hb dX12_mark_10 (by decide) ?_
      refine k_goto (tgt := 15) o hb dX12_mark_11 (by decide) ?_
      exact KW.sub [0] rfl (hj2 1 x h)
    · skip
      refine k_iconst (v := 0) o hb dX12_mark_14 (by decide) ?_
      exact KW.sub [0] rfl (hj2 0 x h)
theorem dX12_turn_0 : decode cX12_turn 0 = .ok (.iload_n 1, 1) := by decide +kernel
theorem dX12_turn_1 : decode cX12_turn 1 = .ok (.ifCond .lt 31, 3) := by decide +kernel
theorem dX12_turn_4 : decode cX12_turn 4 = .ok (.iload_n 1, 1) := by decide +kernel
theorem dX12_turn_5 : decode cX12_turn 5 = .ok (.istore_n 2, 1) := by decide +kernel
theorem dX12_turn_6 : decode cX12_turn 6 = .ok (.aload_n 0, 1) := by decide +kernel
theorem dX12_turn_7 : decode cX12_turn 7 = .ok (.getfield 64, 3) := by decide +kernel
theorem dX12_turn_10 : decode cX12_turn 10 = .ok (.iload_n 2, 1) := by decide +kernel
theorem dX12_turn_11 : decode cX12_turn 11 = .ok (.iaload, 1) := by decide +kernel
theorem dX12_turn_12 : decode cX12_turn 12 = .ok (.iload_n 2, 1) := by decide +kernel
theorem dX12_turn_13 : decode cX12_turn 13 = .ok (.if_icmp .eq 13, 3) := by decide +kernel
theorem dX12_turn_16 : decode cX12_turn 16 = .ok (.aload_n 0, 1) := by decide +kernel
theorem dX12_turn_17 : decode cX12_turn 17 = .ok (.getfield 64, 3) := by decide +kernel
theorem dX12_turn_20 : decode cX12_turn 20 = .ok (.iload_n 2, 1) := by decide +kernel
theorem dX12_turn_21 : decode cX12_turn 21 = .ok (.iaload, 1) := by decide +kernel
theorem dX12_turn_22 : decode cX12_turn 22 = .ok (.istore_n 2, 1) := by decide +kernel
theorem dX12_turn_23 : decode cX12_turn 23 = .ok (.goto (-17), 3) := by decide +kernel
theorem dX12_turn_26 : decode cX12_turn 26 = .ok (.aload_n 0, 1) := by decide +kernel
theorem dX12_turn_27 : decode cX12_turn 27 = .ok (.iload_n 2, 1) := by decide +kernel
theorem dX12_turn_28 : decode cX12_turn 28 = .ok (.invokevirtual 214, 3) := by decide +kernel
theorem dX12_turn_31 : decode cX12_turn 31 = .ok (.return_, 1) := by decide +kernel
theorem dX12_turn_32 : decode cX12_turn 32 = .ok (.iconst (-1), 1) := by decide +kernel
theorem dX12_turn_33 : decode cX12_turn 33 = .ok (.iload_n 1, 1) := by decide +kernel
theorem dX12_turn_34 : decode cX12_turn 34 = .ok (.isub, 1) := by decide +kernel
theorem dX12_turn_35 : decode cX12_turn 35 = .ok (.istore_n 2, 1) := by decide +kernel
theorem dX12_turn_36 : decode cX12_turn 36 = .ok (.aload_n 0, 1) := by decide +kernel
theorem dX12_turn_37 : decode cX12_turn 37 = .ok (.aload_n 0, 1) := by decide +kernel
theorem dX12_turn_38 : decode cX12_turn 38 = .ok (.getfield 43, 3) := by decide +kernel
theorem dX12_turn_41 : decode cX12_turn 41 = .ok (.iload_n 2, 1) := by decide +kernel
theorem dX12_turn_42 : decode cX12_turn 42 = .ok (.iaload, 1) := by decide +kernel
theorem dX12_turn_43 : decode cX12_turn 43 = .ok (.invokevirtual 199, 3) := by decide +kernel
theorem dX12_turn_46 : decode cX12_turn 46 = .ok (.istore_n 3, 1) := by decide +kernel
theorem dX12_turn_47 : decode cX12_turn 47 = .ok (.iconst 0, 1) := by decide +kernel
theorem dX12_turn_48 : decode cX12_turn 48 = .ok (.istore 4, 2) := by decide +kernel
theorem dX12_turn_50 : decode cX12_turn 50 = .ok (.iload 4, 2) := by decide +kernel
theorem dX12_turn_52 : decode cX12_turn 52 = .ok (.iconst 4, 1) := by decide +kernel
theorem dX12_turn_53 : decode cX12_turn 53 = .ok (.if_icmp .ge 31, 3) := by decide +kernel
theorem dX12_turn_56 : decode cX12_turn 56 = .ok (.aload_n 0, 1) := by decide +kernel
theorem dX12_turn_57 : decode cX12_turn 57 = .ok (.getfield 46, 3) := by decide +kernel
theorem dX12_turn_60 : decode cX12_turn 60 = .ok (.iconst 4, 1) := by decide +kernel
theorem dX12_turn_61 : decode cX12_turn 61 = .ok (.iload_n 3, 1) := by decide +kernel
theorem dX12_turn_62 : decode cX12_turn 62 = .ok (.imul, 1) := by decide +kernel
theorem dX12_turn_63 : decode cX12_turn 63 = .ok (.iload 4, 2) := by decide +kernel
theorem dX12_turn_65 : decode cX12_turn 65 = .ok (.iadd, 1) := by decide +kernel
theorem dX12_turn_66 : decode cX12_turn 66 = .ok (.aload_n 0, 1) := by decide +kernel
theorem dX12_turn_67 : decode cX12_turn 67 = .ok (.getfield 46, 3) := by decide +kernel
theorem dX12_turn_70 : decode cX12_turn 70 = .ok (.iconst 4, 1) := by decide +kernel
theorem dX12_turn_71 : decode cX12_turn 71 = .ok (.iload_n 2, 1) := by decide +kernel
theorem dX12_turn_72 : decode cX12_turn 72 = .ok (.imul, 1) := by decide +kernel
theorem dX12_turn_73 : decode cX12_turn 73 = .ok (.iload 4, 2) := by decide +kernel
theorem dX12_turn_75 : decode cX12_turn 75 = .ok (.iadd, 1) := by decide +kernel
theorem dX12_turn_76 : decode cX12_turn 76 = .ok (.iaload, 1) := by decide +kernel
theorem dX12_turn_77 : decode cX12_turn 77 = .ok (.iastore, 1) := by decide +kernel
theorem dX12_turn_78 : decode cX12_turn 78 = .ok (.iinc 4 1, 3) := by decide +kernel
theorem dX12_turn_81 : decode cX12_turn 81 = .ok (.goto (-31), 3) := by decide +kernel
theorem dX12_turn_84 : decode cX12_turn 84 = .ok (.aload_n 0, 1) := by decide +kernel
theorem dX12_turn_85 : decode cX12_turn 85 = .ok (.iload_n 3, 1) := by decide +kernel
theorem dX12_turn_86 : decode cX12_turn 86 = .ok (.iload_n 2, 1) := by decide +kernel
theorem dX12_turn_87 : decode cX12_turn 87 = .ok (.invokevirtual 203, 3) := by decide +kernel
theorem dX12_turn_90 : decode cX12_turn 90 = .ok (.aload_n 0, 1) := by decide +kernel
theorem dX12_turn_91 : decode cX12_turn 91 = .ok (.getfield 64, 3) := by decide +kernel
theorem dX12_turn_94 : decode cX12_turn 94 = .ok (.iload_n 2, 1) := by decide +kernel
theorem dX12_turn_95 : decode cX12_turn 95 = .ok (.iload_n 3, 1) := by decide +kernel
theorem dX12_turn_96 : decode cX12_turn 96 = .ok (.iastore, 1) := by decide +kernel
theorem dX12_turn_97 : decode cX12_turn 97 = .ok (.return_, 1) := by decide +kernel
theorem i9wsX12_turn_0 : ∀ w ∈ wsX12_turn_r1, w ∈ wsX12_turn := fun _ h => (List.mem_cons_of_mem _ (List.mem_append_left _ (List.mem_append_left _ h)))
theorem i9wsX12_turn_2 : ∀ w ∈ wsX120, w ∈ wsX12_turn := fun _ h => (List.mem_cons_of_mem _ (List.mem_append_right _ h))
set_option maxRecDepth 20000 in
theorem ggX12_turn_X12_go : GoodIn wsX12_turn wsX12_go := (gin_c (mem_at i9wsX12_turn_0 7 rfl) rfl (goodIn_app (gin_c (mem_at i9wsX12_turn_0 8 rfl) rfl (gin_c (mem_at i9wsX12_turn_0 9 rfl) rfl (gin_c (mem_at i9wsX12_turn_0 10 rfl) rfl (gin_c (mem_at i9wsX12_turn_0 11 rfl) rfl (gin_c (mem_at i9wsX12_turn_0 12 rfl) rfl (gin_c (mem_at i9wsX12_turn_0 6 rfl) rfl (gin_c (mem_at i9wsX12_turn_0 13 rfl) rfl (gin_c (mem_at i9wsX12_turn_0 14 rfl) rfl (gin_c (mem_at i9wsX12_turn_0 15 rfl) rfl (gin_c (mem_at i9wsX12_turn_0 16 rfl) rfl gin_n)))))))))) (goodIn_sub i9wsX12_turn_2 g9_16)))
set_option maxRecDepth 20000 in
theorem gX12_turn_X12_go : GoodIn wsX12_turn (wsV RX12 214 RX12 yX12_go wsX12_go) := goodIn_app (gin_c (mem_at i9wsX12_turn_0 3 rfl) rfl (gin_c (mem_at i9wsX12_turn_0 4 rfl) rfl (gin_c (mem_at i9wsX12_turn_0 5 rfl) rfl (gin_c (mem_at i9wsX12_turn_0 6 rfl) rfl gin_n)))) ggX12_turn_X12_go
theorem i9wsX12_turn_1 : ∀ w ∈ wsX12_turn_r2, w ∈ wsX12_turn := fun _ h => (List.mem_cons_of_mem _ (List.mem_append_left _ (List.mem_append_right _ h)))
set_option maxRecDepth 20000 in
theorem ggX12_turn_X12_fresh : GoodIn wsX12_turn wsX12_fresh := (gin_c (mem_at i9wsX12_turn_0 20 rfl) rfl (goodIn_app (gin_c (mem_at i9wsX12_turn_0 21 rfl) rfl (gin_c (mem_at i9wsX12_turn_0 1 rfl) rfl (gin_c (mem_at i9wsX12_turn_0 22 rfl) rfl (gin_c (mem_at i9wsX12_turn_0 23 rfl) rfl (gin_c (mem_at i9wsX12_turn_1 0 rfl) rfl (gin_c (mem_at i9wsX12_turn_0 8 rfl) rfl (gin_c (mem_at i9wsX12_turn_1 1 rfl) rfl (gin_c (mem_at i9wsX12_turn_0 9 rfl) rfl (gin_c (mem_at i9wsX12_turn_0 0 rfl) rfl (gin_c (mem_at i9wsX12_turn_1 2 rfl) rfl (gin_c (mem_at i9wsX12_turn_1 3 rfl) rfl (gin_c (mem_at i9wsX12_turn_1 4 rfl) rfl (gin_c (mem_at i9wsX12_turn_0 6 rfl) rfl (gin_c (mem_at i9wsX12_turn_1 5 rfl) rfl (gin_c (mem_at i9wsX12_turn_0 10 rfl) rfl (gin_c (mem_at i9wsX12_turn_0 11 rfl) rfl (gin_c (mem_at i9wsX12_turn_0 12 rfl) rfl (gin_c (mem_at i9wsX12_turn_0 13 rfl) rfl (gin_c (mem_at i9wsX12_turn_0 14 rfl) rfl (gin_c (mem_at i9wsX12_turn_0 15 rfl) rfl (gin_c (mem_at i9wsX12_turn_0 16 rfl) rfl gin_n))))))))))))))))))))) (goodIn_sub i9wsX12_turn_2 g9_16)))
set_option maxRecDepth 20000 in
theorem gX12_turn_X12_fresh : GoodIn wsX12_turn (wsV RX12 199 RX12 yX12_fresh wsX12_fresh) := goodIn_app (gin_c (mem_at i9wsX12_turn_0 17 rfl) rfl (gin_c (mem_at i9wsX12_turn_0 18 rfl) rfl (gin_c (mem_at i9wsX12_turn_0 19 rfl) rfl (gin_c (mem_at i9wsX12_turn_0 6 rfl) rfl gin_n)))) ggX12_turn_X12_fresh
set_option maxRecDepth 20000 in
theorem ggX12_turn_X12_link : GoodIn wsX12_turn wsX12_link := (gin_c (mem_at i9wsX12_turn_1 9 rfl) rfl (goodIn_app (gin_c (mem_at i9wsX12_turn_0 1 rfl) rfl (gin_c (mem_at i9wsX12_turn_1 10 rfl) rfl (gin_c (mem_at i9wsX12_turn_1 11 rfl) rfl (gin_c (mem_at i9wsX12_turn_1 12 rfl) rfl (gin_c (mem_at i9wsX12_turn_1 13 rfl) rfl gin_n))))) (goodIn_sub i9wsX12_turn_2 g9_16)))
set_option maxRecDepth 20000 in
theorem gX12_turn_X12_link : GoodIn wsX12_turn (wsV RX12 203 RX12 yX12_link wsX12_link) := goodIn_app (gin_c (mem_at i9wsX12_turn_1 6 rfl) rfl (gin_c (mem_at i9wsX12_turn_1 7 rfl) rfl (gin_c (mem_at i9wsX12_turn_1 8 rfl) rfl (gin_c (mem_at i9wsX12_turn_0 6 rfl) rfl gin_n)))) ggX12_turn_X12_link
set_option maxHeartbeats 4000000 in
set_option maxRecDepth 100000 in
theorem T_X12_turn (l : Launch) (hl : l.stackTraces = false) (D : va_G) (cA : Nat → ClassId) {l0 : Option Nat} {l1 : Int32} {x : HS} {Q : HS → Prop} {X : String → HS → Prop} (h : w_X12_turn l0 l1 x Q X) : YV l yX12_turn wsX12_turn 2 43 D cA [.q l0, .i l1] x Q X := by
  refine YV.of (cc := cX12_turn) (maxL := 5) (ret := none) hl (by decide) rfl rfl (fun g B fr => ?_)
  have o := B.o
  have hb := B.hb
  have hts := B.hts
  have hown : g.s.vm.findClass RX12 = some g.m.cls := B.hown
  have in12 : ∀ w ∈ u_ws RX12 TX12 57, w ∈ wsX12_turn := fun w h => (List.mem_cons_of_mem _ (List.mem_append_right _ h))
  unfold w_X12_turn at h
  show KW g 5 0 [(0, .q l0), (1, .i l1)] [] x
  refine k_iload_n o hb dX12_turn_0 rfl 1 rfl ?_
  refine k_if_lt (tgt := 32) o hb dX12_turn_1 (by decide) h (fun h => ?_) (fun h => ?_)
  · skip
    refine k_iconst (v := (-1)) o hb dX12_turn_32 (by decide) ?_
    refine k_iload_n o hb dX12_turn_33 rfl 1 rfl ?_
    refine k_isub o hb dX12_turn_34 ?_
    refine k_istore_n o hb dX12_turn_35 rfl rfl ?_
    refine k_aload_n o hb dX12_turn_36 rfl 1 rfl ?_
    refine k_aload_n o hb dX12_turn_37 rfl 1 rfl ?_
    refine k_getF (C := RX12) (T := TX12) (N := 57) o hb hts in12 hown rfl (by decide) 12 (by decide) rfl (hts (.fieldLink RX12 43 "FactKeeperModel" "table" "[I") (by decide +kernel)) (fun _ h9 => h9) dX12_turn_38 h (fun v1 h => ?_)
    refine k_iload_n o hb dX12_turn_41 rfl 0 rfl ?_
    refine k_iald o hb dX12_turn_42 h (fun v2 h => ?_)
    refine k_run_i o (fun _ _ q => q) (k_runV (ci := 12) (rc := (RX12, TX12, 57)) o hb B.hml hown hts rfl (by decide) (T_X12_fresh g.l o.hl g.D g.cA h.2) (cwV 1 hts gX12_turn_X12_fresh rfl rfl rfl (by decide +kernel) ⟨yle B.hR1 rfl, yle B.hR2 rfl⟩) h.1 rfl rfl (Nat.le_of_ble_eq_true rfl) dX12_turn_43) (fun v4 x3 h => ?_)
    refine k_istore_n o hb dX12_turn_46 rfl rfl ?_
    refine k_iconst (v := 0) o hb dX12_turn_47 (by decide) ?_
    refine k_istore o hb dX12_turn_48 rfl ?_
    refine KW.sub [3, 2, 1, 0] rfl ?_
    refine wLoop_elim (M := fun (v8 : Int32) (x7 : HS) => KW g 5 50 [(0, .q l0), (2, .i (((-1) : Int32) - l1)), (3, .i v4), (4, .i v8)] [] x7) h ?_
    intro v8 x7 again5 ih6 h
    refine k_iload o hb dX12_turn_50 3 rfl ?_
    refine k_iconst (v := 4) o hb dX12_turn_52 (by decide) ?_
    refine k_icmp_ge (tgt := 84) o hb dX12_turn_53 (by decide) h (fun h => ?_) (fun h => ?_)
    · skip
      refine k_aload_n o hb dX12_turn_84 rfl 0 rfl ?_
      refine k_iload_n o hb dX12_turn_85 rfl 2 rfl ?_
      refine k_iload_n o hb dX12_turn_86 rfl 1 rfl ?_
      refine k_run_v o (fun _ _ q => q) (k_runV (ci := 12) (rc := (RX12, TX12, 57)) o hb B.hml hown hts rfl (by decide) (T_X12_link g.l o.hl g.D g.cA h.2) (cwV 2 hts gX12_turn_X12_link rfl rfl rfl (by decide +kernel) ⟨yle B.hR1 rfl, yle B.hR2 rfl⟩) h.1 rfl rfl (Nat.le_of_ble_eq_true rfl) dX12_turn_87) (fun x9 h => ?_)
      refine k_aload_n o hb dX12_turn_90 rfl 0 rfl ?_
      refine k_getF (C := RX12) (T := TX12) (N := 57) o hb hts in12 hown rfl (by decide) 19 (by decide) rfl (hts (.fieldLink RX12 64 "FactKeeperModel" "stand" "[I") (by decide +kernel)) (fun _ h9 => h9) dX12_turn_91 h (fun v11 h => ?_)
      refine k_iload_n o hb dX12_turn_94 rfl 1 rfl ?_
      refine k_iload_n o hb dX12_turn_95 rfl 2 rfl ?_
      refine k_iast o hb dX12_turn_96 h (fun x12 h => ?_)
      exact k_vret o hb B.hr fr dX12_turn_97 h
    · skip
      refine k_aload_n o hb dX12_turn_56 rfl 0 rfl ?_
      refine k_getF (C := RX12) (T := TX12) (N := 57) o hb hts in12 hown rfl (by decide) 13 (by decide) rfl (hts (.fieldLink RX12 46 "FactKeeperModel" "column" "[I") (by decide +kernel)) (fun _ h9 => h9) dX12_turn_57 h (fun v13 h => ?_)
      refine k_iconst (v := 4) o hb dX12_turn_60 (by decide) ?_
      refine k_iload_n o hb dX12_turn_61 rfl 2 rfl ?_
      refine k_imul o hb dX12_turn_62 ?_
      refine k_iload o hb dX12_turn_63 3 rfl ?_
      refine k_iadd o hb dX12_turn_65 ?_
      refine k_aload_n o hb dX12_turn_66 rfl 0 rfl ?_
      refine k_getF (C := RX12) (T := TX12) (N := 57) o hb hts in12 hown rfl (by decide) 13 (by decide) rfl (hts (.fieldLink RX12 46 "FactKeeperModel" "column" "[I") (by decide +kernel)) (fun _ h9 => h9) dX12_turn_67 h (fun v14 h => ?_)
      refine k_iconst (v := 4) o hb dX12_turn_70 (by decide) ?_
      refine k_iload_n o hb dX12_turn_71 rfl 1 rfl ?_
      refine k_imul o hb dX12_turn_72 ?_
      refine k_iload o hb dX12_turn_73 3 rfl ?_
      refine k_iadd o hb dX12_turn_75 ?_
      refine k_iald o hb dX12_turn_76 h (fun v15 h => ?_)
      refine k_iast o hb dX12_turn_77 h (fun x16 h => ?_)
      refine k_iinc (w := 1) o hb dX12_turn_78 3 rfl (by decide) rfl ?_
      refine k_goto (tgt := 50) o hb dX12_turn_81 (by decide) ?_
      exact KW.sub [1, 2, 3, 0] rfl (ih6 (v8 + 1) x16 h)
  · skip
    refine k_iload_n o hb dX12_turn_4 rfl 1 rfl ?_
    refine k_istore_n o hb dX12_turn_5 rfl rfl ?_
    refine KW.sub [1, 0] rfl ?_
    refine wLoop_elim (M := fun (v20 : Int32) (x19 : HS) => KW g 5 6 [(0, .q l0), (2, .i v20)] [] x19) h ?_
    intro v20 x19 again17 ih18 h
    refine k_aload_n o hb dX12_turn_6 rfl 0 rfl ?_
    refine k_getF (C := RX12) (T := TX12) (N := 57) o hb hts in12 hown rfl (by decide) 19 (by decide) rfl (hts (.fieldLink RX12 64 "FactKeeperModel" "stand" "[I") (by decide +kernel)) (fun _ h9 => h9) dX12_turn_7 h (fun v21 h => ?_)
    refine k_iload_n o hb dX12_turn_10 rfl 1 rfl ?_
    refine k_iald o hb dX12_turn_11 h (fun v22 h => ?_)
    refine k_iload_n o hb dX12_turn_12 rfl 1 rfl ?_
    refine k_icmp_eq (tgt := 26) o hb dX12_turn_13 (by decide) h (fun h => ?_) (fun h => ?_)
    · skip
      refine k_aload_n o hb dX12_turn_26 rfl 0 rfl ?_
      refine k_iload_n o hb dX12_turn_27 rfl 1 rfl ?_
      refine k_run_v o (fun _ _ q => q) (k_runV (ci := 12) (rc := (RX12, TX12, 57)) o hb B.hml hown hts rfl (by decide) (T_X12_go g.l o.hl g.D g.cA h.2) (cwV 1 hts gX12_turn_X12_go rfl rfl rfl (by decide +kernel) ⟨yle B.hR1 rfl, yle B.hR2 rfl⟩) h.1 rfl rfl (Nat.le_of_ble_eq_true rfl) dX12_turn_28) (fun x23 h => ?_)
      exact k_vret o hb B.hr fr dX12_turn_31 h
    · skip
      refine k_aload_n o hb dX12_turn_16 rfl 0 rfl ?_
      refine k_getF (C := RX12) (T := TX12) (N := 57) o hb hts in12 hown rfl (by decide) 19 (by decide) rfl (hts (.fieldLink RX12 64 "FactKeeperModel" "stand" "[I") (by decide +kernel)) (fun _ h9 => h9) dX12_turn_17 h (fun v25 h => ?_)
      refine k_iload_n o hb dX12_turn_20 rfl 1 rfl ?_
      refine k_iald o hb dX12_turn_21 h (fun v26 h => ?_)
      refine k_istore_n o hb dX12_turn_22 rfl rfl ?_
      refine k_goto (tgt := 6) o hb dX12_turn_23 (by decide) ?_
      exact KW.sub [1, 0] rfl (ih18 v26 x19 h)
theorem dX12_back_0 : decode cX12_back 0 = .ok (.aload_n 0, 1) := by decide +kernel
theorem dX12_back_1 : decode cX12_back 1 = .ok (.aload_n 0, 1) := by decide +kernel
theorem dX12_back_2 : decode cX12_back 2 = .ok (.getfield 193, 3) := by decide +kernel
theorem dX12_back_5 : decode cX12_back 5 = .ok (.ifCond .ne 7, 3) := by decide +kernel
theorem dX12_back_8 : decode cX12_back 8 = .ok (.iconst 1, 1) := by decide +kernel
theorem dX12_back_9 : decode cX12_back 9 = .ok (.goto 4, 3) := by decide +kernel
theorem dX12_back_12 : decode cX12_back 12 = .ok (.iconst 0, 1) := by decide +kernel
theorem dX12_back_13 : decode cX12_back 13 = .ok (.invokevirtual 136, 3) := by decide +kernel
theorem dX12_back_16 : decode cX12_back 16 = .ok (.ifCond .eq 5, 3) := by decide +kernel
theorem dX12_back_19 : decode cX12_back 19 = .ok (.iconst 0, 1) := by decide +kernel
theorem dX12_back_20 : decode cX12_back 20 = .ok (.ireturn, 1) := by decide +kernel
theorem dX12_back_21 : decode cX12_back 21 = .ok (.aload_n 0, 1) := by decide +kernel
theorem dX12_back_22 : decode cX12_back 22 = .ok (.getfield 70, 3) := by decide +kernel
theorem dX12_back_25 : decode cX12_back 25 = .ok (.aload_n 0, 1) := by decide +kernel
theorem dX12_back_26 : decode cX12_back 26 = .ok (.getfield 193, 3) := by decide +kernel
theorem dX12_back_29 : decode cX12_back 29 = .ok (.iconst 1, 1) := by decide +kernel
theorem dX12_back_30 : decode cX12_back 30 = .ok (.isub, 1) := by decide +kernel
theorem dX12_back_31 : decode cX12_back 31 = .ok (.iaload, 1) := by decide +kernel
theorem dX12_back_32 : decode cX12_back 32 = .ok (.istore_n 2, 1) := by decide +kernel
theorem dX12_back_33 : decode cX12_back 33 = .ok (.aload_n 0, 1) := by decide +kernel
theorem dX12_back_34 : decode cX12_back 34 = .ok (.getfield 196, 3) := by decide +kernel
theorem dX12_back_37 : decode cX12_back 37 = .ok (.istore_n 3, 1) := by decide +kernel
theorem dX12_back_38 : decode cX12_back 38 = .ok (.iconst 0, 1) := by decide +kernel
theorem dX12_back_39 : decode cX12_back 39 = .ok (.istore 4, 2) := by decide +kernel
theorem dX12_back_41 : decode cX12_back 41 = .ok (.iload_n 2, 1) := by decide +kernel
theorem dX12_back_42 : decode cX12_back 42 = .ok (.istore 5, 2) := by decide +kernel
theorem dX12_back_44 : decode cX12_back 44 = .ok (.iload 5, 2) := by decide +kernel
theorem dX12_back_46 : decode cX12_back 46 = .ok (.iload_n 3, 1) := by decide +kernel
theorem dX12_back_47 : decode cX12_back 47 = .ok (.if_icmp .ge 22, 3) := by decide +kernel
theorem dX12_back_50 : decode cX12_back 50 = .ok (.aload_n 0, 1) := by decide +kernel
theorem dX12_back_51 : decode cX12_back 51 = .ok (.getfield 67, 3) := by decide +kernel
theorem dX12_back_54 : decode cX12_back 54 = .ok (.iload 5, 2) := by decide +kernel
theorem dX12_back_56 : decode cX12_back 56 = .ok (.iaload, 1) := by decide +kernel
theorem dX12_back_57 : decode cX12_back 57 = .ok (.ifCond .ge 6, 3) := by decide +kernel
theorem dX12_back_60 : decode cX12_back 60 = .ok (.iinc 4 1, 3) := by decide +kernel
theorem dX12_back_63 : decode cX12_back 63 = .ok (.iinc 5 1, 3) := by decide +kernel
theorem dX12_back_66 : decode cX12_back 66 = .ok (.goto (-22), 3) := by decide +kernel
theorem dX12_back_69 : decode cX12_back 69 = .ok (.aload_n 0, 1) := by decide +kernel
theorem dX12_back_70 : decode cX12_back 70 = .ok (.iload_n 1, 1) := by decide +kernel
theorem dX12_back_71 : decode cX12_back 71 = .ok (.ifCond .eq 20, 3) := by decide +kernel
theorem dX12_back_74 : decode cX12_back 74 = .ok (.aload_n 0, 1) := by decide +kernel
theorem dX12_back_75 : decode cX12_back 75 = .ok (.getfield 187, 3) := by decide +kernel
theorem dX12_back_78 : decode cX12_back 78 = .ok (.iload 4, 2) := by decide +kernel
theorem dX12_back_80 : decode cX12_back 80 = .ok (.iadd, 1) := by decide +kernel
theorem dX12_back_81 : decode cX12_back 81 = .ok (.sipush 3000, 3) := by decide +kernel
theorem dX12_back_84 : decode cX12_back 84 = .ok (.if_icmp .le 7, 3) := by decide +kernel
theorem dX12_back_87 : decode cX12_back 87 = .ok (.iconst 1, 1) := by decide +kernel
theorem dX12_back_88 : decode cX12_back 88 = .ok (.goto 4, 3) := by decide +kernel
theorem dX12_back_91 : decode cX12_back 91 = .ok (.iconst 0, 1) := by decide +kernel
theorem dX12_back_92 : decode cX12_back 92 = .ok (.invokevirtual 136, 3) := by decide +kernel
theorem dX12_back_95 : decode cX12_back 95 = .ok (.ifCond .eq 5, 3) := by decide +kernel
theorem dX12_back_98 : decode cX12_back 98 = .ok (.iconst 0, 1) := by decide +kernel
theorem dX12_back_99 : decode cX12_back 99 = .ok (.ireturn, 1) := by decide +kernel
theorem dX12_back_100 : decode cX12_back 100 = .ok (.aload_n 0, 1) := by decide +kernel
theorem dX12_back_101 : decode cX12_back 101 = .ok (.dup, 1) := by decide +kernel
theorem dX12_back_102 : decode cX12_back 102 = .ok (.getfield 193, 3) := by decide +kernel
theorem dX12_back_105 : decode cX12_back 105 = .ok (.iconst 1, 1) := by decide +kernel
theorem dX12_back_106 : decode cX12_back 106 = .ok (.isub, 1) := by decide +kernel
theorem dX12_back_107 : decode cX12_back 107 = .ok (.putfield 193, 3) := by decide +kernel
theorem dX12_back_110 : decode cX12_back 110 = .ok (.iload_n 1, 1) := by decide +kernel
theorem dX12_back_111 : decode cX12_back 111 = .ok (.ifCond .ne 5, 3) := by decide +kernel
theorem dX12_back_114 : decode cX12_back 114 = .ok (.iconst 0, 1) := by decide +kernel
theorem dX12_back_115 : decode cX12_back 115 = .ok (.ireturn, 1) := by decide +kernel
theorem dX12_back_116 : decode cX12_back 116 = .ok (.iload_n 3, 1) := by decide +kernel
theorem dX12_back_117 : decode cX12_back 117 = .ok (.iconst 1, 1) := by decide +kernel
theorem dX12_back_118 : decode cX12_back 118 = .ok (.isub, 1) := by decide +kernel
theorem dX12_back_119 : decode cX12_back 119 = .ok (.istore 5, 2) := by decide +kernel
theorem dX12_back_121 : decode cX12_back 121 = .ok (.iload 5, 2) := by decide +kernel
theorem dX12_back_123 : decode cX12_back 123 = .ok (.iload_n 2, 1) := by decide +kernel
theorem dX12_back_124 : decode cX12_back 124 = .ok (.if_icmp .lt 20, 3) := by decide +kernel
theorem dX12_back_127 : decode cX12_back 127 = .ok (.aload_n 0, 1) := by decide +kernel
theorem dX12_back_128 : decode cX12_back 128 = .ok (.aload_n 0, 1) := by decide +kernel
theorem dX12_back_129 : decode cX12_back 129 = .ok (.getfield 67, 3) := by decide +kernel
theorem dX12_back_132 : decode cX12_back 132 = .ok (.iload 5, 2) := by decide +kernel
theorem dX12_back_134 : decode cX12_back 134 = .ok (.iaload, 1) := by decide +kernel
theorem dX12_back_135 : decode cX12_back 135 = .ok (.invokevirtual 232, 3) := by decide +kernel
theorem dX12_back_138 : decode cX12_back 138 = .ok (.iinc 5 (-1), 3) := by decide +kernel
theorem dX12_back_141 : decode cX12_back 141 = .ok (.goto (-20), 3) := by decide +kernel
theorem dX12_back_144 : decode cX12_back 144 = .ok (.iload_n 3, 1) := by decide +kernel
theorem dX12_back_145 : decode cX12_back 145 = .ok (.iload_n 2, 1) := by decide +kernel
theorem dX12_back_146 : decode cX12_back 146 = .ok (.isub, 1) := by decide +kernel
theorem dX12_back_147 : decode cX12_back 147 = .ok (.ireturn, 1) := by decide +kernel
theorem i9wsX12_back_0 : ∀ w ∈ wsX12_back_r1, w ∈ wsX12_back := fun _ h => (List.mem_cons_of_mem _ (List.mem_append_left _ (List.mem_append_left _ h)))
theorem i9wsX12_back_2 : ∀ w ∈ wsX120, w ∈ wsX12_back := fun _ h => (List.mem_cons_of_mem _ (List.mem_append_right _ h))
set_option maxRecDepth 20000 in
theorem ggX12_back_X12_fails : GoodIn wsX12_back wsX12_fails := (gin_c (mem_at i9wsX12_back_0 9 rfl) rfl (goodIn_app (gin_c (mem_at i9wsX12_back_0 10 rfl) rfl gin_n) (goodIn_sub i9wsX12_back_2 g9_16)))
set_option maxRecDepth 20000 in
theorem gX12_back_X12_fails : GoodIn wsX12_back (wsV RX12 136 RX12 yX12_fails wsX12_fails) := goodIn_app (gin_c (mem_at i9wsX12_back_0 5 rfl) rfl (gin_c (mem_at i9wsX12_back_0 6 rfl) rfl (gin_c (mem_at i9wsX12_back_0 7 rfl) rfl (gin_c (mem_at i9wsX12_back_0 8 rfl) rfl gin_n)))) ggX12_back_X12_fails
theorem i9wsX12_back_1 : ∀ w ∈ wsX12_back_r2, w ∈ wsX12_back := fun _ h => (List.mem_cons_of_mem _ (List.mem_append_left _ (List.mem_append_right _ h)))
set_option maxRecDepth 20000 in
theorem ggX12_back_X12_turn : GoodIn wsX12_back wsX12_turn := (gin_c (mem_at i9wsX12_back_0 14 rfl) rfl (goodIn_app (goodIn_app (gin_c (mem_at i9wsX12_back_0 15 rfl) rfl (gin_c (mem_at i9wsX12_back_0 16 rfl) rfl (gin_c (mem_at i9wsX12_back_0 17 rfl) rfl (gin_c (mem_at i9wsX12_back_0 18 rfl) rfl (gin_c (mem_at i9wsX12_back_0 19 rfl) rfl (gin_c (mem_at i9wsX12_back_0 20 rfl) rfl (gin_c (mem_at i9wsX12_back_0 8 rfl) rfl (gin_c (mem_at i9wsX12_back_0 21 rfl) rfl (gin_c (mem_at i9wsX12_back_0 22 rfl) rfl (gin_c (mem_at i9wsX12_back_0 23 rfl) rfl (gin_c (mem_at i9wsX12_back_1 0 rfl) rfl (gin_c (mem_at i9wsX12_back_1 1 rfl) rfl (gin_c (mem_at i9wsX12_back_1 2 rfl) rfl (gin_c (mem_at i9wsX12_back_1 3 rfl) rfl (gin_c (mem_at i9wsX12_back_0 0 rfl) rfl (gin_c (mem_at i9wsX12_back_0 3 rfl) rfl (gin_c (mem_at i9wsX12_back_0 2 rfl) rfl (gin_c (mem_at i9wsX12_back_1 4 rfl) rfl (gin_c (mem_at i9wsX12_back_1 5 rfl) rfl (gin_c (mem_at i9wsX12_back_1 6 rfl) rfl (gin_c (mem_at i9wsX12_back_1 7 rfl) rfl (gin_c (mem_at i9wsX12_back_1 8 rfl) rfl (gin_c (mem_at i9wsX12_back_1 9 rfl) rfl (gin_c (mem_at i9wsX12_back_1 10 rfl) rfl gin_n)))))))))))))))))))))))) (gin_c (mem_at i9wsX12_back_0 4 rfl) rfl (gin_c (mem_at i9wsX12_back_1 11 rfl) rfl (gin_c (mem_at i9wsX12_back_1 12 rfl) rfl (gin_c (mem_at i9wsX12_back_1 13 rfl) rfl (gin_c (mem_at i9wsX12_back_1 14 rfl) rfl (gin_c (mem_at i9wsX12_back_1 15 rfl) rfl (gin_c (mem_at i9wsX12_back_1 16 rfl) rfl (gin_c (mem_at i9wsX12_back_1 17 rfl) rfl (gin_c (mem_at i9wsX12_back_1 18 rfl) rfl (gin_c (mem_at i9wsX12_back_1 19 rfl) rfl (gin_c (mem_at i9wsX12_back_1 20 rfl) rfl (gin_c (mem_at i9wsX12_back_1 21 rfl) rfl (gin_c (mem_at i9wsX12_back_1 22 rfl) rfl (gin_c (mem_at i9wsX12_back_1 23 rfl) rfl gin_n))))))))))))))) (goodIn_sub i9wsX12_back_2 g9_16)))
set_option maxRecDepth 20000 in
theorem gX12_back_X12_turn : GoodIn wsX12_back (wsV RX12 232 RX12 yX12_turn wsX12_turn) := goodIn_app (gin_c (mem_at i9wsX12_back_0 11 rfl) rfl (gin_c (mem_at i9wsX12_back_0 12 rfl) rfl (gin_c (mem_at i9wsX12_back_0 13 rfl) rfl (gin_c (mem_at i9wsX12_back_0 8 rfl) rfl gin_n)))) ggX12_back_X12_turn
set_option maxHeartbeats 4000000 in
set_option maxRecDepth 100000 in
theorem T_X12_back (l : Launch) (hl : l.stackTraces = false) (D : va_G) (cA : Nat → ClassId) {l0 : Option Nat} {l1 : Int32} {x : HS} {Q : Int32 → HS → Prop} {X : String → HS → Prop} (h : w_X12_back l0 l1 x Q X) : YI l yX12_back wsX12_back 3 67 D cA [.q l0, .i l1] x Q X := by
  refine YI.of (cc := cX12_back) (maxL := 6) (ret := (some .int)) hl (by decide) rfl rfl (fun g B fr => ?_)
  have o := B.o
  have hb := B.hb
  have hts := B.hts
  have hown : g.s.vm.findClass RX12 = some g.m.cls := B.hown
  have in12 : ∀ w ∈ u_ws RX12 TX12 57, w ∈ wsX12_back := fun w h => (List.mem_cons_of_mem _ (List.mem_append_right _ h))
  unfold w_X12_back at h
  show KW g 6 0 [(0, .q l0), (1, .i l1)] [] x
  refine k_aload_n o hb dX12_back_0 rfl 0 rfl ?_
  refine k_aload_n o hb dX12_back_1 rfl 0 rfl ?_
  refine k_getI (C := RX12) (T := TX12) (N := 57) o hb hts in12 hown rfl (by decide) 27 (by decide) rfl (hts (.fieldLink RX12 193 "FactKeeperModel" "marks" "I") (by decide +kernel)) (fun _ h9 => h9) dX12_back_2 h (fun v1 h => ?_)
  refine wJoin_elim (M := fun K => ∀ (v4 : Int32) (x3 : HS), K v4 x3 → KW g 6 13 [(0, .q l0), (1, .i l1)] [.i v4, .q l0] x3) h ?_ (fun j2 hj2 h => ?_)
  · skip
    intro v4 x3 h
    refine k_run_i o (fun _ _ q => q) (k_runV (ci := 12) (rc := (RX12, TX12, 57)) o hb B.hml hown hts rfl (by decide) (T_X12_fails g.l o.hl g.D g.cA h.2) (cwV 1 hts gX12_back_X12_fails rfl rfl rfl (by decide +kernel) ⟨yle B.hR1 rfl, yle B.hR2 rfl⟩) h.1 rfl rfl (Nat.le_of_ble_eq_true rfl) dX12_back_13) (fun v6 x5 h => ?_)
    refine k_if_eq (tgt := 21) o hb dX12_back_16 (by decide) h (fun h => ?_) (fun h => ?_)
    · skip
      refine k_aload_n o hb dX12_back_21 rfl 0 rfl ?_
      refine k_getF (C := RX12) (T := TX12) (N := 57) o hb hts in12 hown rfl (by decide) 26 (by decide) rfl (hts (.fieldLink RX12 70 "FactKeeperModel" "mark" "[I") (by decide +kernel)) (fun _ h9 => h9) dX12_back_22 h (fun v7 h => ?_)
      refine k_aload_n o hb dX12_back_25 rfl 0 rfl ?_
      refine k_getI (C := RX12) (T := TX12) (N := 57) o hb hts in12 hown rfl (by decide) 27 (by decide) rfl (hts (.fieldLink RX12 193 "FactKeeperModel" "marks" "I") (by decide +kernel)) (fun _ h9 => h9) dX12_back_26 h (fun v8 h => ?_)
      refine k_iconst (v := 1) o hb dX12_back_29 (by decide) ?_
      refine k_isub o hb dX12_back_30 ?_
      refine k_iald o hb dX12_back_31 h (fun v9 h => ?_)
      refine k_istore_n o hb dX12_back_32 rfl rfl ?_
      refine k_aload_n o hb dX12_back_33 rfl 1 rfl ?_
      refine k_getI (C := RX12) (T := TX12) (N := 57) o hb hts in12 hown rfl (by decide) 25 (by decide) rfl (hts (.fieldLink RX12 196 "FactKeeperModel" "changes" "I") (by decide +kernel)) (fun _ h9 => h9) dX12_back_34 h (fun v10 h => ?_)
      refine k_istore_n o hb dX12_back_37 rfl rfl ?_
      refine k_iconst (v := 0) o hb dX12_back_38 (by decide) ?_
      refine k_istore o hb dX12_back_39 rfl ?_
      refine k_iload_n o hb dX12_back_41 rfl 2 rfl ?_
      refine k_istore o hb dX12_back_42 rfl ?_
      refine KW.sub [4, 5, 3, 2, 1, 0] rfl ?_
      refine wLoop_elim (M := fun (v14 : Int32 × Int32) (x13 : HS) => KW g 6 44 [(0, .q l0), (1, .i l1), (2, .i v9), (3, .i v10), (4, .i v14.1), (5, .i v14.2)] [] x13) h ?_
      intro v14 x13 again11 ih12 h
      refine k_iload o hb dX12_back_44 5 rfl ?_
      refine k_iload_n o hb dX12_back_46 rfl 3 rfl ?_
      refine k_icmp_ge (tgt := 69) o hb dX12_back_47 (by decide) h (fun h => ?_) (fun h => ?_)
      · skip
        refine k_aload_n o hb dX12_back_69 rfl 0 rfl ?_
        refine k_iload_n o hb dX12_back_70 rfl 1 rfl ?_
        refine wJoin_elim (M := fun K => ∀ (v17 : Int32) (x16 : HS), K v17 x16 → KW g 6 92 [(0, .q l0), (1, .i l1), (2, .i v9), (3, .i v10)] [.i v17, .q l0] x16) h ?_ (fun j15 hj15 h => ?_)
        · skip
          intro v17 x16 h
          refine k_run_i o (fun _ _ q => q) (k_runV (ci := 12) (rc := (RX12, TX12, 57)) o hb B.hml hown hts rfl (by decide) (T_X12_fails g.l o.hl g.D g.cA h.2) (cwV 1 hts gX12_back_X12_fails rfl rfl rfl (by decide +kernel) ⟨yle B.hR1 rfl, yle B.hR2 rfl⟩) h.1 rfl rfl (Nat.le_of_ble_eq_true rfl) dX12_back_92) (fun v19 x18 h => ?_)
          refine k_if_eq (tgt := 100) o hb dX12_back_95 (by decide) h (fun h => ?_) (fun h => ?_)
          · skip
            refine k_aload_n o hb dX12_back_100 rfl 0 rfl ?_
            refine k_dup o hb dX12_back_101 ?_
            refine k_getI (C := RX12) (T := TX12) (N := 57) o hb hts in12 hown rfl (by decide) 27 (by decide) rfl (hts (.fieldLink RX12 193 "FactKeeperModel" "marks" "I") (by decide +kernel)) (fun _ h9 => h9) dX12_back_102 h (fun v20 h => ?_)
            refine k_iconst (v := 1) o hb dX12_back_105 (by decide) ?_
            refine k_isub o hb dX12_back_106 ?_
            refine k_putI (C := RX12) (T := TX12) (N := 57) (ty := .int) o hb hts in12 tyX12 tyX12_ok nmX12 hown rfl (by decide) 27 (by decide) rfl (hts (.fieldLink RX12 193 "FactKeeperModel" "marks" "I") (by decide +kernel)) (fun _ h9 => h9) rfl (by decide +kernel) (fun _ => rfl) (fun _ => rfl) dX12_back_107 h (fun x21 h => ?_)
            refine k_iload_n o hb dX12_back_110 rfl 1 rfl ?_
            refine k_if_ne (tgt := 116) o hb dX12_back_111 (by decide) h (fun h => ?_) (fun h => ?_)
            · skip
              refine k_iconst (v := 0) o hb dX12_back_114 (by decide) ?_
              exact k_iret o hb B.hr fr dX12_back_115 h
            · skip
              refine k_iload_n o hb dX12_back_116 rfl 3 rfl ?_
              refine k_iconst (v := 1) o hb dX12_back_117 (by decide) ?_
              refine k_isub o hb dX12_back_118 ?_
              refine k_istore o hb dX12_back_119 rfl ?_
              refine KW.sub [1, 3, 4, 0] rfl ?_
              refine wLoop_elim (M := fun (v25 : Int32) (x24 : HS) => KW g 6 121 [(0, .q l0), (2, .i v9), (3, .i v10), (5, .i v25)] [] x24) h ?_
              intro v25 x24 again22 ih23 h
              refine k_iload o hb dX12_back_121 3 rfl ?_
              refine k_iload_n o hb dX12_back_123 rfl 1 rfl ?_
              refine k_icmp_lt (tgt := 144) o hb dX12_back_124 (by decide) h (fun h => ?_) (fun h => ?_)
              · skip
                refine k_iload_n o hb dX12_back_144 rfl 2 rfl ?_
                refine k_iload_n o hb dX12_back_145 rfl 1 rfl ?_
                refine k_isub o hb dX12_back_146 ?_
                exact k_iret o hb B.hr fr dX12_back_147 h
              · skip
                refine k_aload_n o hb dX12_back_127 rfl 0 rfl ?_
                refine k_aload_n o hb dX12_back_128 rfl 0 rfl ?_
                refine k_getF (C := RX12) (T := TX12) (N := 57) o hb hts in12 hown rfl (by decide) 24 (by decide) rfl (hts (.fieldLink RX12 67 "FactKeeperModel" "change" "[I") (by decide +kernel)) (fun _ h9 => h9) dX12_back_129 h (fun v26 h => ?_)
                refine k_iload o hb dX12_back_132 3 rfl ?_
                refine k_iald o hb dX12_back_134 h (fun v27 h => ?_)
                refine k_run_v o (fun _ _ q => q) (k_runV (ci := 12) (rc := (RX12, TX12, 57)) o hb B.hml hown hts rfl (by decide) (T_X12_turn g.l o.hl g.D g.cA h.2) (cwV 1 hts gX12_back_X12_turn rfl rfl rfl (by decide +kernel) ⟨yle B.hR1 rfl, yle B.hR2 rfl⟩) h.1 rfl rfl (Nat.le_of_ble_eq_true rfl) dX12_back_135) (fun x28 h => ?_)
                refine k_iinc (w := (-1)) o hb dX12_back_138 3 rfl (by decide) rfl ?_
                refine k_goto (tgt := 121) o hb dX12_back_141 (by decide) ?_
                exact KW.sub [1, 2, 3, 0] rfl (ih23 (v25 + (-1)) x28 h)
          · skip
            refine k_iconst (v := 0) o hb dX12_back_98 (by decide) ?_
            exact k_iret o hb B.hr fr dX12_back_99 h
        · skip
          refine wJoin_elim (M := fun K => ∀  (x31 : HS), K  x31 → KW g 6 91 [(0, .q l0), (1, .i l1), (2, .i v9), (3, .i v10)] [.q l0] x31) h ?_ (fun j30 hj30 h => ?_)
          · skip
            intro  x31 h
            refine k_iconst (v := 0) o hb dX12_back_91 (by decide) ?_
            exact KW.sub [0, 1, 2, 3] rfl (hj15 0 x31 h)
          · skip
            refine k_if_eq (tgt := 91) o hb dX12_back_71 (by decide) h (fun h => ?_) (fun h => ?_)
            · skip
              exact KW.sub [0, 1, 2, 3] rfl (hj30 x13 h)
            · skip
              refine k_aload_n o hb dX12_back_74 rfl 0 rfl ?_
              refine k_getI (C := RX12) (T := TX12) (N := 57) o hb hts in12 hown rfl (by decide) 20 (by decide) rfl (hts (.fieldLink RX12 187 "FactKeeperModel" "kept" "I") (by decide +kernel)) (fun _ h9 => h9) dX12_back_75 h (fun v32 h => ?_)
              refine k_iload o hb dX12_back_78 4 rfl ?_
              refine k_iadd o hb dX12_back_80 ?_
              refine k_sipush (v := 3000) o hb dX12_back_81 (by decide) ?_
              refine k_icmp_le (tgt := 91) o hb dX12_back_84 (by decide) h (fun h => ?_) (fun h => ?_)
              · skip
                exact KW.sub [0, 1, 2, 3] rfl (hj30 x13 h)
              · skip
                refine k_iconst (v := 1) o hb dX12_back_87 (by decide) ?_
                refine k_goto (tgt := 92) o hb dX12_back_88 (by decide) ?_
                exact KW.sub [0, 1, 2, 3] rfl (hj15 1 x13 h)
      · skip
        refine k_aload_n o hb dX12_back_50 rfl 0 rfl ?_
        refine k_getF (C := RX12) (T := TX12) (N := 57) o hb hts in12 hown rfl (by decide) 24 (by decide) rfl (hts (.fieldLink RX12 67 "FactKeeperModel" "change" "[I") (by decide +kernel)) (fun _ h9 => h9) dX12_back_51 h (fun v33 h => ?_)
        refine k_iload o hb dX12_back_54 5 rfl ?_
        refine k_iald o hb dX12_back_56 h (fun v34 h => ?_)
        refine wJoin_elim (M := fun K => ∀ (v37 : Int32) (x36 : HS), K v37 x36 → KW g 6 63 [(0, .q l0), (1, .i l1), (2, .i v9), (3, .i v10), (4, .i v37), (5, .i v14.2)] [] x36) h ?_ (fun j35 hj35 h => ?_)
        · skip
          intro v37 x36 h
          refine k_iinc (w := 1) o hb dX12_back_63 5 rfl (by decide) rfl ?_
          refine k_goto (tgt := 44) o hb dX12_back_66 (by decide) ?_
          exact KW.sub [1, 2, 3, 4, 5, 0] rfl (ih12 (v37, (v14.2 + 1)) x36 h)
        · skip
          refine k_if_ge (tgt := 63) o hb dX12_back_57 (by decide) h (fun h => ?_) (fun h => ?_)
          · skip
            exact KW.sub [0, 1, 2, 3, 4, 5] rfl (hj35 v14.1 x13 h)
          · skip
            refine k_iinc (w := 1) o hb dX12_back_60 4 rfl (by decide) rfl ?_
            exact KW.sub [1, 2, 3, 4, 0, 5] rfl (hj35 (v14.1 + 1) x13 h)
    · skip
      refine k_iconst (v := 0) o hb dX12_back_19 (by decide) ?_
      exact k_iret o hb B.hr fr dX12_back_20 h
  · skip
    refine k_if_ne (tgt := 12) o hb dX12_back_5 (by decide) h (fun h => ?_) (fun h => ?_)
    · skip
      refine k_iconst (v := 1) o hb dX12_back_8 (by decide) ?_
      refine k_goto (tgt := 13) o hb dX12_back_9 (by decide) ?_
      exact KW.sub [0, 1] rfl (hj2 1 x h)
    · skip
      refine k_iconst (v := 0) o hb dX12_back_12 (by decide) ?_
      exact KW.sub [0, 1] rfl (hj2 0 x h)
theorem dX12_purge_0 : decode cX12_purge 0 = .ok (.aload_n 0, 1) := by decide +kernel
theorem dX12_purge_1 : decode cX12_purge 1 = .ok (.getfield 193, 3) := by decide +kernel
theorem dX12_purge_4 : decode cX12_purge 4 = .ok (.ifCond .le 7, 3) := by decide +kernel
theorem dX12_purge_7 : decode cX12_purge 7 = .ok (.iconst 1, 1) := by decide +kernel
theorem dX12_purge_8 : decode cX12_purge 8 = .ok (.goto 4, 3) := by decide +kernel
theorem dX12_purge_11 : decode cX12_purge 11 = .ok (.iconst 0, 1) := by decide +kernel
theorem dX12_purge_12 : decode cX12_purge 12 = .ok (.istore_n 2, 1) := by decide +kernel
theorem dX12_purge_13 : decode cX12_purge 13 = .ok (.iconst 0, 1) := by decide +kernel
theorem dX12_purge_14 : decode cX12_purge 14 = .ok (.istore_n 3, 1) := by decide +kernel
theorem dX12_purge_15 : decode cX12_purge 15 = .ok (.iload_n 3, 1) := by decide +kernel
theorem dX12_purge_16 : decode cX12_purge 16 = .ok (.bipush 10, 2) := by decide +kernel
theorem dX12_purge_18 : decode cX12_purge 18 = .ok (.if_icmp .ge 20, 3) := by decide +kernel
theorem dX12_purge_21 : decode cX12_purge 21 = .ok (.aload_n 0, 1) := by decide +kernel
theorem dX12_purge_22 : decode cX12_purge 22 = .ok (.getfield 73, 3) := by decide +kernel
theorem dX12_purge_25 : decode cX12_purge 25 = .ok (.iload_n 3, 1) := by decide +kernel
theorem dX12_purge_26 : decode cX12_purge 26 = .ok (.baload, 1) := by decide +kernel
theorem dX12_purge_27 : decode cX12_purge 27 = .ok (.ifCond .eq 5, 3) := by decide +kernel
theorem dX12_purge_30 : decode cX12_purge 30 = .ok (.iconst 1, 1) := by decide +kernel
theorem dX12_purge_31 : decode cX12_purge 31 = .ok (.istore_n 2, 1) := by decide +kernel
theorem dX12_purge_32 : decode cX12_purge 32 = .ok (.iinc 3 1, 3) := by decide +kernel
theorem dX12_purge_35 : decode cX12_purge 35 = .ok (.goto (-20), 3) := by decide +kernel
theorem dX12_purge_38 : decode cX12_purge 38 = .ok (.aload_n 0, 1) := by decide +kernel
theorem dX12_purge_39 : decode cX12_purge 39 = .ok (.aload_n 0, 1) := by decide +kernel
theorem dX12_purge_40 : decode cX12_purge 40 = .ok (.iload_n 1, 1) := by decide +kernel
theorem dX12_purge_41 : decode cX12_purge 41 = .ok (.invokevirtual 217, 3) := by decide +kernel
theorem dX12_purge_44 : decode cX12_purge 44 = .ok (.ifCond .ne 7, 3) := by decide +kernel
theorem dX12_purge_47 : decode cX12_purge 47 = .ok (.iconst 1, 1) := by decide +kernel
theorem dX12_purge_48 : decode cX12_purge 48 = .ok (.goto 12, 3) := by decide +kernel
theorem dX12_purge_51 : decode cX12_purge 51 = .ok (.iload_n 2, 1) := by decide +kernel
theorem dX12_purge_52 : decode cX12_purge 52 = .ok (.ifCond .eq 7, 3) := by decide +kernel
theorem dX12_purge_55 : decode cX12_purge 55 = .ok (.iconst 2, 1) := by decide +kernel
theorem dX12_purge_56 : decode cX12_purge 56 = .ok (.goto 4, 3) := by decide +kernel
theorem dX12_purge_59 : decode cX12_purge 59 = .ok (.iconst 0, 1) := by decide +kernel
theorem dX12_purge_60 : decode cX12_purge 60 = .ok (.invokevirtual 136, 3) := by decide +kernel
theorem dX12_purge_63 : decode cX12_purge 63 = .ok (.ifCond .eq 5, 3) := by decide +kernel
theorem dX12_purge_66 : decode cX12_purge 66 = .ok (.iconst 0, 1) := by decide +kernel
theorem dX12_purge_67 : decode cX12_purge 67 = .ok (.ireturn, 1) := by decide +kernel
theorem dX12_purge_68 : decode cX12_purge 68 = .ok (.aload_n 0, 1) := by decide +kernel
theorem dX12_purge_69 : decode cX12_purge 69 = .ok (.iload_n 1, 1) := by decide +kernel
theorem dX12_purge_70 : decode cX12_purge 70 = .ok (.invokevirtual 220, 3) := by decide +kernel
theorem dX12_purge_73 : decode cX12_purge 73 = .ok (.istore_n 3, 1) := by decide +kernel
theorem dX12_purge_74 : decode cX12_purge 74 = .ok (.iload_n 3, 1) := by decide +kernel
theorem dX12_purge_75 : decode cX12_purge 75 = .ok (.aload_n 0, 1) := by decide +kernel
theorem dX12_purge_76 : decode cX12_purge 76 = .ok (.getfield 147, 3) := by decide +kernel
theorem dX12_purge_79 : decode cX12_purge 79 = .ok (.if_icmp .le 8, 3) := by decide +kernel
theorem dX12_purge_82 : decode cX12_purge 82 = .ok (.aload_n 0, 1) := by decide +kernel
theorem dX12_purge_83 : decode cX12_purge 83 = .ok (.iload_n 3, 1) := by decide +kernel
theorem dX12_purge_84 : decode cX12_purge 84 = .ok (.putfield 147, 3) := by decide +kernel
theorem dX12_purge_87 : decode cX12_purge 87 = .ok (.iconst 0, 1) := by decide +kernel
theorem dX12_purge_88 : decode cX12_purge 88 = .ok (.istore 4, 2) := by decide +kernel
theorem dX12_purge_90 : decode cX12_purge 90 = .ok (.iconst 0, 1) := by decide +kernel
theorem dX12_purge_91 : decode cX12_purge 91 = .ok (.istore 5, 2) := by decide +kernel
theorem dX12_purge_93 : decode cX12_purge 93 = .ok (.iload 5, 2) := by decide +kernel
theorem dX12_purge_95 : decode cX12_purge 95 = .ok (.sipush 3000, 3) := by decide +kernel
theorem dX12_purge_98 : decode cX12_purge 98 = .ok (.if_icmp .ge 166, 3) := by decide +kernel
theorem dX12_purge_101 : decode cX12_purge 101 = .ok (.aload_n 0, 1) := by decide +kernel
theorem dX12_purge_102 : decode cX12_purge 102 = .ok (.getfield 39, 3) := by decide +kernel
theorem dX12_purge_105 : decode cX12_purge 105 = .ok (.iload 5, 2) := by decide +kernel
theorem dX12_purge_107 : decode cX12_purge 107 = .ok (.baload, 1) := by decide +kernel
theorem dX12_purge_108 : decode cX12_purge 108 = .ok (.ifCond .eq 150, 3) := by decide +kernel
theorem dX12_purge_111 : decode cX12_purge 111 = .ok (.aload_n 0, 1) := by decide +kernel
theorem dX12_purge_112 : decode cX12_purge 112 = .ok (.getfield 55, 3) := by decide +kernel
theorem dX12_purge_115 : decode cX12_purge 115 = .ok (.iload 5, 2) := by decide +kernel
theorem dX12_purge_117 : decode cX12_purge 117 = .ok (.iaload, 1) := by decide +kernel
theorem dX12_purge_118 : decode cX12_purge 118 = .ok (.ifCond .lt 140, 3) := by decide +kernel
theorem dX12_purge_121 : decode cX12_purge 121 = .ok (.aload_n 0, 1) := by decide +kernel
theorem dX12_purge_122 : decode cX12_purge 122 = .ok (.getfield 55, 3) := by decide +kernel
theorem dX12_purge_125 : decode cX12_purge 125 = .ok (.iload 5, 2) := by decide +kernel
theorem dX12_purge_127 : decode cX12_purge 127 = .ok (.iaload, 1) := by decide +kernel
theorem dX12_purge_128 : decode cX12_purge 128 = .ok (.iload_n 3, 1) := by decide +kernel
theorem dX12_purge_129 : decode cX12_purge 129 = .ok (.if_icmp .le 6, 3) := by decide +kernel
theorem dX12_purge_132 : decode cX12_purge 132 = .ok (.goto 126, 3) := by decide +kernel
theorem dX12_purge_135 : decode cX12_purge 135 = .ok (.aload_n 0, 1) := by decide +kernel
theorem dX12_purge_136 : decode cX12_purge 136 = .ok (.getfield 58, 3) := by decide +kernel
theorem dX12_purge_139 : decode cX12_purge 139 = .ok (.iload 5, 2) := by decide +kernel
theorem dX12_purge_141 : decode cX12_purge 141 = .ok (.iaload, 1) := by decide +kernel
theorem dX12_purge_142 : decode cX12_purge 142 = .ok (.ifCond .ge 25, 3) := by decide +kernel
theorem dX12_purge_145 : decode cX12_purge 145 = .ok (.aload_n 0, 1) := by decide +kernel
theorem dX12_purge_146 : decode cX12_purge 146 = .ok (.getfield 30, 3) := by decide +kernel
theorem dX12_purge_149 : decode cX12_purge 149 = .ok (.aload_n 0, 1) := by decide +kernel
theorem dX12_purge_150 : decode cX12_purge 150 = .ok (.getfield 43, 3) := by decide +kernel
theorem dX12_purge_153 : decode cX12_purge 153 = .ok (.iload 5, 2) := by decide +kernel
theorem dX12_purge_155 : decode cX12_purge 155 = .ok (.iaload, 1) := by decide +kernel
theorem dX12_purge_156 : decode cX12_purge 156 = .ok (.aload_n 0, 1) := by decide +kernel
theorem dX12_purge_157 : decode cX12_purge 157 = .ok (.getfield 61, 3) := by decide +kernel
theorem dX12_purge_160 : decode cX12_purge 160 = .ok (.iload 5, 2) := by decide +kernel
theorem dX12_purge_162 : decode cX12_purge 162 = .ok (.iaload, 1) := by decide +kernel
theorem dX12_purge_163 : decode cX12_purge 163 = .ok (.iastore, 1) := by decide +kernel
theorem dX12_purge_164 : decode cX12_purge 164 = .ok (.goto 22, 3) := by decide +kernel
theorem dX12_purge_167 : decode cX12_purge 167 = .ok (.aload_n 0, 1) := by decide +kernel
theorem dX12_purge_168 : decode cX12_purge 168 = .ok (.getfield 61, 3) := by decide +kernel
theorem dX12_purge_171 : decode cX12_purge 171 = .ok (.aload_n 0, 1) := by decide +kernel
theorem dX12_purge_172 : decode cX12_purge 172 = .ok (.getfield 58, 3) := by decide +kernel
theorem dX12_purge_175 : decode cX12_purge 175 = .ok (.iload 5, 2) := by decide +kernel
theorem dX12_purge_177 : decode cX12_purge 177 = .ok (.iaload, 1) := by decide +kernel
theorem dX12_purge_178 : decode cX12_purge 178 = .ok (.aload_n 0, 1) := by decide +kernel
theorem dX12_purge_179 : decode cX12_purge 179 = .ok (.getfield 61, 3) := by decide +kernel
theorem dX12_purge_182 : decode cX12_purge 182 = .ok (.iload 5, 2) := by decide +kernel
theorem dX12_purge_184 : decode cX12_purge 184 = .ok (.iaload, 1) := by decide +kernel
theorem dX12_purge_185 : decode cX12_purge 185 = .ok (.iastore, 1) := by decide +kernel
theorem dX12_purge_186 : decode cX12_purge 186 = .ok (.aload_n 0, 1) := by decide +kernel
theorem dX12_purge_187 : decode cX12_purge 187 = .ok (.getfield 61, 3) := by decide +kernel
theorem dX12_purge_190 : decode cX12_purge 190 = .ok (.iload 5, 2) := by decide +kernel
theorem dX12_purge_192 : decode cX12_purge 192 = .ok (.iaload, 1) := by decide +kernel
theorem dX12_purge_193 : decode cX12_purge 193 = .ok (.ifCond .ge 25, 3) := by decide +kernel
theorem dX12_purge_196 : decode cX12_purge 196 = .ok (.aload_n 0, 1) := by decide +kernel
theorem dX12_purge_197 : decode cX12_purge 197 = .ok (.getfield 33, 3) := by decide +kernel
theorem dX12_purge_200 : decode cX12_purge 200 = .ok (.aload_n 0, 1) := by decide +kernel
theorem dX12_purge_201 : decode cX12_purge 201 = .ok (.getfield 43, 3) := by decide +kernel
theorem dX12_purge_204 : decode cX12_purge 204 = .ok (.iload 5, 2) := by decide +kernel
theorem dX12_purge_206 : decode cX12_purge 206 = .ok (.iaload, 1) := by decide +kernel
theorem dX12_purge_207 : decode cX12_purge 207 = .ok (.aload_n 0, 1) := by decide +kernel
theorem dX12_purge_208 : decode cX12_purge 208 = .ok (.getfield 58, 3) := by decide +kernel
theorem dX12_purge_211 : decode cX12_purge 211 = .ok (.iload 5, 2) := by decide +kernel
theorem dX12_purge_213 : decode cX12_purge 213 = .ok (.iaload, 1) := by decide +kernel
theorem dX12_purge_214 : decode cX12_purge 214 = .ok (.iastore, 1) := by decide +kernel
theorem dX12_purge_215 : decode cX12_purge 215 = .ok (.goto 22, 3) := by decide +kernel
theorem dX12_purge_218 : decode cX12_purge 218 = .ok (.aload_n 0, 1) := by decide +kernel
theorem dX12_purge_219 : decode cX12_purge 219 = .ok (.getfield 58, 3) := by decide +kernel
theorem dX12_purge_222 : decode cX12_purge 222 = .ok (.aload_n 0, 1) := by decide +kernel
theorem dX12_purge_223 : decode cX12_purge 223 = .ok (.getfield 61, 3) := by decide +kernel
theorem dX12_purge_226 : decode cX12_purge 226 = .ok (.iload 5, 2) := by decide +kernel
theorem dX12_purge_228 : decode cX12_purge 228 = .ok (.iaload, 1) := by decide +kernel
theorem dX12_purge_229 : decode cX12_purge 229 = .ok (.aload_n 0, 1) := by decide +kernel
theorem dX12_purge_230 : decode cX12_purge 230 = .ok (.getfield 58, 3) := by decide +kernel
theorem dX12_purge_233 : decode cX12_purge 233 = .ok (.iload 5, 2) := by decide +kernel
theorem dX12_purge_235 : decode cX12_purge 235 = .ok (.iaload, 1) := by decide +kernel
theorem dX12_purge_236 : decode cX12_purge 236 = .ok (.iastore, 1) := by decide +kernel
theorem dX12_purge_237 : decode cX12_purge 237 = .ok (.aload_n 0, 1) := by decide +kernel
theorem dX12_purge_238 : decode cX12_purge 238 = .ok (.getfield 39, 3) := by decide +kernel
theorem dX12_purge_241 : decode cX12_purge 241 = .ok (.iload 5, 2) := by decide +kernel
theorem dX12_purge_243 : decode cX12_purge 243 = .ok (.iconst 0, 1) := by decide +kernel
theorem dX12_purge_244 : decode cX12_purge 244 = .ok (.bastore, 1) := by decide +kernel
theorem dX12_purge_245 : decode cX12_purge 245 = .ok (.aload_n 0, 1) := by decide +kernel
theorem dX12_purge_246 : decode cX12_purge 246 = .ok (.dup, 1) := by decide +kernel
theorem dX12_purge_247 : decode cX12_purge 247 = .ok (.getfield 187, 3) := by decide +kernel
theorem dX12_purge_250 : decode cX12_purge 250 = .ok (.iconst 1, 1) := by decide +kernel
theorem dX12_purge_251 : decode cX12_purge 251 = .ok (.isub, 1) := by decide +kernel
theorem dX12_purge_252 : decode cX12_purge 252 = .ok (.putfield 187, 3) := by decide +kernel
theorem dX12_purge_255 : decode cX12_purge 255 = .ok (.iinc 4 1, 3) := by decide +kernel
theorem dX12_purge_258 : decode cX12_purge 258 = .ok (.iinc 5 1, 3) := by decide +kernel
theorem dX12_purge_261 : decode cX12_purge 261 = .ok (.goto (-168), 3) := by decide +kernel
theorem dX12_purge_264 : decode cX12_purge 264 = .ok (.iload 4, 2) := by decide +kernel
theorem dX12_purge_266 : decode cX12_purge 266 = .ok (.ireturn, 1) := by decide +kernel
theorem i9wsX12_purge_0 : ∀ w ∈ wsX12_purge_r1, w ∈ wsX12_purge := fun _ h => (List.mem_cons_of_mem _ (List.mem_append_left _ (List.mem_append_left _ h)))
theorem i9wsX12_purge_2 : ∀ w ∈ wsX120, w ∈ wsX12_purge := fun _ h => (List.mem_cons_of_mem _ (List.mem_append_right _ h))
set_option maxRecDepth 20000 in
theorem ggX12_purge_X12_isTime : GoodIn wsX12_purge wsX12_isTime := (gin_c (mem_at i9wsX12_purge_0 15 rfl) rfl (goodIn_app (gin_c (mem_at i9wsX12_purge_0 2 rfl) rfl (gin_c (mem_at i9wsX12_purge_0 16 rfl) rfl gin_n)) (goodIn_sub i9wsX12_purge_2 g9_16)))
set_option maxRecDepth 20000 in
theorem gX12_purge_X12_isTime : GoodIn wsX12_purge (wsV RX12 217 RX12 yX12_isTime wsX12_isTime) := goodIn_app (gin_c (mem_at i9wsX12_purge_0 11 rfl) rfl (gin_c (mem_at i9wsX12_purge_0 12 rfl) rfl (gin_c (mem_at i9wsX12_purge_0 13 rfl) rfl (gin_c (mem_at i9wsX12_purge_0 14 rfl) rfl gin_n)))) ggX12_purge_X12_isTime
set_option maxRecDepth 20000 in
theorem ggX12_purge_X12_fails : GoodIn wsX12_purge wsX12_fails := (gin_c (mem_at i9wsX12_purge_0 20 rfl) rfl (goodIn_app (gin_c (mem_at i9wsX12_purge_0 21 rfl) rfl gin_n) (goodIn_sub i9wsX12_purge_2 g9_16)))
set_option maxRecDepth 20000 in
theorem gX12_purge_X12_fails : GoodIn wsX12_purge (wsV RX12 136 RX12 yX12_fails wsX12_fails) := goodIn_app (gin_c (mem_at i9wsX12_purge_0 17 rfl) rfl (gin_c (mem_at i9wsX12_purge_0 18 rfl) rfl (gin_c (mem_at i9wsX12_purge_0 19 rfl) rfl (gin_c (mem_at i9wsX12_purge_0 14 rfl) rfl gin_n)))) ggX12_purge_X12_fails
theorem i9wsX12_purge_1 : ∀ w ∈ wsX12_purge_r2, w ∈ wsX12_purge := fun _ h => (List.mem_cons_of_mem _ (List.mem_append_left _ (List.mem_append_right _ h)))
set_option maxRecDepth 20000 in
theorem ggX12_purge_X12_timeOf : GoodIn wsX12_purge wsX12_timeOf := (gin_c (mem_at i9wsX12_purge_1 1 rfl) rfl (goodIn_app (gin_c (mem_at i9wsX12_purge_0 16 rfl) rfl gin_n) (goodIn_sub i9wsX12_purge_2 g9_16)))
set_option maxRecDepth 20000 in
theorem gX12_purge_X12_timeOf : GoodIn wsX12_purge (wsV RX12 220 RX12 yX12_timeOf wsX12_timeOf) := goodIn_app (gin_c (mem_at i9wsX12_purge_0 22 rfl) rfl (gin_c (mem_at i9wsX12_purge_0 23 rfl) rfl (gin_c (mem_at i9wsX12_purge_1 0 rfl) rfl (gin_c (mem_at i9wsX12_purge_0 14 rfl) rfl gin_n)))) ggX12_purge_X12_timeOf
set_option maxHeartbeats 4000000 in
set_option maxRecDepth 100000 in
theorem T_X12_purge (l : Launch) (hl : l.stackTraces = false) (D : va_G) (cA : Nat → ClassId) {l0 : Option Nat} {l1 : Int32} {x : HS} {Q : Int32 → HS → Prop} {X : String → HS → Prop} (h : w_X12_purge l0 l1 x Q X) : YI l yX12_purge wsX12_purge 1 21 D cA [.q l0, .i l1] x Q X := by
  refine YI.of (cc := cX12_purge) (maxL := 6) (ret := (some .int)) hl (by decide) rfl rfl (fun g B fr => ?_)
  have o := B.o
  have hb := B.hb
  have hts := B.hts
  have hown : g.s.vm.findClass RX12 = some g.m.cls := B.hown
  have in12 : ∀ w ∈ u_ws RX12 TX12 57, w ∈ wsX12_purge := fun w h => (List.mem_cons_of_mem _ (List.mem_append_right _ h))
  unfold w_X12_purge at h
  show KW g 6 0 [(0, .q l0), (1, .i l1)] [] x
  refine k_aload_n o hb dX12_purge_0 rfl 0 rfl ?_
  refine k_getI (C := RX12) (T := TX12) (N := 57) o hb hts in12 hown rfl (by decide) 27 (by decide) rfl (hts (.fieldLink RX12 193 "FactKeeperModel" "marks" "I") (by decide +kernel)) (fun _ h9 => h9) dX12_purge_1 h (fun v1 h => ?_)
  refine wJoin_elim (M := fun K => ∀ (v4 : Int32) (x3 : HS), K v4 x3 → KW g 6 12 [(0, .q l0), (1, .i l1)] [.i v4] x3) h ?_ (fun j2 hj2 h => ?_)
  · skip
    intro v4 x3 h
    refine k_istore_n o hb dX12_purge_12 rfl rfl ?_
    refine k_iconst (v := 0) o hb dX12_purge_13 (by decide) ?_
    refine k_istore_n o hb dX12_purge_14 rfl rfl ?_
    refine KW.sub [2, 3, 1, 0] rfl ?_
    refine wLoop_elim (M := fun (v8 : Int32 × Int32) (x7 : HS) => KW g 6 15 [(0, .q l0), (1, .i l1), (2, .i v8.1), (3, .i v8.2)] [] x7) h ?_
    intro v8 x7 again5 ih6 h
    refine k_iload_n o hb dX12_purge_15 rfl 3 rfl ?_
    refine k_bipush (v := 10) o hb dX12_purge_16 (by decide) ?_
    refine k_icmp_ge (tgt := 38) o hb dX12_purge_18 (by decide) h (fun h => ?_) (fun h => ?_)
    · skip
      refine k_aload_n o hb dX12_purge_38 rfl 0 rfl ?_
      refine k_aload_n o hb dX12_purge_39 rfl 0 rfl ?_
      refine k_iload_n o hb dX12_purge_40 rfl 1 rfl ?_
      refine k_run_i o (fun _ _ q => q) (k_runV (ci := 12) (rc := (RX12, TX12, 57)) o hb B.hml hown hts rfl (by decide) (T_X12_isTime g.l o.hl g.D g.cA h.2) (cwV 1 hts gX12_purge_X12_isTime rfl rfl rfl (by decide +kernel) ⟨yle B.hR1 rfl, yle B.hR2 rfl⟩) h.1 rfl rfl (Nat.le_of_ble_eq_true rfl) dX12_purge_41) (fun v10 x9 h => ?_)
      refine wJoin_elim (M := fun K => ∀ (v13 : Int32) (x12 : HS), K v13 x12 → KW g 6 60 [(0, .q l0), (1, .i l1)] [.i v13, .q l0] x12) h ?_ (fun j11 hj11 h => ?_)
      · skip
        intro v13 x12 h
        refine k_run_i o (fun _ _ q => q) (k_runV (ci := 12) (rc := (RX12, TX12, 57)) o hb B.hml hown hts rfl (by decide) (T_X12_fails g.l o.hl g.D g.cA h.2) (cwV 1 hts gX12_purge_X12_fails rfl rfl rfl (by decide +kernel) ⟨yle B.hR1 rfl, yle B.hR2 rfl⟩) h.1 rfl rfl (Nat.le_of_ble_eq_true rfl) dX12_purge_60) (fun v15 x14 h => ?_)
        refine k_if_eq (tgt := 68) o hb dX12_purge_63 (by decide) h (fun h => ?_) (fun h => ?_)
        · skip
          refine k_aload_n o hb dX12_purge_68 rfl 0 rfl ?_
          refine k_iload_n o hb dX12_purge_69 rfl 1 rfl ?_
          refine k_run_i o (fun _ _ q => q) (k_runV (ci := 12) (rc := (RX12, TX12, 57)) o hb B.hml hown hts rfl (by decide) (T_X12_timeOf g.l o.hl g.D g.cA h.2) (cwV 1 hts gX12_purge_X12_timeOf rfl rfl rfl (by decide +kernel) ⟨yle B.hR1 rfl, yle B.hR2 rfl⟩) h.1 rfl rfl (Nat.le_of_ble_eq_true rfl) dX12_purge_70) (fun v17 x16 h => ?_)
          refine k_istore_n o hb dX12_purge_73 rfl rfl ?_
          refine k_iload_n o hb dX12_purge_74 rfl 0 rfl ?_
          refine k_aload_n o hb dX12_purge_75 rfl 1 rfl ?_
          refine k_getI (C := RX12) (T := TX12) (N := 57) o hb hts in12 hown rfl (by decide) 23 (by decide) rfl (hts (.fieldLink RX12 147 "FactKeeperModel" "horizon" "I") (by decide +kernel)) (fun _ h9 => h9) dX12_purge_76 h (fun v18 h => ?_)
          refine wJoin_elim (M := fun K => ∀  (x20 : HS), K  x20 → KW g 6 87 [(0, .q l0), (3, .i v17)] [] x20) h ?_ (fun j19 hj19 h => ?_)
          · skip
            intro  x20 h
            refine k_iconst (v := 0) o hb dX12_purge_87 (by decide) ?_
            refine k_istore o hb dX12_purge_88 rfl ?_
            refine k_iconst (v := 0) o hb dX12_purge_90 (by decide) ?_
            refine k_istore o hb dX12_purge_91 rfl ?_
            refine KW.sub [2, 3, 1, 0] rfl ?_
            refine wLoop_elim (M := fun (v24 : Int32 × Int32) (x23 : HS) => KW g 6 93 [(0, .q l0), (3, .i v17), (4, .i v24.1), (5, .i v24.2)] [] x23) h ?_
            intro v24 x23 again21 ih22 h
            refine k_iload o hb dX12_purge_93 3 rfl ?_
            refine k_sipush (v := 3000) o hb dX12_purge_95 (by decide) ?_
            refine k_icmp_ge (tgt := 264) o hb dX12_purge_98 (by decide) h (fun h => ?_) (fun h => ?_)
            · skip
              refine k_iload o hb dX12_purge_264 2 rfl ?_
              exact k_iret o hb B.hr fr dX12_purge_266 h
            · skip
              refine k_aload_n o hb dX12_purge_101 rfl 0 rfl ?_
              refine k_getF (C := RX12) (T := TX12) (N := 57) o hb hts in12 hown rfl (by decide) 11 (by decide) rfl (hts (.fieldLink RX12 39 "FactKeeperModel" "used" "[Z") (by decide +kernel)) (fun _ h9 => h9) dX12_purge_102 h (fun v25 h => ?_)
              refine k_iload o hb dX12_purge_105 3 rfl ?_
              refine k_zald o hb dX12_purge_107 h (fun v26 h => ?_)
              refine wJoin_elim (M := fun K => ∀ (v29 : Int32) (x28 : HS), K v29 x28 → KW g 6 258 [(0, .q l0), (3, .i v17), (4, .i v29), (5, .i v24.2)] [] x28) h ?_ (fun j27 hj27 h => ?_)
              · skip
                intro v29 x28 h
                refine k_iinc (w := 1) o hb dX12_purge_258 3 rfl (by decide) rfl ?_
                refine k_goto (tgt := 93) o hb dX12_purge_261 (by decide) ?_
                exact KW.sub [1, 2, 3, 0] rfl (ih22 (v29, (v24.2 + 1)) x28 h)
              · skip
                refine k_if_eq (tgt := 258) o hb dX12_purge_108 (by decide) h (fun h => ?_) (fun h => ?_)
                · skip
                  exact KW.sub [0, 1, 2, 3] rfl (hj27 v24.1 x23 h)
                · skip
                  refine k_aload_n o hb dX12_purge_111 rfl 0 rfl ?_
                  refine k_getF (C := RX12) (T := TX12) (N := 57) o hb hts in12 hown rfl (by decide) 16 (by decide) rfl (hts (.fieldLink RX12 55 "FactKeeperModel" "died" "[I") (by decide +kernel)) (fun _ h9 => h9) dX12_purge_112 h (fun v30 h => ?_)
                  refine k_iload o hb dX12_purge_115 3 rfl ?_
                  refine k_iald o hb dX12_purge_117 h (fun v31 h => ?_)
                  refine k_if_lt (tgt := 258) o hb dX12_purge_118 (by decide) h (fun h => ?_) (fun h => ?_)
                  · skip
                    exact KW.sub [0, 1, 2, 3] rfl (hj27 v24.1 x23 h)
                  · skip
                    refine k_aload_n o hb dX12_purge_121 rfl 0 rfl ?_
                    refine k_getF (C := RX12) (T := TX12) (N := 57) o hb hts in12 hown rfl (by decide) 16 (by decide) rfl (hts (.fieldLink RX12 55 "FactKeeperModel" "died" "[I") (by decide +kernel)) (fun _ h9 => h9) dX12_purge_122 h (fun v32 h => ?_)
                    refine k_iload o hb dX12_purge_125 3 rfl ?_
                    refine k_iald o hb dX12_purge_127 h (fun v33 h => ?_)
                    refine k_iload_n o hb dX12_purge_128 rfl 1 rfl ?_
                    refine k_icmp_le (tgt := 135) o hb dX12_purge_129 (by decide) h (fun h => ?_) (fun h => ?_)
                    · skip
                      refine k_aload_n o hb dX12_purge_135 rfl 0 rfl ?_
                      refine k_getF (C := RX12) (T := TX12) (N := 57) o hb hts in12 hown rfl (by decide) 17 (by decide) rfl (hts (.fieldLink RX12 58 "FactKeeperModel" "before" "[I") (by decide +kernel)) (fun _ h9 => h9) dX12_purge_136 h (fun v34 h => ?_)
                      refine k_iload o hb dX12_purge_139 3 rfl ?_
                      refine k_iald o hb dX12_purge_141 h (fun v35 h => ?_)
                      refine wJoin_elim (M := fun K => ∀  (x37 : HS), K  x37 → KW g 6 186 [(0, .q l0), (3, .i v17), (4, .i v24.1), (5, .i v24.2)] [] x37) h ?_ (fun j36 hj36 h => ?_)
                      · skip
                        intro  x37 h
                        refine k_aload_n o hb dX12_purge_186 rfl 0 rfl ?_
                        refine k_getF (C := RX12) (T := TX12) (N := 57) o hb hts in12 hown rfl (by decide) 18 (by decide) rfl (hts (.fieldLink RX12 61 "FactKeeperModel" "behind" "[I") (by decide +kernel)) (fun _ h9 => h9) dX12_purge_187 h (fun v38 h => ?_)
                        refine k_iload o hb dX12_purge_190 3 rfl ?_
                        refine k_iald o hb dX12_purge_192 h (fun v39 h => ?_)
                        refine wJoin_elim (M := fun K => ∀  (x41 : HS), K  x41 → KW g 6 237 [(0, .q l0), (3, .i v17), (4, .i v24.1), (5, .i v24.2)] [] x41) h ?_ (fun j40 hj40 h => ?_)
                        · skip
                          intro  x41 h
                          refine k_aload_n o hb dX12_purge_237 rfl 0 rfl ?_
                          refine k_getF (C := RX12) (T := TX12) (N := 57) o hb hts in12 hown rfl (by decide) 11 (by decide) rfl (hts (.fieldLink RX12 39 "FactKeeperModel" "used" "[Z") (by decide +kernel)) (fun _ h9 => h9) dX12_purge_238 h (fun v42 h => ?_)
                          refine k_iload o hb dX12_purge_241 3 rfl ?_
                          refine k_iconst (v := 0) o hb dX12_purge_243 (by decide) ?_
                          refine k_zast o hb dX12_purge_244 h (fun x43 h => ?_)
                          refine k_aload_n o hb dX12_purge_245 rfl 0 rfl ?_
                          refine k_dup o hb dX12_purge_246 ?_
                          refine k_getI (C := RX12) (T := TX12) (N := 57) o hb hts in12 hown rfl (by decide) 20 (by decide) rfl (hts (.fieldLink RX12 187 "FactKeeperModel" "kept" "I") (by decide +kernel)) (fun _ h9 => h9) dX12_purge_247 h (fun v44 h => ?_)
                          refine k_iconst (v := 1) o hb dX12_purge_250 (by decide) ?_
                          refine k_isub o hb dX12_purge_251 ?_
                          refine k_putI (C := RX12) (T := TX12) (N := 57) (ty := .int) o hb hts in12 tyX12 tyX12_ok nmX12 hown rfl (by decide) 20 (by decide) rfl (hts (.fieldLink RX12 187 "FactKeeperModel" "kept" "I") (by decide +kernel)) (fun _ h9 => h9) rfl (by decide +kernel) (fun _ => rfl) (fun _ => rfl) dX12_purge_252 h (fun x45 h => ?_)
                          refine k_iinc (w := 1) o hb dX12_purge_255 2 rfl (by decide) rfl ?_
                          exact KW.sub [1, 2, 0, 3] rfl (hj27 (v24.1 + 1) x45 h)
                        · skip
                          refine k_if_ge (tgt := 218) o hb dX12_purge_193 (by decide) h (fun h => ?_) (fun h => ?_)
                          · skip
                            refine k_aload_n o hb dX12_purge_218 rfl 0 rfl ?_
                            refine k_getF (C := RX12) (T := TX12) (N := 57) o hb hts in12 hown rfl (by decide) 17 (by decide) rfl (hts (.fieldLink RX12 58 "FactKeeperModel" "before" "[I") (by decide +kernel)) (fun _ h9 => h9) dX12_purge_219 h (fun v46 h => ?_)
                            refine k_aload_n o hb dX12_purge_222 rfl 0 rfl ?_
                            refine k_getF (C := RX12) (T := TX12) (N := 57) o hb hts in12 hown rfl (by decide) 18 (by decide) rfl (hts (.fieldLink RX12 61 "FactKeeperModel" "behind" "[I") (by decide +kernel)) (fun _ h9 => h9) dX12_purge_223 h (fun v47 h => ?_)
                            refine k_iload o hb dX12_purge_226 3 rfl ?_
                            refine k_iald o hb dX12_purge_228 h (fun v48 h => ?_)
                            refine k_aload_n o hb dX12_purge_229 rfl 0 rfl ?_
                            refine k_getF (C := RX12) (T := TX12) (N := 57) o hb hts in12 hown rfl (by decide) 17 (by decide) rfl (hts (.fieldLink RX12 58 "FactKeeperModel" "before" "[I") (by decide +kernel)) (fun _ h9 => h9) dX12_purge_230 h (fun v49 h => ?_)
                            refine k_iload o hb dX12_purge_233 3 rfl ?_
                            refine k_iald o hb dX12_purge_235 h (fun v50 h => ?_)
                            refine k_iast o hb dX12_purge_236 h (fun x51 h => ?_)
                            exact KW.sub [0, 1, 2, 3] rfl (hj40 x51 h)
                          · skip
                            refine k_aload_n o hb dX12_purge_196 rfl 0 rfl ?_
                            refine k_getF (C := RX12) (T := TX12) (N := 57) o hb hts in12 hown rfl (by decide) 8 (by decide) rfl (hts (.fieldLink RX12 33 "FactKeeperModel" "last" "[I") (by decide +kernel)) (fun _ h9 => h9) dX12_purge_197 h (fun v52 h => ?_)
                            refine k_aload_n o hb dX12_purge_200 rfl 0 rfl ?_
                            refine k_getF (C := RX12) (T := TX12) (N := 57) o hb hts in12 hown rfl (by decide) 12 (by decide) rfl (hts (.fieldLink RX12 43 "FactKeeperModel" "table" "[I") (by decide +kernel)) (fun _ h9 => h9) dX12_purge_201 h (fun v53 h => ?_)
                            refine k_iload o hb dX12_purge_204 3 rfl ?_
                            refine k_iald o hb dX12_purge_206 h (fun v54 h => ?_)
                            refine k_aload_n o hb dX12_purge_207 rfl 0 rfl ?_
                            refine k_getF (C := RX12) (T := TX12) (N := 57) o hb hts in12 hown rfl (by decide) 17 (by decide) rfl (hts (.fieldLink RX12 58 "FactKeeperModel" "before" "[I") (by decide +kernel)) (fun _ h9 => h9) dX12_purge_208 h (fun v55 h => ?_)
                            refine k_iload o hb dX12_purge_211 3 rfl ?_
                            refine k_iald o hb dX12_purge_213 h (fun v56 h => ?_)
                            refine k_iast o hb dX12_purge_214 h (fun x57 h => ?_)
                            refine k_goto (tgt := 237) o hb dX12_purge_215 (by decide) ?_
                            exact KW.sub [0, 1, 2, 3] rfl (hj40 x57 h)
                      · skip
                        refine k_if_ge (tgt := 167) o hb dX12_purge_142 (by decide) h (fun h => ?_) (fun h => ?_)
                        · skip
                          refine k_aload_n o hb dX12_purge_167 rfl 0 rfl ?_
                          refine k_getF (C := RX12) (T := TX12) (N := 57) o hb hts in12 hown rfl (by decide) 18 (by decide) rfl (hts (.fieldLink RX12 61 "FactKeeperModel" "behind" "[I") (by decide +kernel)) (fun _ h9 => h9) dX12_purge_168 h (fun v58 h => ?_)
                          refine k_aload_n o hb dX12_purge_171 rfl 0 rfl ?_
                          refine k_getF (C := RX12) (T := TX12) (N := 57) o hb hts in12 hown rfl (by decide) 17 (by decide) rfl (hts (.fieldLink RX12 58 "FactKeeperModel" "before" "[I") (by decide +kernel)) (fun _ h9 => h9) dX12_purge_172 h (fun v59 h => ?_)
                          refine k_iload o hb dX12_purge_175 3 rfl ?_
                          refine k_iald o hb dX12_purge_177 h (fun v60 h => ?_)
                          refine k_aload_n o hb dX12_purge_178 rfl 0 rfl ?_
                          refine k_getF (C := RX12) (T := TX12) (N := 57) o hb hts in12 hown rfl (by decide) 18 (by decide) rfl (hts (.fieldLink RX12 61 "FactKeeperModel" "behind" "[I") (by decide +kernel)) (fun _ h9 => h9) dX12_purge_179 h (fun v61 h => ?_)
                          refine k_iload o hb dX12_purge_182 3 rfl ?_
                          refine k_iald o hb dX12_purge_184 h (fun v62 h => ?_)
                          refine k_iast o hb dX12_purge_185 h (fun x63 h => ?_)
                          exact KW.sub [0, 1, 2, 3] rfl (hj36 x63 h)
                        · skip
                          refine k_aload_n o hb dX12_purge_145 rfl 0 rfl ?_
                          refine k_getF (C := RX12) (T := TX12) (N := 57) o hb hts in12 hown rfl (by decide) 7 (by decide) rfl (hts (.fieldLink RX12 30 "FactKeeperModel" "first" "[I") (by decide +kernel)) (fun _ h9 => h9) dX12_purge_146 h (fun v64 h => ?_)
                          refine k_aload_n o hb dX12_purge_149 rfl 0 rfl ?_
                          refine k_getF (C := RX12) (T := TX12) (N := 57) o hb hts in12 hown rfl (by decide) 12 (by decide) rfl (hts (.fieldLink RX12 43 "FactKeeperModel" "table" "[I") (by decide +kernel)) (fun _ h9 => h9) dX12_purge_150 h (fun v65 h => ?_)
                          refine k_iload o hb dX12_purge_153 3 rfl ?_
                          refine k_iald o hb dX12_purge_155 h (fun v66 h => ?_)
                          refine k_aload_n o hb dX12_purge_156 rfl 0 rfl ?_
                          refine k_getF (C := RX12) (T := TX12) (N := 57) o hb hts in12 hown rfl (by decide) 18 (by decide) rfl (hts (.fieldLink RX12 61 "FactKeeperModel" "behind" "[I") (by decide +kernel)) (fun _ h9 => h9) dX12_purge_157 h (fun v67 h => ?_)
                          refine k_iload o hb dX12_purge_160 3 rfl ?_
                          refine k_iald o hb dX12_purge_162 h (fun v68 h => ?_)
                          refine k_iast o hb dX12_purge_163 h (fun x69 h => ?_)
                          refine k_goto (tgt := 186) o hb dX12_purge_164 (by decide) ?_
                          exact KW.sub [0, 1, 2, 3] rfl (hj36 x69 h)
                    · skip
                      refine k_goto (tgt := 258) o hb dX12_purge_132 (by decide) ?_
                      exact KW.sub [0, 1, 2, 3] rfl (hj27 v24.1 x23 h)
          · skip
            refine k_icmp_le (tgt := 87) o hb dX12_purge_79 (by decide) h (fun h => ?_) (fun h => ?_)
            · skip
              exact KW.sub [1, 0] rfl (hj19 x16 h)
            · skip
              refine k_aload_n o hb dX12_purge_82 rfl 1 rfl ?_
              refine k_iload_n o hb dX12_purge_83 rfl 0 rfl ?_
              refine k_putI (C := RX12) (T := TX12) (N := 57) (ty := .int) o hb hts in12 tyX12 tyX12_ok nmX12 hown rfl (by decide) 23 (by decide) rfl (hts (.fieldLink RX12 147 "FactKeeperModel" "horizon" "I") (by decide +kernel)) (fun _ h9 => h9) rfl (by decide +kernel) (fun _ => rfl) (fun _ => rfl) dX12_purge_84 h (fun x70 h => ?_)
              exact KW.sub [1, 0] rfl (hj19 x70 h)
        · skip
          refine k_iconst (v := 0) o hb dX12_purge_66 (by decide) ?_
          exact k_iret o hb B.hr fr dX12_purge_67 h
      · skip
        refine k_if_ne (tgt := 51) o hb dX12_purge_44 (by decide) h (fun h => ?_) (fun h => ?_)
        · skip
          refine k_iconst (v := 1) o hb dX12_purge_47 (by decide) ?_
          refine k_goto (tgt := 60) o hb dX12_purge_48 (by decide) ?_
          exact KW.sub [0, 1] rfl (hj11 1 x9 h)
        · skip
          refine k_iload_n o hb dX12_purge_51 rfl 2 rfl ?_
          refine k_if_eq (tgt := 59) o hb dX12_purge_52 (by decide) h (fun h => ?_) (fun h => ?_)
          · skip
            refine k_iconst (v := 0) o hb dX12_purge_59 (by decide) ?_
            exact KW.sub [0, 1] rfl (hj11 0 x9 h)
          · skip
            refine k_iconst (v := 2) o hb dX12_purge_55 (by decide) ?_
            refine k_goto (tgt := 60) o hb dX12_purge_56 (by decide) ?_
            exact KW.sub [0, 1] rfl (hj11 2 x9 h)
    · skip
      refine k_aload_n o hb dX12_purge_21 rfl 0 rfl ?_
      refine k_getF (C := RX12) (T := TX12) (N := 57) o hb hts in12 hown rfl (by decide) 28 (by decide) rfl (hts (.fieldLink RX12 73 "FactKeeperModel" "isOpen" "[Z") (by decide +kernel)) (fun _ h9 => h9) dX12_purge_22 h (fun v71 h => ?_)
      refine k_iload_n o hb dX12_purge_25 rfl 3 rfl ?_
      refine k_zald o hb dX12_purge_26 h (fun v72 h => ?_)
      refine wJoin_elim (M := fun K => ∀ (v75 : Int32) (x74 : HS), K v75 x74 → KW g 6 32 [(0, .q l0), (1, .i l1), (2, .i v75), (3, .i v8.2)] [] x74) h ?_ (fun j73 hj73 h => ?_)
      · skip
        intro v75 x74 h
        refine k_iinc (w := 1) o hb dX12_purge_32 3 rfl (by decide) rfl ?_
        refine k_goto (tgt := 15) o hb dX12_purge_35 (by decide) ?_
        exact KW.sub [1, 2, 3, 0] rfl (ih6 (v75, (v8.2 + 1)) x74 h)
      · skip
        refine k_if_eq (tgt := 32) o hb dX12_purge_27 (by decide) h (fun h => ?_) (fun h => ?_)
        · skip
          exact KW.sub [0, 1, 2, 3] rfl (hj73 v8.1 x7 h)
        · skip
          refine k_iconst (v := 1) o hb dX12_purge_30 (by decide) ?_
          refine k_istore_n o hb dX12_purge_31 rfl rfl ?_
          exact KW.sub [1, 2, 0, 3] rfl (hj73 1 x7 h)
  · skip
    refine k_if_le (tgt := 11) o hb dX12_purge_4 (by decide) h (fun h => ?_) (fun h => ?_)
    · skip
      refine k_iconst (v := 0) o hb dX12_purge_11 (by decide) ?_
      exact KW.sub [0, 1] rfl (hj2 0 x h)
    · skip
      refine k_iconst (v := 1) o hb dX12_purge_7 (by decide) ?_
      refine k_goto (tgt := 12) o hb dX12_purge_8 (by decide) ?_
      exact KW.sub [0, 1] rfl (hj2 1 x h)
theorem dX12_find0_0 : decode cX12_find0 0 = .ok (.aload_n 0, 1) := by decide +kernel
theorem dX12_find0_1 : decode cX12_find0 1 = .ok (.getfield 97, 3) := by decide +kernel
theorem dX12_find0_4 : decode cX12_find0 4 = .ok (.aload_n 0, 1) := by decide +kernel
theorem dX12_find0_5 : decode cX12_find0 5 = .ok (.getfield 235, 3) := by decide +kernel
theorem dX12_find0_8 : decode cX12_find0 8 = .ok (.iload_n 1, 1) := by decide +kernel
theorem dX12_find0_9 : decode cX12_find0 9 = .ok (.iastore, 1) := by decide +kernel
theorem dX12_find0_10 : decode cX12_find0 10 = .ok (.aload_n 0, 1) := by decide +kernel
theorem dX12_find0_11 : decode cX12_find0 11 = .ok (.dup, 1) := by decide +kernel
theorem dX12_find0_12 : decode cX12_find0 12 = .ok (.getfield 235, 3) := by decide +kernel
theorem dX12_find0_15 : decode cX12_find0 15 = .ok (.iconst 1, 1) := by decide +kernel
theorem dX12_find0_16 : decode cX12_find0 16 = .ok (.iadd, 1) := by decide +kernel
theorem dX12_find0_17 : decode cX12_find0 17 = .ok (.putfield 235, 3) := by decide +kernel
theorem dX12_find0_20 : decode cX12_find0 20 = .ok (.return_, 1) := by decide +kernel
set_option maxHeartbeats 4000000 in
set_option maxRecDepth 100000 in
theorem T_X12_find0 (l : Launch) (hl : l.stackTraces = false) (D : va_G) (cA : Nat → ClassId) {l0 : Option Nat} {l1 : Int32} {x : HS} {Q : HS → Prop} {X : String → HS → Prop} (h : w_X12_find0 l0 l1 x Q X) : YV l yX12_find0 wsX12_find0 0 0 D cA [.q l0, .i l1] x Q X := by
  refine YV.of (cc := cX12_find0) (maxL := 2) (ret := none) hl (by decide) rfl rfl (fun g B fr => ?_)
  have o := B.o
  have hb := B.hb
  have hts := B.hts
  have hown : g.s.vm.findClass RX12 = some g.m.cls := B.hown
  have in12 : ∀ w ∈ u_ws RX12 TX12 57, w ∈ wsX12_find0 := fun w h => (List.mem_cons_of_mem _ (List.mem_append_right _ h))
  unfold w_X12_find0 at h
  show KW g 2 0 [(0, .q l0), (1, .i l1)] [] x
  refine k_aload_n o hb dX12_find0_0 rfl 0 rfl ?_
  refine k_getF (C := RX12) (T := TX12) (N := 57) o hb hts in12 hown rfl (by decide) 36 (by decide) rfl (hts (.fieldLink RX12 97 "FactKeeperModel" "found" "[I") (by decide +kernel)) (fun _ h9 => h9) dX12_find0_1 h (fun v1 h => ?_)
  refine k_aload_n o hb dX12_find0_4 rfl 0 rfl ?_
  refine k_getI (C := RX12) (T := TX12) (N := 57) o hb hts in12 hown rfl (by decide) 37 (by decide) rfl (hts (.fieldLink RX12 235 "FactKeeperModel" "foundMany" "I") (by decide +kernel)) (fun _ h9 => h9) dX12_find0_5 h (fun v2 h => ?_)
  refine k_iload_n o hb dX12_find0_8 rfl 1 rfl ?_
  refine k_iast o hb dX12_find0_9 h (fun x3 h => ?_)
  refine k_aload_n o hb dX12_find0_10 rfl 0 rfl ?_
  refine k_dup o hb dX12_find0_11 ?_
  refine k_getI (C := RX12) (T := TX12) (N := 57) o hb hts in12 hown rfl (by decide) 37 (by decide) rfl (hts (.fieldLink RX12 235 "FactKeeperModel" "foundMany" "I") (by decide +kernel)) (fun _ h9 => h9) dX12_find0_12 h (fun v4 h => ?_)
  refine k_iconst (v := 1) o hb dX12_find0_15 (by decide) ?_
  refine k_iadd o hb dX12_find0_16 ?_
  refine k_putI (C := RX12) (T := TX12) (N := 57) (ty := .int) o hb hts in12 tyX12 tyX12_ok nmX12 hown rfl (by decide) 37 (by decide) rfl (hts (.fieldLink RX12 235 "FactKeeperModel" "foundMany" "I") (by decide +kernel)) (fun _ h9 => h9) rfl (by decide +kernel) (fun _ => rfl) (fun _ => rfl) dX12_find0_17 h (fun x5 h => ?_)
  exact k_vret o hb B.hr fr dX12_find0_20 h
theorem dX12_changes_0 : decode cX12_changes 0 = .ok (.aload_n 0, 1) := by decide +kernel
theorem dX12_changes_1 : decode cX12_changes 1 = .ok (.aload_n 0, 1) := by decide +kernel
theorem dX12_changes_2 : decode cX12_changes 2 = .ok (.iload_n 2, 1) := by decide +kernel
theorem dX12_changes_3 : decode cX12_changes 3 = .ok (.invokevirtual 217, 3) := by decide +kernel
theorem dX12_changes_6 : decode cX12_changes 6 = .ok (.ifCond .eq 11, 3) := by decide +kernel
theorem dX12_changes_9 : decode cX12_changes 9 = .ok (.aload_n 0, 1) := by decide +kernel
theorem dX12_changes_10 : decode cX12_changes 10 = .ok (.iload_n 3, 1) := by decide +kernel
theorem dX12_changes_11 : decode cX12_changes 11 = .ok (.invokevirtual 217, 3) := by decide +kernel
theorem dX12_changes_14 : decode cX12_changes 14 = .ok (.ifCond .ne 7, 3) := by decide +kernel
theorem dX12_changes_17 : decode cX12_changes 17 = .ok (.iconst 1, 1) := by decide +kernel
theorem dX12_changes_18 : decode cX12_changes 18 = .ok (.goto 16, 3) := by decide +kernel
theorem dX12_changes_21 : decode cX12_changes 21 = .ok (.aload_n 0, 1) := by decide +kernel
theorem dX12_changes_22 : decode cX12_changes 22 = .ok (.iload_n 1, 1) := by decide +kernel
theorem dX12_changes_23 : decode cX12_changes 23 = .ok (.invokevirtual 153, 3) := by decide +kernel
theorem dX12_changes_26 : decode cX12_changes 26 = .ok (.ifCond .ne 7, 3) := by decide +kernel
theorem dX12_changes_29 : decode cX12_changes 29 = .ok (.iconst 2, 1) := by decide +kernel
theorem dX12_changes_30 : decode cX12_changes 30 = .ok (.goto 4, 3) := by decide +kernel
theorem dX12_changes_33 : decode cX12_changes 33 = .ok (.iconst 0, 1) := by decide +kernel
theorem dX12_changes_34 : decode cX12_changes 34 = .ok (.invokevirtual 136, 3) := by decide +kernel
theorem dX12_changes_37 : decode cX12_changes 37 = .ok (.ifCond .eq 5, 3) := by decide +kernel
theorem dX12_changes_40 : decode cX12_changes 40 = .ok (.iconst 0, 1) := by decide +kernel
theorem dX12_changes_41 : decode cX12_changes 41 = .ok (.ireturn, 1) := by decide +kernel
theorem dX12_changes_42 : decode cX12_changes 42 = .ok (.aload_n 0, 1) := by decide +kernel
theorem dX12_changes_43 : decode cX12_changes 43 = .ok (.iload_n 2, 1) := by decide +kernel
theorem dX12_changes_44 : decode cX12_changes 44 = .ok (.invokevirtual 220, 3) := by decide +kernel
theorem dX12_changes_47 : decode cX12_changes 47 = .ok (.istore 4, 2) := by decide +kernel
theorem dX12_changes_49 : decode cX12_changes 49 = .ok (.aload_n 0, 1) := by decide +kernel
theorem dX12_changes_50 : decode cX12_changes 50 = .ok (.iload_n 3, 1) := by decide +kernel
theorem dX12_changes_51 : decode cX12_changes 51 = .ok (.invokevirtual 220, 3) := by decide +kernel
theorem dX12_changes_54 : decode cX12_changes 54 = .ok (.istore 5, 2) := by decide +kernel
theorem dX12_changes_56 : decode cX12_changes 56 = .ok (.aload_n 0, 1) := by decide +kernel
theorem dX12_changes_57 : decode cX12_changes 57 = .ok (.iconst 0, 1) := by decide +kernel
theorem dX12_changes_58 : decode cX12_changes 58 = .ok (.putfield 235, 3) := by decide +kernel
theorem dX12_changes_61 : decode cX12_changes 61 = .ok (.aload_n 0, 1) := by decide +kernel
theorem dX12_changes_62 : decode cX12_changes 62 = .ok (.getfield 30, 3) := by decide +kernel
theorem dX12_changes_65 : decode cX12_changes 65 = .ok (.iload_n 1, 1) := by decide +kernel
theorem dX12_changes_66 : decode cX12_changes 66 = .ok (.iaload, 1) := by decide +kernel
theorem dX12_changes_67 : decode cX12_changes 67 = .ok (.istore 6, 2) := by decide +kernel
theorem dX12_changes_69 : decode cX12_changes 69 = .ok (.iload 6, 2) := by decide +kernel
theorem dX12_changes_71 : decode cX12_changes 71 = .ok (.ifCond .lt 48, 3) := by decide +kernel
theorem dX12_changes_74 : decode cX12_changes 74 = .ok (.aload_n 0, 1) := by decide +kernel
theorem dX12_changes_75 : decode cX12_changes 75 = .ok (.iload 6, 2) := by decide +kernel
theorem dX12_changes_77 : decode cX12_changes 77 = .ok (.iload 5, 2) := by decide +kernel
theorem dX12_changes_79 : decode cX12_changes 79 = .ok (.invokevirtual 156, 3) := by decide +kernel
theorem dX12_changes_82 : decode cX12_changes 82 = .ok (.ifCond .eq 25, 3) := by decide +kernel
theorem dX12_changes_85 : decode cX12_changes 85 = .ok (.aload_n 0, 1) := by decide +kernel
theorem dX12_changes_86 : decode cX12_changes 86 = .ok (.iload 6, 2) := by decide +kernel
theorem dX12_changes_88 : decode cX12_changes 88 = .ok (.iload 4, 2) := by decide +kernel
theorem dX12_changes_90 : decode cX12_changes 90 = .ok (.invokevirtual 156, 3) := by decide +kernel
theorem dX12_changes_93 : decode cX12_changes 93 = .ok (.ifCond .ne 14, 3) := by decide +kernel
theorem dX12_changes_96 : decode cX12_changes 96 = .ok (.aload_n 0, 1) := by decide +kernel
theorem dX12_changes_97 : decode cX12_changes 97 = .ok (.aload_n 0, 1) := by decide +kernel
theorem dX12_changes_98 : decode cX12_changes 98 = .ok (.getfield 49, 3) := by decide +kernel
theorem dX12_changes_101 : decode cX12_changes 101 = .ok (.iload 6, 2) := by decide +kernel
theorem dX12_changes_103 : decode cX12_changes 103 = .ok (.iaload, 1) := by decide +kernel
theorem dX12_changes_104 : decode cX12_changes 104 = .ok (.invokevirtual 238, 3) := by decide +kernel
theorem dX12_changes_107 : decode cX12_changes 107 = .ok (.aload_n 0, 1) := by decide +kernel
theorem dX12_changes_108 : decode cX12_changes 108 = .ok (.getfield 61, 3) := by decide +kernel
theorem dX12_changes_111 : decode cX12_changes 111 = .ok (.iload 6, 2) := by decide +kernel
theorem dX12_changes_113 : decode cX12_changes 113 = .ok (.iaload, 1) := by decide +kernel
theorem dX12_changes_114 : decode cX12_changes 114 = .ok (.istore 6, 2) := by decide +kernel
theorem dX12_changes_116 : decode cX12_changes 116 = .ok (.goto (-47), 3) := by decide +kernel
theorem dX12_changes_119 : decode cX12_changes 119 = .ok (.aload_n 0, 1) := by decide +kernel
theorem dX12_changes_120 : decode cX12_changes 120 = .ok (.getfield 30, 3) := by decide +kernel
theorem dX12_changes_123 : decode cX12_changes 123 = .ok (.iload_n 1, 1) := by decide +kernel
theorem dX12_changes_124 : decode cX12_changes 124 = .ok (.iaload, 1) := by decide +kernel
theorem dX12_changes_125 : decode cX12_changes 125 = .ok (.istore 6, 2) := by decide +kernel
theorem dX12_changes_127 : decode cX12_changes 127 = .ok (.iload 6, 2) := by decide +kernel
theorem dX12_changes_129 : decode cX12_changes 129 = .ok (.ifCond .lt 50, 3) := by decide +kernel
theorem dX12_changes_132 : decode cX12_changes 132 = .ok (.aload_n 0, 1) := by decide +kernel
theorem dX12_changes_133 : decode cX12_changes 133 = .ok (.iload 6, 2) := by decide +kernel
theorem dX12_changes_135 : decode cX12_changes 135 = .ok (.iload 4, 2) := by decide +kernel
theorem dX12_changes_137 : decode cX12_changes 137 = .ok (.invokevirtual 156, 3) := by decide +kernel
theorem dX12_changes_140 : decode cX12_changes 140 = .ok (.ifCond .eq 27, 3) := by decide +kernel
theorem dX12_changes_143 : decode cX12_changes 143 = .ok (.aload_n 0, 1) := by decide +kernel
theorem dX12_changes_144 : decode cX12_changes 144 = .ok (.iload 6, 2) := by decide +kernel
theorem dX12_changes_146 : decode cX12_changes 146 = .ok (.iload 5, 2) := by decide +kernel
theorem dX12_changes_148 : decode cX12_changes 148 = .ok (.invokevirtual 156, 3) := by decide +kernel
theorem dX12_changes_151 : decode cX12_changes 151 = .ok (.ifCond .ne 16, 3) := by decide +kernel
theorem dX12_changes_154 : decode cX12_changes 154 = .ok (.aload_n 0, 1) := by decide +kernel
theorem dX12_changes_155 : decode cX12_changes 155 = .ok (.iconst (-1), 1) := by decide +kernel
theorem dX12_changes_156 : decode cX12_changes 156 = .ok (.aload_n 0, 1) := by decide +kernel
theorem dX12_changes_157 : decode cX12_changes 157 = .ok (.getfield 49, 3) := by decide +kernel
theorem dX12_changes_160 : decode cX12_changes 160 = .ok (.iload 6, 2) := by decide +kernel
theorem dX12_changes_162 : decode cX12_changes 162 = .ok (.iaload, 1) := by decide +kernel
theorem dX12_changes_163 : decode cX12_changes 163 = .ok (.isub, 1) := by decide +kernel
theorem dX12_changes_164 : decode cX12_changes 164 = .ok (.invokevirtual 238, 3) := by decide +kernel
theorem dX12_changes_167 : decode cX12_changes 167 = .ok (.aload_n 0, 1) := by decide +kernel
theorem dX12_changes_168 : decode cX12_changes 168 = .ok (.getfield 61, 3) := by decide +kernel
theorem dX12_changes_171 : decode cX12_changes 171 = .ok (.iload 6, 2) := by decide +kernel
theorem dX12_changes_173 : decode cX12_changes 173 = .ok (.iaload, 1) := by decide +kernel
theorem dX12_changes_174 : decode cX12_changes 174 = .ok (.istore 6, 2) := by decide +kernel
theorem dX12_changes_176 : decode cX12_changes 176 = .ok (.goto (-49), 3) := by decide +kernel
theorem dX12_changes_179 : decode cX12_changes 179 = .ok (.aload_n 0, 1) := by decide +kernel
theorem dX12_changes_180 : decode cX12_changes 180 = .ok (.getfield 235, 3) := by decide +kernel
theorem dX12_changes_183 : decode cX12_changes 183 = .ok (.ireturn, 1) := by decide +kernel
theorem i9wsX12_changes_0 : ∀ w ∈ wsX12_changes_r1, w ∈ wsX12_changes := fun _ h => (List.mem_cons_of_mem _ (List.mem_append_left _ (List.mem_append_left _ h)))
theorem i9wsX12_changes_2 : ∀ w ∈ wsX120, w ∈ wsX12_changes := fun _ h => (List.mem_cons_of_mem _ (List.mem_append_right _ h))
set_option maxRecDepth 20000 in
theorem ggX12_changes_X12_isTime : GoodIn wsX12_changes wsX12_isTime := (gin_c (mem_at i9wsX12_changes_0 8 rfl) rfl (goodIn_app (gin_c (mem_at i9wsX12_changes_0 9 rfl) rfl (gin_c (mem_at i9wsX12_changes_0 10 rfl) rfl gin_n)) (goodIn_sub i9wsX12_changes_2 g9_16)))
set_option maxRecDepth 20000 in
theorem gX12_changes_X12_isTime : GoodIn wsX12_changes (wsV RX12 217 RX12 yX12_isTime wsX12_isTime) := goodIn_app (gin_c (mem_at i9wsX12_changes_0 4 rfl) rfl (gin_c (mem_at i9wsX12_changes_0 5 rfl) rfl (gin_c (mem_at i9wsX12_changes_0 6 rfl) rfl (gin_c (mem_at i9wsX12_changes_0 7 rfl) rfl gin_n)))) ggX12_changes_X12_isTime
set_option maxRecDepth 20000 in
theorem ggX12_changes_X12_isTable : GoodIn wsX12_changes wsX12_isTable := (gin_c (mem_at i9wsX12_changes_0 14 rfl) rfl (goodIn_app (gin_c (mem_at i9wsX12_changes_0 15 rfl) rfl gin_n) (goodIn_sub i9wsX12_changes_2 g9_16)))
set_option maxRecDepth 20000 in
theorem gX12_changes_X12_isTable : GoodIn wsX12_changes (wsV RX12 153 RX12 yX12_isTable wsX12_isTable) := goodIn_app (gin_c (mem_at i9wsX12_changes_0 11 rfl) rfl (gin_c (mem_at i9wsX12_changes_0 12 rfl) rfl (gin_c (mem_at i9wsX12_changes_0 13 rfl) rfl (gin_c (mem_at i9wsX12_changes_0 7 rfl) rfl gin_n)))) ggX12_changes_X12_isTable
set_option maxRecDepth 20000 in
theorem ggX12_changes_X12_fails : GoodIn wsX12_changes wsX12_fails := (gin_c (mem_at i9wsX12_changes_0 19 rfl) rfl (goodIn_app (gin_c (mem_at i9wsX12_changes_0 20 rfl) rfl gin_n) (goodIn_sub i9wsX12_changes_2 g9_16)))
set_option maxRecDepth 20000 in
theorem gX12_changes_X12_fails : GoodIn wsX12_changes (wsV RX12 136 RX12 yX12_fails wsX12_fails) := goodIn_app (gin_c (mem_at i9wsX12_changes_0 16 rfl) rfl (gin_c (mem_at i9wsX12_changes_0 17 rfl) rfl (gin_c (mem_at i9wsX12_changes_0 18 rfl) rfl (gin_c (mem_at i9wsX12_changes_0 7 rfl) rfl gin_n)))) ggX12_changes_X12_fails
theorem i9wsX12_changes_1 : ∀ w ∈ wsX12_changes_r2, w ∈ wsX12_changes := fun _ h => (List.mem_cons_of_mem _ (List.mem_append_left _ (List.mem_append_right _ h)))
set_option maxRecDepth 20000 in
theorem ggX12_changes_X12_timeOf : GoodIn wsX12_changes wsX12_timeOf := (gin_c (mem_at i9wsX12_changes_1 0 rfl) rfl (goodIn_app (gin_c (mem_at i9wsX12_changes_0 10 rfl) rfl gin_n) (goodIn_sub i9wsX12_changes_2 g9_16)))
set_option maxRecDepth 20000 in
theorem gX12_changes_X12_timeOf : GoodIn wsX12_changes (wsV RX12 220 RX12 yX12_timeOf wsX12_timeOf) := goodIn_app (gin_c (mem_at i9wsX12_changes_0 21 rfl) rfl (gin_c (mem_at i9wsX12_changes_0 22 rfl) rfl (gin_c (mem_at i9wsX12_changes_0 23 rfl) rfl (gin_c (mem_at i9wsX12_changes_0 7 rfl) rfl gin_n)))) ggX12_changes_X12_timeOf
set_option maxRecDepth 20000 in
theorem ggX12_changes_X12_isThere : GoodIn wsX12_changes wsX12_isThere := (gin_c (mem_at i9wsX12_changes_1 4 rfl) rfl (goodIn_app (gin_c (mem_at i9wsX12_changes_1 5 rfl) rfl (gin_c (mem_at i9wsX12_changes_1 6 rfl) rfl gin_n)) (goodIn_sub i9wsX12_changes_2 g9_16)))
set_option maxRecDepth 20000 in
theorem gX12_changes_X12_isThere : GoodIn wsX12_changes (wsV RX12 156 RX12 yX12_isThere wsX12_isThere) := goodIn_app (gin_c (mem_at i9wsX12_changes_1 1 rfl) rfl (gin_c (mem_at i9wsX12_changes_1 2 rfl) rfl (gin_c (mem_at i9wsX12_changes_1 3 rfl) rfl (gin_c (mem_at i9wsX12_changes_0 7 rfl) rfl gin_n)))) ggX12_changes_X12_isThere
set_option maxRecDepth 20000 in
theorem ggX12_changes_X12_find0 : GoodIn wsX12_changes wsX12_find0 := (gin_c (mem_at i9wsX12_changes_1 10 rfl) rfl (goodIn_app (gin_c (mem_at i9wsX12_changes_1 11 rfl) rfl (gin_c (mem_at i9wsX12_changes_0 0 rfl) rfl gin_n)) (goodIn_sub i9wsX12_changes_2 g9_16)))
set_option maxRecDepth 20000 in
theorem gX12_changes_X12_find0 : GoodIn wsX12_changes (wsV RX12 238 RX12 yX12_find0 wsX12_find0) := goodIn_app (gin_c (mem_at i9wsX12_changes_1 7 rfl) rfl (gin_c (mem_at i9wsX12_changes_1 8 rfl) rfl (gin_c (mem_at i9wsX12_changes_1 9 rfl) rfl (gin_c (mem_at i9wsX12_changes_0 7 rfl) rfl gin_n)))) ggX12_changes_X12_find0
set_option maxHeartbeats 4000000 in
set_option maxRecDepth 100000 in
theorem T_X12_changes (l : Launch) (hl : l.stackTraces = false) (D : va_G) (cA : Nat → ClassId) {l0 : Option Nat} {l1 : Int32} {l2 : Int32} {l3 : Int32} {x : HS} {Q : Int32 → HS → Prop} {X : String → HS → Prop} (h : w_X12_changes l0 l1 l2 l3 x Q X) : YI l yX12_changes wsX12_changes 1 22 D cA [.q l0, .i l1, .i l2, .i l3] x Q X := by
  refine YI.of (cc := cX12_changes) (maxL := 7) (ret := (some .int)) hl (by decide) rfl rfl (fun g B fr => ?_)
  have o := B.o
  have hb := B.hb
  have hts := B.hts
  have hown : g.s.vm.findClass RX12 = some g.m.cls := B.hown
  have in12 : ∀ w ∈ u_ws RX12 TX12 57, w ∈ wsX12_changes := fun w h => (List.mem_cons_of_mem _ (List.mem_append_right _ h))
  unfold w_X12_changes at h
  show KW g 7 0 [(0, .q l0), (1, .i l1), (2, .i l2), (3, .i l3)] [] x
  refine k_aload_n o hb dX12_changes_0 rfl 0 rfl ?_
  refine k_aload_n o hb dX12_changes_1 rfl 0 rfl ?_
  refine k_iload_n o hb dX12_changes_2 rfl 2 rfl ?_
  refine k_run_i o (fun _ _ q => q) (k_runV (ci := 12) (rc := (RX12, TX12, 57)) o hb B.hml hown hts rfl (by decide) (T_X12_isTime g.l o.hl g.D g.cA h.2) (cwV 1 hts gX12_changes_X12_isTime rfl rfl rfl (by decide +kernel) ⟨yle B.hR1 rfl, yle B.hR2 rfl⟩) h.1 rfl rfl (Nat.le_of_ble_eq_true rfl) dX12_changes_3) (fun v2 x1 h => ?_)
  refine wJoin_elim (M := fun K => ∀ (v5 : Int32) (x4 : HS), K v5 x4 → KW g 7 34 [(0, .q l0), (1, .i l1), (2, .i l2), (3, .i l3)] [.i v5, .q l0] x4) h ?_ (fun j3 hj3 h => ?_)
  · skip
    intro v5 x4 h
    refine k_run_i o (fun _ _ q => q) (k_runV (ci := 12) (rc := (RX12, TX12, 57)) o hb B.hml hown hts rfl (by decide) (T_X12_fails g.l o.hl g.D g.cA h.2) (cwV 1 hts gX12_changes_X12_fails rfl rfl rfl (by decide +kernel) ⟨yle B.hR1 rfl, yle B.hR2 rfl⟩) h.1 rfl rfl (Nat.le_of_ble_eq_true rfl) dX12_changes_34) (fun v7 x6 h => ?_)
    refine k_if_eq (tgt := 42) o hb dX12_changes_37 (by decide) h (fun h => ?_) (fun h => ?_)
    · skip
      refine k_aload_n o hb dX12_changes_42 rfl 0 rfl ?_
      refine k_iload_n o hb dX12_changes_43 rfl 2 rfl ?_
      refine k_run_i o (fun _ _ q => q) (k_runV (ci := 12) (rc := (RX12, TX12, 57)) o hb B.hml hown hts rfl (by decide) (T_X12_timeOf g.l o.hl g.D g.cA h.2) (cwV 1 hts gX12_changes_X12_timeOf rfl rfl rfl (by decide +kernel) ⟨yle B.hR1 rfl, yle B.hR2 rfl⟩) h.1 rfl rfl (Nat.le_of_ble_eq_true rfl) dX12_changes_44) (fun v9 x8 h => ?_)
      refine k_istore o hb dX12_changes_47 rfl ?_
      refine k_aload_n o hb dX12_changes_49 rfl 1 rfl ?_
      refine k_iload_n o hb dX12_changes_50 rfl 4 rfl ?_
      refine k_run_i o (fun _ _ q => q) (k_runV (ci := 12) (rc := (RX12, TX12, 57)) o hb B.hml hown hts rfl (by decide) (T_X12_timeOf g.l o.hl g.D g.cA h.2) (cwV 1 hts gX12_changes_X12_timeOf rfl rfl rfl (by decide +kernel) ⟨yle B.hR1 rfl, yle B.hR2 rfl⟩) h.1 rfl rfl (Nat.le_of_ble_eq_true rfl) dX12_changes_51) (fun v11 x10 h => ?_)
      refine k_istore o hb dX12_changes_54 rfl ?_
      refine k_aload_n o hb dX12_changes_56 rfl 2 rfl ?_
      refine k_iconst (v := 0) o hb dX12_changes_57 (by decide) ?_
      refine k_putI (C := RX12) (T := TX12) (N := 57) (ty := .int) o hb hts in12 tyX12 tyX12_ok nmX12 hown rfl (by decide) 37 (by decide) rfl (hts (.fieldLink RX12 235 "FactKeeperModel" "foundMany" "I") (by decide +kernel)) (fun _ h9 => h9) rfl (by decide +kernel) (fun _ => rfl) (fun _ => rfl) dX12_changes_58 h (fun x12 h => ?_)
      refine k_aload_n o hb dX12_changes_61 rfl 2 rfl ?_
      refine k_getF (C := RX12) (T := TX12) (N := 57) o hb hts in12 hown rfl (by decide) 7 (by decide) rfl (hts (.fieldLink RX12 30 "FactKeeperModel" "first" "[I") (by decide +kernel)) (fun _ h9 => h9) dX12_changes_62 h (fun v13 h => ?_)
      refine k_iload_n o hb dX12_changes_65 rfl 3 rfl ?_
      refine k_iald o hb dX12_changes_66 h (fun v14 h => ?_)
      refine k_istore o hb dX12_changes_67 rfl ?_
      refine KW.sub [3, 4, 2, 1, 0] rfl ?_
      refine wLoop_elim (M := fun (v18 : Int32) (x17 : HS) => KW g 7 69 [(0, .q l0), (1, .i l1), (4, .i v9), (5, .i v11), (6, .i v18)] [] x17) h ?_
      intro v18 x17 again15 ih16 h
      refine k_iload o hb dX12_changes_69 4 rfl ?_
      refine k_if_lt (tgt := 119) o hb dX12_changes_71 (by decide) h (fun h => ?_) (fun h => ?_)
      · skip
        refine k_aload_n o hb dX12_changes_119 rfl 0 rfl ?_
        refine k_getF (C := RX12) (T := TX12) (N := 57) o hb hts in12 hown rfl (by decide) 7 (by decide) rfl (hts (.fieldLink RX12 30 "FactKeeperModel" "first" "[I") (by decide +kernel)) (fun _ h9 => h9) dX12_changes_120 h (fun v19 h => ?_)
        refine k_iload_n o hb dX12_changes_123 rfl 1 rfl ?_
        refine k_iald o hb dX12_changes_124 h (fun v20 h => ?_)
        refine k_istore o hb dX12_changes_125 rfl ?_
        refine KW.sub [1, 3, 4, 0] rfl ?_
        refine wLoop_elim (M := fun (v24 : Int32) (x23 : HS) => KW g 7 127 [(0, .q l0), (4, .i v9), (5, .i v11), (6, .i v24)] [] x23) h ?_
        intro v24 x23 again21 ih22 h
        refine k_iload o hb dX12_changes_127 3 rfl ?_
        refine k_if_lt (tgt := 179) o hb dX12_changes_129 (by decide) h (fun h => ?_) (fun h => ?_)
        · skip
          refine k_aload_n o hb dX12_changes_179 rfl 0 rfl ?_
          refine k_getI (C := RX12) (T := TX12) (N := 57) o hb hts in12 hown rfl (by decide) 37 (by decide) rfl (hts (.fieldLink RX12 235 "FactKeeperModel" "foundMany" "I") (by decide +kernel)) (fun _ h9 => h9) dX12_changes_180 h (fun v25 h => ?_)
          exact k_iret o hb B.hr fr dX12_changes_183 h
        · skip
          refine k_aload_n o hb dX12_changes_132 rfl 0 rfl ?_
          refine k_iload o hb dX12_changes_133 3 rfl ?_
          refine k_iload o hb dX12_changes_135 1 rfl ?_
          refine k_run_i o (fun _ _ q => q) (k_runV (ci := 12) (rc := (RX12, TX12, 57)) o hb B.hml hown hts rfl (by decide) (T_X12_isThere g.l o.hl g.D g.cA h.2) (cwV 2 hts gX12_changes_X12_isThere rfl rfl rfl (by decide +kernel) ⟨yle B.hR1 rfl, yle B.hR2 rfl⟩) h.1 rfl rfl (Nat.le_of_ble_eq_true rfl) dX12_changes_137) (fun v27 x26 h => ?_)
          refine wJoin_elim (M := fun K => ∀  (x29 : HS), K  x29 → KW g 7 167 [(0, .q l0), (4, .i v9), (5, .i v11), (6, .i v24)] [] x29) h ?_ (fun j28 hj28 h => ?_)
          · skip
            intro  x29 h
            refine k_aload_n o hb dX12_changes_167 rfl 0 rfl ?_
            refine k_getF (C := RX12) (T := TX12) (N := 57) o hb hts in12 hown rfl (by decide) 18 (by decide) rfl (hts (.fieldLink RX12 61 "FactKeeperModel" "behind" "[I") (by decide +kernel)) (fun _ h9 => h9) dX12_changes_168 h (fun v30 h => ?_)
            refine k_iload o hb dX12_changes_171 3 rfl ?_
            refine k_iald o hb dX12_changes_173 h (fun v31 h => ?_)
            refine k_istore o hb dX12_changes_174 rfl ?_
            refine k_goto (tgt := 127) o hb dX12_changes_176 (by decide) ?_
            exact KW.sub [1, 2, 3, 0] rfl (ih22 v31 x29 h)
          · skip
            refine k_if_eq (tgt := 167) o hb dX12_changes_140 (by decide) h (fun h => ?_) (fun h => ?_)
            · skip
              exact KW.sub [0, 1, 2, 3] rfl (hj28 x26 h)
            · skip
              refine k_aload_n o hb dX12_changes_143 rfl 0 rfl ?_
              refine k_iload o hb dX12_changes_144 3 rfl ?_
              refine k_iload o hb dX12_changes_146 2 rfl ?_
              refine k_run_i o (fun _ _ q => q) (k_runV (ci := 12) (rc := (RX12, TX12, 57)) o hb B.hml hown hts rfl (by decide) (T_X12_isThere g.l o.hl g.D g.cA h.2) (cwV 2 hts gX12_changes_X12_isThere rfl rfl rfl (by decide +kernel) ⟨yle B.hR1 rfl, yle B.hR2 rfl⟩) h.1 rfl rfl (Nat.le_of_ble_eq_true rfl) dX12_changes_148) (fun v33 x32 h => ?_)
              refine k_if_ne (tgt := 167) o hb dX12_changes_151 (by decide) h (fun h => ?_) (fun h => ?_)
              · skip
                refine k_aload_n o hb dX12_changes_154 rfl 0 rfl ?_
                refine k_iconst (v := (-1)) o hb dX12_changes_155 (by decide) ?_
                refine k_aload_n o hb dX12_changes_156 rfl 0 rfl ?_
                refine k_getF (C := RX12) (T := TX12) (N := 57) o hb hts in12 hown rfl (by decide) 14 (by decide) rfl (hts (.fieldLink RX12 49 "FactKeeperModel" "number" "[I") (by decide +kernel)) (fun _ h9 => h9) dX12_changes_157 h (fun v34 h => ?_)
                refine k_iload o hb dX12_changes_160 3 rfl ?_
                refine k_iald o hb dX12_changes_162 h (fun v35 h => ?_)
                refine k_isub o hb dX12_changes_163 ?_
                refine k_run_v o (fun _ _ q => q) (k_runV (ci := 12) (rc := (RX12, TX12, 57)) o hb B.hml hown hts rfl (by decide) (T_X12_find0 g.l o.hl g.D g.cA h.2) (cwV 1 hts gX12_changes_X12_find0 rfl rfl rfl (by decide +kernel) ⟨yle B.hR1 rfl, yle B.hR2 rfl⟩) h.1 rfl rfl (Nat.le_of_ble_eq_true rfl) dX12_changes_164) (fun x36 h => ?_)
                exact KW.sub [0, 1, 2, 3] rfl (hj28 x36 h)
              · skip
                exact KW.sub [0, 1, 2, 3] rfl (hj28 x32 h)
      · skip
        refine k_aload_n o hb dX12_changes_74 rfl 0 rfl ?_
        refine k_iload o hb dX12_changes_75 4 rfl ?_
        refine k_iload o hb dX12_changes_77 3 rfl ?_
        refine k_run_i o (fun _ _ q => q) (k_runV (ci := 12) (rc := (RX12, TX12, 57)) o hb B.hml hown hts rfl (by decide) (T_X12_isThere g.l o.hl g.D g.cA h.2) (cwV 2 hts gX12_changes_X12_isThere rfl rfl rfl (by decide +kernel) ⟨yle B.hR1 rfl, yle B.hR2 rfl⟩) h.1 rfl rfl (Nat.le_of_ble_eq_true rfl) dX12_changes_79) (fun v39 x38 h => ?_)
        refine wJoin_elim (M := fun K => ∀  (x41 : HS), K  x41 → KW g 7 107 [(0, .q l0), (1, .i l1), (4, .i v9), (5, .i v11), (6, .i v18)] [] x41) h ?_ (fun j40 hj40 h => ?_)
        · skip
          intro  x41 h
          refine k_aload_n o hb dX12_changes_107 rfl 0 rfl ?_
          refine k_getF (C := RX12) (T := TX12) (N := 57) o hb hts in12 hown rfl (by decide) 18 (by decide) rfl (hts (.fieldLink RX12 61 "FactKeeperModel" "behind" "[I") (by decide +kernel)) (fun _ h9 => h9) dX12_changes_108 h (fun v42 h => ?_)
          refine k_iload o hb dX12_changes_111 4 rfl ?_
          refine k_iald o hb dX12_changes_113 h (fun v43 h => ?_)
          refine k_istore o hb dX12_changes_114 rfl ?_
          refine k_goto (tgt := 69) o hb dX12_changes_116 (by decide) ?_
          exact KW.sub [1, 2, 3, 4, 0] rfl (ih16 v43 x41 h)
        · skip
          refine k_if_eq (tgt := 107) o hb dX12_changes_82 (by decide) h (fun h => ?_) (fun h => ?_)
          · skip
            exact KW.sub [0, 1, 2, 3, 4] rfl (hj40 x38 h)
          · skip
            refine k_aload_n o hb dX12_changes_85 rfl 0 rfl ?_
            refine k_iload o hb dX12_changes_86 4 rfl ?_
            refine k_iload o hb dX12_changes_88 2 rfl ?_
            refine k_run_i o (fun _ _ q => q) (k_runV (ci := 12) (rc := (RX12, TX12, 57)) o hb B.hml hown hts rfl (by decide) (T_X12_isThere g.l o.hl g.D g.cA h.2) (cwV 2 hts gX12_changes_X12_isThere rfl rfl rfl (by decide +kernel) ⟨yle B.hR1 rfl, yle B.hR2 rfl⟩) h.1 rfl rfl (Nat.le_of_ble_eq_true rfl) dX12_changes_90) (fun v45 x44 h => ?_)
            refine k_if_ne (tgt := 107) o hb dX12_changes_93 (by decide) h (fun h => ?_) (fun h => ?_)
            · skip
              refine k_aload_n o hb dX12_changes_96 rfl 0 rfl ?_
              refine k_aload_n o hb dX12_changes_97 rfl 0 rfl ?_
              refine k_getF (C := RX12) (T := TX12) (N := 57) o hb hts in12 hown rfl (by decide) 14 (by decide) rfl (hts (.fieldLink RX12 49 "FactKeeperModel" "number" "[I") (by decide +kernel)) (fun _ h9 => h9) dX12_changes_98 h (fun v46 h => ?_)
              refine k_iload o hb dX12_changes_101 4 rfl ?_
              refine k_iald o hb dX12_changes_103 h (fun v47 h => ?_)
              refine k_run_v o (fun _ _ q => q) (k_runV (ci := 12) (rc := (RX12, TX12, 57)) o hb B.hml hown hts rfl (by decide) (T_X12_find0 g.l o.hl g.D g.cA h.2) (cwV 1 hts gX12_changes_X12_find0 rfl rfl rfl (by decide +kernel) ⟨yle B.hR1 rfl, yle B.hR2 rfl⟩) h.1 rfl rfl (Nat.le_of_ble_eq_true rfl) dX12_changes_104) (fun x48 h => ?_)
              exact KW.sub [0, 1, 2, 3, 4] rfl (hj40 x48 h)
            · skip
              exact KW.sub [0, 1, 2, 3, 4] rfl (hj40 x44 h)
    · skip
      refine k_iconst (v := 0) o hb dX12_changes_40 (by decide) ?_
      exact k_iret o hb B.hr fr dX12_changes_41 h
  · skip
    refine wJoin_elim (M := fun K => ∀  (x51 : HS), K  x51 → KW g 7 17 [(0, .q l0), (1, .i l1), (2, .i l2), (3, .i l3)] [.q l0] x51) h ?_ (fun j50 hj50 h => ?_)
    · skip
      intro  x51 h
      refine k_iconst (v := 1) o hb dX12_changes_17 (by decide) ?_
      refine k_goto (tgt := 34) o hb dX12_changes_18 (by decide) ?_
      exact KW.sub [0, 1, 2, 3] rfl (hj3 1 x51 h)
    · skip
      refine k_if_eq (tgt := 17) o hb dX12_changes_6 (by decide) h (fun h => ?_) (fun h => ?_)
      · skip
        exact KW.sub [0, 1, 2, 3] rfl (hj50 x1 h)
      · skip
        refine k_aload_n o hb dX12_changes_9 rfl 0 rfl ?_
        refine k_iload_n o hb dX12_changes_10 rfl 3 rfl ?_
        refine k_run_i o (fun _ _ q => q) (k_runV (ci := 12) (rc := (RX12, TX12, 57)) o hb B.hml hown hts rfl (by decide) (T_X12_isTime g.l o.hl g.D g.cA h.2) (cwV 1 hts gX12_changes_X12_isTime rfl rfl rfl (by decide +kernel) ⟨yle B.hR1 rfl, yle B.hR2 rfl⟩) h.1 rfl rfl (Nat.le_of_ble_eq_true rfl) dX12_changes_11) (fun v53 x52 h => ?_)
        refine k_if_ne (tgt := 21) o hb dX12_changes_14 (by decide) h (fun h => ?_) (fun h => ?_)
        · skip
          exact KW.sub [0, 1, 2, 3] rfl (hj50 x52 h)
        · skip
          refine k_aload_n o hb dX12_changes_21 rfl 0 rfl ?_
          refine k_iload_n o hb dX12_changes_22 rfl 1 rfl ?_
          refine k_run_i o (fun _ _ q => q) (k_runV (ci := 12) (rc := (RX12, TX12, 57)) o hb B.hml hown hts rfl (by decide) (T_X12_isTable g.l o.hl g.D g.cA h.2) (cwV 1 hts gX12_changes_X12_isTable rfl rfl rfl (by decide +kernel) ⟨yle B.hR1 rfl, yle B.hR2 rfl⟩) h.1 rfl rfl (Nat.le_of_ble_eq_true rfl) dX12_changes_23) (fun v55 x54 h => ?_)
          refine k_if_ne (tgt := 33) o hb dX12_changes_26 (by decide) h (fun h => ?_) (fun h => ?_)
          · skip
            refine k_iconst (v := 2) o hb dX12_changes_29 (by decide) ?_
            refine k_goto (tgt := 34) o hb dX12_changes_30 (by decide) ?_
            exact KW.sub [0, 1, 2, 3] rfl (hj3 2 x54 h)
          · skip
            refine k_iconst (v := 0) o hb dX12_changes_33 (by decide) ?_
            exact KW.sub [0, 1, 2, 3] rfl (hj3 0 x54 h)
theorem dX12_found_0 : decode cX12_found 0 = .ok (.aload_n 0, 1) := by decide +kernel
theorem dX12_found_1 : decode cX12_found 1 = .ok (.iload_n 1, 1) := by decide +kernel
theorem dX12_found_2 : decode cX12_found 2 = .ok (.ifCond .lt 11, 3) := by decide +kernel
theorem dX12_found_5 : decode cX12_found 5 = .ok (.iload_n 1, 1) := by decide +kernel
theorem dX12_found_6 : decode cX12_found 6 = .ok (.aload_n 0, 1) := by decide +kernel
theorem dX12_found_7 : decode cX12_found 7 = .ok (.getfield 235, 3) := by decide +kernel
theorem dX12_found_10 : decode cX12_found 10 = .ok (.if_icmp .lt 7, 3) := by decide +kernel
theorem dX12_found_13 : decode cX12_found 13 = .ok (.iconst 1, 1) := by decide +kernel
theorem dX12_found_14 : decode cX12_found 14 = .ok (.goto 4, 3) := by decide +kernel
theorem dX12_found_17 : decode cX12_found 17 = .ok (.iconst 0, 1) := by decide +kernel
theorem dX12_found_18 : decode cX12_found 18 = .ok (.invokevirtual 136, 3) := by decide +kernel
theorem dX12_found_21 : decode cX12_found 21 = .ok (.ifCond .eq 5, 3) := by decide +kernel
theorem dX12_found_24 : decode cX12_found 24 = .ok (.iconst 0, 1) := by decide +kernel
theorem dX12_found_25 : decode cX12_found 25 = .ok (.ireturn, 1) := by decide +kernel
theorem dX12_found_26 : decode cX12_found 26 = .ok (.aload_n 0, 1) := by decide +kernel
theorem dX12_found_27 : decode cX12_found 27 = .ok (.getfield 97, 3) := by decide +kernel
theorem dX12_found_30 : decode cX12_found 30 = .ok (.iload_n 1, 1) := by decide +kernel
theorem dX12_found_31 : decode cX12_found 31 = .ok (.iaload, 1) := by decide +kernel
theorem dX12_found_32 : decode cX12_found 32 = .ok (.ireturn, 1) := by decide +kernel
theorem i9wsX12_found_0 : ∀ w ∈ ([.fieldLink RX12 235 "FactKeeperModel" "foundMany" "I", .fieldLink RX12 97 "FactKeeperModel" "found" "[I", .methodLink RX12 136 yX12_fails, .instanceMethod yX12_fails, .selects RX12 yX12_fails yX12_fails, .initialized RX12, .code yX12_fails cX12_fails 2 (some .boolean), .fieldLink RX12 1 "FactKeeperModel" "thrown" "I"] : List Cond), w ∈ wsX12_found := fun _ h => (List.mem_cons_of_mem _ (List.mem_append_left _ h))
theorem i9wsX12_found_1 : ∀ w ∈ wsX120, w ∈ wsX12_found := fun _ h => (List.mem_cons_of_mem _ (List.mem_append_right _ h))
set_option maxRecDepth 20000 in
theorem ggX12_found_X12_fails : GoodIn wsX12_found wsX12_fails := (gin_c (mem_at i9wsX12_found_0 6 rfl) rfl (goodIn_app (gin_c (mem_at i9wsX12_found_0 7 rfl) rfl gin_n) (goodIn_sub i9wsX12_found_1 g9_16)))
set_option maxRecDepth 20000 in
theorem gX12_found_X12_fails : GoodIn wsX12_found (wsV RX12 136 RX12 yX12_fails wsX12_fails) := goodIn_app (gin_c (mem_at i9wsX12_found_0 2 rfl) rfl (gin_c (mem_at i9wsX12_found_0 3 rfl) rfl (gin_c (mem_at i9wsX12_found_0 4 rfl) rfl (gin_c (mem_at i9wsX12_found_0 5 rfl) rfl gin_n)))) ggX12_found_X12_fails
set_option maxHeartbeats 4000000 in
set_option maxRecDepth 100000 in
theorem T_X12_found (l : Launch) (hl : l.stackTraces = false) (D : va_G) (cA : Nat → ClassId) {l0 : Option Nat} {l1 : Int32} {x : HS} {Q : Int32 → HS → Prop} {X : String → HS → Prop} (h : w_X12_found l0 l1 x Q X) : YI l yX12_found wsX12_found 1 21 D cA [.q l0, .i l1] x Q X := by
  refine YI.of (cc := cX12_found) (maxL := 2) (ret := (some .int)) hl (by decide) rfl rfl (fun g B fr => ?_)
  have o := B.o
  have hb := B.hb
  have hts := B.hts
  have hown : g.s.vm.findClass RX12 = some g.m.cls := B.hown
  have in12 : ∀ w ∈ u_ws RX12 TX12 57, w ∈ wsX12_found := fun w h => (List.mem_cons_of_mem _ (List.mem_append_right _ h))
  unfold w_X12_found at h
  show KW g 2 0 [(0, .q l0), (1, .i l1)] [] x
  refine k_aload_n o hb dX12_found_0 rfl 0 rfl ?_
  refine k_iload_n o hb dX12_found_1 rfl 1 rfl ?_
  refine wJoin_elim (M := fun K => ∀ (v3 : Int32) (x2 : HS), K v3 x2 → KW g 2 18 [(0, .q l0), (1, .i l1)] [.i v3, .q l0] x2) h ?_ (fun j1 hj1 h => ?_)
  · skip
    intro v3 x2 h
    refine k_run_i o (fun _ _ q => q) (k_runV (ci := 12) (rc := (RX12, TX12, 57)) o hb B.hml hown hts rfl (by decide) (T_X12_fails g.l o.hl g.D g.cA h.2) (cwV 1 hts gX12_found_X12_fails rfl rfl rfl (by decide +kernel) ⟨yle B.hR1 rfl, yle B.hR2 rfl⟩) h.1 rfl rfl (Nat.le_of_ble_eq_true rfl) dX12_found_18) (fun v5 x4 h => ?_)
    refine k_if_eq (tgt := 26) o hb dX12_found_21 (by decide) h (fun h => ?_) (fun h => ?_)
    · skip
      refine k_aload_n o hb dX12_found_26 rfl 0 rfl ?_
      refine k_getF (C := RX12) (T := TX12) (N := 57) o hb hts in12 hown rfl (by decide) 36 (by decide) rfl (hts (.fieldLink RX12 97 "FactKeeperModel" "found" "[I") (by decide +kernel)) (fun _ h9 => h9) dX12_found_27 h (fun v6 h => ?_)
      refine k_iload_n o hb dX12_found_30 rfl 1 rfl ?_
      refine k_iald o hb dX12_found_31 h (fun v7 h => ?_)
      exact k_iret o hb B.hr fr dX12_found_32 h
    · skip
      refine k_iconst (v := 0) o hb dX12_found_24 (by decide) ?_
      exact k_iret o hb B.hr fr dX12_found_25 h
  · skip
    refine wJoin_elim (M := fun K => ∀  (x9 : HS), K  x9 → KW g 2 13 [(0, .q l0), (1, .i l1)] [.q l0] x9) h ?_ (fun j8 hj8 h => ?_)
    · skip
      intro  x9 h
      refine k_iconst (v := 1) o hb dX12_found_13 (by decide) ?_
      refine k_goto (tgt := 18) o hb dX12_found_14 (by decide) ?_
      exact KW.sub [0, 1] rfl (hj1 1 x9 h)
    · skip
      refine k_if_lt (tgt := 13) o hb dX12_found_2 (by decide) h (fun h => ?_) (fun h => ?_)
      · skip
        exact KW.sub [0, 1] rfl (hj8 x h)
      · skip
        refine k_iload_n o hb dX12_found_5 rfl 1 rfl ?_
        refine k_aload_n o hb dX12_found_6 rfl 0 rfl ?_
        refine k_getI (C := RX12) (T := TX12) (N := 57) o hb hts in12 hown rfl (by decide) 37 (by decide) rfl (hts (.fieldLink RX12 235 "FactKeeperModel" "foundMany" "I") (by decide +kernel)) (fun _ h9 => h9) dX12_found_7 h (fun v10 h => ?_)
        refine k_icmp_lt (tgt := 17) o hb dX12_found_10 (by decide) h (fun h => ?_) (fun h => ?_)
        · skip
          refine k_iconst (v := 0) o hb dX12_found_17 (by decide) ?_
          exact KW.sub [0, 1] rfl (hj1 0 x h)
        · skip
          exact KW.sub [0, 1] rfl (hj8 x h)
theorem dX12_byteAt_0 : decode cX12_byteAt 0 = .ok (.iload_n 1, 1) := by decide +kernel
theorem dX12_byteAt_1 : decode cX12_byteAt 1 = .ok (.aload_n 0, 1) := by decide +kernel
theorem dX12_byteAt_2 : decode cX12_byteAt 2 = .ok (.getfield 241, 3) := by decide +kernel
theorem dX12_byteAt_5 : decode cX12_byteAt 5 = .ok (.if_icmp .ge 12, 3) := by decide +kernel
theorem dX12_byteAt_8 : decode cX12_byteAt 8 = .ok (.aload_n 0, 1) := by decide +kernel
theorem dX12_byteAt_9 : decode cX12_byteAt 9 = .ok (.getfield 13, 3) := by decide +kernel
theorem dX12_byteAt_12 : decode cX12_byteAt 12 = .ok (.iload_n 1, 1) := by decide +kernel
theorem dX12_byteAt_13 : decode cX12_byteAt 13 = .ok (.baload, 1) := by decide +kernel
theorem dX12_byteAt_14 : decode cX12_byteAt 14 = .ok (.goto 4, 3) := by decide +kernel
theorem dX12_byteAt_17 : decode cX12_byteAt 17 = .ok (.iconst (-1), 1) := by decide +kernel
theorem dX12_byteAt_18 : decode cX12_byteAt 18 = .ok (.ireturn, 1) := by decide +kernel
set_option maxHeartbeats 4000000 in
set_option maxRecDepth 100000 in
theorem T_X12_byteAt (l : Launch) (hl : l.stackTraces = false) (D : va_G) (cA : Nat → ClassId) {l0 : Option Nat} {l1 : Int32} {x : HS} {Q : Int32 → HS → Prop} {X : String → HS → Prop} (h : w_X12_byteAt l0 l1 x Q X) : YI l yX12_byteAt wsX12_byteAt 0 0 D cA [.q l0, .i l1] x Q X := by
  refine YI.of (cc := cX12_byteAt) (maxL := 2) (ret := (some .int)) hl (by decide) rfl rfl (fun g B fr => ?_)
  have o := B.o
  have hb := B.hb
  have hts := B.hts
  have hown : g.s.vm.findClass RX12 = some g.m.cls := B.hown
  have in12 : ∀ w ∈ u_ws RX12 TX12 57, w ∈ wsX12_byteAt := fun w h => (List.mem_cons_of_mem _ (List.mem_append_right _ h))
  unfold w_X12_byteAt at h
  show KW g 2 0 [(0, .q l0), (1, .i l1)] [] x
  refine k_iload_n o hb dX12_byteAt_0 rfl 1 rfl ?_
  refine k_aload_n o hb dX12_byteAt_1 rfl 0 rfl ?_
  refine k_getI (C := RX12) (T := TX12) (N := 57) o hb hts in12 hown rfl (by decide) 40 (by decide) rfl (hts (.fieldLink RX12 241 "FactKeeperModel" "length" "I") (by decide +kernel)) (fun _ h9 => h9) dX12_byteAt_2 h (fun v1 h => ?_)
  refine wJoin_elim (M := fun K => ∀ (v4 : Int32) (x3 : HS), K v4 x3 → KW g 2 18 [] [.i v4] x3) h ?_ (fun j2 hj2 h => ?_)
  · skip
    intro v4 x3 h
    exact k_iret o hb B.hr fr dX12_byteAt_18 h
  · skip
    refine k_icmp_ge (tgt := 17) o hb dX12_byteAt_5 (by decide) h (fun h => ?_) (fun h => ?_)
    · skip
      refine k_iconst (v := (-1)) o hb dX12_byteAt_17 (by decide) ?_
      exact KW.sub [] rfl (hj2 (-1) x h)
    · skip
      refine k_aload_n o hb dX12_byteAt_8 rfl 0 rfl ?_
      refine k_getF (C := RX12) (T := TX12) (N := 57) o hb hts in12 hown rfl (by decide) 1 (by decide) rfl (hts (.fieldLink RX12 13 "FactKeeperModel" "tape" "[B") (by decide +kernel)) (fun _ h9 => h9) dX12_byteAt_9 h (fun v5 h => ?_)
      refine k_iload_n o hb dX12_byteAt_12 rfl 1 rfl ?_
      refine k_bald o hb dX12_byteAt_13 h (fun v6 h => ?_)
      refine k_goto (tgt := 18) o hb dX12_byteAt_14 (by decide) ?_
      exact KW.sub [] rfl (hj2 v6 x h)
theorem dX12_blanks_0 : decode cX12_blanks 0 = .ok (.aload_n 0, 1) := by decide +kernel
theorem dX12_blanks_1 : decode cX12_blanks 1 = .ok (.aload_n 0, 1) := by decide +kernel
theorem dX12_blanks_2 : decode cX12_blanks 2 = .ok (.getfield 244, 3) := by decide +kernel
theorem dX12_blanks_5 : decode cX12_blanks 5 = .ok (.invokevirtual 247, 3) := by decide +kernel
theorem dX12_blanks_8 : decode cX12_blanks 8 = .ok (.bipush 32, 2) := by decide +kernel
theorem dX12_blanks_10 : decode cX12_blanks 10 = .ok (.if_icmp .ne 16, 3) := by decide +kernel
theorem dX12_blanks_13 : decode cX12_blanks 13 = .ok (.aload_n 0, 1) := by decide +kernel
theorem dX12_blanks_14 : decode cX12_blanks 14 = .ok (.dup, 1) := by decide +kernel
theorem dX12_blanks_15 : decode cX12_blanks 15 = .ok (.getfield 244, 3) := by decide +kernel
theorem dX12_blanks_18 : decode cX12_blanks 18 = .ok (.iconst 1, 1) := by decide +kernel
theorem dX12_blanks_19 : decode cX12_blanks 19 = .ok (.iadd, 1) := by decide +kernel
theorem dX12_blanks_20 : decode cX12_blanks 20 = .ok (.putfield 244, 3) := by decide +kernel
theorem dX12_blanks_23 : decode cX12_blanks 23 = .ok (.goto (-23), 3) := by decide +kernel
theorem dX12_blanks_26 : decode cX12_blanks 26 = .ok (.return_, 1) := by decide +kernel
theorem i9wsX12_blanks_0 : ∀ w ∈ ([.fieldLink RX12 244 "FactKeeperModel" "at" "I", .methodLink RX12 247 yX12_byteAt, .instanceMethod yX12_byteAt, .selects RX12 yX12_byteAt yX12_byteAt, .initialized RX12, .code yX12_byteAt cX12_byteAt 2 (some .int), .fieldLink RX12 241 "FactKeeperModel" "length" "I", .fieldLink RX12 13 "FactKeeperModel" "tape" "[B"] : List Cond), w ∈ wsX12_blanks := fun _ h => (List.mem_cons_of_mem _ (List.mem_append_left _ h))
theorem i9wsX12_blanks_1 : ∀ w ∈ wsX120, w ∈ wsX12_blanks := fun _ h => (List.mem_cons_of_mem _ (List.mem_append_right _ h))
set_option maxRecDepth 20000 in
theorem ggX12_blanks_X12_byteAt : GoodIn wsX12_blanks wsX12_byteAt := (gin_c (mem_at i9wsX12_blanks_0 5 rfl) rfl (goodIn_app (gin_c (mem_at i9wsX12_blanks_0 6 rfl) rfl (gin_c (mem_at i9wsX12_blanks_0 7 rfl) rfl gin_n)) (goodIn_sub i9wsX12_blanks_1 g9_16)))
set_option maxRecDepth 20000 in
theorem gX12_blanks_X12_byteAt : GoodIn wsX12_blanks (wsV RX12 247 RX12 yX12_byteAt wsX12_byteAt) := goodIn_app (gin_c (mem_at i9wsX12_blanks_0 1 rfl) rfl (gin_c (mem_at i9wsX12_blanks_0 2 rfl) rfl (gin_c (mem_at i9wsX12_blanks_0 3 rfl) rfl (gin_c (mem_at i9wsX12_blanks_0 4 rfl) rfl gin_n)))) ggX12_blanks_X12_byteAt
set_option maxHeartbeats 4000000 in
set_option maxRecDepth 100000 in
theorem T_X12_blanks (l : Launch) (hl : l.stackTraces = false) (D : va_G) (cA : Nat → ClassId) {l0 : Option Nat} {x : HS} {Q : HS → Prop} {X : String → HS → Prop} (h : w_X12_blanks l0 x Q X) : YV l yX12_blanks wsX12_blanks 1 21 D cA [.q l0] x Q X := by
  refine YV.of (cc := cX12_blanks) (maxL := 1) (ret := none) hl (by decide) rfl rfl (fun g B fr => ?_)
  have o := B.o
  have hb := B.hb
  have hts := B.hts
  have hown : g.s.vm.findClass RX12 = some g.m.cls := B.hown
  have in12 : ∀ w ∈ u_ws RX12 TX12 57, w ∈ wsX12_blanks := fun w h => (List.mem_cons_of_mem _ (List.mem_append_right _ h))
  unfold w_X12_blanks at h
  show KW g 1 0 [(0, .q l0)] [] x
  refine KW.sub [0] rfl ?_
  refine wLoop_elim (M := fun (v4 : Unit) (x3 : HS) => KW g 1 0 [(0, .q l0)] [] x3) h ?_
  intro v4 x3 again1 ih2 h
  refine k_aload_n o hb dX12_blanks_0 rfl 0 rfl ?_
  refine k_aload_n o hb dX12_blanks_1 rfl 0 rfl ?_
  refine k_getI (C := RX12) (T := TX12) (N := 57) o hb hts in12 hown rfl (by decide) 41 (by decide) rfl (hts (.fieldLink RX12 244 "FactKeeperModel" "at" "I") (by decide +kernel)) (fun _ h9 => h9) dX12_blanks_2 h (fun v5 h => ?_)
  refine k_run_i o (fun _ _ q => q) (k_runV (ci := 12) (rc := (RX12, TX12, 57)) o hb B.hml hown hts rfl (by decide) (T_X12_byteAt g.l o.hl g.D g.cA h.2) (cwV 1 hts gX12_blanks_X12_byteAt rfl rfl rfl (by decide +kernel) ⟨yle B.hR1 rfl, yle B.hR2 rfl⟩) h.1 rfl rfl (Nat.le_of_ble_eq_true rfl) dX12_blanks_5) (fun v7 x6 h => ?_)
  refine k_bipush (v := 32) o hb dX12_blanks_8 (by decide) ?_
  refine k_icmp_ne (tgt := 26) o hb dX12_blanks_10 (by decide) h (fun h => ?_) (fun h => ?_)
  · skip
    refine k_aload_n o hb dX12_blanks_13 rfl 0 rfl ?_
    refine k_dup o hb dX12_blanks_14 ?_
    refine k_getI (C := RX12) (T := TX12) (N := 57) o hb hts in12 hown rfl (by decide) 41 (by decide) rfl (hts (.fieldLink RX12 244 "FactKeeperModel" "at" "I") (by decide +kernel)) (fun _ h9 => h9) dX12_blanks_15 h (fun v8 h => ?_)
    refine k_iconst (v := 1) o hb dX12_blanks_18 (by decide) ?_
    refine k_iadd o hb dX12_blanks_19 ?_
    refine k_putI (C := RX12) (T := TX12) (N := 57) (ty := .int) o hb hts in12 tyX12 tyX12_ok nmX12 hown rfl (by decide) 41 (by decide) rfl (hts (.fieldLink RX12 244 "FactKeeperModel" "at" "I") (by decide +kernel)) (fun _ h9 => h9) rfl (by decide +kernel) (fun _ => rfl) (fun _ => rfl) dX12_blanks_20 h (fun x9 h => ?_)
    refine k_goto (tgt := 0) o hb dX12_blanks_23 (by decide) ?_
    exact KW.sub [0] rfl (ih2 () x9 h)
  · skip
    exact k_vret o hb B.hr fr dX12_blanks_26 h
theorem dX12_isDigit_0 : decode cX12_isDigit 0 = .ok (.iload_n 1, 1) := by decide +kernel
theorem dX12_isDigit_1 : decode cX12_isDigit 1 = .ok (.bipush 48, 2) := by decide +kernel
theorem dX12_isDigit_3 : decode cX12_isDigit 3 = .ok (.if_icmp .lt 13, 3) := by decide +kernel
theorem dX12_isDigit_6 : decode cX12_isDigit 6 = .ok (.iload_n 1, 1) := by decide +kernel
theorem dX12_isDigit_7 : decode cX12_isDigit 7 = .ok (.bipush 57, 2) := by decide +kernel
theorem dX12_isDigit_9 : decode cX12_isDigit 9 = .ok (.if_icmp .gt 7, 3) := by decide +kernel
theorem dX12_isDigit_12 : decode cX12_isDigit 12 = .ok (.iconst 1, 1) := by decide +kernel
theorem dX12_isDigit_13 : decode cX12_isDigit 13 = .ok (.goto 4, 3) := by decide +kernel
theorem dX12_isDigit_16 : decode cX12_isDigit 16 = .ok (.iconst 0, 1) := by decide +kernel
theorem dX12_isDigit_17 : decode cX12_isDigit 17 = .ok (.ireturn, 1) := by decide +kernel
set_option maxHeartbeats 4000000 in
set_option maxRecDepth 100000 in
theorem T_X12_isDigit (l : Launch) (hl : l.stackTraces = false) (D : va_G) (cA : Nat → ClassId) {l0 : Option Nat} {l1 : Int32} {x : HS} {Q : Int32 → HS → Prop} {X : String → HS → Prop} (h : w_X12_isDigit l0 l1 x Q X) : YI l yX12_isDigit wsX12_isDigit 0 0 D cA [.q l0, .i l1] x Q X := by
  refine YI.of (cc := cX12_isDigit) (maxL := 2) (ret := (some .boolean)) hl (by decide) rfl rfl (fun g B fr => ?_)
  have o := B.o
  have hb := B.hb
  have hts := B.hts
  have hown : g.s.vm.findClass RX12 = some g.m.cls := B.hown
  unfold w_X12_isDigit at h
  show KW g 2 0 [(0, .q l0), (1, .i l1)] [] x
  refine k_iload_n o hb dX12_isDigit_0 rfl 1 rfl ?_
  refine k_bipush (v := 48) o hb dX12_isDigit_1 (by decide) ?_
  refine wJoin_elim (M := fun K => ∀ (v3 : Int32) (x2 : HS), K v3 x2 → KW g 2 17 [] [.i v3] x2) h ?_ (fun j1 hj1 h => ?_)
  · skip
    intro v3 x2 h
    exact k_zret o hb B.hr fr dX12_isDigit_17 h
  · skip
    refine wJoin_elim (M := fun K => ∀  (x5 : HS), K  x5 → KW g 2 16 [] [] x5) h ?_ (fun j4 hj4 h => ?_)
    · skip
      intro  x5 h
      refine k_iconst (v := 0) o hb dX12_isDigit_16 (by decide) ?_
      exact KW.sub [] rfl (hj1 0 x5 h)
    · skip
      refine k_icmp_lt (tgt := 16) o hb dX12_isDigit_3 (by decide) h (fun h => ?_) (fun h => ?_)
      · skip
        exact KW.sub [] rfl (hj4 x h)
      · skip
        refine k_iload_n o hb dX12_isDigit_6 rfl 1 rfl ?_
        refine k_bipush (v := 57) o hb dX12_isDigit_7 (by decide) ?_
        refine k_icmp_gt (tgt := 16) o hb dX12_isDigit_9 (by decide) h (fun h => ?_) (fun h => ?_)
        · skip
          exact KW.sub [] rfl (hj4 x h)
        · skip
          refine k_iconst (v := 1) o hb dX12_isDigit_12 (by decide) ?_
          refine k_goto (tgt := 17) o hb dX12_isDigit_13 (by decide) ?_
          exact KW.sub [] rfl (hj1 1 x h)
theorem dX12_take_0 : decode cX12_take 0 = .ok (.aload_n 0, 1) := by decide +kernel
theorem dX12_take_1 : decode cX12_take 1 = .ok (.invokevirtual 250, 3) := by decide +kernel
theorem dX12_take_4 : decode cX12_take 4 = .ok (.aload_n 0, 1) := by decide +kernel
theorem dX12_take_5 : decode cX12_take 5 = .ok (.aload_n 0, 1) := by decide +kernel
theorem dX12_take_6 : decode cX12_take 6 = .ok (.getfield 244, 3) := by decide +kernel
theorem dX12_take_9 : decode cX12_take 9 = .ok (.invokevirtual 247, 3) := by decide +kernel
theorem dX12_take_12 : decode cX12_take 12 = .ok (.iload_n 1, 1) := by decide +kernel
theorem dX12_take_13 : decode cX12_take 13 = .ok (.if_icmp .eq 5, 3) := by decide +kernel
theorem dX12_take_16 : decode cX12_take 16 = .ok (.iconst 0, 1) := by decide +kernel
theorem dX12_take_17 : decode cX12_take 17 = .ok (.ireturn, 1) := by decide +kernel
theorem dX12_take_18 : decode cX12_take 18 = .ok (.aload_n 0, 1) := by decide +kernel
theorem dX12_take_19 : decode cX12_take 19 = .ok (.dup, 1) := by decide +kernel
theorem dX12_take_20 : decode cX12_take 20 = .ok (.getfield 244, 3) := by decide +kernel
theorem dX12_take_23 : decode cX12_take 23 = .ok (.iconst 1, 1) := by decide +kernel
theorem dX12_take_24 : decode cX12_take 24 = .ok (.iadd, 1) := by decide +kernel
theorem dX12_take_25 : decode cX12_take 25 = .ok (.putfield 244, 3) := by decide +kernel
theorem dX12_take_28 : decode cX12_take 28 = .ok (.iconst 1, 1) := by decide +kernel
theorem dX12_take_29 : decode cX12_take 29 = .ok (.ireturn, 1) := by decide +kernel
theorem i9wsX12_take_0 : ∀ w ∈ ([.fieldLink RX12 244 "FactKeeperModel" "at" "I", .methodLink RX12 250 yX12_blanks, .instanceMethod yX12_blanks, .selects RX12 yX12_blanks yX12_blanks, .initialized RX12, .code yX12_blanks cX12_blanks 1 none, .methodLink RX12 247 yX12_byteAt, .instanceMethod yX12_byteAt, .selects RX12 yX12_byteAt yX12_byteAt, .code yX12_byteAt cX12_byteAt 2 (some .int), .fieldLink RX12 241 "FactKeeperModel" "length" "I", .fieldLink RX12 13 "FactKeeperModel" "tape" "[B"] : List Cond), w ∈ wsX12_take := fun _ h => (List.mem_cons_of_mem _ (List.mem_append_left _ h))
theorem i9wsX12_take_1 : ∀ w ∈ wsX120, w ∈ wsX12_take := fun _ h => (List.mem_cons_of_mem _ (List.mem_append_right _ h))
set_option maxRecDepth 20000 in
theorem ggX12_take_X12_blanks : GoodIn wsX12_take wsX12_blanks := (gin_c (mem_at i9wsX12_take_0 5 rfl) rfl (goodIn_app (gin_c (mem_at i9wsX12_take_0 0 rfl) rfl (gin_c (mem_at i9wsX12_take_0 6 rfl) rfl (gin_c (mem_at i9wsX12_take_0 7 rfl) rfl (gin_c (mem_at i9wsX12_take_0 8 rfl) rfl (gin_c (mem_at i9wsX12_take_0 4 rfl) rfl (gin_c (mem_at i9wsX12_take_0 9 rfl) rfl (gin_c (mem_at i9wsX12_take_0 10 rfl) rfl (gin_c (mem_at i9wsX12_take_0 11 rfl) rfl gin_n)))))))) (goodIn_sub i9wsX12_take_1 g9_16)))
set_option maxRecDepth 20000 in
theorem gX12_take_X12_blanks : GoodIn wsX12_take (wsV RX12 250 RX12 yX12_blanks wsX12_blanks) := goodIn_app (gin_c (mem_at i9wsX12_take_0 1 rfl) rfl (gin_c (mem_at i9wsX12_take_0 2 rfl) rfl (gin_c (mem_at i9wsX12_take_0 3 rfl) rfl (gin_c (mem_at i9wsX12_take_0 4 rfl) rfl gin_n)))) ggX12_take_X12_blanks
set_option maxRecDepth 20000 in
theorem ggX12_take_X12_byteAt : GoodIn wsX12_take wsX12_byteAt := (gin_c (mem_at i9wsX12_take_0 9 rfl) rfl (goodIn_app (gin_c (mem_at i9wsX12_take_0 10 rfl) rfl (gin_c (mem_at i9wsX12_take_0 11 rfl) rfl gin_n)) (goodIn_sub i9wsX12_take_1 g9_16)))
set_option maxRecDepth 20000 in
theorem gX12_take_X12_byteAt : GoodIn wsX12_take (wsV RX12 247 RX12 yX12_byteAt wsX12_byteAt) := goodIn_app (gin_c (mem_at i9wsX12_take_0 6 rfl) rfl (gin_c (mem_at i9wsX12_take_0 7 rfl) rfl (gin_c (mem_at i9wsX12_take_0 8 rfl) rfl (gin_c (mem_at i9wsX12_take_0 4 rfl) rfl gin_n)))) ggX12_take_X12_byteAt
set_option maxHeartbeats 4000000 in
set_option maxRecDepth 100000 in
theorem T_X12_take (l : Launch) (hl : l.stackTraces = false) (D : va_G) (cA : Nat → ClassId) {l0 : Option Nat} {l1 : Int32} {x : HS} {Q : Int32 → HS → Prop} {X : String → HS → Prop} (h : w_X12_take l0 l1 x Q X) : YI l yX12_take wsX12_take 2 41 D cA [.q l0, .i l1] x Q X := by
  refine YI.of (cc := cX12_take) (maxL := 2) (ret := (some .boolean)) hl (by decide) rfl rfl (fun g B fr => ?_)
  have o := B.o
  have hb := B.hb
  have hts := B.hts
  have hown : g.s.vm.findClass RX12 = some g.m.cls := B.hown
  have in12 : ∀ w ∈ u_ws RX12 TX12 57, w ∈ wsX12_take := fun w h => (List.mem_cons_of_mem _ (List.mem_append_right _ h))
  unfold w_X12_take at h
  show KW g 2 0 [(0, .q l0), (1, .i l1)] [] x
  refine k_aload_n o hb dX12_take_0 rfl 0 rfl ?_
  refine k_run_v o (fun _ _ q => q) (k_runV (ci := 12) (rc := (RX12, TX12, 57)) o hb B.hml hown hts rfl (by decide) (T_X12_blanks g.l o.hl g.D g.cA h.2) (cwV 0 hts gX12_take_X12_blanks rfl rfl rfl (by decide +kernel) ⟨yle B.hR1 rfl, yle B.hR2 rfl⟩) h.1 rfl rfl (Nat.le_of_ble_eq_true rfl) dX12_take_1) (fun x1 h => ?_)
  refine k_aload_n o hb dX12_take_4 rfl 0 rfl ?_
  refine k_aload_n o hb dX12_take_5 rfl 0 rfl ?_
  refine k_getI (C := RX12) (T := TX12) (N := 57) o hb hts in12 hown rfl (by decide) 41 (by decide) rfl (hts (.fieldLink RX12 244 "FactKeeperModel" "at" "I") (by decide +kernel)) (fun _ h9 => h9) dX12_take_6 h (fun v3 h => ?_)
  refine k_run_i o (fun _ _ q => q) (k_runV (ci := 12) (rc := (RX12, TX12, 57)) o hb B.hml hown hts rfl (by decide) (T_X12_byteAt g.l o.hl g.D g.cA h.2) (cwV 1 hts gX12_take_X12_byteAt rfl rfl rfl (by decide +kernel) ⟨yle B.hR1 rfl, yle B.hR2 rfl⟩) h.1 rfl rfl (Nat.le_of_ble_eq_true rfl) dX12_take_9) (fun v5 x4 h => ?_)
  refine k_iload_n o hb dX12_take_12 rfl 1 rfl ?_
  refine k_icmp_eq (tgt := 18) o hb dX12_take_13 (by decide) h (fun h => ?_) (fun h => ?_)
  · skip
    refine k_aload_n o hb dX12_take_18 rfl 0 rfl ?_
    refine k_dup o hb dX12_take_19 ?_
    refine k_getI (C := RX12) (T := TX12) (N := 57) o hb hts in12 hown rfl (by decide) 41 (by decide) rfl (hts (.fieldLink RX12 244 "FactKeeperModel" "at" "I") (by decide +kernel)) (fun _ h9 => h9) dX12_take_20 h (fun v6 h => ?_)
    refine k_iconst (v := 1) o hb dX12_take_23 (by decide) ?_
    refine k_iadd o hb dX12_take_24 ?_
    refine k_putI (C := RX12) (T := TX12) (N := 57) (ty := .int) o hb hts in12 tyX12 tyX12_ok nmX12 hown rfl (by decide) 41 (by decide) rfl (hts (.fieldLink RX12 244 "FactKeeperModel" "at" "I") (by decide +kernel)) (fun _ h9 => h9) rfl (by decide +kernel) (fun _ => rfl) (fun _ => rfl) dX12_take_25 h (fun x7 h => ?_)
    refine k_iconst (v := 1) o hb dX12_take_28 (by decide) ?_
    exact k_zret o hb B.hr fr dX12_take_29 h
  · skip
    refine k_iconst (v := 0) o hb dX12_take_16 (by decide) ?_
    exact k_zret o hb B.hr fr dX12_take_17 h
theorem dX12_digits_0 : decode cX12_digits 0 = .ok (.iload_n 1, 1) := by decide +kernel
theorem dX12_digits_1 : decode cX12_digits 1 = .ok (.istore_n 2, 1) := by decide +kernel
theorem dX12_digits_2 : decode cX12_digits 2 = .ok (.aload_n 0, 1) := by decide +kernel
theorem dX12_digits_3 : decode cX12_digits 3 = .ok (.aload_n 0, 1) := by decide +kernel
theorem dX12_digits_4 : decode cX12_digits 4 = .ok (.iload_n 2, 1) := by decide +kernel
theorem dX12_digits_5 : decode cX12_digits 5 = .ok (.invokevirtual 247, 3) := by decide +kernel
theorem dX12_digits_8 : decode cX12_digits 8 = .ok (.invokevirtual 253, 3) := by decide +kernel
theorem dX12_digits_11 : decode cX12_digits 11 = .ok (.ifCond .eq 9, 3) := by decide +kernel
theorem dX12_digits_14 : decode cX12_digits 14 = .ok (.iinc 2 1, 3) := by decide +kernel
theorem dX12_digits_17 : decode cX12_digits 17 = .ok (.goto (-15), 3) := by decide +kernel
theorem dX12_digits_20 : decode cX12_digits 20 = .ok (.iload_n 2, 1) := by decide +kernel
theorem dX12_digits_21 : decode cX12_digits 21 = .ok (.iload_n 1, 1) := by decide +kernel
theorem dX12_digits_22 : decode cX12_digits 22 = .ok (.isub, 1) := by decide +kernel
theorem dX12_digits_23 : decode cX12_digits 23 = .ok (.ireturn, 1) := by decide +kernel
theorem i9wsX12_digits_0 : ∀ w ∈ ([.methodLink RX12 247 yX12_byteAt, .instanceMethod yX12_byteAt, .selects RX12 yX12_byteAt yX12_byteAt, .initialized RX12, .code yX12_byteAt cX12_byteAt 2 (some .int), .fieldLink RX12 241 "FactKeeperModel" "length" "I", .fieldLink RX12 13 "FactKeeperModel" "tape" "[B", .methodLink RX12 253 yX12_isDigit, .instanceMethod yX12_isDigit, .selects RX12 yX12_isDigit yX12_isDigit, .code yX12_isDigit cX12_isDigit 2 (some .boolean)] : List Cond), w ∈ wsX12_digits := fun _ h => (List.mem_cons_of_mem _ (List.mem_append_left _ h))
theorem i9wsX12_digits_1 : ∀ w ∈ wsX120, w ∈ wsX12_digits := fun _ h => (List.mem_cons_of_mem _ (List.mem_append_right _ h))
set_option maxRecDepth 20000 in
theorem ggX12_digits_X12_byteAt : GoodIn wsX12_digits wsX12_byteAt := (gin_c (mem_at i9wsX12_digits_0 4 rfl) rfl (goodIn_app (gin_c (mem_at i9wsX12_digits_0 5 rfl) rfl (gin_c (mem_at i9wsX12_digits_0 6 rfl) rfl gin_n)) (goodIn_sub i9wsX12_digits_1 g9_16)))
set_option maxRecDepth 20000 in
theorem gX12_digits_X12_byteAt : GoodIn wsX12_digits (wsV RX12 247 RX12 yX12_byteAt wsX12_byteAt) := goodIn_app (gin_c (mem_at i9wsX12_digits_0 0 rfl) rfl (gin_c (mem_at i9wsX12_digits_0 1 rfl) rfl (gin_c (mem_at i9wsX12_digits_0 2 rfl) rfl (gin_c (mem_at i9wsX12_digits_0 3 rfl) rfl gin_n)))) ggX12_digits_X12_byteAt
set_option maxRecDepth 20000 in
theorem ggX12_digits_X12_isDigit : GoodIn wsX12_digits wsX12_isDigit := (gin_c (mem_at i9wsX12_digits_0 10 rfl) rfl gin_n)
set_option maxRecDepth 20000 in
theorem gX12_digits_X12_isDigit : GoodIn wsX12_digits (wsV RX12 253 RX12 yX12_isDigit wsX12_isDigit) := goodIn_app (gin_c (mem_at i9wsX12_digits_0 7 rfl) rfl (gin_c (mem_at i9wsX12_digits_0 8 rfl) rfl (gin_c (mem_at i9wsX12_digits_0 9 rfl) rfl (gin_c (mem_at i9wsX12_digits_0 3 rfl) rfl gin_n)))) ggX12_digits_X12_isDigit
set_option maxHeartbeats 4000000 in
set_option maxRecDepth 100000 in
theorem T_X12_digits (l : Launch) (hl : l.stackTraces = false) (D : va_G) (cA : Nat → ClassId) {l0 : Option Nat} {l1 : Int32} {x : HS} {Q : Int32 → HS → Prop} {X : String → HS → Prop} (h : w_X12_digits l0 l1 x Q X) : YI l yX12_digits wsX12_digits 1 21 D cA [.q l0, .i l1] x Q X := by
  refine YI.of (cc := cX12_digits) (maxL := 3) (ret := (some .int)) hl (by decide) rfl rfl (fun g B fr => ?_)
  have o := B.o
  have hb := B.hb
  have hts := B.hts
  have hown : g.s.vm.findClass RX12 = some g.m.cls := B.hown
  unfold w_X12_digits at h
  show KW g 3 0 [(0, .q l0), (1, .i l1)] [] x
  refine k_iload_n o hb dX12_digits_0 rfl 1 rfl ?_
  refine k_istore_n o hb dX12_digits_1 rfl rfl ?_
  refine KW.sub [1, 2, 0] rfl ?_
  refine wLoop_elim (M := fun (v4 : Int32) (x3 : HS) => KW g 3 2 [(0, .q l0), (1, .i l1), (2, .i v4)] [] x3) h ?_
  intro v4 x3 again1 ih2 h
  refine k_aload_n o hb dX12_digits_2 rfl 0 rfl ?_
  refine k_aload_n o hb dX12_digits_3 rfl 0 rfl ?_
  refine k_iload_n o hb dX12_digits_4 rfl 2 rfl ?_
  refine k_run_i o (fun _ _ q => q) (k_runV (ci := 12) (rc := (RX12, TX12, 57)) o hb B.hml hown hts rfl (by decide) (T_X12_byteAt g.l o.hl g.D g.cA h.2) (cwV 1 hts gX12_digits_X12_byteAt rfl rfl rfl (by decide +kernel) ⟨yle B.hR1 rfl, yle B.hR2 rfl⟩) h.1 rfl rfl (Nat.le_of_ble_eq_true rfl) dX12_digits_5) (fun v6 x5 h => ?_)
  refine k_run_i o (fun _ _ q => q) (k_runV (ci := 12) (rc := (RX12, TX12, 57)) o hb B.hml hown hts rfl (by decide) (T_X12_isDigit g.l o.hl g.D g.cA h.2) (cwV 1 hts gX12_digits_X12_isDigit rfl rfl rfl (by decide +kernel) ⟨yle B.hR1 rfl, yle B.hR2 rfl⟩) h.1 rfl rfl (Nat.le_of_ble_eq_true rfl) dX12_digits_8) (fun v8 x7 h => ?_)
  refine k_if_eq (tgt := 20) o hb dX12_digits_11 (by decide) h (fun h => ?_) (fun h => ?_)
  · skip
    refine k_iload_n o hb dX12_digits_20 rfl 2 rfl ?_
    refine k_iload_n o hb dX12_digits_21 rfl 1 rfl ?_
    refine k_isub o hb dX12_digits_22 ?_
    exact k_iret o hb B.hr fr dX12_digits_23 h
  · skip
    refine k_iinc (w := 1) o hb dX12_digits_14 2 rfl (by decide) rfl ?_
    refine k_goto (tgt := 2) o hb dX12_digits_17 (by decide) ?_
    exact KW.sub [1, 2, 0] rfl (ih2 (v4 + 1) x7 h)
theorem dX12_digits0_0 : decode cX12_digits0 0 = .ok (.aload_n 0, 1) := by decide +kernel
theorem dX12_digits0_1 : decode cX12_digits0 1 = .ok (.aload_n 0, 1) := by decide +kernel
theorem dX12_digits0_2 : decode cX12_digits0 2 = .ok (.getfield 244, 3) := by decide +kernel
theorem dX12_digits0_5 : decode cX12_digits0 5 = .ok (.invokevirtual 247, 3) := by decide +kernel
theorem dX12_digits0_8 : decode cX12_digits0 8 = .ok (.bipush 45, 2) := by decide +kernel
theorem dX12_digits0_10 : decode cX12_digits0 10 = .ok (.if_icmp .ne 7, 3) := by decide +kernel
theorem dX12_digits0_13 : decode cX12_digits0 13 = .ok (.iconst 1, 1) := by decide +kernel
theorem dX12_digits0_14 : decode cX12_digits0 14 = .ok (.goto 4, 3) := by decide +kernel
theorem dX12_digits0_17 : decode cX12_digits0 17 = .ok (.iconst 0, 1) := by decide +kernel
theorem dX12_digits0_18 : decode cX12_digits0 18 = .ok (.istore_n 1, 1) := by decide +kernel
theorem dX12_digits0_19 : decode cX12_digits0 19 = .ok (.iload_n 1, 1) := by decide +kernel
theorem dX12_digits0_20 : decode cX12_digits0 20 = .ok (.ifCond .eq 12, 3) := by decide +kernel
theorem dX12_digits0_23 : decode cX12_digits0 23 = .ok (.aload_n 0, 1) := by decide +kernel
theorem dX12_digits0_24 : decode cX12_digits0 24 = .ok (.getfield 244, 3) := by decide +kernel
theorem dX12_digits0_27 : decode cX12_digits0 27 = .ok (.iconst 1, 1) := by decide +kernel
theorem dX12_digits0_28 : decode cX12_digits0 28 = .ok (.iadd, 1) := by decide +kernel
theorem dX12_digits0_29 : decode cX12_digits0 29 = .ok (.goto 7, 3) := by decide +kernel
theorem dX12_digits0_32 : decode cX12_digits0 32 = .ok (.aload_n 0, 1) := by decide +kernel
theorem dX12_digits0_33 : decode cX12_digits0 33 = .ok (.getfield 244, 3) := by decide +kernel
theorem dX12_digits0_36 : decode cX12_digits0 36 = .ok (.istore_n 2, 1) := by decide +kernel
theorem dX12_digits0_37 : decode cX12_digits0 37 = .ok (.aload_n 0, 1) := by decide +kernel
theorem dX12_digits0_38 : decode cX12_digits0 38 = .ok (.iload_n 2, 1) := by decide +kernel
theorem dX12_digits0_39 : decode cX12_digits0 39 = .ok (.invokevirtual 256, 3) := by decide +kernel
theorem dX12_digits0_42 : decode cX12_digits0 42 = .ok (.istore_n 3, 1) := by decide +kernel
theorem dX12_digits0_43 : decode cX12_digits0 43 = .ok (.iload_n 3, 1) := by decide +kernel
theorem dX12_digits0_44 : decode cX12_digits0 44 = .ok (.iconst 1, 1) := by decide +kernel
theorem dX12_digits0_45 : decode cX12_digits0 45 = .ok (.if_icmp .lt 9, 3) := by decide +kernel
theorem dX12_digits0_48 : decode cX12_digits0 48 = .ok (.iload_n 3, 1) := by decide +kernel
theorem dX12_digits0_49 : decode cX12_digits0 49 = .ok (.bipush 9, 2) := by decide +kernel
theorem dX12_digits0_51 : decode cX12_digits0 51 = .ok (.if_icmp .le 5, 3) := by decide +kernel
theorem dX12_digits0_54 : decode cX12_digits0 54 = .ok (.iconst 0, 1) := by decide +kernel
theorem dX12_digits0_55 : decode cX12_digits0 55 = .ok (.ireturn, 1) := by decide +kernel
theorem dX12_digits0_56 : decode cX12_digits0 56 = .ok (.iconst 0, 1) := by decide +kernel
theorem dX12_digits0_57 : decode cX12_digits0 57 = .ok (.istore 4, 2) := by decide +kernel
theorem dX12_digits0_59 : decode cX12_digits0 59 = .ok (.iload_n 2, 1) := by decide +kernel
theorem dX12_digits0_60 : decode cX12_digits0 60 = .ok (.istore 5, 2) := by decide +kernel
theorem dX12_digits0_62 : decode cX12_digits0 62 = .ok (.iload 5, 2) := by decide +kernel
theorem dX12_digits0_64 : decode cX12_digits0 64 = .ok (.iload_n 2, 1) := by decide +kernel
theorem dX12_digits0_65 : decode cX12_digits0 65 = .ok (.iload_n 3, 1) := by decide +kernel
theorem dX12_digits0_66 : decode cX12_digits0 66 = .ok (.iadd, 1) := by decide +kernel
theorem dX12_digits0_67 : decode cX12_digits0 67 = .ok (.if_icmp .ge 26, 3) := by decide +kernel
theorem dX12_digits0_70 : decode cX12_digits0 70 = .ok (.bipush 10, 2) := by decide +kernel
theorem dX12_digits0_72 : decode cX12_digits0 72 = .ok (.iload 4, 2) := by decide +kernel
theorem dX12_digits0_74 : decode cX12_digits0 74 = .ok (.imul, 1) := by decide +kernel
theorem dX12_digits0_75 : decode cX12_digits0 75 = .ok (.aload_n 0, 1) := by decide +kernel
theorem dX12_digits0_76 : decode cX12_digits0 76 = .ok (.iload 5, 2) := by decide +kernel
theorem dX12_digits0_78 : decode cX12_digits0 78 = .ok (.invokevirtual 247, 3) := by decide +kernel
theorem dX12_digits0_81 : decode cX12_digits0 81 = .ok (.iadd, 1) := by decide +kernel
theorem dX12_digits0_82 : decode cX12_digits0 82 = .ok (.bipush 48, 2) := by decide +kernel
theorem dX12_digits0_84 : decode cX12_digits0 84 = .ok (.isub, 1) := by decide +kernel
theorem dX12_digits0_85 : decode cX12_digits0 85 = .ok (.istore 4, 2) := by decide +kernel
theorem dX12_digits0_87 : decode cX12_digits0 87 = .ok (.iinc 5 1, 3) := by decide +kernel
theorem dX12_digits0_90 : decode cX12_digits0 90 = .ok (.goto (-28), 3) := by decide +kernel
theorem dX12_digits0_93 : decode cX12_digits0 93 = .ok (.aload_n 0, 1) := by decide +kernel
theorem dX12_digits0_94 : decode cX12_digits0 94 = .ok (.iload_n 1, 1) := by decide +kernel
theorem dX12_digits0_95 : decode cX12_digits0 95 = .ok (.ifCond .eq 9, 3) := by decide +kernel
theorem dX12_digits0_98 : decode cX12_digits0 98 = .ok (.iload 4, 2) := by decide +kernel
theorem dX12_digits0_100 : decode cX12_digits0 100 = .ok (.ineg, 1) := by decide +kernel
theorem dX12_digits0_101 : decode cX12_digits0 101 = .ok (.goto 5, 3) := by decide +kernel
theorem dX12_digits0_104 : decode cX12_digits0 104 = .ok (.iload 4, 2) := by decide +kernel
theorem dX12_digits0_106 : decode cX12_digits0 106 = .ok (.putfield 259, 3) := by decide +kernel
theorem dX12_digits0_109 : decode cX12_digits0 109 = .ok (.aload_n 0, 1) := by decide +kernel
theorem dX12_digits0_110 : decode cX12_digits0 110 = .ok (.iload_n 2, 1) := by decide +kernel
theorem dX12_digits0_111 : decode cX12_digits0 111 = .ok (.iload_n 3, 1) := by decide +kernel
theorem dX12_digits0_112 : decode cX12_digits0 112 = .ok (.iadd, 1) := by decide +kernel
theorem dX12_digits0_113 : decode cX12_digits0 113 = .ok (.putfield 244, 3) := by decide +kernel
theorem dX12_digits0_116 : decode cX12_digits0 116 = .ok (.iconst 1, 1) := by decide +kernel
theorem dX12_digits0_117 : decode cX12_digits0 117 = .ok (.ireturn, 1) := by decide +kernel
theorem i9wsX12_digits0_0 : ∀ w ∈ ([.fieldLink RX12 244 "FactKeeperModel" "at" "I", .fieldLink RX12 259 "FactKeeperModel" "readNumber" "I", .methodLink RX12 247 yX12_byteAt, .instanceMethod yX12_byteAt, .selects RX12 yX12_byteAt yX12_byteAt, .initialized RX12, .code yX12_byteAt cX12_byteAt 2 (some .int), .fieldLink RX12 241 "FactKeeperModel" "length" "I", .fieldLink RX12 13 "FactKeeperModel" "tape" "[B", .methodLink RX12 256 yX12_digits, .instanceMethod yX12_digits, .selects RX12 yX12_digits yX12_digits, .code yX12_digits cX12_digits 3 (some .int), .methodLink RX12 253 yX12_isDigit, .instanceMethod yX12_isDigit, .selects RX12 yX12_isDigit yX12_isDigit, .code yX12_isDigit cX12_isDigit 2 (some .boolean)] : List Cond), w ∈ wsX12_digits0 := fun _ h => (List.mem_cons_of_mem _ (List.mem_append_left _ h))
theorem i9wsX12_digits0_1 : ∀ w ∈ wsX120, w ∈ wsX12_digits0 := fun _ h => (List.mem_cons_of_mem _ (List.mem_append_right _ h))
set_option maxRecDepth 20000 in
theorem ggX12_digits0_X12_byteAt : GoodIn wsX12_digits0 wsX12_byteAt := (gin_c (mem_at i9wsX12_digits0_0 6 rfl) rfl (goodIn_app (gin_c (mem_at i9wsX12_digits0_0 7 rfl) rfl (gin_c (mem_at i9wsX12_digits0_0 8 rfl) rfl gin_n)) (goodIn_sub i9wsX12_digits0_1 g9_16)))
set_option maxRecDepth 20000 in
theorem gX12_digits0_X12_byteAt : GoodIn wsX12_digits0 (wsV RX12 247 RX12 yX12_byteAt wsX12_byteAt) := goodIn_app (gin_c (mem_at i9wsX12_digits0_0 2 rfl) rfl (gin_c (mem_at i9wsX12_digits0_0 3 rfl) rfl (gin_c (mem_at i9wsX12_digits0_0 4 rfl) rfl (gin_c (mem_at i9wsX12_digits0_0 5 rfl) rfl gin_n)))) ggX12_digits0_X12_byteAt
set_option maxRecDepth 20000 in
theorem ggX12_digits0_X12_digits : GoodIn wsX12_digits0 wsX12_digits := (gin_c (mem_at i9wsX12_digits0_0 12 rfl) rfl (goodIn_app (gin_c (mem_at i9wsX12_digits0_0 2 rfl) rfl (gin_c (mem_at i9wsX12_digits0_0 3 rfl) rfl (gin_c (mem_at i9wsX12_digits0_0 4 rfl) rfl (gin_c (mem_at i9wsX12_digits0_0 5 rfl) rfl (gin_c (mem_at i9wsX12_digits0_0 6 rfl) rfl (gin_c (mem_at i9wsX12_digits0_0 7 rfl) rfl (gin_c (mem_at i9wsX12_digits0_0 8 rfl) rfl (gin_c (mem_at i9wsX12_digits0_0 13 rfl) rfl (gin_c (mem_at i9wsX12_digits0_0 14 rfl) rfl (gin_c (mem_at i9wsX12_digits0_0 15 rfl) rfl (gin_c (mem_at i9wsX12_digits0_0 16 rfl) rfl gin_n))))))))))) (goodIn_sub i9wsX12_digits0_1 g9_16)))
set_option maxRecDepth 20000 in
theorem gX12_digits0_X12_digits : GoodIn wsX12_digits0 (wsV RX12 256 RX12 yX12_digits wsX12_digits) := goodIn_app (gin_c (mem_at i9wsX12_digits0_0 9 rfl) rfl (gin_c (mem_at i9wsX12_digits0_0 10 rfl) rfl (gin_c (mem_at i9wsX12_digits0_0 11 rfl) rfl (gin_c (mem_at i9wsX12_digits0_0 5 rfl) rfl gin_n)))) ggX12_digits0_X12_digits
set_option maxHeartbeats 4000000 in
set_option maxRecDepth 100000 in
theorem T_X12_digits0 (l : Launch) (hl : l.stackTraces = false) (D : va_G) (cA : Nat → ClassId) {l0 : Option Nat} {x : HS} {Q : Int32 → HS → Prop} {X : String → HS → Prop} (h : w_X12_digits0 l0 x Q X) : YI l yX12_digits0 wsX12_digits0 2 43 D cA [.q l0] x Q X := by
  refine YI.of (cc := cX12_digits0) (maxL := 6) (ret := (some .boolean)) hl (by decide) rfl rfl (fun g B fr => ?_)
  have o := B.o
  have hb := B.hb
  have hts := B.hts
  have hown : g.s.vm.findClass RX12 = some g.m.cls := B.hown
  have in12 : ∀ w ∈ u_ws RX12 TX12 57, w ∈ wsX12_digits0 := fun w h => (List.mem_cons_of_mem _ (List.mem_append_right _ h))
  unfold w_X12_digits0 at h
  show KW g 6 0 [(0, .q l0)] [] x
  refine k_aload_n o hb dX12_digits0_0 rfl 0 rfl ?_
  refine k_aload_n o hb dX12_digits0_1 rfl 0 rfl ?_
  refine k_getI (C := RX12) (T := TX12) (N := 57) o hb hts in12 hown rfl (by decide) 41 (by decide) rfl (hts (.fieldLink RX12 244 "FactKeeperModel" "at" "I") (by decide +kernel)) (fun _ h9 => h9) dX12_digits0_2 h (fun v1 h => ?_)
  refine k_run_i o (fun _ _ q => q) (k_runV (ci := 12) (rc := (RX12, TX12, 57)) o hb B.hml hown hts rfl (by decide) (T_X12_byteAt g.l o.hl g.D g.cA h.2) (cwV 1 hts gX12_digits0_X12_byteAt rfl rfl rfl (by decide +kernel) ⟨yle B.hR1 rfl, yle B.hR2 rfl⟩) h.1 rfl rfl (Nat.le_of_ble_eq_true rfl) dX12_digits0_5) (fun v3 x2 h => ?_)
  refine k_bipush (v := 45) o hb dX12_digits0_8 (by decide) ?_
  refine wJoin_elim (M := fun K => ∀ (v6 : Int32) (x5 : HS), K v6 x5 → KW g 6 18 [(0, .q l0)] [.i v6] x5) h ?_ (fun j4 hj4 h => ?_)
  · skip
    intro v6 x5 h
    refine k_istore_n o hb dX12_digits0_18 rfl rfl ?_
    refine k_iload_n o hb dX12_digits0_19 rfl 0 rfl ?_
    refine wJoin_elim (M := fun K => ∀ (v9 : Int32) (x8 : HS), K v9 x8 → KW g 6 36 [(0, .q l0), (1, .i v6)] [.i v9] x8) h ?_ (fun j7 hj7 h => ?_)
    · skip
      intro v9 x8 h
      refine k_istore_n o hb dX12_digits0_36 rfl rfl ?_
      refine k_aload_n o hb dX12_digits0_37 rfl 1 rfl ?_
      refine k_iload_n o hb dX12_digits0_38 rfl 0 rfl ?_
      refine k_run_i o (fun _ _ q => q) (k_runV (ci := 12) (rc := (RX12, TX12, 57)) o hb B.hml hown hts rfl (by decide) (T_X12_digits g.l o.hl g.D g.cA h.2) (cwV 1 hts gX12_digits0_X12_digits rfl rfl rfl (by decide +kernel) ⟨yle B.hR1 rfl, yle B.hR2 rfl⟩) h.1 rfl rfl (Nat.le_of_ble_eq_true rfl) dX12_digits0_39) (fun v11 x10 h => ?_)
      refine k_istore_n o hb dX12_digits0_42 rfl rfl ?_
      refine k_iload_n o hb dX12_digits0_43 rfl 0 rfl ?_
      refine k_iconst (v := 1) o hb dX12_digits0_44 (by decide) ?_
      refine wJoin_elim (M := fun K => ∀  (x13 : HS), K  x13 → KW g 6 54 [] [] x13) h ?_ (fun j12 hj12 h => ?_)
      · skip
        intro  x13 h
        refine k_iconst (v := 0) o hb dX12_digits0_54 (by decide) ?_
        exact k_zret o hb B.hr fr dX12_digits0_55 h
      · skip
        refine k_icmp_lt (tgt := 54) o hb dX12_digits0_45 (by decide) h (fun h => ?_) (fun h => ?_)
        · skip
          exact KW.sub [] rfl (hj12 x10 h)
        · skip
          refine k_iload_n o hb dX12_digits0_48 rfl 0 rfl ?_
          refine k_bipush (v := 9) o hb dX12_digits0_49 (by decide) ?_
          refine k_icmp_le (tgt := 56) o hb dX12_digits0_51 (by decide) h (fun h => ?_) (fun h => ?_)
          · skip
            refine k_iconst (v := 0) o hb dX12_digits0_56 (by decide) ?_
            refine k_istore o hb dX12_digits0_57 rfl ?_
            refine k_iload_n o hb dX12_digits0_59 rfl 2 rfl ?_
            refine k_istore o hb dX12_digits0_60 rfl ?_
            refine KW.sub [4, 5, 3, 2, 1, 0] rfl ?_
            refine wLoop_elim (M := fun (v17 : Int32 × Int32) (x16 : HS) => KW g 6 62 [(0, .q l0), (1, .i v6), (2, .i v9), (3, .i v11), (4, .i v17.1), (5, .i v17.2)] [] x16) h ?_
            intro v17 x16 again14 ih15 h
            refine k_iload o hb dX12_digits0_62 5 rfl ?_
            refine k_iload_n o hb dX12_digits0_64 rfl 2 rfl ?_
            refine k_iload_n o hb dX12_digits0_65 rfl 3 rfl ?_
            refine k_iadd o hb dX12_digits0_66 ?_
            refine k_icmp_ge (tgt := 93) o hb dX12_digits0_67 (by decide) h (fun h => ?_) (fun h => ?_)
            · skip
              refine k_aload_n o hb dX12_digits0_93 rfl 0 rfl ?_
              refine k_iload_n o hb dX12_digits0_94 rfl 1 rfl ?_
              refine wJoin_elim (M := fun K => ∀ (v20 : Int32) (x19 : HS), K v20 x19 → KW g 6 106 [(0, .q l0), (2, .i v9), (3, .i v11)] [.i v20, .q l0] x19) h ?_ (fun j18 hj18 h => ?_)
              · skip
                intro v20 x19 h
                refine k_putI (C := RX12) (T := TX12) (N := 57) (ty := .int) o hb hts in12 tyX12 tyX12_ok nmX12 hown rfl (by decide) 43 (by decide) rfl (hts (.fieldLink RX12 259 "FactKeeperModel" "readNumber" "I") (by decide +kernel)) (fun _ h9 => h9) rfl (by decide +kernel) (fun _ => rfl) (fun _ => rfl) dX12_digits0_106 h (fun x21 h => ?_)
                refine k_aload_n o hb dX12_digits0_109 rfl 0 rfl ?_
                refine k_iload_n o hb dX12_digits0_110 rfl 1 rfl ?_
                refine k_iload_n o hb dX12_digits0_111 rfl 2 rfl ?_
                refine k_iadd o hb dX12_digits0_112 ?_
                refine k_putI (C := RX12) (T := TX12) (N := 57) (ty := .int) o hb hts in12 tyX12 tyX12_ok nmX12 hown rfl (by decide) 41 (by decide) rfl (hts (.fieldLink RX12 244 "FactKeeperModel" "at" "I") (by decide +kernel)) (fun _ h9 => h9) rfl (by decide +kernel) (fun _ => rfl) (fun _ => rfl) dX12_digits0_113 h (fun x22 h => ?_)
                refine k_iconst (v := 1) o hb dX12_digits0_116 (by decide) ?_
                exact k_zret o hb B.hr fr dX12_digits0_117 h
              · skip
                refine k_if_eq (tgt := 104) o hb dX12_digits0_95 (by decide) h (fun h => ?_) (fun h => ?_)
                · skip
                  refine k_iload o hb dX12_digits0_104 4 rfl ?_
                  exact KW.sub [0, 2, 3] rfl (hj18 v17.1 x16 h)
                · skip
                  refine k_iload o hb dX12_digits0_98 4 rfl ?_
                  refine k_ineg o hb dX12_digits0_100 ?_
                  refine k_goto (tgt := 106) o hb dX12_digits0_101 (by decide) ?_
                  exact KW.sub [0, 2, 3] rfl (hj18 (-v17.1) x16 h)
            · skip
              refine k_bipush (v := 10) o hb dX12_digits0_70 (by decide) ?_
              refine k_iload o hb dX12_digits0_72 4 rfl ?_
              refine k_imul o hb dX12_digits0_74 ?_
              refine k_aload_n o hb dX12_digits0_75 rfl 0 rfl ?_
              refine k_iload o hb dX12_digits0_76 5 rfl ?_
              refine k_run_i o (fun _ _ q => q) (k_runV (ci := 12) (rc := (RX12, TX12, 57)) o hb B.hml hown hts rfl (by decide) (T_X12_byteAt g.l o.hl g.D g.cA h.2) (cwV 1 hts gX12_digits0_X12_byteAt rfl rfl rfl (by decide +kernel) ⟨yle B.hR1 rfl, yle B.hR2 rfl⟩) h.1 rfl rfl (Nat.le_of_ble_eq_true rfl) dX12_digits0_78) (fun v24 x23 h => ?_)
              refine k_iadd o hb dX12_digits0_81 ?_
              refine k_bipush (v := 48) o hb dX12_digits0_82 (by decide) ?_
              refine k_isub o hb dX12_digits0_84 ?_
              refine k_istore o hb dX12_digits0_85 rfl ?_
              refine k_iinc (w := 1) o hb dX12_digits0_87 5 rfl (by decide) rfl ?_
              refine k_goto (tgt := 62) o hb dX12_digits0_90 (by decide) ?_
              exact KW.sub [2, 3, 4, 5, 1, 0] rfl (ih15 (((((10 : Int32) * v17.1) + v24) - 48), (v17.2 + 1)) x23 h)
          · skip
            exact KW.sub [] rfl (hj12 x10 h)
    · skip
      refine k_if_eq (tgt := 32) o hb dX12_digits0_20 (by decide) h (fun h => ?_) (fun h => ?_)
      · skip
        refine k_aload_n o hb dX12_digits0_32 rfl 1 rfl ?_
        refine k_getI (C := RX12) (T := TX12) (N := 57) o hb hts in12 hown rfl (by decide) 41 (by decide) rfl (hts (.fieldLink RX12 244 "FactKeeperModel" "at" "I") (by decide +kernel)) (fun _ h9 => h9) dX12_digits0_33 h (fun v25 h => ?_)
        exact KW.sub [1, 0] rfl (hj7 v25 x5 h)
      · skip
        refine k_aload_n o hb dX12_digits0_23 rfl 1 rfl ?_
        refine k_getI (C := RX12) (T := TX12) (N := 57) o hb hts in12 hown rfl (by decide) 41 (by decide) rfl (hts (.fieldLink RX12 244 "FactKeeperModel" "at" "I") (by decide +kernel)) (fun _ h9 => h9) dX12_digits0_24 h (fun v26 h => ?_)
        refine k_iconst (v := 1) o hb dX12_digits0_27 (by decide) ?_
        refine k_iadd o hb dX12_digits0_28 ?_
        refine k_goto (tgt := 36) o hb dX12_digits0_29 (by decide) ?_
        exact KW.sub [1, 0] rfl (hj7 (v26 + 1) x5 h)
  · skip
    refine k_icmp_ne (tgt := 17) o hb dX12_digits0_10 (by decide) h (fun h => ?_) (fun h => ?_)
    · skip
      refine k_iconst (v := 1) o hb dX12_digits0_13 (by decide) ?_
      refine k_goto (tgt := 18) o hb dX12_digits0_14 (by decide) ?_
      exact KW.sub [0] rfl (hj4 1 x2 h)
    · skip
      refine k_iconst (v := 0) o hb dX12_digits0_17 (by decide) ?_
      exact KW.sub [0] rfl (hj4 0 x2 h)
